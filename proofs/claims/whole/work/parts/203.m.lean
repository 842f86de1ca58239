theorem dX6_sortOf_0 : decode cX6_sortOf 0 = .ok (.aload_n 0, 1) := by decide +kernel
theorem dX6_sortOf_1 : decode cX6_sortOf 1 = .ok (.getfield 24, 3) := by decide +kernel
theorem dX6_sortOf_4 : decode cX6_sortOf 4 = .ok (.iload_n 1, 1) := by decide +kernel
theorem dX6_sortOf_5 : decode cX6_sortOf 5 = .ok (.iaload, 1) := by decide +kernel
theorem dX6_sortOf_6 : decode cX6_sortOf 6 = .ok (.ifCond .ne 5, 3) := by decide +kernel
theorem dX6_sortOf_9 : decode cX6_sortOf 9 = .ok (.iconst 0, 1) := by decide +kernel
theorem dX6_sortOf_10 : decode cX6_sortOf 10 = .ok (.ireturn, 1) := by decide +kernel
theorem dX6_sortOf_11 : decode cX6_sortOf 11 = .ok (.aload_n 0, 1) := by decide +kernel
theorem dX6_sortOf_12 : decode cX6_sortOf 12 = .ok (.iload_n 1, 1) := by decide +kernel
theorem dX6_sortOf_13 : decode cX6_sortOf 13 = .ok (.invokevirtual 87, 3) := by decide +kernel
theorem dX6_sortOf_16 : decode cX6_sortOf 16 = .ok (.ifCond .ne 5, 3) := by decide +kernel
theorem dX6_sortOf_19 : decode cX6_sortOf 19 = .ok (.iconst 1, 1) := by decide +kernel
theorem dX6_sortOf_20 : decode cX6_sortOf 20 = .ok (.ireturn, 1) := by decide +kernel
theorem dX6_sortOf_21 : decode cX6_sortOf 21 = .ok (.aload_n 0, 1) := by decide +kernel
theorem dX6_sortOf_22 : decode cX6_sortOf 22 = .ok (.iload_n 1, 1) := by decide +kernel
theorem dX6_sortOf_23 : decode cX6_sortOf 23 = .ok (.invokevirtual 90, 3) := by decide +kernel
theorem dX6_sortOf_26 : decode cX6_sortOf 26 = .ok (.ifCond .eq 5, 3) := by decide +kernel
theorem dX6_sortOf_29 : decode cX6_sortOf 29 = .ok (.iconst 2, 1) := by decide +kernel
theorem dX6_sortOf_30 : decode cX6_sortOf 30 = .ok (.ireturn, 1) := by decide +kernel
theorem dX6_sortOf_31 : decode cX6_sortOf 31 = .ok (.aload_n 0, 1) := by decide +kernel
theorem dX6_sortOf_32 : decode cX6_sortOf 32 = .ok (.getfield 15, 3) := by decide +kernel
theorem dX6_sortOf_35 : decode cX6_sortOf 35 = .ok (.iload_n 1, 1) := by decide +kernel
theorem dX6_sortOf_36 : decode cX6_sortOf 36 = .ok (.iaload, 1) := by decide +kernel
theorem dX6_sortOf_37 : decode cX6_sortOf 37 = .ok (.ifCond .ne 5, 3) := by decide +kernel
theorem dX6_sortOf_40 : decode cX6_sortOf 40 = .ok (.iconst 3, 1) := by decide +kernel
theorem dX6_sortOf_41 : decode cX6_sortOf 41 = .ok (.ireturn, 1) := by decide +kernel
theorem dX6_sortOf_42 : decode cX6_sortOf 42 = .ok (.aload_n 0, 1) := by decide +kernel
theorem dX6_sortOf_43 : decode cX6_sortOf 43 = .ok (.getfield 15, 3) := by decide +kernel
theorem dX6_sortOf_46 : decode cX6_sortOf 46 = .ok (.iload_n 1, 1) := by decide +kernel
theorem dX6_sortOf_47 : decode cX6_sortOf 47 = .ok (.iaload, 1) := by decide +kernel
theorem dX6_sortOf_48 : decode cX6_sortOf 48 = .ok (.iconst 1, 1) := by decide +kernel
theorem dX6_sortOf_49 : decode cX6_sortOf 49 = .ok (.if_icmp .ne 7, 3) := by decide +kernel
theorem dX6_sortOf_52 : decode cX6_sortOf 52 = .ok (.iconst 4, 1) := by decide +kernel
theorem dX6_sortOf_53 : decode cX6_sortOf 53 = .ok (.goto 4, 3) := by decide +kernel
theorem dX6_sortOf_56 : decode cX6_sortOf 56 = .ok (.iconst 5, 1) := by decide +kernel
theorem dX6_sortOf_57 : decode cX6_sortOf 57 = .ok (.ireturn, 1) := by decide +kernel
abbrev z_X6_sortOf_9 : Z9 := (some .int, 1, 0, 0, 2, 25)
def m_X6_sortOf_9 (p1 : Int) (d : D9) : Option R9 := ld d 14 30 p1 (fun t1 => if w32 t1 ≠ 0 then cl (m_X6_thick_9 p1 d) (fun r2 d3 => if w32 r2 ≠ 0 then cl (m_X6_isTurned_9 p1 d3) (fun r4 d5 => if w32 r4 = 0 then ld d5 11 30 p1 (fun t6 => if w32 t6 ≠ 0 then ld d5 11 30 p1 (fun t7 => if w32 t7 ≠ w32 1 then rt 5 d5 else rt 4 d5) else rt 3 d5) else rt 2 d5) else rt 1 d3) else rt 0 d)
set_option maxRecDepth 100000 in
theorem t_X6_sortOf_9 {G : G9} {l : Launch} (h1 : va_D (A9 G) (wl G (fun _ _ => 0))) (h2 : l.stackTraces = false) (p1 : Int) (d : D9) : MT G l yX6_sortOf cX6_sortOf 2 z_X6_sortOf_9 [rf G 9, i9 p1] d (m_X6_sortOf_9 p1 d) := by
  refine mt_of (own := RX6) (by decide) rfl (Nat.le_of_ble_eq_true rfl) h1 h2 [(0, rf G 9), (1, i9 p1)] rfl (fun X hX C => ?_)
  unfold m_X6_sortOf_9
  refine r_aload_n C 0 dX6_sortOf_0 rfl rfl ?_
  refine r_getR C 14 dX6_sortOf_1 fl_X6_24 la_9 ly_9 rfl rfl ?_
  refine r_iload_n C 1 dX6_sortOf_4 rfl rfl ?_
  refine r_iald C dX6_sortOf_5 la_14 ly_14 (fun t1 => ?_)
  refine r_if_ne C (b := 0) 11 dX6_sortOf_6 (by decide) (fun _ => ?_) (fun _ => ?_)
  · refine r_aload_n C 0 dX6_sortOf_11 rfl rfl ?_
    refine r_iload_n C 1 dX6_sortOf_12 rfl rfl ?_
    refine r_callV C [i9 p1, rf G 9] dX6_sortOf_13 (t_X6_thick_9 C.h1 C.h2 p1 d) mw_X6_87 mv_X6_thick la_9 ly_9 rfl (by decide) (by decide) (by decide) rfl rfl (Nat.le_of_ble_eq_true rfl) (fun r2 d3 => ?_)
    show SS G X 2 _ _ 16 [(0, rf G 9), (1, i9 p1)] [i9 r2] d3 _
    refine r_if_ne C (b := 0) 21 dX6_sortOf_16 (by decide) (fun _ => ?_) (fun _ => ?_)
    · refine r_aload_n C 0 dX6_sortOf_21 rfl rfl ?_
      refine r_iload_n C 1 dX6_sortOf_22 rfl rfl ?_
      refine r_callV C [i9 p1, rf G 9] dX6_sortOf_23 (t_X6_isTurned_9 C.h1 C.h2 p1 d3) mw_X6_90 mv_X6_isTurned la_9 ly_9 rfl (by decide) (by decide) (by decide) rfl rfl (Nat.le_of_ble_eq_true rfl) (fun r4 d5 => ?_)
      show SS G X 2 _ _ 26 [(0, rf G 9), (1, i9 p1)] [i9 r4] d5 _
      refine r_if_eq C (b := 0) 31 dX6_sortOf_26 (by decide) (fun _ => ?_) (fun _ => ?_)
      · refine r_aload_n C 0 dX6_sortOf_31 rfl rfl ?_
        refine r_getR C 11 dX6_sortOf_32 fl_X6_15 la_9 ly_9 rfl rfl ?_
        refine r_iload_n C 1 dX6_sortOf_35 rfl rfl ?_
        refine r_iald C dX6_sortOf_36 la_11 ly_11 (fun t6 => ?_)
        refine r_if_ne C (b := 0) 42 dX6_sortOf_37 (by decide) (fun _ => ?_) (fun _ => ?_)
        · refine r_aload_n C 0 dX6_sortOf_42 rfl rfl ?_
          refine r_getR C 11 dX6_sortOf_43 fl_X6_15 la_9 ly_9 rfl rfl ?_
          refine r_iload_n C 1 dX6_sortOf_46 rfl rfl ?_
          refine r_iald C dX6_sortOf_47 la_11 ly_11 (fun t7 => ?_)
          refine r_iconst C dX6_sortOf_48 ?_
          refine r_icmp_ne C 56 dX6_sortOf_49 (by decide) (fun _ => ?_) (fun _ => ?_)
          · refine r_iconst C dX6_sortOf_56 ?_
            exact r_iret C dX6_sortOf_57 (by decide) (by decide)
          · refine r_iconst C dX6_sortOf_52 ?_
            refine r_goto C 57 dX6_sortOf_53 (by decide) ?_
            exact r_iret C dX6_sortOf_57 (by decide) (by decide)
        · refine r_iconst C dX6_sortOf_40 ?_
          exact r_iret C dX6_sortOf_41 (by decide) (by decide)
      · refine r_iconst C dX6_sortOf_29 ?_
        exact r_iret C dX6_sortOf_30 (by decide) (by decide)
    · refine r_iconst C dX6_sortOf_19 ?_
      exact r_iret C dX6_sortOf_20 (by decide) (by decide)
  · refine r_iconst C dX6_sortOf_9 ?_
    exact r_iret C dX6_sortOf_10 (by decide) (by decide)
theorem dX6_outermost_0 : decode cX6_outermost 0 = .ok (.iload_n 1, 1) := by decide +kernel
theorem dX6_outermost_1 : decode cX6_outermost 1 = .ok (.iconst 4, 1) := by decide +kernel
theorem dX6_outermost_2 : decode cX6_outermost 2 = .ok (.imul, 1) := by decide +kernel
theorem dX6_outermost_3 : decode cX6_outermost 3 = .ok (.istore_n 2, 1) := by decide +kernel
theorem dX6_outermost_4 : decode cX6_outermost 4 = .ok (.iload_n 2, 1) := by decide +kernel
theorem dX6_outermost_5 : decode cX6_outermost 5 = .ok (.istore_n 3, 1) := by decide +kernel
theorem dX6_outermost_6 : decode cX6_outermost 6 = .ok (.iload_n 3, 1) := by decide +kernel
theorem dX6_outermost_7 : decode cX6_outermost 7 = .ok (.iload_n 2, 1) := by decide +kernel
theorem dX6_outermost_8 : decode cX6_outermost 8 = .ok (.aload_n 0, 1) := by decide +kernel
theorem dX6_outermost_9 : decode cX6_outermost 9 = .ok (.getfield 24, 3) := by decide +kernel
theorem dX6_outermost_12 : decode cX6_outermost 12 = .ok (.iload_n 1, 1) := by decide +kernel
theorem dX6_outermost_13 : decode cX6_outermost 13 = .ok (.iaload, 1) := by decide +kernel
theorem dX6_outermost_14 : decode cX6_outermost 14 = .ok (.iadd, 1) := by decide +kernel
theorem dX6_outermost_15 : decode cX6_outermost 15 = .ok (.if_icmp .ge 21, 3) := by decide +kernel
theorem dX6_outermost_18 : decode cX6_outermost 18 = .ok (.aload_n 0, 1) := by decide +kernel
theorem dX6_outermost_19 : decode cX6_outermost 19 = .ok (.getfield 42, 3) := by decide +kernel
theorem dX6_outermost_22 : decode cX6_outermost 22 = .ok (.iload_n 3, 1) := by decide +kernel
theorem dX6_outermost_23 : decode cX6_outermost 23 = .ok (.iaload, 1) := by decide +kernel
theorem dX6_outermost_24 : decode cX6_outermost 24 = .ok (.iconst (-1), 1) := by decide +kernel
theorem dX6_outermost_25 : decode cX6_outermost 25 = .ok (.if_icmp .eq 5, 3) := by decide +kernel
theorem dX6_outermost_28 : decode cX6_outermost 28 = .ok (.iload_n 3, 1) := by decide +kernel
theorem dX6_outermost_29 : decode cX6_outermost 29 = .ok (.ireturn, 1) := by decide +kernel
theorem dX6_outermost_30 : decode cX6_outermost 30 = .ok (.iinc 3 1, 3) := by decide +kernel
theorem dX6_outermost_33 : decode cX6_outermost 33 = .ok (.goto (-27), 3) := by decide +kernel
theorem dX6_outermost_36 : decode cX6_outermost 36 = .ok (.iload_n 2, 1) := by decide +kernel
theorem dX6_outermost_37 : decode cX6_outermost 37 = .ok (.ireturn, 1) := by decide +kernel
abbrev z_X6_outermost_9 : Z9 := (some .int, 1, 0, 0, 1, 0)
def b_X6_outermost_9_c6 (k_X6_outermost_9_c6 : Int → Int → Int → D9 → Option R9) (v1 v2 v3 : Int) (d : D9) : Option R9 := ld d 14 30 v1 (fun t1 => if w32 (v2 + t1) ≤ w32 v3 then rt v2 d else ld d 20 120 v3 (fun t2 => if w32 t2 = w32 (-1) then k_X6_outermost_9_c6 v1 v2 (v3 + 1) d else rt v3 d))
def m_X6_outermost_9_c6 : Int → Int → Int → D9 → Option R9 := fix9 (fun _ _ _ _ => none) (fun k => b_X6_outermost_9_c6 k) FU
def m_X6_outermost_9 (p1 : Int) (d : D9) : Option R9 := lt9v (p1 * 4) (fun a1 => m_X6_outermost_9_c6  p1 a1 a1 d)
set_option maxRecDepth 100000 in
theorem sb_X6_outermost_9_c6 {G : G9} {X : X9} (C : CX G X cX6_outermost 4 RX6 [] z_X6_outermost_9) (k_X6_outermost_9_c6 : Int → Int → Int → D9 → Option R9) (hk_X6_outermost_9_c6 : ∀ (v1 v2 v3 : Int) (d : D9), SS G X 4 0 0 6 [(0, rf G 9), (1, i9 v1), (2, i9 v2), (3, i9 v3)] [] d (k_X6_outermost_9_c6 v1 v2 v3 d)) : ∀ (v1 v2 v3 : Int) (d : D9), SS G X 4 0 0 6 [(0, rf G 9), (1, i9 v1), (2, i9 v2), (3, i9 v3)] [] d (b_X6_outermost_9_c6 k_X6_outermost_9_c6 v1 v2 v3 d) := by
  intro v1 v2 v3 d
  unfold b_X6_outermost_9_c6
  refine r_iload_n C 3 dX6_outermost_6 rfl rfl ?_
  refine r_iload_n C 2 dX6_outermost_7 rfl rfl ?_
  refine r_aload_n C 0 dX6_outermost_8 rfl rfl ?_
  refine r_getR C 14 dX6_outermost_9 fl_X6_24 la_9 ly_9 rfl rfl ?_
  refine r_iload_n C 1 dX6_outermost_12 rfl rfl ?_
  refine r_iald C dX6_outermost_13 la_14 ly_14 (fun t1 => ?_)
  refine r_iadd C dX6_outermost_14 ?_
  refine r_icmp_ge C 36 dX6_outermost_15 (by decide) (fun _ => ?_) (fun _ => ?_)
  · refine r_iload_n C 2 dX6_outermost_36 rfl rfl ?_
    exact r_iret C dX6_outermost_37 (by decide) (by decide)
  · refine r_aload_n C 0 dX6_outermost_18 rfl rfl ?_
    refine r_getR C 20 dX6_outermost_19 fl_X6_42 la_9 ly_9 rfl rfl ?_
    refine r_iload_n C 3 dX6_outermost_22 rfl rfl ?_
    refine r_iald C dX6_outermost_23 la_20 ly_20 (fun t2 => ?_)
    refine r_iconst C dX6_outermost_24 ?_
    refine r_icmp_eq C 30 dX6_outermost_25 (by decide) (fun _ => ?_) (fun _ => ?_)
    · refine r_iinc C 3 [(3, i9 (v3 + 1)), (0, rf G 9), (1, i9 v1), (2, i9 v2)] dX6_outermost_30 rfl (by decide) rfl ?_
      refine r_goto C 6 dX6_outermost_33 (by decide) ?_
      refine ss_wide (k' := 0) (n' := 0) (by decide) (by decide) ?_
      refine ss_ls [(0, rf G 9), (1, i9 v1), (2, i9 v2), (3, i9 (v3 + 1))] [1, 2, 3, 0] rfl ?_
      exact hk_X6_outermost_9_c6 v1 v2 (v3 + 1) d
    · refine r_iload_n C 3 dX6_outermost_28 rfl rfl ?_
      exact r_iret C dX6_outermost_29 (by decide) (by decide)
theorem s_X6_outermost_9_c6 {G : G9} {X : X9} (C : CX G X cX6_outermost 4 RX6 [] z_X6_outermost_9) : ∀ (v1 v2 v3 : Int) (d : D9), SS G X 4 0 0 6 [(0, rf G 9), (1, i9 v1), (2, i9 v2), (3, i9 v3)] [] d (m_X6_outermost_9_c6  v1 v2 v3 d) :=
  fix9_ind (P := fun k => ∀ (v1 v2 v3 : Int) (d : D9), SS G X 4 0 0 6 [(0, rf G 9), (1, i9 v1), (2, i9 v2), (3, i9 v3)] [] d (k v1 v2 v3 d)) (fun _ _ _ _ => ss_none) (fun k hk => sb_X6_outermost_9_c6 C k hk) FU
set_option maxRecDepth 100000 in
theorem t_X6_outermost_9 {G : G9} {l : Launch} (h1 : va_D (A9 G) (wl G (fun _ _ => 0))) (h2 : l.stackTraces = false) (p1 : Int) (d : D9) : MT G l yX6_outermost cX6_outermost 4 z_X6_outermost_9 [rf G 9, i9 p1] d (m_X6_outermost_9 p1 d) := by
  refine mt_of (own := RX6) (by decide) rfl (Nat.le_of_ble_eq_true rfl) h1 h2 [(0, rf G 9), (1, i9 p1)] rfl (fun X hX C => ?_)
  unfold m_X6_outermost_9
  refine r_iload_n C 1 dX6_outermost_0 rfl rfl ?_
  refine r_iconst C dX6_outermost_1 ?_
  refine r_imul C dX6_outermost_2 ?_
  refine ss_lt (fun a1 => ?_)
  refine r_istore_n C [(2, i9 a1), (0, rf G 9), (1, i9 p1)] dX6_outermost_3 rfl (by decide) rfl ?_
  refine r_iload_n C 0 dX6_outermost_4 rfl rfl ?_
  refine r_istore_n C [(3, i9 a1), (2, i9 a1), (0, rf G 9), (1, i9 p1)] dX6_outermost_5 rfl (by decide) rfl ?_
  refine ss_wide (k' := 0) (n' := 0) (by decide) (by decide) ?_
  refine ss_ls [(0, rf G 9), (1, i9 p1), (2, i9 a1), (3, i9 a1)] [2, 3, 1, 0] rfl ?_
  exact s_X6_outermost_9_c6 C  p1 a1 a1 d
theorem dX6_innermost_0 : decode cX6_innermost 0 = .ok (.iload_n 1, 1) := by decide +kernel
theorem dX6_innermost_1 : decode cX6_innermost 1 = .ok (.iconst 4, 1) := by decide +kernel
theorem dX6_innermost_2 : decode cX6_innermost 2 = .ok (.imul, 1) := by decide +kernel
theorem dX6_innermost_3 : decode cX6_innermost 3 = .ok (.istore_n 2, 1) := by decide +kernel
theorem dX6_innermost_4 : decode cX6_innermost 4 = .ok (.iload_n 2, 1) := by decide +kernel
theorem dX6_innermost_5 : decode cX6_innermost 5 = .ok (.aload_n 0, 1) := by decide +kernel
theorem dX6_innermost_6 : decode cX6_innermost 6 = .ok (.getfield 24, 3) := by decide +kernel
theorem dX6_innermost_9 : decode cX6_innermost 9 = .ok (.iload_n 1, 1) := by decide +kernel
theorem dX6_innermost_10 : decode cX6_innermost 10 = .ok (.iaload, 1) := by decide +kernel
theorem dX6_innermost_11 : decode cX6_innermost 11 = .ok (.iadd, 1) := by decide +kernel
theorem dX6_innermost_12 : decode cX6_innermost 12 = .ok (.iconst 1, 1) := by decide +kernel
theorem dX6_innermost_13 : decode cX6_innermost 13 = .ok (.isub, 1) := by decide +kernel
theorem dX6_innermost_14 : decode cX6_innermost 14 = .ok (.istore_n 3, 1) := by decide +kernel
theorem dX6_innermost_15 : decode cX6_innermost 15 = .ok (.iload_n 3, 1) := by decide +kernel
theorem dX6_innermost_16 : decode cX6_innermost 16 = .ok (.iload_n 2, 1) := by decide +kernel
theorem dX6_innermost_17 : decode cX6_innermost 17 = .ok (.if_icmp .le 21, 3) := by decide +kernel
theorem dX6_innermost_20 : decode cX6_innermost 20 = .ok (.aload_n 0, 1) := by decide +kernel
theorem dX6_innermost_21 : decode cX6_innermost 21 = .ok (.getfield 42, 3) := by decide +kernel
theorem dX6_innermost_24 : decode cX6_innermost 24 = .ok (.iload_n 3, 1) := by decide +kernel
theorem dX6_innermost_25 : decode cX6_innermost 25 = .ok (.iaload, 1) := by decide +kernel
theorem dX6_innermost_26 : decode cX6_innermost 26 = .ok (.iconst (-1), 1) := by decide +kernel
theorem dX6_innermost_27 : decode cX6_innermost 27 = .ok (.if_icmp .eq 5, 3) := by decide +kernel
theorem dX6_innermost_30 : decode cX6_innermost 30 = .ok (.iload_n 3, 1) := by decide +kernel
theorem dX6_innermost_31 : decode cX6_innermost 31 = .ok (.ireturn, 1) := by decide +kernel
theorem dX6_innermost_32 : decode cX6_innermost 32 = .ok (.iinc 3 (-1), 3) := by decide +kernel
theorem dX6_innermost_35 : decode cX6_innermost 35 = .ok (.goto (-20), 3) := by decide +kernel
theorem dX6_innermost_38 : decode cX6_innermost 38 = .ok (.iload_n 2, 1) := by decide +kernel
theorem dX6_innermost_39 : decode cX6_innermost 39 = .ok (.ireturn, 1) := by decide +kernel
abbrev z_X6_innermost_9 : Z9 := (some .int, 1, 0, 0, 1, 0)
def b_X6_innermost_9_c15 (k_X6_innermost_9_c15 : Int → Int → D9 → Option R9) (v2 v3 : Int) (d : D9) : Option R9 := if w32 v3 ≤ w32 v2 then rt v2 d else ld d 20 120 v3 (fun t1 => if w32 t1 = w32 (-1) then k_X6_innermost_9_c15 v2 (v3 + (-1)) d else rt v3 d)
def m_X6_innermost_9_c15 : Int → Int → D9 → Option R9 := fix9 (fun _ _ _ => none) (fun k => b_X6_innermost_9_c15 k) FU
def m_X6_innermost_9 (p1 : Int) (d : D9) : Option R9 := lt9v (p1 * 4) (fun a1 => ld d 14 30 p1 (fun t2 => lt9v ((a1 + t2) - 1) (fun a3 => m_X6_innermost_9_c15  a1 a3 d)))
set_option maxRecDepth 100000 in
theorem sb_X6_innermost_9_c15 {G : G9} {X : X9} (C : CX G X cX6_innermost 4 RX6 [] z_X6_innermost_9) (k_X6_innermost_9_c15 : Int → Int → D9 → Option R9) (hk_X6_innermost_9_c15 : ∀ (v2 v3 : Int) (d : D9), SS G X 4 0 0 15 [(0, rf G 9), (2, i9 v2), (3, i9 v3)] [] d (k_X6_innermost_9_c15 v2 v3 d)) : ∀ (v2 v3 : Int) (d : D9), SS G X 4 0 0 15 [(0, rf G 9), (2, i9 v2), (3, i9 v3)] [] d (b_X6_innermost_9_c15 k_X6_innermost_9_c15 v2 v3 d) := by
  intro v2 v3 d
  unfold b_X6_innermost_9_c15
  refine r_iload_n C 2 dX6_innermost_15 rfl rfl ?_
  refine r_iload_n C 1 dX6_innermost_16 rfl rfl ?_
  refine r_icmp_le C 38 dX6_innermost_17 (by decide) (fun _ => ?_) (fun _ => ?_)
  · refine r_iload_n C 1 dX6_innermost_38 rfl rfl ?_
    exact r_iret C dX6_innermost_39 (by decide) (by decide)
  · refine r_aload_n C 0 dX6_innermost_20 rfl rfl ?_
    refine r_getR C 20 dX6_innermost_21 fl_X6_42 la_9 ly_9 rfl rfl ?_
    refine r_iload_n C 2 dX6_innermost_24 rfl rfl ?_
    refine r_iald C dX6_innermost_25 la_20 ly_20 (fun t1 => ?_)
    refine r_iconst C dX6_innermost_26 ?_
    refine r_icmp_eq C 32 dX6_innermost_27 (by decide) (fun _ => ?_) (fun _ => ?_)
    · refine r_iinc C 2 [(3, i9 (v3 + (-1))), (0, rf G 9), (2, i9 v2)] dX6_innermost_32 rfl (by decide) rfl ?_
      refine r_goto C 15 dX6_innermost_35 (by decide) ?_
      refine ss_wide (k' := 0) (n' := 0) (by decide) (by decide) ?_
      refine ss_ls [(0, rf G 9), (2, i9 v2), (3, i9 (v3 + (-1)))] [1, 2, 0] rfl ?_
      exact hk_X6_innermost_9_c15 v2 (v3 + (-1)) d
    · refine r_iload_n C 2 dX6_innermost_30 rfl rfl ?_
      exact r_iret C dX6_innermost_31 (by decide) (by decide)
theorem s_X6_innermost_9_c15 {G : G9} {X : X9} (C : CX G X cX6_innermost 4 RX6 [] z_X6_innermost_9) : ∀ (v2 v3 : Int) (d : D9), SS G X 4 0 0 15 [(0, rf G 9), (2, i9 v2), (3, i9 v3)] [] d (m_X6_innermost_9_c15  v2 v3 d) :=
  fix9_ind (P := fun k => ∀ (v2 v3 : Int) (d : D9), SS G X 4 0 0 15 [(0, rf G 9), (2, i9 v2), (3, i9 v3)] [] d (k v2 v3 d)) (fun _ _ _ => ss_none) (fun k hk => sb_X6_innermost_9_c15 C k hk) FU
set_option maxRecDepth 100000 in
theorem t_X6_innermost_9 {G : G9} {l : Launch} (h1 : va_D (A9 G) (wl G (fun _ _ => 0))) (h2 : l.stackTraces = false) (p1 : Int) (d : D9) : MT G l yX6_innermost cX6_innermost 4 z_X6_innermost_9 [rf G 9, i9 p1] d (m_X6_innermost_9 p1 d) := by
  refine mt_of (own := RX6) (by decide) rfl (Nat.le_of_ble_eq_true rfl) h1 h2 [(0, rf G 9), (1, i9 p1)] rfl (fun X hX C => ?_)
  unfold m_X6_innermost_9
  refine r_iload_n C 1 dX6_innermost_0 rfl rfl ?_
  refine r_iconst C dX6_innermost_1 ?_
  refine r_imul C dX6_innermost_2 ?_
  refine ss_lt (fun a1 => ?_)
  refine r_istore_n C [(2, i9 a1), (0, rf G 9), (1, i9 p1)] dX6_innermost_3 rfl (by decide) rfl ?_
  refine r_iload_n C 0 dX6_innermost_4 rfl rfl ?_
  refine r_aload_n C 1 dX6_innermost_5 rfl rfl ?_
  refine r_getR C 14 dX6_innermost_6 fl_X6_24 la_9 ly_9 rfl rfl ?_
  refine r_iload_n C 2 dX6_innermost_9 rfl rfl ?_
  refine r_iald C dX6_innermost_10 la_14 ly_14 (fun t2 => ?_)
  refine r_iadd C dX6_innermost_11 ?_
  refine r_iconst C dX6_innermost_12 ?_
  refine r_isub C dX6_innermost_13 ?_
  refine ss_lt (fun a3 => ?_)
  refine r_istore_n C [(3, i9 a3), (2, i9 a1), (0, rf G 9), (1, i9 p1)] dX6_innermost_14 rfl (by decide) rfl ?_
  refine ss_wide (k' := 0) (n' := 0) (by decide) (by decide) ?_
  refine ss_ls [(0, rf G 9), (2, i9 a1), (3, i9 a3)] [2, 1, 0] rfl ?_
  exact s_X6_innermost_9_c15 C  a1 a3 d
theorem dX6_judge_0 : decode cX6_judge 0 = .ok (.aload_n 0, 1) := by decide +kernel
theorem dX6_judge_1 : decode cX6_judge 1 = .ok (.getfield 27, 3) := by decide +kernel
theorem dX6_judge_4 : decode cX6_judge 4 = .ok (.iload_n 1, 1) := by decide +kernel
theorem dX6_judge_5 : decode cX6_judge 5 = .ok (.aload_n 0, 1) := by decide +kernel
theorem dX6_judge_6 : decode cX6_judge 6 = .ok (.iload_n 1, 1) := by decide +kernel
theorem dX6_judge_7 : decode cX6_judge 7 = .ok (.invokevirtual 77, 3) := by decide +kernel
theorem dX6_judge_10 : decode cX6_judge 10 = .ok (.iastore, 1) := by decide +kernel
theorem dX6_judge_11 : decode cX6_judge 11 = .ok (.aload_n 0, 1) := by decide +kernel
theorem dX6_judge_12 : decode cX6_judge 12 = .ok (.getfield 30, 3) := by decide +kernel
theorem dX6_judge_15 : decode cX6_judge 15 = .ok (.iload_n 1, 1) := by decide +kernel
theorem dX6_judge_16 : decode cX6_judge 16 = .ok (.iconst (-1), 1) := by decide +kernel
theorem dX6_judge_17 : decode cX6_judge 17 = .ok (.iastore, 1) := by decide +kernel
theorem dX6_judge_18 : decode cX6_judge 18 = .ok (.aload_n 0, 1) := by decide +kernel
theorem dX6_judge_19 : decode cX6_judge 19 = .ok (.getfield 27, 3) := by decide +kernel
theorem dX6_judge_22 : decode cX6_judge 22 = .ok (.iload_n 1, 1) := by decide +kernel
theorem dX6_judge_23 : decode cX6_judge 23 = .ok (.iaload, 1) := by decide +kernel
theorem dX6_judge_24 : decode cX6_judge 24 = .ok (.iconst 4, 1) := by decide +kernel
theorem dX6_judge_25 : decode cX6_judge 25 = .ok (.if_icmp .ne 22, 3) := by decide +kernel
theorem dX6_judge_28 : decode cX6_judge 28 = .ok (.aload_n 0, 1) := by decide +kernel
theorem dX6_judge_29 : decode cX6_judge 29 = .ok (.getfield 30, 3) := by decide +kernel
theorem dX6_judge_32 : decode cX6_judge 32 = .ok (.iload_n 1, 1) := by decide +kernel
theorem dX6_judge_33 : decode cX6_judge 33 = .ok (.aload_n 0, 1) := by decide +kernel
theorem dX6_judge_34 : decode cX6_judge 34 = .ok (.getfield 42, 3) := by decide +kernel
theorem dX6_judge_37 : decode cX6_judge 37 = .ok (.aload_n 0, 1) := by decide +kernel
theorem dX6_judge_38 : decode cX6_judge 38 = .ok (.iload_n 1, 1) := by decide +kernel
theorem dX6_judge_39 : decode cX6_judge 39 = .ok (.invokevirtual 81, 3) := by decide +kernel
theorem dX6_judge_42 : decode cX6_judge 42 = .ok (.iaload, 1) := by decide +kernel
theorem dX6_judge_43 : decode cX6_judge 43 = .ok (.iastore, 1) := by decide +kernel
theorem dX6_judge_44 : decode cX6_judge 44 = .ok (.goto 29, 3) := by decide +kernel
theorem dX6_judge_47 : decode cX6_judge 47 = .ok (.aload_n 0, 1) := by decide +kernel
theorem dX6_judge_48 : decode cX6_judge 48 = .ok (.getfield 27, 3) := by decide +kernel
theorem dX6_judge_51 : decode cX6_judge 51 = .ok (.iload_n 1, 1) := by decide +kernel
theorem dX6_judge_52 : decode cX6_judge 52 = .ok (.iaload, 1) := by decide +kernel
theorem dX6_judge_53 : decode cX6_judge 53 = .ok (.iconst 5, 1) := by decide +kernel
theorem dX6_judge_54 : decode cX6_judge 54 = .ok (.if_icmp .ne 19, 3) := by decide +kernel
theorem dX6_judge_57 : decode cX6_judge 57 = .ok (.aload_n 0, 1) := by decide +kernel
theorem dX6_judge_58 : decode cX6_judge 58 = .ok (.getfield 30, 3) := by decide +kernel
theorem dX6_judge_61 : decode cX6_judge 61 = .ok (.iload_n 1, 1) := by decide +kernel
theorem dX6_judge_62 : decode cX6_judge 62 = .ok (.aload_n 0, 1) := by decide +kernel
theorem dX6_judge_63 : decode cX6_judge 63 = .ok (.getfield 45, 3) := by decide +kernel
theorem dX6_judge_66 : decode cX6_judge 66 = .ok (.aload_n 0, 1) := by decide +kernel
theorem dX6_judge_67 : decode cX6_judge 67 = .ok (.iload_n 1, 1) := by decide +kernel
theorem dX6_judge_68 : decode cX6_judge 68 = .ok (.invokevirtual 84, 3) := by decide +kernel
theorem dX6_judge_71 : decode cX6_judge 71 = .ok (.iaload, 1) := by decide +kernel
theorem dX6_judge_72 : decode cX6_judge 72 = .ok (.iastore, 1) := by decide +kernel
theorem dX6_judge_73 : decode cX6_judge 73 = .ok (.return_, 1) := by decide +kernel
abbrev z_X6_judge_9 : Z9 := (none, 0, 0, 0, 3, 46)
def m_X6_judge_9 (p1 : Int) (d : D9) : Option R9 := cl (m_X6_sortOf_9 p1 d) (fun r1 d2 => sd d2 15 30 p1 r1 (fun d3 => sd d3 16 30 p1 (-1) (fun d4 => ld d4 15 30 p1 (fun t5 => if w32 t5 ≠ w32 4 then ld d4 15 30 p1 (fun t6 => if w32 t6 ≠ w32 5 then rt 0 d4 else cl (m_X6_outermost_9 p1 d4) (fun r7 d8 => ld d8 21 120 r7 (fun t9 => sd d8 16 30 p1 t9 (fun d10 => rt 0 d10)))) else cl (m_X6_innermost_9 p1 d4) (fun r11 d12 => ld d12 20 120 r11 (fun t13 => sd d12 16 30 p1 t13 (fun d14 => rt 0 d14)))))))
set_option maxRecDepth 100000 in
theorem t_X6_judge_9 {G : G9} {l : Launch} (h1 : va_D (A9 G) (wl G (fun _ _ => 0))) (h2 : l.stackTraces = false) (p1 : Int) (d : D9) : MT G l yX6_judge cX6_judge 2 z_X6_judge_9 [rf G 9, i9 p1] d (m_X6_judge_9 p1 d) := by
  refine mt_of (own := RX6) (by decide) rfl (Nat.le_of_ble_eq_true rfl) h1 h2 [(0, rf G 9), (1, i9 p1)] rfl (fun X hX C => ?_)
  unfold m_X6_judge_9
  refine r_aload_n C 0 dX6_judge_0 rfl rfl ?_
  refine r_getR C 15 dX6_judge_1 fl_X6_27 la_9 ly_9 rfl rfl ?_
  refine r_iload_n C 1 dX6_judge_4 rfl rfl ?_
  refine r_aload_n C 0 dX6_judge_5 rfl rfl ?_
  refine r_iload_n C 1 dX6_judge_6 rfl rfl ?_
  refine r_callV C [i9 p1, rf G 9, i9 p1, rf G 15] dX6_judge_7 (t_X6_sortOf_9 C.h1 C.h2 p1 d) mw_X6_77 mv_X6_sortOf la_9 ly_9 rfl (by decide) (by decide) (by decide) rfl rfl (Nat.le_of_ble_eq_true rfl) (fun r1 d2 => ?_)
  show SS G X 2 _ _ 10 [(0, rf G 9), (1, i9 p1)] [i9 r1, i9 p1, rf G 15] d2 _
  refine r_iast C dX6_judge_10 la_15 ly_15 (fun d3 => ?_)
  refine r_aload_n C 0 dX6_judge_11 rfl rfl ?_
  refine r_getR C 16 dX6_judge_12 fl_X6_30 la_9 ly_9 rfl rfl ?_
  refine r_iload_n C 1 dX6_judge_15 rfl rfl ?_
  refine r_iconst C dX6_judge_16 ?_
  refine r_iast C dX6_judge_17 la_16 ly_16 (fun d4 => ?_)
  refine r_aload_n C 0 dX6_judge_18 rfl rfl ?_
  refine r_getR C 15 dX6_judge_19 fl_X6_27 la_9 ly_9 rfl rfl ?_
  refine r_iload_n C 1 dX6_judge_22 rfl rfl ?_
  refine r_iald C dX6_judge_23 la_15 ly_15 (fun t5 => ?_)
  refine r_iconst C dX6_judge_24 ?_
  refine r_icmp_ne C 47 dX6_judge_25 (by decide) (fun _ => ?_) (fun _ => ?_)
  · refine r_aload_n C 0 dX6_judge_47 rfl rfl ?_
    refine r_getR C 15 dX6_judge_48 fl_X6_27 la_9 ly_9 rfl rfl ?_
    refine r_iload_n C 1 dX6_judge_51 rfl rfl ?_
    refine r_iald C dX6_judge_52 la_15 ly_15 (fun t6 => ?_)
    refine r_iconst C dX6_judge_53 ?_
    refine r_icmp_ne C 73 dX6_judge_54 (by decide) (fun _ => ?_) (fun _ => ?_)
    · exact r_vret C dX6_judge_73 (by decide) (by decide)
    · refine r_aload_n C 0 dX6_judge_57 rfl rfl ?_
      refine r_getR C 16 dX6_judge_58 fl_X6_30 la_9 ly_9 rfl rfl ?_
      refine r_iload_n C 1 dX6_judge_61 rfl rfl ?_
      refine r_aload_n C 0 dX6_judge_62 rfl rfl ?_
      refine r_getR C 21 dX6_judge_63 fl_X6_45 la_9 ly_9 rfl rfl ?_
      refine r_aload_n C 0 dX6_judge_66 rfl rfl ?_
      refine r_iload_n C 1 dX6_judge_67 rfl rfl ?_
      refine r_callV C [i9 p1, rf G 9, rf G 21, i9 p1, rf G 16] dX6_judge_68 (t_X6_outermost_9 C.h1 C.h2 p1 d4) mw_X6_84 mv_X6_outermost la_9 ly_9 rfl (by decide) (by decide) (by decide) rfl rfl (Nat.le_of_ble_eq_true rfl) (fun r7 d8 => ?_)
      show SS G X 2 _ _ 71 [(0, rf G 9), (1, i9 p1)] [i9 r7, rf G 21, i9 p1, rf G 16] d8 _
      refine r_iald C dX6_judge_71 la_21 ly_21 (fun t9 => ?_)
      refine r_iast C dX6_judge_72 la_16 ly_16 (fun d10 => ?_)
      exact r_vret C dX6_judge_73 (by decide) (by decide)
  · refine r_aload_n C 0 dX6_judge_28 rfl rfl ?_
    refine r_getR C 16 dX6_judge_29 fl_X6_30 la_9 ly_9 rfl rfl ?_
    refine r_iload_n C 1 dX6_judge_32 rfl rfl ?_
    refine r_aload_n C 0 dX6_judge_33 rfl rfl ?_
    refine r_getR C 20 dX6_judge_34 fl_X6_42 la_9 ly_9 rfl rfl ?_
    refine r_aload_n C 0 dX6_judge_37 rfl rfl ?_
    refine r_iload_n C 1 dX6_judge_38 rfl rfl ?_
    refine r_callV C [i9 p1, rf G 9, rf G 20, i9 p1, rf G 16] dX6_judge_39 (t_X6_innermost_9 C.h1 C.h2 p1 d4) mw_X6_81 mv_X6_innermost la_9 ly_9 rfl (by decide) (by decide) (by decide) rfl rfl (Nat.le_of_ble_eq_true rfl) (fun r11 d12 => ?_)
    show SS G X 2 _ _ 42 [(0, rf G 9), (1, i9 p1)] [i9 r11, rf G 20, i9 p1, rf G 16] d12 _
    refine r_iald C dX6_judge_42 la_20 ly_20 (fun t13 => ?_)
    refine r_iast C dX6_judge_43 la_16 ly_16 (fun d14 => ?_)
    refine r_goto C 73 dX6_judge_44 (by decide) ?_
    exact r_vret C dX6_judge_73 (by decide) (by decide)
theorem dX6_addLayer_0 : decode cX6_addLayer 0 = .ok (.aload_n 0, 1) := by decide +kernel
theorem dX6_addLayer_1 : decode cX6_addLayer 1 = .ok (.getfield 24, 3) := by decide +kernel
theorem dX6_addLayer_4 : decode cX6_addLayer 4 = .ok (.iload_n 1, 1) := by decide +kernel
theorem dX6_addLayer_5 : decode cX6_addLayer 5 = .ok (.iaload, 1) := by decide +kernel
theorem dX6_addLayer_6 : decode cX6_addLayer 6 = .ok (.istore 6, 2) := by decide +kernel
theorem dX6_addLayer_8 : decode cX6_addLayer 8 = .ok (.iload 6, 2) := by decide +kernel
theorem dX6_addLayer_10 : decode cX6_addLayer 10 = .ok (.ifCond .lt 9, 3) := by decide +kernel
theorem dX6_addLayer_13 : decode cX6_addLayer 13 = .ok (.iload 6, 2) := by decide +kernel
theorem dX6_addLayer_15 : decode cX6_addLayer 15 = .ok (.iconst 4, 1) := by decide +kernel
theorem dX6_addLayer_16 : decode cX6_addLayer 16 = .ok (.if_icmp .lt 5, 3) := by decide +kernel
theorem dX6_addLayer_19 : decode cX6_addLayer 19 = .ok (.iconst (-1), 1) := by decide +kernel
theorem dX6_addLayer_20 : decode cX6_addLayer 20 = .ok (.ireturn, 1) := by decide +kernel
theorem dX6_addLayer_21 : decode cX6_addLayer 21 = .ok (.iload_n 1, 1) := by decide +kernel
theorem dX6_addLayer_22 : decode cX6_addLayer 22 = .ok (.iconst 4, 1) := by decide +kernel
theorem dX6_addLayer_23 : decode cX6_addLayer 23 = .ok (.imul, 1) := by decide +kernel
theorem dX6_addLayer_24 : decode cX6_addLayer 24 = .ok (.iload 6, 2) := by decide +kernel
theorem dX6_addLayer_26 : decode cX6_addLayer 26 = .ok (.iadd, 1) := by decide +kernel
theorem dX6_addLayer_27 : decode cX6_addLayer 27 = .ok (.istore 7, 2) := by decide +kernel
theorem dX6_addLayer_29 : decode cX6_addLayer 29 = .ok (.aload_n 0, 1) := by decide +kernel
theorem dX6_addLayer_30 : decode cX6_addLayer 30 = .ok (.getfield 33, 3) := by decide +kernel
theorem dX6_addLayer_33 : decode cX6_addLayer 33 = .ok (.iload 7, 2) := by decide +kernel
theorem dX6_addLayer_35 : decode cX6_addLayer 35 = .ok (.iload_n 2, 1) := by decide +kernel
theorem dX6_addLayer_36 : decode cX6_addLayer 36 = .ok (.iastore, 1) := by decide +kernel
theorem dX6_addLayer_37 : decode cX6_addLayer 37 = .ok (.aload_n 0, 1) := by decide +kernel
theorem dX6_addLayer_38 : decode cX6_addLayer 38 = .ok (.getfield 36, 3) := by decide +kernel
theorem dX6_addLayer_41 : decode cX6_addLayer 41 = .ok (.iload 7, 2) := by decide +kernel
theorem dX6_addLayer_43 : decode cX6_addLayer 43 = .ok (.iload_n 3, 1) := by decide +kernel
theorem dX6_addLayer_44 : decode cX6_addLayer 44 = .ok (.iastore, 1) := by decide +kernel
theorem dX6_addLayer_45 : decode cX6_addLayer 45 = .ok (.aload_n 0, 1) := by decide +kernel
theorem dX6_addLayer_46 : decode cX6_addLayer 46 = .ok (.getfield 39, 3) := by decide +kernel
theorem dX6_addLayer_49 : decode cX6_addLayer 49 = .ok (.iload 7, 2) := by decide +kernel
theorem dX6_addLayer_51 : decode cX6_addLayer 51 = .ok (.iload 4, 2) := by decide +kernel
theorem dX6_addLayer_53 : decode cX6_addLayer 53 = .ok (.iastore, 1) := by decide +kernel
theorem dX6_addLayer_54 : decode cX6_addLayer 54 = .ok (.aload_n 0, 1) := by decide +kernel
theorem dX6_addLayer_55 : decode cX6_addLayer 55 = .ok (.getfield 24, 3) := by decide +kernel
theorem dX6_addLayer_58 : decode cX6_addLayer 58 = .ok (.iload_n 1, 1) := by decide +kernel
theorem dX6_addLayer_59 : decode cX6_addLayer 59 = .ok (.dup2, 1) := by decide +kernel
theorem dX6_addLayer_60 : decode cX6_addLayer 60 = .ok (.iaload, 1) := by decide +kernel
theorem dX6_addLayer_61 : decode cX6_addLayer 61 = .ok (.iconst 1, 1) := by decide +kernel
theorem dX6_addLayer_62 : decode cX6_addLayer 62 = .ok (.iadd, 1) := by decide +kernel
theorem dX6_addLayer_63 : decode cX6_addLayer 63 = .ok (.iastore, 1) := by decide +kernel
theorem dX6_addLayer_64 : decode cX6_addLayer 64 = .ok (.aload_n 0, 1) := by decide +kernel
theorem dX6_addLayer_65 : decode cX6_addLayer 65 = .ok (.iload 7, 2) := by decide +kernel
theorem dX6_addLayer_67 : decode cX6_addLayer 67 = .ok (.aload 5, 2) := by decide +kernel
theorem dX6_addLayer_69 : decode cX6_addLayer 69 = .ok (.invokevirtual 56, 3) := by decide +kernel
theorem dX6_addLayer_72 : decode cX6_addLayer 72 = .ok (.aload_n 0, 1) := by decide +kernel
theorem dX6_addLayer_73 : decode cX6_addLayer 73 = .ok (.iload_n 1, 1) := by decide +kernel
theorem dX6_addLayer_74 : decode cX6_addLayer 74 = .ok (.invokevirtual 60, 3) := by decide +kernel
theorem dX6_addLayer_77 : decode cX6_addLayer 77 = .ok (.aload_n 0, 1) := by decide +kernel
theorem dX6_addLayer_78 : decode cX6_addLayer 78 = .ok (.getfield 24, 3) := by decide +kernel
theorem dX6_addLayer_81 : decode cX6_addLayer 81 = .ok (.iload_n 1, 1) := by decide +kernel
theorem dX6_addLayer_82 : decode cX6_addLayer 82 = .ok (.iaload, 1) := by decide +kernel
theorem dX6_addLayer_83 : decode cX6_addLayer 83 = .ok (.ireturn, 1) := by decide +kernel
abbrev z_X6_addLayer_9_22 : Z9 := (some .int, 1, 0, 0, 6, 155)
def m_X6_addLayer_9_22 (p1 p2 p3 p4 : Int) (d : D9) : Option R9 := ld d 14 30 p1 (fun t1 => if w32 t1 < 0 then rt (-1) d else if w32 t1 < w32 4 then lt9v ((p1 * 4) + t1) (fun a2 => sd d 17 120 a2 p2 (fun d3 => sd d3 18 120 a2 p3 (fun d4 => sd d4 19 120 a2 p4 (fun d5 => ld d5 14 30 p1 (fun t6 => sd d5 14 30 p1 (t6 + 1) (fun d7 => cl (m_X6_clockCell_9_22 a2 d7) (fun r8 d9 => cl (m_X6_judge_9 p1 d9) (fun r10 d11 => ld d11 14 30 p1 (fun t12 => rt t12 d11))))))))) else rt (-1) d)
set_option maxRecDepth 100000 in
theorem t_X6_addLayer_9_22 {G : G9} {l : Launch} (h1 : va_D (A9 G) (wl G (fun _ _ => 0))) (h2 : l.stackTraces = false) (p1 p2 p3 p4 : Int) (d : D9) : MT G l yX6_addLayer cX6_addLayer 8 z_X6_addLayer_9_22 [rf G 9, i9 p1, i9 p2, i9 p3, i9 p4, rf G 22] d (m_X6_addLayer_9_22 p1 p2 p3 p4 d) := by
  refine mt_of (own := RX6) (by decide) rfl (Nat.le_of_ble_eq_true rfl) h1 h2 [(0, rf G 9), (1, i9 p1), (2, i9 p2), (3, i9 p3), (4, i9 p4), (5, rf G 22)] rfl (fun X hX C => ?_)
  unfold m_X6_addLayer_9_22
  refine r_aload_n C 0 dX6_addLayer_0 rfl rfl ?_
  refine r_getR C 14 dX6_addLayer_1 fl_X6_24 la_9 ly_9 rfl rfl ?_
  refine r_iload_n C 1 dX6_addLayer_4 rfl rfl ?_
  refine r_iald C dX6_addLayer_5 la_14 ly_14 (fun t1 => ?_)
  refine r_istore C [(6, i9 t1), (0, rf G 9), (1, i9 p1), (2, i9 p2), (3, i9 p3), (4, i9 p4), (5, rf G 22)] dX6_addLayer_6 (by decide) rfl ?_
  refine r_iload C 0 dX6_addLayer_8 rfl ?_
  refine r_if_lt C (b := 0) 19 dX6_addLayer_10 (by decide) (fun _ => ?_) (fun _ => ?_)
  · refine r_iconst C dX6_addLayer_19 ?_
    exact r_iret C dX6_addLayer_20 (by decide) (by decide)
  · refine r_iload C 0 dX6_addLayer_13 rfl ?_
    refine r_iconst C dX6_addLayer_15 ?_
    refine r_icmp_lt C 21 dX6_addLayer_16 (by decide) (fun _ => ?_) (fun _ => ?_)
    · refine r_iload_n C 2 dX6_addLayer_21 rfl rfl ?_
      refine r_iconst C dX6_addLayer_22 ?_
      refine r_imul C dX6_addLayer_23 ?_
      refine r_iload C 0 dX6_addLayer_24 rfl ?_
      refine r_iadd C dX6_addLayer_26 ?_
      refine ss_lt (fun a2 => ?_)
      refine r_istore C [(7, i9 a2), (6, i9 t1), (0, rf G 9), (1, i9 p1), (2, i9 p2), (3, i9 p3), (4, i9 p4), (5, rf G 22)] dX6_addLayer_27 (by decide) rfl ?_
      refine r_aload_n C 2 dX6_addLayer_29 rfl rfl ?_
      refine r_getR C 17 dX6_addLayer_30 fl_X6_33 la_9 ly_9 rfl rfl ?_
      refine r_iload C 0 dX6_addLayer_33 rfl ?_
      refine r_iload_n C 4 dX6_addLayer_35 rfl rfl ?_
      refine r_iast C dX6_addLayer_36 la_17 ly_17 (fun d3 => ?_)
      refine r_aload_n C 2 dX6_addLayer_37 rfl rfl ?_
      refine r_getR C 18 dX6_addLayer_38 fl_X6_36 la_9 ly_9 rfl rfl ?_
      refine r_iload C 0 dX6_addLayer_41 rfl ?_
      refine r_iload_n C 5 dX6_addLayer_43 rfl rfl ?_
      refine r_iast C dX6_addLayer_44 la_18 ly_18 (fun d4 => ?_)
      refine r_aload_n C 2 dX6_addLayer_45 rfl rfl ?_
      refine r_getR C 19 dX6_addLayer_46 fl_X6_39 la_9 ly_9 rfl rfl ?_
      refine r_iload C 0 dX6_addLayer_49 rfl ?_
      refine r_iload C 6 dX6_addLayer_51 rfl ?_
      refine r_iast C dX6_addLayer_53 la_19 ly_19 (fun d5 => ?_)
      refine r_aload_n C 2 dX6_addLayer_54 rfl rfl ?_
      refine r_getR C 14 dX6_addLayer_55 fl_X6_24 la_9 ly_9 rfl rfl ?_
      refine r_iload_n C 3 dX6_addLayer_58 rfl rfl ?_
      refine r_dup2 C dX6_addLayer_59 rfl rfl ?_
      refine r_iald C dX6_addLayer_60 la_14 ly_14 (fun t6 => ?_)
      refine r_iconst C dX6_addLayer_61 ?_
      refine r_iadd C dX6_addLayer_62 ?_
      refine r_iast C dX6_addLayer_63 la_14 ly_14 (fun d7 => ?_)
      refine r_aload_n C 2 dX6_addLayer_64 rfl rfl ?_
      refine r_iload C 0 dX6_addLayer_65 rfl ?_
      refine r_aload C 7 dX6_addLayer_67 rfl ?_
      refine r_callV C [rf G 22, i9 a2, rf G 9] dX6_addLayer_69 (t_X6_clockCell_9_22 C.h1 C.h2 a2 d7) mw_X6_56 mv_X6_clockCell la_9 ly_9 rfl (by decide) (by decide) (by decide) rfl rfl (Nat.le_of_ble_eq_true rfl) (fun r8 d9 => ?_)
      show SS G X 8 _ _ 72 [(7, i9 a2), (6, i9 t1), (0, rf G 9), (1, i9 p1), (2, i9 p2), (3, i9 p3), (4, i9 p4), (5, rf G 22)] [] d9 _
      refine r_aload_n C 2 dX6_addLayer_72 rfl rfl ?_
      refine r_iload_n C 3 dX6_addLayer_73 rfl rfl ?_
      refine r_callV C [i9 p1, rf G 9] dX6_addLayer_74 (t_X6_judge_9 C.h1 C.h2 p1 d9) mw_X6_60 mv_X6_judge la_9 ly_9 rfl (by decide) (by decide) (by decide) rfl rfl (Nat.le_of_ble_eq_true rfl) (fun r10 d11 => ?_)
      show SS G X 8 _ _ 77 [(7, i9 a2), (6, i9 t1), (0, rf G 9), (1, i9 p1), (2, i9 p2), (3, i9 p3), (4, i9 p4), (5, rf G 22)] [] d11 _
      refine r_aload_n C 2 dX6_addLayer_77 rfl rfl ?_
      refine r_getR C 14 dX6_addLayer_78 fl_X6_24 la_9 ly_9 rfl rfl ?_
      refine r_iload_n C 3 dX6_addLayer_81 rfl rfl ?_
      refine r_iald C dX6_addLayer_82 la_14 ly_14 (fun t12 => ?_)
      exact r_iret C dX6_addLayer_83 (by decide) (by decide)
    · refine r_iconst C dX6_addLayer_19 ?_
      exact r_iret C dX6_addLayer_20 (by decide) (by decide)
theorem dX11_drip_0 : decode cX11_drip 0 = .ok (.aload_n 0, 1) := by decide +kernel
theorem dX11_drip_1 : decode cX11_drip 1 = .ok (.iload_n 1, 1) := by decide +kernel
theorem dX11_drip_2 : decode cX11_drip 2 = .ok (.invokevirtual 131, 3) := by decide +kernel
theorem dX11_drip_5 : decode cX11_drip 5 = .ok (.iload_n 2, 1) := by decide +kernel
theorem dX11_drip_6 : decode cX11_drip 6 = .ok (.iload_n 3, 1) := by decide +kernel
theorem dX11_drip_7 : decode cX11_drip 7 = .ok (.iload 4, 2) := by decide +kernel
theorem dX11_drip_9 : decode cX11_drip 9 = .ok (.iload 5, 2) := by decide +kernel
theorem dX11_drip_11 : decode cX11_drip 11 = .ok (.invokestatic 245, 3) := by decide +kernel
theorem dX11_drip_14 : decode cX11_drip 14 = .ok (.aload_n 0, 1) := by decide +kernel
theorem dX11_drip_15 : decode cX11_drip 15 = .ok (.getfield 10, 3) := by decide +kernel
theorem dX11_drip_18 : decode cX11_drip 18 = .ok (.getfield 122, 3) := by decide +kernel
theorem dX11_drip_21 : decode cX11_drip 21 = .ok (.getfield 134, 3) := by decide +kernel
theorem dX11_drip_24 : decode cX11_drip 24 = .ok (.iload_n 1, 1) := by decide +kernel
theorem dX11_drip_25 : decode cX11_drip 25 = .ok (.iaload, 1) := by decide +kernel
theorem dX11_drip_26 : decode cX11_drip 26 = .ok (.iconst 4, 1) := by decide +kernel
theorem dX11_drip_27 : decode cX11_drip 27 = .ok (.if_icmp .lt 5, 3) := by decide +kernel
theorem dX11_drip_30 : decode cX11_drip 30 = .ok (.iconst (-1), 1) := by decide +kernel
theorem dX11_drip_31 : decode cX11_drip 31 = .ok (.ireturn, 1) := by decide +kernel
theorem dX11_drip_32 : decode cX11_drip 32 = .ok (.aload_n 0, 1) := by decide +kernel
theorem dX11_drip_33 : decode cX11_drip 33 = .ok (.getfield 10, 3) := by decide +kernel
theorem dX11_drip_36 : decode cX11_drip 36 = .ok (.getfield 137, 3) := by decide +kernel
theorem dX11_drip_39 : decode cX11_drip 39 = .ok (.aload_n 0, 1) := by decide +kernel
theorem dX11_drip_40 : decode cX11_drip 40 = .ok (.getfield 10, 3) := by decide +kernel
theorem dX11_drip_43 : decode cX11_drip 43 = .ok (.getfield 137, 3) := by decide +kernel
theorem dX11_drip_46 : decode cX11_drip 46 = .ok (.iload_n 2, 1) := by decide +kernel
theorem dX11_drip_47 : decode cX11_drip 47 = .ok (.iload_n 3, 1) := by decide +kernel
theorem dX11_drip_48 : decode cX11_drip 48 = .ok (.iload 4, 2) := by decide +kernel
theorem dX11_drip_50 : decode cX11_drip 50 = .ok (.iload 5, 2) := by decide +kernel
theorem dX11_drip_52 : decode cX11_drip 52 = .ok (.invokevirtual 249, 3) := by decide +kernel
theorem dX11_drip_55 : decode cX11_drip 55 = .ok (.sipush 1000, 3) := by decide +kernel
theorem dX11_drip_58 : decode cX11_drip 58 = .ok (.idiv, 1) := by decide +kernel
theorem dX11_drip_59 : decode cX11_drip 59 = .ok (.iload 6, 2) := by decide +kernel
theorem dX11_drip_61 : decode cX11_drip 61 = .ok (.invokevirtual 252, 3) := by decide +kernel
theorem dX11_drip_64 : decode cX11_drip 64 = .ok (.istore 7, 2) := by decide +kernel
theorem dX11_drip_66 : decode cX11_drip 66 = .ok (.aload_n 0, 1) := by decide +kernel
theorem dX11_drip_67 : decode cX11_drip 67 = .ok (.getfield 10, 3) := by decide +kernel
theorem dX11_drip_70 : decode cX11_drip 70 = .ok (.getfield 122, 3) := by decide +kernel
theorem dX11_drip_73 : decode cX11_drip 73 = .ok (.iload_n 1, 1) := by decide +kernel
theorem dX11_drip_74 : decode cX11_drip 74 = .ok (.iload 7, 2) := by decide +kernel
theorem dX11_drip_76 : decode cX11_drip 76 = .ok (.iload_n 3, 1) := by decide +kernel
theorem dX11_drip_77 : decode cX11_drip 77 = .ok (.iload 4, 2) := by decide +kernel
theorem dX11_drip_79 : decode cX11_drip 79 = .ok (.aload_n 0, 1) := by decide +kernel
theorem dX11_drip_80 : decode cX11_drip 80 = .ok (.getfield 10, 3) := by decide +kernel
theorem dX11_drip_83 : decode cX11_drip 83 = .ok (.getfield 137, 3) := by decide +kernel
theorem dX11_drip_86 : decode cX11_drip 86 = .ok (.invokevirtual 140, 3) := by decide +kernel
theorem dX11_drip_89 : decode cX11_drip 89 = .ok (.pop, 1) := by decide +kernel
theorem dX11_drip_90 : decode cX11_drip 90 = .ok (.iload 7, 2) := by decide +kernel
theorem dX11_drip_92 : decode cX11_drip 92 = .ok (.ireturn, 1) := by decide +kernel
abbrev z_X11_drip_0 : Z9 := (some .int, 1, 5, 30, 8, 182)
def m_X11_drip_0 (p1 p2 p3 p4 p5 p6 : Int) (d : D9) : Option R9 := cl (m_X11_askSkin_0 p1 d) (fun r1 d2 => cl (m_X11_askDrip p2 p3 p4 p5 d2) (fun r3 d4 => ld d4 14 30 p1 (fun t5 => if w32 t5 < w32 4 then cl (m_X2_grownBy_22 p2 p3 p4 p5 d4) (fun r6 d7 => cl (m_X2_drawn_22 (div9 r6 1000) p6 d7) (fun r8 d9 => cl (m_X6_addLayer_9_22 p1 r8 p3 p4 d9) (fun r10 d11 => rt r8 d11))) else rt (-1) d4)))
set_option maxRecDepth 100000 in
theorem t_X11_drip_0 {G : G9} {l : Launch} (h1 : va_D (A9 G) (wl G (fun _ _ => 0))) (h2 : l.stackTraces = false) (p1 p2 p3 p4 p5 p6 : Int) (d : D9) : MT G l yX11_drip cX11_drip 8 z_X11_drip_0 [rf G 0, i9 p1, i9 p2, i9 p3, i9 p4, i9 p5, i9 p6] d (m_X11_drip_0 p1 p2 p3 p4 p5 p6 d) := by
  refine mt_of (own := RX11) (by decide) rfl (Nat.le_of_ble_eq_true rfl) h1 h2 [(0, rf G 0), (1, i9 p1), (2, i9 p2), (3, i9 p3), (4, i9 p4), (5, i9 p5), (6, i9 p6)] rfl (fun X hX C => ?_)
  unfold m_X11_drip_0
  refine r_aload_n C 0 dX11_drip_0 rfl rfl ?_
  refine r_iload_n C 1 dX11_drip_1 rfl rfl ?_
  refine r_callV C [i9 p1, rf G 0] dX11_drip_2 (t_X11_askSkin_0 C.h1 C.h2 p1 d) mw_X11_131 mv_X11_askSkin la_0 ly_0 rfl (by decide) (by decide) (by decide) rfl rfl (Nat.le_of_ble_eq_true rfl) (fun r1 d2 => ?_)
  show SS G X 8 _ _ 5 [(0, rf G 0), (1, i9 p1), (2, i9 p2), (3, i9 p3), (4, i9 p4), (5, i9 p5), (6, i9 p6)] [] d2 _
  refine r_iload_n C 2 dX11_drip_5 rfl rfl ?_
  refine r_iload_n C 3 dX11_drip_6 rfl rfl ?_
  refine r_iload C 4 dX11_drip_7 rfl ?_
  refine r_iload C 5 dX11_drip_9 rfl ?_
  refine r_callS C [i9 p5, i9 p4, i9 p3, i9 p2] dX11_drip_11 (t_X11_askDrip C.h1 C.h2 p2 p3 p4 p5 d2) mw_X11_245 ms_X11_askDrip (by decide) (by decide) (by decide) rfl rfl (Nat.le_of_ble_eq_true rfl) (fun r3 d4 => ?_)
  show SS G X 8 _ _ 14 [(0, rf G 0), (1, i9 p1), (2, i9 p2), (3, i9 p3), (4, i9 p4), (5, i9 p5), (6, i9 p6)] [] d4 _
  refine r_aload_n C 0 dX11_drip_14 rfl rfl ?_
  refine r_getR C 1 dX11_drip_15 fl_X11_10 la_0 ly_0 rfl rfl ?_
  refine r_getR C 9 dX11_drip_18 fl_X11_122 la_1 ly_1 rfl rfl ?_
  refine r_getR C 14 dX11_drip_21 fl_X11_134 la_9 ly_9 rfl rfl ?_
  refine r_iload_n C 1 dX11_drip_24 rfl rfl ?_
  refine r_iald C dX11_drip_25 la_14 ly_14 (fun t5 => ?_)
  refine r_iconst C dX11_drip_26 ?_
  refine r_icmp_lt C 32 dX11_drip_27 (by decide) (fun _ => ?_) (fun _ => ?_)
  · refine r_aload_n C 0 dX11_drip_32 rfl rfl ?_
    refine r_getR C 1 dX11_drip_33 fl_X11_10 la_0 ly_0 rfl rfl ?_
    refine r_getR C 22 dX11_drip_36 fl_X11_137 la_1 ly_1 rfl rfl ?_
    refine r_aload_n C 0 dX11_drip_39 rfl rfl ?_
    refine r_getR C 1 dX11_drip_40 fl_X11_10 la_0 ly_0 rfl rfl ?_
    refine r_getR C 22 dX11_drip_43 fl_X11_137 la_1 ly_1 rfl rfl ?_
    refine r_iload_n C 2 dX11_drip_46 rfl rfl ?_
    refine r_iload_n C 3 dX11_drip_47 rfl rfl ?_
    refine r_iload C 4 dX11_drip_48 rfl ?_
    refine r_iload C 5 dX11_drip_50 rfl ?_
    refine r_callV C [i9 p5, i9 p4, i9 p3, i9 p2, rf G 22, rf G 22] dX11_drip_52 (t_X2_grownBy_22 C.h1 C.h2 p2 p3 p4 p5 d4) mw_X11_249 mv_X2_grownBy la_22 ly_22 rfl (by decide) (by decide) (by decide) rfl rfl (Nat.le_of_ble_eq_true rfl) (fun r6 d7 => ?_)
    show SS G X 8 _ _ 55 [(0, rf G 0), (1, i9 p1), (2, i9 p2), (3, i9 p3), (4, i9 p4), (5, i9 p5), (6, i9 p6)] [i9 r6, rf G 22] d7 _
    refine r_sipush C dX11_drip_55 rfl ?_
    refine r_idiv C dX11_drip_58 (by decide) ?_
    refine r_iload C 6 dX11_drip_59 rfl ?_
    refine r_callV C [i9 p6, i9 (div9 r6 1000), rf G 22] dX11_drip_61 (t_X2_drawn_22 C.h1 C.h2 (div9 r6 1000) p6 d7) mw_X11_252 mv_X2_drawn la_22 ly_22 rfl (by decide) (by decide) (by decide) rfl rfl (Nat.le_of_ble_eq_true rfl) (fun r8 d9 => ?_)
    show SS G X 8 _ _ 64 [(0, rf G 0), (1, i9 p1), (2, i9 p2), (3, i9 p3), (4, i9 p4), (5, i9 p5), (6, i9 p6)] [i9 r8] d9 _
    refine r_istore C [(7, i9 r8), (0, rf G 0), (1, i9 p1), (2, i9 p2), (3, i9 p3), (4, i9 p4), (5, i9 p5), (6, i9 p6)] dX11_drip_64 (by decide) rfl ?_
    refine r_aload_n C 1 dX11_drip_66 rfl rfl ?_
    refine r_getR C 1 dX11_drip_67 fl_X11_10 la_0 ly_0 rfl rfl ?_
    refine r_getR C 9 dX11_drip_70 fl_X11_122 la_1 ly_1 rfl rfl ?_
    refine r_iload_n C 2 dX11_drip_73 rfl rfl ?_
    refine r_iload C 0 dX11_drip_74 rfl ?_
    refine r_iload_n C 4 dX11_drip_76 rfl rfl ?_
    refine r_iload C 5 dX11_drip_77 rfl ?_
    refine r_aload_n C 1 dX11_drip_79 rfl rfl ?_
    refine r_getR C 1 dX11_drip_80 fl_X11_10 la_0 ly_0 rfl rfl ?_
    refine r_getR C 22 dX11_drip_83 fl_X11_137 la_1 ly_1 rfl rfl ?_
    refine r_callV C [rf G 22, i9 p4, i9 p3, i9 r8, i9 p1, rf G 9] dX11_drip_86 (t_X6_addLayer_9_22 C.h1 C.h2 p1 r8 p3 p4 d9) mw_X11_140 mv_X6_addLayer la_9 ly_9 rfl (by decide) (by decide) (by decide) rfl rfl (Nat.le_of_ble_eq_true rfl) (fun r10 d11 => ?_)
    show SS G X 8 _ _ 89 [(7, i9 r8), (0, rf G 0), (1, i9 p1), (2, i9 p2), (3, i9 p3), (4, i9 p4), (5, i9 p5), (6, i9 p6)] [i9 r10] d11 _
    refine r_pop C dX11_drip_89 rfl ?_
    refine r_iload C 0 dX11_drip_90 rfl ?_
    exact r_iret C dX11_drip_92 (by decide) (by decide)
  · refine r_iconst C dX11_drip_30 ?_
    exact r_iret C dX11_drip_31 (by decide) (by decide)
theorem dX11_due_0 : decode cX11_due 0 = .ok (.aload_n 0, 1) := by decide +kernel
theorem dX11_due_1 : decode cX11_due 1 = .ok (.iload_n 1, 1) := by decide +kernel
theorem dX11_due_2 : decode cX11_due 2 = .ok (.invokevirtual 87, 3) := by decide +kernel
theorem dX11_due_5 : decode cX11_due 5 = .ok (.iload_n 2, 1) := by decide +kernel
theorem dX11_due_6 : decode cX11_due 6 = .ok (.iconst 0, 1) := by decide +kernel
theorem dX11_due_7 : decode cX11_due 7 = .ok (.iconst 4, 1) := by decide +kernel
theorem dX11_due_8 : decode cX11_due 8 = .ok (.invokestatic 73, 3) := by decide +kernel
theorem dX11_due_11 : decode cX11_due 11 = .ok (.aload_n 0, 1) := by decide +kernel
theorem dX11_due_12 : decode cX11_due 12 = .ok (.getfield 10, 3) := by decide +kernel
theorem dX11_due_15 : decode cX11_due 15 = .ok (.iload_n 1, 1) := by decide +kernel
theorem dX11_due_16 : decode cX11_due 16 = .ok (.iload_n 2, 1) := by decide +kernel
theorem dX11_due_17 : decode cX11_due 17 = .ok (.invokevirtual 332, 3) := by decide +kernel
theorem dX11_due_20 : decode cX11_due 20 = .ok (.ireturn, 1) := by decide +kernel
abbrev z_X11_due_0 : Z9 := (some .int, 1, 3, 18, 8, 142)
def m_X11_due_0 (p1 p2 : Int) (d : D9) : Option R9 := cl (m_X11_askHand_0 p1 d) (fun r1 d2 => cl (m_X11_askWithin p2 0 4 d2) (fun r3 d4 => cl (m_X10_dueOf_1 p1 p2 d4) (fun r5 d6 => rt r5 d6)))
set_option maxRecDepth 100000 in
theorem t_X11_due_0 {G : G9} {l : Launch} (h1 : va_D (A9 G) (wl G (fun _ _ => 0))) (h2 : l.stackTraces = false) (p1 p2 : Int) (d : D9) : MT G l yX11_due cX11_due 3 z_X11_due_0 [rf G 0, i9 p1, i9 p2] d (m_X11_due_0 p1 p2 d) := by
  refine mt_of (own := RX11) (by decide) rfl (Nat.le_of_ble_eq_true rfl) h1 h2 [(0, rf G 0), (1, i9 p1), (2, i9 p2)] rfl (fun X hX C => ?_)
  unfold m_X11_due_0
  refine r_aload_n C 0 dX11_due_0 rfl rfl ?_
  refine r_iload_n C 1 dX11_due_1 rfl rfl ?_
  refine r_callV C [i9 p1, rf G 0] dX11_due_2 (t_X11_askHand_0 C.h1 C.h2 p1 d) mw_X11_87 mv_X11_askHand la_0 ly_0 rfl (by decide) (by decide) (by decide) rfl rfl (Nat.le_of_ble_eq_true rfl) (fun r1 d2 => ?_)
  show SS G X 3 _ _ 5 [(0, rf G 0), (1, i9 p1), (2, i9 p2)] [] d2 _
  refine r_iload_n C 2 dX11_due_5 rfl rfl ?_
  refine r_iconst C dX11_due_6 ?_
  refine r_iconst C dX11_due_7 ?_
  refine r_callS C [i9 4, i9 0, i9 p2] dX11_due_8 (t_X11_askWithin C.h1 C.h2 p2 0 4 d2) mw_X11_73 ms_X11_askWithin (by decide) (by decide) (by decide) rfl rfl (Nat.le_of_ble_eq_true rfl) (fun r3 d4 => ?_)
  show SS G X 3 _ _ 11 [(0, rf G 0), (1, i9 p1), (2, i9 p2)] [] d4 _
  refine r_aload_n C 0 dX11_due_11 rfl rfl ?_
  refine r_getR C 1 dX11_due_12 fl_X11_10 la_0 ly_0 rfl rfl ?_
  refine r_iload_n C 1 dX11_due_15 rfl rfl ?_
  refine r_iload_n C 2 dX11_due_16 rfl rfl ?_
  refine r_callV C [i9 p2, i9 p1, rf G 1] dX11_due_17 (t_X10_dueOf_1 C.h1 C.h2 p1 p2 d4) mw_X11_332 mv_X10_dueOf la_1 ly_1 rfl (by decide) (by decide) (by decide) rfl rfl (Nat.le_of_ble_eq_true rfl) (fun r5 d6 => ?_)
  show SS G X 3 _ _ 20 [(0, rf G 0), (1, i9 p1), (2, i9 p2)] [i9 r5] d6 _
  exact r_iret C dX11_due_20 (by decide) (by decide)
theorem dX11_fault_0 : decode cX11_fault 0 = .ok (.iload_n 1, 1) := by decide +kernel
theorem dX11_fault_1 : decode cX11_fault 1 = .ok (.ifCond .ne 11, 3) := by decide +kernel
theorem dX11_fault_4 : decode cX11_fault 4 = .ok (.aload_n 0, 1) := by decide +kernel
theorem dX11_fault_5 : decode cX11_fault 5 = .ok (.getfield 48, 3) := by decide +kernel
theorem dX11_fault_8 : decode cX11_fault 8 = .ok (.getfield 177, 3) := by decide +kernel
theorem dX11_fault_11 : decode cX11_fault 11 = .ok (.ireturn, 1) := by decide +kernel
theorem dX11_fault_12 : decode cX11_fault 12 = .ok (.iload_n 1, 1) := by decide +kernel
theorem dX11_fault_13 : decode cX11_fault 13 = .ok (.iconst 1, 1) := by decide +kernel
theorem dX11_fault_14 : decode cX11_fault 14 = .ok (.if_icmp .ne 13, 3) := by decide +kernel
theorem dX11_fault_17 : decode cX11_fault 17 = .ok (.aload_n 0, 1) := by decide +kernel
theorem dX11_fault_18 : decode cX11_fault 18 = .ok (.getfield 48, 3) := by decide +kernel
theorem dX11_fault_21 : decode cX11_fault 21 = .ok (.getfield 212, 3) := by decide +kernel
theorem dX11_fault_24 : decode cX11_fault 24 = .ok (.goto 4, 3) := by decide +kernel
theorem dX11_fault_27 : decode cX11_fault 27 = .ok (.iconst (-1), 1) := by decide +kernel
theorem dX11_fault_28 : decode cX11_fault 28 = .ok (.ireturn, 1) := by decide +kernel
abbrev z_X11_fault_0 : Z9 := (some .int, 1, 0, 0, 1, 0)
def m_X11_fault_0 (p1 : Int) (d : D9) : Option R9 := if w32 p1 ≠ 0 then if w32 p1 ≠ w32 1 then rt (-1) d else rt (d 51 3) d else rt (d 51 2) d
set_option maxRecDepth 100000 in
theorem t_X11_fault_0 {G : G9} {l : Launch} (h1 : va_D (A9 G) (wl G (fun _ _ => 0))) (h2 : l.stackTraces = false) (p1 : Int) (d : D9) : MT G l yX11_fault cX11_fault 2 z_X11_fault_0 [rf G 0, i9 p1] d (m_X11_fault_0 p1 d) := by
  refine mt_of (own := RX11) (by decide) rfl (Nat.le_of_ble_eq_true rfl) h1 h2 [(0, rf G 0), (1, i9 p1)] rfl (fun X hX C => ?_)
  unfold m_X11_fault_0
  refine r_iload_n C 1 dX11_fault_0 rfl rfl ?_
  refine r_if_ne C (b := 0) 12 dX11_fault_1 (by decide) (fun _ => ?_) (fun _ => ?_)
  · refine r_iload_n C 1 dX11_fault_12 rfl rfl ?_
    refine r_iconst C dX11_fault_13 ?_
    refine r_icmp_ne C 27 dX11_fault_14 (by decide) (fun _ => ?_) (fun _ => ?_)
    · refine r_iconst C dX11_fault_27 ?_
      exact r_iret C dX11_fault_28 (by decide) (by decide)
    · refine r_aload_n C 0 dX11_fault_17 rfl rfl ?_
      refine r_getR C 51 dX11_fault_18 fl_X11_48 la_0 ly_0 rfl rfl ?_
      refine r_getI C dX11_fault_21 fl_X11_212 la_51 ly_51 rfl ?_
      refine r_goto C 28 dX11_fault_24 (by decide) ?_
      exact r_iret C dX11_fault_28 (by decide) (by decide)
  · refine r_aload_n C 0 dX11_fault_4 rfl rfl ?_
    refine r_getR C 51 dX11_fault_5 fl_X11_48 la_0 ly_0 rfl rfl ?_
    refine r_getI C dX11_fault_8 fl_X11_177 la_51 ly_51 rfl ?_
    exact r_iret C dX11_fault_11 (by decide) (by decide)
theorem dX8_append_0 : decode cX8_append 0 = .ok (.bipush 24, 2) := by decide +kernel
theorem dX8_append_2 : decode cX8_append 2 = .ok (.istore_n 2, 1) := by decide +kernel
theorem dX8_append_3 : decode cX8_append 3 = .ok (.iload_n 2, 1) := by decide +kernel
theorem dX8_append_4 : decode cX8_append 4 = .ok (.ifCond .lt 48, 3) := by decide +kernel
theorem dX8_append_7 : decode cX8_append 7 = .ok (.aload_n 0, 1) := by decide +kernel
theorem dX8_append_8 : decode cX8_append 8 = .ok (.getfield 19, 3) := by decide +kernel
theorem dX8_append_11 : decode cX8_append 11 = .ok (.aload_n 0, 1) := by decide +kernel
theorem dX8_append_12 : decode cX8_append 12 = .ok (.getfield 9, 3) := by decide +kernel
theorem dX8_append_15 : decode cX8_append 15 = .ok (.arraylength, 1) := by decide +kernel
theorem dX8_append_16 : decode cX8_append 16 = .ok (.if_icmp .ge 30, 3) := by decide +kernel
theorem dX8_append_19 : decode cX8_append 19 = .ok (.aload_n 0, 1) := by decide +kernel
theorem dX8_append_20 : decode cX8_append 20 = .ok (.getfield 9, 3) := by decide +kernel
theorem dX8_append_23 : decode cX8_append 23 = .ok (.aload_n 0, 1) := by decide +kernel
theorem dX8_append_24 : decode cX8_append 24 = .ok (.getfield 19, 3) := by decide +kernel
theorem dX8_append_27 : decode cX8_append 27 = .ok (.iload_n 1, 1) := by decide +kernel
theorem dX8_append_28 : decode cX8_append 28 = .ok (.iload_n 2, 1) := by decide +kernel
theorem dX8_append_29 : decode cX8_append 29 = .ok (.iushr, 1) := by decide +kernel
theorem dX8_append_30 : decode cX8_append 30 = .ok (.sipush 255, 3) := by decide +kernel
theorem dX8_append_33 : decode cX8_append 33 = .ok (.iand, 1) := by decide +kernel
theorem dX8_append_34 : decode cX8_append 34 = .ok (.i2c, 1) := by decide +kernel
theorem dX8_append_35 : decode cX8_append 35 = .ok (.castore, 1) := by decide +kernel
theorem dX8_append_36 : decode cX8_append 36 = .ok (.aload_n 0, 1) := by decide +kernel
theorem dX8_append_37 : decode cX8_append 37 = .ok (.dup, 1) := by decide +kernel
theorem dX8_append_38 : decode cX8_append 38 = .ok (.getfield 19, 3) := by decide +kernel
theorem dX8_append_41 : decode cX8_append 41 = .ok (.iconst 1, 1) := by decide +kernel
theorem dX8_append_42 : decode cX8_append 42 = .ok (.iadd, 1) := by decide +kernel
theorem dX8_append_43 : decode cX8_append 43 = .ok (.putfield 19, 3) := by decide +kernel
theorem dX8_append_46 : decode cX8_append 46 = .ok (.iinc 2 (-8), 3) := by decide +kernel
theorem dX8_append_49 : decode cX8_append 49 = .ok (.goto (-46), 3) := by decide +kernel
theorem dX8_append_52 : decode cX8_append 52 = .ok (.return_, 1) := by decide +kernel
abbrev z_X8_append_51 : Z9 := (none, 0, 0, 0, 1, 0)
def b_X8_append_51_c3 (k_X8_append_51_c3 : Int → Int → D9 → Option R9) (v1 v2 : Int) (d : D9) : Option R9 := if w32 v2 < 0 then rt 0 d else if w32 400 ≤ w32 (d 51 1) then k_X8_append_51_c3 v1 (v2 + (-8)) d else sd d 52 400 (d 51 1) (((and9 (ush9 v1 v2) 255) % 65536) % 65536) (fun d1 => pf d1 51 1 ((d1 51 1) + 1) (fun d2 => k_X8_append_51_c3 v1 (v2 + (-8)) d2))
def m_X8_append_51_c3 : Int → Int → D9 → Option R9 := fix9 (fun _ _ _ => none) (fun k => b_X8_append_51_c3 k) FU
def m_X8_append_51 (p1 : Int) (d : D9) : Option R9 := m_X8_append_51_c3  p1 24 d
set_option maxRecDepth 100000 in
theorem sb_X8_append_51_c3 {G : G9} {X : X9} (C : CX G X cX8_append 3 RX8 [] z_X8_append_51) (k_X8_append_51_c3 : Int → Int → D9 → Option R9) (hk_X8_append_51_c3 : ∀ (v1 v2 : Int) (d : D9), SS G X 3 0 0 3 [(0, rf G 51), (1, i9 v1), (2, i9 v2)] [] d (k_X8_append_51_c3 v1 v2 d)) : ∀ (v1 v2 : Int) (d : D9), SS G X 3 0 0 3 [(0, rf G 51), (1, i9 v1), (2, i9 v2)] [] d (b_X8_append_51_c3 k_X8_append_51_c3 v1 v2 d) := by
  intro v1 v2 d
  unfold b_X8_append_51_c3
  refine r_iload_n C 2 dX8_append_3 rfl rfl ?_
  refine r_if_lt C (b := 0) 52 dX8_append_4 (by decide) (fun _ => ?_) (fun _ => ?_)
  · exact r_vret C dX8_append_52 (by decide) (by decide)
  · refine r_aload_n C 0 dX8_append_7 rfl rfl ?_
    refine r_getI C dX8_append_8 fl_X8_19 la_51 ly_51 rfl ?_
    refine r_aload_n C 0 dX8_append_11 rfl rfl ?_
    refine r_getR C 52 dX8_append_12 fl_X8_9 la_51 ly_51 rfl rfl ?_
    refine r_alenC C dX8_append_15 la_52 ly_52 ?_
    refine r_icmp_ge C 46 dX8_append_16 (by decide) (fun _ => ?_) (fun _ => ?_)
    · refine r_iinc C 2 [(2, i9 (v2 + (-8))), (0, rf G 51), (1, i9 v1)] dX8_append_46 rfl (by decide) rfl ?_
      refine r_goto C 3 dX8_append_49 (by decide) ?_
      refine ss_wide (k' := 0) (n' := 0) (by decide) (by decide) ?_
      refine ss_ls [(0, rf G 51), (1, i9 v1), (2, i9 (v2 + (-8)))] [1, 2, 0] rfl ?_
      exact hk_X8_append_51_c3 v1 (v2 + (-8)) d
    · refine r_aload_n C 0 dX8_append_19 rfl rfl ?_
      refine r_getR C 52 dX8_append_20 fl_X8_9 la_51 ly_51 rfl rfl ?_
      refine r_aload_n C 0 dX8_append_23 rfl rfl ?_
      refine r_getI C dX8_append_24 fl_X8_19 la_51 ly_51 rfl ?_
      refine r_iload_n C 1 dX8_append_27 rfl rfl ?_
      refine r_iload_n C 2 dX8_append_28 rfl rfl ?_
      refine r_iushr C dX8_append_29 ?_
      refine r_sipush C dX8_append_30 rfl ?_
      refine r_iand C dX8_append_33 ?_
      refine r_i2c C dX8_append_34 ?_
      refine r_cast C dX8_append_35 la_52 ly_52 (fun d1 => ?_)
      refine r_aload_n C 0 dX8_append_36 rfl rfl ?_
      refine r_dup C dX8_append_37 rfl ?_
      refine r_getI C dX8_append_38 fl_X8_19 la_51 ly_51 rfl ?_
      refine r_iconst C dX8_append_41 ?_
      refine r_iadd C dX8_append_42 ?_
      refine r_putI C dX8_append_43 fp_X8_19 la_51 ly_51 rfl (fun d2 => ?_)
      refine r_iinc C 2 [(2, i9 (v2 + (-8))), (0, rf G 51), (1, i9 v1)] dX8_append_46 rfl (by decide) rfl ?_
      refine r_goto C 3 dX8_append_49 (by decide) ?_
      refine ss_wide (k' := 0) (n' := 0) (by decide) (by decide) ?_
      refine ss_ls [(0, rf G 51), (1, i9 v1), (2, i9 (v2 + (-8)))] [1, 2, 0] rfl ?_
      exact hk_X8_append_51_c3 v1 (v2 + (-8)) d2
theorem s_X8_append_51_c3 {G : G9} {X : X9} (C : CX G X cX8_append 3 RX8 [] z_X8_append_51) : ∀ (v1 v2 : Int) (d : D9), SS G X 3 0 0 3 [(0, rf G 51), (1, i9 v1), (2, i9 v2)] [] d (m_X8_append_51_c3  v1 v2 d) :=
  fix9_ind (P := fun k => ∀ (v1 v2 : Int) (d : D9), SS G X 3 0 0 3 [(0, rf G 51), (1, i9 v1), (2, i9 v2)] [] d (k v1 v2 d)) (fun _ _ _ => ss_none) (fun k hk => sb_X8_append_51_c3 C k hk) FU
set_option maxRecDepth 100000 in
theorem t_X8_append_51 {G : G9} {l : Launch} (h1 : va_D (A9 G) (wl G (fun _ _ => 0))) (h2 : l.stackTraces = false) (p1 : Int) (d : D9) : MT G l yX8_append cX8_append 3 z_X8_append_51 [rf G 51, i9 p1] d (m_X8_append_51 p1 d) := by
  refine mt_of (own := RX8) (by decide) rfl (Nat.le_of_ble_eq_true rfl) h1 h2 [(0, rf G 51), (1, i9 p1)] rfl (fun X hX C => ?_)
  unfold m_X8_append_51
  refine r_bipush C dX8_append_0 rfl ?_
  refine r_istore_n C [(2, i9 24), (0, rf G 51), (1, i9 p1)] dX8_append_2 rfl (by decide) rfl ?_
  refine ss_wide (k' := 0) (n' := 0) (by decide) (by decide) ?_
  refine ss_ls [(0, rf G 51), (1, i9 p1), (2, i9 24)] [1, 2, 0] rfl ?_
  exact s_X8_append_51_c3 C  p1 24 d
theorem dX11_feed_0 : decode cX11_feed 0 = .ok (.aload_n 0, 1) := by decide +kernel
theorem dX11_feed_1 : decode cX11_feed 1 = .ok (.getfield 48, 3) := by decide +kernel
theorem dX11_feed_4 : decode cX11_feed 4 = .ok (.getfield 159, 3) := by decide +kernel
theorem dX11_feed_7 : decode cX11_feed 7 = .ok (.bipush 20, 2) := by decide +kernel
theorem dX11_feed_9 : decode cX11_feed 9 = .ok (.iadd, 1) := by decide +kernel
theorem dX11_feed_10 : decode cX11_feed 10 = .ok (.sipush 400, 3) := by decide +kernel
theorem dX11_feed_13 : decode cX11_feed 13 = .ok (.if_icmp .le 5, 3) := by decide +kernel
theorem dX11_feed_16 : decode cX11_feed 16 = .ok (.iconst (-1), 1) := by decide +kernel
theorem dX11_feed_17 : decode cX11_feed 17 = .ok (.ireturn, 1) := by decide +kernel
theorem dX11_feed_18 : decode cX11_feed 18 = .ok (.aload_n 0, 1) := by decide +kernel
theorem dX11_feed_19 : decode cX11_feed 19 = .ok (.getfield 48, 3) := by decide +kernel
theorem dX11_feed_22 : decode cX11_feed 22 = .ok (.iload_n 1, 1) := by decide +kernel
theorem dX11_feed_23 : decode cX11_feed 23 = .ok (.invokevirtual 163, 3) := by decide +kernel
theorem dX11_feed_26 : decode cX11_feed 26 = .ok (.aload_n 0, 1) := by decide +kernel
theorem dX11_feed_27 : decode cX11_feed 27 = .ok (.getfield 48, 3) := by decide +kernel
theorem dX11_feed_30 : decode cX11_feed 30 = .ok (.iload_n 2, 1) := by decide +kernel
theorem dX11_feed_31 : decode cX11_feed 31 = .ok (.invokevirtual 163, 3) := by decide +kernel
theorem dX11_feed_34 : decode cX11_feed 34 = .ok (.aload_n 0, 1) := by decide +kernel
theorem dX11_feed_35 : decode cX11_feed 35 = .ok (.getfield 48, 3) := by decide +kernel
theorem dX11_feed_38 : decode cX11_feed 38 = .ok (.iload_n 3, 1) := by decide +kernel
theorem dX11_feed_39 : decode cX11_feed 39 = .ok (.invokevirtual 163, 3) := by decide +kernel
theorem dX11_feed_42 : decode cX11_feed 42 = .ok (.aload_n 0, 1) := by decide +kernel
theorem dX11_feed_43 : decode cX11_feed 43 = .ok (.getfield 48, 3) := by decide +kernel
theorem dX11_feed_46 : decode cX11_feed 46 = .ok (.iload 4, 2) := by decide +kernel
theorem dX11_feed_48 : decode cX11_feed 48 = .ok (.invokevirtual 163, 3) := by decide +kernel
theorem dX11_feed_51 : decode cX11_feed 51 = .ok (.aload_n 0, 1) := by decide +kernel
theorem dX11_feed_52 : decode cX11_feed 52 = .ok (.getfield 48, 3) := by decide +kernel
theorem dX11_feed_55 : decode cX11_feed 55 = .ok (.iload 5, 2) := by decide +kernel
theorem dX11_feed_57 : decode cX11_feed 57 = .ok (.invokevirtual 163, 3) := by decide +kernel
theorem dX11_feed_60 : decode cX11_feed 60 = .ok (.aload_n 0, 1) := by decide +kernel
theorem dX11_feed_61 : decode cX11_feed 61 = .ok (.getfield 48, 3) := by decide +kernel
theorem dX11_feed_64 : decode cX11_feed 64 = .ok (.getfield 159, 3) := by decide +kernel
theorem dX11_feed_67 : decode cX11_feed 67 = .ok (.ireturn, 1) := by decide +kernel
abbrev z_X11_feed_0 : Z9 := (some .int, 1, 0, 0, 2, 22)
def m_X11_feed_0 (p1 p2 p3 p4 p5 : Int) (d : D9) : Option R9 := if w32 ((d 51 1) + 20) ≤ w32 400 then cl (m_X8_append_51 p1 d) (fun r1 d2 => cl (m_X8_append_51 p2 d2) (fun r3 d4 => cl (m_X8_append_51 p3 d4) (fun r5 d6 => cl (m_X8_append_51 p4 d6) (fun r7 d8 => cl (m_X8_append_51 p5 d8) (fun r9 d10 => rt (d10 51 1) d10))))) else rt (-1) d
set_option maxRecDepth 100000 in
theorem t_X11_feed_0 {G : G9} {l : Launch} (h1 : va_D (A9 G) (wl G (fun _ _ => 0))) (h2 : l.stackTraces = false) (p1 p2 p3 p4 p5 : Int) (d : D9) : MT G l yX11_feed cX11_feed 6 z_X11_feed_0 [rf G 0, i9 p1, i9 p2, i9 p3, i9 p4, i9 p5] d (m_X11_feed_0 p1 p2 p3 p4 p5 d) := by
  refine mt_of (own := RX11) (by decide) rfl (Nat.le_of_ble_eq_true rfl) h1 h2 [(0, rf G 0), (1, i9 p1), (2, i9 p2), (3, i9 p3), (4, i9 p4), (5, i9 p5)] rfl (fun X hX C => ?_)
  unfold m_X11_feed_0
  refine r_aload_n C 0 dX11_feed_0 rfl rfl ?_
  refine r_getR C 51 dX11_feed_1 fl_X11_48 la_0 ly_0 rfl rfl ?_
  refine r_getI C dX11_feed_4 fl_X11_159 la_51 ly_51 rfl ?_
  refine r_bipush C dX11_feed_7 rfl ?_
  refine r_iadd C dX11_feed_9 ?_
  refine r_sipush C dX11_feed_10 rfl ?_
  refine r_icmp_le C 18 dX11_feed_13 (by decide) (fun _ => ?_) (fun _ => ?_)
  · refine r_aload_n C 0 dX11_feed_18 rfl rfl ?_
    refine r_getR C 51 dX11_feed_19 fl_X11_48 la_0 ly_0 rfl rfl ?_
    refine r_iload_n C 1 dX11_feed_22 rfl rfl ?_
    refine r_callV C [i9 p1, rf G 51] dX11_feed_23 (t_X8_append_51 C.h1 C.h2 p1 d) mw_X11_163 mv_X8_append la_51 ly_51 rfl (by decide) (by decide) (by decide) rfl rfl (Nat.le_of_ble_eq_true rfl) (fun r1 d2 => ?_)
    show SS G X 6 _ _ 26 [(0, rf G 0), (1, i9 p1), (2, i9 p2), (3, i9 p3), (4, i9 p4), (5, i9 p5)] [] d2 _
    refine r_aload_n C 0 dX11_feed_26 rfl rfl ?_
    refine r_getR C 51 dX11_feed_27 fl_X11_48 la_0 ly_0 rfl rfl ?_
    refine r_iload_n C 2 dX11_feed_30 rfl rfl ?_
    refine r_callV C [i9 p2, rf G 51] dX11_feed_31 (t_X8_append_51 C.h1 C.h2 p2 d2) mw_X11_163 mv_X8_append la_51 ly_51 rfl (by decide) (by decide) (by decide) rfl rfl (Nat.le_of_ble_eq_true rfl) (fun r3 d4 => ?_)
    show SS G X 6 _ _ 34 [(0, rf G 0), (1, i9 p1), (2, i9 p2), (3, i9 p3), (4, i9 p4), (5, i9 p5)] [] d4 _
    refine r_aload_n C 0 dX11_feed_34 rfl rfl ?_
    refine r_getR C 51 dX11_feed_35 fl_X11_48 la_0 ly_0 rfl rfl ?_
    refine r_iload_n C 3 dX11_feed_38 rfl rfl ?_
    refine r_callV C [i9 p3, rf G 51] dX11_feed_39 (t_X8_append_51 C.h1 C.h2 p3 d4) mw_X11_163 mv_X8_append la_51 ly_51 rfl (by decide) (by decide) (by decide) rfl rfl (Nat.le_of_ble_eq_true rfl) (fun r5 d6 => ?_)
    show SS G X 6 _ _ 42 [(0, rf G 0), (1, i9 p1), (2, i9 p2), (3, i9 p3), (4, i9 p4), (5, i9 p5)] [] d6 _
    refine r_aload_n C 0 dX11_feed_42 rfl rfl ?_
    refine r_getR C 51 dX11_feed_43 fl_X11_48 la_0 ly_0 rfl rfl ?_
    refine r_iload C 4 dX11_feed_46 rfl ?_
    refine r_callV C [i9 p4, rf G 51] dX11_feed_48 (t_X8_append_51 C.h1 C.h2 p4 d6) mw_X11_163 mv_X8_append la_51 ly_51 rfl (by decide) (by decide) (by decide) rfl rfl (Nat.le_of_ble_eq_true rfl) (fun r7 d8 => ?_)
    show SS G X 6 _ _ 51 [(0, rf G 0), (1, i9 p1), (2, i9 p2), (3, i9 p3), (4, i9 p4), (5, i9 p5)] [] d8 _
    refine r_aload_n C 0 dX11_feed_51 rfl rfl ?_
    refine r_getR C 51 dX11_feed_52 fl_X11_48 la_0 ly_0 rfl rfl ?_
    refine r_iload C 5 dX11_feed_55 rfl ?_
    refine r_callV C [i9 p5, rf G 51] dX11_feed_57 (t_X8_append_51 C.h1 C.h2 p5 d8) mw_X11_163 mv_X8_append la_51 ly_51 rfl (by decide) (by decide) (by decide) rfl rfl (Nat.le_of_ble_eq_true rfl) (fun r9 d10 => ?_)
    show SS G X 6 _ _ 60 [(0, rf G 0), (1, i9 p1), (2, i9 p2), (3, i9 p3), (4, i9 p4), (5, i9 p5)] [] d10 _
    refine r_aload_n C 0 dX11_feed_60 rfl rfl ?_
    refine r_getR C 51 dX11_feed_61 fl_X11_48 la_0 ly_0 rfl rfl ?_
    refine r_getI C dX11_feed_64 fl_X11_159 la_51 ly_51 rfl ?_
    exact r_iret C dX11_feed_67 (by decide) (by decide)
  · refine r_iconst C dX11_feed_16 ?_
    exact r_iret C dX11_feed_17 (by decide) (by decide)
theorem dX11_askLengths_0 : decode cX11_askLengths 0 = .ok (.iload_n 1, 1) := by decide +kernel
theorem dX11_askLengths_1 : decode cX11_askLengths 1 = .ok (.iload_n 0, 1) := by decide +kernel
theorem dX11_askLengths_2 : decode cX11_askLengths 2 = .ok (.bipush 99, 2) := by decide +kernel
theorem dX11_askLengths_4 : decode cX11_askLengths 4 = .ok (.invokestatic 73, 3) := by decide +kernel
theorem dX11_askLengths_7 : decode cX11_askLengths 7 = .ok (.iload_n 2, 1) := by decide +kernel
theorem dX11_askLengths_8 : decode cX11_askLengths 8 = .ok (.iload_n 0, 1) := by decide +kernel
theorem dX11_askLengths_9 : decode cX11_askLengths 9 = .ok (.bipush 99, 2) := by decide +kernel
theorem dX11_askLengths_11 : decode cX11_askLengths 11 = .ok (.invokestatic 73, 3) := by decide +kernel
theorem dX11_askLengths_14 : decode cX11_askLengths 14 = .ok (.iload_n 3, 1) := by decide +kernel
theorem dX11_askLengths_15 : decode cX11_askLengths 15 = .ok (.iload_n 0, 1) := by decide +kernel
theorem dX11_askLengths_16 : decode cX11_askLengths 16 = .ok (.bipush 99, 2) := by decide +kernel
theorem dX11_askLengths_18 : decode cX11_askLengths 18 = .ok (.invokestatic 73, 3) := by decide +kernel
theorem dX11_askLengths_21 : decode cX11_askLengths 21 = .ok (.iload 4, 2) := by decide +kernel
theorem dX11_askLengths_23 : decode cX11_askLengths 23 = .ok (.iload_n 0, 1) := by decide +kernel
theorem dX11_askLengths_24 : decode cX11_askLengths 24 = .ok (.bipush 99, 2) := by decide +kernel
theorem dX11_askLengths_26 : decode cX11_askLengths 26 = .ok (.invokestatic 73, 3) := by decide +kernel
theorem dX11_askLengths_29 : decode cX11_askLengths 29 = .ok (.iload 5, 2) := by decide +kernel
theorem dX11_askLengths_31 : decode cX11_askLengths 31 = .ok (.iload_n 0, 1) := by decide +kernel
theorem dX11_askLengths_32 : decode cX11_askLengths 32 = .ok (.bipush 99, 2) := by decide +kernel
theorem dX11_askLengths_34 : decode cX11_askLengths 34 = .ok (.invokestatic 73, 3) := by decide +kernel
theorem dX11_askLengths_37 : decode cX11_askLengths 37 = .ok (.return_, 1) := by decide +kernel
abbrev z_X11_askLengths : Z9 := (none, 0, 5, 30, 7, 122)
def m_X11_askLengths (p0 p1 p2 p3 p4 p5 : Int) (d : D9) : Option R9 := cl (m_X11_askWithin p1 p0 99 d) (fun r1 d2 => cl (m_X11_askWithin p2 p0 99 d2) (fun r3 d4 => cl (m_X11_askWithin p3 p0 99 d4) (fun r5 d6 => cl (m_X11_askWithin p4 p0 99 d6) (fun r7 d8 => cl (m_X11_askWithin p5 p0 99 d8) (fun r9 d10 => rt 0 d10)))))
set_option maxRecDepth 100000 in
theorem t_X11_askLengths {G : G9} {l : Launch} (h1 : va_D (A9 G) (wl G (fun _ _ => 0))) (h2 : l.stackTraces = false) (p0 p1 p2 p3 p4 p5 : Int) (d : D9) : MT G l yX11_askLengths cX11_askLengths 6 z_X11_askLengths [i9 p0, i9 p1, i9 p2, i9 p3, i9 p4, i9 p5] d (m_X11_askLengths p0 p1 p2 p3 p4 p5 d) := by
  refine mt_of (own := RX11) (by decide) rfl (Nat.le_of_ble_eq_true rfl) h1 h2 [(0, i9 p0), (1, i9 p1), (2, i9 p2), (3, i9 p3), (4, i9 p4), (5, i9 p5)] rfl (fun X hX C => ?_)
  unfold m_X11_askLengths
  refine r_iload_n C 1 dX11_askLengths_0 rfl rfl ?_
  refine r_iload_n C 0 dX11_askLengths_1 rfl rfl ?_
  refine r_bipush C dX11_askLengths_2 rfl ?_
  refine r_callS C [i9 99, i9 p0, i9 p1] dX11_askLengths_4 (t_X11_askWithin C.h1 C.h2 p1 p0 99 d) mw_X11_73 ms_X11_askWithin (by decide) (by decide) (by decide) rfl rfl (Nat.le_of_ble_eq_true rfl) (fun r1 d2 => ?_)
  show SS G X 6 _ _ 7 [(0, i9 p0), (1, i9 p1), (2, i9 p2), (3, i9 p3), (4, i9 p4), (5, i9 p5)] [] d2 _
  refine r_iload_n C 2 dX11_askLengths_7 rfl rfl ?_
  refine r_iload_n C 0 dX11_askLengths_8 rfl rfl ?_
  refine r_bipush C dX11_askLengths_9 rfl ?_
  refine r_callS C [i9 99, i9 p0, i9 p2] dX11_askLengths_11 (t_X11_askWithin C.h1 C.h2 p2 p0 99 d2) mw_X11_73 ms_X11_askWithin (by decide) (by decide) (by decide) rfl rfl (Nat.le_of_ble_eq_true rfl) (fun r3 d4 => ?_)
  show SS G X 6 _ _ 14 [(0, i9 p0), (1, i9 p1), (2, i9 p2), (3, i9 p3), (4, i9 p4), (5, i9 p5)] [] d4 _
  refine r_iload_n C 3 dX11_askLengths_14 rfl rfl ?_
  refine r_iload_n C 0 dX11_askLengths_15 rfl rfl ?_
  refine r_bipush C dX11_askLengths_16 rfl ?_
  refine r_callS C [i9 99, i9 p0, i9 p3] dX11_askLengths_18 (t_X11_askWithin C.h1 C.h2 p3 p0 99 d4) mw_X11_73 ms_X11_askWithin (by decide) (by decide) (by decide) rfl rfl (Nat.le_of_ble_eq_true rfl) (fun r5 d6 => ?_)
  show SS G X 6 _ _ 21 [(0, i9 p0), (1, i9 p1), (2, i9 p2), (3, i9 p3), (4, i9 p4), (5, i9 p5)] [] d6 _
  refine r_iload C 4 dX11_askLengths_21 rfl ?_
  refine r_iload_n C 0 dX11_askLengths_23 rfl rfl ?_
  refine r_bipush C dX11_askLengths_24 rfl ?_
  refine r_callS C [i9 99, i9 p0, i9 p4] dX11_askLengths_26 (t_X11_askWithin C.h1 C.h2 p4 p0 99 d6) mw_X11_73 ms_X11_askWithin (by decide) (by decide) (by decide) rfl rfl (Nat.le_of_ble_eq_true rfl) (fun r7 d8 => ?_)
  show SS G X 6 _ _ 29 [(0, i9 p0), (1, i9 p1), (2, i9 p2), (3, i9 p3), (4, i9 p4), (5, i9 p5)] [] d8 _
  refine r_iload C 5 dX11_askLengths_29 rfl ?_
  refine r_iload_n C 0 dX11_askLengths_31 rfl rfl ?_
  refine r_bipush C dX11_askLengths_32 rfl ?_
  refine r_callS C [i9 99, i9 p0, i9 p5] dX11_askLengths_34 (t_X11_askWithin C.h1 C.h2 p5 p0 99 d8) mw_X11_73 ms_X11_askWithin (by decide) (by decide) (by decide) rfl rfl (Nat.le_of_ble_eq_true rfl) (fun r9 d10 => ?_)
  show SS G X 6 _ _ 37 [(0, i9 p0), (1, i9 p1), (2, i9 p2), (3, i9 p3), (4, i9 p4), (5, i9 p5)] [] d10 _
  exact r_vret C dX11_askLengths_37 (by decide) (by decide)
theorem dX11_putFive_0 : decode cX11_putFive 0 = .ok (.iload_n 1, 1) := by decide +kernel
theorem dX11_putFive_1 : decode cX11_putFive 1 = .ok (.ifCond .lt 11, 3) := by decide +kernel
theorem dX11_putFive_4 : decode cX11_putFive 4 = .ok (.iload_n 1, 1) := by decide +kernel
theorem dX11_putFive_5 : decode cX11_putFive 5 = .ok (.iconst 5, 1) := by decide +kernel
theorem dX11_putFive_6 : decode cX11_putFive 6 = .ok (.iadd, 1) := by decide +kernel
theorem dX11_putFive_7 : decode cX11_putFive 7 = .ok (.aload_n 0, 1) := by decide +kernel
theorem dX11_putFive_8 : decode cX11_putFive 8 = .ok (.arraylength, 1) := by decide +kernel
theorem dX11_putFive_9 : decode cX11_putFive 9 = .ok (.if_icmp .le 4, 3) := by decide +kernel
theorem dX11_putFive_12 : decode cX11_putFive 12 = .ok (.return_, 1) := by decide +kernel
theorem dX11_putFive_13 : decode cX11_putFive 13 = .ok (.aload_n 0, 1) := by decide +kernel
theorem dX11_putFive_14 : decode cX11_putFive 14 = .ok (.iload_n 1, 1) := by decide +kernel
theorem dX11_putFive_15 : decode cX11_putFive 15 = .ok (.iload_n 2, 1) := by decide +kernel
theorem dX11_putFive_16 : decode cX11_putFive 16 = .ok (.iastore, 1) := by decide +kernel
theorem dX11_putFive_17 : decode cX11_putFive 17 = .ok (.aload_n 0, 1) := by decide +kernel
theorem dX11_putFive_18 : decode cX11_putFive 18 = .ok (.iload_n 1, 1) := by decide +kernel
theorem dX11_putFive_19 : decode cX11_putFive 19 = .ok (.iconst 1, 1) := by decide +kernel
theorem dX11_putFive_20 : decode cX11_putFive 20 = .ok (.iadd, 1) := by decide +kernel
theorem dX11_putFive_21 : decode cX11_putFive 21 = .ok (.iload_n 3, 1) := by decide +kernel
theorem dX11_putFive_22 : decode cX11_putFive 22 = .ok (.iastore, 1) := by decide +kernel
theorem dX11_putFive_23 : decode cX11_putFive 23 = .ok (.aload_n 0, 1) := by decide +kernel
theorem dX11_putFive_24 : decode cX11_putFive 24 = .ok (.iload_n 1, 1) := by decide +kernel
theorem dX11_putFive_25 : decode cX11_putFive 25 = .ok (.iconst 2, 1) := by decide +kernel
theorem dX11_putFive_26 : decode cX11_putFive 26 = .ok (.iadd, 1) := by decide +kernel
theorem dX11_putFive_27 : decode cX11_putFive 27 = .ok (.iload 4, 2) := by decide +kernel
theorem dX11_putFive_29 : decode cX11_putFive 29 = .ok (.iastore, 1) := by decide +kernel
theorem dX11_putFive_30 : decode cX11_putFive 30 = .ok (.aload_n 0, 1) := by decide +kernel
theorem dX11_putFive_31 : decode cX11_putFive 31 = .ok (.iload_n 1, 1) := by decide +kernel
theorem dX11_putFive_32 : decode cX11_putFive 32 = .ok (.iconst 3, 1) := by decide +kernel
theorem dX11_putFive_33 : decode cX11_putFive 33 = .ok (.iadd, 1) := by decide +kernel
theorem dX11_putFive_34 : decode cX11_putFive 34 = .ok (.iload 5, 2) := by decide +kernel
theorem dX11_putFive_36 : decode cX11_putFive 36 = .ok (.iastore, 1) := by decide +kernel
theorem dX11_putFive_37 : decode cX11_putFive 37 = .ok (.aload_n 0, 1) := by decide +kernel
theorem dX11_putFive_38 : decode cX11_putFive 38 = .ok (.iload_n 1, 1) := by decide +kernel
theorem dX11_putFive_39 : decode cX11_putFive 39 = .ok (.iconst 4, 1) := by decide +kernel
theorem dX11_putFive_40 : decode cX11_putFive 40 = .ok (.iadd, 1) := by decide +kernel
theorem dX11_putFive_41 : decode cX11_putFive 41 = .ok (.iload 6, 2) := by decide +kernel
theorem dX11_putFive_43 : decode cX11_putFive 43 = .ok (.iastore, 1) := by decide +kernel
theorem dX11_putFive_44 : decode cX11_putFive 44 = .ok (.return_, 1) := by decide +kernel
abbrev z_X11_putFive_6 : Z9 := (none, 0, 0, 0, 1, 0)
def m_X11_putFive_6 (p1 p2 p3 p4 p5 p6 : Int) (d : D9) : Option R9 := if w32 p1 < 0 then rt 0 d else if w32 (p1 + 5) ≤ w32 150 then sd d 6 150 p1 p2 (fun d1 => sd d1 6 150 (p1 + 1) p3 (fun d2 => sd d2 6 150 (p1 + 2) p4 (fun d3 => sd d3 6 150 (p1 + 3) p5 (fun d4 => sd d4 6 150 (p1 + 4) p6 (fun d5 => rt 0 d5))))) else rt 0 d
set_option maxRecDepth 100000 in
theorem t_X11_putFive_6 {G : G9} {l : Launch} (h1 : va_D (A9 G) (wl G (fun _ _ => 0))) (h2 : l.stackTraces = false) (p1 p2 p3 p4 p5 p6 : Int) (d : D9) : MT G l yX11_putFive cX11_putFive 7 z_X11_putFive_6 [rf G 6, i9 p1, i9 p2, i9 p3, i9 p4, i9 p5, i9 p6] d (m_X11_putFive_6 p1 p2 p3 p4 p5 p6 d) := by
  refine mt_of (own := RX11) (by decide) rfl (Nat.le_of_ble_eq_true rfl) h1 h2 [(0, rf G 6), (1, i9 p1), (2, i9 p2), (3, i9 p3), (4, i9 p4), (5, i9 p5), (6, i9 p6)] rfl (fun X hX C => ?_)
  unfold m_X11_putFive_6
  refine r_iload_n C 1 dX11_putFive_0 rfl rfl ?_
  refine r_if_lt C (b := 0) 12 dX11_putFive_1 (by decide) (fun _ => ?_) (fun _ => ?_)
  · exact r_vret C dX11_putFive_12 (by decide) (by decide)
  · refine r_iload_n C 1 dX11_putFive_4 rfl rfl ?_
    refine r_iconst C dX11_putFive_5 ?_
    refine r_iadd C dX11_putFive_6 ?_
    refine r_aload_n C 0 dX11_putFive_7 rfl rfl ?_
    refine r_alen C dX11_putFive_8 la_6 ly_6 ?_
    refine r_icmp_le C 13 dX11_putFive_9 (by decide) (fun _ => ?_) (fun _ => ?_)
    · refine r_aload_n C 0 dX11_putFive_13 rfl rfl ?_
      refine r_iload_n C 1 dX11_putFive_14 rfl rfl ?_
      refine r_iload_n C 2 dX11_putFive_15 rfl rfl ?_
      refine r_iast C dX11_putFive_16 la_6 ly_6 (fun d1 => ?_)
      refine r_aload_n C 0 dX11_putFive_17 rfl rfl ?_
      refine r_iload_n C 1 dX11_putFive_18 rfl rfl ?_
      refine r_iconst C dX11_putFive_19 ?_
      refine r_iadd C dX11_putFive_20 ?_
      refine r_iload_n C 3 dX11_putFive_21 rfl rfl ?_
      refine r_iast C dX11_putFive_22 la_6 ly_6 (fun d2 => ?_)
      refine r_aload_n C 0 dX11_putFive_23 rfl rfl ?_
      refine r_iload_n C 1 dX11_putFive_24 rfl rfl ?_
      refine r_iconst C dX11_putFive_25 ?_
      refine r_iadd C dX11_putFive_26 ?_
      refine r_iload C 4 dX11_putFive_27 rfl ?_
      refine r_iast C dX11_putFive_29 la_6 ly_6 (fun d3 => ?_)
      refine r_aload_n C 0 dX11_putFive_30 rfl rfl ?_
      refine r_iload_n C 1 dX11_putFive_31 rfl rfl ?_
      refine r_iconst C dX11_putFive_32 ?_
      refine r_iadd C dX11_putFive_33 ?_
      refine r_iload C 5 dX11_putFive_34 rfl ?_
      refine r_iast C dX11_putFive_36 la_6 ly_6 (fun d4 => ?_)
      refine r_aload_n C 0 dX11_putFive_37 rfl rfl ?_
      refine r_iload_n C 1 dX11_putFive_38 rfl rfl ?_
      refine r_iconst C dX11_putFive_39 ?_
      refine r_iadd C dX11_putFive_40 ?_
      refine r_iload C 6 dX11_putFive_41 rfl ?_
      refine r_iast C dX11_putFive_43 la_6 ly_6 (fun d5 => ?_)
      exact r_vret C dX11_putFive_44 (by decide) (by decide)
    · exact r_vret C dX11_putFive_12 (by decide) (by decide)
theorem dX11_fingers_0 : decode cX11_fingers 0 = .ok (.aload_n 0, 1) := by decide +kernel
theorem dX11_fingers_1 : decode cX11_fingers 1 = .ok (.iload_n 1, 1) := by decide +kernel
theorem dX11_fingers_2 : decode cX11_fingers 2 = .ok (.invokevirtual 87, 3) := by decide +kernel
theorem dX11_fingers_5 : decode cX11_fingers 5 = .ok (.iconst 0, 1) := by decide +kernel
theorem dX11_fingers_6 : decode cX11_fingers 6 = .ok (.iload_n 2, 1) := by decide +kernel
theorem dX11_fingers_7 : decode cX11_fingers 7 = .ok (.iload_n 3, 1) := by decide +kernel
theorem dX11_fingers_8 : decode cX11_fingers 8 = .ok (.iload 4, 2) := by decide +kernel
theorem dX11_fingers_10 : decode cX11_fingers 10 = .ok (.iload 5, 2) := by decide +kernel
theorem dX11_fingers_12 : decode cX11_fingers 12 = .ok (.iload 6, 2) := by decide +kernel
theorem dX11_fingers_14 : decode cX11_fingers 14 = .ok (.invokestatic 91, 3) := by decide +kernel
theorem dX11_fingers_17 : decode cX11_fingers 17 = .ok (.aload_n 0, 1) := by decide +kernel
theorem dX11_fingers_18 : decode cX11_fingers 18 = .ok (.getfield 10, 3) := by decide +kernel
theorem dX11_fingers_21 : decode cX11_fingers 21 = .ok (.getfield 77, 3) := by decide +kernel
theorem dX11_fingers_24 : decode cX11_fingers 24 = .ok (.getfield 95, 3) := by decide +kernel
theorem dX11_fingers_27 : decode cX11_fingers 27 = .ok (.iload_n 1, 1) := by decide +kernel
theorem dX11_fingers_28 : decode cX11_fingers 28 = .ok (.iconst 5, 1) := by decide +kernel
theorem dX11_fingers_29 : decode cX11_fingers 29 = .ok (.imul, 1) := by decide +kernel
theorem dX11_fingers_30 : decode cX11_fingers 30 = .ok (.iload_n 2, 1) := by decide +kernel
theorem dX11_fingers_31 : decode cX11_fingers 31 = .ok (.iload_n 3, 1) := by decide +kernel
theorem dX11_fingers_32 : decode cX11_fingers 32 = .ok (.iload 4, 2) := by decide +kernel
theorem dX11_fingers_34 : decode cX11_fingers 34 = .ok (.iload 5, 2) := by decide +kernel
theorem dX11_fingers_36 : decode cX11_fingers 36 = .ok (.iload 6, 2) := by decide +kernel
theorem dX11_fingers_38 : decode cX11_fingers 38 = .ok (.invokestatic 99, 3) := by decide +kernel
theorem dX11_fingers_41 : decode cX11_fingers 41 = .ok (.return_, 1) := by decide +kernel
abbrev z_X11_fingers_0 : Z9 := (none, 0, 7, 42, 8, 147)
def m_X11_fingers_0 (p1 p2 p3 p4 p5 p6 : Int) (d : D9) : Option R9 := cl (m_X11_askHand_0 p1 d) (fun r1 d2 => cl (m_X11_askLengths 0 p2 p3 p4 p5 p6 d2) (fun r3 d4 => cl (m_X11_putFive_6 (p1 * 5) p2 p3 p4 p5 p6 d4) (fun r5 d6 => rt 0 d6)))
set_option maxRecDepth 100000 in
theorem t_X11_fingers_0 {G : G9} {l : Launch} (h1 : va_D (A9 G) (wl G (fun _ _ => 0))) (h2 : l.stackTraces = false) (p1 p2 p3 p4 p5 p6 : Int) (d : D9) : MT G l yX11_fingers cX11_fingers 7 z_X11_fingers_0 [rf G 0, i9 p1, i9 p2, i9 p3, i9 p4, i9 p5, i9 p6] d (m_X11_fingers_0 p1 p2 p3 p4 p5 p6 d) := by
  refine mt_of (own := RX11) (by decide) rfl (Nat.le_of_ble_eq_true rfl) h1 h2 [(0, rf G 0), (1, i9 p1), (2, i9 p2), (3, i9 p3), (4, i9 p4), (5, i9 p5), (6, i9 p6)] rfl (fun X hX C => ?_)
  unfold m_X11_fingers_0
  refine r_aload_n C 0 dX11_fingers_0 rfl rfl ?_
  refine r_iload_n C 1 dX11_fingers_1 rfl rfl ?_
  refine r_callV C [i9 p1, rf G 0] dX11_fingers_2 (t_X11_askHand_0 C.h1 C.h2 p1 d) mw_X11_87 mv_X11_askHand la_0 ly_0 rfl (by decide) (by decide) (by decide) rfl rfl (Nat.le_of_ble_eq_true rfl) (fun r1 d2 => ?_)
  show SS G X 7 _ _ 5 [(0, rf G 0), (1, i9 p1), (2, i9 p2), (3, i9 p3), (4, i9 p4), (5, i9 p5), (6, i9 p6)] [] d2 _
  refine r_iconst C dX11_fingers_5 ?_
  refine r_iload_n C 2 dX11_fingers_6 rfl rfl ?_
  refine r_iload_n C 3 dX11_fingers_7 rfl rfl ?_
  refine r_iload C 4 dX11_fingers_8 rfl ?_
  refine r_iload C 5 dX11_fingers_10 rfl ?_
  refine r_iload C 6 dX11_fingers_12 rfl ?_
  refine r_callS C [i9 p6, i9 p5, i9 p4, i9 p3, i9 p2, i9 0] dX11_fingers_14 (t_X11_askLengths C.h1 C.h2 0 p2 p3 p4 p5 p6 d2) mw_X11_91 ms_X11_askLengths (by decide) (by decide) (by decide) rfl rfl (Nat.le_of_ble_eq_true rfl) (fun r3 d4 => ?_)
  show SS G X 7 _ _ 17 [(0, rf G 0), (1, i9 p1), (2, i9 p2), (3, i9 p3), (4, i9 p4), (5, i9 p5), (6, i9 p6)] [] d4 _
  refine r_aload_n C 0 dX11_fingers_17 rfl rfl ?_
  refine r_getR C 1 dX11_fingers_18 fl_X11_10 la_0 ly_0 rfl rfl ?_
  refine r_getR C 2 dX11_fingers_21 fl_X11_77 la_1 ly_1 rfl rfl ?_
  refine r_getR C 6 dX11_fingers_24 fl_X11_95 la_2 ly_2 rfl rfl ?_
  refine r_iload_n C 1 dX11_fingers_27 rfl rfl ?_
  refine r_iconst C dX11_fingers_28 ?_
  refine r_imul C dX11_fingers_29 ?_
  refine r_iload_n C 2 dX11_fingers_30 rfl rfl ?_
  refine r_iload_n C 3 dX11_fingers_31 rfl rfl ?_
  refine r_iload C 4 dX11_fingers_32 rfl ?_
  refine r_iload C 5 dX11_fingers_34 rfl ?_
  refine r_iload C 6 dX11_fingers_36 rfl ?_
  refine r_callS C [i9 p6, i9 p5, i9 p4, i9 p3, i9 p2, i9 (p1 * 5), rf G 6] dX11_fingers_38 (t_X11_putFive_6 C.h1 C.h2 (p1 * 5) p2 p3 p4 p5 p6 d4) mw_X11_99 ms_X11_putFive (by decide) (by decide) (by decide) rfl rfl (Nat.le_of_ble_eq_true rfl) (fun r5 d6 => ?_)
  show SS G X 7 _ _ 41 [(0, rf G 0), (1, i9 p1), (2, i9 p2), (3, i9 p3), (4, i9 p4), (5, i9 p5), (6, i9 p6)] [] d6 _
  exact r_vret C dX11_fingers_41 (by decide) (by decide)
theorem dX3_isSign_0 : decode cX3_isSign 0 = .ok (.aload_n 0, 1) := by decide +kernel
theorem dX3_isSign_1 : decode cX3_isSign 1 = .ok (.getfield 9, 3) := by decide +kernel
theorem dX3_isSign_4 : decode cX3_isSign 4 = .ok (.iload_n 1, 1) := by decide +kernel
theorem dX3_isSign_5 : decode cX3_isSign 5 = .ok (.iaload, 1) := by decide +kernel
theorem dX3_isSign_6 : decode cX3_isSign 6 = .ok (.iconst 3, 1) := by decide +kernel
theorem dX3_isSign_7 : decode cX3_isSign 7 = .ok (.if_icmp .ne 17, 3) := by decide +kernel
theorem dX3_isSign_10 : decode cX3_isSign 10 = .ok (.aload_n 0, 1) := by decide +kernel
theorem dX3_isSign_11 : decode cX3_isSign 11 = .ok (.getfield 18, 3) := by decide +kernel
theorem dX3_isSign_14 : decode cX3_isSign 14 = .ok (.iload_n 1, 1) := by decide +kernel
theorem dX3_isSign_15 : decode cX3_isSign 15 = .ok (.iaload, 1) := by decide +kernel
theorem dX3_isSign_16 : decode cX3_isSign 16 = .ok (.iload_n 2, 1) := by decide +kernel
theorem dX3_isSign_17 : decode cX3_isSign 17 = .ok (.if_icmp .ne 7, 3) := by decide +kernel
theorem dX3_isSign_20 : decode cX3_isSign 20 = .ok (.iconst 1, 1) := by decide +kernel
theorem dX3_isSign_21 : decode cX3_isSign 21 = .ok (.goto 4, 3) := by decide +kernel
theorem dX3_isSign_24 : decode cX3_isSign 24 = .ok (.iconst 0, 1) := by decide +kernel
theorem dX3_isSign_25 : decode cX3_isSign 25 = .ok (.ireturn, 1) := by decide +kernel
abbrev z_X3_isSign_2 : Z9 := (some .boolean, 1, 0, 0, 1, 0)
def m_X3_isSign_2 (p1 p2 : Int) (d : D9) : Option R9 := ld d 3 30 p1 (fun t1 => if w32 t1 ≠ w32 3 then rt (0 % 2) d else ld d 5 30 p1 (fun t2 => if w32 t2 ≠ w32 p2 then rt (0 % 2) d else rt (1 % 2) d))
set_option maxRecDepth 100000 in
theorem t_X3_isSign_2 {G : G9} {l : Launch} (h1 : va_D (A9 G) (wl G (fun _ _ => 0))) (h2 : l.stackTraces = false) (p1 p2 : Int) (d : D9) : MT G l yX3_isSign cX3_isSign 3 z_X3_isSign_2 [rf G 2, i9 p1, i9 p2] d (m_X3_isSign_2 p1 p2 d) := by
  refine mt_of (own := RX3) (by decide) rfl (Nat.le_of_ble_eq_true rfl) h1 h2 [(0, rf G 2), (1, i9 p1), (2, i9 p2)] rfl (fun X hX C => ?_)
  unfold m_X3_isSign_2
  refine r_aload_n C 0 dX3_isSign_0 rfl rfl ?_
  refine r_getR C 3 dX3_isSign_1 fl_X3_9 la_2 ly_2 rfl rfl ?_
  refine r_iload_n C 1 dX3_isSign_4 rfl rfl ?_
  refine r_iald C dX3_isSign_5 la_3 ly_3 (fun t1 => ?_)
  refine r_iconst C dX3_isSign_6 ?_
  refine r_icmp_ne C 24 dX3_isSign_7 (by decide) (fun _ => ?_) (fun _ => ?_)
  · refine r_iconst C dX3_isSign_24 ?_
    exact r_zret C dX3_isSign_25 (by decide) (by decide)
  · refine r_aload_n C 0 dX3_isSign_10 rfl rfl ?_
    refine r_getR C 5 dX3_isSign_11 fl_X3_18 la_2 ly_2 rfl rfl ?_
    refine r_iload_n C 1 dX3_isSign_14 rfl rfl ?_
    refine r_iald C dX3_isSign_15 la_5 ly_5 (fun t2 => ?_)
    refine r_iload_n C 2 dX3_isSign_16 rfl rfl ?_
    refine r_icmp_ne C 24 dX3_isSign_17 (by decide) (fun _ => ?_) (fun _ => ?_)
    · refine r_iconst C dX3_isSign_24 ?_
      exact r_zret C dX3_isSign_25 (by decide) (by decide)
    · refine r_iconst C dX3_isSign_20 ?_
      refine r_goto C 25 dX3_isSign_21 (by decide) ?_
      exact r_zret C dX3_isSign_25 (by decide) (by decide)
theorem dX11_first_0 : decode cX11_first 0 = .ok (.iload_n 1, 1) := by decide +kernel
theorem dX11_first_1 : decode cX11_first 1 = .ok (.iconst 0, 1) := by decide +kernel
theorem dX11_first_2 : decode cX11_first 2 = .ok (.bipush 9, 2) := by decide +kernel
theorem dX11_first_4 : decode cX11_first 4 = .ok (.invokestatic 73, 3) := by decide +kernel
theorem dX11_first_7 : decode cX11_first 7 = .ok (.iconst (-1), 1) := by decide +kernel
theorem dX11_first_8 : decode cX11_first 8 = .ok (.istore_n 2, 1) := by decide +kernel
theorem dX11_first_9 : decode cX11_first 9 = .ok (.iconst (-1), 1) := by decide +kernel
theorem dX11_first_10 : decode cX11_first 10 = .ok (.istore_n 3, 1) := by decide +kernel
theorem dX11_first_11 : decode cX11_first 11 = .ok (.iconst 0, 1) := by decide +kernel
theorem dX11_first_12 : decode cX11_first 12 = .ok (.istore 4, 2) := by decide +kernel
theorem dX11_first_14 : decode cX11_first 14 = .ok (.iload 4, 2) := by decide +kernel
theorem dX11_first_16 : decode cX11_first 16 = .ok (.aload_n 0, 1) := by decide +kernel
theorem dX11_first_17 : decode cX11_first 17 = .ok (.getfield 10, 3) := by decide +kernel
theorem dX11_first_20 : decode cX11_first 20 = .ok (.getfield 77, 3) := by decide +kernel
theorem dX11_first_23 : decode cX11_first 23 = .ok (.getfield 278, 3) := by decide +kernel
theorem dX11_first_26 : decode cX11_first 26 = .ok (.if_icmp .ge 48, 3) := by decide +kernel
theorem dX11_first_29 : decode cX11_first 29 = .ok (.aload_n 0, 1) := by decide +kernel
theorem dX11_first_30 : decode cX11_first 30 = .ok (.getfield 10, 3) := by decide +kernel
theorem dX11_first_33 : decode cX11_first 33 = .ok (.getfield 77, 3) := by decide +kernel
theorem dX11_first_36 : decode cX11_first 36 = .ok (.iload 4, 2) := by decide +kernel
theorem dX11_first_38 : decode cX11_first 38 = .ok (.iload_n 1, 1) := by decide +kernel
theorem dX11_first_39 : decode cX11_first 39 = .ok (.invokevirtual 372, 3) := by decide +kernel
theorem dX11_first_42 : decode cX11_first 42 = .ok (.ifCond .eq 26, 3) := by decide +kernel
theorem dX11_first_45 : decode cX11_first 45 = .ok (.aload_n 0, 1) := by decide +kernel
theorem dX11_first_46 : decode cX11_first 46 = .ok (.getfield 10, 3) := by decide +kernel
theorem dX11_first_49 : decode cX11_first 49 = .ok (.iload 4, 2) := by decide +kernel
theorem dX11_first_51 : decode cX11_first 51 = .ok (.invokevirtual 275, 3) := by decide +kernel
theorem dX11_first_54 : decode cX11_first 54 = .ok (.istore 5, 2) := by decide +kernel
theorem dX11_first_56 : decode cX11_first 56 = .ok (.iload 5, 2) := by decide +kernel
theorem dX11_first_58 : decode cX11_first 58 = .ok (.iload_n 3, 1) := by decide +kernel
theorem dX11_first_59 : decode cX11_first 59 = .ok (.if_icmp .le 9, 3) := by decide +kernel
theorem dX11_first_62 : decode cX11_first 62 = .ok (.iload 5, 2) := by decide +kernel
theorem dX11_first_64 : decode cX11_first 64 = .ok (.istore_n 3, 1) := by decide +kernel
theorem dX11_first_65 : decode cX11_first 65 = .ok (.iload 4, 2) := by decide +kernel
theorem dX11_first_67 : decode cX11_first 67 = .ok (.istore_n 2, 1) := by decide +kernel
theorem dX11_first_68 : decode cX11_first 68 = .ok (.iinc 4 1, 3) := by decide +kernel
theorem dX11_first_71 : decode cX11_first 71 = .ok (.goto (-57), 3) := by decide +kernel
theorem dX11_first_74 : decode cX11_first 74 = .ok (.iload_n 2, 1) := by decide +kernel
theorem dX11_first_75 : decode cX11_first 75 = .ok (.ireturn, 1) := by decide +kernel
abbrev z_X11_first_0 : Z9 := (some .int, 1, 1, 6, 7, 122)
def b_X11_first_0_c14 (k_X11_first_0_c14 : Int → Int → Int → Int → D9 → Option R9) (v1 v2 v3 v4 : Int) (d : D9) : Option R9 := if w32 (d 2 0) ≤ w32 v4 then rt v2 d else cl (m_X3_isSign_2 v4 v1 d) (fun r1 d2 => if w32 r1 = 0 then k_X11_first_0_c14 v1 v2 v3 (v4 + 1) d2 else cl (m_X10_leastOf_1 v4 d2) (fun r3 d4 => if w32 r3 ≤ w32 v3 then k_X11_first_0_c14 v1 v2 v3 (v4 + 1) d4 else k_X11_first_0_c14 v1 v4 r3 (v4 + 1) d4))
def m_X11_first_0_c14 : Int → Int → Int → Int → D9 → Option R9 := fix9 (fun _ _ _ _ _ => none) (fun k => b_X11_first_0_c14 k) FU
def m_X11_first_0 (p1 : Int) (d : D9) : Option R9 := cl (m_X11_askWithin p1 0 9 d) (fun r1 d2 => m_X11_first_0_c14  p1 (-1) (-1) 0 d2)
set_option maxRecDepth 100000 in
theorem sb_X11_first_0_c14 {G : G9} {X : X9} (C : CX G X cX11_first 6 RX11 [] z_X11_first_0) (k_X11_first_0_c14 : Int → Int → Int → Int → D9 → Option R9) (hk_X11_first_0_c14 : ∀ (v1 v2 v3 v4 : Int) (d : D9), SS G X 6 1 6 14 [(0, rf G 0), (1, i9 v1), (2, i9 v2), (3, i9 v3), (4, i9 v4)] [] d (k_X11_first_0_c14 v1 v2 v3 v4 d)) : ∀ (v1 v2 v3 v4 : Int) (d : D9), SS G X 6 1 6 14 [(0, rf G 0), (1, i9 v1), (2, i9 v2), (3, i9 v3), (4, i9 v4)] [] d (b_X11_first_0_c14 k_X11_first_0_c14 v1 v2 v3 v4 d) := by
  intro v1 v2 v3 v4 d
  unfold b_X11_first_0_c14
  refine r_iload C 4 dX11_first_14 rfl ?_
  refine r_aload_n C 0 dX11_first_16 rfl rfl ?_
  refine r_getR C 1 dX11_first_17 fl_X11_10 la_0 ly_0 rfl rfl ?_
  refine r_getR C 2 dX11_first_20 fl_X11_77 la_1 ly_1 rfl rfl ?_
  refine r_getI C dX11_first_23 fl_X11_278 la_2 ly_2 rfl ?_
  refine r_icmp_ge C 74 dX11_first_26 (by decide) (fun _ => ?_) (fun _ => ?_)
  · refine r_iload_n C 2 dX11_first_74 rfl rfl ?_
    exact r_iret C dX11_first_75 (by decide) (by decide)
  · refine r_aload_n C 0 dX11_first_29 rfl rfl ?_
    refine r_getR C 1 dX11_first_30 fl_X11_10 la_0 ly_0 rfl rfl ?_
    refine r_getR C 2 dX11_first_33 fl_X11_77 la_1 ly_1 rfl rfl ?_
    refine r_iload C 4 dX11_first_36 rfl ?_
    refine r_iload_n C 1 dX11_first_38 rfl rfl ?_
    refine r_callV C [i9 v1, i9 v4, rf G 2] dX11_first_39 (t_X3_isSign_2 C.h1 C.h2 v4 v1 d) mw_X11_372 mv_X3_isSign la_2 ly_2 rfl (by decide) (by decide) (by decide) rfl rfl (Nat.le_of_ble_eq_true rfl) (fun r1 d2 => ?_)
    show SS G X 6 _ _ 42 [(0, rf G 0), (1, i9 v1), (2, i9 v2), (3, i9 v3), (4, i9 v4)] [i9 r1] d2 _
    refine r_if_eq C (b := 0) 68 dX11_first_42 (by decide) (fun _ => ?_) (fun _ => ?_)
    · refine r_iinc C 4 [(4, i9 (v4 + 1)), (0, rf G 0), (1, i9 v1), (2, i9 v2), (3, i9 v3)] dX11_first_68 rfl (by decide) rfl ?_
      refine r_goto C 14 dX11_first_71 (by decide) ?_
      refine ss_wide (k' := 1) (n' := 6) (by decide) (by decide) ?_
      refine ss_ls [(0, rf G 0), (1, i9 v1), (2, i9 v2), (3, i9 v3), (4, i9 (v4 + 1))] [1, 2, 3, 4, 0] rfl ?_
      exact hk_X11_first_0_c14 v1 v2 v3 (v4 + 1) d2
    · refine r_aload_n C 0 dX11_first_45 rfl rfl ?_
      refine r_getR C 1 dX11_first_46 fl_X11_10 la_0 ly_0 rfl rfl ?_
      refine r_iload C 4 dX11_first_49 rfl ?_
      refine r_callV C [i9 v4, rf G 1] dX11_first_51 (t_X10_leastOf_1 C.h1 C.h2 v4 d2) mw_X11_275 mv_X10_leastOf la_1 ly_1 rfl (by decide) (by decide) (by decide) rfl rfl (Nat.le_of_ble_eq_true rfl) (fun r3 d4 => ?_)
      show SS G X 6 _ _ 54 [(0, rf G 0), (1, i9 v1), (2, i9 v2), (3, i9 v3), (4, i9 v4)] [i9 r3] d4 _
      refine r_istore C [(5, i9 r3), (0, rf G 0), (1, i9 v1), (2, i9 v2), (3, i9 v3), (4, i9 v4)] dX11_first_54 (by decide) rfl ?_
      refine r_iload C 0 dX11_first_56 rfl ?_
      refine r_iload_n C 4 dX11_first_58 rfl rfl ?_
      refine r_icmp_le C 68 dX11_first_59 (by decide) (fun _ => ?_) (fun _ => ?_)
      · refine r_iinc C 5 [(4, i9 (v4 + 1)), (5, i9 r3), (0, rf G 0), (1, i9 v1), (2, i9 v2), (3, i9 v3)] dX11_first_68 rfl (by decide) rfl ?_
        refine r_goto C 14 dX11_first_71 (by decide) ?_
        refine ss_wide (k' := 1) (n' := 6) (by decide) (by decide) ?_
        refine ss_ls [(0, rf G 0), (1, i9 v1), (2, i9 v2), (3, i9 v3), (4, i9 (v4 + 1))] [2, 3, 4, 5, 0] rfl ?_
        exact hk_X11_first_0_c14 v1 v2 v3 (v4 + 1) d4
      · refine r_iload C 0 dX11_first_62 rfl ?_
        refine r_istore_n C [(3, i9 r3), (5, i9 r3), (0, rf G 0), (1, i9 v1), (2, i9 v2), (4, i9 v4)] dX11_first_64 rfl (by decide) rfl ?_
        refine r_iload C 5 dX11_first_65 rfl ?_
        refine r_istore_n C [(2, i9 v4), (3, i9 r3), (5, i9 r3), (0, rf G 0), (1, i9 v1), (4, i9 v4)] dX11_first_67 rfl (by decide) rfl ?_
        refine r_iinc C 5 [(4, i9 (v4 + 1)), (2, i9 v4), (3, i9 r3), (5, i9 r3), (0, rf G 0), (1, i9 v1)] dX11_first_68 rfl (by decide) rfl ?_
        refine r_goto C 14 dX11_first_71 (by decide) ?_
        refine ss_wide (k' := 1) (n' := 6) (by decide) (by decide) ?_
        refine ss_ls [(0, rf G 0), (1, i9 v1), (2, i9 v4), (3, i9 r3), (4, i9 (v4 + 1))] [4, 5, 1, 2, 0] rfl ?_
        exact hk_X11_first_0_c14 v1 v4 r3 (v4 + 1) d4
theorem s_X11_first_0_c14 {G : G9} {X : X9} (C : CX G X cX11_first 6 RX11 [] z_X11_first_0) : ∀ (v1 v2 v3 v4 : Int) (d : D9), SS G X 6 1 6 14 [(0, rf G 0), (1, i9 v1), (2, i9 v2), (3, i9 v3), (4, i9 v4)] [] d (m_X11_first_0_c14  v1 v2 v3 v4 d) :=
  fix9_ind (P := fun k => ∀ (v1 v2 v3 v4 : Int) (d : D9), SS G X 6 1 6 14 [(0, rf G 0), (1, i9 v1), (2, i9 v2), (3, i9 v3), (4, i9 v4)] [] d (k v1 v2 v3 v4 d)) (fun _ _ _ _ _ => ss_none) (fun k hk => sb_X11_first_0_c14 C k hk) FU
set_option maxRecDepth 100000 in
theorem t_X11_first_0 {G : G9} {l : Launch} (h1 : va_D (A9 G) (wl G (fun _ _ => 0))) (h2 : l.stackTraces = false) (p1 : Int) (d : D9) : MT G l yX11_first cX11_first 6 z_X11_first_0 [rf G 0, i9 p1] d (m_X11_first_0 p1 d) := by
  refine mt_of (own := RX11) (by decide) rfl (Nat.le_of_ble_eq_true rfl) h1 h2 [(0, rf G 0), (1, i9 p1)] rfl (fun X hX C => ?_)
  unfold m_X11_first_0
  refine r_iload_n C 1 dX11_first_0 rfl rfl ?_
  refine r_iconst C dX11_first_1 ?_
  refine r_bipush C dX11_first_2 rfl ?_
  refine r_callS C [i9 9, i9 0, i9 p1] dX11_first_4 (t_X11_askWithin C.h1 C.h2 p1 0 9 d) mw_X11_73 ms_X11_askWithin (by decide) (by decide) (by decide) rfl rfl (Nat.le_of_ble_eq_true rfl) (fun r1 d2 => ?_)
  show SS G X 6 _ _ 7 [(0, rf G 0), (1, i9 p1)] [] d2 _
  refine r_iconst C dX11_first_7 ?_
  refine r_istore_n C [(2, i9 (-1)), (0, rf G 0), (1, i9 p1)] dX11_first_8 rfl (by decide) rfl ?_
  refine r_iconst C dX11_first_9 ?_
  refine r_istore_n C [(3, i9 (-1)), (2, i9 (-1)), (0, rf G 0), (1, i9 p1)] dX11_first_10 rfl (by decide) rfl ?_
  refine r_iconst C dX11_first_11 ?_
  refine r_istore C [(4, i9 0), (3, i9 (-1)), (2, i9 (-1)), (0, rf G 0), (1, i9 p1)] dX11_first_12 (by decide) rfl ?_
  refine ss_wide (k' := 1) (n' := 6) (by decide) (by decide) ?_
  refine ss_ls [(0, rf G 0), (1, i9 p1), (2, i9 (-1)), (3, i9 (-1)), (4, i9 0)] [3, 4, 2, 1, 0] rfl ?_
  exact s_X11_first_0_c14 C  p1 (-1) (-1) 0 d2
theorem dX11_follow_0 : decode cX11_follow 0 = .ok (.iload_n 1, 1) := by decide +kernel
theorem dX11_follow_1 : decode cX11_follow 1 = .ok (.iconst 0, 1) := by decide +kernel
theorem dX11_follow_2 : decode cX11_follow 2 = .ok (.sipush 999, 3) := by decide +kernel
theorem dX11_follow_5 : decode cX11_follow 5 = .ok (.invokestatic 73, 3) := by decide +kernel
theorem dX11_follow_8 : decode cX11_follow 8 = .ok (.aload_n 0, 1) := by decide +kernel
theorem dX11_follow_9 : decode cX11_follow 9 = .ok (.getfield 69, 3) := by decide +kernel
theorem dX11_follow_12 : decode cX11_follow 12 = .ok (.aload_n 0, 1) := by decide +kernel
theorem dX11_follow_13 : decode cX11_follow 13 = .ok (.getfield 10, 3) := by decide +kernel
theorem dX11_follow_16 : decode cX11_follow 16 = .ok (.iload_n 1, 1) := by decide +kernel
theorem dX11_follow_17 : decode cX11_follow 17 = .ok (.invokevirtual 388, 3) := by decide +kernel
theorem dX11_follow_20 : decode cX11_follow 20 = .ok (.iload_n 2, 1) := by decide +kernel
theorem dX11_follow_21 : decode cX11_follow 21 = .ok (.iconst (-1), 1) := by decide +kernel
theorem dX11_follow_22 : decode cX11_follow 22 = .ok (.if_icmp .ne 11, 3) := by decide +kernel
theorem dX11_follow_25 : decode cX11_follow 25 = .ok (.aload_n 0, 1) := by decide +kernel
theorem dX11_follow_26 : decode cX11_follow 26 = .ok (.getfield 69, 3) := by decide +kernel
theorem dX11_follow_29 : decode cX11_follow 29 = .ok (.getfield 392, 3) := by decide +kernel
theorem dX11_follow_32 : decode cX11_follow 32 = .ok (.ireturn, 1) := by decide +kernel
theorem dX11_follow_33 : decode cX11_follow 33 = .ok (.iload_n 2, 1) := by decide +kernel
theorem dX11_follow_34 : decode cX11_follow 34 = .ok (.ifCond .lt 26, 3) := by decide +kernel
theorem dX11_follow_37 : decode cX11_follow 37 = .ok (.iload_n 2, 1) := by decide +kernel
theorem dX11_follow_38 : decode cX11_follow 38 = .ok (.aload_n 0, 1) := by decide +kernel
theorem dX11_follow_39 : decode cX11_follow 39 = .ok (.getfield 69, 3) := by decide +kernel
theorem dX11_follow_42 : decode cX11_follow 42 = .ok (.getfield 392, 3) := by decide +kernel
theorem dX11_follow_45 : decode cX11_follow 45 = .ok (.if_icmp .ge 15, 3) := by decide +kernel
theorem dX11_follow_48 : decode cX11_follow 48 = .ok (.aload_n 0, 1) := by decide +kernel
theorem dX11_follow_49 : decode cX11_follow 49 = .ok (.getfield 69, 3) := by decide +kernel
theorem dX11_follow_52 : decode cX11_follow 52 = .ok (.getfield 395, 3) := by decide +kernel
theorem dX11_follow_55 : decode cX11_follow 55 = .ok (.iload_n 2, 1) := by decide +kernel
theorem dX11_follow_56 : decode cX11_follow 56 = .ok (.iaload, 1) := by decide +kernel
theorem dX11_follow_57 : decode cX11_follow 57 = .ok (.goto 4, 3) := by decide +kernel
theorem dX11_follow_60 : decode cX11_follow 60 = .ok (.iconst (-1), 1) := by decide +kernel
theorem dX11_follow_61 : decode cX11_follow 61 = .ok (.ireturn, 1) := by decide +kernel
abbrev z_X11_follow_0 : Z9 := (some .int, 1, 1, 6, 7, 151)
def m_X11_follow_0 (p1 p2 : Int) (d : D9) : Option R9 := cl (m_X11_askWithin p1 0 999 d) (fun r1 d2 => cl (m_X5_makeRow_58_1 p1 d2) (fun r3 d4 => if w32 p2 ≠ w32 (-1) then if w32 p2 < 0 then rt (-1) d4 else if w32 (d4 58 3) ≤ w32 p2 then rt (-1) d4 else ld d4 59 30 p2 (fun t5 => rt t5 d4) else rt (d4 58 3) d4))
set_option maxRecDepth 100000 in
theorem t_X11_follow_0 {G : G9} {l : Launch} (h1 : va_D (A9 G) (wl G (fun _ _ => 0))) (h2 : l.stackTraces = false) (p1 p2 : Int) (d : D9) : MT G l yX11_follow cX11_follow 3 z_X11_follow_0 [rf G 0, i9 p1, i9 p2] d (m_X11_follow_0 p1 p2 d) := by
  refine mt_of (own := RX11) (by decide) rfl (Nat.le_of_ble_eq_true rfl) h1 h2 [(0, rf G 0), (1, i9 p1), (2, i9 p2)] rfl (fun X hX C => ?_)
  unfold m_X11_follow_0
  refine r_iload_n C 1 dX11_follow_0 rfl rfl ?_
  refine r_iconst C dX11_follow_1 ?_
  refine r_sipush C dX11_follow_2 rfl ?_
  refine r_callS C [i9 999, i9 0, i9 p1] dX11_follow_5 (t_X11_askWithin C.h1 C.h2 p1 0 999 d) mw_X11_73 ms_X11_askWithin (by decide) (by decide) (by decide) rfl rfl (Nat.le_of_ble_eq_true rfl) (fun r1 d2 => ?_)
  show SS G X 3 _ _ 8 [(0, rf G 0), (1, i9 p1), (2, i9 p2)] [] d2 _
  refine r_aload_n C 0 dX11_follow_8 rfl rfl ?_
  refine r_getR C 58 dX11_follow_9 fl_X11_69 la_0 ly_0 rfl rfl ?_
  refine r_aload_n C 0 dX11_follow_12 rfl rfl ?_
  refine r_getR C 1 dX11_follow_13 fl_X11_10 la_0 ly_0 rfl rfl ?_
  refine r_iload_n C 1 dX11_follow_16 rfl rfl ?_
  refine r_callV C [i9 p1, rf G 1, rf G 58] dX11_follow_17 (t_X5_makeRow_58_1 C.h1 C.h2 p1 d2) mw_X11_388 mv_X5_makeRow la_58 ly_58 rfl (by decide) (by decide) (by decide) rfl rfl (Nat.le_of_ble_eq_true rfl) (fun r3 d4 => ?_)
  show SS G X 3 _ _ 20 [(0, rf G 0), (1, i9 p1), (2, i9 p2)] [] d4 _
  refine r_iload_n C 2 dX11_follow_20 rfl rfl ?_
  refine r_iconst C dX11_follow_21 ?_
  refine r_icmp_ne C 33 dX11_follow_22 (by decide) (fun _ => ?_) (fun _ => ?_)
  · refine r_iload_n C 2 dX11_follow_33 rfl rfl ?_
    refine r_if_lt C (b := 0) 60 dX11_follow_34 (by decide) (fun _ => ?_) (fun _ => ?_)
    · refine r_iconst C dX11_follow_60 ?_
      exact r_iret C dX11_follow_61 (by decide) (by decide)
    · refine r_iload_n C 2 dX11_follow_37 rfl rfl ?_
      refine r_aload_n C 0 dX11_follow_38 rfl rfl ?_
      refine r_getR C 58 dX11_follow_39 fl_X11_69 la_0 ly_0 rfl rfl ?_
      refine r_getI C dX11_follow_42 fl_X11_392 la_58 ly_58 rfl ?_
      refine r_icmp_ge C 60 dX11_follow_45 (by decide) (fun _ => ?_) (fun _ => ?_)
      · refine r_iconst C dX11_follow_60 ?_
        exact r_iret C dX11_follow_61 (by decide) (by decide)
      · refine r_aload_n C 0 dX11_follow_48 rfl rfl ?_
        refine r_getR C 58 dX11_follow_49 fl_X11_69 la_0 ly_0 rfl rfl ?_
        refine r_getR C 59 dX11_follow_52 fl_X11_395 la_58 ly_58 rfl rfl ?_
        refine r_iload_n C 2 dX11_follow_55 rfl rfl ?_
        refine r_iald C dX11_follow_56 la_59 ly_59 (fun t5 => ?_)
        refine r_goto C 61 dX11_follow_57 (by decide) ?_
        exact r_iret C dX11_follow_61 (by decide) (by decide)
  · refine r_aload_n C 0 dX11_follow_25 rfl rfl ?_
    refine r_getR C 58 dX11_follow_26 fl_X11_69 la_0 ly_0 rfl rfl ?_
    refine r_getI C dX11_follow_29 fl_X11_392 la_58 ly_58 rfl ?_
    exact r_iret C dX11_follow_32 (by decide) (by decide)
theorem dX11_askImage_0 : decode cX11_askImage 0 = .ok (.iload_n 0, 1) := by decide +kernel
theorem dX11_askImage_1 : decode cX11_askImage 1 = .ok (.ifCond .lt 8, 3) := by decide +kernel
theorem dX11_askImage_4 : decode cX11_askImage 4 = .ok (.iload_n 0, 1) := by decide +kernel
theorem dX11_askImage_5 : decode cX11_askImage 5 = .ok (.iconst 3, 1) := by decide +kernel
theorem dX11_askImage_6 : decode cX11_askImage 6 = .ok (.if_icmp .lt 14, 3) := by decide +kernel
theorem dX11_askImage_9 : decode cX11_askImage 9 = .ok (.new 218, 3) := by decide +kernel
theorem dX11_askImage_12 : decode cX11_askImage 12 = .ok (.dup, 1) := by decide +kernel
theorem dX11_askImage_13 : decode cX11_askImage 13 = .ok (.ldc_w 463, 3) := by decide +kernel
theorem dX11_askImage_16 : decode cX11_askImage 16 = .ok (.invokespecial 222, 3) := by decide +kernel
theorem dX11_askImage_19 : decode cX11_askImage 19 = .ok (.athrow, 1) := by decide +kernel
theorem dX11_askImage_20 : decode cX11_askImage 20 = .ok (.return_, 1) := by decide +kernel
abbrev z_X11_askImage : Z9 := (none, 0, 1, 6, 6, 100)
def m_X11_askImage_c9 (d : D9) : Option R9 := th 2 d
def m_X11_askImage (p0 : Int) (d : D9) : Option R9 := if w32 p0 < 0 then m_X11_askImage_c9   d else if w32 p0 < w32 3 then rt 0 d else m_X11_askImage_c9   d
set_option maxRecDepth 100000 in
theorem s_X11_askImage_c9 {G : G9} {X : X9} (C : CX G X cX11_askImage 1 RX11 [] z_X11_askImage) : ∀ (d : D9), SS G X 1 0 0 9 [] [] d (m_X11_askImage_c9   d) := by
  intro  d
  unfold m_X11_askImage_c9
  exact r_throwNW C 13 rfl tn_222 tc_2 dX11_askImage_9 dX11_askImage_12 dX11_askImage_13 dX11_askImage_16 dX11_askImage_19 (by decide) (by decide) (by decide) (by decide)
set_option maxRecDepth 100000 in
theorem t_X11_askImage {G : G9} {l : Launch} (h1 : va_D (A9 G) (wl G (fun _ _ => 0))) (h2 : l.stackTraces = false) (p0 : Int) (d : D9) : MT G l yX11_askImage cX11_askImage 1 z_X11_askImage [i9 p0] d (m_X11_askImage p0 d) := by
  refine mt_of (own := RX11) (by decide) rfl (Nat.le_of_ble_eq_true rfl) h1 h2 [(0, i9 p0)] rfl (fun X hX C => ?_)
  unfold m_X11_askImage
  refine r_iload_n C 0 dX11_askImage_0 rfl rfl ?_
  refine r_if_lt C (b := 0) 9 dX11_askImage_1 (by decide) (fun _ => ?_) (fun _ => ?_)
  · refine ss_wide (k' := 0) (n' := 0) (by decide) (by decide) ?_
    refine ss_ls [] [] rfl ?_
    exact s_X11_askImage_c9 C   d
  · refine r_iload_n C 0 dX11_askImage_4 rfl rfl ?_
    refine r_iconst C dX11_askImage_5 ?_
    refine r_icmp_lt C 20 dX11_askImage_6 (by decide) (fun _ => ?_) (fun _ => ?_)
    · exact r_vret C dX11_askImage_20 (by decide) (by decide)
    · refine ss_wide (k' := 0) (n' := 0) (by decide) (by decide) ?_
      refine ss_ls [] [] rfl ?_
      exact s_X11_askImage_c9 C   d
theorem dX11_copyRow_0 : decode cX11_copyRow 0 = .ok (.aload_n 0, 1) := by decide +kernel
theorem dX11_copyRow_1 : decode cX11_copyRow 1 = .ok (.iconst 0, 1) := by decide +kernel
theorem dX11_copyRow_2 : decode cX11_copyRow 2 = .ok (.aload_n 1, 1) := by decide +kernel
theorem dX11_copyRow_3 : decode cX11_copyRow 3 = .ok (.iconst 0, 1) := by decide +kernel
theorem dX11_copyRow_4 : decode cX11_copyRow 4 = .ok (.aload_n 0, 1) := by decide +kernel
theorem dX11_copyRow_5 : decode cX11_copyRow 5 = .ok (.arraylength, 1) := by decide +kernel
theorem dX11_copyRow_6 : decode cX11_copyRow 6 = .ok (.aload_n 1, 1) := by decide +kernel
theorem dX11_copyRow_7 : decode cX11_copyRow 7 = .ok (.arraylength, 1) := by decide +kernel
theorem dX11_copyRow_8 : decode cX11_copyRow 8 = .ok (.invokestatic 465, 3) := by decide +kernel
theorem dX11_copyRow_11 : decode cX11_copyRow 11 = .ok (.invokestatic 470, 3) := by decide +kernel
theorem dX11_copyRow_14 : decode cX11_copyRow 14 = .ok (.return_, 1) := by decide +kernel
abbrev z_X11_copyRow_3_65 : Z9 := (none, 0, 0, 0, 2, 200)
def m_X11_copyRow_3_65 (d : D9) : Option R9 := cp9 d 3 30 65 30 (min9 30 30) (fun d1 => rt 0 d1)
set_option maxRecDepth 100000 in
theorem t_X11_copyRow_3_65 {G : G9} {l : Launch} (h1 : va_D (A9 G) (wl G (fun _ _ => 0))) (h2 : l.stackTraces = false) (d : D9) : MT G l yX11_copyRow cX11_copyRow 2 z_X11_copyRow_3_65 [rf G 3, rf G 65] d (m_X11_copyRow_3_65  d) := by
  refine mt_of (own := RX11) (by decide) rfl (Nat.le_of_ble_eq_true rfl) h1 h2 [(0, rf G 3), (1, rf G 65)] rfl (fun X hX C => ?_)
  unfold m_X11_copyRow_3_65
  refine r_aload_n C 0 dX11_copyRow_0 rfl rfl ?_
  refine r_iconst C dX11_copyRow_1 ?_
  refine r_aload_n C 1 dX11_copyRow_2 rfl rfl ?_
  refine r_iconst C dX11_copyRow_3 ?_
  refine r_aload_n C 0 dX11_copyRow_4 rfl rfl ?_
  refine r_alen C dX11_copyRow_5 la_3 ly_3 ?_
  refine r_aload_n C 1 dX11_copyRow_6 rfl rfl ?_
  refine r_alen C dX11_copyRow_7 la_65 ly_65 ?_
  refine r_mmin C dX11_copyRow_8 mm_X11_465 ⟨Nat.le_of_ble_eq_true rfl, Nat.le_of_ble_eq_true rfl⟩ (by decide) (by decide) ?_
  refine r_acopy C dX11_copyRow_11 aw_X11_470 la_3 ly_3 la_65 ly_65 (by decide) (Nat.le_of_ble_eq_true rfl) (fun d1 => ?_)
  exact r_vret C dX11_copyRow_14 (by decide) (by decide)
theorem n_X11_copyRow_3_65 (d : D9) : NT9 (m_X11_copyRow_3_65  d) := by
  unfold m_X11_copyRow_3_65
  repeat (first | exact nt_rt | exact nt_none | apply nt_if | refine nt_cl ?_ (fun _ _ => ?_) | refine nt_cp9 (fun _ => ?_))
abbrev z_X11_copyRow_4_66 : Z9 := (none, 0, 0, 0, 2, 200)
def m_X11_copyRow_4_66 (d : D9) : Option R9 := cp9 d 4 30 66 30 (min9 30 30) (fun d1 => rt 0 d1)
set_option maxRecDepth 100000 in
theorem t_X11_copyRow_4_66 {G : G9} {l : Launch} (h1 : va_D (A9 G) (wl G (fun _ _ => 0))) (h2 : l.stackTraces = false) (d : D9) : MT G l yX11_copyRow cX11_copyRow 2 z_X11_copyRow_4_66 [rf G 4, rf G 66] d (m_X11_copyRow_4_66  d) := by
  refine mt_of (own := RX11) (by decide) rfl (Nat.le_of_ble_eq_true rfl) h1 h2 [(0, rf G 4), (1, rf G 66)] rfl (fun X hX C => ?_)
  unfold m_X11_copyRow_4_66
  refine r_aload_n C 0 dX11_copyRow_0 rfl rfl ?_
  refine r_iconst C dX11_copyRow_1 ?_
  refine r_aload_n C 1 dX11_copyRow_2 rfl rfl ?_
  refine r_iconst C dX11_copyRow_3 ?_
  refine r_aload_n C 0 dX11_copyRow_4 rfl rfl ?_
  refine r_alen C dX11_copyRow_5 la_4 ly_4 ?_
  refine r_aload_n C 1 dX11_copyRow_6 rfl rfl ?_
  refine r_alen C dX11_copyRow_7 la_66 ly_66 ?_
  refine r_mmin C dX11_copyRow_8 mm_X11_465 ⟨Nat.le_of_ble_eq_true rfl, Nat.le_of_ble_eq_true rfl⟩ (by decide) (by decide) ?_
  refine r_acopy C dX11_copyRow_11 aw_X11_470 la_4 ly_4 la_66 ly_66 (by decide) (Nat.le_of_ble_eq_true rfl) (fun d1 => ?_)
  exact r_vret C dX11_copyRow_14 (by decide) (by decide)
theorem n_X11_copyRow_4_66 (d : D9) : NT9 (m_X11_copyRow_4_66  d) := by
  unfold m_X11_copyRow_4_66
  repeat (first | exact nt_rt | exact nt_none | apply nt_if | refine nt_cl ?_ (fun _ _ => ?_) | refine nt_cp9 (fun _ => ?_))
abbrev z_X11_copyRow_5_67 : Z9 := (none, 0, 0, 0, 2, 200)
def m_X11_copyRow_5_67 (d : D9) : Option R9 := cp9 d 5 30 67 30 (min9 30 30) (fun d1 => rt 0 d1)
set_option maxRecDepth 100000 in
theorem t_X11_copyRow_5_67 {G : G9} {l : Launch} (h1 : va_D (A9 G) (wl G (fun _ _ => 0))) (h2 : l.stackTraces = false) (d : D9) : MT G l yX11_copyRow cX11_copyRow 2 z_X11_copyRow_5_67 [rf G 5, rf G 67] d (m_X11_copyRow_5_67  d) := by
  refine mt_of (own := RX11) (by decide) rfl (Nat.le_of_ble_eq_true rfl) h1 h2 [(0, rf G 5), (1, rf G 67)] rfl (fun X hX C => ?_)
  unfold m_X11_copyRow_5_67
  refine r_aload_n C 0 dX11_copyRow_0 rfl rfl ?_
  refine r_iconst C dX11_copyRow_1 ?_
  refine r_aload_n C 1 dX11_copyRow_2 rfl rfl ?_
  refine r_iconst C dX11_copyRow_3 ?_
  refine r_aload_n C 0 dX11_copyRow_4 rfl rfl ?_
  refine r_alen C dX11_copyRow_5 la_5 ly_5 ?_
  refine r_aload_n C 1 dX11_copyRow_6 rfl rfl ?_
  refine r_alen C dX11_copyRow_7 la_67 ly_67 ?_
  refine r_mmin C dX11_copyRow_8 mm_X11_465 ⟨Nat.le_of_ble_eq_true rfl, Nat.le_of_ble_eq_true rfl⟩ (by decide) (by decide) ?_
  refine r_acopy C dX11_copyRow_11 aw_X11_470 la_5 ly_5 la_67 ly_67 (by decide) (Nat.le_of_ble_eq_true rfl) (fun d1 => ?_)
  exact r_vret C dX11_copyRow_14 (by decide) (by decide)
theorem n_X11_copyRow_5_67 (d : D9) : NT9 (m_X11_copyRow_5_67  d) := by
  unfold m_X11_copyRow_5_67
  repeat (first | exact nt_rt | exact nt_none | apply nt_if | refine nt_cl ?_ (fun _ _ => ?_) | refine nt_cp9 (fun _ => ?_))
abbrev z_X11_copyRow_6_68 : Z9 := (none, 0, 0, 0, 2, 200)
def m_X11_copyRow_6_68 (d : D9) : Option R9 := cp9 d 6 150 68 150 (min9 150 150) (fun d1 => rt 0 d1)
set_option maxRecDepth 100000 in
theorem t_X11_copyRow_6_68 {G : G9} {l : Launch} (h1 : va_D (A9 G) (wl G (fun _ _ => 0))) (h2 : l.stackTraces = false) (d : D9) : MT G l yX11_copyRow cX11_copyRow 2 z_X11_copyRow_6_68 [rf G 6, rf G 68] d (m_X11_copyRow_6_68  d) := by
  refine mt_of (own := RX11) (by decide) rfl (Nat.le_of_ble_eq_true rfl) h1 h2 [(0, rf G 6), (1, rf G 68)] rfl (fun X hX C => ?_)
  unfold m_X11_copyRow_6_68
  refine r_aload_n C 0 dX11_copyRow_0 rfl rfl ?_
  refine r_iconst C dX11_copyRow_1 ?_
  refine r_aload_n C 1 dX11_copyRow_2 rfl rfl ?_
  refine r_iconst C dX11_copyRow_3 ?_
  refine r_aload_n C 0 dX11_copyRow_4 rfl rfl ?_
  refine r_alen C dX11_copyRow_5 la_6 ly_6 ?_
  refine r_aload_n C 1 dX11_copyRow_6 rfl rfl ?_
  refine r_alen C dX11_copyRow_7 la_68 ly_68 ?_
  refine r_mmin C dX11_copyRow_8 mm_X11_465 ⟨Nat.le_of_ble_eq_true rfl, Nat.le_of_ble_eq_true rfl⟩ (by decide) (by decide) ?_
  refine r_acopy C dX11_copyRow_11 aw_X11_470 la_6 ly_6 la_68 ly_68 (by decide) (Nat.le_of_ble_eq_true rfl) (fun d1 => ?_)
  exact r_vret C dX11_copyRow_14 (by decide) (by decide)
theorem n_X11_copyRow_6_68 (d : D9) : NT9 (m_X11_copyRow_6_68  d) := by
  unfold m_X11_copyRow_6_68
  repeat (first | exact nt_rt | exact nt_none | apply nt_if | refine nt_cl ?_ (fun _ _ => ?_) | refine nt_cp9 (fun _ => ?_))
abbrev z_X11_copyRow_7_69 : Z9 := (none, 0, 0, 0, 2, 200)
def m_X11_copyRow_7_69 (d : D9) : Option R9 := cp9 d 7 30 69 30 (min9 30 30) (fun d1 => rt 0 d1)
set_option maxRecDepth 100000 in
theorem t_X11_copyRow_7_69 {G : G9} {l : Launch} (h1 : va_D (A9 G) (wl G (fun _ _ => 0))) (h2 : l.stackTraces = false) (d : D9) : MT G l yX11_copyRow cX11_copyRow 2 z_X11_copyRow_7_69 [rf G 7, rf G 69] d (m_X11_copyRow_7_69  d) := by
  refine mt_of (own := RX11) (by decide) rfl (Nat.le_of_ble_eq_true rfl) h1 h2 [(0, rf G 7), (1, rf G 69)] rfl (fun X hX C => ?_)
  unfold m_X11_copyRow_7_69
  refine r_aload_n C 0 dX11_copyRow_0 rfl rfl ?_
  refine r_iconst C dX11_copyRow_1 ?_
  refine r_aload_n C 1 dX11_copyRow_2 rfl rfl ?_
  refine r_iconst C dX11_copyRow_3 ?_
  refine r_aload_n C 0 dX11_copyRow_4 rfl rfl ?_
  refine r_alen C dX11_copyRow_5 la_7 ly_7 ?_
  refine r_aload_n C 1 dX11_copyRow_6 rfl rfl ?_
  refine r_alen C dX11_copyRow_7 la_69 ly_69 ?_
  refine r_mmin C dX11_copyRow_8 mm_X11_465 ⟨Nat.le_of_ble_eq_true rfl, Nat.le_of_ble_eq_true rfl⟩ (by decide) (by decide) ?_
  refine r_acopy C dX11_copyRow_11 aw_X11_470 la_7 ly_7 la_69 ly_69 (by decide) (Nat.le_of_ble_eq_true rfl) (fun d1 => ?_)
  exact r_vret C dX11_copyRow_14 (by decide) (by decide)
theorem n_X11_copyRow_7_69 (d : D9) : NT9 (m_X11_copyRow_7_69  d) := by
  unfold m_X11_copyRow_7_69
  repeat (first | exact nt_rt | exact nt_none | apply nt_if | refine nt_cl ?_ (fun _ _ => ?_) | refine nt_cp9 (fun _ => ?_))
abbrev z_X11_copyRow_8_70 : Z9 := (none, 0, 0, 0, 2, 200)
def m_X11_copyRow_8_70 (d : D9) : Option R9 := cp9 d 8 30 70 30 (min9 30 30) (fun d1 => rt 0 d1)
set_option maxRecDepth 100000 in
theorem t_X11_copyRow_8_70 {G : G9} {l : Launch} (h1 : va_D (A9 G) (wl G (fun _ _ => 0))) (h2 : l.stackTraces = false) (d : D9) : MT G l yX11_copyRow cX11_copyRow 2 z_X11_copyRow_8_70 [rf G 8, rf G 70] d (m_X11_copyRow_8_70  d) := by
  refine mt_of (own := RX11) (by decide) rfl (Nat.le_of_ble_eq_true rfl) h1 h2 [(0, rf G 8), (1, rf G 70)] rfl (fun X hX C => ?_)
  unfold m_X11_copyRow_8_70
  refine r_aload_n C 0 dX11_copyRow_0 rfl rfl ?_
  refine r_iconst C dX11_copyRow_1 ?_
  refine r_aload_n C 1 dX11_copyRow_2 rfl rfl ?_
  refine r_iconst C dX11_copyRow_3 ?_
  refine r_aload_n C 0 dX11_copyRow_4 rfl rfl ?_
  refine r_alen C dX11_copyRow_5 la_8 ly_8 ?_
  refine r_aload_n C 1 dX11_copyRow_6 rfl rfl ?_
  refine r_alen C dX11_copyRow_7 la_70 ly_70 ?_
  refine r_mmin C dX11_copyRow_8 mm_X11_465 ⟨Nat.le_of_ble_eq_true rfl, Nat.le_of_ble_eq_true rfl⟩ (by decide) (by decide) ?_
  refine r_acopy C dX11_copyRow_11 aw_X11_470 la_8 ly_8 la_70 ly_70 (by decide) (Nat.le_of_ble_eq_true rfl) (fun d1 => ?_)
  exact r_vret C dX11_copyRow_14 (by decide) (by decide)
theorem n_X11_copyRow_8_70 (d : D9) : NT9 (m_X11_copyRow_8_70  d) := by
  unfold m_X11_copyRow_8_70
  repeat (first | exact nt_rt | exact nt_none | apply nt_if | refine nt_cl ?_ (fun _ _ => ?_) | refine nt_cp9 (fun _ => ?_))
theorem dX3_copyFrom_0 : decode cX3_copyFrom 0 = .ok (.aload_n 0, 1) := by decide +kernel
theorem dX3_copyFrom_1 : decode cX3_copyFrom 1 = .ok (.aload_n 1, 1) := by decide +kernel
theorem dX3_copyFrom_2 : decode cX3_copyFrom 2 = .ok (.getfield 30, 3) := by decide +kernel
theorem dX3_copyFrom_5 : decode cX3_copyFrom 5 = .ok (.putfield 30, 3) := by decide +kernel
theorem dX3_copyFrom_8 : decode cX3_copyFrom 8 = .ok (.aload_n 0, 1) := by decide +kernel
theorem dX3_copyFrom_9 : decode cX3_copyFrom 9 = .ok (.aload_n 1, 1) := by decide +kernel
theorem dX3_copyFrom_10 : decode cX3_copyFrom 10 = .ok (.getfield 34, 3) := by decide +kernel
theorem dX3_copyFrom_13 : decode cX3_copyFrom 13 = .ok (.putfield 34, 3) := by decide +kernel
theorem dX3_copyFrom_16 : decode cX3_copyFrom 16 = .ok (.aload_n 1, 1) := by decide +kernel
theorem dX3_copyFrom_17 : decode cX3_copyFrom 17 = .ok (.getfield 9, 3) := by decide +kernel
theorem dX3_copyFrom_20 : decode cX3_copyFrom 20 = .ok (.aload_n 0, 1) := by decide +kernel
theorem dX3_copyFrom_21 : decode cX3_copyFrom 21 = .ok (.getfield 9, 3) := by decide +kernel
theorem dX3_copyFrom_24 : decode cX3_copyFrom 24 = .ok (.invokestatic 37, 3) := by decide +kernel
theorem dX3_copyFrom_27 : decode cX3_copyFrom 27 = .ok (.aload_n 1, 1) := by decide +kernel
theorem dX3_copyFrom_28 : decode cX3_copyFrom 28 = .ok (.getfield 15, 3) := by decide +kernel
theorem dX3_copyFrom_31 : decode cX3_copyFrom 31 = .ok (.aload_n 0, 1) := by decide +kernel
theorem dX3_copyFrom_32 : decode cX3_copyFrom 32 = .ok (.getfield 15, 3) := by decide +kernel
theorem dX3_copyFrom_35 : decode cX3_copyFrom 35 = .ok (.invokestatic 37, 3) := by decide +kernel
theorem dX3_copyFrom_38 : decode cX3_copyFrom 38 = .ok (.aload_n 1, 1) := by decide +kernel
theorem dX3_copyFrom_39 : decode cX3_copyFrom 39 = .ok (.getfield 18, 3) := by decide +kernel
theorem dX3_copyFrom_42 : decode cX3_copyFrom 42 = .ok (.aload_n 0, 1) := by decide +kernel
theorem dX3_copyFrom_43 : decode cX3_copyFrom 43 = .ok (.getfield 18, 3) := by decide +kernel
theorem dX3_copyFrom_46 : decode cX3_copyFrom 46 = .ok (.invokestatic 37, 3) := by decide +kernel
theorem dX3_copyFrom_49 : decode cX3_copyFrom 49 = .ok (.aload_n 1, 1) := by decide +kernel
theorem dX3_copyFrom_50 : decode cX3_copyFrom 50 = .ok (.getfield 21, 3) := by decide +kernel
theorem dX3_copyFrom_53 : decode cX3_copyFrom 53 = .ok (.aload_n 0, 1) := by decide +kernel
theorem dX3_copyFrom_54 : decode cX3_copyFrom 54 = .ok (.getfield 21, 3) := by decide +kernel
theorem dX3_copyFrom_57 : decode cX3_copyFrom 57 = .ok (.invokestatic 37, 3) := by decide +kernel
theorem dX3_copyFrom_60 : decode cX3_copyFrom 60 = .ok (.aload_n 1, 1) := by decide +kernel
theorem dX3_copyFrom_61 : decode cX3_copyFrom 61 = .ok (.getfield 24, 3) := by decide +kernel
theorem dX3_copyFrom_64 : decode cX3_copyFrom 64 = .ok (.aload_n 0, 1) := by decide +kernel
theorem dX3_copyFrom_65 : decode cX3_copyFrom 65 = .ok (.getfield 24, 3) := by decide +kernel
theorem dX3_copyFrom_68 : decode cX3_copyFrom 68 = .ok (.invokestatic 37, 3) := by decide +kernel
theorem dX3_copyFrom_71 : decode cX3_copyFrom 71 = .ok (.aload_n 1, 1) := by decide +kernel
theorem dX3_copyFrom_72 : decode cX3_copyFrom 72 = .ok (.getfield 27, 3) := by decide +kernel
theorem dX3_copyFrom_75 : decode cX3_copyFrom 75 = .ok (.aload_n 0, 1) := by decide +kernel
theorem dX3_copyFrom_76 : decode cX3_copyFrom 76 = .ok (.getfield 27, 3) := by decide +kernel
theorem dX3_copyFrom_79 : decode cX3_copyFrom 79 = .ok (.invokestatic 37, 3) := by decide +kernel
theorem dX3_copyFrom_82 : decode cX3_copyFrom 82 = .ok (.return_, 1) := by decide +kernel
abbrev z_X3_copyFrom_64_2 : Z9 := (none, 0, 0, 0, 3, 221)
def m_X3_copyFrom_64_2 (d : D9) : Option R9 := pf d 64 0 (d 2 0) (fun d1 => pf d1 64 1 (d1 2 1) (fun d2 => cl (m_X11_copyRow_3_65 d2) (fun r3 d4 => cl (m_X11_copyRow_4_66 d4) (fun r5 d6 => cl (m_X11_copyRow_5_67 d6) (fun r7 d8 => cl (m_X11_copyRow_6_68 d8) (fun r9 d10 => cl (m_X11_copyRow_7_69 d10) (fun r11 d12 => cl (m_X11_copyRow_8_70 d12) (fun r13 d14 => rt 0 d14))))))))
set_option maxRecDepth 100000 in
theorem t_X3_copyFrom_64_2 {G : G9} {l : Launch} (h1 : va_D (A9 G) (wl G (fun _ _ => 0))) (h2 : l.stackTraces = false) (d : D9) : MT G l yX3_copyFrom cX3_copyFrom 2 z_X3_copyFrom_64_2 [rf G 64, rf G 2] d (m_X3_copyFrom_64_2  d) := by
  refine mt_of (own := RX3) (by decide) rfl (Nat.le_of_ble_eq_true rfl) h1 h2 [(0, rf G 64), (1, rf G 2)] rfl (fun X hX C => ?_)
  unfold m_X3_copyFrom_64_2
  refine r_aload_n C 0 dX3_copyFrom_0 rfl rfl ?_
  refine r_aload_n C 1 dX3_copyFrom_1 rfl rfl ?_
  refine r_getI C dX3_copyFrom_2 fl_X3_30 la_2 ly_2 rfl ?_
  refine r_putI C dX3_copyFrom_5 fp_X3_30 la_64 ly_64 rfl (fun d1 => ?_)
  refine r_aload_n C 0 dX3_copyFrom_8 rfl rfl ?_
  refine r_aload_n C 1 dX3_copyFrom_9 rfl rfl ?_
  refine r_getI C dX3_copyFrom_10 fl_X3_34 la_2 ly_2 rfl ?_
  refine r_putI C dX3_copyFrom_13 fp_X3_34 la_64 ly_64 rfl (fun d2 => ?_)
  refine r_aload_n C 1 dX3_copyFrom_16 rfl rfl ?_
  refine r_getR C 3 dX3_copyFrom_17 fl_X3_9 la_2 ly_2 rfl rfl ?_
  refine r_aload_n C 0 dX3_copyFrom_20 rfl rfl ?_
  refine r_getR C 65 dX3_copyFrom_21 fl_X3_9 la_64 ly_64 rfl rfl ?_
  refine r_callN C [rf G 65, rf G 3] dX3_copyFrom_24 (t_X11_copyRow_3_65 C.h1 C.h2 d2) (n_X11_copyRow_3_65 d2) mn_X3_37 ms_X11_copyRow (by decide) (by decide) (by decide) rfl rfl (Nat.le_of_ble_eq_true rfl) (fun r3 d4 => ?_)
  show SS G X 2 _ _ 27 [(0, rf G 64), (1, rf G 2)] [] d4 _
  refine r_aload_n C 1 dX3_copyFrom_27 rfl rfl ?_
  refine r_getR C 4 dX3_copyFrom_28 fl_X3_15 la_2 ly_2 rfl rfl ?_
  refine r_aload_n C 0 dX3_copyFrom_31 rfl rfl ?_
  refine r_getR C 66 dX3_copyFrom_32 fl_X3_15 la_64 ly_64 rfl rfl ?_
  refine r_callN C [rf G 66, rf G 4] dX3_copyFrom_35 (t_X11_copyRow_4_66 C.h1 C.h2 d4) (n_X11_copyRow_4_66 d4) mn_X3_37 ms_X11_copyRow (by decide) (by decide) (by decide) rfl rfl (Nat.le_of_ble_eq_true rfl) (fun r5 d6 => ?_)
  show SS G X 2 _ _ 38 [(0, rf G 64), (1, rf G 2)] [] d6 _
  refine r_aload_n C 1 dX3_copyFrom_38 rfl rfl ?_
  refine r_getR C 5 dX3_copyFrom_39 fl_X3_18 la_2 ly_2 rfl rfl ?_
  refine r_aload_n C 0 dX3_copyFrom_42 rfl rfl ?_
  refine r_getR C 67 dX3_copyFrom_43 fl_X3_18 la_64 ly_64 rfl rfl ?_
  refine r_callN C [rf G 67, rf G 5] dX3_copyFrom_46 (t_X11_copyRow_5_67 C.h1 C.h2 d6) (n_X11_copyRow_5_67 d6) mn_X3_37 ms_X11_copyRow (by decide) (by decide) (by decide) rfl rfl (Nat.le_of_ble_eq_true rfl) (fun r7 d8 => ?_)
  show SS G X 2 _ _ 49 [(0, rf G 64), (1, rf G 2)] [] d8 _
  refine r_aload_n C 1 dX3_copyFrom_49 rfl rfl ?_
  refine r_getR C 6 dX3_copyFrom_50 fl_X3_21 la_2 ly_2 rfl rfl ?_
  refine r_aload_n C 0 dX3_copyFrom_53 rfl rfl ?_
  refine r_getR C 68 dX3_copyFrom_54 fl_X3_21 la_64 ly_64 rfl rfl ?_
  refine r_callN C [rf G 68, rf G 6] dX3_copyFrom_57 (t_X11_copyRow_6_68 C.h1 C.h2 d8) (n_X11_copyRow_6_68 d8) mn_X3_37 ms_X11_copyRow (by decide) (by decide) (by decide) rfl rfl (Nat.le_of_ble_eq_true rfl) (fun r9 d10 => ?_)
  show SS G X 2 _ _ 60 [(0, rf G 64), (1, rf G 2)] [] d10 _
  refine r_aload_n C 1 dX3_copyFrom_60 rfl rfl ?_
  refine r_getR C 7 dX3_copyFrom_61 fl_X3_24 la_2 ly_2 rfl rfl ?_
  refine r_aload_n C 0 dX3_copyFrom_64 rfl rfl ?_
  refine r_getR C 69 dX3_copyFrom_65 fl_X3_24 la_64 ly_64 rfl rfl ?_
  refine r_callN C [rf G 69, rf G 7] dX3_copyFrom_68 (t_X11_copyRow_7_69 C.h1 C.h2 d10) (n_X11_copyRow_7_69 d10) mn_X3_37 ms_X11_copyRow (by decide) (by decide) (by decide) rfl rfl (Nat.le_of_ble_eq_true rfl) (fun r11 d12 => ?_)
  show SS G X 2 _ _ 71 [(0, rf G 64), (1, rf G 2)] [] d12 _
  refine r_aload_n C 1 dX3_copyFrom_71 rfl rfl ?_
  refine r_getR C 8 dX3_copyFrom_72 fl_X3_27 la_2 ly_2 rfl rfl ?_
  refine r_aload_n C 0 dX3_copyFrom_75 rfl rfl ?_
  refine r_getR C 70 dX3_copyFrom_76 fl_X3_27 la_64 ly_64 rfl rfl ?_
  refine r_callN C [rf G 70, rf G 8] dX3_copyFrom_79 (t_X11_copyRow_8_70 C.h1 C.h2 d12) (n_X11_copyRow_8_70 d12) mn_X3_37 ms_X11_copyRow (by decide) (by decide) (by decide) rfl rfl (Nat.le_of_ble_eq_true rfl) (fun r13 d14 => ?_)
  show SS G X 2 _ _ 82 [(0, rf G 64), (1, rf G 2)] [] d14 _
  exact r_vret C dX3_copyFrom_82 (by decide) (by decide)
abbrev z_X11_copyRow_10_72 : Z9 := (none, 0, 0, 0, 2, 200)
def m_X11_copyRow_10_72 (d : D9) : Option R9 := cp9 d 10 30 72 30 (min9 30 30) (fun d1 => rt 0 d1)
set_option maxRecDepth 100000 in
theorem t_X11_copyRow_10_72 {G : G9} {l : Launch} (h1 : va_D (A9 G) (wl G (fun _ _ => 0))) (h2 : l.stackTraces = false) (d : D9) : MT G l yX11_copyRow cX11_copyRow 2 z_X11_copyRow_10_72 [rf G 10, rf G 72] d (m_X11_copyRow_10_72  d) := by
  refine mt_of (own := RX11) (by decide) rfl (Nat.le_of_ble_eq_true rfl) h1 h2 [(0, rf G 10), (1, rf G 72)] rfl (fun X hX C => ?_)
  unfold m_X11_copyRow_10_72
  refine r_aload_n C 0 dX11_copyRow_0 rfl rfl ?_
  refine r_iconst C dX11_copyRow_1 ?_
  refine r_aload_n C 1 dX11_copyRow_2 rfl rfl ?_
  refine r_iconst C dX11_copyRow_3 ?_
  refine r_aload_n C 0 dX11_copyRow_4 rfl rfl ?_
  refine r_alen C dX11_copyRow_5 la_10 ly_10 ?_
  refine r_aload_n C 1 dX11_copyRow_6 rfl rfl ?_
  refine r_alen C dX11_copyRow_7 la_72 ly_72 ?_
  refine r_mmin C dX11_copyRow_8 mm_X11_465 ⟨Nat.le_of_ble_eq_true rfl, Nat.le_of_ble_eq_true rfl⟩ (by decide) (by decide) ?_
  refine r_acopy C dX11_copyRow_11 aw_X11_470 la_10 ly_10 la_72 ly_72 (by decide) (Nat.le_of_ble_eq_true rfl) (fun d1 => ?_)
  exact r_vret C dX11_copyRow_14 (by decide) (by decide)
theorem n_X11_copyRow_10_72 (d : D9) : NT9 (m_X11_copyRow_10_72  d) := by
  unfold m_X11_copyRow_10_72
  repeat (first | exact nt_rt | exact nt_none | apply nt_if | refine nt_cl ?_ (fun _ _ => ?_) | refine nt_cp9 (fun _ => ?_))
abbrev z_X11_copyRow_11_73 : Z9 := (none, 0, 0, 0, 2, 200)
def m_X11_copyRow_11_73 (d : D9) : Option R9 := cp9 d 11 30 73 30 (min9 30 30) (fun d1 => rt 0 d1)
set_option maxRecDepth 100000 in
theorem t_X11_copyRow_11_73 {G : G9} {l : Launch} (h1 : va_D (A9 G) (wl G (fun _ _ => 0))) (h2 : l.stackTraces = false) (d : D9) : MT G l yX11_copyRow cX11_copyRow 2 z_X11_copyRow_11_73 [rf G 11, rf G 73] d (m_X11_copyRow_11_73  d) := by
  refine mt_of (own := RX11) (by decide) rfl (Nat.le_of_ble_eq_true rfl) h1 h2 [(0, rf G 11), (1, rf G 73)] rfl (fun X hX C => ?_)
  unfold m_X11_copyRow_11_73
  refine r_aload_n C 0 dX11_copyRow_0 rfl rfl ?_
  refine r_iconst C dX11_copyRow_1 ?_
  refine r_aload_n C 1 dX11_copyRow_2 rfl rfl ?_
  refine r_iconst C dX11_copyRow_3 ?_
  refine r_aload_n C 0 dX11_copyRow_4 rfl rfl ?_
  refine r_alen C dX11_copyRow_5 la_11 ly_11 ?_
  refine r_aload_n C 1 dX11_copyRow_6 rfl rfl ?_
  refine r_alen C dX11_copyRow_7 la_73 ly_73 ?_
  refine r_mmin C dX11_copyRow_8 mm_X11_465 ⟨Nat.le_of_ble_eq_true rfl, Nat.le_of_ble_eq_true rfl⟩ (by decide) (by decide) ?_
  refine r_acopy C dX11_copyRow_11 aw_X11_470 la_11 ly_11 la_73 ly_73 (by decide) (Nat.le_of_ble_eq_true rfl) (fun d1 => ?_)
  exact r_vret C dX11_copyRow_14 (by decide) (by decide)
theorem n_X11_copyRow_11_73 (d : D9) : NT9 (m_X11_copyRow_11_73  d) := by
  unfold m_X11_copyRow_11_73
  repeat (first | exact nt_rt | exact nt_none | apply nt_if | refine nt_cl ?_ (fun _ _ => ?_) | refine nt_cp9 (fun _ => ?_))
abbrev z_X11_copyRow_12_74 : Z9 := (none, 0, 0, 0, 2, 200)
def m_X11_copyRow_12_74 (d : D9) : Option R9 := cp9 d 12 30 74 30 (min9 30 30) (fun d1 => rt 0 d1)
set_option maxRecDepth 100000 in
theorem t_X11_copyRow_12_74 {G : G9} {l : Launch} (h1 : va_D (A9 G) (wl G (fun _ _ => 0))) (h2 : l.stackTraces = false) (d : D9) : MT G l yX11_copyRow cX11_copyRow 2 z_X11_copyRow_12_74 [rf G 12, rf G 74] d (m_X11_copyRow_12_74  d) := by
  refine mt_of (own := RX11) (by decide) rfl (Nat.le_of_ble_eq_true rfl) h1 h2 [(0, rf G 12), (1, rf G 74)] rfl (fun X hX C => ?_)
  unfold m_X11_copyRow_12_74
  refine r_aload_n C 0 dX11_copyRow_0 rfl rfl ?_
  refine r_iconst C dX11_copyRow_1 ?_
  refine r_aload_n C 1 dX11_copyRow_2 rfl rfl ?_
  refine r_iconst C dX11_copyRow_3 ?_
  refine r_aload_n C 0 dX11_copyRow_4 rfl rfl ?_
  refine r_alen C dX11_copyRow_5 la_12 ly_12 ?_
  refine r_aload_n C 1 dX11_copyRow_6 rfl rfl ?_
  refine r_alen C dX11_copyRow_7 la_74 ly_74 ?_
  refine r_mmin C dX11_copyRow_8 mm_X11_465 ⟨Nat.le_of_ble_eq_true rfl, Nat.le_of_ble_eq_true rfl⟩ (by decide) (by decide) ?_
  refine r_acopy C dX11_copyRow_11 aw_X11_470 la_12 ly_12 la_74 ly_74 (by decide) (Nat.le_of_ble_eq_true rfl) (fun d1 => ?_)
  exact r_vret C dX11_copyRow_14 (by decide) (by decide)
theorem n_X11_copyRow_12_74 (d : D9) : NT9 (m_X11_copyRow_12_74  d) := by
  unfold m_X11_copyRow_12_74
  repeat (first | exact nt_rt | exact nt_none | apply nt_if | refine nt_cl ?_ (fun _ _ => ?_) | refine nt_cp9 (fun _ => ?_))
abbrev z_X11_copyRow_13_75 : Z9 := (none, 0, 0, 0, 2, 200)
def m_X11_copyRow_13_75 (d : D9) : Option R9 := cp9 d 13 30 75 30 (min9 30 30) (fun d1 => rt 0 d1)
set_option maxRecDepth 100000 in
theorem t_X11_copyRow_13_75 {G : G9} {l : Launch} (h1 : va_D (A9 G) (wl G (fun _ _ => 0))) (h2 : l.stackTraces = false) (d : D9) : MT G l yX11_copyRow cX11_copyRow 2 z_X11_copyRow_13_75 [rf G 13, rf G 75] d (m_X11_copyRow_13_75  d) := by
  refine mt_of (own := RX11) (by decide) rfl (Nat.le_of_ble_eq_true rfl) h1 h2 [(0, rf G 13), (1, rf G 75)] rfl (fun X hX C => ?_)
  unfold m_X11_copyRow_13_75
  refine r_aload_n C 0 dX11_copyRow_0 rfl rfl ?_
  refine r_iconst C dX11_copyRow_1 ?_
  refine r_aload_n C 1 dX11_copyRow_2 rfl rfl ?_
  refine r_iconst C dX11_copyRow_3 ?_
  refine r_aload_n C 0 dX11_copyRow_4 rfl rfl ?_
  refine r_alen C dX11_copyRow_5 la_13 ly_13 ?_
  refine r_aload_n C 1 dX11_copyRow_6 rfl rfl ?_
  refine r_alen C dX11_copyRow_7 la_75 ly_75 ?_
  refine r_mmin C dX11_copyRow_8 mm_X11_465 ⟨Nat.le_of_ble_eq_true rfl, Nat.le_of_ble_eq_true rfl⟩ (by decide) (by decide) ?_
  refine r_acopy C dX11_copyRow_11 aw_X11_470 la_13 ly_13 la_75 ly_75 (by decide) (Nat.le_of_ble_eq_true rfl) (fun d1 => ?_)
  exact r_vret C dX11_copyRow_14 (by decide) (by decide)
theorem n_X11_copyRow_13_75 (d : D9) : NT9 (m_X11_copyRow_13_75  d) := by
  unfold m_X11_copyRow_13_75
  repeat (first | exact nt_rt | exact nt_none | apply nt_if | refine nt_cl ?_ (fun _ _ => ?_) | refine nt_cp9 (fun _ => ?_))
abbrev z_X11_copyRow_14_76 : Z9 := (none, 0, 0, 0, 2, 200)
def m_X11_copyRow_14_76 (d : D9) : Option R9 := cp9 d 14 30 76 30 (min9 30 30) (fun d1 => rt 0 d1)
set_option maxRecDepth 100000 in
theorem t_X11_copyRow_14_76 {G : G9} {l : Launch} (h1 : va_D (A9 G) (wl G (fun _ _ => 0))) (h2 : l.stackTraces = false) (d : D9) : MT G l yX11_copyRow cX11_copyRow 2 z_X11_copyRow_14_76 [rf G 14, rf G 76] d (m_X11_copyRow_14_76  d) := by
  refine mt_of (own := RX11) (by decide) rfl (Nat.le_of_ble_eq_true rfl) h1 h2 [(0, rf G 14), (1, rf G 76)] rfl (fun X hX C => ?_)
  unfold m_X11_copyRow_14_76
  refine r_aload_n C 0 dX11_copyRow_0 rfl rfl ?_
  refine r_iconst C dX11_copyRow_1 ?_
  refine r_aload_n C 1 dX11_copyRow_2 rfl rfl ?_
  refine r_iconst C dX11_copyRow_3 ?_
  refine r_aload_n C 0 dX11_copyRow_4 rfl rfl ?_
  refine r_alen C dX11_copyRow_5 la_14 ly_14 ?_
  refine r_aload_n C 1 dX11_copyRow_6 rfl rfl ?_
  refine r_alen C dX11_copyRow_7 la_76 ly_76 ?_
  refine r_mmin C dX11_copyRow_8 mm_X11_465 ⟨Nat.le_of_ble_eq_true rfl, Nat.le_of_ble_eq_true rfl⟩ (by decide) (by decide) ?_
  refine r_acopy C dX11_copyRow_11 aw_X11_470 la_14 ly_14 la_76 ly_76 (by decide) (Nat.le_of_ble_eq_true rfl) (fun d1 => ?_)
  exact r_vret C dX11_copyRow_14 (by decide) (by decide)
theorem n_X11_copyRow_14_76 (d : D9) : NT9 (m_X11_copyRow_14_76  d) := by
  unfold m_X11_copyRow_14_76
  repeat (first | exact nt_rt | exact nt_none | apply nt_if | refine nt_cl ?_ (fun _ _ => ?_) | refine nt_cp9 (fun _ => ?_))
abbrev z_X11_copyRow_15_77 : Z9 := (none, 0, 0, 0, 2, 200)
def m_X11_copyRow_15_77 (d : D9) : Option R9 := cp9 d 15 30 77 30 (min9 30 30) (fun d1 => rt 0 d1)
set_option maxRecDepth 100000 in
theorem t_X11_copyRow_15_77 {G : G9} {l : Launch} (h1 : va_D (A9 G) (wl G (fun _ _ => 0))) (h2 : l.stackTraces = false) (d : D9) : MT G l yX11_copyRow cX11_copyRow 2 z_X11_copyRow_15_77 [rf G 15, rf G 77] d (m_X11_copyRow_15_77  d) := by
  refine mt_of (own := RX11) (by decide) rfl (Nat.le_of_ble_eq_true rfl) h1 h2 [(0, rf G 15), (1, rf G 77)] rfl (fun X hX C => ?_)
  unfold m_X11_copyRow_15_77
  refine r_aload_n C 0 dX11_copyRow_0 rfl rfl ?_
  refine r_iconst C dX11_copyRow_1 ?_
  refine r_aload_n C 1 dX11_copyRow_2 rfl rfl ?_
  refine r_iconst C dX11_copyRow_3 ?_
  refine r_aload_n C 0 dX11_copyRow_4 rfl rfl ?_
  refine r_alen C dX11_copyRow_5 la_15 ly_15 ?_
  refine r_aload_n C 1 dX11_copyRow_6 rfl rfl ?_
  refine r_alen C dX11_copyRow_7 la_77 ly_77 ?_
  refine r_mmin C dX11_copyRow_8 mm_X11_465 ⟨Nat.le_of_ble_eq_true rfl, Nat.le_of_ble_eq_true rfl⟩ (by decide) (by decide) ?_
  refine r_acopy C dX11_copyRow_11 aw_X11_470 la_15 ly_15 la_77 ly_77 (by decide) (Nat.le_of_ble_eq_true rfl) (fun d1 => ?_)
  exact r_vret C dX11_copyRow_14 (by decide) (by decide)
theorem n_X11_copyRow_15_77 (d : D9) : NT9 (m_X11_copyRow_15_77  d) := by
  unfold m_X11_copyRow_15_77
  repeat (first | exact nt_rt | exact nt_none | apply nt_if | refine nt_cl ?_ (fun _ _ => ?_) | refine nt_cp9 (fun _ => ?_))
abbrev z_X11_copyRow_16_78 : Z9 := (none, 0, 0, 0, 2, 200)
def m_X11_copyRow_16_78 (d : D9) : Option R9 := cp9 d 16 30 78 30 (min9 30 30) (fun d1 => rt 0 d1)
set_option maxRecDepth 100000 in
theorem t_X11_copyRow_16_78 {G : G9} {l : Launch} (h1 : va_D (A9 G) (wl G (fun _ _ => 0))) (h2 : l.stackTraces = false) (d : D9) : MT G l yX11_copyRow cX11_copyRow 2 z_X11_copyRow_16_78 [rf G 16, rf G 78] d (m_X11_copyRow_16_78  d) := by
  refine mt_of (own := RX11) (by decide) rfl (Nat.le_of_ble_eq_true rfl) h1 h2 [(0, rf G 16), (1, rf G 78)] rfl (fun X hX C => ?_)
  unfold m_X11_copyRow_16_78
  refine r_aload_n C 0 dX11_copyRow_0 rfl rfl ?_
  refine r_iconst C dX11_copyRow_1 ?_
  refine r_aload_n C 1 dX11_copyRow_2 rfl rfl ?_
  refine r_iconst C dX11_copyRow_3 ?_
  refine r_aload_n C 0 dX11_copyRow_4 rfl rfl ?_
  refine r_alen C dX11_copyRow_5 la_16 ly_16 ?_
  refine r_aload_n C 1 dX11_copyRow_6 rfl rfl ?_
  refine r_alen C dX11_copyRow_7 la_78 ly_78 ?_
  refine r_mmin C dX11_copyRow_8 mm_X11_465 ⟨Nat.le_of_ble_eq_true rfl, Nat.le_of_ble_eq_true rfl⟩ (by decide) (by decide) ?_
  refine r_acopy C dX11_copyRow_11 aw_X11_470 la_16 ly_16 la_78 ly_78 (by decide) (Nat.le_of_ble_eq_true rfl) (fun d1 => ?_)
  exact r_vret C dX11_copyRow_14 (by decide) (by decide)
theorem n_X11_copyRow_16_78 (d : D9) : NT9 (m_X11_copyRow_16_78  d) := by
  unfold m_X11_copyRow_16_78
  repeat (first | exact nt_rt | exact nt_none | apply nt_if | refine nt_cl ?_ (fun _ _ => ?_) | refine nt_cp9 (fun _ => ?_))
abbrev z_X11_copyRow_17_79 : Z9 := (none, 0, 0, 0, 2, 200)
def m_X11_copyRow_17_79 (d : D9) : Option R9 := cp9 d 17 120 79 120 (min9 120 120) (fun d1 => rt 0 d1)
set_option maxRecDepth 100000 in
theorem t_X11_copyRow_17_79 {G : G9} {l : Launch} (h1 : va_D (A9 G) (wl G (fun _ _ => 0))) (h2 : l.stackTraces = false) (d : D9) : MT G l yX11_copyRow cX11_copyRow 2 z_X11_copyRow_17_79 [rf G 17, rf G 79] d (m_X11_copyRow_17_79  d) := by
  refine mt_of (own := RX11) (by decide) rfl (Nat.le_of_ble_eq_true rfl) h1 h2 [(0, rf G 17), (1, rf G 79)] rfl (fun X hX C => ?_)
  unfold m_X11_copyRow_17_79
  refine r_aload_n C 0 dX11_copyRow_0 rfl rfl ?_
  refine r_iconst C dX11_copyRow_1 ?_
  refine r_aload_n C 1 dX11_copyRow_2 rfl rfl ?_
  refine r_iconst C dX11_copyRow_3 ?_
  refine r_aload_n C 0 dX11_copyRow_4 rfl rfl ?_
  refine r_alen C dX11_copyRow_5 la_17 ly_17 ?_
  refine r_aload_n C 1 dX11_copyRow_6 rfl rfl ?_
  refine r_alen C dX11_copyRow_7 la_79 ly_79 ?_
  refine r_mmin C dX11_copyRow_8 mm_X11_465 ⟨Nat.le_of_ble_eq_true rfl, Nat.le_of_ble_eq_true rfl⟩ (by decide) (by decide) ?_
  refine r_acopy C dX11_copyRow_11 aw_X11_470 la_17 ly_17 la_79 ly_79 (by decide) (Nat.le_of_ble_eq_true rfl) (fun d1 => ?_)
  exact r_vret C dX11_copyRow_14 (by decide) (by decide)
theorem n_X11_copyRow_17_79 (d : D9) : NT9 (m_X11_copyRow_17_79  d) := by
  unfold m_X11_copyRow_17_79
  repeat (first | exact nt_rt | exact nt_none | apply nt_if | refine nt_cl ?_ (fun _ _ => ?_) | refine nt_cp9 (fun _ => ?_))
abbrev z_X11_copyRow_18_80 : Z9 := (none, 0, 0, 0, 2, 200)
def m_X11_copyRow_18_80 (d : D9) : Option R9 := cp9 d 18 120 80 120 (min9 120 120) (fun d1 => rt 0 d1)
set_option maxRecDepth 100000 in
theorem t_X11_copyRow_18_80 {G : G9} {l : Launch} (h1 : va_D (A9 G) (wl G (fun _ _ => 0))) (h2 : l.stackTraces = false) (d : D9) : MT G l yX11_copyRow cX11_copyRow 2 z_X11_copyRow_18_80 [rf G 18, rf G 80] d (m_X11_copyRow_18_80  d) := by
  refine mt_of (own := RX11) (by decide) rfl (Nat.le_of_ble_eq_true rfl) h1 h2 [(0, rf G 18), (1, rf G 80)] rfl (fun X hX C => ?_)
  unfold m_X11_copyRow_18_80
  refine r_aload_n C 0 dX11_copyRow_0 rfl rfl ?_
  refine r_iconst C dX11_copyRow_1 ?_
  refine r_aload_n C 1 dX11_copyRow_2 rfl rfl ?_
  refine r_iconst C dX11_copyRow_3 ?_
  refine r_aload_n C 0 dX11_copyRow_4 rfl rfl ?_
  refine r_alen C dX11_copyRow_5 la_18 ly_18 ?_
  refine r_aload_n C 1 dX11_copyRow_6 rfl rfl ?_
  refine r_alen C dX11_copyRow_7 la_80 ly_80 ?_
  refine r_mmin C dX11_copyRow_8 mm_X11_465 ⟨Nat.le_of_ble_eq_true rfl, Nat.le_of_ble_eq_true rfl⟩ (by decide) (by decide) ?_
  refine r_acopy C dX11_copyRow_11 aw_X11_470 la_18 ly_18 la_80 ly_80 (by decide) (Nat.le_of_ble_eq_true rfl) (fun d1 => ?_)
  exact r_vret C dX11_copyRow_14 (by decide) (by decide)
theorem n_X11_copyRow_18_80 (d : D9) : NT9 (m_X11_copyRow_18_80  d) := by
  unfold m_X11_copyRow_18_80
  repeat (first | exact nt_rt | exact nt_none | apply nt_if | refine nt_cl ?_ (fun _ _ => ?_) | refine nt_cp9 (fun _ => ?_))
abbrev z_X11_copyRow_19_81 : Z9 := (none, 0, 0, 0, 2, 200)
def m_X11_copyRow_19_81 (d : D9) : Option R9 := cp9 d 19 120 81 120 (min9 120 120) (fun d1 => rt 0 d1)
set_option maxRecDepth 100000 in
theorem t_X11_copyRow_19_81 {G : G9} {l : Launch} (h1 : va_D (A9 G) (wl G (fun _ _ => 0))) (h2 : l.stackTraces = false) (d : D9) : MT G l yX11_copyRow cX11_copyRow 2 z_X11_copyRow_19_81 [rf G 19, rf G 81] d (m_X11_copyRow_19_81  d) := by
  refine mt_of (own := RX11) (by decide) rfl (Nat.le_of_ble_eq_true rfl) h1 h2 [(0, rf G 19), (1, rf G 81)] rfl (fun X hX C => ?_)
  unfold m_X11_copyRow_19_81
  refine r_aload_n C 0 dX11_copyRow_0 rfl rfl ?_
  refine r_iconst C dX11_copyRow_1 ?_
  refine r_aload_n C 1 dX11_copyRow_2 rfl rfl ?_
  refine r_iconst C dX11_copyRow_3 ?_
  refine r_aload_n C 0 dX11_copyRow_4 rfl rfl ?_
  refine r_alen C dX11_copyRow_5 la_19 ly_19 ?_
  refine r_aload_n C 1 dX11_copyRow_6 rfl rfl ?_
  refine r_alen C dX11_copyRow_7 la_81 ly_81 ?_
  refine r_mmin C dX11_copyRow_8 mm_X11_465 ⟨Nat.le_of_ble_eq_true rfl, Nat.le_of_ble_eq_true rfl⟩ (by decide) (by decide) ?_
  refine r_acopy C dX11_copyRow_11 aw_X11_470 la_19 ly_19 la_81 ly_81 (by decide) (Nat.le_of_ble_eq_true rfl) (fun d1 => ?_)
  exact r_vret C dX11_copyRow_14 (by decide) (by decide)
theorem n_X11_copyRow_19_81 (d : D9) : NT9 (m_X11_copyRow_19_81  d) := by
  unfold m_X11_copyRow_19_81
  repeat (first | exact nt_rt | exact nt_none | apply nt_if | refine nt_cl ?_ (fun _ _ => ?_) | refine nt_cp9 (fun _ => ?_))
abbrev z_X11_copyRow_20_82 : Z9 := (none, 0, 0, 0, 2, 200)
def m_X11_copyRow_20_82 (d : D9) : Option R9 := cp9 d 20 120 82 120 (min9 120 120) (fun d1 => rt 0 d1)
set_option maxRecDepth 100000 in
theorem t_X11_copyRow_20_82 {G : G9} {l : Launch} (h1 : va_D (A9 G) (wl G (fun _ _ => 0))) (h2 : l.stackTraces = false) (d : D9) : MT G l yX11_copyRow cX11_copyRow 2 z_X11_copyRow_20_82 [rf G 20, rf G 82] d (m_X11_copyRow_20_82  d) := by
  refine mt_of (own := RX11) (by decide) rfl (Nat.le_of_ble_eq_true rfl) h1 h2 [(0, rf G 20), (1, rf G 82)] rfl (fun X hX C => ?_)
  unfold m_X11_copyRow_20_82
  refine r_aload_n C 0 dX11_copyRow_0 rfl rfl ?_
  refine r_iconst C dX11_copyRow_1 ?_
  refine r_aload_n C 1 dX11_copyRow_2 rfl rfl ?_
  refine r_iconst C dX11_copyRow_3 ?_
  refine r_aload_n C 0 dX11_copyRow_4 rfl rfl ?_
  refine r_alen C dX11_copyRow_5 la_20 ly_20 ?_
  refine r_aload_n C 1 dX11_copyRow_6 rfl rfl ?_
  refine r_alen C dX11_copyRow_7 la_82 ly_82 ?_
  refine r_mmin C dX11_copyRow_8 mm_X11_465 ⟨Nat.le_of_ble_eq_true rfl, Nat.le_of_ble_eq_true rfl⟩ (by decide) (by decide) ?_
  refine r_acopy C dX11_copyRow_11 aw_X11_470 la_20 ly_20 la_82 ly_82 (by decide) (Nat.le_of_ble_eq_true rfl) (fun d1 => ?_)
  exact r_vret C dX11_copyRow_14 (by decide) (by decide)
theorem n_X11_copyRow_20_82 (d : D9) : NT9 (m_X11_copyRow_20_82  d) := by
  unfold m_X11_copyRow_20_82
  repeat (first | exact nt_rt | exact nt_none | apply nt_if | refine nt_cl ?_ (fun _ _ => ?_) | refine nt_cp9 (fun _ => ?_))
abbrev z_X11_copyRow_21_83 : Z9 := (none, 0, 0, 0, 2, 200)
def m_X11_copyRow_21_83 (d : D9) : Option R9 := cp9 d 21 120 83 120 (min9 120 120) (fun d1 => rt 0 d1)
set_option maxRecDepth 100000 in
theorem t_X11_copyRow_21_83 {G : G9} {l : Launch} (h1 : va_D (A9 G) (wl G (fun _ _ => 0))) (h2 : l.stackTraces = false) (d : D9) : MT G l yX11_copyRow cX11_copyRow 2 z_X11_copyRow_21_83 [rf G 21, rf G 83] d (m_X11_copyRow_21_83  d) := by
  refine mt_of (own := RX11) (by decide) rfl (Nat.le_of_ble_eq_true rfl) h1 h2 [(0, rf G 21), (1, rf G 83)] rfl (fun X hX C => ?_)
  unfold m_X11_copyRow_21_83
  refine r_aload_n C 0 dX11_copyRow_0 rfl rfl ?_
  refine r_iconst C dX11_copyRow_1 ?_
  refine r_aload_n C 1 dX11_copyRow_2 rfl rfl ?_
  refine r_iconst C dX11_copyRow_3 ?_
  refine r_aload_n C 0 dX11_copyRow_4 rfl rfl ?_
  refine r_alen C dX11_copyRow_5 la_21 ly_21 ?_
  refine r_aload_n C 1 dX11_copyRow_6 rfl rfl ?_
  refine r_alen C dX11_copyRow_7 la_83 ly_83 ?_
  refine r_mmin C dX11_copyRow_8 mm_X11_465 ⟨Nat.le_of_ble_eq_true rfl, Nat.le_of_ble_eq_true rfl⟩ (by decide) (by decide) ?_
  refine r_acopy C dX11_copyRow_11 aw_X11_470 la_21 ly_21 la_83 ly_83 (by decide) (Nat.le_of_ble_eq_true rfl) (fun d1 => ?_)
  exact r_vret C dX11_copyRow_14 (by decide) (by decide)
theorem n_X11_copyRow_21_83 (d : D9) : NT9 (m_X11_copyRow_21_83  d) := by
  unfold m_X11_copyRow_21_83
  repeat (first | exact nt_rt | exact nt_none | apply nt_if | refine nt_cl ?_ (fun _ _ => ?_) | refine nt_cp9 (fun _ => ?_))
theorem dX6_copyFrom_0 : decode cX6_copyFrom 0 = .ok (.aload_n 0, 1) := by decide +kernel
theorem dX6_copyFrom_1 : decode cX6_copyFrom 1 = .ok (.aload_n 1, 1) := by decide +kernel
theorem dX6_copyFrom_2 : decode cX6_copyFrom 2 = .ok (.getfield 48, 3) := by decide +kernel
theorem dX6_copyFrom_5 : decode cX6_copyFrom 5 = .ok (.putfield 48, 3) := by decide +kernel
theorem dX6_copyFrom_8 : decode cX6_copyFrom 8 = .ok (.aload_n 1, 1) := by decide +kernel
theorem dX6_copyFrom_9 : decode cX6_copyFrom 9 = .ok (.getfield 9, 3) := by decide +kernel
theorem dX6_copyFrom_12 : decode cX6_copyFrom 12 = .ok (.aload_n 0, 1) := by decide +kernel
theorem dX6_copyFrom_13 : decode cX6_copyFrom 13 = .ok (.getfield 9, 3) := by decide +kernel
theorem dX6_copyFrom_16 : decode cX6_copyFrom 16 = .ok (.invokestatic 52, 3) := by decide +kernel
theorem dX6_copyFrom_19 : decode cX6_copyFrom 19 = .ok (.aload_n 1, 1) := by decide +kernel
theorem dX6_copyFrom_20 : decode cX6_copyFrom 20 = .ok (.getfield 15, 3) := by decide +kernel
theorem dX6_copyFrom_23 : decode cX6_copyFrom 23 = .ok (.aload_n 0, 1) := by decide +kernel
theorem dX6_copyFrom_24 : decode cX6_copyFrom 24 = .ok (.getfield 15, 3) := by decide +kernel
theorem dX6_copyFrom_27 : decode cX6_copyFrom 27 = .ok (.invokestatic 52, 3) := by decide +kernel
theorem dX6_copyFrom_30 : decode cX6_copyFrom 30 = .ok (.aload_n 1, 1) := by decide +kernel
theorem dX6_copyFrom_31 : decode cX6_copyFrom 31 = .ok (.getfield 18, 3) := by decide +kernel
theorem dX6_copyFrom_34 : decode cX6_copyFrom 34 = .ok (.aload_n 0, 1) := by decide +kernel
theorem dX6_copyFrom_35 : decode cX6_copyFrom 35 = .ok (.getfield 18, 3) := by decide +kernel
theorem dX6_copyFrom_38 : decode cX6_copyFrom 38 = .ok (.invokestatic 52, 3) := by decide +kernel
theorem dX6_copyFrom_41 : decode cX6_copyFrom 41 = .ok (.aload_n 1, 1) := by decide +kernel
theorem dX6_copyFrom_42 : decode cX6_copyFrom 42 = .ok (.getfield 21, 3) := by decide +kernel
theorem dX6_copyFrom_45 : decode cX6_copyFrom 45 = .ok (.aload_n 0, 1) := by decide +kernel
theorem dX6_copyFrom_46 : decode cX6_copyFrom 46 = .ok (.getfield 21, 3) := by decide +kernel
theorem dX6_copyFrom_49 : decode cX6_copyFrom 49 = .ok (.invokestatic 52, 3) := by decide +kernel
theorem dX6_copyFrom_52 : decode cX6_copyFrom 52 = .ok (.aload_n 1, 1) := by decide +kernel
theorem dX6_copyFrom_53 : decode cX6_copyFrom 53 = .ok (.getfield 24, 3) := by decide +kernel
theorem dX6_copyFrom_56 : decode cX6_copyFrom 56 = .ok (.aload_n 0, 1) := by decide +kernel
theorem dX6_copyFrom_57 : decode cX6_copyFrom 57 = .ok (.getfield 24, 3) := by decide +kernel
theorem dX6_copyFrom_60 : decode cX6_copyFrom 60 = .ok (.invokestatic 52, 3) := by decide +kernel
theorem dX6_copyFrom_63 : decode cX6_copyFrom 63 = .ok (.aload_n 1, 1) := by decide +kernel
theorem dX6_copyFrom_64 : decode cX6_copyFrom 64 = .ok (.getfield 27, 3) := by decide +kernel
theorem dX6_copyFrom_67 : decode cX6_copyFrom 67 = .ok (.aload_n 0, 1) := by decide +kernel
theorem dX6_copyFrom_68 : decode cX6_copyFrom 68 = .ok (.getfield 27, 3) := by decide +kernel
theorem dX6_copyFrom_71 : decode cX6_copyFrom 71 = .ok (.invokestatic 52, 3) := by decide +kernel
theorem dX6_copyFrom_74 : decode cX6_copyFrom 74 = .ok (.aload_n 1, 1) := by decide +kernel
theorem dX6_copyFrom_75 : decode cX6_copyFrom 75 = .ok (.getfield 30, 3) := by decide +kernel
theorem dX6_copyFrom_78 : decode cX6_copyFrom 78 = .ok (.aload_n 0, 1) := by decide +kernel
theorem dX6_copyFrom_79 : decode cX6_copyFrom 79 = .ok (.getfield 30, 3) := by decide +kernel
theorem dX6_copyFrom_82 : decode cX6_copyFrom 82 = .ok (.invokestatic 52, 3) := by decide +kernel
theorem dX6_copyFrom_85 : decode cX6_copyFrom 85 = .ok (.aload_n 1, 1) := by decide +kernel
theorem dX6_copyFrom_86 : decode cX6_copyFrom 86 = .ok (.getfield 33, 3) := by decide +kernel
theorem dX6_copyFrom_89 : decode cX6_copyFrom 89 = .ok (.aload_n 0, 1) := by decide +kernel
theorem dX6_copyFrom_90 : decode cX6_copyFrom 90 = .ok (.getfield 33, 3) := by decide +kernel
theorem dX6_copyFrom_93 : decode cX6_copyFrom 93 = .ok (.invokestatic 52, 3) := by decide +kernel
theorem dX6_copyFrom_96 : decode cX6_copyFrom 96 = .ok (.aload_n 1, 1) := by decide +kernel
theorem dX6_copyFrom_97 : decode cX6_copyFrom 97 = .ok (.getfield 36, 3) := by decide +kernel
theorem dX6_copyFrom_100 : decode cX6_copyFrom 100 = .ok (.aload_n 0, 1) := by decide +kernel
theorem dX6_copyFrom_101 : decode cX6_copyFrom 101 = .ok (.getfield 36, 3) := by decide +kernel
theorem dX6_copyFrom_104 : decode cX6_copyFrom 104 = .ok (.invokestatic 52, 3) := by decide +kernel
theorem dX6_copyFrom_107 : decode cX6_copyFrom 107 = .ok (.aload_n 1, 1) := by decide +kernel
theorem dX6_copyFrom_108 : decode cX6_copyFrom 108 = .ok (.getfield 39, 3) := by decide +kernel
theorem dX6_copyFrom_111 : decode cX6_copyFrom 111 = .ok (.aload_n 0, 1) := by decide +kernel
theorem dX6_copyFrom_112 : decode cX6_copyFrom 112 = .ok (.getfield 39, 3) := by decide +kernel
theorem dX6_copyFrom_115 : decode cX6_copyFrom 115 = .ok (.invokestatic 52, 3) := by decide +kernel
theorem dX6_copyFrom_118 : decode cX6_copyFrom 118 = .ok (.aload_n 1, 1) := by decide +kernel
theorem dX6_copyFrom_119 : decode cX6_copyFrom 119 = .ok (.getfield 42, 3) := by decide +kernel
theorem dX6_copyFrom_122 : decode cX6_copyFrom 122 = .ok (.aload_n 0, 1) := by decide +kernel
theorem dX6_copyFrom_123 : decode cX6_copyFrom 123 = .ok (.getfield 42, 3) := by decide +kernel
theorem dX6_copyFrom_126 : decode cX6_copyFrom 126 = .ok (.invokestatic 52, 3) := by decide +kernel
theorem dX6_copyFrom_129 : decode cX6_copyFrom 129 = .ok (.aload_n 1, 1) := by decide +kernel
theorem dX6_copyFrom_130 : decode cX6_copyFrom 130 = .ok (.getfield 45, 3) := by decide +kernel
theorem dX6_copyFrom_133 : decode cX6_copyFrom 133 = .ok (.aload_n 0, 1) := by decide +kernel
theorem dX6_copyFrom_134 : decode cX6_copyFrom 134 = .ok (.getfield 45, 3) := by decide +kernel
theorem dX6_copyFrom_137 : decode cX6_copyFrom 137 = .ok (.invokestatic 52, 3) := by decide +kernel
theorem dX6_copyFrom_140 : decode cX6_copyFrom 140 = .ok (.return_, 1) := by decide +kernel
abbrev z_X6_copyFrom_71_9 : Z9 := (none, 0, 0, 0, 3, 221)
def m_X6_copyFrom_71_9 (d : D9) : Option R9 := pf d 71 0 (d 9 0) (fun d1 => cl (m_X11_copyRow_10_72 d1) (fun r2 d3 => cl (m_X11_copyRow_11_73 d3) (fun r4 d5 => cl (m_X11_copyRow_12_74 d5) (fun r6 d7 => cl (m_X11_copyRow_13_75 d7) (fun r8 d9 => cl (m_X11_copyRow_14_76 d9) (fun r10 d11 => cl (m_X11_copyRow_15_77 d11) (fun r12 d13 => cl (m_X11_copyRow_16_78 d13) (fun r14 d15 => cl (m_X11_copyRow_17_79 d15) (fun r16 d17 => cl (m_X11_copyRow_18_80 d17) (fun r18 d19 => cl (m_X11_copyRow_19_81 d19) (fun r20 d21 => cl (m_X11_copyRow_20_82 d21) (fun r22 d23 => cl (m_X11_copyRow_21_83 d23) (fun r24 d25 => rt 0 d25)))))))))))))
set_option maxRecDepth 100000 in
theorem t_X6_copyFrom_71_9 {G : G9} {l : Launch} (h1 : va_D (A9 G) (wl G (fun _ _ => 0))) (h2 : l.stackTraces = false) (d : D9) : MT G l yX6_copyFrom cX6_copyFrom 2 z_X6_copyFrom_71_9 [rf G 71, rf G 9] d (m_X6_copyFrom_71_9  d) := by
  refine mt_of (own := RX6) (by decide) rfl (Nat.le_of_ble_eq_true rfl) h1 h2 [(0, rf G 71), (1, rf G 9)] rfl (fun X hX C => ?_)
  unfold m_X6_copyFrom_71_9
  refine r_aload_n C 0 dX6_copyFrom_0 rfl rfl ?_
  refine r_aload_n C 1 dX6_copyFrom_1 rfl rfl ?_
  refine r_getI C dX6_copyFrom_2 fl_X6_48 la_9 ly_9 rfl ?_
  refine r_putI C dX6_copyFrom_5 fp_X6_48 la_71 ly_71 rfl (fun d1 => ?_)
  refine r_aload_n C 1 dX6_copyFrom_8 rfl rfl ?_
  refine r_getR C 10 dX6_copyFrom_9 fl_X6_9 la_9 ly_9 rfl rfl ?_
  refine r_aload_n C 0 dX6_copyFrom_12 rfl rfl ?_
  refine r_getR C 72 dX6_copyFrom_13 fl_X6_9 la_71 ly_71 rfl rfl ?_
  refine r_callN C [rf G 72, rf G 10] dX6_copyFrom_16 (t_X11_copyRow_10_72 C.h1 C.h2 d1) (n_X11_copyRow_10_72 d1) mn_X6_52 ms_X11_copyRow (by decide) (by decide) (by decide) rfl rfl (Nat.le_of_ble_eq_true rfl) (fun r2 d3 => ?_)
  show SS G X 2 _ _ 19 [(0, rf G 71), (1, rf G 9)] [] d3 _
  refine r_aload_n C 1 dX6_copyFrom_19 rfl rfl ?_
  refine r_getR C 11 dX6_copyFrom_20 fl_X6_15 la_9 ly_9 rfl rfl ?_
  refine r_aload_n C 0 dX6_copyFrom_23 rfl rfl ?_
  refine r_getR C 73 dX6_copyFrom_24 fl_X6_15 la_71 ly_71 rfl rfl ?_
  refine r_callN C [rf G 73, rf G 11] dX6_copyFrom_27 (t_X11_copyRow_11_73 C.h1 C.h2 d3) (n_X11_copyRow_11_73 d3) mn_X6_52 ms_X11_copyRow (by decide) (by decide) (by decide) rfl rfl (Nat.le_of_ble_eq_true rfl) (fun r4 d5 => ?_)
  show SS G X 2 _ _ 30 [(0, rf G 71), (1, rf G 9)] [] d5 _
  refine r_aload_n C 1 dX6_copyFrom_30 rfl rfl ?_
  refine r_getR C 12 dX6_copyFrom_31 fl_X6_18 la_9 ly_9 rfl rfl ?_
  refine r_aload_n C 0 dX6_copyFrom_34 rfl rfl ?_
  refine r_getR C 74 dX6_copyFrom_35 fl_X6_18 la_71 ly_71 rfl rfl ?_
  refine r_callN C [rf G 74, rf G 12] dX6_copyFrom_38 (t_X11_copyRow_12_74 C.h1 C.h2 d5) (n_X11_copyRow_12_74 d5) mn_X6_52 ms_X11_copyRow (by decide) (by decide) (by decide) rfl rfl (Nat.le_of_ble_eq_true rfl) (fun r6 d7 => ?_)
  show SS G X 2 _ _ 41 [(0, rf G 71), (1, rf G 9)] [] d7 _
  refine r_aload_n C 1 dX6_copyFrom_41 rfl rfl ?_
  refine r_getR C 13 dX6_copyFrom_42 fl_X6_21 la_9 ly_9 rfl rfl ?_
  refine r_aload_n C 0 dX6_copyFrom_45 rfl rfl ?_
  refine r_getR C 75 dX6_copyFrom_46 fl_X6_21 la_71 ly_71 rfl rfl ?_
  refine r_callN C [rf G 75, rf G 13] dX6_copyFrom_49 (t_X11_copyRow_13_75 C.h1 C.h2 d7) (n_X11_copyRow_13_75 d7) mn_X6_52 ms_X11_copyRow (by decide) (by decide) (by decide) rfl rfl (Nat.le_of_ble_eq_true rfl) (fun r8 d9 => ?_)
  show SS G X 2 _ _ 52 [(0, rf G 71), (1, rf G 9)] [] d9 _
  refine r_aload_n C 1 dX6_copyFrom_52 rfl rfl ?_
  refine r_getR C 14 dX6_copyFrom_53 fl_X6_24 la_9 ly_9 rfl rfl ?_
  refine r_aload_n C 0 dX6_copyFrom_56 rfl rfl ?_
  refine r_getR C 76 dX6_copyFrom_57 fl_X6_24 la_71 ly_71 rfl rfl ?_
  refine r_callN C [rf G 76, rf G 14] dX6_copyFrom_60 (t_X11_copyRow_14_76 C.h1 C.h2 d9) (n_X11_copyRow_14_76 d9) mn_X6_52 ms_X11_copyRow (by decide) (by decide) (by decide) rfl rfl (Nat.le_of_ble_eq_true rfl) (fun r10 d11 => ?_)
  show SS G X 2 _ _ 63 [(0, rf G 71), (1, rf G 9)] [] d11 _
  refine r_aload_n C 1 dX6_copyFrom_63 rfl rfl ?_
  refine r_getR C 15 dX6_copyFrom_64 fl_X6_27 la_9 ly_9 rfl rfl ?_
  refine r_aload_n C 0 dX6_copyFrom_67 rfl rfl ?_
  refine r_getR C 77 dX6_copyFrom_68 fl_X6_27 la_71 ly_71 rfl rfl ?_
  refine r_callN C [rf G 77, rf G 15] dX6_copyFrom_71 (t_X11_copyRow_15_77 C.h1 C.h2 d11) (n_X11_copyRow_15_77 d11) mn_X6_52 ms_X11_copyRow (by decide) (by decide) (by decide) rfl rfl (Nat.le_of_ble_eq_true rfl) (fun r12 d13 => ?_)
  show SS G X 2 _ _ 74 [(0, rf G 71), (1, rf G 9)] [] d13 _
  refine r_aload_n C 1 dX6_copyFrom_74 rfl rfl ?_
  refine r_getR C 16 dX6_copyFrom_75 fl_X6_30 la_9 ly_9 rfl rfl ?_
  refine r_aload_n C 0 dX6_copyFrom_78 rfl rfl ?_
  refine r_getR C 78 dX6_copyFrom_79 fl_X6_30 la_71 ly_71 rfl rfl ?_
  refine r_callN C [rf G 78, rf G 16] dX6_copyFrom_82 (t_X11_copyRow_16_78 C.h1 C.h2 d13) (n_X11_copyRow_16_78 d13) mn_X6_52 ms_X11_copyRow (by decide) (by decide) (by decide) rfl rfl (Nat.le_of_ble_eq_true rfl) (fun r14 d15 => ?_)
  show SS G X 2 _ _ 85 [(0, rf G 71), (1, rf G 9)] [] d15 _
  refine r_aload_n C 1 dX6_copyFrom_85 rfl rfl ?_
  refine r_getR C 17 dX6_copyFrom_86 fl_X6_33 la_9 ly_9 rfl rfl ?_
  refine r_aload_n C 0 dX6_copyFrom_89 rfl rfl ?_
  refine r_getR C 79 dX6_copyFrom_90 fl_X6_33 la_71 ly_71 rfl rfl ?_
  refine r_callN C [rf G 79, rf G 17] dX6_copyFrom_93 (t_X11_copyRow_17_79 C.h1 C.h2 d15) (n_X11_copyRow_17_79 d15) mn_X6_52 ms_X11_copyRow (by decide) (by decide) (by decide) rfl rfl (Nat.le_of_ble_eq_true rfl) (fun r16 d17 => ?_)
  show SS G X 2 _ _ 96 [(0, rf G 71), (1, rf G 9)] [] d17 _
  refine r_aload_n C 1 dX6_copyFrom_96 rfl rfl ?_
  refine r_getR C 18 dX6_copyFrom_97 fl_X6_36 la_9 ly_9 rfl rfl ?_
  refine r_aload_n C 0 dX6_copyFrom_100 rfl rfl ?_
  refine r_getR C 80 dX6_copyFrom_101 fl_X6_36 la_71 ly_71 rfl rfl ?_
  refine r_callN C [rf G 80, rf G 18] dX6_copyFrom_104 (t_X11_copyRow_18_80 C.h1 C.h2 d17) (n_X11_copyRow_18_80 d17) mn_X6_52 ms_X11_copyRow (by decide) (by decide) (by decide) rfl rfl (Nat.le_of_ble_eq_true rfl) (fun r18 d19 => ?_)
  show SS G X 2 _ _ 107 [(0, rf G 71), (1, rf G 9)] [] d19 _
  refine r_aload_n C 1 dX6_copyFrom_107 rfl rfl ?_
  refine r_getR C 19 dX6_copyFrom_108 fl_X6_39 la_9 ly_9 rfl rfl ?_
  refine r_aload_n C 0 dX6_copyFrom_111 rfl rfl ?_
  refine r_getR C 81 dX6_copyFrom_112 fl_X6_39 la_71 ly_71 rfl rfl ?_
  refine r_callN C [rf G 81, rf G 19] dX6_copyFrom_115 (t_X11_copyRow_19_81 C.h1 C.h2 d19) (n_X11_copyRow_19_81 d19) mn_X6_52 ms_X11_copyRow (by decide) (by decide) (by decide) rfl rfl (Nat.le_of_ble_eq_true rfl) (fun r20 d21 => ?_)
  show SS G X 2 _ _ 118 [(0, rf G 71), (1, rf G 9)] [] d21 _
  refine r_aload_n C 1 dX6_copyFrom_118 rfl rfl ?_
  refine r_getR C 20 dX6_copyFrom_119 fl_X6_42 la_9 ly_9 rfl rfl ?_
  refine r_aload_n C 0 dX6_copyFrom_122 rfl rfl ?_
  refine r_getR C 82 dX6_copyFrom_123 fl_X6_42 la_71 ly_71 rfl rfl ?_
  refine r_callN C [rf G 82, rf G 20] dX6_copyFrom_126 (t_X11_copyRow_20_82 C.h1 C.h2 d21) (n_X11_copyRow_20_82 d21) mn_X6_52 ms_X11_copyRow (by decide) (by decide) (by decide) rfl rfl (Nat.le_of_ble_eq_true rfl) (fun r22 d23 => ?_)
  show SS G X 2 _ _ 129 [(0, rf G 71), (1, rf G 9)] [] d23 _
  refine r_aload_n C 1 dX6_copyFrom_129 rfl rfl ?_
  refine r_getR C 21 dX6_copyFrom_130 fl_X6_45 la_9 ly_9 rfl rfl ?_
  refine r_aload_n C 0 dX6_copyFrom_133 rfl rfl ?_
  refine r_getR C 83 dX6_copyFrom_134 fl_X6_45 la_71 ly_71 rfl rfl ?_
  refine r_callN C [rf G 83, rf G 21] dX6_copyFrom_137 (t_X11_copyRow_21_83 C.h1 C.h2 d23) (n_X11_copyRow_21_83 d23) mn_X6_52 ms_X11_copyRow (by decide) (by decide) (by decide) rfl rfl (Nat.le_of_ble_eq_true rfl) (fun r24 d25 => ?_)
  show SS G X 2 _ _ 140 [(0, rf G 71), (1, rf G 9)] [] d25 _
  exact r_vret C dX6_copyFrom_140 (by decide) (by decide)
theorem dX2_copyFrom_0 : decode cX2_copyFrom 0 = .ok (.aload_n 0, 1) := by decide +kernel
theorem dX2_copyFrom_1 : decode cX2_copyFrom 1 = .ok (.aload_n 1, 1) := by decide +kernel
theorem dX2_copyFrom_2 : decode cX2_copyFrom 2 = .ok (.getfield 14, 3) := by decide +kernel
theorem dX2_copyFrom_5 : decode cX2_copyFrom 5 = .ok (.putfield 14, 3) := by decide +kernel
theorem dX2_copyFrom_8 : decode cX2_copyFrom 8 = .ok (.aload_n 0, 1) := by decide +kernel
theorem dX2_copyFrom_9 : decode cX2_copyFrom 9 = .ok (.aload_n 1, 1) := by decide +kernel
theorem dX2_copyFrom_10 : decode cX2_copyFrom 10 = .ok (.getfield 18, 3) := by decide +kernel
theorem dX2_copyFrom_13 : decode cX2_copyFrom 13 = .ok (.putfield 18, 3) := by decide +kernel
theorem dX2_copyFrom_16 : decode cX2_copyFrom 16 = .ok (.aload_n 0, 1) := by decide +kernel
theorem dX2_copyFrom_17 : decode cX2_copyFrom 17 = .ok (.aload_n 1, 1) := by decide +kernel
theorem dX2_copyFrom_18 : decode cX2_copyFrom 18 = .ok (.getfield 21, 3) := by decide +kernel
theorem dX2_copyFrom_21 : decode cX2_copyFrom 21 = .ok (.putfield 21, 3) := by decide +kernel
theorem dX2_copyFrom_24 : decode cX2_copyFrom 24 = .ok (.aload_n 0, 1) := by decide +kernel
theorem dX2_copyFrom_25 : decode cX2_copyFrom 25 = .ok (.aload_n 1, 1) := by decide +kernel
theorem dX2_copyFrom_26 : decode cX2_copyFrom 26 = .ok (.getfield 24, 3) := by decide +kernel
theorem dX2_copyFrom_29 : decode cX2_copyFrom 29 = .ok (.putfield 24, 3) := by decide +kernel
theorem dX2_copyFrom_32 : decode cX2_copyFrom 32 = .ok (.aload_n 0, 1) := by decide +kernel
theorem dX2_copyFrom_33 : decode cX2_copyFrom 33 = .ok (.aload_n 1, 1) := by decide +kernel
theorem dX2_copyFrom_34 : decode cX2_copyFrom 34 = .ok (.getfield 27, 3) := by decide +kernel
theorem dX2_copyFrom_37 : decode cX2_copyFrom 37 = .ok (.putfield 27, 3) := by decide +kernel
theorem dX2_copyFrom_40 : decode cX2_copyFrom 40 = .ok (.aload_n 0, 1) := by decide +kernel
theorem dX2_copyFrom_41 : decode cX2_copyFrom 41 = .ok (.aload_n 1, 1) := by decide +kernel
theorem dX2_copyFrom_42 : decode cX2_copyFrom 42 = .ok (.getfield 30, 3) := by decide +kernel
theorem dX2_copyFrom_45 : decode cX2_copyFrom 45 = .ok (.putfield 30, 3) := by decide +kernel
theorem dX2_copyFrom_48 : decode cX2_copyFrom 48 = .ok (.aload_n 0, 1) := by decide +kernel
theorem dX2_copyFrom_49 : decode cX2_copyFrom 49 = .ok (.aload_n 1, 1) := by decide +kernel
theorem dX2_copyFrom_50 : decode cX2_copyFrom 50 = .ok (.getfield 33, 3) := by decide +kernel
theorem dX2_copyFrom_53 : decode cX2_copyFrom 53 = .ok (.putfield 33, 3) := by decide +kernel
theorem dX2_copyFrom_56 : decode cX2_copyFrom 56 = .ok (.aload_n 0, 1) := by decide +kernel
theorem dX2_copyFrom_57 : decode cX2_copyFrom 57 = .ok (.aload_n 1, 1) := by decide +kernel
theorem dX2_copyFrom_58 : decode cX2_copyFrom 58 = .ok (.getfield 36, 3) := by decide +kernel
theorem dX2_copyFrom_61 : decode cX2_copyFrom 61 = .ok (.putfield 36, 3) := by decide +kernel
theorem dX2_copyFrom_64 : decode cX2_copyFrom 64 = .ok (.return_, 1) := by decide +kernel
abbrev z_X2_copyFrom_84_22 : Z9 := (none, 0, 0, 0, 1, 0)
def m_X2_copyFrom_84_22 (d : D9) : Option R9 := pf d 84 0 (d 22 0) (fun d1 => pf d1 84 1 (d1 22 1) (fun d2 => pf d2 84 2 (d2 22 2) (fun d3 => pf d3 84 3 (d3 22 3) (fun d4 => pf d4 84 4 (d4 22 4) (fun d5 => pf d5 84 5 (d5 22 5) (fun d6 => pf d6 84 6 (d6 22 6) (fun d7 => pf d7 84 7 (d7 22 7) (fun d8 => rt 0 d8))))))))
set_option maxRecDepth 100000 in
theorem t_X2_copyFrom_84_22 {G : G9} {l : Launch} (h1 : va_D (A9 G) (wl G (fun _ _ => 0))) (h2 : l.stackTraces = false) (d : D9) : MT G l yX2_copyFrom cX2_copyFrom 2 z_X2_copyFrom_84_22 [rf G 84, rf G 22] d (m_X2_copyFrom_84_22  d) := by
  refine mt_of (own := RX2) (by decide) rfl (Nat.le_of_ble_eq_true rfl) h1 h2 [(0, rf G 84), (1, rf G 22)] rfl (fun X hX C => ?_)
  unfold m_X2_copyFrom_84_22
  refine r_aload_n C 0 dX2_copyFrom_0 rfl rfl ?_
  refine r_aload_n C 1 dX2_copyFrom_1 rfl rfl ?_
  refine r_getI C dX2_copyFrom_2 fl_X2_14 la_22 ly_22 rfl ?_
  refine r_putI C dX2_copyFrom_5 fp_X2_14 la_84 ly_84 rfl (fun d1 => ?_)
  refine r_aload_n C 0 dX2_copyFrom_8 rfl rfl ?_
  refine r_aload_n C 1 dX2_copyFrom_9 rfl rfl ?_
  refine r_getI C dX2_copyFrom_10 fl_X2_18 la_22 ly_22 rfl ?_
  refine r_putI C dX2_copyFrom_13 fp_X2_18 la_84 ly_84 rfl (fun d2 => ?_)
  refine r_aload_n C 0 dX2_copyFrom_16 rfl rfl ?_
  refine r_aload_n C 1 dX2_copyFrom_17 rfl rfl ?_
  refine r_getI C dX2_copyFrom_18 fl_X2_21 la_22 ly_22 rfl ?_
  refine r_putI C dX2_copyFrom_21 fp_X2_21 la_84 ly_84 rfl (fun d3 => ?_)
  refine r_aload_n C 0 dX2_copyFrom_24 rfl rfl ?_
  refine r_aload_n C 1 dX2_copyFrom_25 rfl rfl ?_
  refine r_getI C dX2_copyFrom_26 fl_X2_24 la_22 ly_22 rfl ?_
  refine r_putI C dX2_copyFrom_29 fp_X2_24 la_84 ly_84 rfl (fun d4 => ?_)
  refine r_aload_n C 0 dX2_copyFrom_32 rfl rfl ?_
  refine r_aload_n C 1 dX2_copyFrom_33 rfl rfl ?_
  refine r_getI C dX2_copyFrom_34 fl_X2_27 la_22 ly_22 rfl ?_
  refine r_putI C dX2_copyFrom_37 fp_X2_27 la_84 ly_84 rfl (fun d5 => ?_)
  refine r_aload_n C 0 dX2_copyFrom_40 rfl rfl ?_
  refine r_aload_n C 1 dX2_copyFrom_41 rfl rfl ?_
  refine r_getI C dX2_copyFrom_42 fl_X2_30 la_22 ly_22 rfl ?_
  refine r_putI C dX2_copyFrom_45 fp_X2_30 la_84 ly_84 rfl (fun d6 => ?_)
  refine r_aload_n C 0 dX2_copyFrom_48 rfl rfl ?_
  refine r_aload_n C 1 dX2_copyFrom_49 rfl rfl ?_
  refine r_getI C dX2_copyFrom_50 fl_X2_33 la_22 ly_22 rfl ?_
  refine r_putI C dX2_copyFrom_53 fp_X2_33 la_84 ly_84 rfl (fun d7 => ?_)
  refine r_aload_n C 0 dX2_copyFrom_56 rfl rfl ?_
  refine r_aload_n C 1 dX2_copyFrom_57 rfl rfl ?_
  refine r_getI C dX2_copyFrom_58 fl_X2_36 la_22 ly_22 rfl ?_
  refine r_putI C dX2_copyFrom_61 fp_X2_36 la_84 ly_84 rfl (fun d8 => ?_)
  exact r_vret C dX2_copyFrom_64 (by decide) (by decide)
abbrev z_X11_copyRow_24_86 : Z9 := (none, 0, 0, 0, 2, 200)
def m_X11_copyRow_24_86 (d : D9) : Option R9 := cp9 d 24 12 86 12 (min9 12 12) (fun d1 => rt 0 d1)
set_option maxRecDepth 100000 in
theorem t_X11_copyRow_24_86 {G : G9} {l : Launch} (h1 : va_D (A9 G) (wl G (fun _ _ => 0))) (h2 : l.stackTraces = false) (d : D9) : MT G l yX11_copyRow cX11_copyRow 2 z_X11_copyRow_24_86 [rf G 24, rf G 86] d (m_X11_copyRow_24_86  d) := by
  refine mt_of (own := RX11) (by decide) rfl (Nat.le_of_ble_eq_true rfl) h1 h2 [(0, rf G 24), (1, rf G 86)] rfl (fun X hX C => ?_)
  unfold m_X11_copyRow_24_86
  refine r_aload_n C 0 dX11_copyRow_0 rfl rfl ?_
  refine r_iconst C dX11_copyRow_1 ?_
  refine r_aload_n C 1 dX11_copyRow_2 rfl rfl ?_
  refine r_iconst C dX11_copyRow_3 ?_
  refine r_aload_n C 0 dX11_copyRow_4 rfl rfl ?_
  refine r_alen C dX11_copyRow_5 la_24 ly_24 ?_
  refine r_aload_n C 1 dX11_copyRow_6 rfl rfl ?_
  refine r_alen C dX11_copyRow_7 la_86 ly_86 ?_
  refine r_mmin C dX11_copyRow_8 mm_X11_465 ⟨Nat.le_of_ble_eq_true rfl, Nat.le_of_ble_eq_true rfl⟩ (by decide) (by decide) ?_
  refine r_acopy C dX11_copyRow_11 aw_X11_470 la_24 ly_24 la_86 ly_86 (by decide) (Nat.le_of_ble_eq_true rfl) (fun d1 => ?_)
  exact r_vret C dX11_copyRow_14 (by decide) (by decide)
theorem n_X11_copyRow_24_86 (d : D9) : NT9 (m_X11_copyRow_24_86  d) := by
  unfold m_X11_copyRow_24_86
  repeat (first | exact nt_rt | exact nt_none | apply nt_if | refine nt_cl ?_ (fun _ _ => ?_) | refine nt_cp9 (fun _ => ?_))
abbrev z_X11_copyRow_25_87 : Z9 := (none, 0, 0, 0, 2, 200)
def m_X11_copyRow_25_87 (d : D9) : Option R9 := cp9 d 25 12 87 12 (min9 12 12) (fun d1 => rt 0 d1)
set_option maxRecDepth 100000 in
theorem t_X11_copyRow_25_87 {G : G9} {l : Launch} (h1 : va_D (A9 G) (wl G (fun _ _ => 0))) (h2 : l.stackTraces = false) (d : D9) : MT G l yX11_copyRow cX11_copyRow 2 z_X11_copyRow_25_87 [rf G 25, rf G 87] d (m_X11_copyRow_25_87  d) := by
  refine mt_of (own := RX11) (by decide) rfl (Nat.le_of_ble_eq_true rfl) h1 h2 [(0, rf G 25), (1, rf G 87)] rfl (fun X hX C => ?_)
  unfold m_X11_copyRow_25_87
  refine r_aload_n C 0 dX11_copyRow_0 rfl rfl ?_
  refine r_iconst C dX11_copyRow_1 ?_
  refine r_aload_n C 1 dX11_copyRow_2 rfl rfl ?_
  refine r_iconst C dX11_copyRow_3 ?_
  refine r_aload_n C 0 dX11_copyRow_4 rfl rfl ?_
  refine r_alen C dX11_copyRow_5 la_25 ly_25 ?_
  refine r_aload_n C 1 dX11_copyRow_6 rfl rfl ?_
  refine r_alen C dX11_copyRow_7 la_87 ly_87 ?_
  refine r_mmin C dX11_copyRow_8 mm_X11_465 ⟨Nat.le_of_ble_eq_true rfl, Nat.le_of_ble_eq_true rfl⟩ (by decide) (by decide) ?_
  refine r_acopy C dX11_copyRow_11 aw_X11_470 la_25 ly_25 la_87 ly_87 (by decide) (Nat.le_of_ble_eq_true rfl) (fun d1 => ?_)
  exact r_vret C dX11_copyRow_14 (by decide) (by decide)
theorem n_X11_copyRow_25_87 (d : D9) : NT9 (m_X11_copyRow_25_87  d) := by
  unfold m_X11_copyRow_25_87
  repeat (first | exact nt_rt | exact nt_none | apply nt_if | refine nt_cl ?_ (fun _ _ => ?_) | refine nt_cp9 (fun _ => ?_))
abbrev z_X11_copyRow_26_88 : Z9 := (none, 0, 0, 0, 2, 200)
def m_X11_copyRow_26_88 (d : D9) : Option R9 := cp9 d 26 12 88 12 (min9 12 12) (fun d1 => rt 0 d1)
set_option maxRecDepth 100000 in
theorem t_X11_copyRow_26_88 {G : G9} {l : Launch} (h1 : va_D (A9 G) (wl G (fun _ _ => 0))) (h2 : l.stackTraces = false) (d : D9) : MT G l yX11_copyRow cX11_copyRow 2 z_X11_copyRow_26_88 [rf G 26, rf G 88] d (m_X11_copyRow_26_88  d) := by
  refine mt_of (own := RX11) (by decide) rfl (Nat.le_of_ble_eq_true rfl) h1 h2 [(0, rf G 26), (1, rf G 88)] rfl (fun X hX C => ?_)
  unfold m_X11_copyRow_26_88
  refine r_aload_n C 0 dX11_copyRow_0 rfl rfl ?_
  refine r_iconst C dX11_copyRow_1 ?_
  refine r_aload_n C 1 dX11_copyRow_2 rfl rfl ?_
  refine r_iconst C dX11_copyRow_3 ?_
  refine r_aload_n C 0 dX11_copyRow_4 rfl rfl ?_
  refine r_alen C dX11_copyRow_5 la_26 ly_26 ?_
  refine r_aload_n C 1 dX11_copyRow_6 rfl rfl ?_
  refine r_alen C dX11_copyRow_7 la_88 ly_88 ?_
  refine r_mmin C dX11_copyRow_8 mm_X11_465 ⟨Nat.le_of_ble_eq_true rfl, Nat.le_of_ble_eq_true rfl⟩ (by decide) (by decide) ?_
  refine r_acopy C dX11_copyRow_11 aw_X11_470 la_26 ly_26 la_88 ly_88 (by decide) (Nat.le_of_ble_eq_true rfl) (fun d1 => ?_)
  exact r_vret C dX11_copyRow_14 (by decide) (by decide)
theorem n_X11_copyRow_26_88 (d : D9) : NT9 (m_X11_copyRow_26_88  d) := by
  unfold m_X11_copyRow_26_88
  repeat (first | exact nt_rt | exact nt_none | apply nt_if | refine nt_cl ?_ (fun _ _ => ?_) | refine nt_cp9 (fun _ => ?_))
abbrev z_X11_copyRow_27_89 : Z9 := (none, 0, 0, 0, 2, 200)
def m_X11_copyRow_27_89 (d : D9) : Option R9 := cp9 d 27 12 89 12 (min9 12 12) (fun d1 => rt 0 d1)
set_option maxRecDepth 100000 in
theorem t_X11_copyRow_27_89 {G : G9} {l : Launch} (h1 : va_D (A9 G) (wl G (fun _ _ => 0))) (h2 : l.stackTraces = false) (d : D9) : MT G l yX11_copyRow cX11_copyRow 2 z_X11_copyRow_27_89 [rf G 27, rf G 89] d (m_X11_copyRow_27_89  d) := by
  refine mt_of (own := RX11) (by decide) rfl (Nat.le_of_ble_eq_true rfl) h1 h2 [(0, rf G 27), (1, rf G 89)] rfl (fun X hX C => ?_)
  unfold m_X11_copyRow_27_89
  refine r_aload_n C 0 dX11_copyRow_0 rfl rfl ?_
  refine r_iconst C dX11_copyRow_1 ?_
  refine r_aload_n C 1 dX11_copyRow_2 rfl rfl ?_
  refine r_iconst C dX11_copyRow_3 ?_
  refine r_aload_n C 0 dX11_copyRow_4 rfl rfl ?_
  refine r_alen C dX11_copyRow_5 la_27 ly_27 ?_
  refine r_aload_n C 1 dX11_copyRow_6 rfl rfl ?_
  refine r_alen C dX11_copyRow_7 la_89 ly_89 ?_
  refine r_mmin C dX11_copyRow_8 mm_X11_465 ⟨Nat.le_of_ble_eq_true rfl, Nat.le_of_ble_eq_true rfl⟩ (by decide) (by decide) ?_
  refine r_acopy C dX11_copyRow_11 aw_X11_470 la_27 ly_27 la_89 ly_89 (by decide) (Nat.le_of_ble_eq_true rfl) (fun d1 => ?_)
  exact r_vret C dX11_copyRow_14 (by decide) (by decide)
theorem n_X11_copyRow_27_89 (d : D9) : NT9 (m_X11_copyRow_27_89  d) := by
  unfold m_X11_copyRow_27_89
  repeat (first | exact nt_rt | exact nt_none | apply nt_if | refine nt_cl ?_ (fun _ _ => ?_) | refine nt_cp9 (fun _ => ?_))
theorem dX7_copyFrom_0 : decode cX7_copyFrom 0 = .ok (.aload_n 0, 1) := by decide +kernel
theorem dX7_copyFrom_1 : decode cX7_copyFrom 1 = .ok (.aload_n 1, 1) := by decide +kernel
theorem dX7_copyFrom_2 : decode cX7_copyFrom 2 = .ok (.getfield 24, 3) := by decide +kernel
theorem dX7_copyFrom_5 : decode cX7_copyFrom 5 = .ok (.putfield 24, 3) := by decide +kernel
theorem dX7_copyFrom_8 : decode cX7_copyFrom 8 = .ok (.aload_n 1, 1) := by decide +kernel
theorem dX7_copyFrom_9 : decode cX7_copyFrom 9 = .ok (.getfield 9, 3) := by decide +kernel
theorem dX7_copyFrom_12 : decode cX7_copyFrom 12 = .ok (.aload_n 0, 1) := by decide +kernel
theorem dX7_copyFrom_13 : decode cX7_copyFrom 13 = .ok (.getfield 9, 3) := by decide +kernel
theorem dX7_copyFrom_16 : decode cX7_copyFrom 16 = .ok (.invokestatic 28, 3) := by decide +kernel
theorem dX7_copyFrom_19 : decode cX7_copyFrom 19 = .ok (.aload_n 1, 1) := by decide +kernel
theorem dX7_copyFrom_20 : decode cX7_copyFrom 20 = .ok (.getfield 15, 3) := by decide +kernel
theorem dX7_copyFrom_23 : decode cX7_copyFrom 23 = .ok (.aload_n 0, 1) := by decide +kernel
theorem dX7_copyFrom_24 : decode cX7_copyFrom 24 = .ok (.getfield 15, 3) := by decide +kernel
theorem dX7_copyFrom_27 : decode cX7_copyFrom 27 = .ok (.invokestatic 28, 3) := by decide +kernel
theorem dX7_copyFrom_30 : decode cX7_copyFrom 30 = .ok (.aload_n 1, 1) := by decide +kernel
theorem dX7_copyFrom_31 : decode cX7_copyFrom 31 = .ok (.getfield 18, 3) := by decide +kernel
theorem dX7_copyFrom_34 : decode cX7_copyFrom 34 = .ok (.aload_n 0, 1) := by decide +kernel
theorem dX7_copyFrom_35 : decode cX7_copyFrom 35 = .ok (.getfield 18, 3) := by decide +kernel
theorem dX7_copyFrom_38 : decode cX7_copyFrom 38 = .ok (.invokestatic 28, 3) := by decide +kernel
theorem dX7_copyFrom_41 : decode cX7_copyFrom 41 = .ok (.aload_n 1, 1) := by decide +kernel
theorem dX7_copyFrom_42 : decode cX7_copyFrom 42 = .ok (.getfield 21, 3) := by decide +kernel
theorem dX7_copyFrom_45 : decode cX7_copyFrom 45 = .ok (.aload_n 0, 1) := by decide +kernel
theorem dX7_copyFrom_46 : decode cX7_copyFrom 46 = .ok (.getfield 21, 3) := by decide +kernel
theorem dX7_copyFrom_49 : decode cX7_copyFrom 49 = .ok (.invokestatic 28, 3) := by decide +kernel
theorem dX7_copyFrom_52 : decode cX7_copyFrom 52 = .ok (.return_, 1) := by decide +kernel
abbrev z_X7_copyFrom_85_23 : Z9 := (none, 0, 0, 0, 3, 221)
def m_X7_copyFrom_85_23 (d : D9) : Option R9 := pf d 85 0 (d 23 0) (fun d1 => cl (m_X11_copyRow_24_86 d1) (fun r2 d3 => cl (m_X11_copyRow_25_87 d3) (fun r4 d5 => cl (m_X11_copyRow_26_88 d5) (fun r6 d7 => cl (m_X11_copyRow_27_89 d7) (fun r8 d9 => rt 0 d9)))))
set_option maxRecDepth 100000 in
theorem t_X7_copyFrom_85_23 {G : G9} {l : Launch} (h1 : va_D (A9 G) (wl G (fun _ _ => 0))) (h2 : l.stackTraces = false) (d : D9) : MT G l yX7_copyFrom cX7_copyFrom 2 z_X7_copyFrom_85_23 [rf G 85, rf G 23] d (m_X7_copyFrom_85_23  d) := by
  refine mt_of (own := RX7) (by decide) rfl (Nat.le_of_ble_eq_true rfl) h1 h2 [(0, rf G 85), (1, rf G 23)] rfl (fun X hX C => ?_)
  unfold m_X7_copyFrom_85_23
  refine r_aload_n C 0 dX7_copyFrom_0 rfl rfl ?_
  refine r_aload_n C 1 dX7_copyFrom_1 rfl rfl ?_
  refine r_getI C dX7_copyFrom_2 fl_X7_24 la_23 ly_23 rfl ?_
  refine r_putI C dX7_copyFrom_5 fp_X7_24 la_85 ly_85 rfl (fun d1 => ?_)
  refine r_aload_n C 1 dX7_copyFrom_8 rfl rfl ?_
  refine r_getR C 24 dX7_copyFrom_9 fl_X7_9 la_23 ly_23 rfl rfl ?_
  refine r_aload_n C 0 dX7_copyFrom_12 rfl rfl ?_
  refine r_getR C 86 dX7_copyFrom_13 fl_X7_9 la_85 ly_85 rfl rfl ?_
  refine r_callN C [rf G 86, rf G 24] dX7_copyFrom_16 (t_X11_copyRow_24_86 C.h1 C.h2 d1) (n_X11_copyRow_24_86 d1) mn_X7_28 ms_X11_copyRow (by decide) (by decide) (by decide) rfl rfl (Nat.le_of_ble_eq_true rfl) (fun r2 d3 => ?_)
  show SS G X 2 _ _ 19 [(0, rf G 85), (1, rf G 23)] [] d3 _
  refine r_aload_n C 1 dX7_copyFrom_19 rfl rfl ?_
  refine r_getR C 25 dX7_copyFrom_20 fl_X7_15 la_23 ly_23 rfl rfl ?_
  refine r_aload_n C 0 dX7_copyFrom_23 rfl rfl ?_
  refine r_getR C 87 dX7_copyFrom_24 fl_X7_15 la_85 ly_85 rfl rfl ?_
  refine r_callN C [rf G 87, rf G 25] dX7_copyFrom_27 (t_X11_copyRow_25_87 C.h1 C.h2 d3) (n_X11_copyRow_25_87 d3) mn_X7_28 ms_X11_copyRow (by decide) (by decide) (by decide) rfl rfl (Nat.le_of_ble_eq_true rfl) (fun r4 d5 => ?_)
  show SS G X 2 _ _ 30 [(0, rf G 85), (1, rf G 23)] [] d5 _
  refine r_aload_n C 1 dX7_copyFrom_30 rfl rfl ?_
  refine r_getR C 26 dX7_copyFrom_31 fl_X7_18 la_23 ly_23 rfl rfl ?_
  refine r_aload_n C 0 dX7_copyFrom_34 rfl rfl ?_
  refine r_getR C 88 dX7_copyFrom_35 fl_X7_18 la_85 ly_85 rfl rfl ?_
  refine r_callN C [rf G 88, rf G 26] dX7_copyFrom_38 (t_X11_copyRow_26_88 C.h1 C.h2 d5) (n_X11_copyRow_26_88 d5) mn_X7_28 ms_X11_copyRow (by decide) (by decide) (by decide) rfl rfl (Nat.le_of_ble_eq_true rfl) (fun r6 d7 => ?_)
  show SS G X 2 _ _ 41 [(0, rf G 85), (1, rf G 23)] [] d7 _
  refine r_aload_n C 1 dX7_copyFrom_41 rfl rfl ?_
  refine r_getR C 27 dX7_copyFrom_42 fl_X7_21 la_23 ly_23 rfl rfl ?_
  refine r_aload_n C 0 dX7_copyFrom_45 rfl rfl ?_
  refine r_getR C 89 dX7_copyFrom_46 fl_X7_21 la_85 ly_85 rfl rfl ?_
  refine r_callN C [rf G 89, rf G 27] dX7_copyFrom_49 (t_X11_copyRow_27_89 C.h1 C.h2 d7) (n_X11_copyRow_27_89 d7) mn_X7_28 ms_X11_copyRow (by decide) (by decide) (by decide) rfl rfl (Nat.le_of_ble_eq_true rfl) (fun r8 d9 => ?_)
  show SS G X 2 _ _ 52 [(0, rf G 85), (1, rf G 23)] [] d9 _
  exact r_vret C dX7_copyFrom_52 (by decide) (by decide)

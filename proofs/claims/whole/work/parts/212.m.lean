theorem dX12_layCandidates_0 : decode cX12_layCandidates 0 = .ok (.aload_n 0, 1) := by decide +kernel
theorem dX12_layCandidates_1 : decode cX12_layCandidates 1 = .ok (.iconst 0, 1) := by decide +kernel
theorem dX12_layCandidates_2 : decode cX12_layCandidates 2 = .ok (.putfield 453, 3) := by decide +kernel
theorem dX12_layCandidates_5 : decode cX12_layCandidates 5 = .ok (.iconst 0, 1) := by decide +kernel
theorem dX12_layCandidates_6 : decode cX12_layCandidates 6 = .ok (.istore_n 1, 1) := by decide +kernel
theorem dX12_layCandidates_7 : decode cX12_layCandidates 7 = .ok (.iload_n 1, 1) := by decide +kernel
theorem dX12_layCandidates_8 : decode cX12_layCandidates 8 = .ok (.aload_n 0, 1) := by decide +kernel
theorem dX12_layCandidates_9 : decode cX12_layCandidates 9 = .ok (.getfield 9, 3) := by decide +kernel
theorem dX12_layCandidates_12 : decode cX12_layCandidates 12 = .ok (.iconst 1, 1) := by decide +kernel
theorem dX12_layCandidates_13 : decode cX12_layCandidates 13 = .ok (.iaload, 1) := by decide +kernel
theorem dX12_layCandidates_14 : decode cX12_layCandidates 14 = .ok (.if_icmp .ge 59, 3) := by decide +kernel
theorem dX12_layCandidates_17 : decode cX12_layCandidates 17 = .ok (.aload_n 0, 1) := by decide +kernel
theorem dX12_layCandidates_18 : decode cX12_layCandidates 18 = .ok (.getfield 453, 3) := by decide +kernel
theorem dX12_layCandidates_21 : decode cX12_layCandidates 21 = .ok (.bipush 12, 2) := by decide +kernel
theorem dX12_layCandidates_23 : decode cX12_layCandidates 23 = .ok (.if_icmp .eq 44, 3) := by decide +kernel
theorem dX12_layCandidates_26 : decode cX12_layCandidates 26 = .ok (.aload_n 0, 1) := by decide +kernel
theorem dX12_layCandidates_27 : decode cX12_layCandidates 27 = .ok (.iload_n 1, 1) := by decide +kernel
theorem dX12_layCandidates_28 : decode cX12_layCandidates 28 = .ok (.iconst 4, 1) := by decide +kernel
theorem dX12_layCandidates_29 : decode cX12_layCandidates 29 = .ok (.invokevirtual 124, 3) := by decide +kernel
theorem dX12_layCandidates_32 : decode cX12_layCandidates 32 = .ok (.ifCond .gt 35, 3) := by decide +kernel
theorem dX12_layCandidates_35 : decode cX12_layCandidates 35 = .ok (.aload_n 0, 1) := by decide +kernel
theorem dX12_layCandidates_36 : decode cX12_layCandidates 36 = .ok (.iload_n 1, 1) := by decide +kernel
theorem dX12_layCandidates_37 : decode cX12_layCandidates 37 = .ok (.iconst 1, 1) := by decide +kernel
theorem dX12_layCandidates_38 : decode cX12_layCandidates 38 = .ok (.invokevirtual 124, 3) := by decide +kernel
theorem dX12_layCandidates_41 : decode cX12_layCandidates 41 = .ok (.ifCond .ne 6, 3) := by decide +kernel
theorem dX12_layCandidates_44 : decode cX12_layCandidates 44 = .ok (.goto 23, 3) := by decide +kernel
theorem dX12_layCandidates_47 : decode cX12_layCandidates 47 = .ok (.aload_n 0, 1) := by decide +kernel
theorem dX12_layCandidates_48 : decode cX12_layCandidates 48 = .ok (.getfield 52, 3) := by decide +kernel
theorem dX12_layCandidates_51 : decode cX12_layCandidates 51 = .ok (.aload_n 0, 1) := by decide +kernel
theorem dX12_layCandidates_52 : decode cX12_layCandidates 52 = .ok (.getfield 453, 3) := by decide +kernel
theorem dX12_layCandidates_55 : decode cX12_layCandidates 55 = .ok (.iload_n 1, 1) := by decide +kernel
theorem dX12_layCandidates_56 : decode cX12_layCandidates 56 = .ok (.iastore, 1) := by decide +kernel
theorem dX12_layCandidates_57 : decode cX12_layCandidates 57 = .ok (.aload_n 0, 1) := by decide +kernel
theorem dX12_layCandidates_58 : decode cX12_layCandidates 58 = .ok (.dup, 1) := by decide +kernel
theorem dX12_layCandidates_59 : decode cX12_layCandidates 59 = .ok (.getfield 453, 3) := by decide +kernel
theorem dX12_layCandidates_62 : decode cX12_layCandidates 62 = .ok (.iconst 1, 1) := by decide +kernel
theorem dX12_layCandidates_63 : decode cX12_layCandidates 63 = .ok (.iadd, 1) := by decide +kernel
theorem dX12_layCandidates_64 : decode cX12_layCandidates 64 = .ok (.putfield 453, 3) := by decide +kernel
theorem dX12_layCandidates_67 : decode cX12_layCandidates 67 = .ok (.iinc 1 1, 3) := by decide +kernel
theorem dX12_layCandidates_70 : decode cX12_layCandidates 70 = .ok (.goto (-63), 3) := by decide +kernel
theorem dX12_layCandidates_73 : decode cX12_layCandidates 73 = .ok (.return_, 1) := by decide +kernel
abbrev z_X12_layCandidates_174 : Z9 := (none, 0, 0, 0, 2, 22)
def b_X12_layCandidates_174_c7 (k_X12_layCandidates_174_c7 : Int → D9 → Option R9) (v1 : Int) (d : D9) : Option R9 := ld d 175 1604 1 (fun t1 => if w32 t1 ≤ w32 v1 then rt 0 d else if w32 (d 174 31) = w32 12 then k_X12_layCandidates_174_c7 (v1 + 1) d else cl (m_X12_ofSkin_174 v1 4 d) (fun r2 d3 => if 0 < w32 r2 then k_X12_layCandidates_174_c7 (v1 + 1) d3 else cl (m_X12_ofSkin_174 v1 1 d3) (fun r4 d5 => if w32 r4 ≠ 0 then sd d5 187 12 (d5 174 31) v1 (fun d6 => pf d6 174 31 ((d6 174 31) + 1) (fun d7 => k_X12_layCandidates_174_c7 (v1 + 1) d7)) else k_X12_layCandidates_174_c7 (v1 + 1) d5)))
def m_X12_layCandidates_174_c7 : Int → D9 → Option R9 := fix9 (fun _ _ => none) (fun k => b_X12_layCandidates_174_c7 k) FU
def m_X12_layCandidates_174 (d : D9) : Option R9 := pf d 174 31 0 (fun d1 => m_X12_layCandidates_174_c7  0 d1)
set_option maxRecDepth 100000 in
theorem sb_X12_layCandidates_174_c7 {G : G9} {X : X9} (C : CX G X cX12_layCandidates 2 RX12 [] z_X12_layCandidates_174) (k_X12_layCandidates_174_c7 : Int → D9 → Option R9) (hk_X12_layCandidates_174_c7 : ∀ (v1 : Int) (d : D9), SS G X 2 0 0 7 [(0, rf G 174), (1, i9 v1)] [] d (k_X12_layCandidates_174_c7 v1 d)) : ∀ (v1 : Int) (d : D9), SS G X 2 0 0 7 [(0, rf G 174), (1, i9 v1)] [] d (b_X12_layCandidates_174_c7 k_X12_layCandidates_174_c7 v1 d) := by
  intro v1 d
  unfold b_X12_layCandidates_174_c7
  refine r_iload_n C 1 dX12_layCandidates_7 rfl rfl ?_
  refine r_aload_n C 0 dX12_layCandidates_8 rfl rfl ?_
  refine r_getR C 175 dX12_layCandidates_9 fl_X12_9 la_174 ly_174 rfl rfl ?_
  refine r_iconst C dX12_layCandidates_12 ?_
  refine r_iald C dX12_layCandidates_13 la_175 ly_175 (fun t1 => ?_)
  refine r_icmp_ge C 73 dX12_layCandidates_14 (by decide) (fun _ => ?_) (fun _ => ?_)
  · exact r_vret C dX12_layCandidates_73 (by decide) (by decide)
  · refine r_aload_n C 0 dX12_layCandidates_17 rfl rfl ?_
    refine r_getI C dX12_layCandidates_18 fl_X12_453 la_174 ly_174 rfl ?_
    refine r_bipush C dX12_layCandidates_21 rfl ?_
    refine r_icmp_eq C 67 dX12_layCandidates_23 (by decide) (fun _ => ?_) (fun _ => ?_)
    · refine r_iinc C 1 [(1, i9 (v1 + 1)), (0, rf G 174)] dX12_layCandidates_67 rfl (by decide) rfl ?_
      refine r_goto C 7 dX12_layCandidates_70 (by decide) ?_
      refine ss_wide (k' := 0) (n' := 0) (by decide) (by decide) ?_
      refine ss_ls [(0, rf G 174), (1, i9 (v1 + 1))] [1, 0] rfl ?_
      exact hk_X12_layCandidates_174_c7 (v1 + 1) d
    · refine r_aload_n C 0 dX12_layCandidates_26 rfl rfl ?_
      refine r_iload_n C 1 dX12_layCandidates_27 rfl rfl ?_
      refine r_iconst C dX12_layCandidates_28 ?_
      refine r_callV C [i9 4, i9 v1, rf G 174] dX12_layCandidates_29 (t_X12_ofSkin_174 C.h1 C.h2 v1 4 d) mw_X12_124 mv_X12_ofSkin la_174 ly_174 rfl (by decide) (by decide) (by decide) rfl rfl (Nat.le_of_ble_eq_true rfl) (fun r2 d3 => ?_)
      show SS G X 2 _ _ 32 [(0, rf G 174), (1, i9 v1)] [i9 r2] d3 _
      refine r_if_gt C (b := 0) 67 dX12_layCandidates_32 (by decide) (fun _ => ?_) (fun _ => ?_)
      · refine r_iinc C 1 [(1, i9 (v1 + 1)), (0, rf G 174)] dX12_layCandidates_67 rfl (by decide) rfl ?_
        refine r_goto C 7 dX12_layCandidates_70 (by decide) ?_
        refine ss_wide (k' := 0) (n' := 0) (by decide) (by decide) ?_
        refine ss_ls [(0, rf G 174), (1, i9 (v1 + 1))] [1, 0] rfl ?_
        exact hk_X12_layCandidates_174_c7 (v1 + 1) d3
      · refine r_aload_n C 0 dX12_layCandidates_35 rfl rfl ?_
        refine r_iload_n C 1 dX12_layCandidates_36 rfl rfl ?_
        refine r_iconst C dX12_layCandidates_37 ?_
        refine r_callV C [i9 1, i9 v1, rf G 174] dX12_layCandidates_38 (t_X12_ofSkin_174 C.h1 C.h2 v1 1 d3) mw_X12_124 mv_X12_ofSkin la_174 ly_174 rfl (by decide) (by decide) (by decide) rfl rfl (Nat.le_of_ble_eq_true rfl) (fun r4 d5 => ?_)
        show SS G X 2 _ _ 41 [(0, rf G 174), (1, i9 v1)] [i9 r4] d5 _
        refine r_if_ne C (b := 0) 47 dX12_layCandidates_41 (by decide) (fun _ => ?_) (fun _ => ?_)
        · refine r_aload_n C 0 dX12_layCandidates_47 rfl rfl ?_
          refine r_getR C 187 dX12_layCandidates_48 fl_X12_52 la_174 ly_174 rfl rfl ?_
          refine r_aload_n C 0 dX12_layCandidates_51 rfl rfl ?_
          refine r_getI C dX12_layCandidates_52 fl_X12_453 la_174 ly_174 rfl ?_
          refine r_iload_n C 1 dX12_layCandidates_55 rfl rfl ?_
          refine r_iast C dX12_layCandidates_56 la_187 ly_187 (fun d6 => ?_)
          refine r_aload_n C 0 dX12_layCandidates_57 rfl rfl ?_
          refine r_dup C dX12_layCandidates_58 rfl ?_
          refine r_getI C dX12_layCandidates_59 fl_X12_453 la_174 ly_174 rfl ?_
          refine r_iconst C dX12_layCandidates_62 ?_
          refine r_iadd C dX12_layCandidates_63 ?_
          refine r_putI C dX12_layCandidates_64 fp_X12_453 la_174 ly_174 rfl (fun d7 => ?_)
          refine r_iinc C 1 [(1, i9 (v1 + 1)), (0, rf G 174)] dX12_layCandidates_67 rfl (by decide) rfl ?_
          refine r_goto C 7 dX12_layCandidates_70 (by decide) ?_
          refine ss_wide (k' := 0) (n' := 0) (by decide) (by decide) ?_
          refine ss_ls [(0, rf G 174), (1, i9 (v1 + 1))] [1, 0] rfl ?_
          exact hk_X12_layCandidates_174_c7 (v1 + 1) d7
        · refine r_goto C 67 dX12_layCandidates_44 (by decide) ?_
          refine r_iinc C 1 [(1, i9 (v1 + 1)), (0, rf G 174)] dX12_layCandidates_67 rfl (by decide) rfl ?_
          refine r_goto C 7 dX12_layCandidates_70 (by decide) ?_
          refine ss_wide (k' := 0) (n' := 0) (by decide) (by decide) ?_
          refine ss_ls [(0, rf G 174), (1, i9 (v1 + 1))] [1, 0] rfl ?_
          exact hk_X12_layCandidates_174_c7 (v1 + 1) d5
theorem s_X12_layCandidates_174_c7 {G : G9} {X : X9} (C : CX G X cX12_layCandidates 2 RX12 [] z_X12_layCandidates_174) : ∀ (v1 : Int) (d : D9), SS G X 2 0 0 7 [(0, rf G 174), (1, i9 v1)] [] d (m_X12_layCandidates_174_c7  v1 d) :=
  fix9_ind (P := fun k => ∀ (v1 : Int) (d : D9), SS G X 2 0 0 7 [(0, rf G 174), (1, i9 v1)] [] d (k v1 d)) (fun _ _ => ss_none) (fun k hk => sb_X12_layCandidates_174_c7 C k hk) FU
set_option maxRecDepth 100000 in
theorem t_X12_layCandidates_174 {G : G9} {l : Launch} (h1 : va_D (A9 G) (wl G (fun _ _ => 0))) (h2 : l.stackTraces = false) (d : D9) : MT G l yX12_layCandidates cX12_layCandidates 2 z_X12_layCandidates_174 [rf G 174] d (m_X12_layCandidates_174  d) := by
  refine mt_of (own := RX12) (by decide) rfl (Nat.le_of_ble_eq_true rfl) h1 h2 [(0, rf G 174)] rfl (fun X hX C => ?_)
  unfold m_X12_layCandidates_174
  refine r_aload_n C 0 dX12_layCandidates_0 rfl rfl ?_
  refine r_iconst C dX12_layCandidates_1 ?_
  refine r_putI C dX12_layCandidates_2 fp_X12_453 la_174 ly_174 rfl (fun d1 => ?_)
  refine r_iconst C dX12_layCandidates_5 ?_
  refine r_istore_n C [(1, i9 0), (0, rf G 174)] dX12_layCandidates_6 rfl (by decide) rfl ?_
  refine ss_wide (k' := 0) (n' := 0) (by decide) (by decide) ?_
  refine ss_ls [(0, rf G 174), (1, i9 0)] [1, 0] rfl ?_
  exact s_X12_layCandidates_174_c7 C  0 d1
theorem dX12_grainsOf_0 : decode cX12_grainsOf 0 = .ok (.iconst 0, 1) := by decide +kernel
theorem dX12_grainsOf_1 : decode cX12_grainsOf 1 = .ok (.istore_n 2, 1) := by decide +kernel
theorem dX12_grainsOf_2 : decode cX12_grainsOf 2 = .ok (.iconst 0, 1) := by decide +kernel
theorem dX12_grainsOf_3 : decode cX12_grainsOf 3 = .ok (.istore_n 3, 1) := by decide +kernel
theorem dX12_grainsOf_4 : decode cX12_grainsOf 4 = .ok (.iload_n 3, 1) := by decide +kernel
theorem dX12_grainsOf_5 : decode cX12_grainsOf 5 = .ok (.aload_n 0, 1) := by decide +kernel
theorem dX12_grainsOf_6 : decode cX12_grainsOf 6 = .ok (.getfield 453, 3) := by decide +kernel
theorem dX12_grainsOf_9 : decode cX12_grainsOf 9 = .ok (.if_icmp .ge 36, 3) := by decide +kernel
theorem dX12_grainsOf_12 : decode cX12_grainsOf 12 = .ok (.iload_n 2, 1) := by decide +kernel
theorem dX12_grainsOf_13 : decode cX12_grainsOf 13 = .ok (.iload_n 1, 1) := by decide +kernel
theorem dX12_grainsOf_14 : decode cX12_grainsOf 14 = .ok (.iload_n 3, 1) := by decide +kernel
theorem dX12_grainsOf_15 : decode cX12_grainsOf 15 = .ok (.ishr, 1) := by decide +kernel
theorem dX12_grainsOf_16 : decode cX12_grainsOf 16 = .ok (.iconst 1, 1) := by decide +kernel
theorem dX12_grainsOf_17 : decode cX12_grainsOf 17 = .ok (.iand, 1) := by decide +kernel
theorem dX12_grainsOf_18 : decode cX12_grainsOf 18 = .ok (.iconst 1, 1) := by decide +kernel
theorem dX12_grainsOf_19 : decode cX12_grainsOf 19 = .ok (.if_icmp .ne 17, 3) := by decide +kernel
theorem dX12_grainsOf_22 : decode cX12_grainsOf 22 = .ok (.aload_n 0, 1) := by decide +kernel
theorem dX12_grainsOf_23 : decode cX12_grainsOf 23 = .ok (.aload_n 0, 1) := by decide +kernel
theorem dX12_grainsOf_24 : decode cX12_grainsOf 24 = .ok (.getfield 52, 3) := by decide +kernel
theorem dX12_grainsOf_27 : decode cX12_grainsOf 27 = .ok (.iload_n 3, 1) := by decide +kernel
theorem dX12_grainsOf_28 : decode cX12_grainsOf 28 = .ok (.iaload, 1) := by decide +kernel
theorem dX12_grainsOf_29 : decode cX12_grainsOf 29 = .ok (.iconst 3, 1) := by decide +kernel
theorem dX12_grainsOf_30 : decode cX12_grainsOf 30 = .ok (.invokevirtual 124, 3) := by decide +kernel
theorem dX12_grainsOf_33 : decode cX12_grainsOf 33 = .ok (.goto 4, 3) := by decide +kernel
theorem dX12_grainsOf_36 : decode cX12_grainsOf 36 = .ok (.iconst 0, 1) := by decide +kernel
theorem dX12_grainsOf_37 : decode cX12_grainsOf 37 = .ok (.iadd, 1) := by decide +kernel
theorem dX12_grainsOf_38 : decode cX12_grainsOf 38 = .ok (.istore_n 2, 1) := by decide +kernel
theorem dX12_grainsOf_39 : decode cX12_grainsOf 39 = .ok (.iinc 3 1, 3) := by decide +kernel
theorem dX12_grainsOf_42 : decode cX12_grainsOf 42 = .ok (.goto (-38), 3) := by decide +kernel
theorem dX12_grainsOf_45 : decode cX12_grainsOf 45 = .ok (.iload_n 2, 1) := by decide +kernel
theorem dX12_grainsOf_46 : decode cX12_grainsOf 46 = .ok (.ireturn, 1) := by decide +kernel
abbrev z_X12_grainsOf_174 : Z9 := (some .int, 1, 0, 0, 2, 22)
def b_X12_grainsOf_174_c4 (k_X12_grainsOf_174_c4 : Int → Int → Int → D9 → Option R9) (v1 v2 v3 : Int) (d : D9) : Option R9 := if w32 (d 174 31) ≤ w32 v3 then rt v2 d else if w32 (and9 (shr9 v1 v3) 1) ≠ w32 1 then lt9v (v2 + 0) (fun a1 => k_X12_grainsOf_174_c4 v1 a1 (v3 + 1) d) else ld d 187 12 v3 (fun t2 => cl (m_X12_ofSkin_174 t2 3 d) (fun r3 d4 => lt9v (v2 + r3) (fun a5 => k_X12_grainsOf_174_c4 v1 a5 (v3 + 1) d4)))
def m_X12_grainsOf_174_c4 : Int → Int → Int → D9 → Option R9 := fix9 (fun _ _ _ _ => none) (fun k => b_X12_grainsOf_174_c4 k) FU
def m_X12_grainsOf_174 (p1 : Int) (d : D9) : Option R9 := m_X12_grainsOf_174_c4  p1 0 0 d
set_option maxRecDepth 100000 in
theorem sb_X12_grainsOf_174_c4 {G : G9} {X : X9} (C : CX G X cX12_grainsOf 4 RX12 [] z_X12_grainsOf_174) (k_X12_grainsOf_174_c4 : Int → Int → Int → D9 → Option R9) (hk_X12_grainsOf_174_c4 : ∀ (v1 v2 v3 : Int) (d : D9), SS G X 4 0 0 4 [(0, rf G 174), (1, i9 v1), (2, i9 v2), (3, i9 v3)] [] d (k_X12_grainsOf_174_c4 v1 v2 v3 d)) : ∀ (v1 v2 v3 : Int) (d : D9), SS G X 4 0 0 4 [(0, rf G 174), (1, i9 v1), (2, i9 v2), (3, i9 v3)] [] d (b_X12_grainsOf_174_c4 k_X12_grainsOf_174_c4 v1 v2 v3 d) := by
  intro v1 v2 v3 d
  unfold b_X12_grainsOf_174_c4
  refine r_iload_n C 3 dX12_grainsOf_4 rfl rfl ?_
  refine r_aload_n C 0 dX12_grainsOf_5 rfl rfl ?_
  refine r_getI C dX12_grainsOf_6 fl_X12_453 la_174 ly_174 rfl ?_
  refine r_icmp_ge C 45 dX12_grainsOf_9 (by decide) (fun _ => ?_) (fun _ => ?_)
  · refine r_iload_n C 2 dX12_grainsOf_45 rfl rfl ?_
    exact r_iret C dX12_grainsOf_46 (by decide) (by decide)
  · refine r_iload_n C 2 dX12_grainsOf_12 rfl rfl ?_
    refine r_iload_n C 1 dX12_grainsOf_13 rfl rfl ?_
    refine r_iload_n C 3 dX12_grainsOf_14 rfl rfl ?_
    refine r_ishr C dX12_grainsOf_15 ?_
    refine r_iconst C dX12_grainsOf_16 ?_
    refine r_iand C dX12_grainsOf_17 ?_
    refine r_iconst C dX12_grainsOf_18 ?_
    refine r_icmp_ne C 36 dX12_grainsOf_19 (by decide) (fun _ => ?_) (fun _ => ?_)
    · refine r_iconst C dX12_grainsOf_36 ?_
      refine r_iadd C dX12_grainsOf_37 ?_
      refine ss_lt (fun a1 => ?_)
      refine r_istore_n C [(2, i9 a1), (0, rf G 174), (1, i9 v1), (3, i9 v3)] dX12_grainsOf_38 rfl (by decide) rfl ?_
      refine r_iinc C 3 [(3, i9 (v3 + 1)), (2, i9 a1), (0, rf G 174), (1, i9 v1)] dX12_grainsOf_39 rfl (by decide) rfl ?_
      refine r_goto C 4 dX12_grainsOf_42 (by decide) ?_
      refine ss_wide (k' := 0) (n' := 0) (by decide) (by decide) ?_
      refine ss_ls [(0, rf G 174), (1, i9 v1), (2, i9 a1), (3, i9 (v3 + 1))] [2, 3, 1, 0] rfl ?_
      exact hk_X12_grainsOf_174_c4 v1 a1 (v3 + 1) d
    · refine r_aload_n C 0 dX12_grainsOf_22 rfl rfl ?_
      refine r_aload_n C 0 dX12_grainsOf_23 rfl rfl ?_
      refine r_getR C 187 dX12_grainsOf_24 fl_X12_52 la_174 ly_174 rfl rfl ?_
      refine r_iload_n C 3 dX12_grainsOf_27 rfl rfl ?_
      refine r_iald C dX12_grainsOf_28 la_187 ly_187 (fun t2 => ?_)
      refine r_iconst C dX12_grainsOf_29 ?_
      refine r_callV C [i9 3, i9 t2, rf G 174, i9 v2] dX12_grainsOf_30 (t_X12_ofSkin_174 C.h1 C.h2 t2 3 d) mw_X12_124 mv_X12_ofSkin la_174 ly_174 rfl (by decide) (by decide) (by decide) rfl rfl (Nat.le_of_ble_eq_true rfl) (fun r3 d4 => ?_)
      show SS G X 4 _ _ 33 [(0, rf G 174), (1, i9 v1), (2, i9 v2), (3, i9 v3)] [i9 r3, i9 v2] d4 _
      refine r_goto C 37 dX12_grainsOf_33 (by decide) ?_
      refine r_iadd C dX12_grainsOf_37 ?_
      refine ss_lt (fun a5 => ?_)
      refine r_istore_n C [(2, i9 a5), (0, rf G 174), (1, i9 v1), (3, i9 v3)] dX12_grainsOf_38 rfl (by decide) rfl ?_
      refine r_iinc C 3 [(3, i9 (v3 + 1)), (2, i9 a5), (0, rf G 174), (1, i9 v1)] dX12_grainsOf_39 rfl (by decide) rfl ?_
      refine r_goto C 4 dX12_grainsOf_42 (by decide) ?_
      refine ss_wide (k' := 0) (n' := 0) (by decide) (by decide) ?_
      refine ss_ls [(0, rf G 174), (1, i9 v1), (2, i9 a5), (3, i9 (v3 + 1))] [2, 3, 1, 0] rfl ?_
      exact hk_X12_grainsOf_174_c4 v1 a5 (v3 + 1) d4
theorem s_X12_grainsOf_174_c4 {G : G9} {X : X9} (C : CX G X cX12_grainsOf 4 RX12 [] z_X12_grainsOf_174) : ∀ (v1 v2 v3 : Int) (d : D9), SS G X 4 0 0 4 [(0, rf G 174), (1, i9 v1), (2, i9 v2), (3, i9 v3)] [] d (m_X12_grainsOf_174_c4  v1 v2 v3 d) :=
  fix9_ind (P := fun k => ∀ (v1 v2 v3 : Int) (d : D9), SS G X 4 0 0 4 [(0, rf G 174), (1, i9 v1), (2, i9 v2), (3, i9 v3)] [] d (k v1 v2 v3 d)) (fun _ _ _ _ => ss_none) (fun k hk => sb_X12_grainsOf_174_c4 C k hk) FU
set_option maxRecDepth 100000 in
theorem t_X12_grainsOf_174 {G : G9} {l : Launch} (h1 : va_D (A9 G) (wl G (fun _ _ => 0))) (h2 : l.stackTraces = false) (p1 : Int) (d : D9) : MT G l yX12_grainsOf cX12_grainsOf 4 z_X12_grainsOf_174 [rf G 174, i9 p1] d (m_X12_grainsOf_174 p1 d) := by
  refine mt_of (own := RX12) (by decide) rfl (Nat.le_of_ble_eq_true rfl) h1 h2 [(0, rf G 174), (1, i9 p1)] rfl (fun X hX C => ?_)
  unfold m_X12_grainsOf_174
  refine r_iconst C dX12_grainsOf_0 ?_
  refine r_istore_n C [(2, i9 0), (0, rf G 174), (1, i9 p1)] dX12_grainsOf_1 rfl (by decide) rfl ?_
  refine r_iconst C dX12_grainsOf_2 ?_
  refine r_istore_n C [(3, i9 0), (2, i9 0), (0, rf G 174), (1, i9 p1)] dX12_grainsOf_3 rfl (by decide) rfl ?_
  refine ss_wide (k' := 0) (n' := 0) (by decide) (by decide) ?_
  refine ss_ls [(0, rf G 174), (1, i9 p1), (2, i9 0), (3, i9 0)] [2, 3, 1, 0] rfl ?_
  exact s_X12_grainsOf_174_c4 C  p1 0 0 d
theorem dX12_coveredBy_0 : decode cX12_coveredBy 0 = .ok (.iconst 0, 1) := by decide +kernel
theorem dX12_coveredBy_1 : decode cX12_coveredBy 1 = .ok (.istore_n 2, 1) := by decide +kernel
theorem dX12_coveredBy_2 : decode cX12_coveredBy 2 = .ok (.iconst 0, 1) := by decide +kernel
theorem dX12_coveredBy_3 : decode cX12_coveredBy 3 = .ok (.istore_n 3, 1) := by decide +kernel
theorem dX12_coveredBy_4 : decode cX12_coveredBy 4 = .ok (.iload_n 3, 1) := by decide +kernel
theorem dX12_coveredBy_5 : decode cX12_coveredBy 5 = .ok (.aload_n 0, 1) := by decide +kernel
theorem dX12_coveredBy_6 : decode cX12_coveredBy 6 = .ok (.getfield 9, 3) := by decide +kernel
theorem dX12_coveredBy_9 : decode cX12_coveredBy 9 = .ok (.iconst 1, 1) := by decide +kernel
theorem dX12_coveredBy_10 : decode cX12_coveredBy 10 = .ok (.iaload, 1) := by decide +kernel
theorem dX12_coveredBy_11 : decode cX12_coveredBy 11 = .ok (.if_icmp .ge 38, 3) := by decide +kernel
theorem dX12_coveredBy_14 : decode cX12_coveredBy 14 = .ok (.aload_n 0, 1) := by decide +kernel
theorem dX12_coveredBy_15 : decode cX12_coveredBy 15 = .ok (.iload_n 3, 1) := by decide +kernel
theorem dX12_coveredBy_16 : decode cX12_coveredBy 16 = .ok (.iconst 1, 1) := by decide +kernel
theorem dX12_coveredBy_17 : decode cX12_coveredBy 17 = .ok (.invokevirtual 124, 3) := by decide +kernel
theorem dX12_coveredBy_20 : decode cX12_coveredBy 20 = .ok (.ifCond .le 23, 3) := by decide +kernel
theorem dX12_coveredBy_23 : decode cX12_coveredBy 23 = .ok (.aload_n 0, 1) := by decide +kernel
theorem dX12_coveredBy_24 : decode cX12_coveredBy 24 = .ok (.iload_n 3, 1) := by decide +kernel
theorem dX12_coveredBy_25 : decode cX12_coveredBy 25 = .ok (.iconst 4, 1) := by decide +kernel
theorem dX12_coveredBy_26 : decode cX12_coveredBy 26 = .ok (.invokevirtual 124, 3) := by decide +kernel
theorem dX12_coveredBy_29 : decode cX12_coveredBy 29 = .ok (.ifCond .le 14, 3) := by decide +kernel
theorem dX12_coveredBy_32 : decode cX12_coveredBy 32 = .ok (.iload_n 2, 1) := by decide +kernel
theorem dX12_coveredBy_33 : decode cX12_coveredBy 33 = .ok (.iconst 1, 1) := by decide +kernel
theorem dX12_coveredBy_34 : decode cX12_coveredBy 34 = .ok (.aload_n 0, 1) := by decide +kernel
theorem dX12_coveredBy_35 : decode cX12_coveredBy 35 = .ok (.iload_n 3, 1) := by decide +kernel
theorem dX12_coveredBy_36 : decode cX12_coveredBy 36 = .ok (.iconst 2, 1) := by decide +kernel
theorem dX12_coveredBy_37 : decode cX12_coveredBy 37 = .ok (.invokevirtual 124, 3) := by decide +kernel
theorem dX12_coveredBy_40 : decode cX12_coveredBy 40 = .ok (.ishl, 1) := by decide +kernel
theorem dX12_coveredBy_41 : decode cX12_coveredBy 41 = .ok (.ior, 1) := by decide +kernel
theorem dX12_coveredBy_42 : decode cX12_coveredBy 42 = .ok (.istore_n 2, 1) := by decide +kernel
theorem dX12_coveredBy_43 : decode cX12_coveredBy 43 = .ok (.iinc 3 1, 3) := by decide +kernel
theorem dX12_coveredBy_46 : decode cX12_coveredBy 46 = .ok (.goto (-42), 3) := by decide +kernel
theorem dX12_coveredBy_49 : decode cX12_coveredBy 49 = .ok (.iconst 0, 1) := by decide +kernel
theorem dX12_coveredBy_50 : decode cX12_coveredBy 50 = .ok (.istore_n 3, 1) := by decide +kernel
theorem dX12_coveredBy_51 : decode cX12_coveredBy 51 = .ok (.iload_n 3, 1) := by decide +kernel
theorem dX12_coveredBy_52 : decode cX12_coveredBy 52 = .ok (.aload_n 0, 1) := by decide +kernel
theorem dX12_coveredBy_53 : decode cX12_coveredBy 53 = .ok (.getfield 453, 3) := by decide +kernel
theorem dX12_coveredBy_56 : decode cX12_coveredBy 56 = .ok (.if_icmp .ge 34, 3) := by decide +kernel
theorem dX12_coveredBy_59 : decode cX12_coveredBy 59 = .ok (.iload_n 1, 1) := by decide +kernel
theorem dX12_coveredBy_60 : decode cX12_coveredBy 60 = .ok (.iload_n 3, 1) := by decide +kernel
theorem dX12_coveredBy_61 : decode cX12_coveredBy 61 = .ok (.ishr, 1) := by decide +kernel
theorem dX12_coveredBy_62 : decode cX12_coveredBy 62 = .ok (.iconst 1, 1) := by decide +kernel
theorem dX12_coveredBy_63 : decode cX12_coveredBy 63 = .ok (.iand, 1) := by decide +kernel
theorem dX12_coveredBy_64 : decode cX12_coveredBy 64 = .ok (.iconst 1, 1) := by decide +kernel
theorem dX12_coveredBy_65 : decode cX12_coveredBy 65 = .ok (.if_icmp .ne 19, 3) := by decide +kernel
theorem dX12_coveredBy_68 : decode cX12_coveredBy 68 = .ok (.iload_n 2, 1) := by decide +kernel
theorem dX12_coveredBy_69 : decode cX12_coveredBy 69 = .ok (.iconst 1, 1) := by decide +kernel
theorem dX12_coveredBy_70 : decode cX12_coveredBy 70 = .ok (.aload_n 0, 1) := by decide +kernel
theorem dX12_coveredBy_71 : decode cX12_coveredBy 71 = .ok (.aload_n 0, 1) := by decide +kernel
theorem dX12_coveredBy_72 : decode cX12_coveredBy 72 = .ok (.getfield 52, 3) := by decide +kernel
theorem dX12_coveredBy_75 : decode cX12_coveredBy 75 = .ok (.iload_n 3, 1) := by decide +kernel
theorem dX12_coveredBy_76 : decode cX12_coveredBy 76 = .ok (.iaload, 1) := by decide +kernel
theorem dX12_coveredBy_77 : decode cX12_coveredBy 77 = .ok (.iconst 2, 1) := by decide +kernel
theorem dX12_coveredBy_78 : decode cX12_coveredBy 78 = .ok (.invokevirtual 124, 3) := by decide +kernel
theorem dX12_coveredBy_81 : decode cX12_coveredBy 81 = .ok (.ishl, 1) := by decide +kernel
theorem dX12_coveredBy_82 : decode cX12_coveredBy 82 = .ok (.ior, 1) := by decide +kernel
theorem dX12_coveredBy_83 : decode cX12_coveredBy 83 = .ok (.istore_n 2, 1) := by decide +kernel
theorem dX12_coveredBy_84 : decode cX12_coveredBy 84 = .ok (.iinc 3 1, 3) := by decide +kernel
theorem dX12_coveredBy_87 : decode cX12_coveredBy 87 = .ok (.goto (-36), 3) := by decide +kernel
theorem dX12_coveredBy_90 : decode cX12_coveredBy 90 = .ok (.iload_n 2, 1) := by decide +kernel
theorem dX12_coveredBy_91 : decode cX12_coveredBy 91 = .ok (.invokestatic 448, 3) := by decide +kernel
theorem dX12_coveredBy_94 : decode cX12_coveredBy 94 = .ok (.ireturn, 1) := by decide +kernel
abbrev z_X12_coveredBy_174 : Z9 := (some .int, 1, 0, 0, 2, 22)
def b_X12_coveredBy_174_c51 (k_X12_coveredBy_174_c51 : Int → Int → Int → D9 → Option R9) (v1 v2 v3 : Int) (d : D9) : Option R9 := if w32 (d 174 31) ≤ w32 v3 then cl (m_J6_bitCount_0f7a4 v2 d) (fun r1 d2 => rt r1 d2) else if w32 (and9 (shr9 v1 v3) 1) ≠ w32 1 then k_X12_coveredBy_174_c51 v1 v2 (v3 + 1) d else ld d 187 12 v3 (fun t3 => cl (m_X12_ofSkin_174 t3 2 d) (fun r4 d5 => lt9v (or9 v2 (shl9 1 r4)) (fun a6 => k_X12_coveredBy_174_c51 v1 a6 (v3 + 1) d5)))
def m_X12_coveredBy_174_c51 : Int → Int → Int → D9 → Option R9 := fix9 (fun _ _ _ _ => none) (fun k => b_X12_coveredBy_174_c51 k) FU
def b_X12_coveredBy_174_c4 (k_X12_coveredBy_174_c4 : Int → Int → Int → D9 → Option R9) (v1 v2 v3 : Int) (d : D9) : Option R9 := ld d 175 1604 1 (fun t1 => if w32 t1 ≤ w32 v3 then m_X12_coveredBy_174_c51  v1 v2 0 d else cl (m_X12_ofSkin_174 v3 1 d) (fun r2 d3 => if w32 r2 ≤ 0 then k_X12_coveredBy_174_c4 v1 v2 (v3 + 1) d3 else cl (m_X12_ofSkin_174 v3 4 d3) (fun r4 d5 => if w32 r4 ≤ 0 then k_X12_coveredBy_174_c4 v1 v2 (v3 + 1) d5 else cl (m_X12_ofSkin_174 v3 2 d5) (fun r6 d7 => lt9v (or9 v2 (shl9 1 r6)) (fun a8 => k_X12_coveredBy_174_c4 v1 a8 (v3 + 1) d7)))))
def m_X12_coveredBy_174_c4 : Int → Int → Int → D9 → Option R9 := fix9 (fun _ _ _ _ => none) (fun k => b_X12_coveredBy_174_c4 k) FU
def m_X12_coveredBy_174 (p1 : Int) (d : D9) : Option R9 := m_X12_coveredBy_174_c4  p1 0 0 d
set_option maxRecDepth 100000 in
theorem sb_X12_coveredBy_174_c51 {G : G9} {X : X9} (C : CX G X cX12_coveredBy 4 RX12 [] z_X12_coveredBy_174) (k_X12_coveredBy_174_c51 : Int → Int → Int → D9 → Option R9) (hk_X12_coveredBy_174_c51 : ∀ (v1 v2 v3 : Int) (d : D9), SS G X 4 0 0 51 [(0, rf G 174), (1, i9 v1), (2, i9 v2), (3, i9 v3)] [] d (k_X12_coveredBy_174_c51 v1 v2 v3 d)) : ∀ (v1 v2 v3 : Int) (d : D9), SS G X 4 0 0 51 [(0, rf G 174), (1, i9 v1), (2, i9 v2), (3, i9 v3)] [] d (b_X12_coveredBy_174_c51 k_X12_coveredBy_174_c51 v1 v2 v3 d) := by
  intro v1 v2 v3 d
  unfold b_X12_coveredBy_174_c51
  refine r_iload_n C 3 dX12_coveredBy_51 rfl rfl ?_
  refine r_aload_n C 0 dX12_coveredBy_52 rfl rfl ?_
  refine r_getI C dX12_coveredBy_53 fl_X12_453 la_174 ly_174 rfl ?_
  refine r_icmp_ge C 90 dX12_coveredBy_56 (by decide) (fun _ => ?_) (fun _ => ?_)
  · refine r_iload_n C 2 dX12_coveredBy_90 rfl rfl ?_
    refine r_callS C [i9 v2] dX12_coveredBy_91 (t_J6_bitCount_0f7a4 C.h1 C.h2 v2 d) mw_X12_448 ms_J6_bitCount_0f7a4 (by decide) (by decide) (by decide) rfl rfl (Nat.le_of_ble_eq_true rfl) (fun r1 d2 => ?_)
    show SS G X 4 _ _ 94 [(0, rf G 174), (1, i9 v1), (2, i9 v2), (3, i9 v3)] [i9 r1] d2 _
    exact r_iret C dX12_coveredBy_94 (by decide) (by decide)
  · refine r_iload_n C 1 dX12_coveredBy_59 rfl rfl ?_
    refine r_iload_n C 3 dX12_coveredBy_60 rfl rfl ?_
    refine r_ishr C dX12_coveredBy_61 ?_
    refine r_iconst C dX12_coveredBy_62 ?_
    refine r_iand C dX12_coveredBy_63 ?_
    refine r_iconst C dX12_coveredBy_64 ?_
    refine r_icmp_ne C 84 dX12_coveredBy_65 (by decide) (fun _ => ?_) (fun _ => ?_)
    · refine r_iinc C 3 [(3, i9 (v3 + 1)), (0, rf G 174), (1, i9 v1), (2, i9 v2)] dX12_coveredBy_84 rfl (by decide) rfl ?_
      refine r_goto C 51 dX12_coveredBy_87 (by decide) ?_
      refine ss_wide (k' := 0) (n' := 0) (by decide) (by decide) ?_
      refine ss_ls [(0, rf G 174), (1, i9 v1), (2, i9 v2), (3, i9 (v3 + 1))] [1, 2, 3, 0] rfl ?_
      exact hk_X12_coveredBy_174_c51 v1 v2 (v3 + 1) d
    · refine r_iload_n C 2 dX12_coveredBy_68 rfl rfl ?_
      refine r_iconst C dX12_coveredBy_69 ?_
      refine r_aload_n C 0 dX12_coveredBy_70 rfl rfl ?_
      refine r_aload_n C 0 dX12_coveredBy_71 rfl rfl ?_
      refine r_getR C 187 dX12_coveredBy_72 fl_X12_52 la_174 ly_174 rfl rfl ?_
      refine r_iload_n C 3 dX12_coveredBy_75 rfl rfl ?_
      refine r_iald C dX12_coveredBy_76 la_187 ly_187 (fun t3 => ?_)
      refine r_iconst C dX12_coveredBy_77 ?_
      refine r_callV C [i9 2, i9 t3, rf G 174, i9 1, i9 v2] dX12_coveredBy_78 (t_X12_ofSkin_174 C.h1 C.h2 t3 2 d) mw_X12_124 mv_X12_ofSkin la_174 ly_174 rfl (by decide) (by decide) (by decide) rfl rfl (Nat.le_of_ble_eq_true rfl) (fun r4 d5 => ?_)
      show SS G X 4 _ _ 81 [(0, rf G 174), (1, i9 v1), (2, i9 v2), (3, i9 v3)] [i9 r4, i9 1, i9 v2] d5 _
      refine r_ishl C dX12_coveredBy_81 ?_
      refine r_ior C dX12_coveredBy_82 ?_
      refine ss_lt (fun a6 => ?_)
      refine r_istore_n C [(2, i9 a6), (0, rf G 174), (1, i9 v1), (3, i9 v3)] dX12_coveredBy_83 rfl (by decide) rfl ?_
      refine r_iinc C 3 [(3, i9 (v3 + 1)), (2, i9 a6), (0, rf G 174), (1, i9 v1)] dX12_coveredBy_84 rfl (by decide) rfl ?_
      refine r_goto C 51 dX12_coveredBy_87 (by decide) ?_
      refine ss_wide (k' := 0) (n' := 0) (by decide) (by decide) ?_
      refine ss_ls [(0, rf G 174), (1, i9 v1), (2, i9 a6), (3, i9 (v3 + 1))] [2, 3, 1, 0] rfl ?_
      exact hk_X12_coveredBy_174_c51 v1 a6 (v3 + 1) d5
theorem s_X12_coveredBy_174_c51 {G : G9} {X : X9} (C : CX G X cX12_coveredBy 4 RX12 [] z_X12_coveredBy_174) : ∀ (v1 v2 v3 : Int) (d : D9), SS G X 4 0 0 51 [(0, rf G 174), (1, i9 v1), (2, i9 v2), (3, i9 v3)] [] d (m_X12_coveredBy_174_c51  v1 v2 v3 d) :=
  fix9_ind (P := fun k => ∀ (v1 v2 v3 : Int) (d : D9), SS G X 4 0 0 51 [(0, rf G 174), (1, i9 v1), (2, i9 v2), (3, i9 v3)] [] d (k v1 v2 v3 d)) (fun _ _ _ _ => ss_none) (fun k hk => sb_X12_coveredBy_174_c51 C k hk) FU
set_option maxRecDepth 100000 in
theorem sb_X12_coveredBy_174_c4 {G : G9} {X : X9} (C : CX G X cX12_coveredBy 4 RX12 [] z_X12_coveredBy_174) (k_X12_coveredBy_174_c4 : Int → Int → Int → D9 → Option R9) (hk_X12_coveredBy_174_c4 : ∀ (v1 v2 v3 : Int) (d : D9), SS G X 4 0 0 4 [(0, rf G 174), (1, i9 v1), (2, i9 v2), (3, i9 v3)] [] d (k_X12_coveredBy_174_c4 v1 v2 v3 d)) : ∀ (v1 v2 v3 : Int) (d : D9), SS G X 4 0 0 4 [(0, rf G 174), (1, i9 v1), (2, i9 v2), (3, i9 v3)] [] d (b_X12_coveredBy_174_c4 k_X12_coveredBy_174_c4 v1 v2 v3 d) := by
  intro v1 v2 v3 d
  unfold b_X12_coveredBy_174_c4
  refine r_iload_n C 3 dX12_coveredBy_4 rfl rfl ?_
  refine r_aload_n C 0 dX12_coveredBy_5 rfl rfl ?_
  refine r_getR C 175 dX12_coveredBy_6 fl_X12_9 la_174 ly_174 rfl rfl ?_
  refine r_iconst C dX12_coveredBy_9 ?_
  refine r_iald C dX12_coveredBy_10 la_175 ly_175 (fun t1 => ?_)
  refine r_icmp_ge C 49 dX12_coveredBy_11 (by decide) (fun _ => ?_) (fun _ => ?_)
  · refine r_iconst C dX12_coveredBy_49 ?_
    refine r_istore_n C [(3, i9 0), (0, rf G 174), (1, i9 v1), (2, i9 v2)] dX12_coveredBy_50 rfl (by decide) rfl ?_
    refine ss_wide (k' := 0) (n' := 0) (by decide) (by decide) ?_
    refine ss_ls [(0, rf G 174), (1, i9 v1), (2, i9 v2), (3, i9 0)] [1, 2, 3, 0] rfl ?_
    exact s_X12_coveredBy_174_c51 C  v1 v2 0 d
  · refine r_aload_n C 0 dX12_coveredBy_14 rfl rfl ?_
    refine r_iload_n C 3 dX12_coveredBy_15 rfl rfl ?_
    refine r_iconst C dX12_coveredBy_16 ?_
    refine r_callV C [i9 1, i9 v3, rf G 174] dX12_coveredBy_17 (t_X12_ofSkin_174 C.h1 C.h2 v3 1 d) mw_X12_124 mv_X12_ofSkin la_174 ly_174 rfl (by decide) (by decide) (by decide) rfl rfl (Nat.le_of_ble_eq_true rfl) (fun r2 d3 => ?_)
    show SS G X 4 _ _ 20 [(0, rf G 174), (1, i9 v1), (2, i9 v2), (3, i9 v3)] [i9 r2] d3 _
    refine r_if_le C (b := 0) 43 dX12_coveredBy_20 (by decide) (fun _ => ?_) (fun _ => ?_)
    · refine r_iinc C 3 [(3, i9 (v3 + 1)), (0, rf G 174), (1, i9 v1), (2, i9 v2)] dX12_coveredBy_43 rfl (by decide) rfl ?_
      refine r_goto C 4 dX12_coveredBy_46 (by decide) ?_
      refine ss_wide (k' := 0) (n' := 0) (by decide) (by decide) ?_
      refine ss_ls [(0, rf G 174), (1, i9 v1), (2, i9 v2), (3, i9 (v3 + 1))] [1, 2, 3, 0] rfl ?_
      exact hk_X12_coveredBy_174_c4 v1 v2 (v3 + 1) d3
    · refine r_aload_n C 0 dX12_coveredBy_23 rfl rfl ?_
      refine r_iload_n C 3 dX12_coveredBy_24 rfl rfl ?_
      refine r_iconst C dX12_coveredBy_25 ?_
      refine r_callV C [i9 4, i9 v3, rf G 174] dX12_coveredBy_26 (t_X12_ofSkin_174 C.h1 C.h2 v3 4 d3) mw_X12_124 mv_X12_ofSkin la_174 ly_174 rfl (by decide) (by decide) (by decide) rfl rfl (Nat.le_of_ble_eq_true rfl) (fun r4 d5 => ?_)
      show SS G X 4 _ _ 29 [(0, rf G 174), (1, i9 v1), (2, i9 v2), (3, i9 v3)] [i9 r4] d5 _
      refine r_if_le C (b := 0) 43 dX12_coveredBy_29 (by decide) (fun _ => ?_) (fun _ => ?_)
      · refine r_iinc C 3 [(3, i9 (v3 + 1)), (0, rf G 174), (1, i9 v1), (2, i9 v2)] dX12_coveredBy_43 rfl (by decide) rfl ?_
        refine r_goto C 4 dX12_coveredBy_46 (by decide) ?_
        refine ss_wide (k' := 0) (n' := 0) (by decide) (by decide) ?_
        refine ss_ls [(0, rf G 174), (1, i9 v1), (2, i9 v2), (3, i9 (v3 + 1))] [1, 2, 3, 0] rfl ?_
        exact hk_X12_coveredBy_174_c4 v1 v2 (v3 + 1) d5
      · refine r_iload_n C 2 dX12_coveredBy_32 rfl rfl ?_
        refine r_iconst C dX12_coveredBy_33 ?_
        refine r_aload_n C 0 dX12_coveredBy_34 rfl rfl ?_
        refine r_iload_n C 3 dX12_coveredBy_35 rfl rfl ?_
        refine r_iconst C dX12_coveredBy_36 ?_
        refine r_callV C [i9 2, i9 v3, rf G 174, i9 1, i9 v2] dX12_coveredBy_37 (t_X12_ofSkin_174 C.h1 C.h2 v3 2 d5) mw_X12_124 mv_X12_ofSkin la_174 ly_174 rfl (by decide) (by decide) (by decide) rfl rfl (Nat.le_of_ble_eq_true rfl) (fun r6 d7 => ?_)
        show SS G X 4 _ _ 40 [(0, rf G 174), (1, i9 v1), (2, i9 v2), (3, i9 v3)] [i9 r6, i9 1, i9 v2] d7 _
        refine r_ishl C dX12_coveredBy_40 ?_
        refine r_ior C dX12_coveredBy_41 ?_
        refine ss_lt (fun a8 => ?_)
        refine r_istore_n C [(2, i9 a8), (0, rf G 174), (1, i9 v1), (3, i9 v3)] dX12_coveredBy_42 rfl (by decide) rfl ?_
        refine r_iinc C 3 [(3, i9 (v3 + 1)), (2, i9 a8), (0, rf G 174), (1, i9 v1)] dX12_coveredBy_43 rfl (by decide) rfl ?_
        refine r_goto C 4 dX12_coveredBy_46 (by decide) ?_
        refine ss_wide (k' := 0) (n' := 0) (by decide) (by decide) ?_
        refine ss_ls [(0, rf G 174), (1, i9 v1), (2, i9 a8), (3, i9 (v3 + 1))] [2, 3, 1, 0] rfl ?_
        exact hk_X12_coveredBy_174_c4 v1 a8 (v3 + 1) d7
theorem s_X12_coveredBy_174_c4 {G : G9} {X : X9} (C : CX G X cX12_coveredBy 4 RX12 [] z_X12_coveredBy_174) : ∀ (v1 v2 v3 : Int) (d : D9), SS G X 4 0 0 4 [(0, rf G 174), (1, i9 v1), (2, i9 v2), (3, i9 v3)] [] d (m_X12_coveredBy_174_c4  v1 v2 v3 d) :=
  fix9_ind (P := fun k => ∀ (v1 v2 v3 : Int) (d : D9), SS G X 4 0 0 4 [(0, rf G 174), (1, i9 v1), (2, i9 v2), (3, i9 v3)] [] d (k v1 v2 v3 d)) (fun _ _ _ _ => ss_none) (fun k hk => sb_X12_coveredBy_174_c4 C k hk) FU
set_option maxRecDepth 100000 in
theorem t_X12_coveredBy_174 {G : G9} {l : Launch} (h1 : va_D (A9 G) (wl G (fun _ _ => 0))) (h2 : l.stackTraces = false) (p1 : Int) (d : D9) : MT G l yX12_coveredBy cX12_coveredBy 4 z_X12_coveredBy_174 [rf G 174, i9 p1] d (m_X12_coveredBy_174 p1 d) := by
  refine mt_of (own := RX12) (by decide) rfl (Nat.le_of_ble_eq_true rfl) h1 h2 [(0, rf G 174), (1, i9 p1)] rfl (fun X hX C => ?_)
  unfold m_X12_coveredBy_174
  refine r_iconst C dX12_coveredBy_0 ?_
  refine r_istore_n C [(2, i9 0), (0, rf G 174), (1, i9 p1)] dX12_coveredBy_1 rfl (by decide) rfl ?_
  refine r_iconst C dX12_coveredBy_2 ?_
  refine r_istore_n C [(3, i9 0), (2, i9 0), (0, rf G 174), (1, i9 p1)] dX12_coveredBy_3 rfl (by decide) rfl ?_
  refine ss_wide (k' := 0) (n' := 0) (by decide) (by decide) ?_
  refine ss_ls [(0, rf G 174), (1, i9 p1), (2, i9 0), (3, i9 0)] [2, 3, 1, 0] rfl ?_
  exact s_X12_coveredBy_174_c4 C  p1 0 0 d
theorem dX12_plan_0 : decode cX12_plan 0 = .ok (.aload_n 0, 1) := by decide +kernel
theorem dX12_plan_1 : decode cX12_plan 1 = .ok (.iconst 0, 1) := by decide +kernel
theorem dX12_plan_2 : decode cX12_plan 2 = .ok (.putfield 76, 3) := by decide +kernel
theorem dX12_plan_5 : decode cX12_plan 5 = .ok (.iload_n 1, 1) := by decide +kernel
theorem dX12_plan_6 : decode cX12_plan 6 = .ok (.i2l, 1) := by decide +kernel
theorem dX12_plan_7 : decode cX12_plan 7 = .ok (.lconst 0, 1) := by decide +kernel
theorem dX12_plan_8 : decode cX12_plan 8 = .ok (.ldc2_w 456, 3) := by decide +kernel
theorem dX12_plan_11 : decode cX12_plan 11 = .ok (.invokestatic 79, 3) := by decide +kernel
theorem dX12_plan_14 : decode cX12_plan 14 = .ok (.ifCond .eq 15, 3) := by decide +kernel
theorem dX12_plan_17 : decode cX12_plan 17 = .ok (.iload_n 2, 1) := by decide +kernel
theorem dX12_plan_18 : decode cX12_plan 18 = .ok (.i2l, 1) := by decide +kernel
theorem dX12_plan_19 : decode cX12_plan 19 = .ok (.lconst 0, 1) := by decide +kernel
theorem dX12_plan_20 : decode cX12_plan 20 = .ok (.ldc2_w 114, 3) := by decide +kernel
theorem dX12_plan_23 : decode cX12_plan 23 = .ok (.invokestatic 79, 3) := by decide +kernel
theorem dX12_plan_26 : decode cX12_plan 26 = .ok (.ifCond .ne 9, 3) := by decide +kernel
theorem dX12_plan_29 : decode cX12_plan 29 = .ok (.aload_n 0, 1) := by decide +kernel
theorem dX12_plan_30 : decode cX12_plan 30 = .ok (.iconst 1, 1) := by decide +kernel
theorem dX12_plan_31 : decode cX12_plan 31 = .ok (.invokevirtual 89, 3) := by decide +kernel
theorem dX12_plan_34 : decode cX12_plan 34 = .ok (.ireturn, 1) := by decide +kernel
theorem dX12_plan_35 : decode cX12_plan 35 = .ok (.aload_n 0, 1) := by decide +kernel
theorem dX12_plan_36 : decode cX12_plan 36 = .ok (.invokevirtual 458, 3) := by decide +kernel
theorem dX12_plan_39 : decode cX12_plan 39 = .ok (.iconst 0, 1) := by decide +kernel
theorem dX12_plan_40 : decode cX12_plan 40 = .ok (.istore_n 3, 1) := by decide +kernel
theorem dX12_plan_41 : decode cX12_plan 41 = .ok (.iconst 1, 1) := by decide +kernel
theorem dX12_plan_42 : decode cX12_plan 42 = .ok (.istore 4, 2) := by decide +kernel
theorem dX12_plan_44 : decode cX12_plan 44 = .ok (.iload 4, 2) := by decide +kernel
theorem dX12_plan_46 : decode cX12_plan 46 = .ok (.iconst 1, 1) := by decide +kernel
theorem dX12_plan_47 : decode cX12_plan 47 = .ok (.aload_n 0, 1) := by decide +kernel
theorem dX12_plan_48 : decode cX12_plan 48 = .ok (.getfield 453, 3) := by decide +kernel
theorem dX12_plan_51 : decode cX12_plan 51 = .ok (.ishl, 1) := by decide +kernel
theorem dX12_plan_52 : decode cX12_plan 52 = .ok (.if_icmp .ge 64, 3) := by decide +kernel
theorem dX12_plan_55 : decode cX12_plan 55 = .ok (.aload_n 0, 1) := by decide +kernel
theorem dX12_plan_56 : decode cX12_plan 56 = .ok (.iload 4, 2) := by decide +kernel
theorem dX12_plan_58 : decode cX12_plan 58 = .ok (.invokevirtual 461, 3) := by decide +kernel
theorem dX12_plan_61 : decode cX12_plan 61 = .ok (.istore 5, 2) := by decide +kernel
theorem dX12_plan_63 : decode cX12_plan 63 = .ok (.iload 5, 2) := by decide +kernel
theorem dX12_plan_65 : decode cX12_plan 65 = .ok (.iload_n 1, 1) := by decide +kernel
theorem dX12_plan_66 : decode cX12_plan 66 = .ok (.if_icmp .le 7, 3) := by decide +kernel
theorem dX12_plan_69 : decode cX12_plan 69 = .ok (.iconst (-1), 1) := by decide +kernel
theorem dX12_plan_70 : decode cX12_plan 70 = .ok (.goto 15, 3) := by decide +kernel
theorem dX12_plan_73 : decode cX12_plan 73 = .ok (.aload_n 0, 1) := by decide +kernel
theorem dX12_plan_74 : decode cX12_plan 74 = .ok (.iload 4, 2) := by decide +kernel
theorem dX12_plan_76 : decode cX12_plan 76 = .ok (.invokevirtual 464, 3) := by decide +kernel
theorem dX12_plan_79 : decode cX12_plan 79 = .ok (.aload_n 0, 1) := by decide +kernel
theorem dX12_plan_80 : decode cX12_plan 80 = .ok (.iload_n 3, 1) := by decide +kernel
theorem dX12_plan_81 : decode cX12_plan 81 = .ok (.invokevirtual 464, 3) := by decide +kernel
theorem dX12_plan_84 : decode cX12_plan 84 = .ok (.isub, 1) := by decide +kernel
theorem dX12_plan_85 : decode cX12_plan 85 = .ok (.istore 6, 2) := by decide +kernel
theorem dX12_plan_87 : decode cX12_plan 87 = .ok (.iload 6, 2) := by decide +kernel
theorem dX12_plan_89 : decode cX12_plan 89 = .ok (.ifCond .gt 18, 3) := by decide +kernel
theorem dX12_plan_92 : decode cX12_plan 92 = .ok (.iload 6, 2) := by decide +kernel
theorem dX12_plan_94 : decode cX12_plan 94 = .ok (.ifCond .ne 16, 3) := by decide +kernel
theorem dX12_plan_97 : decode cX12_plan 97 = .ok (.iload 5, 2) := by decide +kernel
theorem dX12_plan_99 : decode cX12_plan 99 = .ok (.aload_n 0, 1) := by decide +kernel
theorem dX12_plan_100 : decode cX12_plan 100 = .ok (.iload_n 3, 1) := by decide +kernel
theorem dX12_plan_101 : decode cX12_plan 101 = .ok (.invokevirtual 461, 3) := by decide +kernel
theorem dX12_plan_104 : decode cX12_plan 104 = .ok (.if_icmp .ge 6, 3) := by decide +kernel
theorem dX12_plan_107 : decode cX12_plan 107 = .ok (.iload 4, 2) := by decide +kernel
theorem dX12_plan_109 : decode cX12_plan 109 = .ok (.istore_n 3, 1) := by decide +kernel
theorem dX12_plan_110 : decode cX12_plan 110 = .ok (.iinc 4 1, 3) := by decide +kernel
theorem dX12_plan_113 : decode cX12_plan 113 = .ok (.goto (-69), 3) := by decide +kernel
theorem dX12_plan_116 : decode cX12_plan 116 = .ok (.iload_n 2, 1) := by decide +kernel
theorem dX12_plan_117 : decode cX12_plan 117 = .ok (.ifCond .le 22, 3) := by decide +kernel
theorem dX12_plan_120 : decode cX12_plan 120 = .ok (.iload_n 2, 1) := by decide +kernel
theorem dX12_plan_121 : decode cX12_plan 121 = .ok (.iconst 1, 1) := by decide +kernel
theorem dX12_plan_122 : decode cX12_plan 122 = .ok (.if_icmp .ne 11, 3) := by decide +kernel
theorem dX12_plan_125 : decode cX12_plan 125 = .ok (.aload_n 0, 1) := by decide +kernel
theorem dX12_plan_126 : decode cX12_plan 126 = .ok (.iload_n 3, 1) := by decide +kernel
theorem dX12_plan_127 : decode cX12_plan 127 = .ok (.invokevirtual 464, 3) := by decide +kernel
theorem dX12_plan_130 : decode cX12_plan 130 = .ok (.goto 8, 3) := by decide +kernel
theorem dX12_plan_133 : decode cX12_plan 133 = .ok (.aload_n 0, 1) := by decide +kernel
theorem dX12_plan_134 : decode cX12_plan 134 = .ok (.iload_n 3, 1) := by decide +kernel
theorem dX12_plan_135 : decode cX12_plan 135 = .ok (.invokevirtual 461, 3) := by decide +kernel
theorem dX12_plan_138 : decode cX12_plan 138 = .ok (.ireturn, 1) := by decide +kernel
theorem dX12_plan_139 : decode cX12_plan 139 = .ok (.iconst 0, 1) := by decide +kernel
theorem dX12_plan_140 : decode cX12_plan 140 = .ok (.istore 4, 2) := by decide +kernel
theorem dX12_plan_142 : decode cX12_plan 142 = .ok (.iconst 0, 1) := by decide +kernel
theorem dX12_plan_143 : decode cX12_plan 143 = .ok (.istore 5, 2) := by decide +kernel
theorem dX12_plan_145 : decode cX12_plan 145 = .ok (.iload 5, 2) := by decide +kernel
theorem dX12_plan_147 : decode cX12_plan 147 = .ok (.aload_n 0, 1) := by decide +kernel
theorem dX12_plan_148 : decode cX12_plan 148 = .ok (.getfield 453, 3) := by decide +kernel
theorem dX12_plan_151 : decode cX12_plan 151 = .ok (.if_icmp .ge 37, 3) := by decide +kernel
theorem dX12_plan_154 : decode cX12_plan 154 = .ok (.iload 4, 2) := by decide +kernel
theorem dX12_plan_156 : decode cX12_plan 156 = .ok (.iload_n 3, 1) := by decide +kernel
theorem dX12_plan_157 : decode cX12_plan 157 = .ok (.iload 5, 2) := by decide +kernel
theorem dX12_plan_159 : decode cX12_plan 159 = .ok (.ishr, 1) := by decide +kernel
theorem dX12_plan_160 : decode cX12_plan 160 = .ok (.iconst 1, 1) := by decide +kernel
theorem dX12_plan_161 : decode cX12_plan 161 = .ok (.iand, 1) := by decide +kernel
theorem dX12_plan_162 : decode cX12_plan 162 = .ok (.iconst 1, 1) := by decide +kernel
theorem dX12_plan_163 : decode cX12_plan 163 = .ok (.if_icmp .ne 15, 3) := by decide +kernel
theorem dX12_plan_166 : decode cX12_plan 166 = .ok (.iconst 1, 1) := by decide +kernel
theorem dX12_plan_167 : decode cX12_plan 167 = .ok (.aload_n 0, 1) := by decide +kernel
theorem dX12_plan_168 : decode cX12_plan 168 = .ok (.getfield 52, 3) := by decide +kernel
theorem dX12_plan_171 : decode cX12_plan 171 = .ok (.iload 5, 2) := by decide +kernel
theorem dX12_plan_173 : decode cX12_plan 173 = .ok (.iaload, 1) := by decide +kernel
theorem dX12_plan_174 : decode cX12_plan 174 = .ok (.ishl, 1) := by decide +kernel
theorem dX12_plan_175 : decode cX12_plan 175 = .ok (.goto 4, 3) := by decide +kernel
theorem dX12_plan_178 : decode cX12_plan 178 = .ok (.iconst 0, 1) := by decide +kernel
theorem dX12_plan_179 : decode cX12_plan 179 = .ok (.ior, 1) := by decide +kernel
theorem dX12_plan_180 : decode cX12_plan 180 = .ok (.istore 4, 2) := by decide +kernel
theorem dX12_plan_182 : decode cX12_plan 182 = .ok (.iinc 5 1, 3) := by decide +kernel
theorem dX12_plan_185 : decode cX12_plan 185 = .ok (.goto (-40), 3) := by decide +kernel
theorem dX12_plan_188 : decode cX12_plan 188 = .ok (.iload 4, 2) := by decide +kernel
theorem dX12_plan_190 : decode cX12_plan 190 = .ok (.ireturn, 1) := by decide +kernel
abbrev z_X12_plan_174 : Z9 := (some .int, 1, 0, 0, 3, 45)
def m_X12_plan_174_c29 (d : D9) : Option R9 := cl (m_X12_fails_174 1 d) (fun r1 d2 => rt r1 d2)
def b_X12_plan_174_c145 (k_X12_plan_174_c145 : Int → Int → Int → D9 → Option R9) (v3 v4 v5 : Int) (d : D9) : Option R9 := if w32 (d 174 31) ≤ w32 v5 then rt v4 d else if w32 (and9 (shr9 v3 v5) 1) ≠ w32 1 then lt9v (or9 v4 0) (fun a1 => k_X12_plan_174_c145 v3 a1 (v5 + 1) d) else ld d 187 12 v5 (fun t2 => lt9v (or9 v4 (shl9 1 t2)) (fun a3 => k_X12_plan_174_c145 v3 a3 (v5 + 1) d))
def m_X12_plan_174_c145 : Int → Int → Int → D9 → Option R9 := fix9 (fun _ _ _ _ => none) (fun k => b_X12_plan_174_c145 k) FU
def m_X12_plan_174_c85 (k_X12_plan_174_c44 : Int → Int → Int → Int → D9 → Option R9) (v1 v2 v3 v4 v5 s0 : Int) (d : D9) : Option R9 := if 0 < w32 s0 then k_X12_plan_174_c44 v1 v2 v4 (v4 + 1) d else if w32 s0 ≠ 0 then k_X12_plan_174_c44 v1 v2 v3 (v4 + 1) d else cl (m_X12_grainsOf_174 v3 d) (fun r1 d2 => if w32 r1 ≤ w32 v5 then k_X12_plan_174_c44 v1 v2 v3 (v4 + 1) d2 else k_X12_plan_174_c44 v1 v2 v4 (v4 + 1) d2)
def b_X12_plan_174_c44 (k_X12_plan_174_c44 : Int → Int → Int → Int → D9 → Option R9) (v1 v2 v3 v4 : Int) (d : D9) : Option R9 := if w32 (shl9 1 (d 174 31)) ≤ w32 v4 then if w32 v2 ≤ 0 then m_X12_plan_174_c145  v3 0 0 d else if w32 v2 ≠ w32 1 then cl (m_X12_grainsOf_174 v3 d) (fun r1 d2 => rt r1 d2) else cl (m_X12_coveredBy_174 v3 d) (fun r3 d4 => rt r3 d4) else cl (m_X12_grainsOf_174 v4 d) (fun r5 d6 => if w32 r5 ≤ w32 v1 then cl (m_X12_coveredBy_174 v4 d6) (fun r7 d8 => cl (m_X12_coveredBy_174 v3 d8) (fun r9 d10 => m_X12_plan_174_c85 k_X12_plan_174_c44 v1 v2 v3 v4 r5 (r7 - r9) d10)) else m_X12_plan_174_c85 k_X12_plan_174_c44 v1 v2 v3 v4 r5 (-1) d6)
def m_X12_plan_174_c44 : Int → Int → Int → Int → D9 → Option R9 := fix9 (fun _ _ _ _ _ => none) (fun k => b_X12_plan_174_c44 k) FU
def m_X12_plan_174 (p1 p2 : Int) (d : D9) : Option R9 := pf d 174 3 0 (fun d1 => cl (m_X12_within (w32 p1) 0 999 d1) (fun r2 d3 => if w32 r2 = 0 then m_X12_plan_174_c29   d3 else cl (m_X12_within (w32 p2) 0 2 d3) (fun r4 d5 => if w32 r4 ≠ 0 then cl (m_X12_layCandidates_174 d5) (fun r6 d7 => m_X12_plan_174_c44  p1 p2 0 1 d7) else m_X12_plan_174_c29   d5)))
set_option maxRecDepth 100000 in
theorem s_X12_plan_174_c29 {G : G9} {X : X9} (C : CX G X cX12_plan 7 RX12 [] z_X12_plan_174) : ∀ (d : D9), SS G X 7 0 0 29 [(0, rf G 174)] [] d (m_X12_plan_174_c29   d) := by
  intro  d
  unfold m_X12_plan_174_c29
  refine r_aload_n C 0 dX12_plan_29 rfl rfl ?_
  refine r_iconst C dX12_plan_30 ?_
  refine r_callV C [i9 1, rf G 174] dX12_plan_31 (t_X12_fails_174 C.h1 C.h2 1 d) mw_X12_89 mv_X12_fails la_174 ly_174 rfl (by decide) (by decide) (by decide) rfl rfl (Nat.le_of_ble_eq_true rfl) (fun r1 d2 => ?_)
  show SS G X 7 _ _ 34 [(0, rf G 174)] [i9 r1] d2 _
  exact r_iret C dX12_plan_34 (by decide) (by decide)
set_option maxRecDepth 100000 in
theorem sb_X12_plan_174_c145 {G : G9} {X : X9} (C : CX G X cX12_plan 7 RX12 [] z_X12_plan_174) (k_X12_plan_174_c145 : Int → Int → Int → D9 → Option R9) (hk_X12_plan_174_c145 : ∀ (v3 v4 v5 : Int) (d : D9), SS G X 7 0 0 145 [(0, rf G 174), (3, i9 v3), (4, i9 v4), (5, i9 v5)] [] d (k_X12_plan_174_c145 v3 v4 v5 d)) : ∀ (v3 v4 v5 : Int) (d : D9), SS G X 7 0 0 145 [(0, rf G 174), (3, i9 v3), (4, i9 v4), (5, i9 v5)] [] d (b_X12_plan_174_c145 k_X12_plan_174_c145 v3 v4 v5 d) := by
  intro v3 v4 v5 d
  unfold b_X12_plan_174_c145
  refine r_iload C 3 dX12_plan_145 rfl ?_
  refine r_aload_n C 0 dX12_plan_147 rfl rfl ?_
  refine r_getI C dX12_plan_148 fl_X12_453 la_174 ly_174 rfl ?_
  refine r_icmp_ge C 188 dX12_plan_151 (by decide) (fun _ => ?_) (fun _ => ?_)
  · refine r_iload C 2 dX12_plan_188 rfl ?_
    exact r_iret C dX12_plan_190 (by decide) (by decide)
  · refine r_iload C 2 dX12_plan_154 rfl ?_
    refine r_iload_n C 1 dX12_plan_156 rfl rfl ?_
    refine r_iload C 3 dX12_plan_157 rfl ?_
    refine r_ishr C dX12_plan_159 ?_
    refine r_iconst C dX12_plan_160 ?_
    refine r_iand C dX12_plan_161 ?_
    refine r_iconst C dX12_plan_162 ?_
    refine r_icmp_ne C 178 dX12_plan_163 (by decide) (fun _ => ?_) (fun _ => ?_)
    · refine r_iconst C dX12_plan_178 ?_
      refine r_ior C dX12_plan_179 ?_
      refine ss_lt (fun a1 => ?_)
      refine r_istore C [(4, i9 a1), (0, rf G 174), (3, i9 v3), (5, i9 v5)] dX12_plan_180 (by decide) rfl ?_
      refine r_iinc C 3 [(5, i9 (v5 + 1)), (4, i9 a1), (0, rf G 174), (3, i9 v3)] dX12_plan_182 rfl (by decide) rfl ?_
      refine r_goto C 145 dX12_plan_185 (by decide) ?_
      refine ss_wide (k' := 0) (n' := 0) (by decide) (by decide) ?_
      refine ss_ls [(0, rf G 174), (3, i9 v3), (4, i9 a1), (5, i9 (v5 + 1))] [2, 3, 1, 0] rfl ?_
      exact hk_X12_plan_174_c145 v3 a1 (v5 + 1) d
    · refine r_iconst C dX12_plan_166 ?_
      refine r_aload_n C 0 dX12_plan_167 rfl rfl ?_
      refine r_getR C 187 dX12_plan_168 fl_X12_52 la_174 ly_174 rfl rfl ?_
      refine r_iload C 3 dX12_plan_171 rfl ?_
      refine r_iald C dX12_plan_173 la_187 ly_187 (fun t2 => ?_)
      refine r_ishl C dX12_plan_174 ?_
      refine r_goto C 179 dX12_plan_175 (by decide) ?_
      refine r_ior C dX12_plan_179 ?_
      refine ss_lt (fun a3 => ?_)
      refine r_istore C [(4, i9 a3), (0, rf G 174), (3, i9 v3), (5, i9 v5)] dX12_plan_180 (by decide) rfl ?_
      refine r_iinc C 3 [(5, i9 (v5 + 1)), (4, i9 a3), (0, rf G 174), (3, i9 v3)] dX12_plan_182 rfl (by decide) rfl ?_
      refine r_goto C 145 dX12_plan_185 (by decide) ?_
      refine ss_wide (k' := 0) (n' := 0) (by decide) (by decide) ?_
      refine ss_ls [(0, rf G 174), (3, i9 v3), (4, i9 a3), (5, i9 (v5 + 1))] [2, 3, 1, 0] rfl ?_
      exact hk_X12_plan_174_c145 v3 a3 (v5 + 1) d
theorem s_X12_plan_174_c145 {G : G9} {X : X9} (C : CX G X cX12_plan 7 RX12 [] z_X12_plan_174) : ∀ (v3 v4 v5 : Int) (d : D9), SS G X 7 0 0 145 [(0, rf G 174), (3, i9 v3), (4, i9 v4), (5, i9 v5)] [] d (m_X12_plan_174_c145  v3 v4 v5 d) :=
  fix9_ind (P := fun k => ∀ (v3 v4 v5 : Int) (d : D9), SS G X 7 0 0 145 [(0, rf G 174), (3, i9 v3), (4, i9 v4), (5, i9 v5)] [] d (k v3 v4 v5 d)) (fun _ _ _ _ => ss_none) (fun k hk => sb_X12_plan_174_c145 C k hk) FU
set_option maxRecDepth 100000 in
theorem s_X12_plan_174_c85 {G : G9} {X : X9} (C : CX G X cX12_plan 7 RX12 [] z_X12_plan_174) (k_X12_plan_174_c44 : Int → Int → Int → Int → D9 → Option R9) (hk_X12_plan_174_c44 : ∀ (v1 v2 v3 v4 : Int) (d : D9), SS G X 7 0 0 44 [(0, rf G 174), (1, i9 v1), (2, i9 v2), (3, i9 v3), (4, i9 v4)] [] d (k_X12_plan_174_c44 v1 v2 v3 v4 d)) : ∀ (v1 v2 v3 v4 v5 s0 : Int) (d : D9), SS G X 7 0 0 85 [(0, rf G 174), (1, i9 v1), (2, i9 v2), (3, i9 v3), (4, i9 v4), (5, i9 v5)] [i9 s0] d (m_X12_plan_174_c85 k_X12_plan_174_c44 v1 v2 v3 v4 v5 s0 d) := by
  intro v1 v2 v3 v4 v5 s0 d
  unfold m_X12_plan_174_c85
  refine r_istore C [(6, i9 s0), (0, rf G 174), (1, i9 v1), (2, i9 v2), (3, i9 v3), (4, i9 v4), (5, i9 v5)] dX12_plan_85 (by decide) rfl ?_
  refine r_iload C 0 dX12_plan_87 rfl ?_
  refine r_if_gt C (b := 0) 107 dX12_plan_89 (by decide) (fun _ => ?_) (fun _ => ?_)
  · refine r_iload C 5 dX12_plan_107 rfl ?_
    refine r_istore_n C [(3, i9 v4), (6, i9 s0), (0, rf G 174), (1, i9 v1), (2, i9 v2), (4, i9 v4), (5, i9 v5)] dX12_plan_109 rfl (by decide) rfl ?_
    refine r_iinc C 5 [(4, i9 (v4 + 1)), (3, i9 v4), (6, i9 s0), (0, rf G 174), (1, i9 v1), (2, i9 v2), (5, i9 v5)] dX12_plan_110 rfl (by decide) rfl ?_
    refine r_goto C 44 dX12_plan_113 (by decide) ?_
    refine ss_wide (k' := 0) (n' := 0) (by decide) (by decide) ?_
    refine ss_ls [(0, rf G 174), (1, i9 v1), (2, i9 v2), (3, i9 v4), (4, i9 (v4 + 1))] [3, 4, 5, 1, 0] rfl ?_
    exact hk_X12_plan_174_c44 v1 v2 v4 (v4 + 1) d
  · refine r_iload C 0 dX12_plan_92 rfl ?_
    refine r_if_ne C (b := 0) 110 dX12_plan_94 (by decide) (fun _ => ?_) (fun _ => ?_)
    · refine r_iinc C 5 [(4, i9 (v4 + 1)), (6, i9 s0), (0, rf G 174), (1, i9 v1), (2, i9 v2), (3, i9 v3), (5, i9 v5)] dX12_plan_110 rfl (by decide) rfl ?_
      refine r_goto C 44 dX12_plan_113 (by decide) ?_
      refine ss_wide (k' := 0) (n' := 0) (by decide) (by decide) ?_
      refine ss_ls [(0, rf G 174), (1, i9 v1), (2, i9 v2), (3, i9 v3), (4, i9 (v4 + 1))] [2, 3, 4, 5, 0] rfl ?_
      exact hk_X12_plan_174_c44 v1 v2 v3 (v4 + 1) d
    · refine r_iload C 6 dX12_plan_97 rfl ?_
      refine r_aload_n C 1 dX12_plan_99 rfl rfl ?_
      refine r_iload_n C 4 dX12_plan_100 rfl rfl ?_
      refine r_callV C [i9 v3, rf G 174, i9 v5] dX12_plan_101 (t_X12_grainsOf_174 C.h1 C.h2 v3 d) mw_X12_461 mv_X12_grainsOf la_174 ly_174 rfl (by decide) (by decide) (by decide) rfl rfl (Nat.le_of_ble_eq_true rfl) (fun r1 d2 => ?_)
      show SS G X 7 _ _ 104 [(6, i9 s0), (0, rf G 174), (1, i9 v1), (2, i9 v2), (3, i9 v3), (4, i9 v4), (5, i9 v5)] [i9 r1, i9 v5] d2 _
      refine r_icmp_ge C 110 dX12_plan_104 (by decide) (fun _ => ?_) (fun _ => ?_)
      · refine r_iinc C 5 [(4, i9 (v4 + 1)), (6, i9 s0), (0, rf G 174), (1, i9 v1), (2, i9 v2), (3, i9 v3), (5, i9 v5)] dX12_plan_110 rfl (by decide) rfl ?_
        refine r_goto C 44 dX12_plan_113 (by decide) ?_
        refine ss_wide (k' := 0) (n' := 0) (by decide) (by decide) ?_
        refine ss_ls [(0, rf G 174), (1, i9 v1), (2, i9 v2), (3, i9 v3), (4, i9 (v4 + 1))] [2, 3, 4, 5, 0] rfl ?_
        exact hk_X12_plan_174_c44 v1 v2 v3 (v4 + 1) d2
      · refine r_iload C 5 dX12_plan_107 rfl ?_
        refine r_istore_n C [(3, i9 v4), (6, i9 s0), (0, rf G 174), (1, i9 v1), (2, i9 v2), (4, i9 v4), (5, i9 v5)] dX12_plan_109 rfl (by decide) rfl ?_
        refine r_iinc C 5 [(4, i9 (v4 + 1)), (3, i9 v4), (6, i9 s0), (0, rf G 174), (1, i9 v1), (2, i9 v2), (5, i9 v5)] dX12_plan_110 rfl (by decide) rfl ?_
        refine r_goto C 44 dX12_plan_113 (by decide) ?_
        refine ss_wide (k' := 0) (n' := 0) (by decide) (by decide) ?_
        refine ss_ls [(0, rf G 174), (1, i9 v1), (2, i9 v2), (3, i9 v4), (4, i9 (v4 + 1))] [3, 4, 5, 1, 0] rfl ?_
        exact hk_X12_plan_174_c44 v1 v2 v4 (v4 + 1) d2
set_option maxRecDepth 100000 in
theorem sb_X12_plan_174_c44 {G : G9} {X : X9} (C : CX G X cX12_plan 7 RX12 [] z_X12_plan_174) (k_X12_plan_174_c44 : Int → Int → Int → Int → D9 → Option R9) (hk_X12_plan_174_c44 : ∀ (v1 v2 v3 v4 : Int) (d : D9), SS G X 7 0 0 44 [(0, rf G 174), (1, i9 v1), (2, i9 v2), (3, i9 v3), (4, i9 v4)] [] d (k_X12_plan_174_c44 v1 v2 v3 v4 d)) : ∀ (v1 v2 v3 v4 : Int) (d : D9), SS G X 7 0 0 44 [(0, rf G 174), (1, i9 v1), (2, i9 v2), (3, i9 v3), (4, i9 v4)] [] d (b_X12_plan_174_c44 k_X12_plan_174_c44 v1 v2 v3 v4 d) := by
  intro v1 v2 v3 v4 d
  unfold b_X12_plan_174_c44
  refine r_iload C 4 dX12_plan_44 rfl ?_
  refine r_iconst C dX12_plan_46 ?_
  refine r_aload_n C 0 dX12_plan_47 rfl rfl ?_
  refine r_getI C dX12_plan_48 fl_X12_453 la_174 ly_174 rfl ?_
  refine r_ishl C dX12_plan_51 ?_
  refine r_icmp_ge C 116 dX12_plan_52 (by decide) (fun _ => ?_) (fun _ => ?_)
  · refine r_iload_n C 2 dX12_plan_116 rfl rfl ?_
    refine r_if_le C (b := 0) 139 dX12_plan_117 (by decide) (fun _ => ?_) (fun _ => ?_)
    · refine r_iconst C dX12_plan_139 ?_
      refine r_istore C [(4, i9 0), (0, rf G 174), (1, i9 v1), (2, i9 v2), (3, i9 v3)] dX12_plan_140 (by decide) rfl ?_
      refine r_iconst C dX12_plan_142 ?_
      refine r_istore C [(5, i9 0), (4, i9 0), (0, rf G 174), (1, i9 v1), (2, i9 v2), (3, i9 v3)] dX12_plan_143 (by decide) rfl ?_
      refine ss_wide (k' := 0) (n' := 0) (by decide) (by decide) ?_
      refine ss_ls [(0, rf G 174), (3, i9 v3), (4, i9 0), (5, i9 0)] [2, 5, 1, 0] rfl ?_
      exact s_X12_plan_174_c145 C  v3 0 0 d
    · refine r_iload_n C 2 dX12_plan_120 rfl rfl ?_
      refine r_iconst C dX12_plan_121 ?_
      refine r_icmp_ne C 133 dX12_plan_122 (by decide) (fun _ => ?_) (fun _ => ?_)
      · refine r_aload_n C 0 dX12_plan_133 rfl rfl ?_
        refine r_iload_n C 3 dX12_plan_134 rfl rfl ?_
        refine r_callV C [i9 v3, rf G 174] dX12_plan_135 (t_X12_grainsOf_174 C.h1 C.h2 v3 d) mw_X12_461 mv_X12_grainsOf la_174 ly_174 rfl (by decide) (by decide) (by decide) rfl rfl (Nat.le_of_ble_eq_true rfl) (fun r1 d2 => ?_)
        show SS G X 7 _ _ 138 [(0, rf G 174), (1, i9 v1), (2, i9 v2), (3, i9 v3), (4, i9 v4)] [i9 r1] d2 _
        exact r_iret C dX12_plan_138 (by decide) (by decide)
      · refine r_aload_n C 0 dX12_plan_125 rfl rfl ?_
        refine r_iload_n C 3 dX12_plan_126 rfl rfl ?_
        refine r_callV C [i9 v3, rf G 174] dX12_plan_127 (t_X12_coveredBy_174 C.h1 C.h2 v3 d) mw_X12_464 mv_X12_coveredBy la_174 ly_174 rfl (by decide) (by decide) (by decide) rfl rfl (Nat.le_of_ble_eq_true rfl) (fun r3 d4 => ?_)
        show SS G X 7 _ _ 130 [(0, rf G 174), (1, i9 v1), (2, i9 v2), (3, i9 v3), (4, i9 v4)] [i9 r3] d4 _
        refine r_goto C 138 dX12_plan_130 (by decide) ?_
        exact r_iret C dX12_plan_138 (by decide) (by decide)
  · refine r_aload_n C 0 dX12_plan_55 rfl rfl ?_
    refine r_iload C 4 dX12_plan_56 rfl ?_
    refine r_callV C [i9 v4, rf G 174] dX12_plan_58 (t_X12_grainsOf_174 C.h1 C.h2 v4 d) mw_X12_461 mv_X12_grainsOf la_174 ly_174 rfl (by decide) (by decide) (by decide) rfl rfl (Nat.le_of_ble_eq_true rfl) (fun r5 d6 => ?_)
    show SS G X 7 _ _ 61 [(0, rf G 174), (1, i9 v1), (2, i9 v2), (3, i9 v3), (4, i9 v4)] [i9 r5] d6 _
    refine r_istore C [(5, i9 r5), (0, rf G 174), (1, i9 v1), (2, i9 v2), (3, i9 v3), (4, i9 v4)] dX12_plan_61 (by decide) rfl ?_
    refine r_iload C 0 dX12_plan_63 rfl ?_
    refine r_iload_n C 2 dX12_plan_65 rfl rfl ?_
    refine r_icmp_le C 73 dX12_plan_66 (by decide) (fun _ => ?_) (fun _ => ?_)
    · refine r_aload_n C 1 dX12_plan_73 rfl rfl ?_
      refine r_iload C 5 dX12_plan_74 rfl ?_
      refine r_callV C [i9 v4, rf G 174] dX12_plan_76 (t_X12_coveredBy_174 C.h1 C.h2 v4 d6) mw_X12_464 mv_X12_coveredBy la_174 ly_174 rfl (by decide) (by decide) (by decide) rfl rfl (Nat.le_of_ble_eq_true rfl) (fun r7 d8 => ?_)
      show SS G X 7 _ _ 79 [(5, i9 r5), (0, rf G 174), (1, i9 v1), (2, i9 v2), (3, i9 v3), (4, i9 v4)] [i9 r7] d8 _
      refine r_aload_n C 1 dX12_plan_79 rfl rfl ?_
      refine r_iload_n C 4 dX12_plan_80 rfl rfl ?_
      refine r_callV C [i9 v3, rf G 174, i9 r7] dX12_plan_81 (t_X12_coveredBy_174 C.h1 C.h2 v3 d8) mw_X12_464 mv_X12_coveredBy la_174 ly_174 rfl (by decide) (by decide) (by decide) rfl rfl (Nat.le_of_ble_eq_true rfl) (fun r9 d10 => ?_)
      show SS G X 7 _ _ 84 [(5, i9 r5), (0, rf G 174), (1, i9 v1), (2, i9 v2), (3, i9 v3), (4, i9 v4)] [i9 r9, i9 r7] d10 _
      refine r_isub C dX12_plan_84 ?_
      refine ss_wide (k' := 0) (n' := 0) (by decide) (by decide) ?_
      refine ss_ls [(0, rf G 174), (1, i9 v1), (2, i9 v2), (3, i9 v3), (4, i9 v4), (5, i9 r5)] [1, 2, 3, 4, 5, 0] rfl ?_
      exact s_X12_plan_174_c85 C k_X12_plan_174_c44 hk_X12_plan_174_c44 v1 v2 v3 v4 r5 (r7 - r9) d10
    · refine r_iconst C dX12_plan_69 ?_
      refine r_goto C 85 dX12_plan_70 (by decide) ?_
      refine ss_wide (k' := 0) (n' := 0) (by decide) (by decide) ?_
      refine ss_ls [(0, rf G 174), (1, i9 v1), (2, i9 v2), (3, i9 v3), (4, i9 v4), (5, i9 r5)] [1, 2, 3, 4, 5, 0] rfl ?_
      exact s_X12_plan_174_c85 C k_X12_plan_174_c44 hk_X12_plan_174_c44 v1 v2 v3 v4 r5 (-1) d6
theorem s_X12_plan_174_c44 {G : G9} {X : X9} (C : CX G X cX12_plan 7 RX12 [] z_X12_plan_174) : ∀ (v1 v2 v3 v4 : Int) (d : D9), SS G X 7 0 0 44 [(0, rf G 174), (1, i9 v1), (2, i9 v2), (3, i9 v3), (4, i9 v4)] [] d (m_X12_plan_174_c44  v1 v2 v3 v4 d) :=
  fix9_ind (P := fun k => ∀ (v1 v2 v3 v4 : Int) (d : D9), SS G X 7 0 0 44 [(0, rf G 174), (1, i9 v1), (2, i9 v2), (3, i9 v3), (4, i9 v4)] [] d (k v1 v2 v3 v4 d)) (fun _ _ _ _ _ => ss_none) (fun k hk => sb_X12_plan_174_c44 C k hk) FU
set_option maxRecDepth 100000 in
theorem t_X12_plan_174 {G : G9} {l : Launch} (h1 : va_D (A9 G) (wl G (fun _ _ => 0))) (h2 : l.stackTraces = false) (p1 p2 : Int) (d : D9) : MT G l yX12_plan cX12_plan 7 z_X12_plan_174 [rf G 174, i9 p1, i9 p2] d (m_X12_plan_174 p1 p2 d) := by
  refine mt_of (own := RX12) (by decide) rfl (Nat.le_of_ble_eq_true rfl) h1 h2 [(0, rf G 174), (1, i9 p1), (2, i9 p2)] rfl (fun X hX C => ?_)
  unfold m_X12_plan_174
  refine r_aload_n C 0 dX12_plan_0 rfl rfl ?_
  refine r_iconst C dX12_plan_1 ?_
  refine r_putI C dX12_plan_2 fp_X12_76 la_174 ly_174 rfl (fun d1 => ?_)
  refine r_iload_n C 1 dX12_plan_5 rfl rfl ?_
  refine r_i2l C dX12_plan_6 ?_
  refine r_lconst C dX12_plan_7 (a := 0) rfl ?_
  refine r_ldcL C dX12_plan_8 kc_X12_456 ?_
  refine r_callS C [l9 999, l9 0, l9 (w32 p1)] dX12_plan_11 (t_X12_within C.h1 C.h2 (w32 p1) 0 999 d1) mw_X12_79 ms_X12_within (by decide) (by decide) (by decide) rfl rfl (Nat.le_of_ble_eq_true rfl) (fun r2 d3 => ?_)
  show SS G X 7 _ _ 14 [(0, rf G 174), (1, i9 p1), (2, i9 p2)] [i9 r2] d3 _
  refine r_if_eq C (b := 0) 29 dX12_plan_14 (by decide) (fun _ => ?_) (fun _ => ?_)
  · refine ss_wide (k' := 0) (n' := 0) (by decide) (by decide) ?_
    refine ss_ls [(0, rf G 174)] [0] rfl ?_
    exact s_X12_plan_174_c29 C   d3
  · refine r_iload_n C 2 dX12_plan_17 rfl rfl ?_
    refine r_i2l C dX12_plan_18 ?_
    refine r_lconst C dX12_plan_19 (a := 0) rfl ?_
    refine r_ldcL C dX12_plan_20 kc_X12_114 ?_
    refine r_callS C [l9 2, l9 0, l9 (w32 p2)] dX12_plan_23 (t_X12_within C.h1 C.h2 (w32 p2) 0 2 d3) mw_X12_79 ms_X12_within (by decide) (by decide) (by decide) rfl rfl (Nat.le_of_ble_eq_true rfl) (fun r4 d5 => ?_)
    show SS G X 7 _ _ 26 [(0, rf G 174), (1, i9 p1), (2, i9 p2)] [i9 r4] d5 _
    refine r_if_ne C (b := 0) 35 dX12_plan_26 (by decide) (fun _ => ?_) (fun _ => ?_)
    · refine r_aload_n C 0 dX12_plan_35 rfl rfl ?_
      refine r_callV C [rf G 174] dX12_plan_36 (t_X12_layCandidates_174 C.h1 C.h2 d5) mw_X12_458 mv_X12_layCandidates la_174 ly_174 rfl (by decide) (by decide) (by decide) rfl rfl (Nat.le_of_ble_eq_true rfl) (fun r6 d7 => ?_)
      show SS G X 7 _ _ 39 [(0, rf G 174), (1, i9 p1), (2, i9 p2)] [] d7 _
      refine r_iconst C dX12_plan_39 ?_
      refine r_istore_n C [(3, i9 0), (0, rf G 174), (1, i9 p1), (2, i9 p2)] dX12_plan_40 rfl (by decide) rfl ?_
      refine r_iconst C dX12_plan_41 ?_
      refine r_istore C [(4, i9 1), (3, i9 0), (0, rf G 174), (1, i9 p1), (2, i9 p2)] dX12_plan_42 (by decide) rfl ?_
      refine ss_wide (k' := 0) (n' := 0) (by decide) (by decide) ?_
      refine ss_ls [(0, rf G 174), (1, i9 p1), (2, i9 p2), (3, i9 0), (4, i9 1)] [2, 3, 4, 1, 0] rfl ?_
      exact s_X12_plan_174_c44 C  p1 p2 0 1 d7
    · refine ss_wide (k' := 0) (n' := 0) (by decide) (by decide) ?_
      refine ss_ls [(0, rf G 174)] [0] rfl ?_
      exact s_X12_plan_174_c29 C   d5
theorem dX12_behind_0 : decode cX12_behind 0 = .ok (.aload_n 0, 1) := by decide +kernel
theorem dX12_behind_1 : decode cX12_behind 1 = .ok (.iconst 0, 1) := by decide +kernel
theorem dX12_behind_2 : decode cX12_behind 2 = .ok (.putfield 76, 3) := by decide +kernel
theorem dX12_behind_5 : decode cX12_behind 5 = .ok (.iload_n 1, 1) := by decide +kernel
theorem dX12_behind_6 : decode cX12_behind 6 = .ok (.i2l, 1) := by decide +kernel
theorem dX12_behind_7 : decode cX12_behind 7 = .ok (.lconst 0, 1) := by decide +kernel
theorem dX12_behind_8 : decode cX12_behind 8 = .ok (.ldc2_w 456, 3) := by decide +kernel
theorem dX12_behind_11 : decode cX12_behind 11 = .ok (.invokestatic 79, 3) := by decide +kernel
theorem dX12_behind_14 : decode cX12_behind 14 = .ok (.ifCond .ne 9, 3) := by decide +kernel
theorem dX12_behind_17 : decode cX12_behind 17 = .ok (.aload_n 0, 1) := by decide +kernel
theorem dX12_behind_18 : decode cX12_behind 18 = .ok (.iconst 1, 1) := by decide +kernel
theorem dX12_behind_19 : decode cX12_behind 19 = .ok (.invokevirtual 89, 3) := by decide +kernel
theorem dX12_behind_22 : decode cX12_behind 22 = .ok (.ireturn, 1) := by decide +kernel
theorem dX12_behind_23 : decode cX12_behind 23 = .ok (.aload_n 0, 1) := by decide +kernel
theorem dX12_behind_24 : decode cX12_behind 24 = .ok (.iload_n 1, 1) := by decide +kernel
theorem dX12_behind_25 : decode cX12_behind 25 = .ok (.invokevirtual 482, 3) := by decide +kernel
theorem dX12_behind_28 : decode cX12_behind 28 = .ok (.iconst 0, 1) := by decide +kernel
theorem dX12_behind_29 : decode cX12_behind 29 = .ok (.istore_n 2, 1) := by decide +kernel
theorem dX12_behind_30 : decode cX12_behind 30 = .ok (.iconst 0, 1) := by decide +kernel
theorem dX12_behind_31 : decode cX12_behind 31 = .ok (.istore_n 3, 1) := by decide +kernel
theorem dX12_behind_32 : decode cX12_behind 32 = .ok (.iload_n 3, 1) := by decide +kernel
theorem dX12_behind_33 : decode cX12_behind 33 = .ok (.aload_n 0, 1) := by decide +kernel
theorem dX12_behind_34 : decode cX12_behind 34 = .ok (.getfield 9, 3) := by decide +kernel
theorem dX12_behind_37 : decode cX12_behind 37 = .ok (.iconst 1, 1) := by decide +kernel
theorem dX12_behind_38 : decode cX12_behind 38 = .ok (.iaload, 1) := by decide +kernel
theorem dX12_behind_39 : decode cX12_behind 39 = .ok (.if_icmp .ge 47, 3) := by decide +kernel
theorem dX12_behind_42 : decode cX12_behind 42 = .ok (.aload_n 0, 1) := by decide +kernel
theorem dX12_behind_43 : decode cX12_behind 43 = .ok (.iload_n 3, 1) := by decide +kernel
theorem dX12_behind_44 : decode cX12_behind 44 = .ok (.iconst 1, 1) := by decide +kernel
theorem dX12_behind_45 : decode cX12_behind 45 = .ok (.invokevirtual 124, 3) := by decide +kernel
theorem dX12_behind_48 : decode cX12_behind 48 = .ok (.ifCond .le 32, 3) := by decide +kernel
theorem dX12_behind_51 : decode cX12_behind 51 = .ok (.aload_n 0, 1) := by decide +kernel
theorem dX12_behind_52 : decode cX12_behind 52 = .ok (.iload_n 3, 1) := by decide +kernel
theorem dX12_behind_53 : decode cX12_behind 53 = .ok (.iconst 4, 1) := by decide +kernel
theorem dX12_behind_54 : decode cX12_behind 54 = .ok (.invokevirtual 124, 3) := by decide +kernel
theorem dX12_behind_57 : decode cX12_behind 57 = .ok (.ifCond .gt 12, 3) := by decide +kernel
theorem dX12_behind_60 : decode cX12_behind 60 = .ok (.aload_n 0, 1) := by decide +kernel
theorem dX12_behind_61 : decode cX12_behind 61 = .ok (.getfield 55, 3) := by decide +kernel
theorem dX12_behind_64 : decode cX12_behind 64 = .ok (.iload_n 3, 1) := by decide +kernel
theorem dX12_behind_65 : decode cX12_behind 65 = .ok (.baload, 1) := by decide +kernel
theorem dX12_behind_66 : decode cX12_behind 66 = .ok (.ifCond .eq 14, 3) := by decide +kernel
theorem dX12_behind_69 : decode cX12_behind 69 = .ok (.iload_n 2, 1) := by decide +kernel
theorem dX12_behind_70 : decode cX12_behind 70 = .ok (.iconst 1, 1) := by decide +kernel
theorem dX12_behind_71 : decode cX12_behind 71 = .ok (.aload_n 0, 1) := by decide +kernel
theorem dX12_behind_72 : decode cX12_behind 72 = .ok (.iload_n 3, 1) := by decide +kernel
theorem dX12_behind_73 : decode cX12_behind 73 = .ok (.iconst 2, 1) := by decide +kernel
theorem dX12_behind_74 : decode cX12_behind 74 = .ok (.invokevirtual 124, 3) := by decide +kernel
theorem dX12_behind_77 : decode cX12_behind 77 = .ok (.ishl, 1) := by decide +kernel
theorem dX12_behind_78 : decode cX12_behind 78 = .ok (.ior, 1) := by decide +kernel
theorem dX12_behind_79 : decode cX12_behind 79 = .ok (.istore_n 2, 1) := by decide +kernel
theorem dX12_behind_80 : decode cX12_behind 80 = .ok (.iinc 3 1, 3) := by decide +kernel
theorem dX12_behind_83 : decode cX12_behind 83 = .ok (.goto (-51), 3) := by decide +kernel
theorem dX12_behind_86 : decode cX12_behind 86 = .ok (.aload_n 0, 1) := by decide +kernel
theorem dX12_behind_87 : decode cX12_behind 87 = .ok (.iload_n 1, 1) := by decide +kernel
theorem dX12_behind_88 : decode cX12_behind 88 = .ok (.iconst 1, 1) := by decide +kernel
theorem dX12_behind_89 : decode cX12_behind 89 = .ok (.invokevirtual 485, 3) := by decide +kernel
theorem dX12_behind_92 : decode cX12_behind 92 = .ok (.iload_n 2, 1) := by decide +kernel
theorem dX12_behind_93 : decode cX12_behind 93 = .ok (.invokestatic 448, 3) := by decide +kernel
theorem dX12_behind_96 : decode cX12_behind 96 = .ok (.isub, 1) := by decide +kernel
theorem dX12_behind_97 : decode cX12_behind 97 = .ok (.ireturn, 1) := by decide +kernel
abbrev z_X12_behind_174 : Z9 := (some .int, 1, 0, 0, 14, 349)
def m_X12_behind_174_c69 (k_X12_behind_174_c32 : Int → Int → Int → D9 → Option R9) (v1 v2 v3 : Int) (d : D9) : Option R9 := cl (m_X12_ofSkin_174 v3 2 d) (fun r1 d2 => lt9v (or9 v2 (shl9 1 r1)) (fun a3 => k_X12_behind_174_c32 v1 a3 (v3 + 1) d2))
def b_X12_behind_174_c32 (k_X12_behind_174_c32 : Int → Int → Int → D9 → Option R9) (v1 v2 v3 : Int) (d : D9) : Option R9 := ld d 175 1604 1 (fun t1 => if w32 t1 ≤ w32 v3 then cl (m_X12_plan_174 v1 1 d) (fun r2 d3 => cl (m_J6_bitCount_0f7a4 v2 d3) (fun r4 d5 => rt (r2 - r4) d5)) else cl (m_X12_ofSkin_174 v3 1 d) (fun r6 d7 => if w32 r6 ≤ 0 then k_X12_behind_174_c32 v1 v2 (v3 + 1) d7 else cl (m_X12_ofSkin_174 v3 4 d7) (fun r8 d9 => if 0 < w32 r8 then m_X12_behind_174_c69 k_X12_behind_174_c32 v1 v2 v3 d9 else ld d9 188 30 v3 (fun t10 => if w32 t10 = 0 then k_X12_behind_174_c32 v1 v2 (v3 + 1) d9 else m_X12_behind_174_c69 k_X12_behind_174_c32 v1 v2 v3 d9))))
def m_X12_behind_174_c32 : Int → Int → Int → D9 → Option R9 := fix9 (fun _ _ _ _ => none) (fun k => b_X12_behind_174_c32 k) FU
def m_X12_behind_174 (p1 : Int) (d : D9) : Option R9 := pf d 174 3 0 (fun d1 => cl (m_X12_within (w32 p1) 0 999 d1) (fun r2 d3 => if w32 r2 ≠ 0 then cl (m_X12_layFollowed_174 p1 d3) (fun r4 d5 => m_X12_behind_174_c32  p1 0 0 d5) else cl (m_X12_fails_174 1 d3) (fun r6 d7 => rt r6 d7)))
set_option maxRecDepth 100000 in
theorem s_X12_behind_174_c69 {G : G9} {X : X9} (C : CX G X cX12_behind 4 RX12 [] z_X12_behind_174) (k_X12_behind_174_c32 : Int → Int → Int → D9 → Option R9) (hk_X12_behind_174_c32 : ∀ (v1 v2 v3 : Int) (d : D9), SS G X 4 0 0 32 [(0, rf G 174), (1, i9 v1), (2, i9 v2), (3, i9 v3)] [] d (k_X12_behind_174_c32 v1 v2 v3 d)) : ∀ (v1 v2 v3 : Int) (d : D9), SS G X 4 0 0 69 [(0, rf G 174), (1, i9 v1), (2, i9 v2), (3, i9 v3)] [] d (m_X12_behind_174_c69 k_X12_behind_174_c32 v1 v2 v3 d) := by
  intro v1 v2 v3 d
  unfold m_X12_behind_174_c69
  refine r_iload_n C 2 dX12_behind_69 rfl rfl ?_
  refine r_iconst C dX12_behind_70 ?_
  refine r_aload_n C 0 dX12_behind_71 rfl rfl ?_
  refine r_iload_n C 3 dX12_behind_72 rfl rfl ?_
  refine r_iconst C dX12_behind_73 ?_
  refine r_callV C [i9 2, i9 v3, rf G 174, i9 1, i9 v2] dX12_behind_74 (t_X12_ofSkin_174 C.h1 C.h2 v3 2 d) mw_X12_124 mv_X12_ofSkin la_174 ly_174 rfl (by decide) (by decide) (by decide) rfl rfl (Nat.le_of_ble_eq_true rfl) (fun r1 d2 => ?_)
  show SS G X 4 _ _ 77 [(0, rf G 174), (1, i9 v1), (2, i9 v2), (3, i9 v3)] [i9 r1, i9 1, i9 v2] d2 _
  refine r_ishl C dX12_behind_77 ?_
  refine r_ior C dX12_behind_78 ?_
  refine ss_lt (fun a3 => ?_)
  refine r_istore_n C [(2, i9 a3), (0, rf G 174), (1, i9 v1), (3, i9 v3)] dX12_behind_79 rfl (by decide) rfl ?_
  refine r_iinc C 3 [(3, i9 (v3 + 1)), (2, i9 a3), (0, rf G 174), (1, i9 v1)] dX12_behind_80 rfl (by decide) rfl ?_
  refine r_goto C 32 dX12_behind_83 (by decide) ?_
  refine ss_wide (k' := 0) (n' := 0) (by decide) (by decide) ?_
  refine ss_ls [(0, rf G 174), (1, i9 v1), (2, i9 a3), (3, i9 (v3 + 1))] [2, 3, 1, 0] rfl ?_
  exact hk_X12_behind_174_c32 v1 a3 (v3 + 1) d2
set_option maxRecDepth 100000 in
theorem sb_X12_behind_174_c32 {G : G9} {X : X9} (C : CX G X cX12_behind 4 RX12 [] z_X12_behind_174) (k_X12_behind_174_c32 : Int → Int → Int → D9 → Option R9) (hk_X12_behind_174_c32 : ∀ (v1 v2 v3 : Int) (d : D9), SS G X 4 0 0 32 [(0, rf G 174), (1, i9 v1), (2, i9 v2), (3, i9 v3)] [] d (k_X12_behind_174_c32 v1 v2 v3 d)) : ∀ (v1 v2 v3 : Int) (d : D9), SS G X 4 0 0 32 [(0, rf G 174), (1, i9 v1), (2, i9 v2), (3, i9 v3)] [] d (b_X12_behind_174_c32 k_X12_behind_174_c32 v1 v2 v3 d) := by
  intro v1 v2 v3 d
  unfold b_X12_behind_174_c32
  refine r_iload_n C 3 dX12_behind_32 rfl rfl ?_
  refine r_aload_n C 0 dX12_behind_33 rfl rfl ?_
  refine r_getR C 175 dX12_behind_34 fl_X12_9 la_174 ly_174 rfl rfl ?_
  refine r_iconst C dX12_behind_37 ?_
  refine r_iald C dX12_behind_38 la_175 ly_175 (fun t1 => ?_)
  refine r_icmp_ge C 86 dX12_behind_39 (by decide) (fun _ => ?_) (fun _ => ?_)
  · refine r_aload_n C 0 dX12_behind_86 rfl rfl ?_
    refine r_iload_n C 1 dX12_behind_87 rfl rfl ?_
    refine r_iconst C dX12_behind_88 ?_
    refine r_callV C [i9 1, i9 v1, rf G 174] dX12_behind_89 (t_X12_plan_174 C.h1 C.h2 v1 1 d) mw_X12_485 mv_X12_plan la_174 ly_174 rfl (by decide) (by decide) (by decide) rfl rfl (Nat.le_of_ble_eq_true rfl) (fun r2 d3 => ?_)
    show SS G X 4 _ _ 92 [(0, rf G 174), (1, i9 v1), (2, i9 v2), (3, i9 v3)] [i9 r2] d3 _
    refine r_iload_n C 2 dX12_behind_92 rfl rfl ?_
    refine r_callS C [i9 v2, i9 r2] dX12_behind_93 (t_J6_bitCount_0f7a4 C.h1 C.h2 v2 d3) mw_X12_448 ms_J6_bitCount_0f7a4 (by decide) (by decide) (by decide) rfl rfl (Nat.le_of_ble_eq_true rfl) (fun r4 d5 => ?_)
    show SS G X 4 _ _ 96 [(0, rf G 174), (1, i9 v1), (2, i9 v2), (3, i9 v3)] [i9 r4, i9 r2] d5 _
    refine r_isub C dX12_behind_96 ?_
    exact r_iret C dX12_behind_97 (by decide) (by decide)
  · refine r_aload_n C 0 dX12_behind_42 rfl rfl ?_
    refine r_iload_n C 3 dX12_behind_43 rfl rfl ?_
    refine r_iconst C dX12_behind_44 ?_
    refine r_callV C [i9 1, i9 v3, rf G 174] dX12_behind_45 (t_X12_ofSkin_174 C.h1 C.h2 v3 1 d) mw_X12_124 mv_X12_ofSkin la_174 ly_174 rfl (by decide) (by decide) (by decide) rfl rfl (Nat.le_of_ble_eq_true rfl) (fun r6 d7 => ?_)
    show SS G X 4 _ _ 48 [(0, rf G 174), (1, i9 v1), (2, i9 v2), (3, i9 v3)] [i9 r6] d7 _
    refine r_if_le C (b := 0) 80 dX12_behind_48 (by decide) (fun _ => ?_) (fun _ => ?_)
    · refine r_iinc C 3 [(3, i9 (v3 + 1)), (0, rf G 174), (1, i9 v1), (2, i9 v2)] dX12_behind_80 rfl (by decide) rfl ?_
      refine r_goto C 32 dX12_behind_83 (by decide) ?_
      refine ss_wide (k' := 0) (n' := 0) (by decide) (by decide) ?_
      refine ss_ls [(0, rf G 174), (1, i9 v1), (2, i9 v2), (3, i9 (v3 + 1))] [1, 2, 3, 0] rfl ?_
      exact hk_X12_behind_174_c32 v1 v2 (v3 + 1) d7
    · refine r_aload_n C 0 dX12_behind_51 rfl rfl ?_
      refine r_iload_n C 3 dX12_behind_52 rfl rfl ?_
      refine r_iconst C dX12_behind_53 ?_
      refine r_callV C [i9 4, i9 v3, rf G 174] dX12_behind_54 (t_X12_ofSkin_174 C.h1 C.h2 v3 4 d7) mw_X12_124 mv_X12_ofSkin la_174 ly_174 rfl (by decide) (by decide) (by decide) rfl rfl (Nat.le_of_ble_eq_true rfl) (fun r8 d9 => ?_)
      show SS G X 4 _ _ 57 [(0, rf G 174), (1, i9 v1), (2, i9 v2), (3, i9 v3)] [i9 r8] d9 _
      refine r_if_gt C (b := 0) 69 dX12_behind_57 (by decide) (fun _ => ?_) (fun _ => ?_)
      · refine ss_wide (k' := 0) (n' := 0) (by decide) (by decide) ?_
        refine ss_ls [(0, rf G 174), (1, i9 v1), (2, i9 v2), (3, i9 v3)] [0, 1, 2, 3] rfl ?_
        exact s_X12_behind_174_c69 C k_X12_behind_174_c32 hk_X12_behind_174_c32 v1 v2 v3 d9
      · refine r_aload_n C 0 dX12_behind_60 rfl rfl ?_
        refine r_getR C 188 dX12_behind_61 fl_X12_55 la_174 ly_174 rfl rfl ?_
        refine r_iload_n C 3 dX12_behind_64 rfl rfl ?_
        refine r_zald C dX12_behind_65 la_188 ly_188 (fun t10 => ?_)
        refine r_if_eq C (b := 0) 80 dX12_behind_66 (by decide) (fun _ => ?_) (fun _ => ?_)
        · refine r_iinc C 3 [(3, i9 (v3 + 1)), (0, rf G 174), (1, i9 v1), (2, i9 v2)] dX12_behind_80 rfl (by decide) rfl ?_
          refine r_goto C 32 dX12_behind_83 (by decide) ?_
          refine ss_wide (k' := 0) (n' := 0) (by decide) (by decide) ?_
          refine ss_ls [(0, rf G 174), (1, i9 v1), (2, i9 v2), (3, i9 (v3 + 1))] [1, 2, 3, 0] rfl ?_
          exact hk_X12_behind_174_c32 v1 v2 (v3 + 1) d9
        · refine ss_wide (k' := 0) (n' := 0) (by decide) (by decide) ?_
          refine ss_ls [(0, rf G 174), (1, i9 v1), (2, i9 v2), (3, i9 v3)] [0, 1, 2, 3] rfl ?_
          exact s_X12_behind_174_c69 C k_X12_behind_174_c32 hk_X12_behind_174_c32 v1 v2 v3 d9
theorem s_X12_behind_174_c32 {G : G9} {X : X9} (C : CX G X cX12_behind 4 RX12 [] z_X12_behind_174) : ∀ (v1 v2 v3 : Int) (d : D9), SS G X 4 0 0 32 [(0, rf G 174), (1, i9 v1), (2, i9 v2), (3, i9 v3)] [] d (m_X12_behind_174_c32  v1 v2 v3 d) :=
  fix9_ind (P := fun k => ∀ (v1 v2 v3 : Int) (d : D9), SS G X 4 0 0 32 [(0, rf G 174), (1, i9 v1), (2, i9 v2), (3, i9 v3)] [] d (k v1 v2 v3 d)) (fun _ _ _ _ => ss_none) (fun k hk => sb_X12_behind_174_c32 C k hk) FU
set_option maxRecDepth 100000 in
theorem t_X12_behind_174 {G : G9} {l : Launch} (h1 : va_D (A9 G) (wl G (fun _ _ => 0))) (h2 : l.stackTraces = false) (p1 : Int) (d : D9) : MT G l yX12_behind cX12_behind 4 z_X12_behind_174 [rf G 174, i9 p1] d (m_X12_behind_174 p1 d) := by
  refine mt_of (own := RX12) (by decide) rfl (Nat.le_of_ble_eq_true rfl) h1 h2 [(0, rf G 174), (1, i9 p1)] rfl (fun X hX C => ?_)
  unfold m_X12_behind_174
  refine r_aload_n C 0 dX12_behind_0 rfl rfl ?_
  refine r_iconst C dX12_behind_1 ?_
  refine r_putI C dX12_behind_2 fp_X12_76 la_174 ly_174 rfl (fun d1 => ?_)
  refine r_iload_n C 1 dX12_behind_5 rfl rfl ?_
  refine r_i2l C dX12_behind_6 ?_
  refine r_lconst C dX12_behind_7 (a := 0) rfl ?_
  refine r_ldcL C dX12_behind_8 kc_X12_456 ?_
  refine r_callS C [l9 999, l9 0, l9 (w32 p1)] dX12_behind_11 (t_X12_within C.h1 C.h2 (w32 p1) 0 999 d1) mw_X12_79 ms_X12_within (by decide) (by decide) (by decide) rfl rfl (Nat.le_of_ble_eq_true rfl) (fun r2 d3 => ?_)
  show SS G X 4 _ _ 14 [(0, rf G 174), (1, i9 p1)] [i9 r2] d3 _
  refine r_if_ne C (b := 0) 23 dX12_behind_14 (by decide) (fun _ => ?_) (fun _ => ?_)
  · refine r_aload_n C 0 dX12_behind_23 rfl rfl ?_
    refine r_iload_n C 1 dX12_behind_24 rfl rfl ?_
    refine r_callV C [i9 p1, rf G 174] dX12_behind_25 (t_X12_layFollowed_174 C.h1 C.h2 p1 d3) mw_X12_482 mv_X12_layFollowed la_174 ly_174 rfl (by decide) (by decide) (by decide) rfl rfl (Nat.le_of_ble_eq_true rfl) (fun r4 d5 => ?_)
    show SS G X 4 _ _ 28 [(0, rf G 174), (1, i9 p1)] [] d5 _
    refine r_iconst C dX12_behind_28 ?_
    refine r_istore_n C [(2, i9 0), (0, rf G 174), (1, i9 p1)] dX12_behind_29 rfl (by decide) rfl ?_
    refine r_iconst C dX12_behind_30 ?_
    refine r_istore_n C [(3, i9 0), (2, i9 0), (0, rf G 174), (1, i9 p1)] dX12_behind_31 rfl (by decide) rfl ?_
    refine ss_wide (k' := 0) (n' := 0) (by decide) (by decide) ?_
    refine ss_ls [(0, rf G 174), (1, i9 p1), (2, i9 0), (3, i9 0)] [2, 3, 1, 0] rfl ?_
    exact s_X12_behind_174_c32 C  p1 0 0 d5
  · refine r_aload_n C 0 dX12_behind_17 rfl rfl ?_
    refine r_iconst C dX12_behind_18 ?_
    refine r_callV C [i9 1, rf G 174] dX12_behind_19 (t_X12_fails_174 C.h1 C.h2 1 d3) mw_X12_89 mv_X12_fails la_174 ly_174 rfl (by decide) (by decide) (by decide) rfl rfl (Nat.le_of_ble_eq_true rfl) (fun r6 d7 => ?_)
    show SS G X 4 _ _ 22 [(0, rf G 174), (1, i9 p1)] [i9 r6] d7 _
    exact r_iret C dX12_behind_22 (by decide) (by decide)
theorem dX12_handFault_0 : decode cX12_handFault 0 = .ok (.aload_n 0, 1) := by decide +kernel
theorem dX12_handFault_1 : decode cX12_handFault 1 = .ok (.iload_n 1, 1) := by decide +kernel
theorem dX12_handFault_2 : decode cX12_handFault 2 = .ok (.invokevirtual 95, 3) := by decide +kernel
theorem dX12_handFault_5 : decode cX12_handFault 5 = .ok (.ifCond .ne 7, 3) := by decide +kernel
theorem dX12_handFault_8 : decode cX12_handFault 8 = .ok (.iconst 1, 1) := by decide +kernel
theorem dX12_handFault_9 : decode cX12_handFault 9 = .ok (.goto 17, 3) := by decide +kernel
theorem dX12_handFault_12 : decode cX12_handFault 12 = .ok (.aload_n 0, 1) := by decide +kernel
theorem dX12_handFault_13 : decode cX12_handFault 13 = .ok (.iload_n 1, 1) := by decide +kernel
theorem dX12_handFault_14 : decode cX12_handFault 14 = .ok (.iconst 0, 1) := by decide +kernel
theorem dX12_handFault_15 : decode cX12_handFault 15 = .ok (.invokevirtual 99, 3) := by decide +kernel
theorem dX12_handFault_18 : decode cX12_handFault 18 = .ok (.ifCond .ne 7, 3) := by decide +kernel
theorem dX12_handFault_21 : decode cX12_handFault 21 = .ok (.iconst 0, 1) := by decide +kernel
theorem dX12_handFault_22 : decode cX12_handFault 22 = .ok (.goto 4, 3) := by decide +kernel
theorem dX12_handFault_25 : decode cX12_handFault 25 = .ok (.iconst 2, 1) := by decide +kernel
theorem dX12_handFault_26 : decode cX12_handFault 26 = .ok (.ireturn, 1) := by decide +kernel
abbrev z_X12_handFault_174 : Z9 := (some .int, 1, 0, 0, 3, 46)
def m_X12_handFault_174 (p1 : Int) (d : D9) : Option R9 := cl (m_X12_isPaint_174 p1 d) (fun r1 d2 => if w32 r1 ≠ 0 then cl (m_X12_ofPaint_174 p1 0 d2) (fun r3 d4 => if w32 r3 ≠ 0 then rt 2 d4 else rt 0 d4) else rt 1 d2)
set_option maxRecDepth 100000 in
theorem t_X12_handFault_174 {G : G9} {l : Launch} (h1 : va_D (A9 G) (wl G (fun _ _ => 0))) (h2 : l.stackTraces = false) (p1 : Int) (d : D9) : MT G l yX12_handFault cX12_handFault 2 z_X12_handFault_174 [rf G 174, i9 p1] d (m_X12_handFault_174 p1 d) := by
  refine mt_of (own := RX12) (by decide) rfl (Nat.le_of_ble_eq_true rfl) h1 h2 [(0, rf G 174), (1, i9 p1)] rfl (fun X hX C => ?_)
  unfold m_X12_handFault_174
  refine r_aload_n C 0 dX12_handFault_0 rfl rfl ?_
  refine r_iload_n C 1 dX12_handFault_1 rfl rfl ?_
  refine r_callV C [i9 p1, rf G 174] dX12_handFault_2 (t_X12_isPaint_174 C.h1 C.h2 p1 d) mw_X12_95 mv_X12_isPaint la_174 ly_174 rfl (by decide) (by decide) (by decide) rfl rfl (Nat.le_of_ble_eq_true rfl) (fun r1 d2 => ?_)
  show SS G X 2 _ _ 5 [(0, rf G 174), (1, i9 p1)] [i9 r1] d2 _
  refine r_if_ne C (b := 0) 12 dX12_handFault_5 (by decide) (fun _ => ?_) (fun _ => ?_)
  · refine r_aload_n C 0 dX12_handFault_12 rfl rfl ?_
    refine r_iload_n C 1 dX12_handFault_13 rfl rfl ?_
    refine r_iconst C dX12_handFault_14 ?_
    refine r_callV C [i9 0, i9 p1, rf G 174] dX12_handFault_15 (t_X12_ofPaint_174 C.h1 C.h2 p1 0 d2) mw_X12_99 mv_X12_ofPaint la_174 ly_174 rfl (by decide) (by decide) (by decide) rfl rfl (Nat.le_of_ble_eq_true rfl) (fun r3 d4 => ?_)
    show SS G X 2 _ _ 18 [(0, rf G 174), (1, i9 p1)] [i9 r3] d4 _
    refine r_if_ne C (b := 0) 25 dX12_handFault_18 (by decide) (fun _ => ?_) (fun _ => ?_)
    · refine r_iconst C dX12_handFault_25 ?_
      exact r_iret C dX12_handFault_26 (by decide) (by decide)
    · refine r_iconst C dX12_handFault_21 ?_
      refine r_goto C 26 dX12_handFault_22 (by decide) ?_
      exact r_iret C dX12_handFault_26 (by decide) (by decide)
  · refine r_iconst C dX12_handFault_8 ?_
    refine r_goto C 26 dX12_handFault_9 (by decide) ?_
    exact r_iret C dX12_handFault_26 (by decide) (by decide)
theorem dX12_fingerFault_0 : decode cX12_fingerFault 0 = .ok (.aload_n 0, 1) := by decide +kernel
theorem dX12_fingerFault_1 : decode cX12_fingerFault 1 = .ok (.iload_n 1, 1) := by decide +kernel
theorem dX12_fingerFault_2 : decode cX12_fingerFault 2 = .ok (.invokevirtual 103, 3) := by decide +kernel
theorem dX12_fingerFault_5 : decode cX12_fingerFault 5 = .ok (.ifCond .le 11, 3) := by decide +kernel
theorem dX12_fingerFault_8 : decode cX12_fingerFault 8 = .ok (.aload_n 0, 1) := by decide +kernel
theorem dX12_fingerFault_9 : decode cX12_fingerFault 9 = .ok (.iload_n 1, 1) := by decide +kernel
theorem dX12_fingerFault_10 : decode cX12_fingerFault 10 = .ok (.invokevirtual 103, 3) := by decide +kernel
theorem dX12_fingerFault_13 : decode cX12_fingerFault 13 = .ok (.goto 21, 3) := by decide +kernel
theorem dX12_fingerFault_16 : decode cX12_fingerFault 16 = .ok (.iload_n 2, 1) := by decide +kernel
theorem dX12_fingerFault_17 : decode cX12_fingerFault 17 = .ok (.i2l, 1) := by decide +kernel
theorem dX12_fingerFault_18 : decode cX12_fingerFault 18 = .ok (.iload_n 3, 1) := by decide +kernel
theorem dX12_fingerFault_19 : decode cX12_fingerFault 19 = .ok (.i2l, 1) := by decide +kernel
theorem dX12_fingerFault_20 : decode cX12_fingerFault 20 = .ok (.ldc2_w 403, 3) := by decide +kernel
theorem dX12_fingerFault_23 : decode cX12_fingerFault 23 = .ok (.invokestatic 79, 3) := by decide +kernel
theorem dX12_fingerFault_26 : decode cX12_fingerFault 26 = .ok (.ifCond .eq 7, 3) := by decide +kernel
theorem dX12_fingerFault_29 : decode cX12_fingerFault 29 = .ok (.iconst 0, 1) := by decide +kernel
theorem dX12_fingerFault_30 : decode cX12_fingerFault 30 = .ok (.goto 4, 3) := by decide +kernel
theorem dX12_fingerFault_33 : decode cX12_fingerFault 33 = .ok (.iconst 3, 1) := by decide +kernel
theorem dX12_fingerFault_34 : decode cX12_fingerFault 34 = .ok (.ireturn, 1) := by decide +kernel
abbrev z_X12_fingerFault_174 : Z9 := (some .int, 1, 0, 0, 4, 67)
def m_X12_fingerFault_174 (p1 p2 p3 : Int) (d : D9) : Option R9 := cl (m_X12_handFault_174 p1 d) (fun r1 d2 => if w32 r1 ≤ 0 then cl (m_X12_within (w32 p2) (w32 p3) 4 d2) (fun r3 d4 => if w32 r3 = 0 then rt 3 d4 else rt 0 d4) else cl (m_X12_handFault_174 p1 d2) (fun r5 d6 => rt r5 d6))
set_option maxRecDepth 100000 in
theorem t_X12_fingerFault_174 {G : G9} {l : Launch} (h1 : va_D (A9 G) (wl G (fun _ _ => 0))) (h2 : l.stackTraces = false) (p1 p2 p3 : Int) (d : D9) : MT G l yX12_fingerFault cX12_fingerFault 4 z_X12_fingerFault_174 [rf G 174, i9 p1, i9 p2, i9 p3] d (m_X12_fingerFault_174 p1 p2 p3 d) := by
  refine mt_of (own := RX12) (by decide) rfl (Nat.le_of_ble_eq_true rfl) h1 h2 [(0, rf G 174), (1, i9 p1), (2, i9 p2), (3, i9 p3)] rfl (fun X hX C => ?_)
  unfold m_X12_fingerFault_174
  refine r_aload_n C 0 dX12_fingerFault_0 rfl rfl ?_
  refine r_iload_n C 1 dX12_fingerFault_1 rfl rfl ?_
  refine r_callV C [i9 p1, rf G 174] dX12_fingerFault_2 (t_X12_handFault_174 C.h1 C.h2 p1 d) mw_X12_103 mv_X12_handFault la_174 ly_174 rfl (by decide) (by decide) (by decide) rfl rfl (Nat.le_of_ble_eq_true rfl) (fun r1 d2 => ?_)
  show SS G X 4 _ _ 5 [(0, rf G 174), (1, i9 p1), (2, i9 p2), (3, i9 p3)] [i9 r1] d2 _
  refine r_if_le C (b := 0) 16 dX12_fingerFault_5 (by decide) (fun _ => ?_) (fun _ => ?_)
  · refine r_iload_n C 2 dX12_fingerFault_16 rfl rfl ?_
    refine r_i2l C dX12_fingerFault_17 ?_
    refine r_iload_n C 3 dX12_fingerFault_18 rfl rfl ?_
    refine r_i2l C dX12_fingerFault_19 ?_
    refine r_ldcL C dX12_fingerFault_20 kc_X12_403 ?_
    refine r_callS C [l9 4, l9 (w32 p3), l9 (w32 p2)] dX12_fingerFault_23 (t_X12_within C.h1 C.h2 (w32 p2) (w32 p3) 4 d2) mw_X12_79 ms_X12_within (by decide) (by decide) (by decide) rfl rfl (Nat.le_of_ble_eq_true rfl) (fun r3 d4 => ?_)
    show SS G X 4 _ _ 26 [(0, rf G 174), (1, i9 p1), (2, i9 p2), (3, i9 p3)] [i9 r3] d4 _
    refine r_if_eq C (b := 0) 33 dX12_fingerFault_26 (by decide) (fun _ => ?_) (fun _ => ?_)
    · refine r_iconst C dX12_fingerFault_33 ?_
      exact r_iret C dX12_fingerFault_34 (by decide) (by decide)
    · refine r_iconst C dX12_fingerFault_29 ?_
      refine r_goto C 34 dX12_fingerFault_30 (by decide) ?_
      exact r_iret C dX12_fingerFault_34 (by decide) (by decide)
  · refine r_aload_n C 0 dX12_fingerFault_8 rfl rfl ?_
    refine r_iload_n C 1 dX12_fingerFault_9 rfl rfl ?_
    refine r_callV C [i9 p1, rf G 174] dX12_fingerFault_10 (t_X12_handFault_174 C.h1 C.h2 p1 d2) mw_X12_103 mv_X12_handFault la_174 ly_174 rfl (by decide) (by decide) (by decide) rfl rfl (Nat.le_of_ble_eq_true rfl) (fun r5 d6 => ?_)
    show SS G X 4 _ _ 13 [(0, rf G 174), (1, i9 p1), (2, i9 p2), (3, i9 p3)] [i9 r5] d6 _
    refine r_goto C 34 dX12_fingerFault_13 (by decide) ?_
    exact r_iret C dX12_fingerFault_34 (by decide) (by decide)
theorem dX12_finger_0 : decode cX12_finger 0 = .ok (.aload_n 0, 1) := by decide +kernel
theorem dX12_finger_1 : decode cX12_finger 1 = .ok (.iload_n 1, 1) := by decide +kernel
theorem dX12_finger_2 : decode cX12_finger 2 = .ok (.iconst 3, 1) := by decide +kernel
theorem dX12_finger_3 : decode cX12_finger 3 = .ok (.iload_n 2, 1) := by decide +kernel
theorem dX12_finger_4 : decode cX12_finger 4 = .ok (.iadd, 1) := by decide +kernel
theorem dX12_finger_5 : decode cX12_finger 5 = .ok (.invokevirtual 99, 3) := by decide +kernel
theorem dX12_finger_8 : decode cX12_finger 8 = .ok (.ireturn, 1) := by decide +kernel
abbrev z_X12_finger_174 : Z9 := (some .int, 1, 0, 0, 2, 22)
def m_X12_finger_174 (p1 p2 : Int) (d : D9) : Option R9 := cl (m_X12_ofPaint_174 p1 (3 + p2) d) (fun r1 d2 => rt r1 d2)
set_option maxRecDepth 100000 in
theorem t_X12_finger_174 {G : G9} {l : Launch} (h1 : va_D (A9 G) (wl G (fun _ _ => 0))) (h2 : l.stackTraces = false) (p1 p2 : Int) (d : D9) : MT G l yX12_finger cX12_finger 3 z_X12_finger_174 [rf G 174, i9 p1, i9 p2] d (m_X12_finger_174 p1 p2 d) := by
  refine mt_of (own := RX12) (by decide) rfl (Nat.le_of_ble_eq_true rfl) h1 h2 [(0, rf G 174), (1, i9 p1), (2, i9 p2)] rfl (fun X hX C => ?_)
  unfold m_X12_finger_174
  refine r_aload_n C 0 dX12_finger_0 rfl rfl ?_
  refine r_iload_n C 1 dX12_finger_1 rfl rfl ?_
  refine r_iconst C dX12_finger_2 ?_
  refine r_iload_n C 2 dX12_finger_3 rfl rfl ?_
  refine r_iadd C dX12_finger_4 ?_
  refine r_callV C [i9 (3 + p2), i9 p1, rf G 174] dX12_finger_5 (t_X12_ofPaint_174 C.h1 C.h2 p1 (3 + p2) d) mw_X12_99 mv_X12_ofPaint la_174 ly_174 rfl (by decide) (by decide) (by decide) rfl rfl (Nat.le_of_ble_eq_true rfl) (fun r1 d2 => ?_)
  show SS G X 3 _ _ 8 [(0, rf G 174), (1, i9 p1), (2, i9 p2)] [i9 r1] d2 _
  exact r_iret C dX12_finger_8 (by decide) (by decide)
theorem dX12_ofHand_0 : decode cX12_ofHand 0 = .ok (.aload_n 0, 1) := by decide +kernel
theorem dX12_ofHand_1 : decode cX12_ofHand 1 = .ok (.getfield 9, 3) := by decide +kernel
theorem dX12_ofHand_4 : decode cX12_ofHand 4 = .ok (.sipush 846, 3) := by decide +kernel
theorem dX12_ofHand_7 : decode cX12_ofHand 7 = .ok (.bipush 6, 2) := by decide +kernel
theorem dX12_ofHand_9 : decode cX12_ofHand 9 = .ok (.iload_n 1, 1) := by decide +kernel
theorem dX12_ofHand_10 : decode cX12_ofHand 10 = .ok (.imul, 1) := by decide +kernel
theorem dX12_ofHand_11 : decode cX12_ofHand 11 = .ok (.iadd, 1) := by decide +kernel
theorem dX12_ofHand_12 : decode cX12_ofHand 12 = .ok (.iload_n 2, 1) := by decide +kernel
theorem dX12_ofHand_13 : decode cX12_ofHand 13 = .ok (.iadd, 1) := by decide +kernel
theorem dX12_ofHand_14 : decode cX12_ofHand 14 = .ok (.iaload, 1) := by decide +kernel
theorem dX12_ofHand_15 : decode cX12_ofHand 15 = .ok (.ireturn, 1) := by decide +kernel
abbrev z_X12_ofHand_174 : Z9 := (some .int, 1, 0, 0, 1, 0)
def m_X12_ofHand_174 (p1 p2 : Int) (d : D9) : Option R9 := ld d 175 1604 ((846 + (6 * p1)) + p2) (fun t1 => rt t1 d)
set_option maxRecDepth 100000 in
theorem t_X12_ofHand_174 {G : G9} {l : Launch} (h1 : va_D (A9 G) (wl G (fun _ _ => 0))) (h2 : l.stackTraces = false) (p1 p2 : Int) (d : D9) : MT G l yX12_ofHand cX12_ofHand 3 z_X12_ofHand_174 [rf G 174, i9 p1, i9 p2] d (m_X12_ofHand_174 p1 p2 d) := by
  refine mt_of (own := RX12) (by decide) rfl (Nat.le_of_ble_eq_true rfl) h1 h2 [(0, rf G 174), (1, i9 p1), (2, i9 p2)] rfl (fun X hX C => ?_)
  unfold m_X12_ofHand_174
  refine r_aload_n C 0 dX12_ofHand_0 rfl rfl ?_
  refine r_getR C 175 dX12_ofHand_1 fl_X12_9 la_174 ly_174 rfl rfl ?_
  refine r_sipush C dX12_ofHand_4 rfl ?_
  refine r_bipush C dX12_ofHand_7 rfl ?_
  refine r_iload_n C 1 dX12_ofHand_9 rfl rfl ?_
  refine r_imul C dX12_ofHand_10 ?_
  refine r_iadd C dX12_ofHand_11 ?_
  refine r_iload_n C 2 dX12_ofHand_12 rfl rfl ?_
  refine r_iadd C dX12_ofHand_13 ?_
  refine r_iald C dX12_ofHand_14 la_175 ly_175 (fun t1 => ?_)
  exact r_iret C dX12_ofHand_15 (by decide) (by decide)
theorem dX12_isLike_0 : decode cX12_isLike 0 = .ok (.iconst 1, 1) := by decide +kernel
theorem dX12_isLike_1 : decode cX12_isLike 1 = .ok (.istore 4, 2) := by decide +kernel
theorem dX12_isLike_3 : decode cX12_isLike 3 = .ok (.iconst 0, 1) := by decide +kernel
theorem dX12_isLike_4 : decode cX12_isLike 4 = .ok (.istore 5, 2) := by decide +kernel
theorem dX12_isLike_6 : decode cX12_isLike 6 = .ok (.iload 5, 2) := by decide +kernel
theorem dX12_isLike_8 : decode cX12_isLike 8 = .ok (.iconst 5, 1) := by decide +kernel
theorem dX12_isLike_9 : decode cX12_isLike 9 = .ok (.if_icmp .ge 67, 3) := by decide +kernel
theorem dX12_isLike_12 : decode cX12_isLike 12 = .ok (.iload 4, 2) := by decide +kernel
theorem dX12_isLike_14 : decode cX12_isLike 14 = .ok (.ifCond .eq 62, 3) := by decide +kernel
theorem dX12_isLike_17 : decode cX12_isLike 17 = .ok (.iload 5, 2) := by decide +kernel
theorem dX12_isLike_19 : decode cX12_isLike 19 = .ok (.iload_n 3, 1) := by decide +kernel
theorem dX12_isLike_20 : decode cX12_isLike 20 = .ok (.if_icmp .eq 43, 3) := by decide +kernel
theorem dX12_isLike_23 : decode cX12_isLike 23 = .ok (.aload_n 0, 1) := by decide +kernel
theorem dX12_isLike_24 : decode cX12_isLike 24 = .ok (.iload_n 2, 1) := by decide +kernel
theorem dX12_isLike_25 : decode cX12_isLike 25 = .ok (.iload 5, 2) := by decide +kernel
theorem dX12_isLike_27 : decode cX12_isLike 27 = .ok (.invokevirtual 394, 3) := by decide +kernel
theorem dX12_isLike_30 : decode cX12_isLike 30 = .ok (.ifCond .eq 33, 3) := by decide +kernel
theorem dX12_isLike_33 : decode cX12_isLike 33 = .ok (.aload_n 0, 1) := by decide +kernel
theorem dX12_isLike_34 : decode cX12_isLike 34 = .ok (.iload_n 2, 1) := by decide +kernel
theorem dX12_isLike_35 : decode cX12_isLike 35 = .ok (.iload 5, 2) := by decide +kernel
theorem dX12_isLike_37 : decode cX12_isLike 37 = .ok (.invokevirtual 394, 3) := by decide +kernel
theorem dX12_isLike_40 : decode cX12_isLike 40 = .ok (.aload_n 0, 1) := by decide +kernel
theorem dX12_isLike_41 : decode cX12_isLike 41 = .ok (.iload_n 1, 1) := by decide +kernel
theorem dX12_isLike_42 : decode cX12_isLike 42 = .ok (.iconst 1, 1) := by decide +kernel
theorem dX12_isLike_43 : decode cX12_isLike 43 = .ok (.iload 5, 2) := by decide +kernel
theorem dX12_isLike_45 : decode cX12_isLike 45 = .ok (.iadd, 1) := by decide +kernel
theorem dX12_isLike_46 : decode cX12_isLike 46 = .ok (.invokevirtual 397, 3) := by decide +kernel
theorem dX12_isLike_49 : decode cX12_isLike 49 = .ok (.isub, 1) := by decide +kernel
theorem dX12_isLike_50 : decode cX12_isLike 50 = .ok (.invokestatic 400, 3) := by decide +kernel
theorem dX12_isLike_53 : decode cX12_isLike 53 = .ok (.aload_n 0, 1) := by decide +kernel
theorem dX12_isLike_54 : decode cX12_isLike 54 = .ok (.getfield 9, 3) := by decide +kernel
theorem dX12_isLike_57 : decode cX12_isLike 57 = .ok (.bipush 12, 2) := by decide +kernel
theorem dX12_isLike_59 : decode cX12_isLike 59 = .ok (.iaload, 1) := by decide +kernel
theorem dX12_isLike_60 : decode cX12_isLike 60 = .ok (.if_icmp .gt 7, 3) := by decide +kernel
theorem dX12_isLike_63 : decode cX12_isLike 63 = .ok (.iconst 1, 1) := by decide +kernel
theorem dX12_isLike_64 : decode cX12_isLike 64 = .ok (.goto 4, 3) := by decide +kernel
theorem dX12_isLike_67 : decode cX12_isLike 67 = .ok (.iconst 0, 1) := by decide +kernel
theorem dX12_isLike_68 : decode cX12_isLike 68 = .ok (.istore 4, 2) := by decide +kernel
theorem dX12_isLike_70 : decode cX12_isLike 70 = .ok (.iinc 5 1, 3) := by decide +kernel
theorem dX12_isLike_73 : decode cX12_isLike 73 = .ok (.goto (-67), 3) := by decide +kernel
theorem dX12_isLike_76 : decode cX12_isLike 76 = .ok (.iload 4, 2) := by decide +kernel
theorem dX12_isLike_78 : decode cX12_isLike 78 = .ok (.ireturn, 1) := by decide +kernel
abbrev z_X12_isLike_174 : Z9 := (some .boolean, 1, 0, 0, 3, 60)
def b_X12_isLike_174_c6 (k_X12_isLike_174_c6 : Int → Int → Int → Int → Int → D9 → Option R9) (v1 v2 v3 v4 v5 : Int) (d : D9) : Option R9 := if w32 5 ≤ w32 v5 then rt (v4 % 2) d else if w32 v4 = 0 then rt (v4 % 2) d else if w32 v5 = w32 v3 then k_X12_isLike_174_c6 v1 v2 v3 1 (v5 + 1) d else cl (m_X12_finger_174 v2 v5 d) (fun r1 d2 => if w32 r1 = 0 then k_X12_isLike_174_c6 v1 v2 v3 1 (v5 + 1) d2 else cl (m_X12_finger_174 v2 v5 d2) (fun r3 d4 => cl (m_X12_ofHand_174 v1 (1 + v5) d4) (fun r5 d6 => ld d6 175 1604 12 (fun t7 => if w32 t7 < w32 (abs9 (r3 - r5)) then k_X12_isLike_174_c6 v1 v2 v3 0 (v5 + 1) d6 else k_X12_isLike_174_c6 v1 v2 v3 1 (v5 + 1) d6))))
def m_X12_isLike_174_c6 : Int → Int → Int → Int → Int → D9 → Option R9 := fix9 (fun _ _ _ _ _ _ => none) (fun k => b_X12_isLike_174_c6 k) FU
def m_X12_isLike_174 (p1 p2 p3 : Int) (d : D9) : Option R9 := m_X12_isLike_174_c6  p1 p2 p3 1 0 d
set_option maxRecDepth 100000 in
theorem sb_X12_isLike_174_c6 {G : G9} {X : X9} (C : CX G X cX12_isLike 6 RX12 [] z_X12_isLike_174) (k_X12_isLike_174_c6 : Int → Int → Int → Int → Int → D9 → Option R9) (hk_X12_isLike_174_c6 : ∀ (v1 v2 v3 v4 v5 : Int) (d : D9), SS G X 6 0 0 6 [(0, rf G 174), (1, i9 v1), (2, i9 v2), (3, i9 v3), (4, i9 v4), (5, i9 v5)] [] d (k_X12_isLike_174_c6 v1 v2 v3 v4 v5 d)) : ∀ (v1 v2 v3 v4 v5 : Int) (d : D9), SS G X 6 0 0 6 [(0, rf G 174), (1, i9 v1), (2, i9 v2), (3, i9 v3), (4, i9 v4), (5, i9 v5)] [] d (b_X12_isLike_174_c6 k_X12_isLike_174_c6 v1 v2 v3 v4 v5 d) := by
  intro v1 v2 v3 v4 v5 d
  unfold b_X12_isLike_174_c6
  refine r_iload C 5 dX12_isLike_6 rfl ?_
  refine r_iconst C dX12_isLike_8 ?_
  refine r_icmp_ge C 76 dX12_isLike_9 (by decide) (fun _ => ?_) (fun _ => ?_)
  · refine r_iload C 4 dX12_isLike_76 rfl ?_
    exact r_zret C dX12_isLike_78 (by decide) (by decide)
  · refine r_iload C 4 dX12_isLike_12 rfl ?_
    refine r_if_eq C (b := 0) 76 dX12_isLike_14 (by decide) (fun _ => ?_) (fun _ => ?_)
    · refine r_iload C 4 dX12_isLike_76 rfl ?_
      exact r_zret C dX12_isLike_78 (by decide) (by decide)
    · refine r_iload C 5 dX12_isLike_17 rfl ?_
      refine r_iload_n C 3 dX12_isLike_19 rfl rfl ?_
      refine r_icmp_eq C 63 dX12_isLike_20 (by decide) (fun _ => ?_) (fun _ => ?_)
      · refine r_iconst C dX12_isLike_63 ?_
        refine r_goto C 68 dX12_isLike_64 (by decide) ?_
        refine r_istore C [(4, i9 1), (0, rf G 174), (1, i9 v1), (2, i9 v2), (3, i9 v3), (5, i9 v5)] dX12_isLike_68 (by decide) rfl ?_
        refine r_iinc C 5 [(5, i9 (v5 + 1)), (4, i9 1), (0, rf G 174), (1, i9 v1), (2, i9 v2), (3, i9 v3)] dX12_isLike_70 rfl (by decide) rfl ?_
        refine r_goto C 6 dX12_isLike_73 (by decide) ?_
        refine ss_wide (k' := 0) (n' := 0) (by decide) (by decide) ?_
        refine ss_ls [(0, rf G 174), (1, i9 v1), (2, i9 v2), (3, i9 v3), (4, i9 1), (5, i9 (v5 + 1))] [2, 3, 4, 5, 1, 0] rfl ?_
        exact hk_X12_isLike_174_c6 v1 v2 v3 1 (v5 + 1) d
      · refine r_aload_n C 0 dX12_isLike_23 rfl rfl ?_
        refine r_iload_n C 2 dX12_isLike_24 rfl rfl ?_
        refine r_iload C 5 dX12_isLike_25 rfl ?_
        refine r_callV C [i9 v5, i9 v2, rf G 174] dX12_isLike_27 (t_X12_finger_174 C.h1 C.h2 v2 v5 d) mw_X12_394 mv_X12_finger la_174 ly_174 rfl (by decide) (by decide) (by decide) rfl rfl (Nat.le_of_ble_eq_true rfl) (fun r1 d2 => ?_)
        show SS G X 6 _ _ 30 [(0, rf G 174), (1, i9 v1), (2, i9 v2), (3, i9 v3), (4, i9 v4), (5, i9 v5)] [i9 r1] d2 _
        refine r_if_eq C (b := 0) 63 dX12_isLike_30 (by decide) (fun _ => ?_) (fun _ => ?_)
        · refine r_iconst C dX12_isLike_63 ?_
          refine r_goto C 68 dX12_isLike_64 (by decide) ?_
          refine r_istore C [(4, i9 1), (0, rf G 174), (1, i9 v1), (2, i9 v2), (3, i9 v3), (5, i9 v5)] dX12_isLike_68 (by decide) rfl ?_
          refine r_iinc C 5 [(5, i9 (v5 + 1)), (4, i9 1), (0, rf G 174), (1, i9 v1), (2, i9 v2), (3, i9 v3)] dX12_isLike_70 rfl (by decide) rfl ?_
          refine r_goto C 6 dX12_isLike_73 (by decide) ?_
          refine ss_wide (k' := 0) (n' := 0) (by decide) (by decide) ?_
          refine ss_ls [(0, rf G 174), (1, i9 v1), (2, i9 v2), (3, i9 v3), (4, i9 1), (5, i9 (v5 + 1))] [2, 3, 4, 5, 1, 0] rfl ?_
          exact hk_X12_isLike_174_c6 v1 v2 v3 1 (v5 + 1) d2
        · refine r_aload_n C 0 dX12_isLike_33 rfl rfl ?_
          refine r_iload_n C 2 dX12_isLike_34 rfl rfl ?_
          refine r_iload C 5 dX12_isLike_35 rfl ?_
          refine r_callV C [i9 v5, i9 v2, rf G 174] dX12_isLike_37 (t_X12_finger_174 C.h1 C.h2 v2 v5 d2) mw_X12_394 mv_X12_finger la_174 ly_174 rfl (by decide) (by decide) (by decide) rfl rfl (Nat.le_of_ble_eq_true rfl) (fun r3 d4 => ?_)
          show SS G X 6 _ _ 40 [(0, rf G 174), (1, i9 v1), (2, i9 v2), (3, i9 v3), (4, i9 v4), (5, i9 v5)] [i9 r3] d4 _
          refine r_aload_n C 0 dX12_isLike_40 rfl rfl ?_
          refine r_iload_n C 1 dX12_isLike_41 rfl rfl ?_
          refine r_iconst C dX12_isLike_42 ?_
          refine r_iload C 5 dX12_isLike_43 rfl ?_
          refine r_iadd C dX12_isLike_45 ?_
          refine r_callV C [i9 (1 + v5), i9 v1, rf G 174, i9 r3] dX12_isLike_46 (t_X12_ofHand_174 C.h1 C.h2 v1 (1 + v5) d4) mw_X12_397 mv_X12_ofHand la_174 ly_174 rfl (by decide) (by decide) (by decide) rfl rfl (Nat.le_of_ble_eq_true rfl) (fun r5 d6 => ?_)
          show SS G X 6 _ _ 49 [(0, rf G 174), (1, i9 v1), (2, i9 v2), (3, i9 v3), (4, i9 v4), (5, i9 v5)] [i9 r5, i9 r3] d6 _
          refine r_isub C dX12_isLike_49 ?_
          refine r_mabs C dX12_isLike_50 mm_X12_400 ⟨Nat.le_of_ble_eq_true rfl, Nat.le_of_ble_eq_true rfl⟩ (by decide) (by decide) ?_
          refine r_aload_n C 0 dX12_isLike_53 rfl rfl ?_
          refine r_getR C 175 dX12_isLike_54 fl_X12_9 la_174 ly_174 rfl rfl ?_
          refine r_bipush C dX12_isLike_57 rfl ?_
          refine r_iald C dX12_isLike_59 la_175 ly_175 (fun t7 => ?_)
          refine r_icmp_gt C 67 dX12_isLike_60 (by decide) (fun _ => ?_) (fun _ => ?_)
          · refine r_iconst C dX12_isLike_67 ?_
            refine r_istore C [(4, i9 0), (0, rf G 174), (1, i9 v1), (2, i9 v2), (3, i9 v3), (5, i9 v5)] dX12_isLike_68 (by decide) rfl ?_
            refine r_iinc C 5 [(5, i9 (v5 + 1)), (4, i9 0), (0, rf G 174), (1, i9 v1), (2, i9 v2), (3, i9 v3)] dX12_isLike_70 rfl (by decide) rfl ?_
            refine r_goto C 6 dX12_isLike_73 (by decide) ?_
            refine ss_wide (k' := 0) (n' := 0) (by decide) (by decide) ?_
            refine ss_ls [(0, rf G 174), (1, i9 v1), (2, i9 v2), (3, i9 v3), (4, i9 0), (5, i9 (v5 + 1))] [2, 3, 4, 5, 1, 0] rfl ?_
            exact hk_X12_isLike_174_c6 v1 v2 v3 0 (v5 + 1) d6
          · refine r_iconst C dX12_isLike_63 ?_
            refine r_goto C 68 dX12_isLike_64 (by decide) ?_
            refine r_istore C [(4, i9 1), (0, rf G 174), (1, i9 v1), (2, i9 v2), (3, i9 v3), (5, i9 v5)] dX12_isLike_68 (by decide) rfl ?_
            refine r_iinc C 5 [(5, i9 (v5 + 1)), (4, i9 1), (0, rf G 174), (1, i9 v1), (2, i9 v2), (3, i9 v3)] dX12_isLike_70 rfl (by decide) rfl ?_
            refine r_goto C 6 dX12_isLike_73 (by decide) ?_
            refine ss_wide (k' := 0) (n' := 0) (by decide) (by decide) ?_
            refine ss_ls [(0, rf G 174), (1, i9 v1), (2, i9 v2), (3, i9 v3), (4, i9 1), (5, i9 (v5 + 1))] [2, 3, 4, 5, 1, 0] rfl ?_
            exact hk_X12_isLike_174_c6 v1 v2 v3 1 (v5 + 1) d6
theorem s_X12_isLike_174_c6 {G : G9} {X : X9} (C : CX G X cX12_isLike 6 RX12 [] z_X12_isLike_174) : ∀ (v1 v2 v3 v4 v5 : Int) (d : D9), SS G X 6 0 0 6 [(0, rf G 174), (1, i9 v1), (2, i9 v2), (3, i9 v3), (4, i9 v4), (5, i9 v5)] [] d (m_X12_isLike_174_c6  v1 v2 v3 v4 v5 d) :=
  fix9_ind (P := fun k => ∀ (v1 v2 v3 v4 v5 : Int) (d : D9), SS G X 6 0 0 6 [(0, rf G 174), (1, i9 v1), (2, i9 v2), (3, i9 v3), (4, i9 v4), (5, i9 v5)] [] d (k v1 v2 v3 v4 v5 d)) (fun _ _ _ _ _ _ => ss_none) (fun k hk => sb_X12_isLike_174_c6 C k hk) FU
set_option maxRecDepth 100000 in
theorem t_X12_isLike_174 {G : G9} {l : Launch} (h1 : va_D (A9 G) (wl G (fun _ _ => 0))) (h2 : l.stackTraces = false) (p1 p2 p3 : Int) (d : D9) : MT G l yX12_isLike cX12_isLike 6 z_X12_isLike_174 [rf G 174, i9 p1, i9 p2, i9 p3] d (m_X12_isLike_174 p1 p2 p3 d) := by
  refine mt_of (own := RX12) (by decide) rfl (Nat.le_of_ble_eq_true rfl) h1 h2 [(0, rf G 174), (1, i9 p1), (2, i9 p2), (3, i9 p3)] rfl (fun X hX C => ?_)
  unfold m_X12_isLike_174
  refine r_iconst C dX12_isLike_0 ?_
  refine r_istore C [(4, i9 1), (0, rf G 174), (1, i9 p1), (2, i9 p2), (3, i9 p3)] dX12_isLike_1 (by decide) rfl ?_
  refine r_iconst C dX12_isLike_3 ?_
  refine r_istore C [(5, i9 0), (4, i9 1), (0, rf G 174), (1, i9 p1), (2, i9 p2), (3, i9 p3)] dX12_isLike_4 (by decide) rfl ?_
  refine ss_wide (k' := 0) (n' := 0) (by decide) (by decide) ?_
  refine ss_ls [(0, rf G 174), (1, i9 p1), (2, i9 p2), (3, i9 p3), (4, i9 1), (5, i9 0)] [2, 3, 4, 5, 1, 0] rfl ?_
  exact s_X12_isLike_174_c6 C  p1 p2 p3 1 0 d
theorem dX12_dueOf_0 : decode cX12_dueOf 0 = .ok (.iconst 0, 1) := by decide +kernel
theorem dX12_dueOf_1 : decode cX12_dueOf 1 = .ok (.istore_n 3, 1) := by decide +kernel
theorem dX12_dueOf_2 : decode cX12_dueOf 2 = .ok (.iconst 0, 1) := by decide +kernel
theorem dX12_dueOf_3 : decode cX12_dueOf 3 = .ok (.istore 4, 2) := by decide +kernel
theorem dX12_dueOf_5 : decode cX12_dueOf 5 = .ok (.iconst 0, 1) := by decide +kernel
theorem dX12_dueOf_6 : decode cX12_dueOf 6 = .ok (.istore 5, 2) := by decide +kernel
theorem dX12_dueOf_8 : decode cX12_dueOf 8 = .ok (.iload 5, 2) := by decide +kernel
theorem dX12_dueOf_10 : decode cX12_dueOf 10 = .ok (.aload_n 0, 1) := by decide +kernel
theorem dX12_dueOf_11 : decode cX12_dueOf 11 = .ok (.getfield 9, 3) := by decide +kernel
theorem dX12_dueOf_14 : decode cX12_dueOf 14 = .ok (.iconst 3, 1) := by decide +kernel
theorem dX12_dueOf_15 : decode cX12_dueOf 15 = .ok (.iaload, 1) := by decide +kernel
theorem dX12_dueOf_16 : decode cX12_dueOf 16 = .ok (.if_icmp .ge 40, 3) := by decide +kernel
theorem dX12_dueOf_19 : decode cX12_dueOf 19 = .ok (.aload_n 0, 1) := by decide +kernel
theorem dX12_dueOf_20 : decode cX12_dueOf 20 = .ok (.iload 5, 2) := by decide +kernel
theorem dX12_dueOf_22 : decode cX12_dueOf 22 = .ok (.iload_n 1, 1) := by decide +kernel
theorem dX12_dueOf_23 : decode cX12_dueOf 23 = .ok (.iload_n 2, 1) := by decide +kernel
theorem dX12_dueOf_24 : decode cX12_dueOf 24 = .ok (.invokevirtual 408, 3) := by decide +kernel
theorem dX12_dueOf_27 : decode cX12_dueOf 27 = .ok (.ifCond .ne 6, 3) := by decide +kernel
theorem dX12_dueOf_30 : decode cX12_dueOf 30 = .ok (.goto 20, 3) := by decide +kernel
theorem dX12_dueOf_33 : decode cX12_dueOf 33 = .ok (.iinc 3 1, 3) := by decide +kernel
theorem dX12_dueOf_36 : decode cX12_dueOf 36 = .ok (.iload 4, 2) := by decide +kernel
theorem dX12_dueOf_38 : decode cX12_dueOf 38 = .ok (.aload_n 0, 1) := by decide +kernel
theorem dX12_dueOf_39 : decode cX12_dueOf 39 = .ok (.iload 5, 2) := by decide +kernel
theorem dX12_dueOf_41 : decode cX12_dueOf 41 = .ok (.iconst 1, 1) := by decide +kernel
theorem dX12_dueOf_42 : decode cX12_dueOf 42 = .ok (.iload_n 2, 1) := by decide +kernel
theorem dX12_dueOf_43 : decode cX12_dueOf 43 = .ok (.iadd, 1) := by decide +kernel
theorem dX12_dueOf_44 : decode cX12_dueOf 44 = .ok (.invokevirtual 397, 3) := by decide +kernel
theorem dX12_dueOf_47 : decode cX12_dueOf 47 = .ok (.iadd, 1) := by decide +kernel
theorem dX12_dueOf_48 : decode cX12_dueOf 48 = .ok (.istore 4, 2) := by decide +kernel
theorem dX12_dueOf_50 : decode cX12_dueOf 50 = .ok (.iinc 5 1, 3) := by decide +kernel
theorem dX12_dueOf_53 : decode cX12_dueOf 53 = .ok (.goto (-45), 3) := by decide +kernel
theorem dX12_dueOf_56 : decode cX12_dueOf 56 = .ok (.iload_n 3, 1) := by decide +kernel
theorem dX12_dueOf_57 : decode cX12_dueOf 57 = .ok (.ifCond .ne 7, 3) := by decide +kernel
theorem dX12_dueOf_60 : decode cX12_dueOf 60 = .ok (.iconst (-1), 1) := by decide +kernel
theorem dX12_dueOf_61 : decode cX12_dueOf 61 = .ok (.goto 7, 3) := by decide +kernel
theorem dX12_dueOf_64 : decode cX12_dueOf 64 = .ok (.iload 4, 2) := by decide +kernel
theorem dX12_dueOf_66 : decode cX12_dueOf 66 = .ok (.iload_n 3, 1) := by decide +kernel
theorem dX12_dueOf_67 : decode cX12_dueOf 67 = .ok (.idiv, 1) := by decide +kernel
theorem dX12_dueOf_68 : decode cX12_dueOf 68 = .ok (.ireturn, 1) := by decide +kernel
abbrev z_X12_dueOf_174 : Z9 := (some .int, 1, 0, 0, 4, 85)
def b_X12_dueOf_174_c8 (k_X12_dueOf_174_c8 : Int → Int → Int → Int → Int → D9 → Option R9) (v1 v2 v3 v4 v5 : Int) (d : D9) : Option R9 := ld d 175 1604 3 (fun t1 => if w32 t1 ≤ w32 v5 then if w32 v3 ≠ 0 then dv v3 (rt (div9 v4 v3) d) else rt (-1) d else cl (m_X12_isLike_174 v5 v1 v2 d) (fun r3 d4 => if w32 r3 ≠ 0 then cl (m_X12_ofHand_174 v5 (1 + v2) d4) (fun r5 d6 => lt9v (v4 + r5) (fun a7 => k_X12_dueOf_174_c8 v1 v2 (v3 + 1) a7 (v5 + 1) d6)) else k_X12_dueOf_174_c8 v1 v2 v3 v4 (v5 + 1) d4))
def m_X12_dueOf_174_c8 : Int → Int → Int → Int → Int → D9 → Option R9 := fix9 (fun _ _ _ _ _ _ => none) (fun k => b_X12_dueOf_174_c8 k) FU
def m_X12_dueOf_174 (p1 p2 : Int) (d : D9) : Option R9 := m_X12_dueOf_174_c8  p1 p2 0 0 0 d
set_option maxRecDepth 100000 in
theorem sb_X12_dueOf_174_c8 {G : G9} {X : X9} (C : CX G X cX12_dueOf 6 RX12 [] z_X12_dueOf_174) (k_X12_dueOf_174_c8 : Int → Int → Int → Int → Int → D9 → Option R9) (hk_X12_dueOf_174_c8 : ∀ (v1 v2 v3 v4 v5 : Int) (d : D9), SS G X 6 0 0 8 [(0, rf G 174), (1, i9 v1), (2, i9 v2), (3, i9 v3), (4, i9 v4), (5, i9 v5)] [] d (k_X12_dueOf_174_c8 v1 v2 v3 v4 v5 d)) : ∀ (v1 v2 v3 v4 v5 : Int) (d : D9), SS G X 6 0 0 8 [(0, rf G 174), (1, i9 v1), (2, i9 v2), (3, i9 v3), (4, i9 v4), (5, i9 v5)] [] d (b_X12_dueOf_174_c8 k_X12_dueOf_174_c8 v1 v2 v3 v4 v5 d) := by
  intro v1 v2 v3 v4 v5 d
  unfold b_X12_dueOf_174_c8
  refine r_iload C 5 dX12_dueOf_8 rfl ?_
  refine r_aload_n C 0 dX12_dueOf_10 rfl rfl ?_
  refine r_getR C 175 dX12_dueOf_11 fl_X12_9 la_174 ly_174 rfl rfl ?_
  refine r_iconst C dX12_dueOf_14 ?_
  refine r_iald C dX12_dueOf_15 la_175 ly_175 (fun t1 => ?_)
  refine r_icmp_ge C 56 dX12_dueOf_16 (by decide) (fun _ => ?_) (fun _ => ?_)
  · refine r_iload_n C 3 dX12_dueOf_56 rfl rfl ?_
    refine r_if_ne C (b := 0) 64 dX12_dueOf_57 (by decide) (fun _ => ?_) (fun _ => ?_)
    · refine r_iload C 4 dX12_dueOf_64 rfl ?_
      refine r_iload_n C 3 dX12_dueOf_66 rfl rfl ?_
      refine ss_dv (fun h2 => ?_)
      refine r_idiv C dX12_dueOf_67 h2 ?_
      exact r_iret C dX12_dueOf_68 (by decide) (by decide)
    · refine r_iconst C dX12_dueOf_60 ?_
      refine r_goto C 68 dX12_dueOf_61 (by decide) ?_
      exact r_iret C dX12_dueOf_68 (by decide) (by decide)
  · refine r_aload_n C 0 dX12_dueOf_19 rfl rfl ?_
    refine r_iload C 5 dX12_dueOf_20 rfl ?_
    refine r_iload_n C 1 dX12_dueOf_22 rfl rfl ?_
    refine r_iload_n C 2 dX12_dueOf_23 rfl rfl ?_
    refine r_callV C [i9 v2, i9 v1, i9 v5, rf G 174] dX12_dueOf_24 (t_X12_isLike_174 C.h1 C.h2 v5 v1 v2 d) mw_X12_408 mv_X12_isLike la_174 ly_174 rfl (by decide) (by decide) (by decide) rfl rfl (Nat.le_of_ble_eq_true rfl) (fun r3 d4 => ?_)
    show SS G X 6 _ _ 27 [(0, rf G 174), (1, i9 v1), (2, i9 v2), (3, i9 v3), (4, i9 v4), (5, i9 v5)] [i9 r3] d4 _
    refine r_if_ne C (b := 0) 33 dX12_dueOf_27 (by decide) (fun _ => ?_) (fun _ => ?_)
    · refine r_iinc C 3 [(3, i9 (v3 + 1)), (0, rf G 174), (1, i9 v1), (2, i9 v2), (4, i9 v4), (5, i9 v5)] dX12_dueOf_33 rfl (by decide) rfl ?_
      refine r_iload C 4 dX12_dueOf_36 rfl ?_
      refine r_aload_n C 1 dX12_dueOf_38 rfl rfl ?_
      refine r_iload C 5 dX12_dueOf_39 rfl ?_
      refine r_iconst C dX12_dueOf_41 ?_
      refine r_iload_n C 3 dX12_dueOf_42 rfl rfl ?_
      refine r_iadd C dX12_dueOf_43 ?_
      refine r_callV C [i9 (1 + v2), i9 v5, rf G 174, i9 v4] dX12_dueOf_44 (t_X12_ofHand_174 C.h1 C.h2 v5 (1 + v2) d4) mw_X12_397 mv_X12_ofHand la_174 ly_174 rfl (by decide) (by decide) (by decide) rfl rfl (Nat.le_of_ble_eq_true rfl) (fun r5 d6 => ?_)
      show SS G X 6 _ _ 47 [(3, i9 (v3 + 1)), (0, rf G 174), (1, i9 v1), (2, i9 v2), (4, i9 v4), (5, i9 v5)] [i9 r5, i9 v4] d6 _
      refine r_iadd C dX12_dueOf_47 ?_
      refine ss_lt (fun a7 => ?_)
      refine r_istore C [(4, i9 a7), (3, i9 (v3 + 1)), (0, rf G 174), (1, i9 v1), (2, i9 v2), (5, i9 v5)] dX12_dueOf_48 (by decide) rfl ?_
      refine r_iinc C 5 [(5, i9 (v5 + 1)), (4, i9 a7), (3, i9 (v3 + 1)), (0, rf G 174), (1, i9 v1), (2, i9 v2)] dX12_dueOf_50 rfl (by decide) rfl ?_
      refine r_goto C 8 dX12_dueOf_53 (by decide) ?_
      refine ss_wide (k' := 0) (n' := 0) (by decide) (by decide) ?_
      refine ss_ls [(0, rf G 174), (1, i9 v1), (2, i9 v2), (3, i9 (v3 + 1)), (4, i9 a7), (5, i9 (v5 + 1))] [3, 4, 5, 2, 1, 0] rfl ?_
      exact hk_X12_dueOf_174_c8 v1 v2 (v3 + 1) a7 (v5 + 1) d6
    · refine r_goto C 50 dX12_dueOf_30 (by decide) ?_
      refine r_iinc C 5 [(5, i9 (v5 + 1)), (0, rf G 174), (1, i9 v1), (2, i9 v2), (3, i9 v3), (4, i9 v4)] dX12_dueOf_50 rfl (by decide) rfl ?_
      refine r_goto C 8 dX12_dueOf_53 (by decide) ?_
      refine ss_wide (k' := 0) (n' := 0) (by decide) (by decide) ?_
      refine ss_ls [(0, rf G 174), (1, i9 v1), (2, i9 v2), (3, i9 v3), (4, i9 v4), (5, i9 (v5 + 1))] [1, 2, 3, 4, 5, 0] rfl ?_
      exact hk_X12_dueOf_174_c8 v1 v2 v3 v4 (v5 + 1) d4
theorem s_X12_dueOf_174_c8 {G : G9} {X : X9} (C : CX G X cX12_dueOf 6 RX12 [] z_X12_dueOf_174) : ∀ (v1 v2 v3 v4 v5 : Int) (d : D9), SS G X 6 0 0 8 [(0, rf G 174), (1, i9 v1), (2, i9 v2), (3, i9 v3), (4, i9 v4), (5, i9 v5)] [] d (m_X12_dueOf_174_c8  v1 v2 v3 v4 v5 d) :=
  fix9_ind (P := fun k => ∀ (v1 v2 v3 v4 v5 : Int) (d : D9), SS G X 6 0 0 8 [(0, rf G 174), (1, i9 v1), (2, i9 v2), (3, i9 v3), (4, i9 v4), (5, i9 v5)] [] d (k v1 v2 v3 v4 v5 d)) (fun _ _ _ _ _ _ => ss_none) (fun k hk => sb_X12_dueOf_174_c8 C k hk) FU
set_option maxRecDepth 100000 in
theorem t_X12_dueOf_174 {G : G9} {l : Launch} (h1 : va_D (A9 G) (wl G (fun _ _ => 0))) (h2 : l.stackTraces = false) (p1 p2 : Int) (d : D9) : MT G l yX12_dueOf cX12_dueOf 6 z_X12_dueOf_174 [rf G 174, i9 p1, i9 p2] d (m_X12_dueOf_174 p1 p2 d) := by
  refine mt_of (own := RX12) (by decide) rfl (Nat.le_of_ble_eq_true rfl) h1 h2 [(0, rf G 174), (1, i9 p1), (2, i9 p2)] rfl (fun X hX C => ?_)
  unfold m_X12_dueOf_174
  refine r_iconst C dX12_dueOf_0 ?_
  refine r_istore_n C [(3, i9 0), (0, rf G 174), (1, i9 p1), (2, i9 p2)] dX12_dueOf_1 rfl (by decide) rfl ?_
  refine r_iconst C dX12_dueOf_2 ?_
  refine r_istore C [(4, i9 0), (3, i9 0), (0, rf G 174), (1, i9 p1), (2, i9 p2)] dX12_dueOf_3 (by decide) rfl ?_
  refine r_iconst C dX12_dueOf_5 ?_
  refine r_istore C [(5, i9 0), (4, i9 0), (3, i9 0), (0, rf G 174), (1, i9 p1), (2, i9 p2)] dX12_dueOf_6 (by decide) rfl ?_
  refine ss_wide (k' := 0) (n' := 0) (by decide) (by decide) ?_
  refine ss_ls [(0, rf G 174), (1, i9 p1), (2, i9 p2), (3, i9 0), (4, i9 0), (5, i9 0)] [3, 4, 5, 2, 1, 0] rfl ?_
  exact s_X12_dueOf_174_c8 C  p1 p2 0 0 0 d
theorem dX12_isStump_0 : decode cX12_isStump 0 = .ok (.iconst 2, 1) := by decide +kernel
theorem dX12_isStump_1 : decode cX12_isStump 1 = .ok (.aload_n 0, 1) := by decide +kernel
theorem dX12_isStump_2 : decode cX12_isStump 2 = .ok (.iload_n 1, 1) := by decide +kernel
theorem dX12_isStump_3 : decode cX12_isStump 3 = .ok (.iload_n 2, 1) := by decide +kernel
theorem dX12_isStump_4 : decode cX12_isStump 4 = .ok (.invokevirtual 394, 3) := by decide +kernel
theorem dX12_isStump_7 : decode cX12_isStump 7 = .ok (.imul, 1) := by decide +kernel
theorem dX12_isStump_8 : decode cX12_isStump 8 = .ok (.aload_n 0, 1) := by decide +kernel
theorem dX12_isStump_9 : decode cX12_isStump 9 = .ok (.iload_n 1, 1) := by decide +kernel
theorem dX12_isStump_10 : decode cX12_isStump 10 = .ok (.iload_n 2, 1) := by decide +kernel
theorem dX12_isStump_11 : decode cX12_isStump 11 = .ok (.invokevirtual 421, 3) := by decide +kernel
theorem dX12_isStump_14 : decode cX12_isStump 14 = .ok (.if_icmp .ge 7, 3) := by decide +kernel
theorem dX12_isStump_17 : decode cX12_isStump 17 = .ok (.iconst 1, 1) := by decide +kernel
theorem dX12_isStump_18 : decode cX12_isStump 18 = .ok (.goto 4, 3) := by decide +kernel
theorem dX12_isStump_21 : decode cX12_isStump 21 = .ok (.iconst 0, 1) := by decide +kernel
theorem dX12_isStump_22 : decode cX12_isStump 22 = .ok (.ireturn, 1) := by decide +kernel
abbrev z_X12_isStump_174 : Z9 := (some .boolean, 1, 0, 0, 5, 110)
def m_X12_isStump_174 (p1 p2 : Int) (d : D9) : Option R9 := cl (m_X12_finger_174 p1 p2 d) (fun r1 d2 => cl (m_X12_dueOf_174 p1 p2 d2) (fun r3 d4 => if w32 r3 ≤ w32 (2 * r1) then rt (0 % 2) d4 else rt (1 % 2) d4))
set_option maxRecDepth 100000 in
theorem t_X12_isStump_174 {G : G9} {l : Launch} (h1 : va_D (A9 G) (wl G (fun _ _ => 0))) (h2 : l.stackTraces = false) (p1 p2 : Int) (d : D9) : MT G l yX12_isStump cX12_isStump 3 z_X12_isStump_174 [rf G 174, i9 p1, i9 p2] d (m_X12_isStump_174 p1 p2 d) := by
  refine mt_of (own := RX12) (by decide) rfl (Nat.le_of_ble_eq_true rfl) h1 h2 [(0, rf G 174), (1, i9 p1), (2, i9 p2)] rfl (fun X hX C => ?_)
  unfold m_X12_isStump_174
  refine r_iconst C dX12_isStump_0 ?_
  refine r_aload_n C 0 dX12_isStump_1 rfl rfl ?_
  refine r_iload_n C 1 dX12_isStump_2 rfl rfl ?_
  refine r_iload_n C 2 dX12_isStump_3 rfl rfl ?_
  refine r_callV C [i9 p2, i9 p1, rf G 174, i9 2] dX12_isStump_4 (t_X12_finger_174 C.h1 C.h2 p1 p2 d) mw_X12_394 mv_X12_finger la_174 ly_174 rfl (by decide) (by decide) (by decide) rfl rfl (Nat.le_of_ble_eq_true rfl) (fun r1 d2 => ?_)
  show SS G X 3 _ _ 7 [(0, rf G 174), (1, i9 p1), (2, i9 p2)] [i9 r1, i9 2] d2 _
  refine r_imul C dX12_isStump_7 ?_
  refine r_aload_n C 0 dX12_isStump_8 rfl rfl ?_
  refine r_iload_n C 1 dX12_isStump_9 rfl rfl ?_
  refine r_iload_n C 2 dX12_isStump_10 rfl rfl ?_
  refine r_callV C [i9 p2, i9 p1, rf G 174, i9 (2 * r1)] dX12_isStump_11 (t_X12_dueOf_174 C.h1 C.h2 p1 p2 d2) mw_X12_421 mv_X12_dueOf la_174 ly_174 rfl (by decide) (by decide) (by decide) rfl rfl (Nat.le_of_ble_eq_true rfl) (fun r3 d4 => ?_)
  show SS G X 3 _ _ 14 [(0, rf G 174), (1, i9 p1), (2, i9 p2)] [i9 r3, i9 (2 * r1)] d4 _
  refine r_icmp_ge C 21 dX12_isStump_14 (by decide) (fun _ => ?_) (fun _ => ?_)
  · refine r_iconst C dX12_isStump_21 ?_
    exact r_zret C dX12_isStump_22 (by decide) (by decide)
  · refine r_iconst C dX12_isStump_17 ?_
    refine r_goto C 22 dX12_isStump_18 (by decide) ?_
    exact r_zret C dX12_isStump_22 (by decide) (by decide)
theorem dX12_fraction_0 : decode cX12_fraction 0 = .ok (.lload_n 1, 1) := by decide +kernel
theorem dX12_fraction_1 : decode cX12_fraction 1 = .ok (.lstore 5, 2) := by decide +kernel
theorem dX12_fraction_3 : decode cX12_fraction 3 = .ok (.lload_n 3, 1) := by decide +kernel
theorem dX12_fraction_4 : decode cX12_fraction 4 = .ok (.lstore 7, 2) := by decide +kernel
theorem dX12_fraction_6 : decode cX12_fraction 6 = .ok (.lload 7, 2) := by decide +kernel
theorem dX12_fraction_8 : decode cX12_fraction 8 = .ok (.lconst 0, 1) := by decide +kernel
theorem dX12_fraction_9 : decode cX12_fraction 9 = .ok (.lcmp, 1) := by decide +kernel
theorem dX12_fraction_10 : decode cX12_fraction 10 = .ok (.ifCond .eq 21, 3) := by decide +kernel
theorem dX12_fraction_13 : decode cX12_fraction 13 = .ok (.lload 5, 2) := by decide +kernel
theorem dX12_fraction_15 : decode cX12_fraction 15 = .ok (.lload 7, 2) := by decide +kernel
theorem dX12_fraction_17 : decode cX12_fraction 17 = .ok (.lrem, 1) := by decide +kernel
theorem dX12_fraction_18 : decode cX12_fraction 18 = .ok (.lstore 9, 2) := by decide +kernel
theorem dX12_fraction_20 : decode cX12_fraction 20 = .ok (.lload 7, 2) := by decide +kernel
theorem dX12_fraction_22 : decode cX12_fraction 22 = .ok (.lstore 5, 2) := by decide +kernel
theorem dX12_fraction_24 : decode cX12_fraction 24 = .ok (.lload 9, 2) := by decide +kernel
theorem dX12_fraction_26 : decode cX12_fraction 26 = .ok (.lstore 7, 2) := by decide +kernel
theorem dX12_fraction_28 : decode cX12_fraction 28 = .ok (.goto (-22), 3) := by decide +kernel
theorem dX12_fraction_31 : decode cX12_fraction 31 = .ok (.aload_n 0, 1) := by decide +kernel
theorem dX12_fraction_32 : decode cX12_fraction 32 = .ok (.lload_n 1, 1) := by decide +kernel
theorem dX12_fraction_33 : decode cX12_fraction 33 = .ok (.lload 5, 2) := by decide +kernel
theorem dX12_fraction_35 : decode cX12_fraction 35 = .ok (.ldiv, 1) := by decide +kernel
theorem dX12_fraction_36 : decode cX12_fraction 36 = .ok (.putfield 337, 3) := by decide +kernel
theorem dX12_fraction_39 : decode cX12_fraction 39 = .ok (.aload_n 0, 1) := by decide +kernel
theorem dX12_fraction_40 : decode cX12_fraction 40 = .ok (.lload_n 3, 1) := by decide +kernel
theorem dX12_fraction_41 : decode cX12_fraction 41 = .ok (.lload 5, 2) := by decide +kernel
theorem dX12_fraction_43 : decode cX12_fraction 43 = .ok (.ldiv, 1) := by decide +kernel
theorem dX12_fraction_44 : decode cX12_fraction 44 = .ok (.putfield 341, 3) := by decide +kernel
theorem dX12_fraction_47 : decode cX12_fraction 47 = .ok (.iconst 1, 1) := by decide +kernel
theorem dX12_fraction_48 : decode cX12_fraction 48 = .ok (.ireturn, 1) := by decide +kernel
abbrev z_X12_fraction_174 : Z9 := (some .boolean, 1, 0, 0, 1, 0)
def b_X12_fraction_174_c6 (k_X12_fraction_174_c6 : Int → Int → Int → Int → D9 → Option R9) (v1 v3 v5 v7 : Int) (d : D9) : Option R9 := if w64 v7 = w64 0 then dvL v5 (pf d 174 20 (divL v1 v5) (fun d2 => dvL v5 (pf d2 174 21 (divL v3 v5) (fun d4 => rt (1 % 2) d4)))) else dvL v7 (lt9v (remL v5 v7) (fun a6 => k_X12_fraction_174_c6 v1 v3 v7 a6 d))
def m_X12_fraction_174_c6 : Int → Int → Int → Int → D9 → Option R9 := fix9 (fun _ _ _ _ _ => none) (fun k => b_X12_fraction_174_c6 k) FU
def m_X12_fraction_174 (p1 p2 : Int) (d : D9) : Option R9 := m_X12_fraction_174_c6  p1 p2 p1 p2 d
set_option maxRecDepth 100000 in
theorem sb_X12_fraction_174_c6 {G : G9} {X : X9} (C : CX G X cX12_fraction 11 RX12 [] z_X12_fraction_174) (k_X12_fraction_174_c6 : Int → Int → Int → Int → D9 → Option R9) (hk_X12_fraction_174_c6 : ∀ (v1 v3 v5 v7 : Int) (d : D9), SS G X 11 0 0 6 [(0, rf G 174), (1, l9 v1), (3, l9 v3), (5, l9 v5), (7, l9 v7)] [] d (k_X12_fraction_174_c6 v1 v3 v5 v7 d)) : ∀ (v1 v3 v5 v7 : Int) (d : D9), SS G X 11 0 0 6 [(0, rf G 174), (1, l9 v1), (3, l9 v3), (5, l9 v5), (7, l9 v7)] [] d (b_X12_fraction_174_c6 k_X12_fraction_174_c6 v1 v3 v5 v7 d) := by
  intro v1 v3 v5 v7 d
  unfold b_X12_fraction_174_c6
  refine r_lload C 4 dX12_fraction_6 rfl ?_
  refine r_lconst C dX12_fraction_8 (a := 0) rfl ?_
  refine r_lcmp_eq C 31 dX12_fraction_9 dX12_fraction_10 (by decide) (fun _ => ?_) (fun _ => ?_)
  · refine r_aload_n C 0 dX12_fraction_31 rfl rfl ?_
    refine r_lload_n C 1 dX12_fraction_32 rfl rfl ?_
    refine r_lload C 3 dX12_fraction_33 rfl ?_
    refine ss_dvL (fun h1 => ?_)
    refine r_ldiv C dX12_fraction_35 h1 ?_
    refine r_putL C dX12_fraction_36 fp_X12_337 la_174 ly_174 rfl (fun d2 => ?_)
    refine r_aload_n C 0 dX12_fraction_39 rfl rfl ?_
    refine r_lload_n C 2 dX12_fraction_40 rfl rfl ?_
    refine r_lload C 3 dX12_fraction_41 rfl ?_
    refine ss_dvL (fun h3 => ?_)
    refine r_ldiv C dX12_fraction_43 h3 ?_
    refine r_putL C dX12_fraction_44 fp_X12_341 la_174 ly_174 rfl (fun d4 => ?_)
    refine r_iconst C dX12_fraction_47 ?_
    exact r_zret C dX12_fraction_48 (by decide) (by decide)
  · refine r_lload C 3 dX12_fraction_13 rfl ?_
    refine r_lload C 4 dX12_fraction_15 rfl ?_
    refine ss_dvL (fun h5 => ?_)
    refine r_lrem C dX12_fraction_17 h5 ?_
    refine ss_ltL (fun a6 => ?_)
    refine r_lstore C [(9, l9 a6), (0, rf G 174), (1, l9 v1), (3, l9 v3), (5, l9 v5), (7, l9 v7)] dX12_fraction_18 (by decide) rfl ?_
    refine r_lload C 5 dX12_fraction_20 rfl ?_
    refine r_lstore C [(5, l9 v7), (9, l9 a6), (0, rf G 174), (1, l9 v1), (3, l9 v3), (7, l9 v7)] dX12_fraction_22 (by decide) rfl ?_
    refine r_lload C 1 dX12_fraction_24 rfl ?_
    refine r_lstore C [(7, l9 a6), (5, l9 v7), (9, l9 a6), (0, rf G 174), (1, l9 v1), (3, l9 v3)] dX12_fraction_26 (by decide) rfl ?_
    refine r_goto C 6 dX12_fraction_28 (by decide) ?_
    refine ss_wide (k' := 0) (n' := 0) (by decide) (by decide) ?_
    refine ss_ls [(0, rf G 174), (1, l9 v1), (3, l9 v3), (5, l9 v7), (7, l9 a6)] [3, 4, 5, 1, 0] rfl ?_
    exact hk_X12_fraction_174_c6 v1 v3 v7 a6 d
theorem s_X12_fraction_174_c6 {G : G9} {X : X9} (C : CX G X cX12_fraction 11 RX12 [] z_X12_fraction_174) : ∀ (v1 v3 v5 v7 : Int) (d : D9), SS G X 11 0 0 6 [(0, rf G 174), (1, l9 v1), (3, l9 v3), (5, l9 v5), (7, l9 v7)] [] d (m_X12_fraction_174_c6  v1 v3 v5 v7 d) :=
  fix9_ind (P := fun k => ∀ (v1 v3 v5 v7 : Int) (d : D9), SS G X 11 0 0 6 [(0, rf G 174), (1, l9 v1), (3, l9 v3), (5, l9 v5), (7, l9 v7)] [] d (k v1 v3 v5 v7 d)) (fun _ _ _ _ _ => ss_none) (fun k hk => sb_X12_fraction_174_c6 C k hk) FU
set_option maxRecDepth 100000 in
theorem t_X12_fraction_174 {G : G9} {l : Launch} (h1 : va_D (A9 G) (wl G (fun _ _ => 0))) (h2 : l.stackTraces = false) (p1 p2 : Int) (d : D9) : MT G l yX12_fraction cX12_fraction 11 z_X12_fraction_174 [rf G 174, l9 p1, l9 p2] d (m_X12_fraction_174 p1 p2 d) := by
  refine mt_of (own := RX12) (by decide) rfl (Nat.le_of_ble_eq_true rfl) h1 h2 [(0, rf G 174), (1, l9 p1), (3, l9 p2)] rfl (fun X hX C => ?_)
  unfold m_X12_fraction_174
  refine r_lload_n C 1 dX12_fraction_0 rfl rfl ?_
  refine r_lstore C [(5, l9 p1), (0, rf G 174), (1, l9 p1), (3, l9 p2)] dX12_fraction_1 (by decide) rfl ?_
  refine r_lload_n C 3 dX12_fraction_3 rfl rfl ?_
  refine r_lstore C [(7, l9 p2), (5, l9 p1), (0, rf G 174), (1, l9 p1), (3, l9 p2)] dX12_fraction_4 (by decide) rfl ?_
  refine ss_wide (k' := 0) (n' := 0) (by decide) (by decide) ?_
  refine ss_ls [(0, rf G 174), (1, l9 p1), (3, l9 p2), (5, l9 p1), (7, l9 p2)] [2, 3, 4, 1, 0] rfl ?_
  exact s_X12_fraction_174_c6 C  p1 p2 p1 p2 d
theorem dX12_nothing_0 : decode cX12_nothing 0 = .ok (.aload_n 0, 1) := by decide +kernel
theorem dX12_nothing_1 : decode cX12_nothing 1 = .ok (.lconst 0, 1) := by decide +kernel
theorem dX12_nothing_2 : decode cX12_nothing 2 = .ok (.putfield 337, 3) := by decide +kernel
theorem dX12_nothing_5 : decode cX12_nothing 5 = .ok (.aload_n 0, 1) := by decide +kernel
theorem dX12_nothing_6 : decode cX12_nothing 6 = .ok (.lconst 0, 1) := by decide +kernel
theorem dX12_nothing_7 : decode cX12_nothing 7 = .ok (.putfield 341, 3) := by decide +kernel
theorem dX12_nothing_10 : decode cX12_nothing 10 = .ok (.iconst 0, 1) := by decide +kernel
theorem dX12_nothing_11 : decode cX12_nothing 11 = .ok (.ireturn, 1) := by decide +kernel
abbrev z_X12_nothing_174 : Z9 := (some .boolean, 1, 0, 0, 1, 0)
def m_X12_nothing_174 (d : D9) : Option R9 := pf d 174 20 0 (fun d1 => pf d1 174 21 0 (fun d2 => rt (0 % 2) d2))
set_option maxRecDepth 100000 in
theorem t_X12_nothing_174 {G : G9} {l : Launch} (h1 : va_D (A9 G) (wl G (fun _ _ => 0))) (h2 : l.stackTraces = false) (d : D9) : MT G l yX12_nothing cX12_nothing 1 z_X12_nothing_174 [rf G 174] d (m_X12_nothing_174  d) := by
  refine mt_of (own := RX12) (by decide) rfl (Nat.le_of_ble_eq_true rfl) h1 h2 [(0, rf G 174)] rfl (fun X hX C => ?_)
  unfold m_X12_nothing_174
  refine r_aload_n C 0 dX12_nothing_0 rfl rfl ?_
  refine r_lconst C dX12_nothing_1 (a := 0) rfl ?_
  refine r_putL C dX12_nothing_2 fp_X12_337 la_174 ly_174 rfl (fun d1 => ?_)
  refine r_aload_n C 0 dX12_nothing_5 rfl rfl ?_
  refine r_lconst C dX12_nothing_6 (a := 0) rfl ?_
  refine r_putL C dX12_nothing_7 fp_X12_341 la_174 ly_174 rfl (fun d2 => ?_)
  refine r_iconst C dX12_nothing_10 ?_
  exact r_zret C dX12_nothing_11 (by decide) (by decide)
theorem dX12_bent_0 : decode cX12_bent 0 = .ok (.aload_n 0, 1) := by decide +kernel
theorem dX12_bent_1 : decode cX12_bent 1 = .ok (.aload_n 0, 1) := by decide +kernel
theorem dX12_bent_2 : decode cX12_bent 2 = .ok (.iload_n 1, 1) := by decide +kernel
theorem dX12_bent_3 : decode cX12_bent 3 = .ok (.iload_n 2, 1) := by decide +kernel
theorem dX12_bent_4 : decode cX12_bent 4 = .ok (.iconst 0, 1) := by decide +kernel
theorem dX12_bent_5 : decode cX12_bent 5 = .ok (.invokevirtual 405, 3) := by decide +kernel
theorem dX12_bent_8 : decode cX12_bent 8 = .ok (.putfield 76, 3) := by decide +kernel
theorem dX12_bent_11 : decode cX12_bent 11 = .ok (.aload_n 0, 1) := by decide +kernel
theorem dX12_bent_12 : decode cX12_bent 12 = .ok (.getfield 76, 3) := by decide +kernel
theorem dX12_bent_15 : decode cX12_bent 15 = .ok (.ifCond .le 5, 3) := by decide +kernel
theorem dX12_bent_18 : decode cX12_bent 18 = .ok (.iconst 0, 1) := by decide +kernel
theorem dX12_bent_19 : decode cX12_bent 19 = .ok (.ireturn, 1) := by decide +kernel
theorem dX12_bent_20 : decode cX12_bent 20 = .ok (.aload_n 0, 1) := by decide +kernel
theorem dX12_bent_21 : decode cX12_bent 21 = .ok (.iload_n 1, 1) := by decide +kernel
theorem dX12_bent_22 : decode cX12_bent 22 = .ok (.iload_n 2, 1) := by decide +kernel
theorem dX12_bent_23 : decode cX12_bent 23 = .ok (.invokevirtual 424, 3) := by decide +kernel
theorem dX12_bent_26 : decode cX12_bent 26 = .ok (.ifCond .ne 8, 3) := by decide +kernel
theorem dX12_bent_29 : decode cX12_bent 29 = .ok (.aload_n 0, 1) := by decide +kernel
theorem dX12_bent_30 : decode cX12_bent 30 = .ok (.invokevirtual 415, 3) := by decide +kernel
theorem dX12_bent_33 : decode cX12_bent 33 = .ok (.ireturn, 1) := by decide +kernel
theorem dX12_bent_34 : decode cX12_bent 34 = .ok (.bipush 10, 2) := by decide +kernel
theorem dX12_bent_36 : decode cX12_bent 36 = .ok (.aload_n 0, 1) := by decide +kernel
theorem dX12_bent_37 : decode cX12_bent 37 = .ok (.iload_n 1, 1) := by decide +kernel
theorem dX12_bent_38 : decode cX12_bent 38 = .ok (.iload_n 2, 1) := by decide +kernel
theorem dX12_bent_39 : decode cX12_bent 39 = .ok (.invokevirtual 394, 3) := by decide +kernel
theorem dX12_bent_42 : decode cX12_bent 42 = .ok (.imul, 1) := by decide +kernel
theorem dX12_bent_43 : decode cX12_bent 43 = .ok (.aload_n 0, 1) := by decide +kernel
theorem dX12_bent_44 : decode cX12_bent 44 = .ok (.iload_n 1, 1) := by decide +kernel
theorem dX12_bent_45 : decode cX12_bent 45 = .ok (.iload_n 2, 1) := by decide +kernel
theorem dX12_bent_46 : decode cX12_bent 46 = .ok (.invokevirtual 421, 3) := by decide +kernel
theorem dX12_bent_49 : decode cX12_bent 49 = .ok (.idiv, 1) := by decide +kernel
theorem dX12_bent_50 : decode cX12_bent 50 = .ok (.istore_n 3, 1) := by decide +kernel
theorem dX12_bent_51 : decode cX12_bent 51 = .ok (.aload_n 0, 1) := by decide +kernel
theorem dX12_bent_52 : decode cX12_bent 52 = .ok (.getfield 9, 3) := by decide +kernel
theorem dX12_bent_55 : decode cX12_bent 55 = .ok (.sipush 1134, 3) := by decide +kernel
theorem dX12_bent_58 : decode cX12_bent 58 = .ok (.iload_n 3, 1) := by decide +kernel
theorem dX12_bent_59 : decode cX12_bent 59 = .ok (.iadd, 1) := by decide +kernel
theorem dX12_bent_60 : decode cX12_bent 60 = .ok (.iaload, 1) := by decide +kernel
theorem dX12_bent_61 : decode cX12_bent 61 = .ok (.i2l, 1) := by decide +kernel
theorem dX12_bent_62 : decode cX12_bent 62 = .ok (.lstore 4, 2) := by decide +kernel
theorem dX12_bent_64 : decode cX12_bent 64 = .ok (.aload_n 0, 1) := by decide +kernel
theorem dX12_bent_65 : decode cX12_bent 65 = .ok (.getfield 9, 3) := by decide +kernel
theorem dX12_bent_68 : decode cX12_bent 68 = .ok (.sipush 1139, 3) := by decide +kernel
theorem dX12_bent_71 : decode cX12_bent 71 = .ok (.iload_n 3, 1) := by decide +kernel
theorem dX12_bent_72 : decode cX12_bent 72 = .ok (.iadd, 1) := by decide +kernel
theorem dX12_bent_73 : decode cX12_bent 73 = .ok (.iaload, 1) := by decide +kernel
theorem dX12_bent_74 : decode cX12_bent 74 = .ok (.i2l, 1) := by decide +kernel
theorem dX12_bent_75 : decode cX12_bent 75 = .ok (.lstore 6, 2) := by decide +kernel
theorem dX12_bent_77 : decode cX12_bent 77 = .ok (.lload 4, 2) := by decide +kernel
theorem dX12_bent_79 : decode cX12_bent 79 = .ok (.lload 6, 2) := by decide +kernel
theorem dX12_bent_81 : decode cX12_bent 81 = .ok (.ladd, 1) := by decide +kernel
theorem dX12_bent_82 : decode cX12_bent 82 = .ok (.lconst 0, 1) := by decide +kernel
theorem dX12_bent_83 : decode cX12_bent 83 = .ok (.lcmp, 1) := by decide +kernel
theorem dX12_bent_84 : decode cX12_bent 84 = .ok (.ifCond .ne 10, 3) := by decide +kernel
theorem dX12_bent_87 : decode cX12_bent 87 = .ok (.aload_n 0, 1) := by decide +kernel
theorem dX12_bent_88 : decode cX12_bent 88 = .ok (.invokevirtual 415, 3) := by decide +kernel
theorem dX12_bent_91 : decode cX12_bent 91 = .ok (.goto 14, 3) := by decide +kernel
theorem dX12_bent_94 : decode cX12_bent 94 = .ok (.aload_n 0, 1) := by decide +kernel
theorem dX12_bent_95 : decode cX12_bent 95 = .ok (.lload 4, 2) := by decide +kernel
theorem dX12_bent_97 : decode cX12_bent 97 = .ok (.lload 4, 2) := by decide +kernel
theorem dX12_bent_99 : decode cX12_bent 99 = .ok (.lload 6, 2) := by decide +kernel
theorem dX12_bent_101 : decode cX12_bent 101 = .ok (.ladd, 1) := by decide +kernel
theorem dX12_bent_102 : decode cX12_bent 102 = .ok (.invokevirtual 355, 3) := by decide +kernel
theorem dX12_bent_105 : decode cX12_bent 105 = .ok (.ireturn, 1) := by decide +kernel
abbrev z_X12_bent_174 : Z9 := (some .boolean, 1, 0, 0, 6, 132)
def m_X12_bent_174 (p1 p2 : Int) (d : D9) : Option R9 := cl (m_X12_fingerFault_174 p1 p2 0 d) (fun r1 d2 => pf d2 174 3 r1 (fun d3 => if w32 (d3 174 3) ≤ 0 then cl (m_X12_isStump_174 p1 p2 d3) (fun r4 d5 => if w32 r4 ≠ 0 then cl (m_X12_finger_174 p1 p2 d5) (fun r6 d7 => cl (m_X12_dueOf_174 p1 p2 d7) (fun r8 d9 => dv r8 (lt9v (div9 (10 * r6) r8) (fun a11 => ld d9 175 1604 (1134 + a11) (fun t12 => lt9v (w32 t12) (fun a13 => ld d9 175 1604 (1139 + a11) (fun t14 => lt9v (w32 t14) (fun a15 => if w64 (a13 + a15) ≠ w64 0 then cl (m_X12_fraction_174 a13 (a13 + a15) d9) (fun r16 d17 => rt (r16 % 2) d17) else cl (m_X12_nothing_174 d9) (fun r18 d19 => rt (r18 % 2) d19))))))))) else cl (m_X12_nothing_174 d5) (fun r20 d21 => rt (r20 % 2) d21)) else rt (0 % 2) d3))
set_option maxRecDepth 100000 in
theorem t_X12_bent_174 {G : G9} {l : Launch} (h1 : va_D (A9 G) (wl G (fun _ _ => 0))) (h2 : l.stackTraces = false) (p1 p2 : Int) (d : D9) : MT G l yX12_bent cX12_bent 8 z_X12_bent_174 [rf G 174, i9 p1, i9 p2] d (m_X12_bent_174 p1 p2 d) := by
  refine mt_of (own := RX12) (by decide) rfl (Nat.le_of_ble_eq_true rfl) h1 h2 [(0, rf G 174), (1, i9 p1), (2, i9 p2)] rfl (fun X hX C => ?_)
  unfold m_X12_bent_174
  refine r_aload_n C 0 dX12_bent_0 rfl rfl ?_
  refine r_aload_n C 0 dX12_bent_1 rfl rfl ?_
  refine r_iload_n C 1 dX12_bent_2 rfl rfl ?_
  refine r_iload_n C 2 dX12_bent_3 rfl rfl ?_
  refine r_iconst C dX12_bent_4 ?_
  refine r_callV C [i9 0, i9 p2, i9 p1, rf G 174, rf G 174] dX12_bent_5 (t_X12_fingerFault_174 C.h1 C.h2 p1 p2 0 d) mw_X12_405 mv_X12_fingerFault la_174 ly_174 rfl (by decide) (by decide) (by decide) rfl rfl (Nat.le_of_ble_eq_true rfl) (fun r1 d2 => ?_)
  show SS G X 8 _ _ 8 [(0, rf G 174), (1, i9 p1), (2, i9 p2)] [i9 r1, rf G 174] d2 _
  refine r_putI C dX12_bent_8 fp_X12_76 la_174 ly_174 rfl (fun d3 => ?_)
  refine r_aload_n C 0 dX12_bent_11 rfl rfl ?_
  refine r_getI C dX12_bent_12 fl_X12_76 la_174 ly_174 rfl ?_
  refine r_if_le C (b := 0) 20 dX12_bent_15 (by decide) (fun _ => ?_) (fun _ => ?_)
  · refine r_aload_n C 0 dX12_bent_20 rfl rfl ?_
    refine r_iload_n C 1 dX12_bent_21 rfl rfl ?_
    refine r_iload_n C 2 dX12_bent_22 rfl rfl ?_
    refine r_callV C [i9 p2, i9 p1, rf G 174] dX12_bent_23 (t_X12_isStump_174 C.h1 C.h2 p1 p2 d3) mw_X12_424 mv_X12_isStump la_174 ly_174 rfl (by decide) (by decide) (by decide) rfl rfl (Nat.le_of_ble_eq_true rfl) (fun r4 d5 => ?_)
    show SS G X 8 _ _ 26 [(0, rf G 174), (1, i9 p1), (2, i9 p2)] [i9 r4] d5 _
    refine r_if_ne C (b := 0) 34 dX12_bent_26 (by decide) (fun _ => ?_) (fun _ => ?_)
    · refine r_bipush C dX12_bent_34 rfl ?_
      refine r_aload_n C 0 dX12_bent_36 rfl rfl ?_
      refine r_iload_n C 1 dX12_bent_37 rfl rfl ?_
      refine r_iload_n C 2 dX12_bent_38 rfl rfl ?_
      refine r_callV C [i9 p2, i9 p1, rf G 174, i9 10] dX12_bent_39 (t_X12_finger_174 C.h1 C.h2 p1 p2 d5) mw_X12_394 mv_X12_finger la_174 ly_174 rfl (by decide) (by decide) (by decide) rfl rfl (Nat.le_of_ble_eq_true rfl) (fun r6 d7 => ?_)
      show SS G X 8 _ _ 42 [(0, rf G 174), (1, i9 p1), (2, i9 p2)] [i9 r6, i9 10] d7 _
      refine r_imul C dX12_bent_42 ?_
      refine r_aload_n C 0 dX12_bent_43 rfl rfl ?_
      refine r_iload_n C 1 dX12_bent_44 rfl rfl ?_
      refine r_iload_n C 2 dX12_bent_45 rfl rfl ?_
      refine r_callV C [i9 p2, i9 p1, rf G 174, i9 (10 * r6)] dX12_bent_46 (t_X12_dueOf_174 C.h1 C.h2 p1 p2 d7) mw_X12_421 mv_X12_dueOf la_174 ly_174 rfl (by decide) (by decide) (by decide) rfl rfl (Nat.le_of_ble_eq_true rfl) (fun r8 d9 => ?_)
      show SS G X 8 _ _ 49 [(0, rf G 174), (1, i9 p1), (2, i9 p2)] [i9 r8, i9 (10 * r6)] d9 _
      refine ss_dv (fun h10 => ?_)
      refine r_idiv C dX12_bent_49 h10 ?_
      refine ss_lt (fun a11 => ?_)
      refine r_istore_n C [(3, i9 a11), (0, rf G 174), (1, i9 p1), (2, i9 p2)] dX12_bent_50 rfl (by decide) rfl ?_
      refine r_aload_n C 1 dX12_bent_51 rfl rfl ?_
      refine r_getR C 175 dX12_bent_52 fl_X12_9 la_174 ly_174 rfl rfl ?_
      refine r_sipush C dX12_bent_55 rfl ?_
      refine r_iload_n C 0 dX12_bent_58 rfl rfl ?_
      refine r_iadd C dX12_bent_59 ?_
      refine r_iald C dX12_bent_60 la_175 ly_175 (fun t12 => ?_)
      refine r_i2l C dX12_bent_61 ?_
      refine ss_ltL (fun a13 => ?_)
      refine r_lstore C [(4, l9 a13), (3, i9 a11), (0, rf G 174), (1, i9 p1), (2, i9 p2)] dX12_bent_62 (by decide) rfl ?_
      refine r_aload_n C 2 dX12_bent_64 rfl rfl ?_
      refine r_getR C 175 dX12_bent_65 fl_X12_9 la_174 ly_174 rfl rfl ?_
      refine r_sipush C dX12_bent_68 rfl ?_
      refine r_iload_n C 1 dX12_bent_71 rfl rfl ?_
      refine r_iadd C dX12_bent_72 ?_
      refine r_iald C dX12_bent_73 la_175 ly_175 (fun t14 => ?_)
      refine r_i2l C dX12_bent_74 ?_
      refine ss_ltL (fun a15 => ?_)
      refine r_lstore C [(6, l9 a15), (4, l9 a13), (3, i9 a11), (0, rf G 174), (1, i9 p1), (2, i9 p2)] dX12_bent_75 (by decide) rfl ?_
      refine r_lload C 1 dX12_bent_77 rfl ?_
      refine r_lload C 0 dX12_bent_79 rfl ?_
      refine r_ladd C dX12_bent_81 ?_
      refine r_lconst C dX12_bent_82 (a := 0) rfl ?_
      refine r_lcmp_ne C 94 dX12_bent_83 dX12_bent_84 (by decide) (fun _ => ?_) (fun _ => ?_)
      · refine r_aload_n C 3 dX12_bent_94 rfl rfl ?_
        refine r_lload C 1 dX12_bent_95 rfl ?_
        refine r_lload C 1 dX12_bent_97 rfl ?_
        refine r_lload C 0 dX12_bent_99 rfl ?_
        refine r_ladd C dX12_bent_101 ?_
        refine r_callV C [l9 (a13 + a15), l9 a13, rf G 174] dX12_bent_102 (t_X12_fraction_174 C.h1 C.h2 a13 (a13 + a15) d9) mw_X12_355 mv_X12_fraction la_174 ly_174 rfl (by decide) (by decide) (by decide) rfl rfl (Nat.le_of_ble_eq_true rfl) (fun r16 d17 => ?_)
        show SS G X 8 _ _ 105 [(6, l9 a15), (4, l9 a13), (3, i9 a11), (0, rf G 174), (1, i9 p1), (2, i9 p2)] [i9 r16] d17 _
        exact r_zret C dX12_bent_105 (by decide) (by decide)
      · refine r_aload_n C 3 dX12_bent_87 rfl rfl ?_
        refine r_callV C [rf G 174] dX12_bent_88 (t_X12_nothing_174 C.h1 C.h2 d9) mw_X12_415 mv_X12_nothing la_174 ly_174 rfl (by decide) (by decide) (by decide) rfl rfl (Nat.le_of_ble_eq_true rfl) (fun r18 d19 => ?_)
        show SS G X 8 _ _ 91 [(6, l9 a15), (4, l9 a13), (3, i9 a11), (0, rf G 174), (1, i9 p1), (2, i9 p2)] [i9 r18] d19 _
        refine r_goto C 105 dX12_bent_91 (by decide) ?_
        exact r_zret C dX12_bent_105 (by decide) (by decide)
    · refine r_aload_n C 0 dX12_bent_29 rfl rfl ?_
      refine r_callV C [rf G 174] dX12_bent_30 (t_X12_nothing_174 C.h1 C.h2 d5) mw_X12_415 mv_X12_nothing la_174 ly_174 rfl (by decide) (by decide) (by decide) rfl rfl (Nat.le_of_ble_eq_true rfl) (fun r20 d21 => ?_)
      show SS G X 8 _ _ 33 [(0, rf G 174), (1, i9 p1), (2, i9 p2)] [i9 r20] d21 _
      exact r_zret C dX12_bent_33 (by decide) (by decide)
  · refine r_iconst C dX12_bent_18 ?_
    exact r_zret C dX12_bent_19 (by decide) (by decide)
theorem dX12_bound_0 : decode cX12_bound 0 = .ok (.aload_n 0, 1) := by decide +kernel
theorem dX12_bound_1 : decode cX12_bound 1 = .ok (.iconst 0, 1) := by decide +kernel
theorem dX12_bound_2 : decode cX12_bound 2 = .ok (.putfield 76, 3) := by decide +kernel
theorem dX12_bound_5 : decode cX12_bound 5 = .ok (.aload_n 0, 1) := by decide +kernel
theorem dX12_bound_6 : decode cX12_bound 6 = .ok (.iload_n 1, 1) := by decide +kernel
theorem dX12_bound_7 : decode cX12_bound 7 = .ok (.invokevirtual 95, 3) := by decide +kernel
theorem dX12_bound_10 : decode cX12_bound 10 = .ok (.ifCond .ne 9, 3) := by decide +kernel
theorem dX12_bound_13 : decode cX12_bound 13 = .ok (.aload_n 0, 1) := by decide +kernel
theorem dX12_bound_14 : decode cX12_bound 14 = .ok (.iconst 1, 1) := by decide +kernel
theorem dX12_bound_15 : decode cX12_bound 15 = .ok (.invokevirtual 89, 3) := by decide +kernel
theorem dX12_bound_18 : decode cX12_bound 18 = .ok (.ireturn, 1) := by decide +kernel
theorem dX12_bound_19 : decode cX12_bound 19 = .ok (.aload_n 0, 1) := by decide +kernel
theorem dX12_bound_20 : decode cX12_bound 20 = .ok (.invokevirtual 381, 3) := by decide +kernel
theorem dX12_bound_23 : decode cX12_bound 23 = .ok (.aload_n 0, 1) := by decide +kernel
theorem dX12_bound_24 : decode cX12_bound 24 = .ok (.iload_n 1, 1) := by decide +kernel
theorem dX12_bound_25 : decode cX12_bound 25 = .ok (.iload_n 2, 1) := by decide +kernel
theorem dX12_bound_26 : decode cX12_bound 26 = .ok (.iconst (-1), 1) := by decide +kernel
theorem dX12_bound_27 : decode cX12_bound 27 = .ok (.invokevirtual 384, 3) := by decide +kernel
theorem dX12_bound_30 : decode cX12_bound 30 = .ok (.ireturn, 1) := by decide +kernel
abbrev z_X12_bound_174 : Z9 := (some .int, 1, 0, 0, 10, 252)
def m_X12_bound_174 (p1 p2 : Int) (d : D9) : Option R9 := pf d 174 3 0 (fun d1 => cl (m_X12_isPaint_174 p1 d1) (fun r2 d3 => if w32 r2 ≠ 0 then cl (m_X12_layReach_174 d3) (fun r4 d5 => cl (m_X12_boundOf_174 p1 p2 (-1) d5) (fun r6 d7 => rt r6 d7)) else cl (m_X12_fails_174 1 d3) (fun r8 d9 => rt r8 d9)))
set_option maxRecDepth 100000 in
theorem t_X12_bound_174 {G : G9} {l : Launch} (h1 : va_D (A9 G) (wl G (fun _ _ => 0))) (h2 : l.stackTraces = false) (p1 p2 : Int) (d : D9) : MT G l yX12_bound cX12_bound 3 z_X12_bound_174 [rf G 174, i9 p1, i9 p2] d (m_X12_bound_174 p1 p2 d) := by
  refine mt_of (own := RX12) (by decide) rfl (Nat.le_of_ble_eq_true rfl) h1 h2 [(0, rf G 174), (1, i9 p1), (2, i9 p2)] rfl (fun X hX C => ?_)
  unfold m_X12_bound_174
  refine r_aload_n C 0 dX12_bound_0 rfl rfl ?_
  refine r_iconst C dX12_bound_1 ?_
  refine r_putI C dX12_bound_2 fp_X12_76 la_174 ly_174 rfl (fun d1 => ?_)
  refine r_aload_n C 0 dX12_bound_5 rfl rfl ?_
  refine r_iload_n C 1 dX12_bound_6 rfl rfl ?_
  refine r_callV C [i9 p1, rf G 174] dX12_bound_7 (t_X12_isPaint_174 C.h1 C.h2 p1 d1) mw_X12_95 mv_X12_isPaint la_174 ly_174 rfl (by decide) (by decide) (by decide) rfl rfl (Nat.le_of_ble_eq_true rfl) (fun r2 d3 => ?_)
  show SS G X 3 _ _ 10 [(0, rf G 174), (1, i9 p1), (2, i9 p2)] [i9 r2] d3 _
  refine r_if_ne C (b := 0) 19 dX12_bound_10 (by decide) (fun _ => ?_) (fun _ => ?_)
  · refine r_aload_n C 0 dX12_bound_19 rfl rfl ?_
    refine r_callV C [rf G 174] dX12_bound_20 (t_X12_layReach_174 C.h1 C.h2 d3) mw_X12_381 mv_X12_layReach la_174 ly_174 rfl (by decide) (by decide) (by decide) rfl rfl (Nat.le_of_ble_eq_true rfl) (fun r4 d5 => ?_)
    show SS G X 3 _ _ 23 [(0, rf G 174), (1, i9 p1), (2, i9 p2)] [] d5 _
    refine r_aload_n C 0 dX12_bound_23 rfl rfl ?_
    refine r_iload_n C 1 dX12_bound_24 rfl rfl ?_
    refine r_iload_n C 2 dX12_bound_25 rfl rfl ?_
    refine r_iconst C dX12_bound_26 ?_
    refine r_callV C [i9 (-1), i9 p2, i9 p1, rf G 174] dX12_bound_27 (t_X12_boundOf_174 C.h1 C.h2 p1 p2 (-1) d5) mw_X12_384 mv_X12_boundOf la_174 ly_174 rfl (by decide) (by decide) (by decide) rfl rfl (Nat.le_of_ble_eq_true rfl) (fun r6 d7 => ?_)
    show SS G X 3 _ _ 30 [(0, rf G 174), (1, i9 p1), (2, i9 p2)] [i9 r6] d7 _
    exact r_iret C dX12_bound_30 (by decide) (by decide)
  · refine r_aload_n C 0 dX12_bound_13 rfl rfl ?_
    refine r_iconst C dX12_bound_14 ?_
    refine r_callV C [i9 1, rf G 174] dX12_bound_15 (t_X12_fails_174 C.h1 C.h2 1 d3) mw_X12_89 mv_X12_fails la_174 ly_174 rfl (by decide) (by decide) (by decide) rfl rfl (Nat.le_of_ble_eq_true rfl) (fun r8 d9 => ?_)
    show SS G X 3 _ _ 18 [(0, rf G 174), (1, i9 p1), (2, i9 p2)] [i9 r8] d9 _
    exact r_iret C dX12_bound_18 (by decide) (by decide)
theorem dX12_isClash_0 : decode cX12_isClash 0 = .ok (.aload_n 0, 1) := by decide +kernel
theorem dX12_isClash_1 : decode cX12_isClash 1 = .ok (.iload_n 1, 1) := by decide +kernel
theorem dX12_isClash_2 : decode cX12_isClash 2 = .ok (.iconst 0, 1) := by decide +kernel
theorem dX12_isClash_3 : decode cX12_isClash 3 = .ok (.iconst (-1), 1) := by decide +kernel
theorem dX12_isClash_4 : decode cX12_isClash 4 = .ok (.invokevirtual 384, 3) := by decide +kernel
theorem dX12_isClash_7 : decode cX12_isClash 7 = .ok (.aload_n 0, 1) := by decide +kernel
theorem dX12_isClash_8 : decode cX12_isClash 8 = .ok (.iload_n 1, 1) := by decide +kernel
theorem dX12_isClash_9 : decode cX12_isClash 9 = .ok (.iconst 1, 1) := by decide +kernel
theorem dX12_isClash_10 : decode cX12_isClash 10 = .ok (.iconst (-1), 1) := by decide +kernel
theorem dX12_isClash_11 : decode cX12_isClash 11 = .ok (.invokevirtual 384, 3) := by decide +kernel
theorem dX12_isClash_14 : decode cX12_isClash 14 = .ok (.if_icmp .le 7, 3) := by decide +kernel
theorem dX12_isClash_17 : decode cX12_isClash 17 = .ok (.iconst 1, 1) := by decide +kernel
theorem dX12_isClash_18 : decode cX12_isClash 18 = .ok (.goto 4, 3) := by decide +kernel
theorem dX12_isClash_21 : decode cX12_isClash 21 = .ok (.iconst 0, 1) := by decide +kernel
theorem dX12_isClash_22 : decode cX12_isClash 22 = .ok (.ireturn, 1) := by decide +kernel
abbrev z_X12_isClash_174 : Z9 := (some .boolean, 1, 0, 0, 10, 252)
def m_X12_isClash_174 (p1 : Int) (d : D9) : Option R9 := cl (m_X12_boundOf_174 p1 0 (-1) d) (fun r1 d2 => cl (m_X12_boundOf_174 p1 1 (-1) d2) (fun r3 d4 => if w32 r1 ≤ w32 r3 then rt (0 % 2) d4 else rt (1 % 2) d4))
set_option maxRecDepth 100000 in
theorem t_X12_isClash_174 {G : G9} {l : Launch} (h1 : va_D (A9 G) (wl G (fun _ _ => 0))) (h2 : l.stackTraces = false) (p1 : Int) (d : D9) : MT G l yX12_isClash cX12_isClash 2 z_X12_isClash_174 [rf G 174, i9 p1] d (m_X12_isClash_174 p1 d) := by
  refine mt_of (own := RX12) (by decide) rfl (Nat.le_of_ble_eq_true rfl) h1 h2 [(0, rf G 174), (1, i9 p1)] rfl (fun X hX C => ?_)
  unfold m_X12_isClash_174
  refine r_aload_n C 0 dX12_isClash_0 rfl rfl ?_
  refine r_iload_n C 1 dX12_isClash_1 rfl rfl ?_
  refine r_iconst C dX12_isClash_2 ?_
  refine r_iconst C dX12_isClash_3 ?_
  refine r_callV C [i9 (-1), i9 0, i9 p1, rf G 174] dX12_isClash_4 (t_X12_boundOf_174 C.h1 C.h2 p1 0 (-1) d) mw_X12_384 mv_X12_boundOf la_174 ly_174 rfl (by decide) (by decide) (by decide) rfl rfl (Nat.le_of_ble_eq_true rfl) (fun r1 d2 => ?_)
  show SS G X 2 _ _ 7 [(0, rf G 174), (1, i9 p1)] [i9 r1] d2 _
  refine r_aload_n C 0 dX12_isClash_7 rfl rfl ?_
  refine r_iload_n C 1 dX12_isClash_8 rfl rfl ?_
  refine r_iconst C dX12_isClash_9 ?_
  refine r_iconst C dX12_isClash_10 ?_
  refine r_callV C [i9 (-1), i9 1, i9 p1, rf G 174, i9 r1] dX12_isClash_11 (t_X12_boundOf_174 C.h1 C.h2 p1 1 (-1) d2) mw_X12_384 mv_X12_boundOf la_174 ly_174 rfl (by decide) (by decide) (by decide) rfl rfl (Nat.le_of_ble_eq_true rfl) (fun r3 d4 => ?_)
  show SS G X 2 _ _ 14 [(0, rf G 174), (1, i9 p1)] [i9 r3, i9 r1] d4 _
  refine r_icmp_le C 21 dX12_isClash_14 (by decide) (fun _ => ?_) (fun _ => ?_)
  · refine r_iconst C dX12_isClash_21 ?_
    exact r_zret C dX12_isClash_22 (by decide) (by decide)
  · refine r_iconst C dX12_isClash_17 ?_
    refine r_goto C 22 dX12_isClash_18 (by decide) ?_
    exact r_zret C dX12_isClash_22 (by decide) (by decide)
theorem dX12_clash_0 : decode cX12_clash 0 = .ok (.aload_n 0, 1) := by decide +kernel
theorem dX12_clash_1 : decode cX12_clash 1 = .ok (.iconst 0, 1) := by decide +kernel
theorem dX12_clash_2 : decode cX12_clash 2 = .ok (.putfield 76, 3) := by decide +kernel
theorem dX12_clash_5 : decode cX12_clash 5 = .ok (.aload_n 0, 1) := by decide +kernel
theorem dX12_clash_6 : decode cX12_clash 6 = .ok (.invokevirtual 381, 3) := by decide +kernel
theorem dX12_clash_9 : decode cX12_clash 9 = .ok (.iconst 0, 1) := by decide +kernel
theorem dX12_clash_10 : decode cX12_clash 10 = .ok (.istore_n 2, 1) := by decide +kernel
theorem dX12_clash_11 : decode cX12_clash 11 = .ok (.iconst 0, 1) := by decide +kernel
theorem dX12_clash_12 : decode cX12_clash 12 = .ok (.istore_n 3, 1) := by decide +kernel
theorem dX12_clash_13 : decode cX12_clash 13 = .ok (.iload_n 3, 1) := by decide +kernel
theorem dX12_clash_14 : decode cX12_clash 14 = .ok (.aload_n 0, 1) := by decide +kernel
theorem dX12_clash_15 : decode cX12_clash 15 = .ok (.getfield 9, 3) := by decide +kernel
theorem dX12_clash_18 : decode cX12_clash 18 = .ok (.iconst 0, 1) := by decide +kernel
theorem dX12_clash_19 : decode cX12_clash 19 = .ok (.iaload, 1) := by decide +kernel
theorem dX12_clash_20 : decode cX12_clash 20 = .ok (.if_icmp .ge 30, 3) := by decide +kernel
theorem dX12_clash_23 : decode cX12_clash 23 = .ok (.aload_n 0, 1) := by decide +kernel
theorem dX12_clash_24 : decode cX12_clash 24 = .ok (.iload_n 3, 1) := by decide +kernel
theorem dX12_clash_25 : decode cX12_clash 25 = .ok (.invokevirtual 388, 3) := by decide +kernel
theorem dX12_clash_28 : decode cX12_clash 28 = .ok (.ifCond .ne 6, 3) := by decide +kernel
theorem dX12_clash_31 : decode cX12_clash 31 = .ok (.goto 13, 3) := by decide +kernel
theorem dX12_clash_34 : decode cX12_clash 34 = .ok (.iload_n 2, 1) := by decide +kernel
theorem dX12_clash_35 : decode cX12_clash 35 = .ok (.iload_n 1, 1) := by decide +kernel
theorem dX12_clash_36 : decode cX12_clash 36 = .ok (.if_icmp .ne 5, 3) := by decide +kernel
theorem dX12_clash_39 : decode cX12_clash 39 = .ok (.iload_n 3, 1) := by decide +kernel
theorem dX12_clash_40 : decode cX12_clash 40 = .ok (.ireturn, 1) := by decide +kernel
theorem dX12_clash_41 : decode cX12_clash 41 = .ok (.iinc 2 1, 3) := by decide +kernel
theorem dX12_clash_44 : decode cX12_clash 44 = .ok (.iinc 3 1, 3) := by decide +kernel
theorem dX12_clash_47 : decode cX12_clash 47 = .ok (.goto (-34), 3) := by decide +kernel
theorem dX12_clash_50 : decode cX12_clash 50 = .ok (.iload_n 1, 1) := by decide +kernel
theorem dX12_clash_51 : decode cX12_clash 51 = .ok (.iconst (-1), 1) := by decide +kernel
theorem dX12_clash_52 : decode cX12_clash 52 = .ok (.if_icmp .ne 7, 3) := by decide +kernel
theorem dX12_clash_55 : decode cX12_clash 55 = .ok (.iload_n 2, 1) := by decide +kernel
theorem dX12_clash_56 : decode cX12_clash 56 = .ok (.goto 4, 3) := by decide +kernel
theorem dX12_clash_59 : decode cX12_clash 59 = .ok (.iconst (-1), 1) := by decide +kernel
theorem dX12_clash_60 : decode cX12_clash 60 = .ok (.ireturn, 1) := by decide +kernel
abbrev z_X12_clash_174 : Z9 := (some .int, 1, 0, 0, 11, 273)
def b_X12_clash_174_c13 (k_X12_clash_174_c13 : Int → Int → Int → D9 → Option R9) (v1 v2 v3 : Int) (d : D9) : Option R9 := ld d 175 1604 0 (fun t1 => if w32 t1 ≤ w32 v3 then if w32 v1 ≠ w32 (-1) then rt (-1) d else rt v2 d else cl (m_X12_isClash_174 v3 d) (fun r2 d3 => if w32 r2 ≠ 0 then if w32 v2 ≠ w32 v1 then k_X12_clash_174_c13 v1 (v2 + 1) (v3 + 1) d3 else rt v3 d3 else k_X12_clash_174_c13 v1 v2 (v3 + 1) d3))
def m_X12_clash_174_c13 : Int → Int → Int → D9 → Option R9 := fix9 (fun _ _ _ _ => none) (fun k => b_X12_clash_174_c13 k) FU
def m_X12_clash_174 (p1 : Int) (d : D9) : Option R9 := pf d 174 3 0 (fun d1 => cl (m_X12_layReach_174 d1) (fun r2 d3 => m_X12_clash_174_c13  p1 0 0 d3))
set_option maxRecDepth 100000 in
theorem sb_X12_clash_174_c13 {G : G9} {X : X9} (C : CX G X cX12_clash 4 RX12 [] z_X12_clash_174) (k_X12_clash_174_c13 : Int → Int → Int → D9 → Option R9) (hk_X12_clash_174_c13 : ∀ (v1 v2 v3 : Int) (d : D9), SS G X 4 0 0 13 [(0, rf G 174), (1, i9 v1), (2, i9 v2), (3, i9 v3)] [] d (k_X12_clash_174_c13 v1 v2 v3 d)) : ∀ (v1 v2 v3 : Int) (d : D9), SS G X 4 0 0 13 [(0, rf G 174), (1, i9 v1), (2, i9 v2), (3, i9 v3)] [] d (b_X12_clash_174_c13 k_X12_clash_174_c13 v1 v2 v3 d) := by
  intro v1 v2 v3 d
  unfold b_X12_clash_174_c13
  refine r_iload_n C 3 dX12_clash_13 rfl rfl ?_
  refine r_aload_n C 0 dX12_clash_14 rfl rfl ?_
  refine r_getR C 175 dX12_clash_15 fl_X12_9 la_174 ly_174 rfl rfl ?_
  refine r_iconst C dX12_clash_18 ?_
  refine r_iald C dX12_clash_19 la_175 ly_175 (fun t1 => ?_)
  refine r_icmp_ge C 50 dX12_clash_20 (by decide) (fun _ => ?_) (fun _ => ?_)
  · refine r_iload_n C 1 dX12_clash_50 rfl rfl ?_
    refine r_iconst C dX12_clash_51 ?_
    refine r_icmp_ne C 59 dX12_clash_52 (by decide) (fun _ => ?_) (fun _ => ?_)
    · refine r_iconst C dX12_clash_59 ?_
      exact r_iret C dX12_clash_60 (by decide) (by decide)
    · refine r_iload_n C 2 dX12_clash_55 rfl rfl ?_
      refine r_goto C 60 dX12_clash_56 (by decide) ?_
      exact r_iret C dX12_clash_60 (by decide) (by decide)
  · refine r_aload_n C 0 dX12_clash_23 rfl rfl ?_
    refine r_iload_n C 3 dX12_clash_24 rfl rfl ?_
    refine r_callV C [i9 v3, rf G 174] dX12_clash_25 (t_X12_isClash_174 C.h1 C.h2 v3 d) mw_X12_388 mv_X12_isClash la_174 ly_174 rfl (by decide) (by decide) (by decide) rfl rfl (Nat.le_of_ble_eq_true rfl) (fun r2 d3 => ?_)
    show SS G X 4 _ _ 28 [(0, rf G 174), (1, i9 v1), (2, i9 v2), (3, i9 v3)] [i9 r2] d3 _
    refine r_if_ne C (b := 0) 34 dX12_clash_28 (by decide) (fun _ => ?_) (fun _ => ?_)
    · refine r_iload_n C 2 dX12_clash_34 rfl rfl ?_
      refine r_iload_n C 1 dX12_clash_35 rfl rfl ?_
      refine r_icmp_ne C 41 dX12_clash_36 (by decide) (fun _ => ?_) (fun _ => ?_)
      · refine r_iinc C 2 [(2, i9 (v2 + 1)), (0, rf G 174), (1, i9 v1), (3, i9 v3)] dX12_clash_41 rfl (by decide) rfl ?_
        refine r_iinc C 3 [(3, i9 (v3 + 1)), (2, i9 (v2 + 1)), (0, rf G 174), (1, i9 v1)] dX12_clash_44 rfl (by decide) rfl ?_
        refine r_goto C 13 dX12_clash_47 (by decide) ?_
        refine ss_wide (k' := 0) (n' := 0) (by decide) (by decide) ?_
        refine ss_ls [(0, rf G 174), (1, i9 v1), (2, i9 (v2 + 1)), (3, i9 (v3 + 1))] [2, 3, 1, 0] rfl ?_
        exact hk_X12_clash_174_c13 v1 (v2 + 1) (v3 + 1) d3
      · refine r_iload_n C 3 dX12_clash_39 rfl rfl ?_
        exact r_iret C dX12_clash_40 (by decide) (by decide)
    · refine r_goto C 44 dX12_clash_31 (by decide) ?_
      refine r_iinc C 3 [(3, i9 (v3 + 1)), (0, rf G 174), (1, i9 v1), (2, i9 v2)] dX12_clash_44 rfl (by decide) rfl ?_
      refine r_goto C 13 dX12_clash_47 (by decide) ?_
      refine ss_wide (k' := 0) (n' := 0) (by decide) (by decide) ?_
      refine ss_ls [(0, rf G 174), (1, i9 v1), (2, i9 v2), (3, i9 (v3 + 1))] [1, 2, 3, 0] rfl ?_
      exact hk_X12_clash_174_c13 v1 v2 (v3 + 1) d3
theorem s_X12_clash_174_c13 {G : G9} {X : X9} (C : CX G X cX12_clash 4 RX12 [] z_X12_clash_174) : ∀ (v1 v2 v3 : Int) (d : D9), SS G X 4 0 0 13 [(0, rf G 174), (1, i9 v1), (2, i9 v2), (3, i9 v3)] [] d (m_X12_clash_174_c13  v1 v2 v3 d) :=
  fix9_ind (P := fun k => ∀ (v1 v2 v3 : Int) (d : D9), SS G X 4 0 0 13 [(0, rf G 174), (1, i9 v1), (2, i9 v2), (3, i9 v3)] [] d (k v1 v2 v3 d)) (fun _ _ _ _ => ss_none) (fun k hk => sb_X12_clash_174_c13 C k hk) FU
set_option maxRecDepth 100000 in
theorem t_X12_clash_174 {G : G9} {l : Launch} (h1 : va_D (A9 G) (wl G (fun _ _ => 0))) (h2 : l.stackTraces = false) (p1 : Int) (d : D9) : MT G l yX12_clash cX12_clash 4 z_X12_clash_174 [rf G 174, i9 p1] d (m_X12_clash_174 p1 d) := by
  refine mt_of (own := RX12) (by decide) rfl (Nat.le_of_ble_eq_true rfl) h1 h2 [(0, rf G 174), (1, i9 p1)] rfl (fun X hX C => ?_)
  unfold m_X12_clash_174
  refine r_aload_n C 0 dX12_clash_0 rfl rfl ?_
  refine r_iconst C dX12_clash_1 ?_
  refine r_putI C dX12_clash_2 fp_X12_76 la_174 ly_174 rfl (fun d1 => ?_)
  refine r_aload_n C 0 dX12_clash_5 rfl rfl ?_
  refine r_callV C [rf G 174] dX12_clash_6 (t_X12_layReach_174 C.h1 C.h2 d1) mw_X12_381 mv_X12_layReach la_174 ly_174 rfl (by decide) (by decide) (by decide) rfl rfl (Nat.le_of_ble_eq_true rfl) (fun r2 d3 => ?_)
  show SS G X 4 _ _ 9 [(0, rf G 174), (1, i9 p1)] [] d3 _
  refine r_iconst C dX12_clash_9 ?_
  refine r_istore_n C [(2, i9 0), (0, rf G 174), (1, i9 p1)] dX12_clash_10 rfl (by decide) rfl ?_
  refine r_iconst C dX12_clash_11 ?_
  refine r_istore_n C [(3, i9 0), (2, i9 0), (0, rf G 174), (1, i9 p1)] dX12_clash_12 rfl (by decide) rfl ?_
  refine ss_wide (k' := 0) (n' := 0) (by decide) (by decide) ?_
  refine ss_ls [(0, rf G 174), (1, i9 p1), (2, i9 0), (3, i9 0)] [2, 3, 1, 0] rfl ?_
  exact s_X12_clash_174_c13 C  p1 0 0 d3
theorem dX12_isSkin_0 : decode cX12_isSkin 0 = .ok (.iload_n 1, 1) := by decide +kernel
theorem dX12_isSkin_1 : decode cX12_isSkin 1 = .ok (.i2l, 1) := by decide +kernel
theorem dX12_isSkin_2 : decode cX12_isSkin 2 = .ok (.lconst 0, 1) := by decide +kernel
theorem dX12_isSkin_3 : decode cX12_isSkin 3 = .ok (.aload_n 0, 1) := by decide +kernel
theorem dX12_isSkin_4 : decode cX12_isSkin 4 = .ok (.getfield 9, 3) := by decide +kernel
theorem dX12_isSkin_7 : decode cX12_isSkin 7 = .ok (.iconst 1, 1) := by decide +kernel
theorem dX12_isSkin_8 : decode cX12_isSkin 8 = .ok (.iaload, 1) := by decide +kernel
theorem dX12_isSkin_9 : decode cX12_isSkin 9 = .ok (.iconst 1, 1) := by decide +kernel
theorem dX12_isSkin_10 : decode cX12_isSkin 10 = .ok (.isub, 1) := by decide +kernel
theorem dX12_isSkin_11 : decode cX12_isSkin 11 = .ok (.i2l, 1) := by decide +kernel
theorem dX12_isSkin_12 : decode cX12_isSkin 12 = .ok (.invokestatic 79, 3) := by decide +kernel
theorem dX12_isSkin_15 : decode cX12_isSkin 15 = .ok (.ireturn, 1) := by decide +kernel
abbrev z_X12_isSkin_174 : Z9 := (some .boolean, 1, 0, 0, 2, 25)
def m_X12_isSkin_174 (p1 : Int) (d : D9) : Option R9 := ld d 175 1604 1 (fun t1 => cl (m_X12_within (w32 p1) 0 (w32 (t1 - 1)) d) (fun r2 d3 => rt (r2 % 2) d3))
set_option maxRecDepth 100000 in
theorem t_X12_isSkin_174 {G : G9} {l : Launch} (h1 : va_D (A9 G) (wl G (fun _ _ => 0))) (h2 : l.stackTraces = false) (p1 : Int) (d : D9) : MT G l yX12_isSkin cX12_isSkin 2 z_X12_isSkin_174 [rf G 174, i9 p1] d (m_X12_isSkin_174 p1 d) := by
  refine mt_of (own := RX12) (by decide) rfl (Nat.le_of_ble_eq_true rfl) h1 h2 [(0, rf G 174), (1, i9 p1)] rfl (fun X hX C => ?_)
  unfold m_X12_isSkin_174
  refine r_iload_n C 1 dX12_isSkin_0 rfl rfl ?_
  refine r_i2l C dX12_isSkin_1 ?_
  refine r_lconst C dX12_isSkin_2 (a := 0) rfl ?_
  refine r_aload_n C 0 dX12_isSkin_3 rfl rfl ?_
  refine r_getR C 175 dX12_isSkin_4 fl_X12_9 la_174 ly_174 rfl rfl ?_
  refine r_iconst C dX12_isSkin_7 ?_
  refine r_iald C dX12_isSkin_8 la_175 ly_175 (fun t1 => ?_)
  refine r_iconst C dX12_isSkin_9 ?_
  refine r_isub C dX12_isSkin_10 ?_
  refine r_i2l C dX12_isSkin_11 ?_
  refine r_callS C [l9 (w32 (t1 - 1)), l9 0, l9 (w32 p1)] dX12_isSkin_12 (t_X12_within C.h1 C.h2 (w32 p1) 0 (w32 (t1 - 1)) d) mw_X12_79 ms_X12_within (by decide) (by decide) (by decide) rfl rfl (Nat.le_of_ble_eq_true rfl) (fun r2 d3 => ?_)
  show SS G X 2 _ _ 15 [(0, rf G 174), (1, i9 p1)] [i9 r2] d3 _
  exact r_zret C dX12_isSkin_15 (by decide) (by decide)
theorem dX12_count_0 : decode cX12_count 0 = .ok (.aload_n 0, 1) := by decide +kernel
theorem dX12_count_1 : decode cX12_count 1 = .ok (.iconst 0, 1) := by decide +kernel
theorem dX12_count_2 : decode cX12_count 2 = .ok (.putfield 76, 3) := by decide +kernel
theorem dX12_count_5 : decode cX12_count 5 = .ok (.iload_n 1, 1) := by decide +kernel
theorem dX12_count_6 : decode cX12_count 6 = .ok (.i2l, 1) := by decide +kernel
theorem dX12_count_7 : decode cX12_count 7 = .ok (.lconst 0, 1) := by decide +kernel
theorem dX12_count_8 : decode cX12_count 8 = .ok (.ldc2_w 85, 3) := by decide +kernel
theorem dX12_count_11 : decode cX12_count 11 = .ok (.invokestatic 79, 3) := by decide +kernel
theorem dX12_count_14 : decode cX12_count 14 = .ok (.ifCond .eq 10, 3) := by decide +kernel
theorem dX12_count_17 : decode cX12_count 17 = .ok (.aload_n 0, 1) := by decide +kernel
theorem dX12_count_18 : decode cX12_count 18 = .ok (.getfield 9, 3) := by decide +kernel
theorem dX12_count_21 : decode cX12_count 21 = .ok (.iload_n 1, 1) := by decide +kernel
theorem dX12_count_22 : decode cX12_count 22 = .ok (.iaload, 1) := by decide +kernel
theorem dX12_count_23 : decode cX12_count 23 = .ok (.ireturn, 1) := by decide +kernel
theorem dX12_count_24 : decode cX12_count 24 = .ok (.iload_n 1, 1) := by decide +kernel
theorem dX12_count_25 : decode cX12_count 25 = .ok (.bipush 6, 2) := by decide +kernel
theorem dX12_count_27 : decode cX12_count 27 = .ok (.if_icmp .ne 8, 3) := by decide +kernel
theorem dX12_count_30 : decode cX12_count 30 = .ok (.aload_n 0, 1) := by decide +kernel
theorem dX12_count_31 : decode cX12_count 31 = .ok (.getfield 133, 3) := by decide +kernel
theorem dX12_count_34 : decode cX12_count 34 = .ok (.ireturn, 1) := by decide +kernel
theorem dX12_count_35 : decode cX12_count 35 = .ok (.iload_n 1, 1) := by decide +kernel
theorem dX12_count_36 : decode cX12_count 36 = .ok (.i2l, 1) := by decide +kernel
theorem dX12_count_37 : decode cX12_count 37 = .ok (.ldc2_w 493, 3) := by decide +kernel
theorem dX12_count_40 : decode cX12_count 40 = .ok (.ldc2_w 495, 3) := by decide +kernel
theorem dX12_count_43 : decode cX12_count 43 = .ok (.invokestatic 79, 3) := by decide +kernel
theorem dX12_count_46 : decode cX12_count 46 = .ok (.ifCond .eq 16, 3) := by decide +kernel
theorem dX12_count_49 : decode cX12_count 49 = .ok (.aload_n 0, 1) := by decide +kernel
theorem dX12_count_50 : decode cX12_count 50 = .ok (.getfield 9, 3) := by decide +kernel
theorem dX12_count_53 : decode cX12_count 53 = .ok (.bipush 6, 2) := by decide +kernel
theorem dX12_count_55 : decode cX12_count 55 = .ok (.iload_n 1, 1) := by decide +kernel
theorem dX12_count_56 : decode cX12_count 56 = .ok (.iadd, 1) := by decide +kernel
theorem dX12_count_57 : decode cX12_count 57 = .ok (.bipush 7, 2) := by decide +kernel
theorem dX12_count_59 : decode cX12_count 59 = .ok (.isub, 1) := by decide +kernel
theorem dX12_count_60 : decode cX12_count 60 = .ok (.iaload, 1) := by decide +kernel
theorem dX12_count_61 : decode cX12_count 61 = .ok (.ireturn, 1) := by decide +kernel
theorem dX12_count_62 : decode cX12_count 62 = .ok (.iload_n 1, 1) := by decide +kernel
theorem dX12_count_63 : decode cX12_count 63 = .ok (.bipush 14, 2) := by decide +kernel
theorem dX12_count_65 : decode cX12_count 65 = .ok (.if_icmp .ne 12, 3) := by decide +kernel
theorem dX12_count_68 : decode cX12_count 68 = .ok (.aload_n 0, 1) := by decide +kernel
theorem dX12_count_69 : decode cX12_count 69 = .ok (.getfield 9, 3) := by decide +kernel
theorem dX12_count_72 : decode cX12_count 72 = .ok (.sipush 1144, 3) := by decide +kernel
theorem dX12_count_75 : decode cX12_count 75 = .ok (.iaload, 1) := by decide +kernel
theorem dX12_count_76 : decode cX12_count 76 = .ok (.ireturn, 1) := by decide +kernel
theorem dX12_count_77 : decode cX12_count 77 = .ok (.aload_n 0, 1) := by decide +kernel
theorem dX12_count_78 : decode cX12_count 78 = .ok (.iload_n 1, 1) := by decide +kernel
theorem dX12_count_79 : decode cX12_count 79 = .ok (.bipush 100, 2) := by decide +kernel
theorem dX12_count_81 : decode cX12_count 81 = .ok (.isub, 1) := by decide +kernel
theorem dX12_count_82 : decode cX12_count 82 = .ok (.invokevirtual 118, 3) := by decide +kernel
theorem dX12_count_85 : decode cX12_count 85 = .ok (.ifCond .eq 15, 3) := by decide +kernel
theorem dX12_count_88 : decode cX12_count 88 = .ok (.aload_n 0, 1) := by decide +kernel
theorem dX12_count_89 : decode cX12_count 89 = .ok (.iload_n 1, 1) := by decide +kernel
theorem dX12_count_90 : decode cX12_count 90 = .ok (.bipush 100, 2) := by decide +kernel
theorem dX12_count_92 : decode cX12_count 92 = .ok (.isub, 1) := by decide +kernel
theorem dX12_count_93 : decode cX12_count 93 = .ok (.iconst 4, 1) := by decide +kernel
theorem dX12_count_94 : decode cX12_count 94 = .ok (.invokevirtual 124, 3) := by decide +kernel
theorem dX12_count_97 : decode cX12_count 97 = .ok (.goto 4, 3) := by decide +kernel
theorem dX12_count_100 : decode cX12_count 100 = .ok (.iconst (-1), 1) := by decide +kernel
theorem dX12_count_101 : decode cX12_count 101 = .ok (.ireturn, 1) := by decide +kernel
abbrev z_X12_count_174 : Z9 := (some .int, 1, 0, 0, 3, 46)
def m_X12_count_174 (p1 : Int) (d : D9) : Option R9 := pf d 174 3 0 (fun d1 => cl (m_X12_within (w32 p1) 0 5 d1) (fun r2 d3 => if w32 r2 = 0 then if w32 p1 ≠ w32 6 then cl (m_X12_within (w32 p1) 7 13 d3) (fun r4 d5 => if w32 r4 = 0 then if w32 p1 ≠ w32 14 then cl (m_X12_isSkin_174 (p1 - 100) d5) (fun r6 d7 => if w32 r6 = 0 then rt (-1) d7 else cl (m_X12_ofSkin_174 (p1 - 100) 4 d7) (fun r8 d9 => rt r8 d9)) else ld d5 175 1604 1144 (fun t10 => rt t10 d5) else ld d5 175 1604 ((6 + p1) - 7) (fun t11 => rt t11 d5)) else rt (d3 174 7) d3 else ld d3 175 1604 p1 (fun t12 => rt t12 d3)))
set_option maxRecDepth 100000 in
theorem t_X12_count_174 {G : G9} {l : Launch} (h1 : va_D (A9 G) (wl G (fun _ _ => 0))) (h2 : l.stackTraces = false) (p1 : Int) (d : D9) : MT G l yX12_count cX12_count 2 z_X12_count_174 [rf G 174, i9 p1] d (m_X12_count_174 p1 d) := by
  refine mt_of (own := RX12) (by decide) rfl (Nat.le_of_ble_eq_true rfl) h1 h2 [(0, rf G 174), (1, i9 p1)] rfl (fun X hX C => ?_)
  unfold m_X12_count_174
  refine r_aload_n C 0 dX12_count_0 rfl rfl ?_
  refine r_iconst C dX12_count_1 ?_
  refine r_putI C dX12_count_2 fp_X12_76 la_174 ly_174 rfl (fun d1 => ?_)
  refine r_iload_n C 1 dX12_count_5 rfl rfl ?_
  refine r_i2l C dX12_count_6 ?_
  refine r_lconst C dX12_count_7 (a := 0) rfl ?_
  refine r_ldcL C dX12_count_8 kc_X12_85 ?_
  refine r_callS C [l9 5, l9 0, l9 (w32 p1)] dX12_count_11 (t_X12_within C.h1 C.h2 (w32 p1) 0 5 d1) mw_X12_79 ms_X12_within (by decide) (by decide) (by decide) rfl rfl (Nat.le_of_ble_eq_true rfl) (fun r2 d3 => ?_)
  show SS G X 2 _ _ 14 [(0, rf G 174), (1, i9 p1)] [i9 r2] d3 _
  refine r_if_eq C (b := 0) 24 dX12_count_14 (by decide) (fun _ => ?_) (fun _ => ?_)
  · refine r_iload_n C 1 dX12_count_24 rfl rfl ?_
    refine r_bipush C dX12_count_25 rfl ?_
    refine r_icmp_ne C 35 dX12_count_27 (by decide) (fun _ => ?_) (fun _ => ?_)
    · refine r_iload_n C 1 dX12_count_35 rfl rfl ?_
      refine r_i2l C dX12_count_36 ?_
      refine r_ldcL C dX12_count_37 kc_X12_493 ?_
      refine r_ldcL C dX12_count_40 kc_X12_495 ?_
      refine r_callS C [l9 13, l9 7, l9 (w32 p1)] dX12_count_43 (t_X12_within C.h1 C.h2 (w32 p1) 7 13 d3) mw_X12_79 ms_X12_within (by decide) (by decide) (by decide) rfl rfl (Nat.le_of_ble_eq_true rfl) (fun r4 d5 => ?_)
      show SS G X 2 _ _ 46 [(0, rf G 174), (1, i9 p1)] [i9 r4] d5 _
      refine r_if_eq C (b := 0) 62 dX12_count_46 (by decide) (fun _ => ?_) (fun _ => ?_)
      · refine r_iload_n C 1 dX12_count_62 rfl rfl ?_
        refine r_bipush C dX12_count_63 rfl ?_
        refine r_icmp_ne C 77 dX12_count_65 (by decide) (fun _ => ?_) (fun _ => ?_)
        · refine r_aload_n C 0 dX12_count_77 rfl rfl ?_
          refine r_iload_n C 1 dX12_count_78 rfl rfl ?_
          refine r_bipush C dX12_count_79 rfl ?_
          refine r_isub C dX12_count_81 ?_
          refine r_callV C [i9 (p1 - 100), rf G 174] dX12_count_82 (t_X12_isSkin_174 C.h1 C.h2 (p1 - 100) d5) mw_X12_118 mv_X12_isSkin la_174 ly_174 rfl (by decide) (by decide) (by decide) rfl rfl (Nat.le_of_ble_eq_true rfl) (fun r6 d7 => ?_)
          show SS G X 2 _ _ 85 [(0, rf G 174), (1, i9 p1)] [i9 r6] d7 _
          refine r_if_eq C (b := 0) 100 dX12_count_85 (by decide) (fun _ => ?_) (fun _ => ?_)
          · refine r_iconst C dX12_count_100 ?_
            exact r_iret C dX12_count_101 (by decide) (by decide)
          · refine r_aload_n C 0 dX12_count_88 rfl rfl ?_
            refine r_iload_n C 1 dX12_count_89 rfl rfl ?_
            refine r_bipush C dX12_count_90 rfl ?_
            refine r_isub C dX12_count_92 ?_
            refine r_iconst C dX12_count_93 ?_
            refine r_callV C [i9 4, i9 (p1 - 100), rf G 174] dX12_count_94 (t_X12_ofSkin_174 C.h1 C.h2 (p1 - 100) 4 d7) mw_X12_124 mv_X12_ofSkin la_174 ly_174 rfl (by decide) (by decide) (by decide) rfl rfl (Nat.le_of_ble_eq_true rfl) (fun r8 d9 => ?_)
            show SS G X 2 _ _ 97 [(0, rf G 174), (1, i9 p1)] [i9 r8] d9 _
            refine r_goto C 101 dX12_count_97 (by decide) ?_
            exact r_iret C dX12_count_101 (by decide) (by decide)
        · refine r_aload_n C 0 dX12_count_68 rfl rfl ?_
          refine r_getR C 175 dX12_count_69 fl_X12_9 la_174 ly_174 rfl rfl ?_
          refine r_sipush C dX12_count_72 rfl ?_
          refine r_iald C dX12_count_75 la_175 ly_175 (fun t10 => ?_)
          exact r_iret C dX12_count_76 (by decide) (by decide)
      · refine r_aload_n C 0 dX12_count_49 rfl rfl ?_
        refine r_getR C 175 dX12_count_50 fl_X12_9 la_174 ly_174 rfl rfl ?_
        refine r_bipush C dX12_count_53 rfl ?_
        refine r_iload_n C 1 dX12_count_55 rfl rfl ?_
        refine r_iadd C dX12_count_56 ?_
        refine r_bipush C dX12_count_57 rfl ?_
        refine r_isub C dX12_count_59 ?_
        refine r_iald C dX12_count_60 la_175 ly_175 (fun t11 => ?_)
        exact r_iret C dX12_count_61 (by decide) (by decide)
    · refine r_aload_n C 0 dX12_count_30 rfl rfl ?_
      refine r_getI C dX12_count_31 fl_X12_133 la_174 ly_174 rfl ?_
      exact r_iret C dX12_count_34 (by decide) (by decide)
  · refine r_aload_n C 0 dX12_count_17 rfl rfl ?_
    refine r_getR C 175 dX12_count_18 fl_X12_9 la_174 ly_174 rfl rfl ?_
    refine r_iload_n C 1 dX12_count_21 rfl rfl ?_
    refine r_iald C dX12_count_22 la_175 ly_175 (fun t12 => ?_)
    exact r_iret C dX12_count_23 (by decide) (by decide)
theorem dX12_isDrip_0 : decode cX12_isDrip 0 = .ok (.iload_n 0, 1) := by decide +kernel
theorem dX12_isDrip_1 : decode cX12_isDrip 1 = .ok (.i2l, 1) := by decide +kernel
theorem dX12_isDrip_2 : decode cX12_isDrip 2 = .ok (.lconst 0, 1) := by decide +kernel
theorem dX12_isDrip_3 : decode cX12_isDrip 3 = .ok (.ldc2_w 368, 3) := by decide +kernel
theorem dX12_isDrip_6 : decode cX12_isDrip 6 = .ok (.invokestatic 79, 3) := by decide +kernel
theorem dX12_isDrip_9 : decode cX12_isDrip 9 = .ok (.ifCond .eq 25, 3) := by decide +kernel
theorem dX12_isDrip_12 : decode cX12_isDrip 12 = .ok (.lconst 0, 1) := by decide +kernel
theorem dX12_isDrip_13 : decode cX12_isDrip 13 = .ok (.iload_n 1, 1) := by decide +kernel
theorem dX12_isDrip_14 : decode cX12_isDrip 14 = .ok (.i2l, 1) := by decide +kernel
theorem dX12_isDrip_15 : decode cX12_isDrip 15 = .ok (.iload_n 2, 1) := by decide +kernel
theorem dX12_isDrip_16 : decode cX12_isDrip 16 = .ok (.i2l, 1) := by decide +kernel
theorem dX12_isDrip_17 : decode cX12_isDrip 17 = .ok (.invokestatic 121, 3) := by decide +kernel
theorem dX12_isDrip_20 : decode cX12_isDrip 20 = .ok (.ifCond .eq 14, 3) := by decide +kernel
theorem dX12_isDrip_23 : decode cX12_isDrip 23 = .ok (.iload_n 3, 1) := by decide +kernel
theorem dX12_isDrip_24 : decode cX12_isDrip 24 = .ok (.invokestatic 300, 3) := by decide +kernel
theorem dX12_isDrip_27 : decode cX12_isDrip 27 = .ok (.ifCond .eq 7, 3) := by decide +kernel
theorem dX12_isDrip_30 : decode cX12_isDrip 30 = .ok (.iconst 1, 1) := by decide +kernel
theorem dX12_isDrip_31 : decode cX12_isDrip 31 = .ok (.goto 4, 3) := by decide +kernel
theorem dX12_isDrip_34 : decode cX12_isDrip 34 = .ok (.iconst 0, 1) := by decide +kernel
theorem dX12_isDrip_35 : decode cX12_isDrip 35 = .ok (.ireturn, 1) := by decide +kernel
abbrev z_X12_isDrip : Z9 := (some .boolean, 1, 0, 0, 3, 50)
def m_X12_isDrip (p0 p1 p2 p3 : Int) (d : D9) : Option R9 := cl (m_X12_within (w32 p0) 0 400 d) (fun r1 d2 => if w32 r1 = 0 then rt (0 % 2) d2 else cl (m_X12_areCounts 0 (w32 p1) (w32 p2) d2) (fun r3 d4 => if w32 r3 = 0 then rt (0 % 2) d4 else cl (m_X12_isShare p3 d4) (fun r5 d6 => if w32 r5 = 0 then rt (0 % 2) d6 else rt (1 % 2) d6)))
set_option maxRecDepth 100000 in
theorem t_X12_isDrip {G : G9} {l : Launch} (h1 : va_D (A9 G) (wl G (fun _ _ => 0))) (h2 : l.stackTraces = false) (p0 p1 p2 p3 : Int) (d : D9) : MT G l yX12_isDrip cX12_isDrip 4 z_X12_isDrip [i9 p0, i9 p1, i9 p2, i9 p3] d (m_X12_isDrip p0 p1 p2 p3 d) := by
  refine mt_of (own := RX12) (by decide) rfl (Nat.le_of_ble_eq_true rfl) h1 h2 [(0, i9 p0), (1, i9 p1), (2, i9 p2), (3, i9 p3)] rfl (fun X hX C => ?_)
  unfold m_X12_isDrip
  refine r_iload_n C 0 dX12_isDrip_0 rfl rfl ?_
  refine r_i2l C dX12_isDrip_1 ?_
  refine r_lconst C dX12_isDrip_2 (a := 0) rfl ?_
  refine r_ldcL C dX12_isDrip_3 kc_X12_368 ?_
  refine r_callS C [l9 400, l9 0, l9 (w32 p0)] dX12_isDrip_6 (t_X12_within C.h1 C.h2 (w32 p0) 0 400 d) mw_X12_79 ms_X12_within (by decide) (by decide) (by decide) rfl rfl (Nat.le_of_ble_eq_true rfl) (fun r1 d2 => ?_)
  show SS G X 4 _ _ 9 [(0, i9 p0), (1, i9 p1), (2, i9 p2), (3, i9 p3)] [i9 r1] d2 _
  refine r_if_eq C (b := 0) 34 dX12_isDrip_9 (by decide) (fun _ => ?_) (fun _ => ?_)
  · refine r_iconst C dX12_isDrip_34 ?_
    exact r_zret C dX12_isDrip_35 (by decide) (by decide)
  · refine r_lconst C dX12_isDrip_12 (a := 0) rfl ?_
    refine r_iload_n C 1 dX12_isDrip_13 rfl rfl ?_
    refine r_i2l C dX12_isDrip_14 ?_
    refine r_iload_n C 2 dX12_isDrip_15 rfl rfl ?_
    refine r_i2l C dX12_isDrip_16 ?_
    refine r_callS C [l9 (w32 p2), l9 (w32 p1), l9 0] dX12_isDrip_17 (t_X12_areCounts C.h1 C.h2 0 (w32 p1) (w32 p2) d2) mw_X12_121 ms_X12_areCounts (by decide) (by decide) (by decide) rfl rfl (Nat.le_of_ble_eq_true rfl) (fun r3 d4 => ?_)
    show SS G X 4 _ _ 20 [(0, i9 p0), (1, i9 p1), (2, i9 p2), (3, i9 p3)] [i9 r3] d4 _
    refine r_if_eq C (b := 0) 34 dX12_isDrip_20 (by decide) (fun _ => ?_) (fun _ => ?_)
    · refine r_iconst C dX12_isDrip_34 ?_
      exact r_zret C dX12_isDrip_35 (by decide) (by decide)
    · refine r_iload_n C 3 dX12_isDrip_23 rfl rfl ?_
      refine r_callS C [i9 p3] dX12_isDrip_24 (t_X12_isShare C.h1 C.h2 p3 d4) mw_X12_300 ms_X12_isShare (by decide) (by decide) (by decide) rfl rfl (Nat.le_of_ble_eq_true rfl) (fun r5 d6 => ?_)
      show SS G X 4 _ _ 27 [(0, i9 p0), (1, i9 p1), (2, i9 p2), (3, i9 p3)] [i9 r5] d6 _
      refine r_if_eq C (b := 0) 34 dX12_isDrip_27 (by decide) (fun _ => ?_) (fun _ => ?_)
      · refine r_iconst C dX12_isDrip_34 ?_
        exact r_zret C dX12_isDrip_35 (by decide) (by decide)
      · refine r_iconst C dX12_isDrip_30 ?_
        refine r_goto C 35 dX12_isDrip_31 (by decide) ?_
        exact r_zret C dX12_isDrip_35 (by decide) (by decide)
theorem dX12_dripped_0 : decode cX12_dripped 0 = .ok (.ldc2_w 294, 3) := by decide +kernel
theorem dX12_dripped_3 : decode cX12_dripped 3 = .ok (.iload_n 3, 1) := by decide +kernel
theorem dX12_dripped_4 : decode cX12_dripped 4 = .ok (.i2l, 1) := by decide +kernel
theorem dX12_dripped_5 : decode cX12_dripped 5 = .ok (.lmul, 1) := by decide +kernel
theorem dX12_dripped_6 : decode cX12_dripped 6 = .ok (.iload 4, 2) := by decide +kernel
theorem dX12_dripped_8 : decode cX12_dripped 8 = .ok (.i2l, 1) := by decide +kernel
theorem dX12_dripped_9 : decode cX12_dripped 9 = .ok (.lmul, 1) := by decide +kernel
theorem dX12_dripped_10 : decode cX12_dripped 10 = .ok (.lstore 6, 2) := by decide +kernel
theorem dX12_dripped_12 : decode cX12_dripped 12 = .ok (.iconst 0, 1) := by decide +kernel
theorem dX12_dripped_13 : decode cX12_dripped 13 = .ok (.istore 8, 2) := by decide +kernel
theorem dX12_dripped_15 : decode cX12_dripped 15 = .ok (.iload 8, 2) := by decide +kernel
theorem dX12_dripped_17 : decode cX12_dripped 17 = .ok (.iload_n 1, 1) := by decide +kernel
theorem dX12_dripped_18 : decode cX12_dripped 18 = .ok (.if_icmp .ge 21, 3) := by decide +kernel
theorem dX12_dripped_21 : decode cX12_dripped 21 = .ok (.lload 6, 2) := by decide +kernel
theorem dX12_dripped_23 : decode cX12_dripped 23 = .ok (.aload_n 0, 1) := by decide +kernel
theorem dX12_dripped_24 : decode cX12_dripped 24 = .ok (.lload 6, 2) := by decide +kernel
theorem dX12_dripped_26 : decode cX12_dripped 26 = .ok (.iload_n 2, 1) := by decide +kernel
theorem dX12_dripped_27 : decode cX12_dripped 27 = .ok (.invokevirtual 296, 3) := by decide +kernel
theorem dX12_dripped_30 : decode cX12_dripped 30 = .ok (.ladd, 1) := by decide +kernel
theorem dX12_dripped_31 : decode cX12_dripped 31 = .ok (.lstore 6, 2) := by decide +kernel
theorem dX12_dripped_33 : decode cX12_dripped 33 = .ok (.iinc 8 1, 3) := by decide +kernel
theorem dX12_dripped_36 : decode cX12_dripped 36 = .ok (.goto (-21), 3) := by decide +kernel
theorem dX12_dripped_39 : decode cX12_dripped 39 = .ok (.lload 6, 2) := by decide +kernel
theorem dX12_dripped_41 : decode cX12_dripped 41 = .ok (.ldc2_w 286, 3) := by decide +kernel
theorem dX12_dripped_44 : decode cX12_dripped 44 = .ok (.ldiv, 1) := by decide +kernel
theorem dX12_dripped_45 : decode cX12_dripped 45 = .ok (.l2i, 1) := by decide +kernel
theorem dX12_dripped_46 : decode cX12_dripped 46 = .ok (.istore 8, 2) := by decide +kernel
theorem dX12_dripped_48 : decode cX12_dripped 48 = .ok (.iload 8, 2) := by decide +kernel
theorem dX12_dripped_50 : decode cX12_dripped 50 = .ok (.aload_n 0, 1) := by decide +kernel
theorem dX12_dripped_51 : decode cX12_dripped 51 = .ok (.getfield 9, 3) := by decide +kernel
theorem dX12_dripped_54 : decode cX12_dripped 54 = .ok (.bipush 10, 2) := by decide +kernel
theorem dX12_dripped_56 : decode cX12_dripped 56 = .ok (.iaload, 1) := by decide +kernel
theorem dX12_dripped_57 : decode cX12_dripped 57 = .ok (.imul, 1) := by decide +kernel
theorem dX12_dripped_58 : decode cX12_dripped 58 = .ok (.bipush 100, 2) := by decide +kernel
theorem dX12_dripped_60 : decode cX12_dripped 60 = .ok (.idiv, 1) := by decide +kernel
theorem dX12_dripped_61 : decode cX12_dripped 61 = .ok (.istore 9, 2) := by decide +kernel
theorem dX12_dripped_63 : decode cX12_dripped 63 = .ok (.aload_n 0, 1) := by decide +kernel
theorem dX12_dripped_64 : decode cX12_dripped 64 = .ok (.ldc_w 359, 3) := by decide +kernel
theorem dX12_dripped_67 : decode cX12_dripped 67 = .ok (.iload 5, 2) := by decide +kernel
theorem dX12_dripped_69 : decode cX12_dripped 69 = .ok (.imul, 1) := by decide +kernel
theorem dX12_dripped_70 : decode cX12_dripped 70 = .ok (.sipush 12345, 3) := by decide +kernel
theorem dX12_dripped_73 : decode cX12_dripped 73 = .ok (.iadd, 1) := by decide +kernel
theorem dX12_dripped_74 : decode cX12_dripped 74 = .ok (.putfield 360, 3) := by decide +kernel
theorem dX12_dripped_77 : decode cX12_dripped 77 = .ok (.iconst 0, 1) := by decide +kernel
theorem dX12_dripped_78 : decode cX12_dripped 78 = .ok (.sipush 9999, 3) := by decide +kernel
theorem dX12_dripped_81 : decode cX12_dripped 81 = .ok (.iload 8, 2) := by decide +kernel
theorem dX12_dripped_83 : decode cX12_dripped 83 = .ok (.iload 9, 2) := by decide +kernel
theorem dX12_dripped_85 : decode cX12_dripped 85 = .ok (.isub, 1) := by decide +kernel
theorem dX12_dripped_86 : decode cX12_dripped 86 = .ok (.aload_n 0, 1) := by decide +kernel
theorem dX12_dripped_87 : decode cX12_dripped 87 = .ok (.getfield 360, 3) := by decide +kernel
theorem dX12_dripped_90 : decode cX12_dripped 90 = .ok (.bipush 16, 2) := by decide +kernel
theorem dX12_dripped_92 : decode cX12_dripped 92 = .ok (.iushr, 1) := by decide +kernel
theorem dX12_dripped_93 : decode cX12_dripped 93 = .ok (.iconst 2, 1) := by decide +kernel
theorem dX12_dripped_94 : decode cX12_dripped 94 = .ok (.iload 9, 2) := by decide +kernel
theorem dX12_dripped_96 : decode cX12_dripped 96 = .ok (.imul, 1) := by decide +kernel
theorem dX12_dripped_97 : decode cX12_dripped 97 = .ok (.iconst 1, 1) := by decide +kernel
theorem dX12_dripped_98 : decode cX12_dripped 98 = .ok (.iadd, 1) := by decide +kernel
theorem dX12_dripped_99 : decode cX12_dripped 99 = .ok (.irem, 1) := by decide +kernel
theorem dX12_dripped_100 : decode cX12_dripped 100 = .ok (.iadd, 1) := by decide +kernel
theorem dX12_dripped_101 : decode cX12_dripped 101 = .ok (.invokestatic 363, 3) := by decide +kernel
theorem dX12_dripped_104 : decode cX12_dripped 104 = .ok (.invokestatic 366, 3) := by decide +kernel
theorem dX12_dripped_107 : decode cX12_dripped 107 = .ok (.ireturn, 1) := by decide +kernel
abbrev z_X12_dripped_174 : Z9 := (some .int, 1, 0, 0, 3, 83)
def b_X12_dripped_174_c15 (k_X12_dripped_174_c15 : Int → Int → Int → Int → Int → D9 → Option R9) (v1 v2 v5 v6 v8 : Int) (d : D9) : Option R9 := if w32 v1 ≤ w32 v8 then lt9v (divL v6 1000) (fun a1 => ld d 175 1604 10 (fun t2 => lt9v (div9 (a1 * t2) 100) (fun a3 => pf d 174 24 ((1103515245 * v5) + 12345) (fun d4 => dv ((2 * a3) + 1) (rt (max9 0 (min9 9999 ((a1 - a3) + (rem9 (ush9 (d4 174 24) 16) ((2 * a3) + 1))))) d4))))) else cl (m_X12_growth_174 v6 v2 d) (fun r6 d7 => lt9v (v6 + r6) (fun a8 => k_X12_dripped_174_c15 v1 v2 v5 a8 (v8 + 1) d7))
def m_X12_dripped_174_c15 : Int → Int → Int → Int → Int → D9 → Option R9 := fix9 (fun _ _ _ _ _ _ => none) (fun k => b_X12_dripped_174_c15 k) FU
def m_X12_dripped_174 (p1 p2 p3 p4 p5 : Int) (d : D9) : Option R9 := lt9v ((10 * (w32 p3)) * (w32 p4)) (fun a1 => m_X12_dripped_174_c15  p1 p2 p5 a1 0 d)
set_option maxRecDepth 100000 in
theorem sb_X12_dripped_174_c15 {G : G9} {X : X9} (C : CX G X cX12_dripped 10 RX12 [] z_X12_dripped_174) (k_X12_dripped_174_c15 : Int → Int → Int → Int → Int → D9 → Option R9) (hk_X12_dripped_174_c15 : ∀ (v1 v2 v5 v6 v8 : Int) (d : D9), SS G X 10 0 0 15 [(0, rf G 174), (1, i9 v1), (2, i9 v2), (5, i9 v5), (6, l9 v6), (8, i9 v8)] [] d (k_X12_dripped_174_c15 v1 v2 v5 v6 v8 d)) : ∀ (v1 v2 v5 v6 v8 : Int) (d : D9), SS G X 10 0 0 15 [(0, rf G 174), (1, i9 v1), (2, i9 v2), (5, i9 v5), (6, l9 v6), (8, i9 v8)] [] d (b_X12_dripped_174_c15 k_X12_dripped_174_c15 v1 v2 v5 v6 v8 d) := by
  intro v1 v2 v5 v6 v8 d
  unfold b_X12_dripped_174_c15
  refine r_iload C 5 dX12_dripped_15 rfl ?_
  refine r_iload_n C 1 dX12_dripped_17 rfl rfl ?_
  refine r_icmp_ge C 39 dX12_dripped_18 (by decide) (fun _ => ?_) (fun _ => ?_)
  · refine r_lload C 4 dX12_dripped_39 rfl ?_
    refine r_ldcL C dX12_dripped_41 kc_X12_286 ?_
    refine r_ldiv C dX12_dripped_44 (by decide) ?_
    refine r_l2i C dX12_dripped_45 ?_
    refine ss_lt (fun a1 => ?_)
    refine r_istore C [(8, i9 a1), (0, rf G 174), (1, i9 v1), (2, i9 v2), (5, i9 v5), (6, l9 v6)] dX12_dripped_46 (by decide) rfl ?_
    refine r_iload C 0 dX12_dripped_48 rfl ?_
    refine r_aload_n C 1 dX12_dripped_50 rfl rfl ?_
    refine r_getR C 175 dX12_dripped_51 fl_X12_9 la_174 ly_174 rfl rfl ?_
    refine r_bipush C dX12_dripped_54 rfl ?_
    refine r_iald C dX12_dripped_56 la_175 ly_175 (fun t2 => ?_)
    refine r_imul C dX12_dripped_57 ?_
    refine r_bipush C dX12_dripped_58 rfl ?_
    refine r_idiv C dX12_dripped_60 (by decide) ?_
    refine ss_lt (fun a3 => ?_)
    refine r_istore C [(9, i9 a3), (8, i9 a1), (0, rf G 174), (1, i9 v1), (2, i9 v2), (5, i9 v5), (6, l9 v6)] dX12_dripped_61 (by decide) rfl ?_
    refine r_aload_n C 2 dX12_dripped_63 rfl rfl ?_
    refine r_ldcIW C dX12_dripped_64 kc_X12_359 ?_
    refine r_iload C 5 dX12_dripped_67 rfl ?_
    refine r_imul C dX12_dripped_69 ?_
    refine r_sipush C dX12_dripped_70 rfl ?_
    refine r_iadd C dX12_dripped_73 ?_
    refine r_putI C dX12_dripped_74 fp_X12_360 la_174 ly_174 rfl (fun d4 => ?_)
    refine r_iconst C dX12_dripped_77 ?_
    refine r_sipush C dX12_dripped_78 rfl ?_
    refine r_iload C 1 dX12_dripped_81 rfl ?_
    refine r_iload C 0 dX12_dripped_83 rfl ?_
    refine r_isub C dX12_dripped_85 ?_
    refine r_aload_n C 2 dX12_dripped_86 rfl rfl ?_
    refine r_getI C dX12_dripped_87 fl_X12_360 la_174 ly_174 rfl ?_
    refine r_bipush C dX12_dripped_90 rfl ?_
    refine r_iushr C dX12_dripped_92 ?_
    refine r_iconst C dX12_dripped_93 ?_
    refine r_iload C 0 dX12_dripped_94 rfl ?_
    refine r_imul C dX12_dripped_96 ?_
    refine r_iconst C dX12_dripped_97 ?_
    refine r_iadd C dX12_dripped_98 ?_
    refine ss_dv (fun h5 => ?_)
    refine r_irem C dX12_dripped_99 h5 ?_
    refine r_iadd C dX12_dripped_100 ?_
    refine r_mmin C dX12_dripped_101 mm_X12_363 ⟨Nat.le_of_ble_eq_true rfl, Nat.le_of_ble_eq_true rfl⟩ (by decide) (by decide) ?_
    refine r_mmax C dX12_dripped_104 mm_X12_366 ⟨Nat.le_of_ble_eq_true rfl, Nat.le_of_ble_eq_true rfl⟩ (by decide) (by decide) ?_
    exact r_iret C dX12_dripped_107 (by decide) (by decide)
  · refine r_lload C 4 dX12_dripped_21 rfl ?_
    refine r_aload_n C 0 dX12_dripped_23 rfl rfl ?_
    refine r_lload C 4 dX12_dripped_24 rfl ?_
    refine r_iload_n C 2 dX12_dripped_26 rfl rfl ?_
    refine r_callV C [i9 v2, l9 v6, rf G 174, l9 v6] dX12_dripped_27 (t_X12_growth_174 C.h1 C.h2 v6 v2 d) mw_X12_296 mv_X12_growth la_174 ly_174 rfl (by decide) (by decide) (by decide) rfl rfl (Nat.le_of_ble_eq_true rfl) (fun r6 d7 => ?_)
    show SS G X 10 _ _ 30 [(0, rf G 174), (1, i9 v1), (2, i9 v2), (5, i9 v5), (6, l9 v6), (8, i9 v8)] [l9 r6, l9 v6] d7 _
    refine r_ladd C dX12_dripped_30 ?_
    refine ss_ltL (fun a8 => ?_)
    refine r_lstore C [(6, l9 a8), (0, rf G 174), (1, i9 v1), (2, i9 v2), (5, i9 v5), (8, i9 v8)] dX12_dripped_31 (by decide) rfl ?_
    refine r_iinc C 5 [(8, i9 (v8 + 1)), (6, l9 a8), (0, rf G 174), (1, i9 v1), (2, i9 v2), (5, i9 v5)] dX12_dripped_33 rfl (by decide) rfl ?_
    refine r_goto C 15 dX12_dripped_36 (by decide) ?_
    refine ss_wide (k' := 0) (n' := 0) (by decide) (by decide) ?_
    refine ss_ls [(0, rf G 174), (1, i9 v1), (2, i9 v2), (5, i9 v5), (6, l9 a8), (8, i9 (v8 + 1))] [2, 3, 4, 5, 1, 0] rfl ?_
    exact hk_X12_dripped_174_c15 v1 v2 v5 a8 (v8 + 1) d7
theorem s_X12_dripped_174_c15 {G : G9} {X : X9} (C : CX G X cX12_dripped 10 RX12 [] z_X12_dripped_174) : ∀ (v1 v2 v5 v6 v8 : Int) (d : D9), SS G X 10 0 0 15 [(0, rf G 174), (1, i9 v1), (2, i9 v2), (5, i9 v5), (6, l9 v6), (8, i9 v8)] [] d (m_X12_dripped_174_c15  v1 v2 v5 v6 v8 d) :=
  fix9_ind (P := fun k => ∀ (v1 v2 v5 v6 v8 : Int) (d : D9), SS G X 10 0 0 15 [(0, rf G 174), (1, i9 v1), (2, i9 v2), (5, i9 v5), (6, l9 v6), (8, i9 v8)] [] d (k v1 v2 v5 v6 v8 d)) (fun _ _ _ _ _ _ => ss_none) (fun k hk => sb_X12_dripped_174_c15 C k hk) FU
set_option maxRecDepth 100000 in
theorem t_X12_dripped_174 {G : G9} {l : Launch} (h1 : va_D (A9 G) (wl G (fun _ _ => 0))) (h2 : l.stackTraces = false) (p1 p2 p3 p4 p5 : Int) (d : D9) : MT G l yX12_dripped cX12_dripped 10 z_X12_dripped_174 [rf G 174, i9 p1, i9 p2, i9 p3, i9 p4, i9 p5] d (m_X12_dripped_174 p1 p2 p3 p4 p5 d) := by
  refine mt_of (own := RX12) (by decide) rfl (Nat.le_of_ble_eq_true rfl) h1 h2 [(0, rf G 174), (1, i9 p1), (2, i9 p2), (3, i9 p3), (4, i9 p4), (5, i9 p5)] rfl (fun X hX C => ?_)
  unfold m_X12_dripped_174
  refine r_ldcL C dX12_dripped_0 kc_X12_294 ?_
  refine r_iload_n C 3 dX12_dripped_3 rfl rfl ?_
  refine r_i2l C dX12_dripped_4 ?_
  refine r_lmul C dX12_dripped_5 ?_
  refine r_iload C 4 dX12_dripped_6 rfl ?_
  refine r_i2l C dX12_dripped_8 ?_
  refine r_lmul C dX12_dripped_9 ?_
  refine ss_ltL (fun a1 => ?_)
  refine r_lstore C [(6, l9 a1), (0, rf G 174), (1, i9 p1), (2, i9 p2), (3, i9 p3), (4, i9 p4), (5, i9 p5)] dX12_dripped_10 (by decide) rfl ?_
  refine r_iconst C dX12_dripped_12 ?_
  refine r_istore C [(8, i9 0), (6, l9 a1), (0, rf G 174), (1, i9 p1), (2, i9 p2), (3, i9 p3), (4, i9 p4), (5, i9 p5)] dX12_dripped_13 (by decide) rfl ?_
  refine ss_wide (k' := 0) (n' := 0) (by decide) (by decide) ?_
  refine ss_ls [(0, rf G 174), (1, i9 p1), (2, i9 p2), (5, i9 p5), (6, l9 a1), (8, i9 0)] [2, 3, 4, 7, 1, 0] rfl ?_
  exact s_X12_dripped_174_c15 C  p1 p2 p5 a1 0 d
theorem dX12_addLayer_0 : decode cX12_addLayer 0 = .ok (.sipush 336, 3) := by decide +kernel
theorem dX12_addLayer_3 : decode cX12_addLayer 3 = .ok (.bipush 17, 2) := by decide +kernel
theorem dX12_addLayer_5 : decode cX12_addLayer 5 = .ok (.iload_n 1, 1) := by decide +kernel
theorem dX12_addLayer_6 : decode cX12_addLayer 6 = .ok (.imul, 1) := by decide +kernel
theorem dX12_addLayer_7 : decode cX12_addLayer 7 = .ok (.iadd, 1) := by decide +kernel
theorem dX12_addLayer_8 : decode cX12_addLayer 8 = .ok (.istore 5, 2) := by decide +kernel
theorem dX12_addLayer_10 : decode cX12_addLayer 10 = .ok (.iload 5, 2) := by decide +kernel
theorem dX12_addLayer_12 : decode cX12_addLayer 12 = .ok (.iconst 5, 1) := by decide +kernel
theorem dX12_addLayer_13 : decode cX12_addLayer 13 = .ok (.iadd, 1) := by decide +kernel
theorem dX12_addLayer_14 : decode cX12_addLayer 14 = .ok (.iconst 3, 1) := by decide +kernel
theorem dX12_addLayer_15 : decode cX12_addLayer 15 = .ok (.aload_n 0, 1) := by decide +kernel
theorem dX12_addLayer_16 : decode cX12_addLayer 16 = .ok (.getfield 9, 3) := by decide +kernel
theorem dX12_addLayer_19 : decode cX12_addLayer 19 = .ok (.iload 5, 2) := by decide +kernel
theorem dX12_addLayer_21 : decode cX12_addLayer 21 = .ok (.iconst 4, 1) := by decide +kernel
theorem dX12_addLayer_22 : decode cX12_addLayer 22 = .ok (.iadd, 1) := by decide +kernel
theorem dX12_addLayer_23 : decode cX12_addLayer 23 = .ok (.iaload, 1) := by decide +kernel
theorem dX12_addLayer_24 : decode cX12_addLayer 24 = .ok (.imul, 1) := by decide +kernel
theorem dX12_addLayer_25 : decode cX12_addLayer 25 = .ok (.iadd, 1) := by decide +kernel
theorem dX12_addLayer_26 : decode cX12_addLayer 26 = .ok (.istore 6, 2) := by decide +kernel
theorem dX12_addLayer_28 : decode cX12_addLayer 28 = .ok (.aload_n 0, 1) := by decide +kernel
theorem dX12_addLayer_29 : decode cX12_addLayer 29 = .ok (.getfield 9, 3) := by decide +kernel
theorem dX12_addLayer_32 : decode cX12_addLayer 32 = .ok (.iload 6, 2) := by decide +kernel
theorem dX12_addLayer_34 : decode cX12_addLayer 34 = .ok (.iload_n 2, 1) := by decide +kernel
theorem dX12_addLayer_35 : decode cX12_addLayer 35 = .ok (.iastore, 1) := by decide +kernel
theorem dX12_addLayer_36 : decode cX12_addLayer 36 = .ok (.aload_n 0, 1) := by decide +kernel
theorem dX12_addLayer_37 : decode cX12_addLayer 37 = .ok (.getfield 9, 3) := by decide +kernel
theorem dX12_addLayer_40 : decode cX12_addLayer 40 = .ok (.iload 6, 2) := by decide +kernel
theorem dX12_addLayer_42 : decode cX12_addLayer 42 = .ok (.iconst 1, 1) := by decide +kernel
theorem dX12_addLayer_43 : decode cX12_addLayer 43 = .ok (.iadd, 1) := by decide +kernel
theorem dX12_addLayer_44 : decode cX12_addLayer 44 = .ok (.iload_n 3, 1) := by decide +kernel
theorem dX12_addLayer_45 : decode cX12_addLayer 45 = .ok (.iastore, 1) := by decide +kernel
theorem dX12_addLayer_46 : decode cX12_addLayer 46 = .ok (.aload_n 0, 1) := by decide +kernel
theorem dX12_addLayer_47 : decode cX12_addLayer 47 = .ok (.getfield 9, 3) := by decide +kernel
theorem dX12_addLayer_50 : decode cX12_addLayer 50 = .ok (.iload 6, 2) := by decide +kernel
theorem dX12_addLayer_52 : decode cX12_addLayer 52 = .ok (.iconst 2, 1) := by decide +kernel
theorem dX12_addLayer_53 : decode cX12_addLayer 53 = .ok (.iadd, 1) := by decide +kernel
theorem dX12_addLayer_54 : decode cX12_addLayer 54 = .ok (.iload 4, 2) := by decide +kernel
theorem dX12_addLayer_56 : decode cX12_addLayer 56 = .ok (.iastore, 1) := by decide +kernel
theorem dX12_addLayer_57 : decode cX12_addLayer 57 = .ok (.aload_n 0, 1) := by decide +kernel
theorem dX12_addLayer_58 : decode cX12_addLayer 58 = .ok (.getfield 9, 3) := by decide +kernel
theorem dX12_addLayer_61 : decode cX12_addLayer 61 = .ok (.iload 5, 2) := by decide +kernel
theorem dX12_addLayer_63 : decode cX12_addLayer 63 = .ok (.iconst 4, 1) := by decide +kernel
theorem dX12_addLayer_64 : decode cX12_addLayer 64 = .ok (.iadd, 1) := by decide +kernel
theorem dX12_addLayer_65 : decode cX12_addLayer 65 = .ok (.dup2, 1) := by decide +kernel
theorem dX12_addLayer_66 : decode cX12_addLayer 66 = .ok (.iaload, 1) := by decide +kernel
theorem dX12_addLayer_67 : decode cX12_addLayer 67 = .ok (.iconst 1, 1) := by decide +kernel
theorem dX12_addLayer_68 : decode cX12_addLayer 68 = .ok (.iadd, 1) := by decide +kernel
theorem dX12_addLayer_69 : decode cX12_addLayer 69 = .ok (.iastore, 1) := by decide +kernel
theorem dX12_addLayer_70 : decode cX12_addLayer 70 = .ok (.return_, 1) := by decide +kernel
abbrev z_X12_addLayer_174 : Z9 := (none, 0, 0, 0, 1, 0)
def m_X12_addLayer_174 (p1 p2 p3 p4 : Int) (d : D9) : Option R9 := lt9v (336 + (17 * p1)) (fun a1 => ld d 175 1604 (a1 + 4) (fun t2 => lt9v ((a1 + 5) + (3 * t2)) (fun a3 => sd d 175 1604 a3 p2 (fun d4 => sd d4 175 1604 (a3 + 1) p3 (fun d5 => sd d5 175 1604 (a3 + 2) p4 (fun d6 => ld d6 175 1604 (a1 + 4) (fun t7 => sd d6 175 1604 (a1 + 4) (t7 + 1) (fun d8 => rt 0 d8))))))))
set_option maxRecDepth 100000 in
theorem t_X12_addLayer_174 {G : G9} {l : Launch} (h1 : va_D (A9 G) (wl G (fun _ _ => 0))) (h2 : l.stackTraces = false) (p1 p2 p3 p4 : Int) (d : D9) : MT G l yX12_addLayer cX12_addLayer 7 z_X12_addLayer_174 [rf G 174, i9 p1, i9 p2, i9 p3, i9 p4] d (m_X12_addLayer_174 p1 p2 p3 p4 d) := by
  refine mt_of (own := RX12) (by decide) rfl (Nat.le_of_ble_eq_true rfl) h1 h2 [(0, rf G 174), (1, i9 p1), (2, i9 p2), (3, i9 p3), (4, i9 p4)] rfl (fun X hX C => ?_)
  unfold m_X12_addLayer_174
  refine r_sipush C dX12_addLayer_0 rfl ?_
  refine r_bipush C dX12_addLayer_3 rfl ?_
  refine r_iload_n C 1 dX12_addLayer_5 rfl rfl ?_
  refine r_imul C dX12_addLayer_6 ?_
  refine r_iadd C dX12_addLayer_7 ?_
  refine ss_lt (fun a1 => ?_)
  refine r_istore C [(5, i9 a1), (0, rf G 174), (1, i9 p1), (2, i9 p2), (3, i9 p3), (4, i9 p4)] dX12_addLayer_8 (by decide) rfl ?_
  refine r_iload C 0 dX12_addLayer_10 rfl ?_
  refine r_iconst C dX12_addLayer_12 ?_
  refine r_iadd C dX12_addLayer_13 ?_
  refine r_iconst C dX12_addLayer_14 ?_
  refine r_aload_n C 1 dX12_addLayer_15 rfl rfl ?_
  refine r_getR C 175 dX12_addLayer_16 fl_X12_9 la_174 ly_174 rfl rfl ?_
  refine r_iload C 0 dX12_addLayer_19 rfl ?_
  refine r_iconst C dX12_addLayer_21 ?_
  refine r_iadd C dX12_addLayer_22 ?_
  refine r_iald C dX12_addLayer_23 la_175 ly_175 (fun t2 => ?_)
  refine r_imul C dX12_addLayer_24 ?_
  refine r_iadd C dX12_addLayer_25 ?_
  refine ss_lt (fun a3 => ?_)
  refine r_istore C [(6, i9 a3), (5, i9 a1), (0, rf G 174), (1, i9 p1), (2, i9 p2), (3, i9 p3), (4, i9 p4)] dX12_addLayer_26 (by decide) rfl ?_
  refine r_aload_n C 2 dX12_addLayer_28 rfl rfl ?_
  refine r_getR C 175 dX12_addLayer_29 fl_X12_9 la_174 ly_174 rfl rfl ?_
  refine r_iload C 0 dX12_addLayer_32 rfl ?_
  refine r_iload_n C 4 dX12_addLayer_34 rfl rfl ?_
  refine r_iast C dX12_addLayer_35 la_175 ly_175 (fun d4 => ?_)
  refine r_aload_n C 2 dX12_addLayer_36 rfl rfl ?_
  refine r_getR C 175 dX12_addLayer_37 fl_X12_9 la_174 ly_174 rfl rfl ?_
  refine r_iload C 0 dX12_addLayer_40 rfl ?_
  refine r_iconst C dX12_addLayer_42 ?_
  refine r_iadd C dX12_addLayer_43 ?_
  refine r_iload_n C 5 dX12_addLayer_44 rfl rfl ?_
  refine r_iast C dX12_addLayer_45 la_175 ly_175 (fun d5 => ?_)
  refine r_aload_n C 2 dX12_addLayer_46 rfl rfl ?_
  refine r_getR C 175 dX12_addLayer_47 fl_X12_9 la_174 ly_174 rfl rfl ?_
  refine r_iload C 0 dX12_addLayer_50 rfl ?_
  refine r_iconst C dX12_addLayer_52 ?_
  refine r_iadd C dX12_addLayer_53 ?_
  refine r_iload C 6 dX12_addLayer_54 rfl ?_
  refine r_iast C dX12_addLayer_56 la_175 ly_175 (fun d6 => ?_)
  refine r_aload_n C 2 dX12_addLayer_57 rfl rfl ?_
  refine r_getR C 175 dX12_addLayer_58 fl_X12_9 la_174 ly_174 rfl rfl ?_
  refine r_iload C 1 dX12_addLayer_61 rfl ?_
  refine r_iconst C dX12_addLayer_63 ?_
  refine r_iadd C dX12_addLayer_64 ?_
  refine r_dup2 C dX12_addLayer_65 rfl rfl ?_
  refine r_iald C dX12_addLayer_66 la_175 ly_175 (fun t7 => ?_)
  refine r_iconst C dX12_addLayer_67 ?_
  refine r_iadd C dX12_addLayer_68 ?_
  refine r_iast C dX12_addLayer_69 la_175 ly_175 (fun d8 => ?_)
  exact r_vret C dX12_addLayer_70 (by decide) (by decide)
theorem dX12_drip_0 : decode cX12_drip 0 = .ok (.aload_n 0, 1) := by decide +kernel
theorem dX12_drip_1 : decode cX12_drip 1 = .ok (.iconst 0, 1) := by decide +kernel
theorem dX12_drip_2 : decode cX12_drip 2 = .ok (.putfield 76, 3) := by decide +kernel
theorem dX12_drip_5 : decode cX12_drip 5 = .ok (.aload_n 0, 1) := by decide +kernel
theorem dX12_drip_6 : decode cX12_drip 6 = .ok (.iload_n 1, 1) := by decide +kernel
theorem dX12_drip_7 : decode cX12_drip 7 = .ok (.invokevirtual 118, 3) := by decide +kernel
theorem dX12_drip_10 : decode cX12_drip 10 = .ok (.ifCond .ne 9, 3) := by decide +kernel
theorem dX12_drip_13 : decode cX12_drip 13 = .ok (.aload_n 0, 1) := by decide +kernel
theorem dX12_drip_14 : decode cX12_drip 14 = .ok (.iconst 1, 1) := by decide +kernel
theorem dX12_drip_15 : decode cX12_drip 15 = .ok (.invokevirtual 89, 3) := by decide +kernel
theorem dX12_drip_18 : decode cX12_drip 18 = .ok (.ireturn, 1) := by decide +kernel
theorem dX12_drip_19 : decode cX12_drip 19 = .ok (.iload_n 2, 1) := by decide +kernel
theorem dX12_drip_20 : decode cX12_drip 20 = .ok (.iload_n 3, 1) := by decide +kernel
theorem dX12_drip_21 : decode cX12_drip 21 = .ok (.iload 4, 2) := by decide +kernel
theorem dX12_drip_23 : decode cX12_drip 23 = .ok (.iload 5, 2) := by decide +kernel
theorem dX12_drip_25 : decode cX12_drip 25 = .ok (.invokestatic 370, 3) := by decide +kernel
theorem dX12_drip_28 : decode cX12_drip 28 = .ok (.ifCond .ne 9, 3) := by decide +kernel
theorem dX12_drip_31 : decode cX12_drip 31 = .ok (.aload_n 0, 1) := by decide +kernel
theorem dX12_drip_32 : decode cX12_drip 32 = .ok (.iconst 2, 1) := by decide +kernel
theorem dX12_drip_33 : decode cX12_drip 33 = .ok (.invokevirtual 89, 3) := by decide +kernel
theorem dX12_drip_36 : decode cX12_drip 36 = .ok (.ireturn, 1) := by decide +kernel
theorem dX12_drip_37 : decode cX12_drip 37 = .ok (.aload_n 0, 1) := by decide +kernel
theorem dX12_drip_38 : decode cX12_drip 38 = .ok (.iload_n 1, 1) := by decide +kernel
theorem dX12_drip_39 : decode cX12_drip 39 = .ok (.iconst 4, 1) := by decide +kernel
theorem dX12_drip_40 : decode cX12_drip 40 = .ok (.invokevirtual 124, 3) := by decide +kernel
theorem dX12_drip_43 : decode cX12_drip 43 = .ok (.iconst 4, 1) := by decide +kernel
theorem dX12_drip_44 : decode cX12_drip 44 = .ok (.if_icmp .ne 5, 3) := by decide +kernel
theorem dX12_drip_47 : decode cX12_drip 47 = .ok (.iconst (-1), 1) := by decide +kernel
theorem dX12_drip_48 : decode cX12_drip 48 = .ok (.ireturn, 1) := by decide +kernel
theorem dX12_drip_49 : decode cX12_drip 49 = .ok (.aload_n 0, 1) := by decide +kernel
theorem dX12_drip_50 : decode cX12_drip 50 = .ok (.iload_n 2, 1) := by decide +kernel
theorem dX12_drip_51 : decode cX12_drip 51 = .ok (.iload_n 3, 1) := by decide +kernel
theorem dX12_drip_52 : decode cX12_drip 52 = .ok (.iload 4, 2) := by decide +kernel
theorem dX12_drip_54 : decode cX12_drip 54 = .ok (.iload 5, 2) := by decide +kernel
theorem dX12_drip_56 : decode cX12_drip 56 = .ok (.iload 6, 2) := by decide +kernel
theorem dX12_drip_58 : decode cX12_drip 58 = .ok (.invokevirtual 374, 3) := by decide +kernel
theorem dX12_drip_61 : decode cX12_drip 61 = .ok (.istore 7, 2) := by decide +kernel
theorem dX12_drip_63 : decode cX12_drip 63 = .ok (.aload_n 0, 1) := by decide +kernel
theorem dX12_drip_64 : decode cX12_drip 64 = .ok (.iload_n 1, 1) := by decide +kernel
theorem dX12_drip_65 : decode cX12_drip 65 = .ok (.iload 7, 2) := by decide +kernel
theorem dX12_drip_67 : decode cX12_drip 67 = .ok (.iload_n 3, 1) := by decide +kernel
theorem dX12_drip_68 : decode cX12_drip 68 = .ok (.iload 4, 2) := by decide +kernel
theorem dX12_drip_70 : decode cX12_drip 70 = .ok (.invokevirtual 127, 3) := by decide +kernel
theorem dX12_drip_73 : decode cX12_drip 73 = .ok (.iload 7, 2) := by decide +kernel
theorem dX12_drip_75 : decode cX12_drip 75 = .ok (.ireturn, 1) := by decide +kernel
abbrev z_X12_drip_174 : Z9 := (some .int, 1, 0, 0, 4, 112)
def m_X12_drip_174 (p1 p2 p3 p4 p5 p6 : Int) (d : D9) : Option R9 := pf d 174 3 0 (fun d1 => cl (m_X12_isSkin_174 p1 d1) (fun r2 d3 => if w32 r2 ≠ 0 then cl (m_X12_isDrip p2 p3 p4 p5 d3) (fun r4 d5 => if w32 r4 ≠ 0 then cl (m_X12_ofSkin_174 p1 4 d5) (fun r6 d7 => if w32 r6 ≠ w32 4 then cl (m_X12_dripped_174 p2 p3 p4 p5 p6 d7) (fun r8 d9 => cl (m_X12_addLayer_174 p1 r8 p3 p4 d9) (fun r10 d11 => rt r8 d11)) else rt (-1) d7) else cl (m_X12_fails_174 2 d5) (fun r12 d13 => rt r12 d13)) else cl (m_X12_fails_174 1 d3) (fun r14 d15 => rt r14 d15)))
set_option maxRecDepth 100000 in
theorem t_X12_drip_174 {G : G9} {l : Launch} (h1 : va_D (A9 G) (wl G (fun _ _ => 0))) (h2 : l.stackTraces = false) (p1 p2 p3 p4 p5 p6 : Int) (d : D9) : MT G l yX12_drip cX12_drip 8 z_X12_drip_174 [rf G 174, i9 p1, i9 p2, i9 p3, i9 p4, i9 p5, i9 p6] d (m_X12_drip_174 p1 p2 p3 p4 p5 p6 d) := by
  refine mt_of (own := RX12) (by decide) rfl (Nat.le_of_ble_eq_true rfl) h1 h2 [(0, rf G 174), (1, i9 p1), (2, i9 p2), (3, i9 p3), (4, i9 p4), (5, i9 p5), (6, i9 p6)] rfl (fun X hX C => ?_)
  unfold m_X12_drip_174
  refine r_aload_n C 0 dX12_drip_0 rfl rfl ?_
  refine r_iconst C dX12_drip_1 ?_
  refine r_putI C dX12_drip_2 fp_X12_76 la_174 ly_174 rfl (fun d1 => ?_)
  refine r_aload_n C 0 dX12_drip_5 rfl rfl ?_
  refine r_iload_n C 1 dX12_drip_6 rfl rfl ?_
  refine r_callV C [i9 p1, rf G 174] dX12_drip_7 (t_X12_isSkin_174 C.h1 C.h2 p1 d1) mw_X12_118 mv_X12_isSkin la_174 ly_174 rfl (by decide) (by decide) (by decide) rfl rfl (Nat.le_of_ble_eq_true rfl) (fun r2 d3 => ?_)
  show SS G X 8 _ _ 10 [(0, rf G 174), (1, i9 p1), (2, i9 p2), (3, i9 p3), (4, i9 p4), (5, i9 p5), (6, i9 p6)] [i9 r2] d3 _
  refine r_if_ne C (b := 0) 19 dX12_drip_10 (by decide) (fun _ => ?_) (fun _ => ?_)
  · refine r_iload_n C 2 dX12_drip_19 rfl rfl ?_
    refine r_iload_n C 3 dX12_drip_20 rfl rfl ?_
    refine r_iload C 4 dX12_drip_21 rfl ?_
    refine r_iload C 5 dX12_drip_23 rfl ?_
    refine r_callS C [i9 p5, i9 p4, i9 p3, i9 p2] dX12_drip_25 (t_X12_isDrip C.h1 C.h2 p2 p3 p4 p5 d3) mw_X12_370 ms_X12_isDrip (by decide) (by decide) (by decide) rfl rfl (Nat.le_of_ble_eq_true rfl) (fun r4 d5 => ?_)
    show SS G X 8 _ _ 28 [(0, rf G 174), (1, i9 p1), (2, i9 p2), (3, i9 p3), (4, i9 p4), (5, i9 p5), (6, i9 p6)] [i9 r4] d5 _
    refine r_if_ne C (b := 0) 37 dX12_drip_28 (by decide) (fun _ => ?_) (fun _ => ?_)
    · refine r_aload_n C 0 dX12_drip_37 rfl rfl ?_
      refine r_iload_n C 1 dX12_drip_38 rfl rfl ?_
      refine r_iconst C dX12_drip_39 ?_
      refine r_callV C [i9 4, i9 p1, rf G 174] dX12_drip_40 (t_X12_ofSkin_174 C.h1 C.h2 p1 4 d5) mw_X12_124 mv_X12_ofSkin la_174 ly_174 rfl (by decide) (by decide) (by decide) rfl rfl (Nat.le_of_ble_eq_true rfl) (fun r6 d7 => ?_)
      show SS G X 8 _ _ 43 [(0, rf G 174), (1, i9 p1), (2, i9 p2), (3, i9 p3), (4, i9 p4), (5, i9 p5), (6, i9 p6)] [i9 r6] d7 _
      refine r_iconst C dX12_drip_43 ?_
      refine r_icmp_ne C 49 dX12_drip_44 (by decide) (fun _ => ?_) (fun _ => ?_)
      · refine r_aload_n C 0 dX12_drip_49 rfl rfl ?_
        refine r_iload_n C 2 dX12_drip_50 rfl rfl ?_
        refine r_iload_n C 3 dX12_drip_51 rfl rfl ?_
        refine r_iload C 4 dX12_drip_52 rfl ?_
        refine r_iload C 5 dX12_drip_54 rfl ?_
        refine r_iload C 6 dX12_drip_56 rfl ?_
        refine r_callV C [i9 p6, i9 p5, i9 p4, i9 p3, i9 p2, rf G 174] dX12_drip_58 (t_X12_dripped_174 C.h1 C.h2 p2 p3 p4 p5 p6 d7) mw_X12_374 mv_X12_dripped la_174 ly_174 rfl (by decide) (by decide) (by decide) rfl rfl (Nat.le_of_ble_eq_true rfl) (fun r8 d9 => ?_)
        show SS G X 8 _ _ 61 [(0, rf G 174), (1, i9 p1), (2, i9 p2), (3, i9 p3), (4, i9 p4), (5, i9 p5), (6, i9 p6)] [i9 r8] d9 _
        refine r_istore C [(7, i9 r8), (0, rf G 174), (1, i9 p1), (2, i9 p2), (3, i9 p3), (4, i9 p4), (5, i9 p5), (6, i9 p6)] dX12_drip_61 (by decide) rfl ?_
        refine r_aload_n C 1 dX12_drip_63 rfl rfl ?_
        refine r_iload_n C 2 dX12_drip_64 rfl rfl ?_
        refine r_iload C 0 dX12_drip_65 rfl ?_
        refine r_iload_n C 4 dX12_drip_67 rfl rfl ?_
        refine r_iload C 5 dX12_drip_68 rfl ?_
        refine r_callV C [i9 p4, i9 p3, i9 r8, i9 p1, rf G 174] dX12_drip_70 (t_X12_addLayer_174 C.h1 C.h2 p1 r8 p3 p4 d9) mw_X12_127 mv_X12_addLayer la_174 ly_174 rfl (by decide) (by decide) (by decide) rfl rfl (Nat.le_of_ble_eq_true rfl) (fun r10 d11 => ?_)
        show SS G X 8 _ _ 73 [(7, i9 r8), (0, rf G 174), (1, i9 p1), (2, i9 p2), (3, i9 p3), (4, i9 p4), (5, i9 p5), (6, i9 p6)] [] d11 _
        refine r_iload C 0 dX12_drip_73 rfl ?_
        exact r_iret C dX12_drip_75 (by decide) (by decide)
      · refine r_iconst C dX12_drip_47 ?_
        exact r_iret C dX12_drip_48 (by decide) (by decide)
    · refine r_aload_n C 0 dX12_drip_31 rfl rfl ?_
      refine r_iconst C dX12_drip_32 ?_
      refine r_callV C [i9 2, rf G 174] dX12_drip_33 (t_X12_fails_174 C.h1 C.h2 2 d5) mw_X12_89 mv_X12_fails la_174 ly_174 rfl (by decide) (by decide) (by decide) rfl rfl (Nat.le_of_ble_eq_true rfl) (fun r12 d13 => ?_)
      show SS G X 8 _ _ 36 [(0, rf G 174), (1, i9 p1), (2, i9 p2), (3, i9 p3), (4, i9 p4), (5, i9 p5), (6, i9 p6)] [i9 r12] d13 _
      exact r_iret C dX12_drip_36 (by decide) (by decide)
  · refine r_aload_n C 0 dX12_drip_13 rfl rfl ?_
    refine r_iconst C dX12_drip_14 ?_
    refine r_callV C [i9 1, rf G 174] dX12_drip_15 (t_X12_fails_174 C.h1 C.h2 1 d3) mw_X12_89 mv_X12_fails la_174 ly_174 rfl (by decide) (by decide) (by decide) rfl rfl (Nat.le_of_ble_eq_true rfl) (fun r14 d15 => ?_)
    show SS G X 8 _ _ 18 [(0, rf G 174), (1, i9 p1), (2, i9 p2), (3, i9 p3), (4, i9 p4), (5, i9 p5), (6, i9 p6)] [i9 r14] d15 _
    exact r_iret C dX12_drip_18 (by decide) (by decide)
theorem dX12_due_0 : decode cX12_due 0 = .ok (.aload_n 0, 1) := by decide +kernel
theorem dX12_due_1 : decode cX12_due 1 = .ok (.aload_n 0, 1) := by decide +kernel
theorem dX12_due_2 : decode cX12_due 2 = .ok (.iload_n 1, 1) := by decide +kernel
theorem dX12_due_3 : decode cX12_due 3 = .ok (.iload_n 2, 1) := by decide +kernel
theorem dX12_due_4 : decode cX12_due 4 = .ok (.iconst 0, 1) := by decide +kernel
theorem dX12_due_5 : decode cX12_due 5 = .ok (.invokevirtual 405, 3) := by decide +kernel
theorem dX12_due_8 : decode cX12_due 8 = .ok (.putfield 76, 3) := by decide +kernel
theorem dX12_due_11 : decode cX12_due 11 = .ok (.aload_n 0, 1) := by decide +kernel
theorem dX12_due_12 : decode cX12_due 12 = .ok (.getfield 76, 3) := by decide +kernel
theorem dX12_due_15 : decode cX12_due 15 = .ok (.ifCond .le 7, 3) := by decide +kernel
theorem dX12_due_18 : decode cX12_due 18 = .ok (.iconst 0, 1) := by decide +kernel
theorem dX12_due_19 : decode cX12_due 19 = .ok (.goto 9, 3) := by decide +kernel
theorem dX12_due_22 : decode cX12_due 22 = .ok (.aload_n 0, 1) := by decide +kernel
theorem dX12_due_23 : decode cX12_due 23 = .ok (.iload_n 1, 1) := by decide +kernel
theorem dX12_due_24 : decode cX12_due 24 = .ok (.iload_n 2, 1) := by decide +kernel
theorem dX12_due_25 : decode cX12_due 25 = .ok (.invokevirtual 421, 3) := by decide +kernel
theorem dX12_due_28 : decode cX12_due 28 = .ok (.ireturn, 1) := by decide +kernel
abbrev z_X12_due_174 : Z9 := (some .int, 1, 0, 0, 5, 110)
def m_X12_due_174 (p1 p2 : Int) (d : D9) : Option R9 := cl (m_X12_fingerFault_174 p1 p2 0 d) (fun r1 d2 => pf d2 174 3 r1 (fun d3 => if w32 (d3 174 3) ≤ 0 then cl (m_X12_dueOf_174 p1 p2 d3) (fun r4 d5 => rt r4 d5) else rt 0 d3))
set_option maxRecDepth 100000 in
theorem t_X12_due_174 {G : G9} {l : Launch} (h1 : va_D (A9 G) (wl G (fun _ _ => 0))) (h2 : l.stackTraces = false) (p1 p2 : Int) (d : D9) : MT G l yX12_due cX12_due 3 z_X12_due_174 [rf G 174, i9 p1, i9 p2] d (m_X12_due_174 p1 p2 d) := by
  refine mt_of (own := RX12) (by decide) rfl (Nat.le_of_ble_eq_true rfl) h1 h2 [(0, rf G 174), (1, i9 p1), (2, i9 p2)] rfl (fun X hX C => ?_)
  unfold m_X12_due_174
  refine r_aload_n C 0 dX12_due_0 rfl rfl ?_
  refine r_aload_n C 0 dX12_due_1 rfl rfl ?_
  refine r_iload_n C 1 dX12_due_2 rfl rfl ?_
  refine r_iload_n C 2 dX12_due_3 rfl rfl ?_
  refine r_iconst C dX12_due_4 ?_
  refine r_callV C [i9 0, i9 p2, i9 p1, rf G 174, rf G 174] dX12_due_5 (t_X12_fingerFault_174 C.h1 C.h2 p1 p2 0 d) mw_X12_405 mv_X12_fingerFault la_174 ly_174 rfl (by decide) (by decide) (by decide) rfl rfl (Nat.le_of_ble_eq_true rfl) (fun r1 d2 => ?_)
  show SS G X 3 _ _ 8 [(0, rf G 174), (1, i9 p1), (2, i9 p2)] [i9 r1, rf G 174] d2 _
  refine r_putI C dX12_due_8 fp_X12_76 la_174 ly_174 rfl (fun d3 => ?_)
  refine r_aload_n C 0 dX12_due_11 rfl rfl ?_
  refine r_getI C dX12_due_12 fl_X12_76 la_174 ly_174 rfl ?_
  refine r_if_le C (b := 0) 22 dX12_due_15 (by decide) (fun _ => ?_) (fun _ => ?_)
  · refine r_aload_n C 0 dX12_due_22 rfl rfl ?_
    refine r_iload_n C 1 dX12_due_23 rfl rfl ?_
    refine r_iload_n C 2 dX12_due_24 rfl rfl ?_
    refine r_callV C [i9 p2, i9 p1, rf G 174] dX12_due_25 (t_X12_dueOf_174 C.h1 C.h2 p1 p2 d3) mw_X12_421 mv_X12_dueOf la_174 ly_174 rfl (by decide) (by decide) (by decide) rfl rfl (Nat.le_of_ble_eq_true rfl) (fun r4 d5 => ?_)
    show SS G X 3 _ _ 28 [(0, rf G 174), (1, i9 p1), (2, i9 p2)] [i9 r4] d5 _
    exact r_iret C dX12_due_28 (by decide) (by decide)
  · refine r_iconst C dX12_due_18 ?_
    refine r_goto C 28 dX12_due_19 (by decide) ?_
    exact r_iret C dX12_due_28 (by decide) (by decide)
theorem dX12_fault_0 : decode cX12_fault 0 = .ok (.aload_n 0, 1) := by decide +kernel
theorem dX12_fault_1 : decode cX12_fault 1 = .ok (.iconst 0, 1) := by decide +kernel
theorem dX12_fault_2 : decode cX12_fault 2 = .ok (.putfield 76, 3) := by decide +kernel
theorem dX12_fault_5 : decode cX12_fault 5 = .ok (.iload_n 1, 1) := by decide +kernel
theorem dX12_fault_6 : decode cX12_fault 6 = .ok (.ifCond .ne 10, 3) := by decide +kernel
theorem dX12_fault_9 : decode cX12_fault 9 = .ok (.aload_n 0, 1) := by decide +kernel
theorem dX12_fault_10 : decode cX12_fault 10 = .ok (.getfield 187, 3) := by decide +kernel
theorem dX12_fault_13 : decode cX12_fault 13 = .ok (.goto 16, 3) := by decide +kernel
theorem dX12_fault_16 : decode cX12_fault 16 = .ok (.iload_n 1, 1) := by decide +kernel
theorem dX12_fault_17 : decode cX12_fault 17 = .ok (.iconst 1, 1) := by decide +kernel
theorem dX12_fault_18 : decode cX12_fault 18 = .ok (.if_icmp .ne 10, 3) := by decide +kernel
theorem dX12_fault_21 : decode cX12_fault 21 = .ok (.aload_n 0, 1) := by decide +kernel
theorem dX12_fault_22 : decode cX12_fault 22 = .ok (.getfield 29, 3) := by decide +kernel
theorem dX12_fault_25 : decode cX12_fault 25 = .ok (.goto 4, 3) := by decide +kernel
theorem dX12_fault_28 : decode cX12_fault 28 = .ok (.iconst (-1), 1) := by decide +kernel
theorem dX12_fault_29 : decode cX12_fault 29 = .ok (.ireturn, 1) := by decide +kernel
abbrev z_X12_fault_174 : Z9 := (some .int, 1, 0, 0, 1, 0)
def m_X12_fault_174 (p1 : Int) (d : D9) : Option R9 := pf d 174 3 0 (fun d1 => if w32 p1 ≠ 0 then if w32 p1 ≠ w32 1 then rt (-1) d1 else rt (d1 174 16) d1 else rt (d1 174 15) d1)
set_option maxRecDepth 100000 in
theorem t_X12_fault_174 {G : G9} {l : Launch} (h1 : va_D (A9 G) (wl G (fun _ _ => 0))) (h2 : l.stackTraces = false) (p1 : Int) (d : D9) : MT G l yX12_fault cX12_fault 2 z_X12_fault_174 [rf G 174, i9 p1] d (m_X12_fault_174 p1 d) := by
  refine mt_of (own := RX12) (by decide) rfl (Nat.le_of_ble_eq_true rfl) h1 h2 [(0, rf G 174), (1, i9 p1)] rfl (fun X hX C => ?_)
  unfold m_X12_fault_174
  refine r_aload_n C 0 dX12_fault_0 rfl rfl ?_
  refine r_iconst C dX12_fault_1 ?_
  refine r_putI C dX12_fault_2 fp_X12_76 la_174 ly_174 rfl (fun d1 => ?_)
  refine r_iload_n C 1 dX12_fault_5 rfl rfl ?_
  refine r_if_ne C (b := 0) 16 dX12_fault_6 (by decide) (fun _ => ?_) (fun _ => ?_)
  · refine r_iload_n C 1 dX12_fault_16 rfl rfl ?_
    refine r_iconst C dX12_fault_17 ?_
    refine r_icmp_ne C 28 dX12_fault_18 (by decide) (fun _ => ?_) (fun _ => ?_)
    · refine r_iconst C dX12_fault_28 ?_
      exact r_iret C dX12_fault_29 (by decide) (by decide)
    · refine r_aload_n C 0 dX12_fault_21 rfl rfl ?_
      refine r_getI C dX12_fault_22 fl_X12_29 la_174 ly_174 rfl ?_
      refine r_goto C 29 dX12_fault_25 (by decide) ?_
      exact r_iret C dX12_fault_29 (by decide) (by decide)
  · refine r_aload_n C 0 dX12_fault_9 rfl rfl ?_
    refine r_getI C dX12_fault_10 fl_X12_187 la_174 ly_174 rfl ?_
    refine r_goto C 29 dX12_fault_13 (by decide) ?_
    exact r_iret C dX12_fault_29 (by decide) (by decide)
theorem dX12_feed_0 : decode cX12_feed 0 = .ok (.aload_n 0, 1) := by decide +kernel
theorem dX12_feed_1 : decode cX12_feed 1 = .ok (.iconst 0, 1) := by decide +kernel
theorem dX12_feed_2 : decode cX12_feed 2 = .ok (.putfield 76, 3) := by decide +kernel
theorem dX12_feed_5 : decode cX12_feed 5 = .ok (.aload_n 0, 1) := by decide +kernel
theorem dX12_feed_6 : decode cX12_feed 6 = .ok (.getfield 133, 3) := by decide +kernel
theorem dX12_feed_9 : decode cX12_feed 9 = .ok (.bipush 20, 2) := by decide +kernel
theorem dX12_feed_11 : decode cX12_feed 11 = .ok (.iadd, 1) := by decide +kernel
theorem dX12_feed_12 : decode cX12_feed 12 = .ok (.sipush 400, 3) := by decide +kernel
theorem dX12_feed_15 : decode cX12_feed 15 = .ok (.if_icmp .le 5, 3) := by decide +kernel
theorem dX12_feed_18 : decode cX12_feed 18 = .ok (.iconst (-1), 1) := by decide +kernel
theorem dX12_feed_19 : decode cX12_feed 19 = .ok (.ireturn, 1) := by decide +kernel
theorem dX12_feed_20 : decode cX12_feed 20 = .ok (.iconst 0, 1) := by decide +kernel
theorem dX12_feed_21 : decode cX12_feed 21 = .ok (.istore 6, 2) := by decide +kernel
theorem dX12_feed_23 : decode cX12_feed 23 = .ok (.iload 6, 2) := by decide +kernel
theorem dX12_feed_25 : decode cX12_feed 25 = .ok (.bipush 20, 2) := by decide +kernel
theorem dX12_feed_27 : decode cX12_feed 27 = .ok (.if_icmp .ge 93, 3) := by decide +kernel
theorem dX12_feed_30 : decode cX12_feed 30 = .ok (.iload 6, 2) := by decide +kernel
theorem dX12_feed_32 : decode cX12_feed 32 = .ok (.iconst 4, 1) := by decide +kernel
theorem dX12_feed_33 : decode cX12_feed 33 = .ok (.if_icmp .ge 7, 3) := by decide +kernel
theorem dX12_feed_36 : decode cX12_feed 36 = .ok (.iload_n 1, 1) := by decide +kernel
theorem dX12_feed_37 : decode cX12_feed 37 = .ok (.goto 39, 3) := by decide +kernel
theorem dX12_feed_40 : decode cX12_feed 40 = .ok (.iload 6, 2) := by decide +kernel
theorem dX12_feed_42 : decode cX12_feed 42 = .ok (.bipush 8, 2) := by decide +kernel
theorem dX12_feed_44 : decode cX12_feed 44 = .ok (.if_icmp .ge 7, 3) := by decide +kernel
theorem dX12_feed_47 : decode cX12_feed 47 = .ok (.iload_n 2, 1) := by decide +kernel
theorem dX12_feed_48 : decode cX12_feed 48 = .ok (.goto 28, 3) := by decide +kernel
theorem dX12_feed_51 : decode cX12_feed 51 = .ok (.iload 6, 2) := by decide +kernel
theorem dX12_feed_53 : decode cX12_feed 53 = .ok (.bipush 12, 2) := by decide +kernel
theorem dX12_feed_55 : decode cX12_feed 55 = .ok (.if_icmp .ge 7, 3) := by decide +kernel
theorem dX12_feed_58 : decode cX12_feed 58 = .ok (.iload_n 3, 1) := by decide +kernel
theorem dX12_feed_59 : decode cX12_feed 59 = .ok (.goto 17, 3) := by decide +kernel
theorem dX12_feed_62 : decode cX12_feed 62 = .ok (.iload 6, 2) := by decide +kernel
theorem dX12_feed_64 : decode cX12_feed 64 = .ok (.bipush 16, 2) := by decide +kernel
theorem dX12_feed_66 : decode cX12_feed 66 = .ok (.if_icmp .ge 8, 3) := by decide +kernel
theorem dX12_feed_69 : decode cX12_feed 69 = .ok (.iload 4, 2) := by decide +kernel
theorem dX12_feed_71 : decode cX12_feed 71 = .ok (.goto 5, 3) := by decide +kernel
theorem dX12_feed_74 : decode cX12_feed 74 = .ok (.iload 5, 2) := by decide +kernel
theorem dX12_feed_76 : decode cX12_feed 76 = .ok (.istore 7, 2) := by decide +kernel
theorem dX12_feed_78 : decode cX12_feed 78 = .ok (.aload_n 0, 1) := by decide +kernel
theorem dX12_feed_79 : decode cX12_feed 79 = .ok (.getfield 20, 3) := by decide +kernel
theorem dX12_feed_82 : decode cX12_feed 82 = .ok (.aload_n 0, 1) := by decide +kernel
theorem dX12_feed_83 : decode cX12_feed 83 = .ok (.getfield 133, 3) := by decide +kernel
theorem dX12_feed_86 : decode cX12_feed 86 = .ok (.iload 7, 2) := by decide +kernel
theorem dX12_feed_88 : decode cX12_feed 88 = .ok (.bipush 24, 2) := by decide +kernel
theorem dX12_feed_90 : decode cX12_feed 90 = .ok (.bipush 8, 2) := by decide +kernel
theorem dX12_feed_92 : decode cX12_feed 92 = .ok (.iload 6, 2) := by decide +kernel
theorem dX12_feed_94 : decode cX12_feed 94 = .ok (.iconst 3, 1) := by decide +kernel
theorem dX12_feed_95 : decode cX12_feed 95 = .ok (.iand, 1) := by decide +kernel
theorem dX12_feed_96 : decode cX12_feed 96 = .ok (.imul, 1) := by decide +kernel
theorem dX12_feed_97 : decode cX12_feed 97 = .ok (.isub, 1) := by decide +kernel
theorem dX12_feed_98 : decode cX12_feed 98 = .ok (.iushr, 1) := by decide +kernel
theorem dX12_feed_99 : decode cX12_feed 99 = .ok (.sipush 255, 3) := by decide +kernel
theorem dX12_feed_102 : decode cX12_feed 102 = .ok (.iand, 1) := by decide +kernel
theorem dX12_feed_103 : decode cX12_feed 103 = .ok (.iastore, 1) := by decide +kernel
theorem dX12_feed_104 : decode cX12_feed 104 = .ok (.aload_n 0, 1) := by decide +kernel
theorem dX12_feed_105 : decode cX12_feed 105 = .ok (.dup, 1) := by decide +kernel
theorem dX12_feed_106 : decode cX12_feed 106 = .ok (.getfield 133, 3) := by decide +kernel
theorem dX12_feed_109 : decode cX12_feed 109 = .ok (.iconst 1, 1) := by decide +kernel
theorem dX12_feed_110 : decode cX12_feed 110 = .ok (.iadd, 1) := by decide +kernel
theorem dX12_feed_111 : decode cX12_feed 111 = .ok (.putfield 133, 3) := by decide +kernel
theorem dX12_feed_114 : decode cX12_feed 114 = .ok (.iinc 6 1, 3) := by decide +kernel
theorem dX12_feed_117 : decode cX12_feed 117 = .ok (.goto (-94), 3) := by decide +kernel
theorem dX12_feed_120 : decode cX12_feed 120 = .ok (.aload_n 0, 1) := by decide +kernel
theorem dX12_feed_121 : decode cX12_feed 121 = .ok (.getfield 133, 3) := by decide +kernel
theorem dX12_feed_124 : decode cX12_feed 124 = .ok (.ireturn, 1) := by decide +kernel
abbrev z_X12_feed_174 : Z9 := (some .int, 1, 0, 0, 1, 0)
def m_X12_feed_174_c76 (k_X12_feed_174_c23 : Int → Int → Int → Int → Int → Int → D9 → Option R9) (v1 v2 v3 v4 v5 v6 s0 : Int) (d : D9) : Option R9 := sd d 178 400 (d 174 7) (and9 (ush9 s0 (24 - (8 * (and9 v6 3)))) 255) (fun d1 => pf d1 174 7 ((d1 174 7) + 1) (fun d2 => k_X12_feed_174_c23 v1 v2 v3 v4 v5 (v6 + 1) d2))
def b_X12_feed_174_c23 (k_X12_feed_174_c23 : Int → Int → Int → Int → Int → Int → D9 → Option R9) (v1 v2 v3 v4 v5 v6 : Int) (d : D9) : Option R9 := if w32 20 ≤ w32 v6 then rt (d 174 7) d else if w32 4 ≤ w32 v6 then if w32 8 ≤ w32 v6 then if w32 12 ≤ w32 v6 then if w32 16 ≤ w32 v6 then m_X12_feed_174_c76 k_X12_feed_174_c23 v1 v2 v3 v4 v5 v6 v5 d else m_X12_feed_174_c76 k_X12_feed_174_c23 v1 v2 v3 v4 v5 v6 v4 d else m_X12_feed_174_c76 k_X12_feed_174_c23 v1 v2 v3 v4 v5 v6 v3 d else m_X12_feed_174_c76 k_X12_feed_174_c23 v1 v2 v3 v4 v5 v6 v2 d else m_X12_feed_174_c76 k_X12_feed_174_c23 v1 v2 v3 v4 v5 v6 v1 d
def m_X12_feed_174_c23 : Int → Int → Int → Int → Int → Int → D9 → Option R9 := fix9 (fun _ _ _ _ _ _ _ => none) (fun k => b_X12_feed_174_c23 k) FU
def m_X12_feed_174 (p1 p2 p3 p4 p5 : Int) (d : D9) : Option R9 := pf d 174 3 0 (fun d1 => if w32 ((d1 174 7) + 20) ≤ w32 400 then m_X12_feed_174_c23  p1 p2 p3 p4 p5 0 d1 else rt (-1) d1)
set_option maxRecDepth 100000 in
theorem s_X12_feed_174_c76 {G : G9} {X : X9} (C : CX G X cX12_feed 8 RX12 [] z_X12_feed_174) (k_X12_feed_174_c23 : Int → Int → Int → Int → Int → Int → D9 → Option R9) (hk_X12_feed_174_c23 : ∀ (v1 v2 v3 v4 v5 v6 : Int) (d : D9), SS G X 8 0 0 23 [(0, rf G 174), (1, i9 v1), (2, i9 v2), (3, i9 v3), (4, i9 v4), (5, i9 v5), (6, i9 v6)] [] d (k_X12_feed_174_c23 v1 v2 v3 v4 v5 v6 d)) : ∀ (v1 v2 v3 v4 v5 v6 s0 : Int) (d : D9), SS G X 8 0 0 76 [(0, rf G 174), (1, i9 v1), (2, i9 v2), (3, i9 v3), (4, i9 v4), (5, i9 v5), (6, i9 v6)] [i9 s0] d (m_X12_feed_174_c76 k_X12_feed_174_c23 v1 v2 v3 v4 v5 v6 s0 d) := by
  intro v1 v2 v3 v4 v5 v6 s0 d
  unfold m_X12_feed_174_c76
  refine r_istore C [(7, i9 s0), (0, rf G 174), (1, i9 v1), (2, i9 v2), (3, i9 v3), (4, i9 v4), (5, i9 v5), (6, i9 v6)] dX12_feed_76 (by decide) rfl ?_
  refine r_aload_n C 1 dX12_feed_78 rfl rfl ?_
  refine r_getR C 178 dX12_feed_79 fl_X12_20 la_174 ly_174 rfl rfl ?_
  refine r_aload_n C 1 dX12_feed_82 rfl rfl ?_
  refine r_getI C dX12_feed_83 fl_X12_133 la_174 ly_174 rfl ?_
  refine r_iload C 0 dX12_feed_86 rfl ?_
  refine r_bipush C dX12_feed_88 rfl ?_
  refine r_bipush C dX12_feed_90 rfl ?_
  refine r_iload C 7 dX12_feed_92 rfl ?_
  refine r_iconst C dX12_feed_94 ?_
  refine r_iand C dX12_feed_95 ?_
  refine r_imul C dX12_feed_96 ?_
  refine r_isub C dX12_feed_97 ?_
  refine r_iushr C dX12_feed_98 ?_
  refine r_sipush C dX12_feed_99 rfl ?_
  refine r_iand C dX12_feed_102 ?_
  refine r_iast C dX12_feed_103 la_178 ly_178 (fun d1 => ?_)
  refine r_aload_n C 1 dX12_feed_104 rfl rfl ?_
  refine r_dup C dX12_feed_105 rfl ?_
  refine r_getI C dX12_feed_106 fl_X12_133 la_174 ly_174 rfl ?_
  refine r_iconst C dX12_feed_109 ?_
  refine r_iadd C dX12_feed_110 ?_
  refine r_putI C dX12_feed_111 fp_X12_133 la_174 ly_174 rfl (fun d2 => ?_)
  refine r_iinc C 7 [(6, i9 (v6 + 1)), (7, i9 s0), (0, rf G 174), (1, i9 v1), (2, i9 v2), (3, i9 v3), (4, i9 v4), (5, i9 v5)] dX12_feed_114 rfl (by decide) rfl ?_
  refine r_goto C 23 dX12_feed_117 (by decide) ?_
  refine ss_wide (k' := 0) (n' := 0) (by decide) (by decide) ?_
  refine ss_ls [(0, rf G 174), (1, i9 v1), (2, i9 v2), (3, i9 v3), (4, i9 v4), (5, i9 v5), (6, i9 (v6 + 1))] [2, 3, 4, 5, 6, 7, 0] rfl ?_
  exact hk_X12_feed_174_c23 v1 v2 v3 v4 v5 (v6 + 1) d2
set_option maxRecDepth 100000 in
theorem sb_X12_feed_174_c23 {G : G9} {X : X9} (C : CX G X cX12_feed 8 RX12 [] z_X12_feed_174) (k_X12_feed_174_c23 : Int → Int → Int → Int → Int → Int → D9 → Option R9) (hk_X12_feed_174_c23 : ∀ (v1 v2 v3 v4 v5 v6 : Int) (d : D9), SS G X 8 0 0 23 [(0, rf G 174), (1, i9 v1), (2, i9 v2), (3, i9 v3), (4, i9 v4), (5, i9 v5), (6, i9 v6)] [] d (k_X12_feed_174_c23 v1 v2 v3 v4 v5 v6 d)) : ∀ (v1 v2 v3 v4 v5 v6 : Int) (d : D9), SS G X 8 0 0 23 [(0, rf G 174), (1, i9 v1), (2, i9 v2), (3, i9 v3), (4, i9 v4), (5, i9 v5), (6, i9 v6)] [] d (b_X12_feed_174_c23 k_X12_feed_174_c23 v1 v2 v3 v4 v5 v6 d) := by
  intro v1 v2 v3 v4 v5 v6 d
  unfold b_X12_feed_174_c23
  refine r_iload C 6 dX12_feed_23 rfl ?_
  refine r_bipush C dX12_feed_25 rfl ?_
  refine r_icmp_ge C 120 dX12_feed_27 (by decide) (fun _ => ?_) (fun _ => ?_)
  · refine r_aload_n C 0 dX12_feed_120 rfl rfl ?_
    refine r_getI C dX12_feed_121 fl_X12_133 la_174 ly_174 rfl ?_
    exact r_iret C dX12_feed_124 (by decide) (by decide)
  · refine r_iload C 6 dX12_feed_30 rfl ?_
    refine r_iconst C dX12_feed_32 ?_
    refine r_icmp_ge C 40 dX12_feed_33 (by decide) (fun _ => ?_) (fun _ => ?_)
    · refine r_iload C 6 dX12_feed_40 rfl ?_
      refine r_bipush C dX12_feed_42 rfl ?_
      refine r_icmp_ge C 51 dX12_feed_44 (by decide) (fun _ => ?_) (fun _ => ?_)
      · refine r_iload C 6 dX12_feed_51 rfl ?_
        refine r_bipush C dX12_feed_53 rfl ?_
        refine r_icmp_ge C 62 dX12_feed_55 (by decide) (fun _ => ?_) (fun _ => ?_)
        · refine r_iload C 6 dX12_feed_62 rfl ?_
          refine r_bipush C dX12_feed_64 rfl ?_
          refine r_icmp_ge C 74 dX12_feed_66 (by decide) (fun _ => ?_) (fun _ => ?_)
          · refine r_iload C 5 dX12_feed_74 rfl ?_
            refine ss_wide (k' := 0) (n' := 0) (by decide) (by decide) ?_
            refine ss_ls [(0, rf G 174), (1, i9 v1), (2, i9 v2), (3, i9 v3), (4, i9 v4), (5, i9 v5), (6, i9 v6)] [0, 1, 2, 3, 4, 5, 6] rfl ?_
            exact s_X12_feed_174_c76 C k_X12_feed_174_c23 hk_X12_feed_174_c23 v1 v2 v3 v4 v5 v6 v5 d
          · refine r_iload C 4 dX12_feed_69 rfl ?_
            refine r_goto C 76 dX12_feed_71 (by decide) ?_
            refine ss_wide (k' := 0) (n' := 0) (by decide) (by decide) ?_
            refine ss_ls [(0, rf G 174), (1, i9 v1), (2, i9 v2), (3, i9 v3), (4, i9 v4), (5, i9 v5), (6, i9 v6)] [0, 1, 2, 3, 4, 5, 6] rfl ?_
            exact s_X12_feed_174_c76 C k_X12_feed_174_c23 hk_X12_feed_174_c23 v1 v2 v3 v4 v5 v6 v4 d
        · refine r_iload_n C 3 dX12_feed_58 rfl rfl ?_
          refine r_goto C 76 dX12_feed_59 (by decide) ?_
          refine ss_wide (k' := 0) (n' := 0) (by decide) (by decide) ?_
          refine ss_ls [(0, rf G 174), (1, i9 v1), (2, i9 v2), (3, i9 v3), (4, i9 v4), (5, i9 v5), (6, i9 v6)] [0, 1, 2, 3, 4, 5, 6] rfl ?_
          exact s_X12_feed_174_c76 C k_X12_feed_174_c23 hk_X12_feed_174_c23 v1 v2 v3 v4 v5 v6 v3 d
      · refine r_iload_n C 2 dX12_feed_47 rfl rfl ?_
        refine r_goto C 76 dX12_feed_48 (by decide) ?_
        refine ss_wide (k' := 0) (n' := 0) (by decide) (by decide) ?_
        refine ss_ls [(0, rf G 174), (1, i9 v1), (2, i9 v2), (3, i9 v3), (4, i9 v4), (5, i9 v5), (6, i9 v6)] [0, 1, 2, 3, 4, 5, 6] rfl ?_
        exact s_X12_feed_174_c76 C k_X12_feed_174_c23 hk_X12_feed_174_c23 v1 v2 v3 v4 v5 v6 v2 d
    · refine r_iload_n C 1 dX12_feed_36 rfl rfl ?_
      refine r_goto C 76 dX12_feed_37 (by decide) ?_
      refine ss_wide (k' := 0) (n' := 0) (by decide) (by decide) ?_
      refine ss_ls [(0, rf G 174), (1, i9 v1), (2, i9 v2), (3, i9 v3), (4, i9 v4), (5, i9 v5), (6, i9 v6)] [0, 1, 2, 3, 4, 5, 6] rfl ?_
      exact s_X12_feed_174_c76 C k_X12_feed_174_c23 hk_X12_feed_174_c23 v1 v2 v3 v4 v5 v6 v1 d
theorem s_X12_feed_174_c23 {G : G9} {X : X9} (C : CX G X cX12_feed 8 RX12 [] z_X12_feed_174) : ∀ (v1 v2 v3 v4 v5 v6 : Int) (d : D9), SS G X 8 0 0 23 [(0, rf G 174), (1, i9 v1), (2, i9 v2), (3, i9 v3), (4, i9 v4), (5, i9 v5), (6, i9 v6)] [] d (m_X12_feed_174_c23  v1 v2 v3 v4 v5 v6 d) :=
  fix9_ind (P := fun k => ∀ (v1 v2 v3 v4 v5 v6 : Int) (d : D9), SS G X 8 0 0 23 [(0, rf G 174), (1, i9 v1), (2, i9 v2), (3, i9 v3), (4, i9 v4), (5, i9 v5), (6, i9 v6)] [] d (k v1 v2 v3 v4 v5 v6 d)) (fun _ _ _ _ _ _ _ => ss_none) (fun k hk => sb_X12_feed_174_c23 C k hk) FU
set_option maxRecDepth 100000 in
theorem t_X12_feed_174 {G : G9} {l : Launch} (h1 : va_D (A9 G) (wl G (fun _ _ => 0))) (h2 : l.stackTraces = false) (p1 p2 p3 p4 p5 : Int) (d : D9) : MT G l yX12_feed cX12_feed 8 z_X12_feed_174 [rf G 174, i9 p1, i9 p2, i9 p3, i9 p4, i9 p5] d (m_X12_feed_174 p1 p2 p3 p4 p5 d) := by
  refine mt_of (own := RX12) (by decide) rfl (Nat.le_of_ble_eq_true rfl) h1 h2 [(0, rf G 174), (1, i9 p1), (2, i9 p2), (3, i9 p3), (4, i9 p4), (5, i9 p5)] rfl (fun X hX C => ?_)
  unfold m_X12_feed_174
  refine r_aload_n C 0 dX12_feed_0 rfl rfl ?_
  refine r_iconst C dX12_feed_1 ?_
  refine r_putI C dX12_feed_2 fp_X12_76 la_174 ly_174 rfl (fun d1 => ?_)
  refine r_aload_n C 0 dX12_feed_5 rfl rfl ?_
  refine r_getI C dX12_feed_6 fl_X12_133 la_174 ly_174 rfl ?_
  refine r_bipush C dX12_feed_9 rfl ?_
  refine r_iadd C dX12_feed_11 ?_
  refine r_sipush C dX12_feed_12 rfl ?_
  refine r_icmp_le C 20 dX12_feed_15 (by decide) (fun _ => ?_) (fun _ => ?_)
  · refine r_iconst C dX12_feed_20 ?_
    refine r_istore C [(6, i9 0), (0, rf G 174), (1, i9 p1), (2, i9 p2), (3, i9 p3), (4, i9 p4), (5, i9 p5)] dX12_feed_21 (by decide) rfl ?_
    refine ss_wide (k' := 0) (n' := 0) (by decide) (by decide) ?_
    refine ss_ls [(0, rf G 174), (1, i9 p1), (2, i9 p2), (3, i9 p3), (4, i9 p4), (5, i9 p5), (6, i9 0)] [1, 2, 3, 4, 5, 6, 0] rfl ?_
    exact s_X12_feed_174_c23 C  p1 p2 p3 p4 p5 0 d1
  · refine r_iconst C dX12_feed_18 ?_
    exact r_iret C dX12_feed_19 (by decide) (by decide)

theorem dX0_commonOf_0 : decode cX0_commonOf 0 = .ok (.lload_n 0, 1) := by decide +kernel
theorem dX0_commonOf_1 : decode cX0_commonOf 1 = .ok (.lstore 4, 2) := by decide +kernel
theorem dX0_commonOf_3 : decode cX0_commonOf 3 = .ok (.lload_n 2, 1) := by decide +kernel
theorem dX0_commonOf_4 : decode cX0_commonOf 4 = .ok (.lstore 6, 2) := by decide +kernel
theorem dX0_commonOf_6 : decode cX0_commonOf 6 = .ok (.iconst 0, 1) := by decide +kernel
theorem dX0_commonOf_7 : decode cX0_commonOf 7 = .ok (.istore 8, 2) := by decide +kernel
theorem dX0_commonOf_9 : decode cX0_commonOf 9 = .ok (.iload 8, 2) := by decide +kernel
theorem dX0_commonOf_11 : decode cX0_commonOf 11 = .ok (.bipush 100, 2) := by decide +kernel
theorem dX0_commonOf_13 : decode cX0_commonOf 13 = .ok (.if_icmp .ge 31, 3) := by decide +kernel
theorem dX0_commonOf_16 : decode cX0_commonOf 16 = .ok (.lload 6, 2) := by decide +kernel
theorem dX0_commonOf_18 : decode cX0_commonOf 18 = .ok (.lconst 0, 1) := by decide +kernel
theorem dX0_commonOf_19 : decode cX0_commonOf 19 = .ok (.lcmp, 1) := by decide +kernel
theorem dX0_commonOf_20 : decode cX0_commonOf 20 = .ok (.ifCond .eq 24, 3) := by decide +kernel
theorem dX0_commonOf_23 : decode cX0_commonOf 23 = .ok (.lload 4, 2) := by decide +kernel
theorem dX0_commonOf_25 : decode cX0_commonOf 25 = .ok (.lload 6, 2) := by decide +kernel
theorem dX0_commonOf_27 : decode cX0_commonOf 27 = .ok (.lrem, 1) := by decide +kernel
theorem dX0_commonOf_28 : decode cX0_commonOf 28 = .ok (.lstore 9, 2) := by decide +kernel
theorem dX0_commonOf_30 : decode cX0_commonOf 30 = .ok (.lload 6, 2) := by decide +kernel
theorem dX0_commonOf_32 : decode cX0_commonOf 32 = .ok (.lstore 4, 2) := by decide +kernel
theorem dX0_commonOf_34 : decode cX0_commonOf 34 = .ok (.lload 9, 2) := by decide +kernel
theorem dX0_commonOf_36 : decode cX0_commonOf 36 = .ok (.lstore 6, 2) := by decide +kernel
theorem dX0_commonOf_38 : decode cX0_commonOf 38 = .ok (.iinc 8 1, 3) := by decide +kernel
theorem dX0_commonOf_41 : decode cX0_commonOf 41 = .ok (.goto (-32), 3) := by decide +kernel
theorem dX0_commonOf_44 : decode cX0_commonOf 44 = .ok (.lload 4, 2) := by decide +kernel
theorem dX0_commonOf_46 : decode cX0_commonOf 46 = .ok (.lreturn, 1) := by decide +kernel
abbrev z_X0_commonOf : Z9 := (some .long, 2, 0, 0, 1, 0)
def b_X0_commonOf_c9 (k_X0_commonOf_c9 : Int → Int → Int → D9 → Option R9) (v4 v6 v8 : Int) (d : D9) : Option R9 := if w32 100 ≤ w32 v8 then rt v4 d else if w64 v6 = w64 0 then rt v4 d else dvL v6 (lt9v (remL v4 v6) (fun a2 => k_X0_commonOf_c9 v6 a2 (v8 + 1) d))
def m_X0_commonOf_c9 : Int → Int → Int → D9 → Option R9 := fix9 (fun _ _ _ _ => none) (fun k => b_X0_commonOf_c9 k) FU
def m_X0_commonOf (p0 p1 : Int) (d : D9) : Option R9 := m_X0_commonOf_c9  p0 p1 0 d
set_option maxRecDepth 100000 in
theorem sb_X0_commonOf_c9 {G : G9} {X : X9} (C : CX G X cX0_commonOf 11 RX0 [] z_X0_commonOf) (k_X0_commonOf_c9 : Int → Int → Int → D9 → Option R9) (hk_X0_commonOf_c9 : ∀ (v4 v6 v8 : Int) (d : D9), SS G X 11 0 0 9 [(4, l9 v4), (6, l9 v6), (8, i9 v8)] [] d (k_X0_commonOf_c9 v4 v6 v8 d)) : ∀ (v4 v6 v8 : Int) (d : D9), SS G X 11 0 0 9 [(4, l9 v4), (6, l9 v6), (8, i9 v8)] [] d (b_X0_commonOf_c9 k_X0_commonOf_c9 v4 v6 v8 d) := by
  intro v4 v6 v8 d
  unfold b_X0_commonOf_c9
  refine r_iload C 2 dX0_commonOf_9 rfl ?_
  refine r_bipush C dX0_commonOf_11 rfl ?_
  refine r_icmp_ge C 44 dX0_commonOf_13 (by decide) (fun _ => ?_) (fun _ => ?_)
  · refine r_lload C 0 dX0_commonOf_44 rfl ?_
    exact r_lret C dX0_commonOf_46 (by decide) (by decide)
  · refine r_lload C 1 dX0_commonOf_16 rfl ?_
    refine r_lconst C dX0_commonOf_18 (a := 0) rfl ?_
    refine r_lcmp_eq C 44 dX0_commonOf_19 dX0_commonOf_20 (by decide) (fun _ => ?_) (fun _ => ?_)
    · refine r_lload C 0 dX0_commonOf_44 rfl ?_
      exact r_lret C dX0_commonOf_46 (by decide) (by decide)
    · refine r_lload C 0 dX0_commonOf_23 rfl ?_
      refine r_lload C 1 dX0_commonOf_25 rfl ?_
      refine ss_dvL (fun h1 => ?_)
      refine r_lrem C dX0_commonOf_27 h1 ?_
      refine ss_ltL (fun a2 => ?_)
      refine r_lstore C [(9, l9 a2), (4, l9 v4), (6, l9 v6), (8, i9 v8)] dX0_commonOf_28 (by decide) rfl ?_
      refine r_lload C 2 dX0_commonOf_30 rfl ?_
      refine r_lstore C [(4, l9 v6), (9, l9 a2), (6, l9 v6), (8, i9 v8)] dX0_commonOf_32 (by decide) rfl ?_
      refine r_lload C 1 dX0_commonOf_34 rfl ?_
      refine r_lstore C [(6, l9 a2), (4, l9 v6), (9, l9 a2), (8, i9 v8)] dX0_commonOf_36 (by decide) rfl ?_
      refine r_iinc C 3 [(8, i9 (v8 + 1)), (6, l9 a2), (4, l9 v6), (9, l9 a2)] dX0_commonOf_38 rfl (by decide) rfl ?_
      refine r_goto C 9 dX0_commonOf_41 (by decide) ?_
      refine ss_wide (k' := 0) (n' := 0) (by decide) (by decide) ?_
      refine ss_ls [(4, l9 v6), (6, l9 a2), (8, i9 (v8 + 1))] [2, 1, 0] rfl ?_
      exact hk_X0_commonOf_c9 v6 a2 (v8 + 1) d
theorem s_X0_commonOf_c9 {G : G9} {X : X9} (C : CX G X cX0_commonOf 11 RX0 [] z_X0_commonOf) : ∀ (v4 v6 v8 : Int) (d : D9), SS G X 11 0 0 9 [(4, l9 v4), (6, l9 v6), (8, i9 v8)] [] d (m_X0_commonOf_c9  v4 v6 v8 d) :=
  fix9_ind (P := fun k => ∀ (v4 v6 v8 : Int) (d : D9), SS G X 11 0 0 9 [(4, l9 v4), (6, l9 v6), (8, i9 v8)] [] d (k v4 v6 v8 d)) (fun _ _ _ _ => ss_none) (fun k hk => sb_X0_commonOf_c9 C k hk) FU
set_option maxRecDepth 100000 in
theorem t_X0_commonOf {G : G9} {l : Launch} (h1 : va_D (A9 G) (wl G (fun _ _ => 0))) (h2 : l.stackTraces = false) (p0 p1 : Int) (d : D9) : MT G l yX0_commonOf cX0_commonOf 11 z_X0_commonOf [l9 p0, l9 p1] d (m_X0_commonOf p0 p1 d) := by
  refine mt_of (own := RX0) (by decide) rfl (Nat.le_of_ble_eq_true rfl) h1 h2 [(0, l9 p0), (2, l9 p1)] rfl (fun X hX C => ?_)
  unfold m_X0_commonOf
  refine r_lload_n C 0 dX0_commonOf_0 rfl rfl ?_
  refine r_lstore C [(4, l9 p0), (0, l9 p0), (2, l9 p1)] dX0_commonOf_1 (by decide) rfl ?_
  refine r_lload_n C 2 dX0_commonOf_3 rfl rfl ?_
  refine r_lstore C [(6, l9 p1), (4, l9 p0), (0, l9 p0), (2, l9 p1)] dX0_commonOf_4 (by decide) rfl ?_
  refine r_iconst C dX0_commonOf_6 ?_
  refine r_istore C [(8, i9 0), (6, l9 p1), (4, l9 p0), (0, l9 p0), (2, l9 p1)] dX0_commonOf_7 (by decide) rfl ?_
  refine ss_wide (k' := 0) (n' := 0) (by decide) (by decide) ?_
  refine ss_ls [(4, l9 p0), (6, l9 p1), (8, i9 0)] [2, 1, 0] rfl ?_
  exact s_X0_commonOf_c9 C  p0 p1 0 d
theorem dX0_drop_0 : decode cX0_drop 0 = .ok (.aload_n 0, 1) := by decide +kernel
theorem dX0_drop_1 : decode cX0_drop 1 = .ok (.lconst 0, 1) := by decide +kernel
theorem dX0_drop_2 : decode cX0_drop 2 = .ok (.putfield 17, 3) := by decide +kernel
theorem dX0_drop_5 : decode cX0_drop 5 = .ok (.aload_n 0, 1) := by decide +kernel
theorem dX0_drop_6 : decode cX0_drop 6 = .ok (.lconst 0, 1) := by decide +kernel
theorem dX0_drop_7 : decode cX0_drop 7 = .ok (.putfield 21, 3) := by decide +kernel
theorem dX0_drop_10 : decode cX0_drop 10 = .ok (.iconst 0, 1) := by decide +kernel
theorem dX0_drop_11 : decode cX0_drop 11 = .ok (.ireturn, 1) := by decide +kernel
abbrev z_X0_drop_53 : Z9 := (some .boolean, 1, 0, 0, 1, 0)
def m_X0_drop_53 (d : D9) : Option R9 := pf d 53 0 0 (fun d1 => pf d1 53 1 0 (fun d2 => rt (0 % 2) d2))
set_option maxRecDepth 100000 in
theorem t_X0_drop_53 {G : G9} {l : Launch} (h1 : va_D (A9 G) (wl G (fun _ _ => 0))) (h2 : l.stackTraces = false) (d : D9) : MT G l yX0_drop cX0_drop 1 z_X0_drop_53 [rf G 53] d (m_X0_drop_53  d) := by
  refine mt_of (own := RX0) (by decide) rfl (Nat.le_of_ble_eq_true rfl) h1 h2 [(0, rf G 53)] rfl (fun X hX C => ?_)
  unfold m_X0_drop_53
  refine r_aload_n C 0 dX0_drop_0 rfl rfl ?_
  refine r_lconst C dX0_drop_1 (a := 0) rfl ?_
  refine r_putL C dX0_drop_2 fp_X0_17 la_53 ly_53 rfl (fun d1 => ?_)
  refine r_aload_n C 0 dX0_drop_5 rfl rfl ?_
  refine r_lconst C dX0_drop_6 (a := 0) rfl ?_
  refine r_putL C dX0_drop_7 fp_X0_21 la_53 ly_53 rfl (fun d2 => ?_)
  refine r_iconst C dX0_drop_10 ?_
  exact r_zret C dX0_drop_11 (by decide) (by decide)
theorem dX0_put_0 : decode cX0_put 0 = .ok (.lload_n 3, 1) := by decide +kernel
theorem dX0_put_1 : decode cX0_put 1 = .ok (.lconst 0, 1) := by decide +kernel
theorem dX0_put_2 : decode cX0_put 2 = .ok (.lcmp, 1) := by decide +kernel
theorem dX0_put_3 : decode cX0_put 3 = .ok (.ifCond .gt 8, 3) := by decide +kernel
theorem dX0_put_6 : decode cX0_put 6 = .ok (.aload_n 0, 1) := by decide +kernel
theorem dX0_put_7 : decode cX0_put 7 = .ok (.invokevirtual 7, 3) := by decide +kernel
theorem dX0_put_10 : decode cX0_put 10 = .ok (.ireturn, 1) := by decide +kernel
theorem dX0_put_11 : decode cX0_put 11 = .ok (.lload_n 1, 1) := by decide +kernel
theorem dX0_put_12 : decode cX0_put 12 = .ok (.lload_n 3, 1) := by decide +kernel
theorem dX0_put_13 : decode cX0_put 13 = .ok (.invokestatic 13, 3) := by decide +kernel
theorem dX0_put_16 : decode cX0_put 16 = .ok (.lstore 5, 2) := by decide +kernel
theorem dX0_put_18 : decode cX0_put 18 = .ok (.lload 5, 2) := by decide +kernel
theorem dX0_put_20 : decode cX0_put 20 = .ok (.lconst 0, 1) := by decide +kernel
theorem dX0_put_21 : decode cX0_put 21 = .ok (.lcmp, 1) := by decide +kernel
theorem dX0_put_22 : decode cX0_put 22 = .ok (.ifCond .gt 8, 3) := by decide +kernel
theorem dX0_put_25 : decode cX0_put 25 = .ok (.aload_n 0, 1) := by decide +kernel
theorem dX0_put_26 : decode cX0_put 26 = .ok (.invokevirtual 7, 3) := by decide +kernel
theorem dX0_put_29 : decode cX0_put 29 = .ok (.ireturn, 1) := by decide +kernel
theorem dX0_put_30 : decode cX0_put 30 = .ok (.aload_n 0, 1) := by decide +kernel
theorem dX0_put_31 : decode cX0_put 31 = .ok (.lload_n 1, 1) := by decide +kernel
theorem dX0_put_32 : decode cX0_put 32 = .ok (.lload 5, 2) := by decide +kernel
theorem dX0_put_34 : decode cX0_put 34 = .ok (.ldiv, 1) := by decide +kernel
theorem dX0_put_35 : decode cX0_put 35 = .ok (.putfield 17, 3) := by decide +kernel
theorem dX0_put_38 : decode cX0_put 38 = .ok (.aload_n 0, 1) := by decide +kernel
theorem dX0_put_39 : decode cX0_put 39 = .ok (.lload_n 3, 1) := by decide +kernel
theorem dX0_put_40 : decode cX0_put 40 = .ok (.lload 5, 2) := by decide +kernel
theorem dX0_put_42 : decode cX0_put 42 = .ok (.ldiv, 1) := by decide +kernel
theorem dX0_put_43 : decode cX0_put 43 = .ok (.putfield 21, 3) := by decide +kernel
theorem dX0_put_46 : decode cX0_put 46 = .ok (.iconst 1, 1) := by decide +kernel
theorem dX0_put_47 : decode cX0_put 47 = .ok (.ireturn, 1) := by decide +kernel
abbrev z_X0_put_53 : Z9 := (some .boolean, 1, 0, 0, 2, 30)
def m_X0_put_53 (p1 p2 : Int) (d : D9) : Option R9 := if w64 0 < w64 p2 then cl (m_X0_commonOf p1 p2 d) (fun v1 d2 => if w64 0 < w64 v1 then dvL v1 (pf d2 53 0 (divL p1 v1) (fun d4 => dvL v1 (pf d4 53 1 (divL p2 v1) (fun d6 => rt (1 % 2) d6)))) else cl (m_X0_drop_53 d2) (fun v7 d8 => rt (v7 % 2) d8)) else cl (m_X0_drop_53 d) (fun v9 d10 => rt (v9 % 2) d10)
set_option maxRecDepth 100000 in
theorem t_X0_put_53 {G : G9} {l : Launch} (h1 : va_D (A9 G) (wl G (fun _ _ => 0))) (h2 : l.stackTraces = false) (p1 p2 : Int) (d : D9) : MT G l yX0_put cX0_put 7 z_X0_put_53 [rf G 53, l9 p1, l9 p2] d (m_X0_put_53 p1 p2 d) := by
  refine mt_of (own := RX0) (by decide) rfl (Nat.le_of_ble_eq_true rfl) h1 h2 [(0, rf G 53), (1, l9 p1), (3, l9 p2)] rfl (fun X hX C => ?_)
  unfold m_X0_put_53
  refine r_lload_n C 2 dX0_put_0 rfl rfl ?_
  refine r_lconst C dX0_put_1 (a := 0) rfl ?_
  refine r_lcmp_gt C 11 dX0_put_2 dX0_put_3 (by decide) (fun _ => ?_) (fun _ => ?_)
  · refine r_lload_n C 1 dX0_put_11 rfl rfl ?_
    refine r_lload_n C 2 dX0_put_12 rfl rfl ?_
    refine r_callS C [l9 p2, l9 p1] dX0_put_13 (t_X0_commonOf C.h1 C.h2 p1 p2 d) mw_X0_13 ms_X0_commonOf (by decide) (by decide) (by decide) rfl rfl (by decide) (fun v1 d2 => ?_)
    show SS G X 7 _ _ 16 [(0, rf G 53), (1, l9 p1), (3, l9 p2)] [l9 v1] d2 _
    refine r_lstore C [(5, l9 v1), (0, rf G 53), (1, l9 p1), (3, l9 p2)] dX0_put_16 (by decide) rfl ?_
    refine r_lload C 0 dX0_put_18 rfl ?_
    refine r_lconst C dX0_put_20 (a := 0) rfl ?_
    refine r_lcmp_gt C 30 dX0_put_21 dX0_put_22 (by decide) (fun _ => ?_) (fun _ => ?_)
    · refine r_aload_n C 1 dX0_put_30 rfl rfl ?_
      refine r_lload_n C 2 dX0_put_31 rfl rfl ?_
      refine r_lload C 0 dX0_put_32 rfl ?_
      refine ss_dvL (fun h3 => ?_)
      refine r_ldiv C dX0_put_34 h3 ?_
      refine r_putL C dX0_put_35 fp_X0_17 la_53 ly_53 rfl (fun d4 => ?_)
      refine r_aload_n C 1 dX0_put_38 rfl rfl ?_
      refine r_lload_n C 3 dX0_put_39 rfl rfl ?_
      refine r_lload C 0 dX0_put_40 rfl ?_
      refine ss_dvL (fun h5 => ?_)
      refine r_ldiv C dX0_put_42 h5 ?_
      refine r_putL C dX0_put_43 fp_X0_21 la_53 ly_53 rfl (fun d6 => ?_)
      refine r_iconst C dX0_put_46 ?_
      exact r_zret C dX0_put_47 (by decide) (by decide)
    · refine r_aload_n C 1 dX0_put_25 rfl rfl ?_
      refine r_callV C [rf G 53] dX0_put_26 (t_X0_drop_53 C.h1 C.h2 d2) mw_X0_7 mv_X0_drop la_53 ly_53 rfl (by decide) (by decide) (by decide) rfl rfl (by decide) (fun v7 d8 => ?_)
      show SS G X 7 _ _ 29 [(5, l9 v1), (0, rf G 53), (1, l9 p1), (3, l9 p2)] [i9 v7] d8 _
      exact r_zret C dX0_put_29 (by decide) (by decide)
  · refine r_aload_n C 0 dX0_put_6 rfl rfl ?_
    refine r_callV C [rf G 53] dX0_put_7 (t_X0_drop_53 C.h1 C.h2 d) mw_X0_7 mv_X0_drop la_53 ly_53 rfl (by decide) (by decide) (by decide) rfl rfl (by decide) (fun v9 d10 => ?_)
    show SS G X 7 _ _ 10 [(0, rf G 53), (1, l9 p1), (3, l9 p2)] [i9 v9] d10 _
    exact r_zret C dX0_put_10 (by decide) (by decide)
theorem dX6_thick_0 : decode cX6_thick 0 = .ok (.iconst 0, 1) := by decide +kernel
theorem dX6_thick_1 : decode cX6_thick 1 = .ok (.istore_n 2, 1) := by decide +kernel
theorem dX6_thick_2 : decode cX6_thick 2 = .ok (.iconst 0, 1) := by decide +kernel
theorem dX6_thick_3 : decode cX6_thick 3 = .ok (.istore_n 3, 1) := by decide +kernel
theorem dX6_thick_4 : decode cX6_thick 4 = .ok (.iload_n 3, 1) := by decide +kernel
theorem dX6_thick_5 : decode cX6_thick 5 = .ok (.aload_n 0, 1) := by decide +kernel
theorem dX6_thick_6 : decode cX6_thick 6 = .ok (.getfield 24, 3) := by decide +kernel
theorem dX6_thick_9 : decode cX6_thick 9 = .ok (.iload_n 1, 1) := by decide +kernel
theorem dX6_thick_10 : decode cX6_thick 10 = .ok (.iaload, 1) := by decide +kernel
theorem dX6_thick_11 : decode cX6_thick 11 = .ok (.if_icmp .ge 31, 3) := by decide +kernel
theorem dX6_thick_14 : decode cX6_thick 14 = .ok (.iload_n 2, 1) := by decide +kernel
theorem dX6_thick_15 : decode cX6_thick 15 = .ok (.aload_n 0, 1) := by decide +kernel
theorem dX6_thick_16 : decode cX6_thick 16 = .ok (.getfield 42, 3) := by decide +kernel
theorem dX6_thick_19 : decode cX6_thick 19 = .ok (.iload_n 1, 1) := by decide +kernel
theorem dX6_thick_20 : decode cX6_thick 20 = .ok (.iconst 4, 1) := by decide +kernel
theorem dX6_thick_21 : decode cX6_thick 21 = .ok (.imul, 1) := by decide +kernel
theorem dX6_thick_22 : decode cX6_thick 22 = .ok (.iload_n 3, 1) := by decide +kernel
theorem dX6_thick_23 : decode cX6_thick 23 = .ok (.iadd, 1) := by decide +kernel
theorem dX6_thick_24 : decode cX6_thick 24 = .ok (.iaload, 1) := by decide +kernel
theorem dX6_thick_25 : decode cX6_thick 25 = .ok (.iconst (-1), 1) := by decide +kernel
theorem dX6_thick_26 : decode cX6_thick 26 = .ok (.if_icmp .eq 7, 3) := by decide +kernel
theorem dX6_thick_29 : decode cX6_thick 29 = .ok (.iconst 1, 1) := by decide +kernel
theorem dX6_thick_30 : decode cX6_thick 30 = .ok (.goto 4, 3) := by decide +kernel
theorem dX6_thick_33 : decode cX6_thick 33 = .ok (.iconst 0, 1) := by decide +kernel
theorem dX6_thick_34 : decode cX6_thick 34 = .ok (.iadd, 1) := by decide +kernel
theorem dX6_thick_35 : decode cX6_thick 35 = .ok (.istore_n 2, 1) := by decide +kernel
theorem dX6_thick_36 : decode cX6_thick 36 = .ok (.iinc 3 1, 3) := by decide +kernel
theorem dX6_thick_39 : decode cX6_thick 39 = .ok (.goto (-35), 3) := by decide +kernel
theorem dX6_thick_42 : decode cX6_thick 42 = .ok (.iload_n 2, 1) := by decide +kernel
theorem dX6_thick_43 : decode cX6_thick 43 = .ok (.ireturn, 1) := by decide +kernel
abbrev z_X6_thick_9 : Z9 := (some .int, 1, 0, 0, 1, 0)
def b_X6_thick_9_c4 (k_X6_thick_9_c4 : Int → Int → Int → D9 → Option R9) (v1 v2 v3 : Int) (d : D9) : Option R9 := ld d 14 30 v1 (fun t1 => if w32 t1 ≤ w32 v3 then rt v2 d else ld d 20 120 ((v1 * 4) + v3) (fun t2 => if w32 t2 = w32 (-1) then lt9v (v2 + 0) (fun a3 => k_X6_thick_9_c4 v1 a3 (v3 + 1) d) else lt9v (v2 + 1) (fun a4 => k_X6_thick_9_c4 v1 a4 (v3 + 1) d)))
def m_X6_thick_9_c4 : Int → Int → Int → D9 → Option R9 := fix9 (fun _ _ _ _ => none) (fun k => b_X6_thick_9_c4 k) FU
def m_X6_thick_9 (p1 : Int) (d : D9) : Option R9 := m_X6_thick_9_c4  p1 0 0 d
set_option maxRecDepth 100000 in
theorem sb_X6_thick_9_c4 {G : G9} {X : X9} (C : CX G X cX6_thick 4 RX6 [] z_X6_thick_9) (k_X6_thick_9_c4 : Int → Int → Int → D9 → Option R9) (hk_X6_thick_9_c4 : ∀ (v1 v2 v3 : Int) (d : D9), SS G X 4 0 0 4 [(0, rf G 9), (1, i9 v1), (2, i9 v2), (3, i9 v3)] [] d (k_X6_thick_9_c4 v1 v2 v3 d)) : ∀ (v1 v2 v3 : Int) (d : D9), SS G X 4 0 0 4 [(0, rf G 9), (1, i9 v1), (2, i9 v2), (3, i9 v3)] [] d (b_X6_thick_9_c4 k_X6_thick_9_c4 v1 v2 v3 d) := by
  intro v1 v2 v3 d
  unfold b_X6_thick_9_c4
  refine r_iload_n C 3 dX6_thick_4 rfl rfl ?_
  refine r_aload_n C 0 dX6_thick_5 rfl rfl ?_
  refine r_getR C 14 dX6_thick_6 fl_X6_24 la_9 ly_9 rfl rfl ?_
  refine r_iload_n C 1 dX6_thick_9 rfl rfl ?_
  refine r_iald C dX6_thick_10 la_14 ly_14 (fun t1 => ?_)
  refine r_icmp_ge C 42 dX6_thick_11 (by decide) (fun _ => ?_) (fun _ => ?_)
  · refine r_iload_n C 2 dX6_thick_42 rfl rfl ?_
    exact r_iret C dX6_thick_43 (by decide) (by decide)
  · refine r_iload_n C 2 dX6_thick_14 rfl rfl ?_
    refine r_aload_n C 0 dX6_thick_15 rfl rfl ?_
    refine r_getR C 20 dX6_thick_16 fl_X6_42 la_9 ly_9 rfl rfl ?_
    refine r_iload_n C 1 dX6_thick_19 rfl rfl ?_
    refine r_iconst C dX6_thick_20 ?_
    refine r_imul C dX6_thick_21 ?_
    refine r_iload_n C 3 dX6_thick_22 rfl rfl ?_
    refine r_iadd C dX6_thick_23 ?_
    refine r_iald C dX6_thick_24 la_20 ly_20 (fun t2 => ?_)
    refine r_iconst C dX6_thick_25 ?_
    refine r_icmp_eq C 33 dX6_thick_26 (by decide) (fun _ => ?_) (fun _ => ?_)
    · refine r_iconst C dX6_thick_33 ?_
      refine r_iadd C dX6_thick_34 ?_
      refine ss_lt (fun a3 => ?_)
      refine r_istore_n C [(2, i9 a3), (0, rf G 9), (1, i9 v1), (3, i9 v3)] dX6_thick_35 rfl (by decide) rfl ?_
      refine r_iinc C 3 [(3, i9 (v3 + 1)), (2, i9 a3), (0, rf G 9), (1, i9 v1)] dX6_thick_36 rfl (by decide) rfl ?_
      refine r_goto C 4 dX6_thick_39 (by decide) ?_
      refine ss_wide (k' := 0) (n' := 0) (by decide) (by decide) ?_
      refine ss_ls [(0, rf G 9), (1, i9 v1), (2, i9 a3), (3, i9 (v3 + 1))] [2, 3, 1, 0] rfl ?_
      exact hk_X6_thick_9_c4 v1 a3 (v3 + 1) d
    · refine r_iconst C dX6_thick_29 ?_
      refine r_goto C 34 dX6_thick_30 (by decide) ?_
      refine r_iadd C dX6_thick_34 ?_
      refine ss_lt (fun a4 => ?_)
      refine r_istore_n C [(2, i9 a4), (0, rf G 9), (1, i9 v1), (3, i9 v3)] dX6_thick_35 rfl (by decide) rfl ?_
      refine r_iinc C 3 [(3, i9 (v3 + 1)), (2, i9 a4), (0, rf G 9), (1, i9 v1)] dX6_thick_36 rfl (by decide) rfl ?_
      refine r_goto C 4 dX6_thick_39 (by decide) ?_
      refine ss_wide (k' := 0) (n' := 0) (by decide) (by decide) ?_
      refine ss_ls [(0, rf G 9), (1, i9 v1), (2, i9 a4), (3, i9 (v3 + 1))] [2, 3, 1, 0] rfl ?_
      exact hk_X6_thick_9_c4 v1 a4 (v3 + 1) d
theorem s_X6_thick_9_c4 {G : G9} {X : X9} (C : CX G X cX6_thick 4 RX6 [] z_X6_thick_9) : ∀ (v1 v2 v3 : Int) (d : D9), SS G X 4 0 0 4 [(0, rf G 9), (1, i9 v1), (2, i9 v2), (3, i9 v3)] [] d (m_X6_thick_9_c4  v1 v2 v3 d) :=
  fix9_ind (P := fun k => ∀ (v1 v2 v3 : Int) (d : D9), SS G X 4 0 0 4 [(0, rf G 9), (1, i9 v1), (2, i9 v2), (3, i9 v3)] [] d (k v1 v2 v3 d)) (fun _ _ _ _ => ss_none) (fun k hk => sb_X6_thick_9_c4 C k hk) FU
set_option maxRecDepth 100000 in
theorem t_X6_thick_9 {G : G9} {l : Launch} (h1 : va_D (A9 G) (wl G (fun _ _ => 0))) (h2 : l.stackTraces = false) (p1 : Int) (d : D9) : MT G l yX6_thick cX6_thick 4 z_X6_thick_9 [rf G 9, i9 p1] d (m_X6_thick_9 p1 d) := by
  refine mt_of (own := RX6) (by decide) rfl (Nat.le_of_ble_eq_true rfl) h1 h2 [(0, rf G 9), (1, i9 p1)] rfl (fun X hX C => ?_)
  unfold m_X6_thick_9
  refine r_iconst C dX6_thick_0 ?_
  refine r_istore_n C [(2, i9 0), (0, rf G 9), (1, i9 p1)] dX6_thick_1 rfl (by decide) rfl ?_
  refine r_iconst C dX6_thick_2 ?_
  refine r_istore_n C [(3, i9 0), (2, i9 0), (0, rf G 9), (1, i9 p1)] dX6_thick_3 rfl (by decide) rfl ?_
  refine ss_wide (k' := 0) (n' := 0) (by decide) (by decide) ?_
  refine ss_ls [(0, rf G 9), (1, i9 p1), (2, i9 0), (3, i9 0)] [2, 3, 1, 0] rfl ?_
  exact s_X6_thick_9_c4 C  p1 0 0 d
theorem dX11_askWithin_0 : decode cX11_askWithin 0 = .ok (.iload_n 0, 1) := by decide +kernel
theorem dX11_askWithin_1 : decode cX11_askWithin 1 = .ok (.iload_n 1, 1) := by decide +kernel
theorem dX11_askWithin_2 : decode cX11_askWithin 2 = .ok (.if_icmp .lt 8, 3) := by decide +kernel
theorem dX11_askWithin_5 : decode cX11_askWithin 5 = .ok (.iload_n 0, 1) := by decide +kernel
theorem dX11_askWithin_6 : decode cX11_askWithin 6 = .ok (.iload_n 2, 1) := by decide +kernel
theorem dX11_askWithin_7 : decode cX11_askWithin 7 = .ok (.if_icmp .le 14, 3) := by decide +kernel
theorem dX11_askWithin_10 : decode cX11_askWithin 10 = .ok (.new 109, 3) := by decide +kernel
theorem dX11_askWithin_13 : decode cX11_askWithin 13 = .ok (.dup, 1) := by decide +kernel
theorem dX11_askWithin_14 : decode cX11_askWithin 14 = .ok (.ldc_w 451, 3) := by decide +kernel
theorem dX11_askWithin_17 : decode cX11_askWithin 17 = .ok (.invokespecial 113, 3) := by decide +kernel
theorem dX11_askWithin_20 : decode cX11_askWithin 20 = .ok (.athrow, 1) := by decide +kernel
theorem dX11_askWithin_21 : decode cX11_askWithin 21 = .ok (.return_, 1) := by decide +kernel
abbrev z_X11_askWithin : Z9 := (none, 0, 1, 6, 6, 100)
def m_X11_askWithin_c10 (d : D9) : Option R9 := th 0 d
def m_X11_askWithin (p0 p1 p2 : Int) (d : D9) : Option R9 := if w32 p0 < w32 p1 then m_X11_askWithin_c10   d else if w32 p0 ≤ w32 p2 then rt 0 d else m_X11_askWithin_c10   d
set_option maxRecDepth 100000 in
theorem s_X11_askWithin_c10 {G : G9} {X : X9} (C : CX G X cX11_askWithin 3 RX11 [] z_X11_askWithin) : ∀ (d : D9), SS G X 3 0 0 10 [] [] d (m_X11_askWithin_c10   d) := by
  intro  d
  unfold m_X11_askWithin_c10
  exact r_throwW C (e := 0) 0 rfl tw_0_113 tc_0 dX11_askWithin_10 dX11_askWithin_13 dX11_askWithin_14 dX11_askWithin_17 dX11_askWithin_20 (by decide) (by decide) (by decide) (by decide)
set_option maxRecDepth 100000 in
theorem t_X11_askWithin {G : G9} {l : Launch} (h1 : va_D (A9 G) (wl G (fun _ _ => 0))) (h2 : l.stackTraces = false) (p0 p1 p2 : Int) (d : D9) : MT G l yX11_askWithin cX11_askWithin 3 z_X11_askWithin [i9 p0, i9 p1, i9 p2] d (m_X11_askWithin p0 p1 p2 d) := by
  refine mt_of (own := RX11) (by decide) rfl (Nat.le_of_ble_eq_true rfl) h1 h2 [(0, i9 p0), (1, i9 p1), (2, i9 p2)] rfl (fun X hX C => ?_)
  unfold m_X11_askWithin
  refine r_iload_n C 0 dX11_askWithin_0 rfl rfl ?_
  refine r_iload_n C 1 dX11_askWithin_1 rfl rfl ?_
  refine r_icmp_lt C 10 dX11_askWithin_2 (by decide) (fun _ => ?_) (fun _ => ?_)
  · refine ss_wide (k' := 0) (n' := 0) (by decide) (by decide) ?_
    refine ss_ls [] [] rfl ?_
    exact s_X11_askWithin_c10 C   d
  · refine r_iload_n C 0 dX11_askWithin_5 rfl rfl ?_
    refine r_iload_n C 2 dX11_askWithin_6 rfl rfl ?_
    refine r_icmp_le C 21 dX11_askWithin_7 (by decide) (fun _ => ?_) (fun _ => ?_)
    · exact r_vret C dX11_askWithin_21 (by decide) (by decide)
    · refine ss_wide (k' := 0) (n' := 0) (by decide) (by decide) ?_
      refine ss_ls [] [] rfl ?_
      exact s_X11_askWithin_c10 C   d
theorem dX6_isTurned_0 : decode cX6_isTurned 0 = .ok (.iload_n 1, 1) := by decide +kernel
theorem dX6_isTurned_1 : decode cX6_isTurned 1 = .ok (.iconst 4, 1) := by decide +kernel
theorem dX6_isTurned_2 : decode cX6_isTurned 2 = .ok (.imul, 1) := by decide +kernel
theorem dX6_isTurned_3 : decode cX6_isTurned 3 = .ok (.istore_n 2, 1) := by decide +kernel
theorem dX6_isTurned_4 : decode cX6_isTurned 4 = .ok (.iload_n 2, 1) := by decide +kernel
theorem dX6_isTurned_5 : decode cX6_isTurned 5 = .ok (.aload_n 0, 1) := by decide +kernel
theorem dX6_isTurned_6 : decode cX6_isTurned 6 = .ok (.getfield 24, 3) := by decide +kernel
theorem dX6_isTurned_9 : decode cX6_isTurned 9 = .ok (.iload_n 1, 1) := by decide +kernel
theorem dX6_isTurned_10 : decode cX6_isTurned 10 = .ok (.iaload, 1) := by decide +kernel
theorem dX6_isTurned_11 : decode cX6_isTurned 11 = .ok (.iadd, 1) := by decide +kernel
theorem dX6_isTurned_12 : decode cX6_isTurned 12 = .ok (.istore_n 3, 1) := by decide +kernel
theorem dX6_isTurned_13 : decode cX6_isTurned 13 = .ok (.iload_n 2, 1) := by decide +kernel
theorem dX6_isTurned_14 : decode cX6_isTurned 14 = .ok (.istore 4, 2) := by decide +kernel
theorem dX6_isTurned_16 : decode cX6_isTurned 16 = .ok (.iload 4, 2) := by decide +kernel
theorem dX6_isTurned_18 : decode cX6_isTurned 18 = .ok (.iload_n 3, 1) := by decide +kernel
theorem dX6_isTurned_19 : decode cX6_isTurned 19 = .ok (.if_icmp .ge 57, 3) := by decide +kernel
theorem dX6_isTurned_22 : decode cX6_isTurned 22 = .ok (.iload 4, 2) := by decide +kernel
theorem dX6_isTurned_24 : decode cX6_isTurned 24 = .ok (.iconst 1, 1) := by decide +kernel
theorem dX6_isTurned_25 : decode cX6_isTurned 25 = .ok (.iadd, 1) := by decide +kernel
theorem dX6_isTurned_26 : decode cX6_isTurned 26 = .ok (.istore 5, 2) := by decide +kernel
theorem dX6_isTurned_28 : decode cX6_isTurned 28 = .ok (.iload 5, 2) := by decide +kernel
theorem dX6_isTurned_30 : decode cX6_isTurned 30 = .ok (.iload_n 3, 1) := by decide +kernel
theorem dX6_isTurned_31 : decode cX6_isTurned 31 = .ok (.if_icmp .ge 39, 3) := by decide +kernel
theorem dX6_isTurned_34 : decode cX6_isTurned 34 = .ok (.aload_n 0, 1) := by decide +kernel
theorem dX6_isTurned_35 : decode cX6_isTurned 35 = .ok (.getfield 45, 3) := by decide +kernel
theorem dX6_isTurned_38 : decode cX6_isTurned 38 = .ok (.iload 5, 2) := by decide +kernel
theorem dX6_isTurned_40 : decode cX6_isTurned 40 = .ok (.iaload, 1) := by decide +kernel
theorem dX6_isTurned_41 : decode cX6_isTurned 41 = .ok (.iconst (-1), 1) := by decide +kernel
theorem dX6_isTurned_42 : decode cX6_isTurned 42 = .ok (.if_icmp .eq 22, 3) := by decide +kernel
theorem dX6_isTurned_45 : decode cX6_isTurned 45 = .ok (.aload_n 0, 1) := by decide +kernel
theorem dX6_isTurned_46 : decode cX6_isTurned 46 = .ok (.getfield 42, 3) := by decide +kernel
theorem dX6_isTurned_49 : decode cX6_isTurned 49 = .ok (.iload 4, 2) := by decide +kernel
theorem dX6_isTurned_51 : decode cX6_isTurned 51 = .ok (.iaload, 1) := by decide +kernel
theorem dX6_isTurned_52 : decode cX6_isTurned 52 = .ok (.aload_n 0, 1) := by decide +kernel
theorem dX6_isTurned_53 : decode cX6_isTurned 53 = .ok (.getfield 45, 3) := by decide +kernel
theorem dX6_isTurned_56 : decode cX6_isTurned 56 = .ok (.iload 5, 2) := by decide +kernel
theorem dX6_isTurned_58 : decode cX6_isTurned 58 = .ok (.iaload, 1) := by decide +kernel
theorem dX6_isTurned_59 : decode cX6_isTurned 59 = .ok (.if_icmp .le 5, 3) := by decide +kernel
theorem dX6_isTurned_62 : decode cX6_isTurned 62 = .ok (.iconst 1, 1) := by decide +kernel
theorem dX6_isTurned_63 : decode cX6_isTurned 63 = .ok (.ireturn, 1) := by decide +kernel
theorem dX6_isTurned_64 : decode cX6_isTurned 64 = .ok (.iinc 5 1, 3) := by decide +kernel
theorem dX6_isTurned_67 : decode cX6_isTurned 67 = .ok (.goto (-39), 3) := by decide +kernel
theorem dX6_isTurned_70 : decode cX6_isTurned 70 = .ok (.iinc 4 1, 3) := by decide +kernel
theorem dX6_isTurned_73 : decode cX6_isTurned 73 = .ok (.goto (-57), 3) := by decide +kernel
theorem dX6_isTurned_76 : decode cX6_isTurned 76 = .ok (.iconst 0, 1) := by decide +kernel
theorem dX6_isTurned_77 : decode cX6_isTurned 77 = .ok (.ireturn, 1) := by decide +kernel
abbrev z_X6_isTurned_9 : Z9 := (some .boolean, 1, 0, 0, 1, 0)
def b_X6_isTurned_9_c28 (k_X6_isTurned_9_c16 : Int → Int → D9 → Option R9) (k_X6_isTurned_9_c28 : Int → Int → Int → D9 → Option R9) (v3 v4 v5 : Int) (d : D9) : Option R9 := if w32 v3 ≤ w32 v5 then k_X6_isTurned_9_c16 v3 (v4 + 1) d else ld d 21 120 v5 (fun t1 => if w32 t1 = w32 (-1) then k_X6_isTurned_9_c28 v3 v4 (v5 + 1) d else ld d 20 120 v4 (fun t2 => ld d 21 120 v5 (fun t3 => if w32 t2 ≤ w32 t3 then k_X6_isTurned_9_c28 v3 v4 (v5 + 1) d else rt (1 % 2) d)))
def m_X6_isTurned_9_c28 (k_X6_isTurned_9_c16 : Int → Int → D9 → Option R9) : Int → Int → Int → D9 → Option R9 := fix9 (fun _ _ _ _ => none) (fun k => b_X6_isTurned_9_c28 k_X6_isTurned_9_c16 k) FU
def b_X6_isTurned_9_c16 (k_X6_isTurned_9_c16 : Int → Int → D9 → Option R9) (v3 v4 : Int) (d : D9) : Option R9 := if w32 v3 ≤ w32 v4 then rt (0 % 2) d else lt9v (v4 + 1) (fun a1 => m_X6_isTurned_9_c28 k_X6_isTurned_9_c16 v3 v4 a1 d)
def m_X6_isTurned_9_c16 : Int → Int → D9 → Option R9 := fix9 (fun _ _ _ => none) (fun k => b_X6_isTurned_9_c16 k) FU
def m_X6_isTurned_9 (p1 : Int) (d : D9) : Option R9 := lt9v (p1 * 4) (fun a1 => ld d 14 30 p1 (fun t2 => lt9v (a1 + t2) (fun a3 => m_X6_isTurned_9_c16  a3 a1 d)))
set_option maxRecDepth 100000 in
theorem sb_X6_isTurned_9_c28 {G : G9} {X : X9} (C : CX G X cX6_isTurned 6 RX6 [] z_X6_isTurned_9) (k_X6_isTurned_9_c16 : Int → Int → D9 → Option R9) (hk_X6_isTurned_9_c16 : ∀ (v3 v4 : Int) (d : D9), SS G X 6 0 0 16 [(0, rf G 9), (3, i9 v3), (4, i9 v4)] [] d (k_X6_isTurned_9_c16 v3 v4 d)) (k_X6_isTurned_9_c28 : Int → Int → Int → D9 → Option R9) (hk_X6_isTurned_9_c28 : ∀ (v3 v4 v5 : Int) (d : D9), SS G X 6 0 0 28 [(0, rf G 9), (3, i9 v3), (4, i9 v4), (5, i9 v5)] [] d (k_X6_isTurned_9_c28 v3 v4 v5 d)) : ∀ (v3 v4 v5 : Int) (d : D9), SS G X 6 0 0 28 [(0, rf G 9), (3, i9 v3), (4, i9 v4), (5, i9 v5)] [] d (b_X6_isTurned_9_c28 k_X6_isTurned_9_c16 k_X6_isTurned_9_c28 v3 v4 v5 d) := by
  intro v3 v4 v5 d
  unfold b_X6_isTurned_9_c28
  refine r_iload C 3 dX6_isTurned_28 rfl ?_
  refine r_iload_n C 1 dX6_isTurned_30 rfl rfl ?_
  refine r_icmp_ge C 70 dX6_isTurned_31 (by decide) (fun _ => ?_) (fun _ => ?_)
  · refine r_iinc C 2 [(4, i9 (v4 + 1)), (0, rf G 9), (3, i9 v3), (5, i9 v5)] dX6_isTurned_70 rfl (by decide) rfl ?_
    refine r_goto C 16 dX6_isTurned_73 (by decide) ?_
    refine ss_wide (k' := 0) (n' := 0) (by decide) (by decide) ?_
    refine ss_ls [(0, rf G 9), (3, i9 v3), (4, i9 (v4 + 1))] [1, 2, 0] rfl ?_
    exact hk_X6_isTurned_9_c16 v3 (v4 + 1) d
  · refine r_aload_n C 0 dX6_isTurned_34 rfl rfl ?_
    refine r_getR C 21 dX6_isTurned_35 fl_X6_45 la_9 ly_9 rfl rfl ?_
    refine r_iload C 3 dX6_isTurned_38 rfl ?_
    refine r_iald C dX6_isTurned_40 la_21 ly_21 (fun t1 => ?_)
    refine r_iconst C dX6_isTurned_41 ?_
    refine r_icmp_eq C 64 dX6_isTurned_42 (by decide) (fun _ => ?_) (fun _ => ?_)
    · refine r_iinc C 3 [(5, i9 (v5 + 1)), (0, rf G 9), (3, i9 v3), (4, i9 v4)] dX6_isTurned_64 rfl (by decide) rfl ?_
      refine r_goto C 28 dX6_isTurned_67 (by decide) ?_
      refine ss_wide (k' := 0) (n' := 0) (by decide) (by decide) ?_
      refine ss_ls [(0, rf G 9), (3, i9 v3), (4, i9 v4), (5, i9 (v5 + 1))] [1, 2, 3, 0] rfl ?_
      exact hk_X6_isTurned_9_c28 v3 v4 (v5 + 1) d
    · refine r_aload_n C 0 dX6_isTurned_45 rfl rfl ?_
      refine r_getR C 20 dX6_isTurned_46 fl_X6_42 la_9 ly_9 rfl rfl ?_
      refine r_iload C 2 dX6_isTurned_49 rfl ?_
      refine r_iald C dX6_isTurned_51 la_20 ly_20 (fun t2 => ?_)
      refine r_aload_n C 0 dX6_isTurned_52 rfl rfl ?_
      refine r_getR C 21 dX6_isTurned_53 fl_X6_45 la_9 ly_9 rfl rfl ?_
      refine r_iload C 3 dX6_isTurned_56 rfl ?_
      refine r_iald C dX6_isTurned_58 la_21 ly_21 (fun t3 => ?_)
      refine r_icmp_le C 64 dX6_isTurned_59 (by decide) (fun _ => ?_) (fun _ => ?_)
      · refine r_iinc C 3 [(5, i9 (v5 + 1)), (0, rf G 9), (3, i9 v3), (4, i9 v4)] dX6_isTurned_64 rfl (by decide) rfl ?_
        refine r_goto C 28 dX6_isTurned_67 (by decide) ?_
        refine ss_wide (k' := 0) (n' := 0) (by decide) (by decide) ?_
        refine ss_ls [(0, rf G 9), (3, i9 v3), (4, i9 v4), (5, i9 (v5 + 1))] [1, 2, 3, 0] rfl ?_
        exact hk_X6_isTurned_9_c28 v3 v4 (v5 + 1) d
      · refine r_iconst C dX6_isTurned_62 ?_
        exact r_zret C dX6_isTurned_63 (by decide) (by decide)
theorem s_X6_isTurned_9_c28 {G : G9} {X : X9} (C : CX G X cX6_isTurned 6 RX6 [] z_X6_isTurned_9) (k_X6_isTurned_9_c16 : Int → Int → D9 → Option R9) (hk_X6_isTurned_9_c16 : ∀ (v3 v4 : Int) (d : D9), SS G X 6 0 0 16 [(0, rf G 9), (3, i9 v3), (4, i9 v4)] [] d (k_X6_isTurned_9_c16 v3 v4 d)) : ∀ (v3 v4 v5 : Int) (d : D9), SS G X 6 0 0 28 [(0, rf G 9), (3, i9 v3), (4, i9 v4), (5, i9 v5)] [] d (m_X6_isTurned_9_c28 k_X6_isTurned_9_c16 v3 v4 v5 d) :=
  fix9_ind (P := fun k => ∀ (v3 v4 v5 : Int) (d : D9), SS G X 6 0 0 28 [(0, rf G 9), (3, i9 v3), (4, i9 v4), (5, i9 v5)] [] d (k v3 v4 v5 d)) (fun _ _ _ _ => ss_none) (fun k hk => sb_X6_isTurned_9_c28 C k_X6_isTurned_9_c16 hk_X6_isTurned_9_c16 k hk) FU
set_option maxRecDepth 100000 in
theorem sb_X6_isTurned_9_c16 {G : G9} {X : X9} (C : CX G X cX6_isTurned 6 RX6 [] z_X6_isTurned_9) (k_X6_isTurned_9_c16 : Int → Int → D9 → Option R9) (hk_X6_isTurned_9_c16 : ∀ (v3 v4 : Int) (d : D9), SS G X 6 0 0 16 [(0, rf G 9), (3, i9 v3), (4, i9 v4)] [] d (k_X6_isTurned_9_c16 v3 v4 d)) : ∀ (v3 v4 : Int) (d : D9), SS G X 6 0 0 16 [(0, rf G 9), (3, i9 v3), (4, i9 v4)] [] d (b_X6_isTurned_9_c16 k_X6_isTurned_9_c16 v3 v4 d) := by
  intro v3 v4 d
  unfold b_X6_isTurned_9_c16
  refine r_iload C 2 dX6_isTurned_16 rfl ?_
  refine r_iload_n C 1 dX6_isTurned_18 rfl rfl ?_
  refine r_icmp_ge C 76 dX6_isTurned_19 (by decide) (fun _ => ?_) (fun _ => ?_)
  · refine r_iconst C dX6_isTurned_76 ?_
    exact r_zret C dX6_isTurned_77 (by decide) (by decide)
  · refine r_iload C 2 dX6_isTurned_22 rfl ?_
    refine r_iconst C dX6_isTurned_24 ?_
    refine r_iadd C dX6_isTurned_25 ?_
    refine ss_lt (fun a1 => ?_)
    refine r_istore C [(5, i9 a1), (0, rf G 9), (3, i9 v3), (4, i9 v4)] dX6_isTurned_26 (by decide) rfl ?_
    refine ss_wide (k' := 0) (n' := 0) (by decide) (by decide) ?_
    refine ss_ls [(0, rf G 9), (3, i9 v3), (4, i9 v4), (5, i9 a1)] [1, 2, 3, 0] rfl ?_
    exact s_X6_isTurned_9_c28 C k_X6_isTurned_9_c16 hk_X6_isTurned_9_c16 v3 v4 a1 d
theorem s_X6_isTurned_9_c16 {G : G9} {X : X9} (C : CX G X cX6_isTurned 6 RX6 [] z_X6_isTurned_9) : ∀ (v3 v4 : Int) (d : D9), SS G X 6 0 0 16 [(0, rf G 9), (3, i9 v3), (4, i9 v4)] [] d (m_X6_isTurned_9_c16  v3 v4 d) :=
  fix9_ind (P := fun k => ∀ (v3 v4 : Int) (d : D9), SS G X 6 0 0 16 [(0, rf G 9), (3, i9 v3), (4, i9 v4)] [] d (k v3 v4 d)) (fun _ _ _ => ss_none) (fun k hk => sb_X6_isTurned_9_c16 C k hk) FU
set_option maxRecDepth 100000 in
theorem t_X6_isTurned_9 {G : G9} {l : Launch} (h1 : va_D (A9 G) (wl G (fun _ _ => 0))) (h2 : l.stackTraces = false) (p1 : Int) (d : D9) : MT G l yX6_isTurned cX6_isTurned 6 z_X6_isTurned_9 [rf G 9, i9 p1] d (m_X6_isTurned_9 p1 d) := by
  refine mt_of (own := RX6) (by decide) rfl (Nat.le_of_ble_eq_true rfl) h1 h2 [(0, rf G 9), (1, i9 p1)] rfl (fun X hX C => ?_)
  unfold m_X6_isTurned_9
  refine r_iload_n C 1 dX6_isTurned_0 rfl rfl ?_
  refine r_iconst C dX6_isTurned_1 ?_
  refine r_imul C dX6_isTurned_2 ?_
  refine ss_lt (fun a1 => ?_)
  refine r_istore_n C [(2, i9 a1), (0, rf G 9), (1, i9 p1)] dX6_isTurned_3 rfl (by decide) rfl ?_
  refine r_iload_n C 0 dX6_isTurned_4 rfl rfl ?_
  refine r_aload_n C 1 dX6_isTurned_5 rfl rfl ?_
  refine r_getR C 14 dX6_isTurned_6 fl_X6_24 la_9 ly_9 rfl rfl ?_
  refine r_iload_n C 2 dX6_isTurned_9 rfl rfl ?_
  refine r_iald C dX6_isTurned_10 la_14 ly_14 (fun t2 => ?_)
  refine r_iadd C dX6_isTurned_11 ?_
  refine ss_lt (fun a3 => ?_)
  refine r_istore_n C [(3, i9 a3), (2, i9 a1), (0, rf G 9), (1, i9 p1)] dX6_isTurned_12 rfl (by decide) rfl ?_
  refine r_iload_n C 1 dX6_isTurned_13 rfl rfl ?_
  refine r_istore C [(4, i9 a1), (3, i9 a3), (2, i9 a1), (0, rf G 9), (1, i9 p1)] dX6_isTurned_14 (by decide) rfl ?_
  refine ss_wide (k' := 0) (n' := 0) (by decide) (by decide) ?_
  refine ss_ls [(0, rf G 9), (3, i9 a3), (4, i9 a1)] [3, 1, 0] rfl ?_
  exact s_X6_isTurned_9_c16 C  a3 a1 d
theorem dX11_askPaint_0 : decode cX11_askPaint 0 = .ok (.iload_n 1, 1) := by decide +kernel
theorem dX11_askPaint_1 : decode cX11_askPaint 1 = .ok (.ifCond .lt 17, 3) := by decide +kernel
theorem dX11_askPaint_4 : decode cX11_askPaint 4 = .ok (.iload_n 1, 1) := by decide +kernel
theorem dX11_askPaint_5 : decode cX11_askPaint 5 = .ok (.aload_n 0, 1) := by decide +kernel
theorem dX11_askPaint_6 : decode cX11_askPaint 6 = .ok (.getfield 10, 3) := by decide +kernel
theorem dX11_askPaint_9 : decode cX11_askPaint 9 = .ok (.getfield 77, 3) := by decide +kernel
theorem dX11_askPaint_12 : decode cX11_askPaint 12 = .ok (.getfield 278, 3) := by decide +kernel
theorem dX11_askPaint_15 : decode cX11_askPaint 15 = .ok (.if_icmp .lt 14, 3) := by decide +kernel
theorem dX11_askPaint_18 : decode cX11_askPaint 18 = .ok (.new 218, 3) := by decide +kernel
theorem dX11_askPaint_21 : decode cX11_askPaint 21 = .ok (.dup, 1) := by decide +kernel
theorem dX11_askPaint_22 : decode cX11_askPaint 22 = .ok (.ldc_w 453, 3) := by decide +kernel
theorem dX11_askPaint_25 : decode cX11_askPaint 25 = .ok (.invokespecial 222, 3) := by decide +kernel
theorem dX11_askPaint_28 : decode cX11_askPaint 28 = .ok (.athrow, 1) := by decide +kernel
theorem dX11_askPaint_29 : decode cX11_askPaint 29 = .ok (.return_, 1) := by decide +kernel
abbrev z_X11_askPaint_0 : Z9 := (none, 0, 1, 6, 6, 100)
def m_X11_askPaint_0_c18 (d : D9) : Option R9 := th 2 d
def m_X11_askPaint_0 (p1 : Int) (d : D9) : Option R9 := if w32 p1 < 0 then m_X11_askPaint_0_c18   d else if w32 p1 < w32 (d 2 0) then rt 0 d else m_X11_askPaint_0_c18   d
set_option maxRecDepth 100000 in
theorem s_X11_askPaint_0_c18 {G : G9} {X : X9} (C : CX G X cX11_askPaint 2 RX11 [] z_X11_askPaint_0) : ∀ (d : D9), SS G X 2 0 0 18 [] [] d (m_X11_askPaint_0_c18   d) := by
  intro  d
  unfold m_X11_askPaint_0_c18
  exact r_throwNW C 1 rfl tn_222 tc_2 dX11_askPaint_18 dX11_askPaint_21 dX11_askPaint_22 dX11_askPaint_25 dX11_askPaint_28 (by decide) (by decide) (by decide) (by decide)
set_option maxRecDepth 100000 in
theorem t_X11_askPaint_0 {G : G9} {l : Launch} (h1 : va_D (A9 G) (wl G (fun _ _ => 0))) (h2 : l.stackTraces = false) (p1 : Int) (d : D9) : MT G l yX11_askPaint cX11_askPaint 2 z_X11_askPaint_0 [rf G 0, i9 p1] d (m_X11_askPaint_0 p1 d) := by
  refine mt_of (own := RX11) (by decide) rfl (Nat.le_of_ble_eq_true rfl) h1 h2 [(0, rf G 0), (1, i9 p1)] rfl (fun X hX C => ?_)
  unfold m_X11_askPaint_0
  refine r_iload_n C 1 dX11_askPaint_0 rfl rfl ?_
  refine r_if_lt C (b := 0) 18 dX11_askPaint_1 (by decide) (fun _ => ?_) (fun _ => ?_)
  · refine ss_wide (k' := 0) (n' := 0) (by decide) (by decide) ?_
    refine ss_ls [] [] rfl ?_
    exact s_X11_askPaint_0_c18 C   d
  · refine r_iload_n C 1 dX11_askPaint_4 rfl rfl ?_
    refine r_aload_n C 0 dX11_askPaint_5 rfl rfl ?_
    refine r_getR C 1 dX11_askPaint_6 fl_X11_10 la_0 ly_0 rfl rfl ?_
    refine r_getR C 2 dX11_askPaint_9 fl_X11_77 la_1 ly_1 rfl rfl ?_
    refine r_getI C dX11_askPaint_12 fl_X11_278 la_2 ly_2 rfl ?_
    refine r_icmp_lt C 29 dX11_askPaint_15 (by decide) (fun _ => ?_) (fun _ => ?_)
    · exact r_vret C dX11_askPaint_29 (by decide) (by decide)
    · refine ss_wide (k' := 0) (n' := 0) (by decide) (by decide) ?_
      refine ss_ls [] [] rfl ?_
      exact s_X11_askPaint_0_c18 C   d
theorem dX12_layReach_0 : decode cX12_layReach 0 = .ok (.aload_n 0, 1) := by decide +kernel
theorem dX12_layReach_1 : decode cX12_layReach 1 = .ok (.getfield 9, 3) := by decide +kernel
theorem dX12_layReach_4 : decode cX12_layReach 4 = .ok (.iconst 0, 1) := by decide +kernel
theorem dX12_layReach_5 : decode cX12_layReach 5 = .ok (.iaload, 1) := by decide +kernel
theorem dX12_layReach_6 : decode cX12_layReach 6 = .ok (.istore_n 1, 1) := by decide +kernel
theorem dX12_layReach_7 : decode cX12_layReach 7 = .ok (.iconst 0, 1) := by decide +kernel
theorem dX12_layReach_8 : decode cX12_layReach 8 = .ok (.istore_n 2, 1) := by decide +kernel
theorem dX12_layReach_9 : decode cX12_layReach 9 = .ok (.iload_n 2, 1) := by decide +kernel
theorem dX12_layReach_10 : decode cX12_layReach 10 = .ok (.sipush 900, 3) := by decide +kernel
theorem dX12_layReach_13 : decode cX12_layReach 13 = .ok (.if_icmp .ge 16, 3) := by decide +kernel
theorem dX12_layReach_16 : decode cX12_layReach 16 = .ok (.aload_n 0, 1) := by decide +kernel
theorem dX12_layReach_17 : decode cX12_layReach 17 = .ok (.getfield 36, 3) := by decide +kernel
theorem dX12_layReach_20 : decode cX12_layReach 20 = .ok (.iload_n 2, 1) := by decide +kernel
theorem dX12_layReach_21 : decode cX12_layReach 21 = .ok (.iconst 0, 1) := by decide +kernel
theorem dX12_layReach_22 : decode cX12_layReach 22 = .ok (.bastore, 1) := by decide +kernel
theorem dX12_layReach_23 : decode cX12_layReach 23 = .ok (.iinc 2 1, 3) := by decide +kernel
theorem dX12_layReach_26 : decode cX12_layReach 26 = .ok (.goto (-17), 3) := by decide +kernel
theorem dX12_layReach_29 : decode cX12_layReach 29 = .ok (.sipush 256, 3) := by decide +kernel
theorem dX12_layReach_32 : decode cX12_layReach 32 = .ok (.istore_n 2, 1) := by decide +kernel
theorem dX12_layReach_33 : decode cX12_layReach 33 = .ok (.iload_n 2, 1) := by decide +kernel
theorem dX12_layReach_34 : decode cX12_layReach 34 = .ok (.sipush 256, 3) := by decide +kernel
theorem dX12_layReach_37 : decode cX12_layReach 37 = .ok (.iconst 2, 1) := by decide +kernel
theorem dX12_layReach_38 : decode cX12_layReach 38 = .ok (.aload_n 0, 1) := by decide +kernel
theorem dX12_layReach_39 : decode cX12_layReach 39 = .ok (.getfield 9, 3) := by decide +kernel
theorem dX12_layReach_42 : decode cX12_layReach 42 = .ok (.iconst 2, 1) := by decide +kernel
theorem dX12_layReach_43 : decode cX12_layReach 43 = .ok (.iaload, 1) := by decide +kernel
theorem dX12_layReach_44 : decode cX12_layReach 44 = .ok (.imul, 1) := by decide +kernel
theorem dX12_layReach_45 : decode cX12_layReach 45 = .ok (.iadd, 1) := by decide +kernel
theorem dX12_layReach_46 : decode cX12_layReach 46 = .ok (.if_icmp .ge 33, 3) := by decide +kernel
theorem dX12_layReach_49 : decode cX12_layReach 49 = .ok (.aload_n 0, 1) := by decide +kernel
theorem dX12_layReach_50 : decode cX12_layReach 50 = .ok (.getfield 36, 3) := by decide +kernel
theorem dX12_layReach_53 : decode cX12_layReach 53 = .ok (.bipush 30, 2) := by decide +kernel
theorem dX12_layReach_55 : decode cX12_layReach 55 = .ok (.aload_n 0, 1) := by decide +kernel
theorem dX12_layReach_56 : decode cX12_layReach 56 = .ok (.getfield 9, 3) := by decide +kernel
theorem dX12_layReach_59 : decode cX12_layReach 59 = .ok (.iload_n 2, 1) := by decide +kernel
theorem dX12_layReach_60 : decode cX12_layReach 60 = .ok (.iaload, 1) := by decide +kernel
theorem dX12_layReach_61 : decode cX12_layReach 61 = .ok (.imul, 1) := by decide +kernel
theorem dX12_layReach_62 : decode cX12_layReach 62 = .ok (.aload_n 0, 1) := by decide +kernel
theorem dX12_layReach_63 : decode cX12_layReach 63 = .ok (.getfield 9, 3) := by decide +kernel
theorem dX12_layReach_66 : decode cX12_layReach 66 = .ok (.iload_n 2, 1) := by decide +kernel
theorem dX12_layReach_67 : decode cX12_layReach 67 = .ok (.iconst 1, 1) := by decide +kernel
theorem dX12_layReach_68 : decode cX12_layReach 68 = .ok (.iadd, 1) := by decide +kernel
theorem dX12_layReach_69 : decode cX12_layReach 69 = .ok (.iaload, 1) := by decide +kernel
theorem dX12_layReach_70 : decode cX12_layReach 70 = .ok (.iadd, 1) := by decide +kernel
theorem dX12_layReach_71 : decode cX12_layReach 71 = .ok (.iconst 1, 1) := by decide +kernel
theorem dX12_layReach_72 : decode cX12_layReach 72 = .ok (.bastore, 1) := by decide +kernel
theorem dX12_layReach_73 : decode cX12_layReach 73 = .ok (.iinc 2 2, 3) := by decide +kernel
theorem dX12_layReach_76 : decode cX12_layReach 76 = .ok (.goto (-43), 3) := by decide +kernel
theorem dX12_layReach_79 : decode cX12_layReach 79 = .ok (.iconst 0, 1) := by decide +kernel
theorem dX12_layReach_80 : decode cX12_layReach 80 = .ok (.istore_n 2, 1) := by decide +kernel
theorem dX12_layReach_81 : decode cX12_layReach 81 = .ok (.iload_n 2, 1) := by decide +kernel
theorem dX12_layReach_82 : decode cX12_layReach 82 = .ok (.iload_n 1, 1) := by decide +kernel
theorem dX12_layReach_83 : decode cX12_layReach 83 = .ok (.if_icmp .ge 98, 3) := by decide +kernel
theorem dX12_layReach_86 : decode cX12_layReach 86 = .ok (.iconst 0, 1) := by decide +kernel
theorem dX12_layReach_87 : decode cX12_layReach 87 = .ok (.istore_n 3, 1) := by decide +kernel
theorem dX12_layReach_88 : decode cX12_layReach 88 = .ok (.iload_n 3, 1) := by decide +kernel
theorem dX12_layReach_89 : decode cX12_layReach 89 = .ok (.iload_n 1, 1) := by decide +kernel
theorem dX12_layReach_90 : decode cX12_layReach 90 = .ok (.if_icmp .ge 85, 3) := by decide +kernel
theorem dX12_layReach_93 : decode cX12_layReach 93 = .ok (.iconst 0, 1) := by decide +kernel
theorem dX12_layReach_94 : decode cX12_layReach 94 = .ok (.istore 4, 2) := by decide +kernel
theorem dX12_layReach_96 : decode cX12_layReach 96 = .ok (.iload 4, 2) := by decide +kernel
theorem dX12_layReach_98 : decode cX12_layReach 98 = .ok (.iload_n 1, 1) := by decide +kernel
theorem dX12_layReach_99 : decode cX12_layReach 99 = .ok (.if_icmp .ge 70, 3) := by decide +kernel
theorem dX12_layReach_102 : decode cX12_layReach 102 = .ok (.aload_n 0, 1) := by decide +kernel
theorem dX12_layReach_103 : decode cX12_layReach 103 = .ok (.getfield 36, 3) := by decide +kernel
theorem dX12_layReach_106 : decode cX12_layReach 106 = .ok (.bipush 30, 2) := by decide +kernel
theorem dX12_layReach_108 : decode cX12_layReach 108 = .ok (.iload_n 3, 1) := by decide +kernel
theorem dX12_layReach_109 : decode cX12_layReach 109 = .ok (.imul, 1) := by decide +kernel
theorem dX12_layReach_110 : decode cX12_layReach 110 = .ok (.iload_n 2, 1) := by decide +kernel
theorem dX12_layReach_111 : decode cX12_layReach 111 = .ok (.iadd, 1) := by decide +kernel
theorem dX12_layReach_112 : decode cX12_layReach 112 = .ok (.baload, 1) := by decide +kernel
theorem dX12_layReach_113 : decode cX12_layReach 113 = .ok (.ifCond .eq 56, 3) := by decide +kernel
theorem dX12_layReach_116 : decode cX12_layReach 116 = .ok (.aload_n 0, 1) := by decide +kernel
theorem dX12_layReach_117 : decode cX12_layReach 117 = .ok (.getfield 36, 3) := by decide +kernel
theorem dX12_layReach_120 : decode cX12_layReach 120 = .ok (.bipush 30, 2) := by decide +kernel
theorem dX12_layReach_122 : decode cX12_layReach 122 = .ok (.iload_n 3, 1) := by decide +kernel
theorem dX12_layReach_123 : decode cX12_layReach 123 = .ok (.imul, 1) := by decide +kernel
theorem dX12_layReach_124 : decode cX12_layReach 124 = .ok (.iload 4, 2) := by decide +kernel
theorem dX12_layReach_126 : decode cX12_layReach 126 = .ok (.iadd, 1) := by decide +kernel
theorem dX12_layReach_127 : decode cX12_layReach 127 = .ok (.aload_n 0, 1) := by decide +kernel
theorem dX12_layReach_128 : decode cX12_layReach 128 = .ok (.getfield 36, 3) := by decide +kernel
theorem dX12_layReach_131 : decode cX12_layReach 131 = .ok (.bipush 30, 2) := by decide +kernel
theorem dX12_layReach_133 : decode cX12_layReach 133 = .ok (.iload_n 3, 1) := by decide +kernel
theorem dX12_layReach_134 : decode cX12_layReach 134 = .ok (.imul, 1) := by decide +kernel
theorem dX12_layReach_135 : decode cX12_layReach 135 = .ok (.iload 4, 2) := by decide +kernel
theorem dX12_layReach_137 : decode cX12_layReach 137 = .ok (.iadd, 1) := by decide +kernel
theorem dX12_layReach_138 : decode cX12_layReach 138 = .ok (.baload, 1) := by decide +kernel
theorem dX12_layReach_139 : decode cX12_layReach 139 = .ok (.ifCond .ne 18, 3) := by decide +kernel
theorem dX12_layReach_142 : decode cX12_layReach 142 = .ok (.aload_n 0, 1) := by decide +kernel
theorem dX12_layReach_143 : decode cX12_layReach 143 = .ok (.getfield 36, 3) := by decide +kernel
theorem dX12_layReach_146 : decode cX12_layReach 146 = .ok (.bipush 30, 2) := by decide +kernel
theorem dX12_layReach_148 : decode cX12_layReach 148 = .ok (.iload_n 2, 1) := by decide +kernel
theorem dX12_layReach_149 : decode cX12_layReach 149 = .ok (.imul, 1) := by decide +kernel
theorem dX12_layReach_150 : decode cX12_layReach 150 = .ok (.iload 4, 2) := by decide +kernel
theorem dX12_layReach_152 : decode cX12_layReach 152 = .ok (.iadd, 1) := by decide +kernel
theorem dX12_layReach_153 : decode cX12_layReach 153 = .ok (.baload, 1) := by decide +kernel
theorem dX12_layReach_154 : decode cX12_layReach 154 = .ok (.ifCond .eq 7, 3) := by decide +kernel
theorem dX12_layReach_157 : decode cX12_layReach 157 = .ok (.iconst 1, 1) := by decide +kernel
theorem dX12_layReach_158 : decode cX12_layReach 158 = .ok (.goto 4, 3) := by decide +kernel
theorem dX12_layReach_161 : decode cX12_layReach 161 = .ok (.iconst 0, 1) := by decide +kernel
theorem dX12_layReach_162 : decode cX12_layReach 162 = .ok (.bastore, 1) := by decide +kernel
theorem dX12_layReach_163 : decode cX12_layReach 163 = .ok (.iinc 4 1, 3) := by decide +kernel
theorem dX12_layReach_166 : decode cX12_layReach 166 = .ok (.goto (-70), 3) := by decide +kernel
theorem dX12_layReach_169 : decode cX12_layReach 169 = .ok (.iinc 3 1, 3) := by decide +kernel
theorem dX12_layReach_172 : decode cX12_layReach 172 = .ok (.goto (-84), 3) := by decide +kernel
theorem dX12_layReach_175 : decode cX12_layReach 175 = .ok (.iinc 2 1, 3) := by decide +kernel
theorem dX12_layReach_178 : decode cX12_layReach 178 = .ok (.goto (-97), 3) := by decide +kernel
theorem dX12_layReach_181 : decode cX12_layReach 181 = .ok (.return_, 1) := by decide +kernel
abbrev z_X12_layReach_174 : Z9 := (none, 0, 0, 0, 1, 0)
def b_X12_layReach_174_c96 (k_X12_layReach_174_c88 : Int → Int → Int → D9 → Option R9) (k_X12_layReach_174_c96 : Int → Int → Int → Int → D9 → Option R9) (v1 v2 v3 v4 : Int) (d : D9) : Option R9 := if w32 v1 ≤ w32 v4 then k_X12_layReach_174_c88 v1 v2 (v3 + 1) d else ld d 182 900 ((30 * v3) + v2) (fun t1 => if w32 t1 = 0 then k_X12_layReach_174_c88 v1 v2 (v3 + 1) d else ld d 182 900 ((30 * v3) + v4) (fun t2 => if w32 t2 ≠ 0 then sd d 182 900 ((30 * v3) + v4) (1 % 2) (fun d3 => k_X12_layReach_174_c96 v1 v2 v3 (v4 + 1) d3) else ld d 182 900 ((30 * v2) + v4) (fun t4 => if w32 t4 = 0 then sd d 182 900 ((30 * v3) + v4) (0 % 2) (fun d5 => k_X12_layReach_174_c96 v1 v2 v3 (v4 + 1) d5) else sd d 182 900 ((30 * v3) + v4) (1 % 2) (fun d6 => k_X12_layReach_174_c96 v1 v2 v3 (v4 + 1) d6))))
def m_X12_layReach_174_c96 (k_X12_layReach_174_c88 : Int → Int → Int → D9 → Option R9) : Int → Int → Int → Int → D9 → Option R9 := fix9 (fun _ _ _ _ _ => none) (fun k => b_X12_layReach_174_c96 k_X12_layReach_174_c88 k) FU
def b_X12_layReach_174_c88 (k_X12_layReach_174_c81 : Int → Int → D9 → Option R9) (k_X12_layReach_174_c88 : Int → Int → Int → D9 → Option R9) (v1 v2 v3 : Int) (d : D9) : Option R9 := if w32 v1 ≤ w32 v3 then k_X12_layReach_174_c81 v1 (v2 + 1) d else m_X12_layReach_174_c96 k_X12_layReach_174_c88 v1 v2 v3 0 d
def m_X12_layReach_174_c88 (k_X12_layReach_174_c81 : Int → Int → D9 → Option R9) : Int → Int → Int → D9 → Option R9 := fix9 (fun _ _ _ _ => none) (fun k => b_X12_layReach_174_c88 k_X12_layReach_174_c81 k) FU
def b_X12_layReach_174_c81 (k_X12_layReach_174_c81 : Int → Int → D9 → Option R9) (v1 v2 : Int) (d : D9) : Option R9 := if w32 v1 ≤ w32 v2 then rt 0 d else m_X12_layReach_174_c88 k_X12_layReach_174_c81 v1 v2 0 d
def m_X12_layReach_174_c81 : Int → Int → D9 → Option R9 := fix9 (fun _ _ _ => none) (fun k => b_X12_layReach_174_c81 k) FU
def b_X12_layReach_174_c33 (k_X12_layReach_174_c33 : Int → Int → D9 → Option R9) (v1 v2 : Int) (d : D9) : Option R9 := ld d 175 1604 2 (fun t1 => if w32 (256 + (2 * t1)) ≤ w32 v2 then m_X12_layReach_174_c81  v1 0 d else ld d 175 1604 v2 (fun t2 => ld d 175 1604 (v2 + 1) (fun t3 => sd d 182 900 ((30 * t2) + t3) (1 % 2) (fun d4 => k_X12_layReach_174_c33 v1 (v2 + 2) d4))))
def m_X12_layReach_174_c33 : Int → Int → D9 → Option R9 := fix9 (fun _ _ _ => none) (fun k => b_X12_layReach_174_c33 k) FU
def b_X12_layReach_174_c9 (k_X12_layReach_174_c9 : Int → Int → D9 → Option R9) (v1 v2 : Int) (d : D9) : Option R9 := if w32 900 ≤ w32 v2 then m_X12_layReach_174_c33  v1 256 d else sd d 182 900 v2 (0 % 2) (fun d1 => k_X12_layReach_174_c9 v1 (v2 + 1) d1)
def m_X12_layReach_174_c9 : Int → Int → D9 → Option R9 := fix9 (fun _ _ _ => none) (fun k => b_X12_layReach_174_c9 k) FU
def m_X12_layReach_174 (d : D9) : Option R9 := ld d 175 1604 0 (fun t1 => m_X12_layReach_174_c9  t1 0 d)
set_option maxRecDepth 100000 in
theorem sb_X12_layReach_174_c96 {G : G9} {X : X9} (C : CX G X cX12_layReach 5 RX12 [] z_X12_layReach_174) (k_X12_layReach_174_c88 : Int → Int → Int → D9 → Option R9) (hk_X12_layReach_174_c88 : ∀ (v1 v2 v3 : Int) (d : D9), SS G X 5 0 0 88 [(0, rf G 174), (1, i9 v1), (2, i9 v2), (3, i9 v3)] [] d (k_X12_layReach_174_c88 v1 v2 v3 d)) (k_X12_layReach_174_c96 : Int → Int → Int → Int → D9 → Option R9) (hk_X12_layReach_174_c96 : ∀ (v1 v2 v3 v4 : Int) (d : D9), SS G X 5 0 0 96 [(0, rf G 174), (1, i9 v1), (2, i9 v2), (3, i9 v3), (4, i9 v4)] [] d (k_X12_layReach_174_c96 v1 v2 v3 v4 d)) : ∀ (v1 v2 v3 v4 : Int) (d : D9), SS G X 5 0 0 96 [(0, rf G 174), (1, i9 v1), (2, i9 v2), (3, i9 v3), (4, i9 v4)] [] d (b_X12_layReach_174_c96 k_X12_layReach_174_c88 k_X12_layReach_174_c96 v1 v2 v3 v4 d) := by
  intro v1 v2 v3 v4 d
  unfold b_X12_layReach_174_c96
  refine r_iload C 4 dX12_layReach_96 rfl ?_
  refine r_iload_n C 1 dX12_layReach_98 rfl rfl ?_
  refine r_icmp_ge C 169 dX12_layReach_99 (by decide) (fun _ => ?_) (fun _ => ?_)
  · refine r_iinc C 3 [(3, i9 (v3 + 1)), (0, rf G 174), (1, i9 v1), (2, i9 v2), (4, i9 v4)] dX12_layReach_169 rfl (by decide) rfl ?_
    refine r_goto C 88 dX12_layReach_172 (by decide) ?_
    refine ss_wide (k' := 0) (n' := 0) (by decide) (by decide) ?_
    refine ss_ls [(0, rf G 174), (1, i9 v1), (2, i9 v2), (3, i9 (v3 + 1))] [1, 2, 3, 0] rfl ?_
    exact hk_X12_layReach_174_c88 v1 v2 (v3 + 1) d
  · refine r_aload_n C 0 dX12_layReach_102 rfl rfl ?_
    refine r_getR C 182 dX12_layReach_103 fl_X12_36 la_174 ly_174 rfl rfl ?_
    refine r_bipush C dX12_layReach_106 rfl ?_
    refine r_iload_n C 3 dX12_layReach_108 rfl rfl ?_
    refine r_imul C dX12_layReach_109 ?_
    refine r_iload_n C 2 dX12_layReach_110 rfl rfl ?_
    refine r_iadd C dX12_layReach_111 ?_
    refine r_zald C dX12_layReach_112 la_182 ly_182 (fun t1 => ?_)
    refine r_if_eq C (b := 0) 169 dX12_layReach_113 (by decide) (fun _ => ?_) (fun _ => ?_)
    · refine r_iinc C 3 [(3, i9 (v3 + 1)), (0, rf G 174), (1, i9 v1), (2, i9 v2), (4, i9 v4)] dX12_layReach_169 rfl (by decide) rfl ?_
      refine r_goto C 88 dX12_layReach_172 (by decide) ?_
      refine ss_wide (k' := 0) (n' := 0) (by decide) (by decide) ?_
      refine ss_ls [(0, rf G 174), (1, i9 v1), (2, i9 v2), (3, i9 (v3 + 1))] [1, 2, 3, 0] rfl ?_
      exact hk_X12_layReach_174_c88 v1 v2 (v3 + 1) d
    · refine r_aload_n C 0 dX12_layReach_116 rfl rfl ?_
      refine r_getR C 182 dX12_layReach_117 fl_X12_36 la_174 ly_174 rfl rfl ?_
      refine r_bipush C dX12_layReach_120 rfl ?_
      refine r_iload_n C 3 dX12_layReach_122 rfl rfl ?_
      refine r_imul C dX12_layReach_123 ?_
      refine r_iload C 4 dX12_layReach_124 rfl ?_
      refine r_iadd C dX12_layReach_126 ?_
      refine r_aload_n C 0 dX12_layReach_127 rfl rfl ?_
      refine r_getR C 182 dX12_layReach_128 fl_X12_36 la_174 ly_174 rfl rfl ?_
      refine r_bipush C dX12_layReach_131 rfl ?_
      refine r_iload_n C 3 dX12_layReach_133 rfl rfl ?_
      refine r_imul C dX12_layReach_134 ?_
      refine r_iload C 4 dX12_layReach_135 rfl ?_
      refine r_iadd C dX12_layReach_137 ?_
      refine r_zald C dX12_layReach_138 la_182 ly_182 (fun t2 => ?_)
      refine r_if_ne C (b := 0) 157 dX12_layReach_139 (by decide) (fun _ => ?_) (fun _ => ?_)
      · refine r_iconst C dX12_layReach_157 ?_
        refine r_goto C 162 dX12_layReach_158 (by decide) ?_
        refine r_zast C dX12_layReach_162 la_182 ly_182 (fun d3 => ?_)
        refine r_iinc C 4 [(4, i9 (v4 + 1)), (0, rf G 174), (1, i9 v1), (2, i9 v2), (3, i9 v3)] dX12_layReach_163 rfl (by decide) rfl ?_
        refine r_goto C 96 dX12_layReach_166 (by decide) ?_
        refine ss_wide (k' := 0) (n' := 0) (by decide) (by decide) ?_
        refine ss_ls [(0, rf G 174), (1, i9 v1), (2, i9 v2), (3, i9 v3), (4, i9 (v4 + 1))] [1, 2, 3, 4, 0] rfl ?_
        exact hk_X12_layReach_174_c96 v1 v2 v3 (v4 + 1) d3
      · refine r_aload_n C 0 dX12_layReach_142 rfl rfl ?_
        refine r_getR C 182 dX12_layReach_143 fl_X12_36 la_174 ly_174 rfl rfl ?_
        refine r_bipush C dX12_layReach_146 rfl ?_
        refine r_iload_n C 2 dX12_layReach_148 rfl rfl ?_
        refine r_imul C dX12_layReach_149 ?_
        refine r_iload C 4 dX12_layReach_150 rfl ?_
        refine r_iadd C dX12_layReach_152 ?_
        refine r_zald C dX12_layReach_153 la_182 ly_182 (fun t4 => ?_)
        refine r_if_eq C (b := 0) 161 dX12_layReach_154 (by decide) (fun _ => ?_) (fun _ => ?_)
        · refine r_iconst C dX12_layReach_161 ?_
          refine r_zast C dX12_layReach_162 la_182 ly_182 (fun d5 => ?_)
          refine r_iinc C 4 [(4, i9 (v4 + 1)), (0, rf G 174), (1, i9 v1), (2, i9 v2), (3, i9 v3)] dX12_layReach_163 rfl (by decide) rfl ?_
          refine r_goto C 96 dX12_layReach_166 (by decide) ?_
          refine ss_wide (k' := 0) (n' := 0) (by decide) (by decide) ?_
          refine ss_ls [(0, rf G 174), (1, i9 v1), (2, i9 v2), (3, i9 v3), (4, i9 (v4 + 1))] [1, 2, 3, 4, 0] rfl ?_
          exact hk_X12_layReach_174_c96 v1 v2 v3 (v4 + 1) d5
        · refine r_iconst C dX12_layReach_157 ?_
          refine r_goto C 162 dX12_layReach_158 (by decide) ?_
          refine r_zast C dX12_layReach_162 la_182 ly_182 (fun d6 => ?_)
          refine r_iinc C 4 [(4, i9 (v4 + 1)), (0, rf G 174), (1, i9 v1), (2, i9 v2), (3, i9 v3)] dX12_layReach_163 rfl (by decide) rfl ?_
          refine r_goto C 96 dX12_layReach_166 (by decide) ?_
          refine ss_wide (k' := 0) (n' := 0) (by decide) (by decide) ?_
          refine ss_ls [(0, rf G 174), (1, i9 v1), (2, i9 v2), (3, i9 v3), (4, i9 (v4 + 1))] [1, 2, 3, 4, 0] rfl ?_
          exact hk_X12_layReach_174_c96 v1 v2 v3 (v4 + 1) d6
theorem s_X12_layReach_174_c96 {G : G9} {X : X9} (C : CX G X cX12_layReach 5 RX12 [] z_X12_layReach_174) (k_X12_layReach_174_c88 : Int → Int → Int → D9 → Option R9) (hk_X12_layReach_174_c88 : ∀ (v1 v2 v3 : Int) (d : D9), SS G X 5 0 0 88 [(0, rf G 174), (1, i9 v1), (2, i9 v2), (3, i9 v3)] [] d (k_X12_layReach_174_c88 v1 v2 v3 d)) : ∀ (v1 v2 v3 v4 : Int) (d : D9), SS G X 5 0 0 96 [(0, rf G 174), (1, i9 v1), (2, i9 v2), (3, i9 v3), (4, i9 v4)] [] d (m_X12_layReach_174_c96 k_X12_layReach_174_c88 v1 v2 v3 v4 d) :=
  fix9_ind (P := fun k => ∀ (v1 v2 v3 v4 : Int) (d : D9), SS G X 5 0 0 96 [(0, rf G 174), (1, i9 v1), (2, i9 v2), (3, i9 v3), (4, i9 v4)] [] d (k v1 v2 v3 v4 d)) (fun _ _ _ _ _ => ss_none) (fun k hk => sb_X12_layReach_174_c96 C k_X12_layReach_174_c88 hk_X12_layReach_174_c88 k hk) FU
set_option maxRecDepth 100000 in
theorem sb_X12_layReach_174_c88 {G : G9} {X : X9} (C : CX G X cX12_layReach 5 RX12 [] z_X12_layReach_174) (k_X12_layReach_174_c81 : Int → Int → D9 → Option R9) (hk_X12_layReach_174_c81 : ∀ (v1 v2 : Int) (d : D9), SS G X 5 0 0 81 [(0, rf G 174), (1, i9 v1), (2, i9 v2)] [] d (k_X12_layReach_174_c81 v1 v2 d)) (k_X12_layReach_174_c88 : Int → Int → Int → D9 → Option R9) (hk_X12_layReach_174_c88 : ∀ (v1 v2 v3 : Int) (d : D9), SS G X 5 0 0 88 [(0, rf G 174), (1, i9 v1), (2, i9 v2), (3, i9 v3)] [] d (k_X12_layReach_174_c88 v1 v2 v3 d)) : ∀ (v1 v2 v3 : Int) (d : D9), SS G X 5 0 0 88 [(0, rf G 174), (1, i9 v1), (2, i9 v2), (3, i9 v3)] [] d (b_X12_layReach_174_c88 k_X12_layReach_174_c81 k_X12_layReach_174_c88 v1 v2 v3 d) := by
  intro v1 v2 v3 d
  unfold b_X12_layReach_174_c88
  refine r_iload_n C 3 dX12_layReach_88 rfl rfl ?_
  refine r_iload_n C 1 dX12_layReach_89 rfl rfl ?_
  refine r_icmp_ge C 175 dX12_layReach_90 (by decide) (fun _ => ?_) (fun _ => ?_)
  · refine r_iinc C 2 [(2, i9 (v2 + 1)), (0, rf G 174), (1, i9 v1), (3, i9 v3)] dX12_layReach_175 rfl (by decide) rfl ?_
    refine r_goto C 81 dX12_layReach_178 (by decide) ?_
    refine ss_wide (k' := 0) (n' := 0) (by decide) (by decide) ?_
    refine ss_ls [(0, rf G 174), (1, i9 v1), (2, i9 (v2 + 1))] [1, 2, 0] rfl ?_
    exact hk_X12_layReach_174_c81 v1 (v2 + 1) d
  · refine r_iconst C dX12_layReach_93 ?_
    refine r_istore C [(4, i9 0), (0, rf G 174), (1, i9 v1), (2, i9 v2), (3, i9 v3)] dX12_layReach_94 (by decide) rfl ?_
    refine ss_wide (k' := 0) (n' := 0) (by decide) (by decide) ?_
    refine ss_ls [(0, rf G 174), (1, i9 v1), (2, i9 v2), (3, i9 v3), (4, i9 0)] [1, 2, 3, 4, 0] rfl ?_
    exact s_X12_layReach_174_c96 C k_X12_layReach_174_c88 hk_X12_layReach_174_c88 v1 v2 v3 0 d
theorem s_X12_layReach_174_c88 {G : G9} {X : X9} (C : CX G X cX12_layReach 5 RX12 [] z_X12_layReach_174) (k_X12_layReach_174_c81 : Int → Int → D9 → Option R9) (hk_X12_layReach_174_c81 : ∀ (v1 v2 : Int) (d : D9), SS G X 5 0 0 81 [(0, rf G 174), (1, i9 v1), (2, i9 v2)] [] d (k_X12_layReach_174_c81 v1 v2 d)) : ∀ (v1 v2 v3 : Int) (d : D9), SS G X 5 0 0 88 [(0, rf G 174), (1, i9 v1), (2, i9 v2), (3, i9 v3)] [] d (m_X12_layReach_174_c88 k_X12_layReach_174_c81 v1 v2 v3 d) :=
  fix9_ind (P := fun k => ∀ (v1 v2 v3 : Int) (d : D9), SS G X 5 0 0 88 [(0, rf G 174), (1, i9 v1), (2, i9 v2), (3, i9 v3)] [] d (k v1 v2 v3 d)) (fun _ _ _ _ => ss_none) (fun k hk => sb_X12_layReach_174_c88 C k_X12_layReach_174_c81 hk_X12_layReach_174_c81 k hk) FU
set_option maxRecDepth 100000 in
theorem sb_X12_layReach_174_c81 {G : G9} {X : X9} (C : CX G X cX12_layReach 5 RX12 [] z_X12_layReach_174) (k_X12_layReach_174_c81 : Int → Int → D9 → Option R9) (hk_X12_layReach_174_c81 : ∀ (v1 v2 : Int) (d : D9), SS G X 5 0 0 81 [(0, rf G 174), (1, i9 v1), (2, i9 v2)] [] d (k_X12_layReach_174_c81 v1 v2 d)) : ∀ (v1 v2 : Int) (d : D9), SS G X 5 0 0 81 [(0, rf G 174), (1, i9 v1), (2, i9 v2)] [] d (b_X12_layReach_174_c81 k_X12_layReach_174_c81 v1 v2 d) := by
  intro v1 v2 d
  unfold b_X12_layReach_174_c81
  refine r_iload_n C 2 dX12_layReach_81 rfl rfl ?_
  refine r_iload_n C 1 dX12_layReach_82 rfl rfl ?_
  refine r_icmp_ge C 181 dX12_layReach_83 (by decide) (fun _ => ?_) (fun _ => ?_)
  · exact r_vret C dX12_layReach_181 (by decide) (by decide)
  · refine r_iconst C dX12_layReach_86 ?_
    refine r_istore_n C [(3, i9 0), (0, rf G 174), (1, i9 v1), (2, i9 v2)] dX12_layReach_87 rfl (by decide) rfl ?_
    refine ss_wide (k' := 0) (n' := 0) (by decide) (by decide) ?_
    refine ss_ls [(0, rf G 174), (1, i9 v1), (2, i9 v2), (3, i9 0)] [1, 2, 3, 0] rfl ?_
    exact s_X12_layReach_174_c88 C k_X12_layReach_174_c81 hk_X12_layReach_174_c81 v1 v2 0 d
theorem s_X12_layReach_174_c81 {G : G9} {X : X9} (C : CX G X cX12_layReach 5 RX12 [] z_X12_layReach_174) : ∀ (v1 v2 : Int) (d : D9), SS G X 5 0 0 81 [(0, rf G 174), (1, i9 v1), (2, i9 v2)] [] d (m_X12_layReach_174_c81  v1 v2 d) :=
  fix9_ind (P := fun k => ∀ (v1 v2 : Int) (d : D9), SS G X 5 0 0 81 [(0, rf G 174), (1, i9 v1), (2, i9 v2)] [] d (k v1 v2 d)) (fun _ _ _ => ss_none) (fun k hk => sb_X12_layReach_174_c81 C k hk) FU
set_option maxRecDepth 100000 in
theorem sb_X12_layReach_174_c33 {G : G9} {X : X9} (C : CX G X cX12_layReach 5 RX12 [] z_X12_layReach_174) (k_X12_layReach_174_c33 : Int → Int → D9 → Option R9) (hk_X12_layReach_174_c33 : ∀ (v1 v2 : Int) (d : D9), SS G X 5 0 0 33 [(0, rf G 174), (1, i9 v1), (2, i9 v2)] [] d (k_X12_layReach_174_c33 v1 v2 d)) : ∀ (v1 v2 : Int) (d : D9), SS G X 5 0 0 33 [(0, rf G 174), (1, i9 v1), (2, i9 v2)] [] d (b_X12_layReach_174_c33 k_X12_layReach_174_c33 v1 v2 d) := by
  intro v1 v2 d
  unfold b_X12_layReach_174_c33
  refine r_iload_n C 2 dX12_layReach_33 rfl rfl ?_
  refine r_sipush C dX12_layReach_34 rfl ?_
  refine r_iconst C dX12_layReach_37 ?_
  refine r_aload_n C 0 dX12_layReach_38 rfl rfl ?_
  refine r_getR C 175 dX12_layReach_39 fl_X12_9 la_174 ly_174 rfl rfl ?_
  refine r_iconst C dX12_layReach_42 ?_
  refine r_iald C dX12_layReach_43 la_175 ly_175 (fun t1 => ?_)
  refine r_imul C dX12_layReach_44 ?_
  refine r_iadd C dX12_layReach_45 ?_
  refine r_icmp_ge C 79 dX12_layReach_46 (by decide) (fun _ => ?_) (fun _ => ?_)
  · refine r_iconst C dX12_layReach_79 ?_
    refine r_istore_n C [(2, i9 0), (0, rf G 174), (1, i9 v1)] dX12_layReach_80 rfl (by decide) rfl ?_
    refine ss_wide (k' := 0) (n' := 0) (by decide) (by decide) ?_
    refine ss_ls [(0, rf G 174), (1, i9 v1), (2, i9 0)] [1, 2, 0] rfl ?_
    exact s_X12_layReach_174_c81 C  v1 0 d
  · refine r_aload_n C 0 dX12_layReach_49 rfl rfl ?_
    refine r_getR C 182 dX12_layReach_50 fl_X12_36 la_174 ly_174 rfl rfl ?_
    refine r_bipush C dX12_layReach_53 rfl ?_
    refine r_aload_n C 0 dX12_layReach_55 rfl rfl ?_
    refine r_getR C 175 dX12_layReach_56 fl_X12_9 la_174 ly_174 rfl rfl ?_
    refine r_iload_n C 2 dX12_layReach_59 rfl rfl ?_
    refine r_iald C dX12_layReach_60 la_175 ly_175 (fun t2 => ?_)
    refine r_imul C dX12_layReach_61 ?_
    refine r_aload_n C 0 dX12_layReach_62 rfl rfl ?_
    refine r_getR C 175 dX12_layReach_63 fl_X12_9 la_174 ly_174 rfl rfl ?_
    refine r_iload_n C 2 dX12_layReach_66 rfl rfl ?_
    refine r_iconst C dX12_layReach_67 ?_
    refine r_iadd C dX12_layReach_68 ?_
    refine r_iald C dX12_layReach_69 la_175 ly_175 (fun t3 => ?_)
    refine r_iadd C dX12_layReach_70 ?_
    refine r_iconst C dX12_layReach_71 ?_
    refine r_zast C dX12_layReach_72 la_182 ly_182 (fun d4 => ?_)
    refine r_iinc C 2 [(2, i9 (v2 + 2)), (0, rf G 174), (1, i9 v1)] dX12_layReach_73 rfl (by decide) rfl ?_
    refine r_goto C 33 dX12_layReach_76 (by decide) ?_
    refine ss_wide (k' := 0) (n' := 0) (by decide) (by decide) ?_
    refine ss_ls [(0, rf G 174), (1, i9 v1), (2, i9 (v2 + 2))] [1, 2, 0] rfl ?_
    exact hk_X12_layReach_174_c33 v1 (v2 + 2) d4
theorem s_X12_layReach_174_c33 {G : G9} {X : X9} (C : CX G X cX12_layReach 5 RX12 [] z_X12_layReach_174) : ∀ (v1 v2 : Int) (d : D9), SS G X 5 0 0 33 [(0, rf G 174), (1, i9 v1), (2, i9 v2)] [] d (m_X12_layReach_174_c33  v1 v2 d) :=
  fix9_ind (P := fun k => ∀ (v1 v2 : Int) (d : D9), SS G X 5 0 0 33 [(0, rf G 174), (1, i9 v1), (2, i9 v2)] [] d (k v1 v2 d)) (fun _ _ _ => ss_none) (fun k hk => sb_X12_layReach_174_c33 C k hk) FU
set_option maxRecDepth 100000 in
theorem sb_X12_layReach_174_c9 {G : G9} {X : X9} (C : CX G X cX12_layReach 5 RX12 [] z_X12_layReach_174) (k_X12_layReach_174_c9 : Int → Int → D9 → Option R9) (hk_X12_layReach_174_c9 : ∀ (v1 v2 : Int) (d : D9), SS G X 5 0 0 9 [(0, rf G 174), (1, i9 v1), (2, i9 v2)] [] d (k_X12_layReach_174_c9 v1 v2 d)) : ∀ (v1 v2 : Int) (d : D9), SS G X 5 0 0 9 [(0, rf G 174), (1, i9 v1), (2, i9 v2)] [] d (b_X12_layReach_174_c9 k_X12_layReach_174_c9 v1 v2 d) := by
  intro v1 v2 d
  unfold b_X12_layReach_174_c9
  refine r_iload_n C 2 dX12_layReach_9 rfl rfl ?_
  refine r_sipush C dX12_layReach_10 rfl ?_
  refine r_icmp_ge C 29 dX12_layReach_13 (by decide) (fun _ => ?_) (fun _ => ?_)
  · refine r_sipush C dX12_layReach_29 rfl ?_
    refine r_istore_n C [(2, i9 256), (0, rf G 174), (1, i9 v1)] dX12_layReach_32 rfl (by decide) rfl ?_
    refine ss_wide (k' := 0) (n' := 0) (by decide) (by decide) ?_
    refine ss_ls [(0, rf G 174), (1, i9 v1), (2, i9 256)] [1, 2, 0] rfl ?_
    exact s_X12_layReach_174_c33 C  v1 256 d
  · refine r_aload_n C 0 dX12_layReach_16 rfl rfl ?_
    refine r_getR C 182 dX12_layReach_17 fl_X12_36 la_174 ly_174 rfl rfl ?_
    refine r_iload_n C 2 dX12_layReach_20 rfl rfl ?_
    refine r_iconst C dX12_layReach_21 ?_
    refine r_zast C dX12_layReach_22 la_182 ly_182 (fun d1 => ?_)
    refine r_iinc C 2 [(2, i9 (v2 + 1)), (0, rf G 174), (1, i9 v1)] dX12_layReach_23 rfl (by decide) rfl ?_
    refine r_goto C 9 dX12_layReach_26 (by decide) ?_
    refine ss_wide (k' := 0) (n' := 0) (by decide) (by decide) ?_
    refine ss_ls [(0, rf G 174), (1, i9 v1), (2, i9 (v2 + 1))] [1, 2, 0] rfl ?_
    exact hk_X12_layReach_174_c9 v1 (v2 + 1) d1
theorem s_X12_layReach_174_c9 {G : G9} {X : X9} (C : CX G X cX12_layReach 5 RX12 [] z_X12_layReach_174) : ∀ (v1 v2 : Int) (d : D9), SS G X 5 0 0 9 [(0, rf G 174), (1, i9 v1), (2, i9 v2)] [] d (m_X12_layReach_174_c9  v1 v2 d) :=
  fix9_ind (P := fun k => ∀ (v1 v2 : Int) (d : D9), SS G X 5 0 0 9 [(0, rf G 174), (1, i9 v1), (2, i9 v2)] [] d (k v1 v2 d)) (fun _ _ _ => ss_none) (fun k hk => sb_X12_layReach_174_c9 C k hk) FU
set_option maxRecDepth 100000 in
theorem t_X12_layReach_174 {G : G9} {l : Launch} (h1 : va_D (A9 G) (wl G (fun _ _ => 0))) (h2 : l.stackTraces = false) (d : D9) : MT G l yX12_layReach cX12_layReach 5 z_X12_layReach_174 [rf G 174] d (m_X12_layReach_174  d) := by
  refine mt_of (own := RX12) (by decide) rfl (Nat.le_of_ble_eq_true rfl) h1 h2 [(0, rf G 174)] rfl (fun X hX C => ?_)
  unfold m_X12_layReach_174
  refine r_aload_n C 0 dX12_layReach_0 rfl rfl ?_
  refine r_getR C 175 dX12_layReach_1 fl_X12_9 la_174 ly_174 rfl rfl ?_
  refine r_iconst C dX12_layReach_4 ?_
  refine r_iald C dX12_layReach_5 la_175 ly_175 (fun t1 => ?_)
  refine r_istore_n C [(1, i9 t1), (0, rf G 174)] dX12_layReach_6 rfl (by decide) rfl ?_
  refine r_iconst C dX12_layReach_7 ?_
  refine r_istore_n C [(2, i9 0), (1, i9 t1), (0, rf G 174)] dX12_layReach_8 rfl (by decide) rfl ?_
  refine ss_wide (k' := 0) (n' := 0) (by decide) (by decide) ?_
  refine ss_ls [(0, rf G 174), (1, i9 t1), (2, i9 0)] [2, 1, 0] rfl ?_
  exact s_X12_layReach_174_c9 C  t1 0 d

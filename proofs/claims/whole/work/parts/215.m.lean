theorem dX12_restore_0 : decode cX12_restore 0 = .ok (.aload_n 0, 1) := by decide +kernel
theorem dX12_restore_1 : decode cX12_restore 1 = .ok (.iload_n 1, 1) := by decide +kernel
theorem dX12_restore_2 : decode cX12_restore 2 = .ok (.i2l, 1) := by decide +kernel
theorem dX12_restore_3 : decode cX12_restore 3 = .ok (.lconst 0, 1) := by decide +kernel
theorem dX12_restore_4 : decode cX12_restore 4 = .ok (.ldc2_w 114, 3) := by decide +kernel
theorem dX12_restore_7 : decode cX12_restore 7 = .ok (.invokestatic 79, 3) := by decide +kernel
theorem dX12_restore_10 : decode cX12_restore 10 = .ok (.ifCond .ne 7, 3) := by decide +kernel
theorem dX12_restore_13 : decode cX12_restore 13 = .ok (.iconst 1, 1) := by decide +kernel
theorem dX12_restore_14 : decode cX12_restore 14 = .ok (.goto 17, 3) := by decide +kernel
theorem dX12_restore_17 : decode cX12_restore 17 = .ok (.aload_n 0, 1) := by decide +kernel
theorem dX12_restore_18 : decode cX12_restore 18 = .ok (.getfield 16, 3) := by decide +kernel
theorem dX12_restore_21 : decode cX12_restore 21 = .ok (.iload_n 1, 1) := by decide +kernel
theorem dX12_restore_22 : decode cX12_restore 22 = .ok (.baload, 1) := by decide +kernel
theorem dX12_restore_23 : decode cX12_restore 23 = .ok (.ifCond .ne 7, 3) := by decide +kernel
theorem dX12_restore_26 : decode cX12_restore 26 = .ok (.iconst 2, 1) := by decide +kernel
theorem dX12_restore_27 : decode cX12_restore 27 = .ok (.goto 4, 3) := by decide +kernel
theorem dX12_restore_30 : decode cX12_restore 30 = .ok (.iconst 0, 1) := by decide +kernel
theorem dX12_restore_31 : decode cX12_restore 31 = .ok (.putfield 76, 3) := by decide +kernel
theorem dX12_restore_34 : decode cX12_restore 34 = .ok (.aload_n 0, 1) := by decide +kernel
theorem dX12_restore_35 : decode cX12_restore 35 = .ok (.getfield 76, 3) := by decide +kernel
theorem dX12_restore_38 : decode cX12_restore 38 = .ok (.ifCond .le 4, 3) := by decide +kernel
theorem dX12_restore_41 : decode cX12_restore 41 = .ok (.return_, 1) := by decide +kernel
theorem dX12_restore_42 : decode cX12_restore 42 = .ok (.iconst 0, 1) := by decide +kernel
theorem dX12_restore_43 : decode cX12_restore 43 = .ok (.istore_n 2, 1) := by decide +kernel
theorem dX12_restore_44 : decode cX12_restore 44 = .ok (.iload_n 2, 1) := by decide +kernel
theorem dX12_restore_45 : decode cX12_restore 45 = .ok (.sipush 1604, 3) := by decide +kernel
theorem dX12_restore_48 : decode cX12_restore 48 = .ok (.if_icmp .ge 27, 3) := by decide +kernel
theorem dX12_restore_51 : decode cX12_restore 51 = .ok (.aload_n 0, 1) := by decide +kernel
theorem dX12_restore_52 : decode cX12_restore 52 = .ok (.getfield 9, 3) := by decide +kernel
theorem dX12_restore_55 : decode cX12_restore 55 = .ok (.iload_n 2, 1) := by decide +kernel
theorem dX12_restore_56 : decode cX12_restore 56 = .ok (.aload_n 0, 1) := by decide +kernel
theorem dX12_restore_57 : decode cX12_restore 57 = .ok (.getfield 13, 3) := by decide +kernel
theorem dX12_restore_60 : decode cX12_restore 60 = .ok (.sipush 1604, 3) := by decide +kernel
theorem dX12_restore_63 : decode cX12_restore 63 = .ok (.iload_n 1, 1) := by decide +kernel
theorem dX12_restore_64 : decode cX12_restore 64 = .ok (.imul, 1) := by decide +kernel
theorem dX12_restore_65 : decode cX12_restore 65 = .ok (.iload_n 2, 1) := by decide +kernel
theorem dX12_restore_66 : decode cX12_restore 66 = .ok (.iadd, 1) := by decide +kernel
theorem dX12_restore_67 : decode cX12_restore 67 = .ok (.iaload, 1) := by decide +kernel
theorem dX12_restore_68 : decode cX12_restore 68 = .ok (.iastore, 1) := by decide +kernel
theorem dX12_restore_69 : decode cX12_restore 69 = .ok (.iinc 2 1, 3) := by decide +kernel
theorem dX12_restore_72 : decode cX12_restore 72 = .ok (.goto (-28), 3) := by decide +kernel
theorem dX12_restore_75 : decode cX12_restore 75 = .ok (.return_, 1) := by decide +kernel
abbrev z_X12_restore_174 : Z9 := (none, 0, 0, 0, 2, 25)
def b_X12_restore_174_c44 (k_X12_restore_174_c44 : Int → Int → D9 → Option R9) (v1 v2 : Int) (d : D9) : Option R9 := if w32 1604 ≤ w32 v2 then rt 0 d else ld d 176 4812 ((1604 * v1) + v2) (fun t1 => sd d 175 1604 v2 t1 (fun d2 => k_X12_restore_174_c44 v1 (v2 + 1) d2))
def m_X12_restore_174_c44 : Int → Int → D9 → Option R9 := fix9 (fun _ _ _ => none) (fun k => b_X12_restore_174_c44 k) FU
def m_X12_restore_174_c31 (v1 s0 : Int) (d : D9) : Option R9 := pf d 174 3 s0 (fun d1 => if w32 (d1 174 3) ≤ 0 then m_X12_restore_174_c44  v1 0 d1 else rt 0 d1)
def m_X12_restore_174 (p1 : Int) (d : D9) : Option R9 := cl (m_X12_within (w32 p1) 0 2 d) (fun r1 d2 => if w32 r1 ≠ 0 then ld d2 177 3 p1 (fun t3 => if w32 t3 ≠ 0 then m_X12_restore_174_c31  p1 0 d2 else m_X12_restore_174_c31  p1 2 d2) else m_X12_restore_174_c31  p1 1 d2)
set_option maxRecDepth 100000 in
theorem sb_X12_restore_174_c44 {G : G9} {X : X9} (C : CX G X cX12_restore 3 RX12 [] z_X12_restore_174) (k_X12_restore_174_c44 : Int → Int → D9 → Option R9) (hk_X12_restore_174_c44 : ∀ (v1 v2 : Int) (d : D9), SS G X 3 0 0 44 [(0, rf G 174), (1, i9 v1), (2, i9 v2)] [] d (k_X12_restore_174_c44 v1 v2 d)) : ∀ (v1 v2 : Int) (d : D9), SS G X 3 0 0 44 [(0, rf G 174), (1, i9 v1), (2, i9 v2)] [] d (b_X12_restore_174_c44 k_X12_restore_174_c44 v1 v2 d) := by
  intro v1 v2 d
  unfold b_X12_restore_174_c44
  refine r_iload_n C 2 dX12_restore_44 rfl rfl ?_
  refine r_sipush C dX12_restore_45 rfl ?_
  refine r_icmp_ge C 75 dX12_restore_48 (by decide) (fun _ => ?_) (fun _ => ?_)
  · exact r_vret C dX12_restore_75 (by decide) (by decide)
  · refine r_aload_n C 0 dX12_restore_51 rfl rfl ?_
    refine r_getR C 175 dX12_restore_52 fl_X12_9 la_174 ly_174 rfl rfl ?_
    refine r_iload_n C 2 dX12_restore_55 rfl rfl ?_
    refine r_aload_n C 0 dX12_restore_56 rfl rfl ?_
    refine r_getR C 176 dX12_restore_57 fl_X12_13 la_174 ly_174 rfl rfl ?_
    refine r_sipush C dX12_restore_60 rfl ?_
    refine r_iload_n C 1 dX12_restore_63 rfl rfl ?_
    refine r_imul C dX12_restore_64 ?_
    refine r_iload_n C 2 dX12_restore_65 rfl rfl ?_
    refine r_iadd C dX12_restore_66 ?_
    refine r_iald C dX12_restore_67 la_176 ly_176 (fun t1 => ?_)
    refine r_iast C dX12_restore_68 la_175 ly_175 (fun d2 => ?_)
    refine r_iinc C 2 [(2, i9 (v2 + 1)), (0, rf G 174), (1, i9 v1)] dX12_restore_69 rfl (by decide) rfl ?_
    refine r_goto C 44 dX12_restore_72 (by decide) ?_
    refine ss_wide (k' := 0) (n' := 0) (by decide) (by decide) ?_
    refine ss_ls [(0, rf G 174), (1, i9 v1), (2, i9 (v2 + 1))] [1, 2, 0] rfl ?_
    exact hk_X12_restore_174_c44 v1 (v2 + 1) d2
theorem s_X12_restore_174_c44 {G : G9} {X : X9} (C : CX G X cX12_restore 3 RX12 [] z_X12_restore_174) : ∀ (v1 v2 : Int) (d : D9), SS G X 3 0 0 44 [(0, rf G 174), (1, i9 v1), (2, i9 v2)] [] d (m_X12_restore_174_c44  v1 v2 d) :=
  fix9_ind (P := fun k => ∀ (v1 v2 : Int) (d : D9), SS G X 3 0 0 44 [(0, rf G 174), (1, i9 v1), (2, i9 v2)] [] d (k v1 v2 d)) (fun _ _ _ => ss_none) (fun k hk => sb_X12_restore_174_c44 C k hk) FU
set_option maxRecDepth 100000 in
theorem s_X12_restore_174_c31 {G : G9} {X : X9} (C : CX G X cX12_restore 3 RX12 [] z_X12_restore_174) : ∀ (v1 s0 : Int) (d : D9), SS G X 3 0 0 31 [(0, rf G 174), (1, i9 v1)] [i9 s0, rf G 174] d (m_X12_restore_174_c31  v1 s0 d) := by
  intro v1 s0 d
  unfold m_X12_restore_174_c31
  refine r_putI C dX12_restore_31 fp_X12_76 la_174 ly_174 rfl (fun d1 => ?_)
  refine r_aload_n C 0 dX12_restore_34 rfl rfl ?_
  refine r_getI C dX12_restore_35 fl_X12_76 la_174 ly_174 rfl ?_
  refine r_if_le C (b := 0) 42 dX12_restore_38 (by decide) (fun _ => ?_) (fun _ => ?_)
  · refine r_iconst C dX12_restore_42 ?_
    refine r_istore_n C [(2, i9 0), (0, rf G 174), (1, i9 v1)] dX12_restore_43 rfl (by decide) rfl ?_
    refine ss_wide (k' := 0) (n' := 0) (by decide) (by decide) ?_
    refine ss_ls [(0, rf G 174), (1, i9 v1), (2, i9 0)] [1, 2, 0] rfl ?_
    exact s_X12_restore_174_c44 C  v1 0 d1
  · exact r_vret C dX12_restore_41 (by decide) (by decide)
set_option maxRecDepth 100000 in
theorem t_X12_restore_174 {G : G9} {l : Launch} (h1 : va_D (A9 G) (wl G (fun _ _ => 0))) (h2 : l.stackTraces = false) (p1 : Int) (d : D9) : MT G l yX12_restore cX12_restore 3 z_X12_restore_174 [rf G 174, i9 p1] d (m_X12_restore_174 p1 d) := by
  refine mt_of (own := RX12) (by decide) rfl (Nat.le_of_ble_eq_true rfl) h1 h2 [(0, rf G 174), (1, i9 p1)] rfl (fun X hX C => ?_)
  unfold m_X12_restore_174
  refine r_aload_n C 0 dX12_restore_0 rfl rfl ?_
  refine r_iload_n C 1 dX12_restore_1 rfl rfl ?_
  refine r_i2l C dX12_restore_2 ?_
  refine r_lconst C dX12_restore_3 (a := 0) rfl ?_
  refine r_ldcL C dX12_restore_4 kc_X12_114 ?_
  refine r_callS C [l9 2, l9 0, l9 (w32 p1), rf G 174] dX12_restore_7 (t_X12_within C.h1 C.h2 (w32 p1) 0 2 d) mw_X12_79 ms_X12_within (by decide) (by decide) (by decide) rfl rfl (Nat.le_of_ble_eq_true rfl) (fun r1 d2 => ?_)
  show SS G X 3 _ _ 10 [(0, rf G 174), (1, i9 p1)] [i9 r1, rf G 174] d2 _
  refine r_if_ne C (b := 0) 17 dX12_restore_10 (by decide) (fun _ => ?_) (fun _ => ?_)
  · refine r_aload_n C 0 dX12_restore_17 rfl rfl ?_
    refine r_getR C 177 dX12_restore_18 fl_X12_16 la_174 ly_174 rfl rfl ?_
    refine r_iload_n C 1 dX12_restore_21 rfl rfl ?_
    refine r_zald C dX12_restore_22 la_177 ly_177 (fun t3 => ?_)
    refine r_if_ne C (b := 0) 30 dX12_restore_23 (by decide) (fun _ => ?_) (fun _ => ?_)
    · refine r_iconst C dX12_restore_30 ?_
      refine ss_wide (k' := 0) (n' := 0) (by decide) (by decide) ?_
      refine ss_ls [(0, rf G 174), (1, i9 p1)] [0, 1] rfl ?_
      exact s_X12_restore_174_c31 C  p1 0 d2
    · refine r_iconst C dX12_restore_26 ?_
      refine r_goto C 31 dX12_restore_27 (by decide) ?_
      refine ss_wide (k' := 0) (n' := 0) (by decide) (by decide) ?_
      refine ss_ls [(0, rf G 174), (1, i9 p1)] [0, 1] rfl ?_
      exact s_X12_restore_174_c31 C  p1 2 d2
  · refine r_iconst C dX12_restore_13 ?_
    refine r_goto C 31 dX12_restore_14 (by decide) ?_
    refine ss_wide (k' := 0) (n' := 0) (by decide) (by decide) ?_
    refine ss_ls [(0, rf G 174), (1, i9 p1)] [0, 1] rfl ?_
    exact s_X12_restore_174_c31 C  p1 1 d2
theorem dX12_rests_0 : decode cX12_rests 0 = .ok (.aload_n 0, 1) := by decide +kernel
theorem dX12_rests_1 : decode cX12_rests 1 = .ok (.iconst 0, 1) := by decide +kernel
theorem dX12_rests_2 : decode cX12_rests 2 = .ok (.putfield 76, 3) := by decide +kernel
theorem dX12_rests_5 : decode cX12_rests 5 = .ok (.aload_n 0, 1) := by decide +kernel
theorem dX12_rests_6 : decode cX12_rests 6 = .ok (.iload_n 1, 1) := by decide +kernel
theorem dX12_rests_7 : decode cX12_rests 7 = .ok (.invokevirtual 95, 3) := by decide +kernel
theorem dX12_rests_10 : decode cX12_rests 10 = .ok (.ifCond .ne 9, 3) := by decide +kernel
theorem dX12_rests_13 : decode cX12_rests 13 = .ok (.aload_n 0, 1) := by decide +kernel
theorem dX12_rests_14 : decode cX12_rests 14 = .ok (.iconst 1, 1) := by decide +kernel
theorem dX12_rests_15 : decode cX12_rests 15 = .ok (.invokevirtual 89, 3) := by decide +kernel
theorem dX12_rests_18 : decode cX12_rests 18 = .ok (.ireturn, 1) := by decide +kernel
theorem dX12_rests_19 : decode cX12_rests 19 = .ok (.aload_n 0, 1) := by decide +kernel
theorem dX12_rests_20 : decode cX12_rests 20 = .ok (.invokevirtual 381, 3) := by decide +kernel
theorem dX12_rests_23 : decode cX12_rests 23 = .ok (.aload_n 0, 1) := by decide +kernel
theorem dX12_rests_24 : decode cX12_rests 24 = .ok (.iload_n 1, 1) := by decide +kernel
theorem dX12_rests_25 : decode cX12_rests 25 = .ok (.iconst 0, 1) := by decide +kernel
theorem dX12_rests_26 : decode cX12_rests 26 = .ok (.iconst (-1), 1) := by decide +kernel
theorem dX12_rests_27 : decode cX12_rests 27 = .ok (.invokevirtual 384, 3) := by decide +kernel
theorem dX12_rests_30 : decode cX12_rests 30 = .ok (.istore_n 2, 1) := by decide +kernel
theorem dX12_rests_31 : decode cX12_rests 31 = .ok (.aload_n 0, 1) := by decide +kernel
theorem dX12_rests_32 : decode cX12_rests 32 = .ok (.iload_n 1, 1) := by decide +kernel
theorem dX12_rests_33 : decode cX12_rests 33 = .ok (.iconst 1, 1) := by decide +kernel
theorem dX12_rests_34 : decode cX12_rests 34 = .ok (.iconst (-1), 1) := by decide +kernel
theorem dX12_rests_35 : decode cX12_rests 35 = .ok (.invokevirtual 384, 3) := by decide +kernel
theorem dX12_rests_38 : decode cX12_rests 38 = .ok (.istore_n 3, 1) := by decide +kernel
theorem dX12_rests_39 : decode cX12_rests 39 = .ok (.iconst 0, 1) := by decide +kernel
theorem dX12_rests_40 : decode cX12_rests 40 = .ok (.istore 4, 2) := by decide +kernel
theorem dX12_rests_42 : decode cX12_rests 42 = .ok (.iconst 0, 1) := by decide +kernel
theorem dX12_rests_43 : decode cX12_rests 43 = .ok (.istore 5, 2) := by decide +kernel
theorem dX12_rests_45 : decode cX12_rests 45 = .ok (.iload 5, 2) := by decide +kernel
theorem dX12_rests_47 : decode cX12_rests 47 = .ok (.aload_n 0, 1) := by decide +kernel
theorem dX12_rests_48 : decode cX12_rests 48 = .ok (.getfield 9, 3) := by decide +kernel
theorem dX12_rests_51 : decode cX12_rests 51 = .ok (.iconst 1, 1) := by decide +kernel
theorem dX12_rests_52 : decode cX12_rests 52 = .ok (.iaload, 1) := by decide +kernel
theorem dX12_rests_53 : decode cX12_rests 53 = .ok (.if_icmp .ge 43, 3) := by decide +kernel
theorem dX12_rests_56 : decode cX12_rests 56 = .ok (.iload 4, 2) := by decide +kernel
theorem dX12_rests_58 : decode cX12_rests 58 = .ok (.aload_n 0, 1) := by decide +kernel
theorem dX12_rests_59 : decode cX12_rests 59 = .ok (.iload_n 1, 1) := by decide +kernel
theorem dX12_rests_60 : decode cX12_rests 60 = .ok (.iconst 0, 1) := by decide +kernel
theorem dX12_rests_61 : decode cX12_rests 61 = .ok (.iload 5, 2) := by decide +kernel
theorem dX12_rests_63 : decode cX12_rests 63 = .ok (.invokevirtual 384, 3) := by decide +kernel
theorem dX12_rests_66 : decode cX12_rests 66 = .ok (.iload_n 2, 1) := by decide +kernel
theorem dX12_rests_67 : decode cX12_rests 67 = .ok (.if_icmp .ne 15, 3) := by decide +kernel
theorem dX12_rests_70 : decode cX12_rests 70 = .ok (.aload_n 0, 1) := by decide +kernel
theorem dX12_rests_71 : decode cX12_rests 71 = .ok (.iload_n 1, 1) := by decide +kernel
theorem dX12_rests_72 : decode cX12_rests 72 = .ok (.iconst 1, 1) := by decide +kernel
theorem dX12_rests_73 : decode cX12_rests 73 = .ok (.iload 5, 2) := by decide +kernel
theorem dX12_rests_75 : decode cX12_rests 75 = .ok (.invokevirtual 384, 3) := by decide +kernel
theorem dX12_rests_78 : decode cX12_rests 78 = .ok (.iload_n 3, 1) := by decide +kernel
theorem dX12_rests_79 : decode cX12_rests 79 = .ok (.if_icmp .eq 7, 3) := by decide +kernel
theorem dX12_rests_82 : decode cX12_rests 82 = .ok (.iconst 1, 1) := by decide +kernel
theorem dX12_rests_83 : decode cX12_rests 83 = .ok (.goto 4, 3) := by decide +kernel
theorem dX12_rests_86 : decode cX12_rests 86 = .ok (.iconst 0, 1) := by decide +kernel
theorem dX12_rests_87 : decode cX12_rests 87 = .ok (.iadd, 1) := by decide +kernel
theorem dX12_rests_88 : decode cX12_rests 88 = .ok (.istore 4, 2) := by decide +kernel
theorem dX12_rests_90 : decode cX12_rests 90 = .ok (.iinc 5 1, 3) := by decide +kernel
theorem dX12_rests_93 : decode cX12_rests 93 = .ok (.goto (-48), 3) := by decide +kernel
theorem dX12_rests_96 : decode cX12_rests 96 = .ok (.iload 4, 2) := by decide +kernel
theorem dX12_rests_98 : decode cX12_rests 98 = .ok (.ireturn, 1) := by decide +kernel
abbrev z_X12_rests_174 : Z9 := (some .int, 1, 0, 0, 10, 252)
def b_X12_rests_174_c45 (k_X12_rests_174_c45 : Int → Int → Int → Int → Int → D9 → Option R9) (v1 v2 v3 v4 v5 : Int) (d : D9) : Option R9 := ld d 175 1604 1 (fun t1 => if w32 t1 ≤ w32 v5 then rt v4 d else cl (m_X12_boundOf_174 v1 0 v5 d) (fun r2 d3 => if w32 r2 ≠ w32 v2 then lt9v (v4 + 1) (fun a4 => k_X12_rests_174_c45 v1 v2 v3 a4 (v5 + 1) d3) else cl (m_X12_boundOf_174 v1 1 v5 d3) (fun r5 d6 => if w32 r5 = w32 v3 then lt9v (v4 + 0) (fun a7 => k_X12_rests_174_c45 v1 v2 v3 a7 (v5 + 1) d6) else lt9v (v4 + 1) (fun a8 => k_X12_rests_174_c45 v1 v2 v3 a8 (v5 + 1) d6))))
def m_X12_rests_174_c45 : Int → Int → Int → Int → Int → D9 → Option R9 := fix9 (fun _ _ _ _ _ _ => none) (fun k => b_X12_rests_174_c45 k) FU
def m_X12_rests_174 (p1 : Int) (d : D9) : Option R9 := pf d 174 3 0 (fun d1 => cl (m_X12_isPaint_174 p1 d1) (fun r2 d3 => if w32 r2 ≠ 0 then cl (m_X12_layReach_174 d3) (fun r4 d5 => cl (m_X12_boundOf_174 p1 0 (-1) d5) (fun r6 d7 => cl (m_X12_boundOf_174 p1 1 (-1) d7) (fun r8 d9 => m_X12_rests_174_c45  p1 r6 r8 0 0 d9))) else cl (m_X12_fails_174 1 d3) (fun r10 d11 => rt r10 d11)))
set_option maxRecDepth 100000 in
theorem sb_X12_rests_174_c45 {G : G9} {X : X9} (C : CX G X cX12_rests 6 RX12 [] z_X12_rests_174) (k_X12_rests_174_c45 : Int → Int → Int → Int → Int → D9 → Option R9) (hk_X12_rests_174_c45 : ∀ (v1 v2 v3 v4 v5 : Int) (d : D9), SS G X 6 0 0 45 [(0, rf G 174), (1, i9 v1), (2, i9 v2), (3, i9 v3), (4, i9 v4), (5, i9 v5)] [] d (k_X12_rests_174_c45 v1 v2 v3 v4 v5 d)) : ∀ (v1 v2 v3 v4 v5 : Int) (d : D9), SS G X 6 0 0 45 [(0, rf G 174), (1, i9 v1), (2, i9 v2), (3, i9 v3), (4, i9 v4), (5, i9 v5)] [] d (b_X12_rests_174_c45 k_X12_rests_174_c45 v1 v2 v3 v4 v5 d) := by
  intro v1 v2 v3 v4 v5 d
  unfold b_X12_rests_174_c45
  refine r_iload C 5 dX12_rests_45 rfl ?_
  refine r_aload_n C 0 dX12_rests_47 rfl rfl ?_
  refine r_getR C 175 dX12_rests_48 fl_X12_9 la_174 ly_174 rfl rfl ?_
  refine r_iconst C dX12_rests_51 ?_
  refine r_iald C dX12_rests_52 la_175 ly_175 (fun t1 => ?_)
  refine r_icmp_ge C 96 dX12_rests_53 (by decide) (fun _ => ?_) (fun _ => ?_)
  · refine r_iload C 4 dX12_rests_96 rfl ?_
    exact r_iret C dX12_rests_98 (by decide) (by decide)
  · refine r_iload C 4 dX12_rests_56 rfl ?_
    refine r_aload_n C 0 dX12_rests_58 rfl rfl ?_
    refine r_iload_n C 1 dX12_rests_59 rfl rfl ?_
    refine r_iconst C dX12_rests_60 ?_
    refine r_iload C 5 dX12_rests_61 rfl ?_
    refine r_callV C [i9 v5, i9 0, i9 v1, rf G 174, i9 v4] dX12_rests_63 (t_X12_boundOf_174 C.h1 C.h2 v1 0 v5 d) mw_X12_384 mv_X12_boundOf la_174 ly_174 rfl (by decide) (by decide) (by decide) rfl rfl (Nat.le_of_ble_eq_true rfl) (fun r2 d3 => ?_)
    show SS G X 6 _ _ 66 [(0, rf G 174), (1, i9 v1), (2, i9 v2), (3, i9 v3), (4, i9 v4), (5, i9 v5)] [i9 r2, i9 v4] d3 _
    refine r_iload_n C 2 dX12_rests_66 rfl rfl ?_
    refine r_icmp_ne C 82 dX12_rests_67 (by decide) (fun _ => ?_) (fun _ => ?_)
    · refine r_iconst C dX12_rests_82 ?_
      refine r_goto C 87 dX12_rests_83 (by decide) ?_
      refine r_iadd C dX12_rests_87 ?_
      refine ss_lt (fun a4 => ?_)
      refine r_istore C [(4, i9 a4), (0, rf G 174), (1, i9 v1), (2, i9 v2), (3, i9 v3), (5, i9 v5)] dX12_rests_88 (by decide) rfl ?_
      refine r_iinc C 5 [(5, i9 (v5 + 1)), (4, i9 a4), (0, rf G 174), (1, i9 v1), (2, i9 v2), (3, i9 v3)] dX12_rests_90 rfl (by decide) rfl ?_
      refine r_goto C 45 dX12_rests_93 (by decide) ?_
      refine ss_wide (k' := 0) (n' := 0) (by decide) (by decide) ?_
      refine ss_ls [(0, rf G 174), (1, i9 v1), (2, i9 v2), (3, i9 v3), (4, i9 a4), (5, i9 (v5 + 1))] [2, 3, 4, 5, 1, 0] rfl ?_
      exact hk_X12_rests_174_c45 v1 v2 v3 a4 (v5 + 1) d3
    · refine r_aload_n C 0 dX12_rests_70 rfl rfl ?_
      refine r_iload_n C 1 dX12_rests_71 rfl rfl ?_
      refine r_iconst C dX12_rests_72 ?_
      refine r_iload C 5 dX12_rests_73 rfl ?_
      refine r_callV C [i9 v5, i9 1, i9 v1, rf G 174, i9 v4] dX12_rests_75 (t_X12_boundOf_174 C.h1 C.h2 v1 1 v5 d3) mw_X12_384 mv_X12_boundOf la_174 ly_174 rfl (by decide) (by decide) (by decide) rfl rfl (Nat.le_of_ble_eq_true rfl) (fun r5 d6 => ?_)
      show SS G X 6 _ _ 78 [(0, rf G 174), (1, i9 v1), (2, i9 v2), (3, i9 v3), (4, i9 v4), (5, i9 v5)] [i9 r5, i9 v4] d6 _
      refine r_iload_n C 3 dX12_rests_78 rfl rfl ?_
      refine r_icmp_eq C 86 dX12_rests_79 (by decide) (fun _ => ?_) (fun _ => ?_)
      · refine r_iconst C dX12_rests_86 ?_
        refine r_iadd C dX12_rests_87 ?_
        refine ss_lt (fun a7 => ?_)
        refine r_istore C [(4, i9 a7), (0, rf G 174), (1, i9 v1), (2, i9 v2), (3, i9 v3), (5, i9 v5)] dX12_rests_88 (by decide) rfl ?_
        refine r_iinc C 5 [(5, i9 (v5 + 1)), (4, i9 a7), (0, rf G 174), (1, i9 v1), (2, i9 v2), (3, i9 v3)] dX12_rests_90 rfl (by decide) rfl ?_
        refine r_goto C 45 dX12_rests_93 (by decide) ?_
        refine ss_wide (k' := 0) (n' := 0) (by decide) (by decide) ?_
        refine ss_ls [(0, rf G 174), (1, i9 v1), (2, i9 v2), (3, i9 v3), (4, i9 a7), (5, i9 (v5 + 1))] [2, 3, 4, 5, 1, 0] rfl ?_
        exact hk_X12_rests_174_c45 v1 v2 v3 a7 (v5 + 1) d6
      · refine r_iconst C dX12_rests_82 ?_
        refine r_goto C 87 dX12_rests_83 (by decide) ?_
        refine r_iadd C dX12_rests_87 ?_
        refine ss_lt (fun a8 => ?_)
        refine r_istore C [(4, i9 a8), (0, rf G 174), (1, i9 v1), (2, i9 v2), (3, i9 v3), (5, i9 v5)] dX12_rests_88 (by decide) rfl ?_
        refine r_iinc C 5 [(5, i9 (v5 + 1)), (4, i9 a8), (0, rf G 174), (1, i9 v1), (2, i9 v2), (3, i9 v3)] dX12_rests_90 rfl (by decide) rfl ?_
        refine r_goto C 45 dX12_rests_93 (by decide) ?_
        refine ss_wide (k' := 0) (n' := 0) (by decide) (by decide) ?_
        refine ss_ls [(0, rf G 174), (1, i9 v1), (2, i9 v2), (3, i9 v3), (4, i9 a8), (5, i9 (v5 + 1))] [2, 3, 4, 5, 1, 0] rfl ?_
        exact hk_X12_rests_174_c45 v1 v2 v3 a8 (v5 + 1) d6
theorem s_X12_rests_174_c45 {G : G9} {X : X9} (C : CX G X cX12_rests 6 RX12 [] z_X12_rests_174) : ∀ (v1 v2 v3 v4 v5 : Int) (d : D9), SS G X 6 0 0 45 [(0, rf G 174), (1, i9 v1), (2, i9 v2), (3, i9 v3), (4, i9 v4), (5, i9 v5)] [] d (m_X12_rests_174_c45  v1 v2 v3 v4 v5 d) :=
  fix9_ind (P := fun k => ∀ (v1 v2 v3 v4 v5 : Int) (d : D9), SS G X 6 0 0 45 [(0, rf G 174), (1, i9 v1), (2, i9 v2), (3, i9 v3), (4, i9 v4), (5, i9 v5)] [] d (k v1 v2 v3 v4 v5 d)) (fun _ _ _ _ _ _ => ss_none) (fun k hk => sb_X12_rests_174_c45 C k hk) FU
set_option maxRecDepth 100000 in
theorem t_X12_rests_174 {G : G9} {l : Launch} (h1 : va_D (A9 G) (wl G (fun _ _ => 0))) (h2 : l.stackTraces = false) (p1 : Int) (d : D9) : MT G l yX12_rests cX12_rests 6 z_X12_rests_174 [rf G 174, i9 p1] d (m_X12_rests_174 p1 d) := by
  refine mt_of (own := RX12) (by decide) rfl (Nat.le_of_ble_eq_true rfl) h1 h2 [(0, rf G 174), (1, i9 p1)] rfl (fun X hX C => ?_)
  unfold m_X12_rests_174
  refine r_aload_n C 0 dX12_rests_0 rfl rfl ?_
  refine r_iconst C dX12_rests_1 ?_
  refine r_putI C dX12_rests_2 fp_X12_76 la_174 ly_174 rfl (fun d1 => ?_)
  refine r_aload_n C 0 dX12_rests_5 rfl rfl ?_
  refine r_iload_n C 1 dX12_rests_6 rfl rfl ?_
  refine r_callV C [i9 p1, rf G 174] dX12_rests_7 (t_X12_isPaint_174 C.h1 C.h2 p1 d1) mw_X12_95 mv_X12_isPaint la_174 ly_174 rfl (by decide) (by decide) (by decide) rfl rfl (Nat.le_of_ble_eq_true rfl) (fun r2 d3 => ?_)
  show SS G X 6 _ _ 10 [(0, rf G 174), (1, i9 p1)] [i9 r2] d3 _
  refine r_if_ne C (b := 0) 19 dX12_rests_10 (by decide) (fun _ => ?_) (fun _ => ?_)
  · refine r_aload_n C 0 dX12_rests_19 rfl rfl ?_
    refine r_callV C [rf G 174] dX12_rests_20 (t_X12_layReach_174 C.h1 C.h2 d3) mw_X12_381 mv_X12_layReach la_174 ly_174 rfl (by decide) (by decide) (by decide) rfl rfl (Nat.le_of_ble_eq_true rfl) (fun r4 d5 => ?_)
    show SS G X 6 _ _ 23 [(0, rf G 174), (1, i9 p1)] [] d5 _
    refine r_aload_n C 0 dX12_rests_23 rfl rfl ?_
    refine r_iload_n C 1 dX12_rests_24 rfl rfl ?_
    refine r_iconst C dX12_rests_25 ?_
    refine r_iconst C dX12_rests_26 ?_
    refine r_callV C [i9 (-1), i9 0, i9 p1, rf G 174] dX12_rests_27 (t_X12_boundOf_174 C.h1 C.h2 p1 0 (-1) d5) mw_X12_384 mv_X12_boundOf la_174 ly_174 rfl (by decide) (by decide) (by decide) rfl rfl (Nat.le_of_ble_eq_true rfl) (fun r6 d7 => ?_)
    show SS G X 6 _ _ 30 [(0, rf G 174), (1, i9 p1)] [i9 r6] d7 _
    refine r_istore_n C [(2, i9 r6), (0, rf G 174), (1, i9 p1)] dX12_rests_30 rfl (by decide) rfl ?_
    refine r_aload_n C 1 dX12_rests_31 rfl rfl ?_
    refine r_iload_n C 2 dX12_rests_32 rfl rfl ?_
    refine r_iconst C dX12_rests_33 ?_
    refine r_iconst C dX12_rests_34 ?_
    refine r_callV C [i9 (-1), i9 1, i9 p1, rf G 174] dX12_rests_35 (t_X12_boundOf_174 C.h1 C.h2 p1 1 (-1) d7) mw_X12_384 mv_X12_boundOf la_174 ly_174 rfl (by decide) (by decide) (by decide) rfl rfl (Nat.le_of_ble_eq_true rfl) (fun r8 d9 => ?_)
    show SS G X 6 _ _ 38 [(2, i9 r6), (0, rf G 174), (1, i9 p1)] [i9 r8] d9 _
    refine r_istore_n C [(3, i9 r8), (2, i9 r6), (0, rf G 174), (1, i9 p1)] dX12_rests_38 rfl (by decide) rfl ?_
    refine r_iconst C dX12_rests_39 ?_
    refine r_istore C [(4, i9 0), (3, i9 r8), (2, i9 r6), (0, rf G 174), (1, i9 p1)] dX12_rests_40 (by decide) rfl ?_
    refine r_iconst C dX12_rests_42 ?_
    refine r_istore C [(5, i9 0), (4, i9 0), (3, i9 r8), (2, i9 r6), (0, rf G 174), (1, i9 p1)] dX12_rests_43 (by decide) rfl ?_
    refine ss_wide (k' := 0) (n' := 0) (by decide) (by decide) ?_
    refine ss_ls [(0, rf G 174), (1, i9 p1), (2, i9 r6), (3, i9 r8), (4, i9 0), (5, i9 0)] [4, 5, 3, 2, 1, 0] rfl ?_
    exact s_X12_rests_174_c45 C  p1 r6 r8 0 0 d9
  · refine r_aload_n C 0 dX12_rests_13 rfl rfl ?_
    refine r_iconst C dX12_rests_14 ?_
    refine r_callV C [i9 1, rf G 174] dX12_rests_15 (t_X12_fails_174 C.h1 C.h2 1 d3) mw_X12_89 mv_X12_fails la_174 ly_174 rfl (by decide) (by decide) (by decide) rfl rfl (Nat.le_of_ble_eq_true rfl) (fun r10 d11 => ?_)
    show SS G X 6 _ _ 18 [(0, rf G 174), (1, i9 p1)] [i9 r10] d11 _
    exact r_iret C dX12_rests_18 (by decide) (by decide)
theorem dX12_ring_0 : decode cX12_ring 0 = .ok (.aload_n 0, 1) := by decide +kernel
theorem dX12_ring_1 : decode cX12_ring 1 = .ok (.aload_n 0, 1) := by decide +kernel
theorem dX12_ring_2 : decode cX12_ring 2 = .ok (.iload_n 1, 1) := by decide +kernel
theorem dX12_ring_3 : decode cX12_ring 3 = .ok (.invokevirtual 95, 3) := by decide +kernel
theorem dX12_ring_6 : decode cX12_ring 6 = .ok (.ifCond .eq 7, 3) := by decide +kernel
theorem dX12_ring_9 : decode cX12_ring 9 = .ok (.iconst 0, 1) := by decide +kernel
theorem dX12_ring_10 : decode cX12_ring 10 = .ok (.goto 4, 3) := by decide +kernel
theorem dX12_ring_13 : decode cX12_ring 13 = .ok (.iconst 1, 1) := by decide +kernel
theorem dX12_ring_14 : decode cX12_ring 14 = .ok (.putfield 76, 3) := by decide +kernel
theorem dX12_ring_17 : decode cX12_ring 17 = .ok (.aload_n 0, 1) := by decide +kernel
theorem dX12_ring_18 : decode cX12_ring 18 = .ok (.getfield 76, 3) := by decide +kernel
theorem dX12_ring_21 : decode cX12_ring 21 = .ok (.ifCond .le 5, 3) := by decide +kernel
theorem dX12_ring_24 : decode cX12_ring 24 = .ok (.iconst 0, 1) := by decide +kernel
theorem dX12_ring_25 : decode cX12_ring 25 = .ok (.ireturn, 1) := by decide +kernel
theorem dX12_ring_26 : decode cX12_ring 26 = .ok (.aload_n 0, 1) := by decide +kernel
theorem dX12_ring_27 : decode cX12_ring 27 = .ok (.invokevirtual 381, 3) := by decide +kernel
theorem dX12_ring_30 : decode cX12_ring 30 = .ok (.aload_n 0, 1) := by decide +kernel
theorem dX12_ring_31 : decode cX12_ring 31 = .ok (.iload_n 1, 1) := by decide +kernel
theorem dX12_ring_32 : decode cX12_ring 32 = .ok (.iload_n 1, 1) := by decide +kernel
theorem dX12_ring_33 : decode cX12_ring 33 = .ok (.invokevirtual 378, 3) := by decide +kernel
theorem dX12_ring_36 : decode cX12_ring 36 = .ok (.ireturn, 1) := by decide +kernel
abbrev z_X12_ring_174 : Z9 := (some .boolean, 1, 0, 0, 3, 46)
def m_X12_ring_174_c14 (v1 s0 : Int) (d : D9) : Option R9 := pf d 174 3 s0 (fun d1 => if w32 (d1 174 3) ≤ 0 then cl (m_X12_layReach_174 d1) (fun r2 d3 => cl (m_X12_isAbove_174 v1 v1 d3) (fun r4 d5 => rt (r4 % 2) d5)) else rt (0 % 2) d1)
def m_X12_ring_174 (p1 : Int) (d : D9) : Option R9 := cl (m_X12_isPaint_174 p1 d) (fun r1 d2 => if w32 r1 = 0 then m_X12_ring_174_c14  p1 1 d2 else m_X12_ring_174_c14  p1 0 d2)
set_option maxRecDepth 100000 in
theorem s_X12_ring_174_c14 {G : G9} {X : X9} (C : CX G X cX12_ring 2 RX12 [] z_X12_ring_174) : ∀ (v1 s0 : Int) (d : D9), SS G X 2 0 0 14 [(0, rf G 174), (1, i9 v1)] [i9 s0, rf G 174] d (m_X12_ring_174_c14  v1 s0 d) := by
  intro v1 s0 d
  unfold m_X12_ring_174_c14
  refine r_putI C dX12_ring_14 fp_X12_76 la_174 ly_174 rfl (fun d1 => ?_)
  refine r_aload_n C 0 dX12_ring_17 rfl rfl ?_
  refine r_getI C dX12_ring_18 fl_X12_76 la_174 ly_174 rfl ?_
  refine r_if_le C (b := 0) 26 dX12_ring_21 (by decide) (fun _ => ?_) (fun _ => ?_)
  · refine r_aload_n C 0 dX12_ring_26 rfl rfl ?_
    refine r_callV C [rf G 174] dX12_ring_27 (t_X12_layReach_174 C.h1 C.h2 d1) mw_X12_381 mv_X12_layReach la_174 ly_174 rfl (by decide) (by decide) (by decide) rfl rfl (Nat.le_of_ble_eq_true rfl) (fun r2 d3 => ?_)
    show SS G X 2 _ _ 30 [(0, rf G 174), (1, i9 v1)] [] d3 _
    refine r_aload_n C 0 dX12_ring_30 rfl rfl ?_
    refine r_iload_n C 1 dX12_ring_31 rfl rfl ?_
    refine r_iload_n C 1 dX12_ring_32 rfl rfl ?_
    refine r_callV C [i9 v1, i9 v1, rf G 174] dX12_ring_33 (t_X12_isAbove_174 C.h1 C.h2 v1 v1 d3) mw_X12_378 mv_X12_isAbove la_174 ly_174 rfl (by decide) (by decide) (by decide) rfl rfl (Nat.le_of_ble_eq_true rfl) (fun r4 d5 => ?_)
    show SS G X 2 _ _ 36 [(0, rf G 174), (1, i9 v1)] [i9 r4] d5 _
    exact r_zret C dX12_ring_36 (by decide) (by decide)
  · refine r_iconst C dX12_ring_24 ?_
    exact r_zret C dX12_ring_25 (by decide) (by decide)
set_option maxRecDepth 100000 in
theorem t_X12_ring_174 {G : G9} {l : Launch} (h1 : va_D (A9 G) (wl G (fun _ _ => 0))) (h2 : l.stackTraces = false) (p1 : Int) (d : D9) : MT G l yX12_ring cX12_ring 2 z_X12_ring_174 [rf G 174, i9 p1] d (m_X12_ring_174 p1 d) := by
  refine mt_of (own := RX12) (by decide) rfl (Nat.le_of_ble_eq_true rfl) h1 h2 [(0, rf G 174), (1, i9 p1)] rfl (fun X hX C => ?_)
  unfold m_X12_ring_174
  refine r_aload_n C 0 dX12_ring_0 rfl rfl ?_
  refine r_aload_n C 0 dX12_ring_1 rfl rfl ?_
  refine r_iload_n C 1 dX12_ring_2 rfl rfl ?_
  refine r_callV C [i9 p1, rf G 174, rf G 174] dX12_ring_3 (t_X12_isPaint_174 C.h1 C.h2 p1 d) mw_X12_95 mv_X12_isPaint la_174 ly_174 rfl (by decide) (by decide) (by decide) rfl rfl (Nat.le_of_ble_eq_true rfl) (fun r1 d2 => ?_)
  show SS G X 2 _ _ 6 [(0, rf G 174), (1, i9 p1)] [i9 r1, rf G 174] d2 _
  refine r_if_eq C (b := 0) 13 dX12_ring_6 (by decide) (fun _ => ?_) (fun _ => ?_)
  · refine r_iconst C dX12_ring_13 ?_
    refine ss_wide (k' := 0) (n' := 0) (by decide) (by decide) ?_
    refine ss_ls [(0, rf G 174), (1, i9 p1)] [0, 1] rfl ?_
    exact s_X12_ring_174_c14 C  p1 1 d2
  · refine r_iconst C dX12_ring_9 ?_
    refine r_goto C 14 dX12_ring_10 (by decide) ?_
    refine ss_wide (k' := 0) (n' := 0) (by decide) (by decide) ?_
    refine ss_ls [(0, rf G 174), (1, i9 p1)] [0, 1] rfl ?_
    exact s_X12_ring_174_c14 C  p1 0 d2
theorem dX12_sortFault_0 : decode cX12_sortFault 0 = .ok (.aload_n 0, 1) := by decide +kernel
theorem dX12_sortFault_1 : decode cX12_sortFault 1 = .ok (.iload_n 1, 1) := by decide +kernel
theorem dX12_sortFault_2 : decode cX12_sortFault 2 = .ok (.invokevirtual 103, 3) := by decide +kernel
theorem dX12_sortFault_5 : decode cX12_sortFault 5 = .ok (.ifCond .le 11, 3) := by decide +kernel
theorem dX12_sortFault_8 : decode cX12_sortFault 8 = .ok (.aload_n 0, 1) := by decide +kernel
theorem dX12_sortFault_9 : decode cX12_sortFault 9 = .ok (.iload_n 1, 1) := by decide +kernel
theorem dX12_sortFault_10 : decode cX12_sortFault 10 = .ok (.invokevirtual 103, 3) := by decide +kernel
theorem dX12_sortFault_13 : decode cX12_sortFault 13 = .ok (.goto 20, 3) := by decide +kernel
theorem dX12_sortFault_16 : decode cX12_sortFault 16 = .ok (.iload_n 2, 1) := by decide +kernel
theorem dX12_sortFault_17 : decode cX12_sortFault 17 = .ok (.i2l, 1) := by decide +kernel
theorem dX12_sortFault_18 : decode cX12_sortFault 18 = .ok (.lconst 0, 1) := by decide +kernel
theorem dX12_sortFault_19 : decode cX12_sortFault 19 = .ok (.ldc2_w 83, 3) := by decide +kernel
theorem dX12_sortFault_22 : decode cX12_sortFault 22 = .ok (.invokestatic 79, 3) := by decide +kernel
theorem dX12_sortFault_25 : decode cX12_sortFault 25 = .ok (.ifCond .eq 7, 3) := by decide +kernel
theorem dX12_sortFault_28 : decode cX12_sortFault 28 = .ok (.iconst 0, 1) := by decide +kernel
theorem dX12_sortFault_29 : decode cX12_sortFault 29 = .ok (.goto 4, 3) := by decide +kernel
theorem dX12_sortFault_32 : decode cX12_sortFault 32 = .ok (.iconst 3, 1) := by decide +kernel
theorem dX12_sortFault_33 : decode cX12_sortFault 33 = .ok (.ireturn, 1) := by decide +kernel
abbrev z_X12_sortFault_174 : Z9 := (some .int, 1, 0, 0, 4, 67)
def m_X12_sortFault_174 (p1 p2 : Int) (d : D9) : Option R9 := cl (m_X12_handFault_174 p1 d) (fun r1 d2 => if w32 r1 ≤ 0 then cl (m_X12_within (w32 p2) 0 3 d2) (fun r3 d4 => if w32 r3 = 0 then rt 3 d4 else rt 0 d4) else cl (m_X12_handFault_174 p1 d2) (fun r5 d6 => rt r5 d6))
set_option maxRecDepth 100000 in
theorem t_X12_sortFault_174 {G : G9} {l : Launch} (h1 : va_D (A9 G) (wl G (fun _ _ => 0))) (h2 : l.stackTraces = false) (p1 p2 : Int) (d : D9) : MT G l yX12_sortFault cX12_sortFault 3 z_X12_sortFault_174 [rf G 174, i9 p1, i9 p2] d (m_X12_sortFault_174 p1 p2 d) := by
  refine mt_of (own := RX12) (by decide) rfl (Nat.le_of_ble_eq_true rfl) h1 h2 [(0, rf G 174), (1, i9 p1), (2, i9 p2)] rfl (fun X hX C => ?_)
  unfold m_X12_sortFault_174
  refine r_aload_n C 0 dX12_sortFault_0 rfl rfl ?_
  refine r_iload_n C 1 dX12_sortFault_1 rfl rfl ?_
  refine r_callV C [i9 p1, rf G 174] dX12_sortFault_2 (t_X12_handFault_174 C.h1 C.h2 p1 d) mw_X12_103 mv_X12_handFault la_174 ly_174 rfl (by decide) (by decide) (by decide) rfl rfl (Nat.le_of_ble_eq_true rfl) (fun r1 d2 => ?_)
  show SS G X 3 _ _ 5 [(0, rf G 174), (1, i9 p1), (2, i9 p2)] [i9 r1] d2 _
  refine r_if_le C (b := 0) 16 dX12_sortFault_5 (by decide) (fun _ => ?_) (fun _ => ?_)
  · refine r_iload_n C 2 dX12_sortFault_16 rfl rfl ?_
    refine r_i2l C dX12_sortFault_17 ?_
    refine r_lconst C dX12_sortFault_18 (a := 0) rfl ?_
    refine r_ldcL C dX12_sortFault_19 kc_X12_83 ?_
    refine r_callS C [l9 3, l9 0, l9 (w32 p2)] dX12_sortFault_22 (t_X12_within C.h1 C.h2 (w32 p2) 0 3 d2) mw_X12_79 ms_X12_within (by decide) (by decide) (by decide) rfl rfl (Nat.le_of_ble_eq_true rfl) (fun r3 d4 => ?_)
    show SS G X 3 _ _ 25 [(0, rf G 174), (1, i9 p1), (2, i9 p2)] [i9 r3] d4 _
    refine r_if_eq C (b := 0) 32 dX12_sortFault_25 (by decide) (fun _ => ?_) (fun _ => ?_)
    · refine r_iconst C dX12_sortFault_32 ?_
      exact r_iret C dX12_sortFault_33 (by decide) (by decide)
    · refine r_iconst C dX12_sortFault_28 ?_
      refine r_goto C 33 dX12_sortFault_29 (by decide) ?_
      exact r_iret C dX12_sortFault_33 (by decide) (by decide)
  · refine r_aload_n C 0 dX12_sortFault_8 rfl rfl ?_
    refine r_iload_n C 1 dX12_sortFault_9 rfl rfl ?_
    refine r_callV C [i9 p1, rf G 174] dX12_sortFault_10 (t_X12_handFault_174 C.h1 C.h2 p1 d2) mw_X12_103 mv_X12_handFault la_174 ly_174 rfl (by decide) (by decide) (by decide) rfl rfl (Nat.le_of_ble_eq_true rfl) (fun r5 d6 => ?_)
    show SS G X 3 _ _ 13 [(0, rf G 174), (1, i9 p1), (2, i9 p2)] [i9 r5] d6 _
    refine r_goto C 33 dX12_sortFault_13 (by decide) ?_
    exact r_iret C dX12_sortFault_33 (by decide) (by decide)
theorem dX12_sign_0 : decode cX12_sign 0 = .ok (.iload_n 0, 1) := by decide +kernel
theorem dX12_sign_1 : decode cX12_sign 1 = .ok (.ifCond .le 7, 3) := by decide +kernel
theorem dX12_sign_4 : decode cX12_sign 4 = .ok (.iconst 1, 1) := by decide +kernel
theorem dX12_sign_5 : decode cX12_sign 5 = .ok (.goto 12, 3) := by decide +kernel
theorem dX12_sign_8 : decode cX12_sign 8 = .ok (.iload_n 0, 1) := by decide +kernel
theorem dX12_sign_9 : decode cX12_sign 9 = .ok (.ifCond .ge 7, 3) := by decide +kernel
theorem dX12_sign_12 : decode cX12_sign 12 = .ok (.iconst (-1), 1) := by decide +kernel
theorem dX12_sign_13 : decode cX12_sign 13 = .ok (.goto 4, 3) := by decide +kernel
theorem dX12_sign_16 : decode cX12_sign 16 = .ok (.iconst 0, 1) := by decide +kernel
theorem dX12_sign_17 : decode cX12_sign 17 = .ok (.ireturn, 1) := by decide +kernel
abbrev z_X12_sign : Z9 := (some .int, 1, 0, 0, 1, 0)
def m_X12_sign (p0 : Int) (d : D9) : Option R9 := if w32 p0 ≤ 0 then if 0 ≤ w32 p0 then rt 0 d else rt (-1) d else rt 1 d
set_option maxRecDepth 100000 in
theorem t_X12_sign {G : G9} {l : Launch} (h1 : va_D (A9 G) (wl G (fun _ _ => 0))) (h2 : l.stackTraces = false) (p0 : Int) (d : D9) : MT G l yX12_sign cX12_sign 1 z_X12_sign [i9 p0] d (m_X12_sign p0 d) := by
  refine mt_of (own := RX12) (by decide) rfl (Nat.le_of_ble_eq_true rfl) h1 h2 [(0, i9 p0)] rfl (fun X hX C => ?_)
  unfold m_X12_sign
  refine r_iload_n C 0 dX12_sign_0 rfl rfl ?_
  refine r_if_le C (b := 0) 8 dX12_sign_1 (by decide) (fun _ => ?_) (fun _ => ?_)
  · refine r_iload_n C 0 dX12_sign_8 rfl rfl ?_
    refine r_if_ge C (b := 0) 16 dX12_sign_9 (by decide) (fun _ => ?_) (fun _ => ?_)
    · refine r_iconst C dX12_sign_16 ?_
      exact r_iret C dX12_sign_17 (by decide) (by decide)
    · refine r_iconst C dX12_sign_12 ?_
      refine r_goto C 17 dX12_sign_13 (by decide) ?_
      exact r_iret C dX12_sign_17 (by decide) (by decide)
  · refine r_iconst C dX12_sign_4 ?_
    refine r_goto C 17 dX12_sign_5 (by decide) ?_
    exact r_iret C dX12_sign_17 (by decide) (by decide)
theorem dX12_ringed_0 : decode cX12_ringed 0 = .ok (.aload_n 0, 1) := by decide +kernel
theorem dX12_ringed_1 : decode cX12_ringed 1 = .ok (.aload_n 0, 1) := by decide +kernel
theorem dX12_ringed_2 : decode cX12_ringed 2 = .ok (.iload_n 1, 1) := by decide +kernel
theorem dX12_ringed_3 : decode cX12_ringed 3 = .ok (.iload_n 2, 1) := by decide +kernel
theorem dX12_ringed_4 : decode cX12_ringed 4 = .ok (.invokevirtual 412, 3) := by decide +kernel
theorem dX12_ringed_7 : decode cX12_ringed 7 = .ok (.putfield 76, 3) := by decide +kernel
theorem dX12_ringed_10 : decode cX12_ringed 10 = .ok (.aload_n 0, 1) := by decide +kernel
theorem dX12_ringed_11 : decode cX12_ringed 11 = .ok (.getfield 76, 3) := by decide +kernel
theorem dX12_ringed_14 : decode cX12_ringed 14 = .ok (.ifCond .le 5, 3) := by decide +kernel
theorem dX12_ringed_17 : decode cX12_ringed 17 = .ok (.iconst 0, 1) := by decide +kernel
theorem dX12_ringed_18 : decode cX12_ringed 18 = .ok (.ireturn, 1) := by decide +kernel
theorem dX12_ringed_19 : decode cX12_ringed 19 = .ok (.lconst 0, 1) := by decide +kernel
theorem dX12_ringed_20 : decode cX12_ringed 20 = .ok (.lstore_n 3, 1) := by decide +kernel
theorem dX12_ringed_21 : decode cX12_ringed 21 = .ok (.lconst 0, 1) := by decide +kernel
theorem dX12_ringed_22 : decode cX12_ringed 22 = .ok (.lstore 5, 2) := by decide +kernel
theorem dX12_ringed_24 : decode cX12_ringed 24 = .ok (.iconst 0, 1) := by decide +kernel
theorem dX12_ringed_25 : decode cX12_ringed 25 = .ok (.istore 7, 2) := by decide +kernel
theorem dX12_ringed_27 : decode cX12_ringed 27 = .ok (.iload 7, 2) := by decide +kernel
theorem dX12_ringed_29 : decode cX12_ringed 29 = .ok (.aload_n 0, 1) := by decide +kernel
theorem dX12_ringed_30 : decode cX12_ringed 30 = .ok (.getfield 9, 3) := by decide +kernel
theorem dX12_ringed_33 : decode cX12_ringed 33 = .ok (.iconst 3, 1) := by decide +kernel
theorem dX12_ringed_34 : decode cX12_ringed 34 = .ok (.iaload, 1) := by decide +kernel
theorem dX12_ringed_35 : decode cX12_ringed 35 = .ok (.if_icmp .ge 74, 3) := by decide +kernel
theorem dX12_ringed_38 : decode cX12_ringed 38 = .ok (.aload_n 0, 1) := by decide +kernel
theorem dX12_ringed_39 : decode cX12_ringed 39 = .ok (.iload 7, 2) := by decide +kernel
theorem dX12_ringed_41 : decode cX12_ringed 41 = .ok (.iconst 0, 1) := by decide +kernel
theorem dX12_ringed_42 : decode cX12_ringed 42 = .ok (.invokevirtual 397, 3) := by decide +kernel
theorem dX12_ringed_45 : decode cX12_ringed 45 = .ok (.iload_n 2, 1) := by decide +kernel
theorem dX12_ringed_46 : decode cX12_ringed 46 = .ok (.if_icmp .eq 6, 3) := by decide +kernel
theorem dX12_ringed_49 : decode cX12_ringed 49 = .ok (.goto 54, 3) := by decide +kernel
theorem dX12_ringed_52 : decode cX12_ringed 52 = .ok (.lload_n 3, 1) := by decide +kernel
theorem dX12_ringed_53 : decode cX12_ringed 53 = .ok (.lconst 1, 1) := by decide +kernel
theorem dX12_ringed_54 : decode cX12_ringed 54 = .ok (.ladd, 1) := by decide +kernel
theorem dX12_ringed_55 : decode cX12_ringed 55 = .ok (.lstore_n 3, 1) := by decide +kernel
theorem dX12_ringed_56 : decode cX12_ringed 56 = .ok (.lload 5, 2) := by decide +kernel
theorem dX12_ringed_58 : decode cX12_ringed 58 = .ok (.aload_n 0, 1) := by decide +kernel
theorem dX12_ringed_59 : decode cX12_ringed 59 = .ok (.iload 7, 2) := by decide +kernel
theorem dX12_ringed_61 : decode cX12_ringed 61 = .ok (.iconst 4, 1) := by decide +kernel
theorem dX12_ringed_62 : decode cX12_ringed 62 = .ok (.invokevirtual 397, 3) := by decide +kernel
theorem dX12_ringed_65 : decode cX12_ringed 65 = .ok (.aload_n 0, 1) := by decide +kernel
theorem dX12_ringed_66 : decode cX12_ringed 66 = .ok (.iload 7, 2) := by decide +kernel
theorem dX12_ringed_68 : decode cX12_ringed 68 = .ok (.iconst 2, 1) := by decide +kernel
theorem dX12_ringed_69 : decode cX12_ringed 69 = .ok (.invokevirtual 397, 3) := by decide +kernel
theorem dX12_ringed_72 : decode cX12_ringed 72 = .ok (.isub, 1) := by decide +kernel
theorem dX12_ringed_73 : decode cX12_ringed 73 = .ok (.invokestatic 419, 3) := by decide +kernel
theorem dX12_ringed_76 : decode cX12_ringed 76 = .ok (.aload_n 0, 1) := by decide +kernel
theorem dX12_ringed_77 : decode cX12_ringed 77 = .ok (.iload_n 1, 1) := by decide +kernel
theorem dX12_ringed_78 : decode cX12_ringed 78 = .ok (.iconst 3, 1) := by decide +kernel
theorem dX12_ringed_79 : decode cX12_ringed 79 = .ok (.invokevirtual 394, 3) := by decide +kernel
theorem dX12_ringed_82 : decode cX12_ringed 82 = .ok (.aload_n 0, 1) := by decide +kernel
theorem dX12_ringed_83 : decode cX12_ringed 83 = .ok (.iload_n 1, 1) := by decide +kernel
theorem dX12_ringed_84 : decode cX12_ringed 84 = .ok (.iconst 1, 1) := by decide +kernel
theorem dX12_ringed_85 : decode cX12_ringed 85 = .ok (.invokevirtual 394, 3) := by decide +kernel
theorem dX12_ringed_88 : decode cX12_ringed 88 = .ok (.isub, 1) := by decide +kernel
theorem dX12_ringed_89 : decode cX12_ringed 89 = .ok (.invokestatic 419, 3) := by decide +kernel
theorem dX12_ringed_92 : decode cX12_ringed 92 = .ok (.if_icmp .ne 7, 3) := by decide +kernel
theorem dX12_ringed_95 : decode cX12_ringed 95 = .ok (.lconst 1, 1) := by decide +kernel
theorem dX12_ringed_96 : decode cX12_ringed 96 = .ok (.goto 4, 3) := by decide +kernel
theorem dX12_ringed_99 : decode cX12_ringed 99 = .ok (.lconst 0, 1) := by decide +kernel
theorem dX12_ringed_100 : decode cX12_ringed 100 = .ok (.ladd, 1) := by decide +kernel
theorem dX12_ringed_101 : decode cX12_ringed 101 = .ok (.lstore 5, 2) := by decide +kernel
theorem dX12_ringed_103 : decode cX12_ringed 103 = .ok (.iinc 7 1, 3) := by decide +kernel
theorem dX12_ringed_106 : decode cX12_ringed 106 = .ok (.goto (-79), 3) := by decide +kernel
theorem dX12_ringed_109 : decode cX12_ringed 109 = .ok (.lload_n 3, 1) := by decide +kernel
theorem dX12_ringed_110 : decode cX12_ringed 110 = .ok (.lconst 0, 1) := by decide +kernel
theorem dX12_ringed_111 : decode cX12_ringed 111 = .ok (.lcmp, 1) := by decide +kernel
theorem dX12_ringed_112 : decode cX12_ringed 112 = .ok (.ifCond .eq 21, 3) := by decide +kernel
theorem dX12_ringed_115 : decode cX12_ringed 115 = .ok (.aload_n 0, 1) := by decide +kernel
theorem dX12_ringed_116 : decode cX12_ringed 116 = .ok (.iload_n 1, 1) := by decide +kernel
theorem dX12_ringed_117 : decode cX12_ringed 117 = .ok (.iconst 1, 1) := by decide +kernel
theorem dX12_ringed_118 : decode cX12_ringed 118 = .ok (.invokevirtual 394, 3) := by decide +kernel
theorem dX12_ringed_121 : decode cX12_ringed 121 = .ok (.ifCond .eq 12, 3) := by decide +kernel
theorem dX12_ringed_124 : decode cX12_ringed 124 = .ok (.aload_n 0, 1) := by decide +kernel
theorem dX12_ringed_125 : decode cX12_ringed 125 = .ok (.iload_n 1, 1) := by decide +kernel
theorem dX12_ringed_126 : decode cX12_ringed 126 = .ok (.iconst 3, 1) := by decide +kernel
theorem dX12_ringed_127 : decode cX12_ringed 127 = .ok (.invokevirtual 394, 3) := by decide +kernel
theorem dX12_ringed_130 : decode cX12_ringed 130 = .ok (.ifCond .ne 10, 3) := by decide +kernel
theorem dX12_ringed_133 : decode cX12_ringed 133 = .ok (.aload_n 0, 1) := by decide +kernel
theorem dX12_ringed_134 : decode cX12_ringed 134 = .ok (.invokevirtual 415, 3) := by decide +kernel
theorem dX12_ringed_137 : decode cX12_ringed 137 = .ok (.goto 10, 3) := by decide +kernel
theorem dX12_ringed_140 : decode cX12_ringed 140 = .ok (.aload_n 0, 1) := by decide +kernel
theorem dX12_ringed_141 : decode cX12_ringed 141 = .ok (.lload 5, 2) := by decide +kernel
theorem dX12_ringed_143 : decode cX12_ringed 143 = .ok (.lload_n 3, 1) := by decide +kernel
theorem dX12_ringed_144 : decode cX12_ringed 144 = .ok (.invokevirtual 355, 3) := by decide +kernel
theorem dX12_ringed_147 : decode cX12_ringed 147 = .ok (.ireturn, 1) := by decide +kernel
abbrev z_X12_ringed_174 : Z9 := (some .boolean, 1, 0, 0, 5, 89)
def m_X12_ringed_174_c133 (d : D9) : Option R9 := cl (m_X12_nothing_174 d) (fun r1 d2 => rt (r1 % 2) d2)
def b_X12_ringed_174_c27 (k_X12_ringed_174_c27 : Int → Int → Int → Int → Int → D9 → Option R9) (v1 v2 v3 v5 v7 : Int) (d : D9) : Option R9 := ld d 175 1604 3 (fun t1 => if w32 t1 ≤ w32 v7 then if w64 v3 = w64 0 then m_X12_ringed_174_c133   d else cl (m_X12_finger_174 v1 1 d) (fun r2 d3 => if w32 r2 = 0 then m_X12_ringed_174_c133   d3 else cl (m_X12_finger_174 v1 3 d3) (fun r4 d5 => if w32 r4 ≠ 0 then cl (m_X12_fraction_174 v5 v3 d5) (fun r6 d7 => rt (r6 % 2) d7) else m_X12_ringed_174_c133   d5)) else cl (m_X12_ofHand_174 v7 0 d) (fun r8 d9 => if w32 r8 = w32 v2 then lt9v (v3 + 1) (fun a10 => cl (m_X12_ofHand_174 v7 4 d9) (fun r11 d12 => cl (m_X12_ofHand_174 v7 2 d12) (fun r13 d14 => cl (m_X12_sign (r11 - r13) d14) (fun r15 d16 => cl (m_X12_finger_174 v1 3 d16) (fun r17 d18 => cl (m_X12_finger_174 v1 1 d18) (fun r19 d20 => cl (m_X12_sign (r17 - r19) d20) (fun r21 d22 => if w32 r15 ≠ w32 r21 then lt9v (v5 + 0) (fun a23 => k_X12_ringed_174_c27 v1 v2 a10 a23 (v7 + 1) d22) else lt9v (v5 + 1) (fun a24 => k_X12_ringed_174_c27 v1 v2 a10 a24 (v7 + 1) d22)))))))) else k_X12_ringed_174_c27 v1 v2 v3 v5 (v7 + 1) d9))
def m_X12_ringed_174_c27 : Int → Int → Int → Int → Int → D9 → Option R9 := fix9 (fun _ _ _ _ _ _ => none) (fun k => b_X12_ringed_174_c27 k) FU
def m_X12_ringed_174 (p1 p2 : Int) (d : D9) : Option R9 := cl (m_X12_sortFault_174 p1 p2 d) (fun r1 d2 => pf d2 174 3 r1 (fun d3 => if w32 (d3 174 3) ≤ 0 then m_X12_ringed_174_c27  p1 p2 0 0 0 d3 else rt (0 % 2) d3))
set_option maxRecDepth 100000 in
theorem s_X12_ringed_174_c133 {G : G9} {X : X9} (C : CX G X cX12_ringed 8 RX12 [] z_X12_ringed_174) : ∀ (d : D9), SS G X 8 0 0 133 [(0, rf G 174)] [] d (m_X12_ringed_174_c133   d) := by
  intro  d
  unfold m_X12_ringed_174_c133
  refine r_aload_n C 0 dX12_ringed_133 rfl rfl ?_
  refine r_callV C [rf G 174] dX12_ringed_134 (t_X12_nothing_174 C.h1 C.h2 d) mw_X12_415 mv_X12_nothing la_174 ly_174 rfl (by decide) (by decide) (by decide) rfl rfl (Nat.le_of_ble_eq_true rfl) (fun r1 d2 => ?_)
  show SS G X 8 _ _ 137 [(0, rf G 174)] [i9 r1] d2 _
  refine r_goto C 147 dX12_ringed_137 (by decide) ?_
  exact r_zret C dX12_ringed_147 (by decide) (by decide)
set_option maxRecDepth 100000 in
theorem sb_X12_ringed_174_c27 {G : G9} {X : X9} (C : CX G X cX12_ringed 8 RX12 [] z_X12_ringed_174) (k_X12_ringed_174_c27 : Int → Int → Int → Int → Int → D9 → Option R9) (hk_X12_ringed_174_c27 : ∀ (v1 v2 v3 v5 v7 : Int) (d : D9), SS G X 8 0 0 27 [(0, rf G 174), (1, i9 v1), (2, i9 v2), (3, l9 v3), (5, l9 v5), (7, i9 v7)] [] d (k_X12_ringed_174_c27 v1 v2 v3 v5 v7 d)) : ∀ (v1 v2 v3 v5 v7 : Int) (d : D9), SS G X 8 0 0 27 [(0, rf G 174), (1, i9 v1), (2, i9 v2), (3, l9 v3), (5, l9 v5), (7, i9 v7)] [] d (b_X12_ringed_174_c27 k_X12_ringed_174_c27 v1 v2 v3 v5 v7 d) := by
  intro v1 v2 v3 v5 v7 d
  unfold b_X12_ringed_174_c27
  refine r_iload C 5 dX12_ringed_27 rfl ?_
  refine r_aload_n C 0 dX12_ringed_29 rfl rfl ?_
  refine r_getR C 175 dX12_ringed_30 fl_X12_9 la_174 ly_174 rfl rfl ?_
  refine r_iconst C dX12_ringed_33 ?_
  refine r_iald C dX12_ringed_34 la_175 ly_175 (fun t1 => ?_)
  refine r_icmp_ge C 109 dX12_ringed_35 (by decide) (fun _ => ?_) (fun _ => ?_)
  · refine r_lload_n C 3 dX12_ringed_109 rfl rfl ?_
    refine r_lconst C dX12_ringed_110 (a := 0) rfl ?_
    refine r_lcmp_eq C 133 dX12_ringed_111 dX12_ringed_112 (by decide) (fun _ => ?_) (fun _ => ?_)
    · refine ss_wide (k' := 0) (n' := 0) (by decide) (by decide) ?_
      refine ss_ls [(0, rf G 174)] [0] rfl ?_
      exact s_X12_ringed_174_c133 C   d
    · refine r_aload_n C 0 dX12_ringed_115 rfl rfl ?_
      refine r_iload_n C 1 dX12_ringed_116 rfl rfl ?_
      refine r_iconst C dX12_ringed_117 ?_
      refine r_callV C [i9 1, i9 v1, rf G 174] dX12_ringed_118 (t_X12_finger_174 C.h1 C.h2 v1 1 d) mw_X12_394 mv_X12_finger la_174 ly_174 rfl (by decide) (by decide) (by decide) rfl rfl (Nat.le_of_ble_eq_true rfl) (fun r2 d3 => ?_)
      show SS G X 8 _ _ 121 [(0, rf G 174), (1, i9 v1), (2, i9 v2), (3, l9 v3), (5, l9 v5), (7, i9 v7)] [i9 r2] d3 _
      refine r_if_eq C (b := 0) 133 dX12_ringed_121 (by decide) (fun _ => ?_) (fun _ => ?_)
      · refine ss_wide (k' := 0) (n' := 0) (by decide) (by decide) ?_
        refine ss_ls [(0, rf G 174)] [0] rfl ?_
        exact s_X12_ringed_174_c133 C   d3
      · refine r_aload_n C 0 dX12_ringed_124 rfl rfl ?_
        refine r_iload_n C 1 dX12_ringed_125 rfl rfl ?_
        refine r_iconst C dX12_ringed_126 ?_
        refine r_callV C [i9 3, i9 v1, rf G 174] dX12_ringed_127 (t_X12_finger_174 C.h1 C.h2 v1 3 d3) mw_X12_394 mv_X12_finger la_174 ly_174 rfl (by decide) (by decide) (by decide) rfl rfl (Nat.le_of_ble_eq_true rfl) (fun r4 d5 => ?_)
        show SS G X 8 _ _ 130 [(0, rf G 174), (1, i9 v1), (2, i9 v2), (3, l9 v3), (5, l9 v5), (7, i9 v7)] [i9 r4] d5 _
        refine r_if_ne C (b := 0) 140 dX12_ringed_130 (by decide) (fun _ => ?_) (fun _ => ?_)
        · refine r_aload_n C 0 dX12_ringed_140 rfl rfl ?_
          refine r_lload C 4 dX12_ringed_141 rfl ?_
          refine r_lload_n C 3 dX12_ringed_143 rfl rfl ?_
          refine r_callV C [l9 v3, l9 v5, rf G 174] dX12_ringed_144 (t_X12_fraction_174 C.h1 C.h2 v5 v3 d5) mw_X12_355 mv_X12_fraction la_174 ly_174 rfl (by decide) (by decide) (by decide) rfl rfl (Nat.le_of_ble_eq_true rfl) (fun r6 d7 => ?_)
          show SS G X 8 _ _ 147 [(0, rf G 174), (1, i9 v1), (2, i9 v2), (3, l9 v3), (5, l9 v5), (7, i9 v7)] [i9 r6] d7 _
          exact r_zret C dX12_ringed_147 (by decide) (by decide)
        · refine ss_wide (k' := 0) (n' := 0) (by decide) (by decide) ?_
          refine ss_ls [(0, rf G 174)] [0] rfl ?_
          exact s_X12_ringed_174_c133 C   d5
  · refine r_aload_n C 0 dX12_ringed_38 rfl rfl ?_
    refine r_iload C 5 dX12_ringed_39 rfl ?_
    refine r_iconst C dX12_ringed_41 ?_
    refine r_callV C [i9 0, i9 v7, rf G 174] dX12_ringed_42 (t_X12_ofHand_174 C.h1 C.h2 v7 0 d) mw_X12_397 mv_X12_ofHand la_174 ly_174 rfl (by decide) (by decide) (by decide) rfl rfl (Nat.le_of_ble_eq_true rfl) (fun r8 d9 => ?_)
    show SS G X 8 _ _ 45 [(0, rf G 174), (1, i9 v1), (2, i9 v2), (3, l9 v3), (5, l9 v5), (7, i9 v7)] [i9 r8] d9 _
    refine r_iload_n C 2 dX12_ringed_45 rfl rfl ?_
    refine r_icmp_eq C 52 dX12_ringed_46 (by decide) (fun _ => ?_) (fun _ => ?_)
    · refine r_lload_n C 3 dX12_ringed_52 rfl rfl ?_
      refine r_lconst C dX12_ringed_53 (a := 1) rfl ?_
      refine r_ladd C dX12_ringed_54 ?_
      refine ss_ltL (fun a10 => ?_)
      refine r_lstore_n C [(3, l9 a10), (0, rf G 174), (1, i9 v1), (2, i9 v2), (5, l9 v5), (7, i9 v7)] dX12_ringed_55 rfl (by decide) rfl ?_
      refine r_lload C 4 dX12_ringed_56 rfl ?_
      refine r_aload_n C 1 dX12_ringed_58 rfl rfl ?_
      refine r_iload C 5 dX12_ringed_59 rfl ?_
      refine r_iconst C dX12_ringed_61 ?_
      refine r_callV C [i9 4, i9 v7, rf G 174, l9 v5] dX12_ringed_62 (t_X12_ofHand_174 C.h1 C.h2 v7 4 d9) mw_X12_397 mv_X12_ofHand la_174 ly_174 rfl (by decide) (by decide) (by decide) rfl rfl (Nat.le_of_ble_eq_true rfl) (fun r11 d12 => ?_)
      show SS G X 8 _ _ 65 [(3, l9 a10), (0, rf G 174), (1, i9 v1), (2, i9 v2), (5, l9 v5), (7, i9 v7)] [i9 r11, l9 v5] d12 _
      refine r_aload_n C 1 dX12_ringed_65 rfl rfl ?_
      refine r_iload C 5 dX12_ringed_66 rfl ?_
      refine r_iconst C dX12_ringed_68 ?_
      refine r_callV C [i9 2, i9 v7, rf G 174, i9 r11, l9 v5] dX12_ringed_69 (t_X12_ofHand_174 C.h1 C.h2 v7 2 d12) mw_X12_397 mv_X12_ofHand la_174 ly_174 rfl (by decide) (by decide) (by decide) rfl rfl (Nat.le_of_ble_eq_true rfl) (fun r13 d14 => ?_)
      show SS G X 8 _ _ 72 [(3, l9 a10), (0, rf G 174), (1, i9 v1), (2, i9 v2), (5, l9 v5), (7, i9 v7)] [i9 r13, i9 r11, l9 v5] d14 _
      refine r_isub C dX12_ringed_72 ?_
      refine r_callS C [i9 (r11 - r13), l9 v5] dX12_ringed_73 (t_X12_sign C.h1 C.h2 (r11 - r13) d14) mw_X12_419 ms_X12_sign (by decide) (by decide) (by decide) rfl rfl (Nat.le_of_ble_eq_true rfl) (fun r15 d16 => ?_)
      show SS G X 8 _ _ 76 [(3, l9 a10), (0, rf G 174), (1, i9 v1), (2, i9 v2), (5, l9 v5), (7, i9 v7)] [i9 r15, l9 v5] d16 _
      refine r_aload_n C 1 dX12_ringed_76 rfl rfl ?_
      refine r_iload_n C 2 dX12_ringed_77 rfl rfl ?_
      refine r_iconst C dX12_ringed_78 ?_
      refine r_callV C [i9 3, i9 v1, rf G 174, i9 r15, l9 v5] dX12_ringed_79 (t_X12_finger_174 C.h1 C.h2 v1 3 d16) mw_X12_394 mv_X12_finger la_174 ly_174 rfl (by decide) (by decide) (by decide) rfl rfl (Nat.le_of_ble_eq_true rfl) (fun r17 d18 => ?_)
      show SS G X 8 _ _ 82 [(3, l9 a10), (0, rf G 174), (1, i9 v1), (2, i9 v2), (5, l9 v5), (7, i9 v7)] [i9 r17, i9 r15, l9 v5] d18 _
      refine r_aload_n C 1 dX12_ringed_82 rfl rfl ?_
      refine r_iload_n C 2 dX12_ringed_83 rfl rfl ?_
      refine r_iconst C dX12_ringed_84 ?_
      refine r_callV C [i9 1, i9 v1, rf G 174, i9 r17, i9 r15, l9 v5] dX12_ringed_85 (t_X12_finger_174 C.h1 C.h2 v1 1 d18) mw_X12_394 mv_X12_finger la_174 ly_174 rfl (by decide) (by decide) (by decide) rfl rfl (Nat.le_of_ble_eq_true rfl) (fun r19 d20 => ?_)
      show SS G X 8 _ _ 88 [(3, l9 a10), (0, rf G 174), (1, i9 v1), (2, i9 v2), (5, l9 v5), (7, i9 v7)] [i9 r19, i9 r17, i9 r15, l9 v5] d20 _
      refine r_isub C dX12_ringed_88 ?_
      refine r_callS C [i9 (r17 - r19), i9 r15, l9 v5] dX12_ringed_89 (t_X12_sign C.h1 C.h2 (r17 - r19) d20) mw_X12_419 ms_X12_sign (by decide) (by decide) (by decide) rfl rfl (Nat.le_of_ble_eq_true rfl) (fun r21 d22 => ?_)
      show SS G X 8 _ _ 92 [(3, l9 a10), (0, rf G 174), (1, i9 v1), (2, i9 v2), (5, l9 v5), (7, i9 v7)] [i9 r21, i9 r15, l9 v5] d22 _
      refine r_icmp_ne C 99 dX12_ringed_92 (by decide) (fun _ => ?_) (fun _ => ?_)
      · refine r_lconst C dX12_ringed_99 (a := 0) rfl ?_
        refine r_ladd C dX12_ringed_100 ?_
        refine ss_ltL (fun a23 => ?_)
        refine r_lstore C [(5, l9 a23), (3, l9 a10), (0, rf G 174), (1, i9 v1), (2, i9 v2), (7, i9 v7)] dX12_ringed_101 (by decide) rfl ?_
        refine r_iinc C 5 [(7, i9 (v7 + 1)), (5, l9 a23), (3, l9 a10), (0, rf G 174), (1, i9 v1), (2, i9 v2)] dX12_ringed_103 rfl (by decide) rfl ?_
        refine r_goto C 27 dX12_ringed_106 (by decide) ?_
        refine ss_wide (k' := 0) (n' := 0) (by decide) (by decide) ?_
        refine ss_ls [(0, rf G 174), (1, i9 v1), (2, i9 v2), (3, l9 a10), (5, l9 a23), (7, i9 (v7 + 1))] [3, 4, 5, 2, 1, 0] rfl ?_
        exact hk_X12_ringed_174_c27 v1 v2 a10 a23 (v7 + 1) d22
      · refine r_lconst C dX12_ringed_95 (a := 1) rfl ?_
        refine r_goto C 100 dX12_ringed_96 (by decide) ?_
        refine r_ladd C dX12_ringed_100 ?_
        refine ss_ltL (fun a24 => ?_)
        refine r_lstore C [(5, l9 a24), (3, l9 a10), (0, rf G 174), (1, i9 v1), (2, i9 v2), (7, i9 v7)] dX12_ringed_101 (by decide) rfl ?_
        refine r_iinc C 5 [(7, i9 (v7 + 1)), (5, l9 a24), (3, l9 a10), (0, rf G 174), (1, i9 v1), (2, i9 v2)] dX12_ringed_103 rfl (by decide) rfl ?_
        refine r_goto C 27 dX12_ringed_106 (by decide) ?_
        refine ss_wide (k' := 0) (n' := 0) (by decide) (by decide) ?_
        refine ss_ls [(0, rf G 174), (1, i9 v1), (2, i9 v2), (3, l9 a10), (5, l9 a24), (7, i9 (v7 + 1))] [3, 4, 5, 2, 1, 0] rfl ?_
        exact hk_X12_ringed_174_c27 v1 v2 a10 a24 (v7 + 1) d22
    · refine r_goto C 103 dX12_ringed_49 (by decide) ?_
      refine r_iinc C 5 [(7, i9 (v7 + 1)), (0, rf G 174), (1, i9 v1), (2, i9 v2), (3, l9 v3), (5, l9 v5)] dX12_ringed_103 rfl (by decide) rfl ?_
      refine r_goto C 27 dX12_ringed_106 (by decide) ?_
      refine ss_wide (k' := 0) (n' := 0) (by decide) (by decide) ?_
      refine ss_ls [(0, rf G 174), (1, i9 v1), (2, i9 v2), (3, l9 v3), (5, l9 v5), (7, i9 (v7 + 1))] [1, 2, 3, 4, 5, 0] rfl ?_
      exact hk_X12_ringed_174_c27 v1 v2 v3 v5 (v7 + 1) d9
theorem s_X12_ringed_174_c27 {G : G9} {X : X9} (C : CX G X cX12_ringed 8 RX12 [] z_X12_ringed_174) : ∀ (v1 v2 v3 v5 v7 : Int) (d : D9), SS G X 8 0 0 27 [(0, rf G 174), (1, i9 v1), (2, i9 v2), (3, l9 v3), (5, l9 v5), (7, i9 v7)] [] d (m_X12_ringed_174_c27  v1 v2 v3 v5 v7 d) :=
  fix9_ind (P := fun k => ∀ (v1 v2 v3 v5 v7 : Int) (d : D9), SS G X 8 0 0 27 [(0, rf G 174), (1, i9 v1), (2, i9 v2), (3, l9 v3), (5, l9 v5), (7, i9 v7)] [] d (k v1 v2 v3 v5 v7 d)) (fun _ _ _ _ _ _ => ss_none) (fun k hk => sb_X12_ringed_174_c27 C k hk) FU
set_option maxRecDepth 100000 in
theorem t_X12_ringed_174 {G : G9} {l : Launch} (h1 : va_D (A9 G) (wl G (fun _ _ => 0))) (h2 : l.stackTraces = false) (p1 p2 : Int) (d : D9) : MT G l yX12_ringed cX12_ringed 8 z_X12_ringed_174 [rf G 174, i9 p1, i9 p2] d (m_X12_ringed_174 p1 p2 d) := by
  refine mt_of (own := RX12) (by decide) rfl (Nat.le_of_ble_eq_true rfl) h1 h2 [(0, rf G 174), (1, i9 p1), (2, i9 p2)] rfl (fun X hX C => ?_)
  unfold m_X12_ringed_174
  refine r_aload_n C 0 dX12_ringed_0 rfl rfl ?_
  refine r_aload_n C 0 dX12_ringed_1 rfl rfl ?_
  refine r_iload_n C 1 dX12_ringed_2 rfl rfl ?_
  refine r_iload_n C 2 dX12_ringed_3 rfl rfl ?_
  refine r_callV C [i9 p2, i9 p1, rf G 174, rf G 174] dX12_ringed_4 (t_X12_sortFault_174 C.h1 C.h2 p1 p2 d) mw_X12_412 mv_X12_sortFault la_174 ly_174 rfl (by decide) (by decide) (by decide) rfl rfl (Nat.le_of_ble_eq_true rfl) (fun r1 d2 => ?_)
  show SS G X 8 _ _ 7 [(0, rf G 174), (1, i9 p1), (2, i9 p2)] [i9 r1, rf G 174] d2 _
  refine r_putI C dX12_ringed_7 fp_X12_76 la_174 ly_174 rfl (fun d3 => ?_)
  refine r_aload_n C 0 dX12_ringed_10 rfl rfl ?_
  refine r_getI C dX12_ringed_11 fl_X12_76 la_174 ly_174 rfl ?_
  refine r_if_le C (b := 0) 19 dX12_ringed_14 (by decide) (fun _ => ?_) (fun _ => ?_)
  · refine r_lconst C dX12_ringed_19 (a := 0) rfl ?_
    refine r_lstore_n C [(3, l9 0), (0, rf G 174), (1, i9 p1), (2, i9 p2)] dX12_ringed_20 rfl (by decide) rfl ?_
    refine r_lconst C dX12_ringed_21 (a := 0) rfl ?_
    refine r_lstore C [(5, l9 0), (3, l9 0), (0, rf G 174), (1, i9 p1), (2, i9 p2)] dX12_ringed_22 (by decide) rfl ?_
    refine r_iconst C dX12_ringed_24 ?_
    refine r_istore C [(7, i9 0), (5, l9 0), (3, l9 0), (0, rf G 174), (1, i9 p1), (2, i9 p2)] dX12_ringed_25 (by decide) rfl ?_
    refine ss_wide (k' := 0) (n' := 0) (by decide) (by decide) ?_
    refine ss_ls [(0, rf G 174), (1, i9 p1), (2, i9 p2), (3, l9 0), (5, l9 0), (7, i9 0)] [3, 4, 5, 2, 1, 0] rfl ?_
    exact s_X12_ringed_174_c27 C  p1 p2 0 0 0 d3
  · refine r_iconst C dX12_ringed_17 ?_
    exact r_zret C dX12_ringed_18 (by decide) (by decide)
theorem dX12_latest_0 : decode cX12_latest 0 = .ok (.iconst (-1), 1) := by decide +kernel
theorem dX12_latest_1 : decode cX12_latest 1 = .ok (.istore_n 1, 1) := by decide +kernel
theorem dX12_latest_2 : decode cX12_latest 2 = .ok (.sipush 1086, 3) := by decide +kernel
theorem dX12_latest_5 : decode cX12_latest 5 = .ok (.istore_n 2, 1) := by decide +kernel
theorem dX12_latest_6 : decode cX12_latest 6 = .ok (.iload_n 2, 1) := by decide +kernel
theorem dX12_latest_7 : decode cX12_latest 7 = .ok (.sipush 1086, 3) := by decide +kernel
theorem dX12_latest_10 : decode cX12_latest 10 = .ok (.iconst 4, 1) := by decide +kernel
theorem dX12_latest_11 : decode cX12_latest 11 = .ok (.aload_n 0, 1) := by decide +kernel
theorem dX12_latest_12 : decode cX12_latest 12 = .ok (.getfield 9, 3) := by decide +kernel
theorem dX12_latest_15 : decode cX12_latest 15 = .ok (.iconst 5, 1) := by decide +kernel
theorem dX12_latest_16 : decode cX12_latest 16 = .ok (.iaload, 1) := by decide +kernel
theorem dX12_latest_17 : decode cX12_latest 17 = .ok (.imul, 1) := by decide +kernel
theorem dX12_latest_18 : decode cX12_latest 18 = .ok (.iadd, 1) := by decide +kernel
theorem dX12_latest_19 : decode cX12_latest 19 = .ok (.if_icmp .ge 32, 3) := by decide +kernel
theorem dX12_latest_22 : decode cX12_latest 22 = .ok (.aload_n 0, 1) := by decide +kernel
theorem dX12_latest_23 : decode cX12_latest 23 = .ok (.getfield 9, 3) := by decide +kernel
theorem dX12_latest_26 : decode cX12_latest 26 = .ok (.iload_n 2, 1) := by decide +kernel
theorem dX12_latest_27 : decode cX12_latest 27 = .ok (.iaload, 1) := by decide +kernel
theorem dX12_latest_28 : decode cX12_latest 28 = .ok (.iconst 1, 1) := by decide +kernel
theorem dX12_latest_29 : decode cX12_latest 29 = .ok (.if_icmp .ne 16, 3) := by decide +kernel
theorem dX12_latest_32 : decode cX12_latest 32 = .ok (.iload_n 1, 1) := by decide +kernel
theorem dX12_latest_33 : decode cX12_latest 33 = .ok (.aload_n 0, 1) := by decide +kernel
theorem dX12_latest_34 : decode cX12_latest 34 = .ok (.getfield 9, 3) := by decide +kernel
theorem dX12_latest_37 : decode cX12_latest 37 = .ok (.iload_n 2, 1) := by decide +kernel
theorem dX12_latest_38 : decode cX12_latest 38 = .ok (.iconst 3, 1) := by decide +kernel
theorem dX12_latest_39 : decode cX12_latest 39 = .ok (.iadd, 1) := by decide +kernel
theorem dX12_latest_40 : decode cX12_latest 40 = .ok (.iaload, 1) := by decide +kernel
theorem dX12_latest_41 : decode cX12_latest 41 = .ok (.invokestatic 366, 3) := by decide +kernel
theorem dX12_latest_44 : decode cX12_latest 44 = .ok (.istore_n 1, 1) := by decide +kernel
theorem dX12_latest_45 : decode cX12_latest 45 = .ok (.iinc 2 4, 3) := by decide +kernel
theorem dX12_latest_48 : decode cX12_latest 48 = .ok (.goto (-42), 3) := by decide +kernel
theorem dX12_latest_51 : decode cX12_latest 51 = .ok (.iload_n 1, 1) := by decide +kernel
theorem dX12_latest_52 : decode cX12_latest 52 = .ok (.ireturn, 1) := by decide +kernel
abbrev z_X12_latest_174 : Z9 := (some .int, 1, 0, 0, 2, 60)
def b_X12_latest_174_c6 (k_X12_latest_174_c6 : Int → Int → D9 → Option R9) (v1 v2 : Int) (d : D9) : Option R9 := ld d 175 1604 5 (fun t1 => if w32 (1086 + (4 * t1)) ≤ w32 v2 then rt v1 d else ld d 175 1604 v2 (fun t2 => if w32 t2 ≠ w32 1 then k_X12_latest_174_c6 v1 (v2 + 4) d else ld d 175 1604 (v2 + 3) (fun t3 => lt9v (max9 v1 t3) (fun a4 => k_X12_latest_174_c6 a4 (v2 + 4) d))))
def m_X12_latest_174_c6 : Int → Int → D9 → Option R9 := fix9 (fun _ _ _ => none) (fun k => b_X12_latest_174_c6 k) FU
def m_X12_latest_174 (d : D9) : Option R9 := m_X12_latest_174_c6  (-1) 1086 d
set_option maxRecDepth 100000 in
theorem sb_X12_latest_174_c6 {G : G9} {X : X9} (C : CX G X cX12_latest 3 RX12 [] z_X12_latest_174) (k_X12_latest_174_c6 : Int → Int → D9 → Option R9) (hk_X12_latest_174_c6 : ∀ (v1 v2 : Int) (d : D9), SS G X 3 0 0 6 [(0, rf G 174), (1, i9 v1), (2, i9 v2)] [] d (k_X12_latest_174_c6 v1 v2 d)) : ∀ (v1 v2 : Int) (d : D9), SS G X 3 0 0 6 [(0, rf G 174), (1, i9 v1), (2, i9 v2)] [] d (b_X12_latest_174_c6 k_X12_latest_174_c6 v1 v2 d) := by
  intro v1 v2 d
  unfold b_X12_latest_174_c6
  refine r_iload_n C 2 dX12_latest_6 rfl rfl ?_
  refine r_sipush C dX12_latest_7 rfl ?_
  refine r_iconst C dX12_latest_10 ?_
  refine r_aload_n C 0 dX12_latest_11 rfl rfl ?_
  refine r_getR C 175 dX12_latest_12 fl_X12_9 la_174 ly_174 rfl rfl ?_
  refine r_iconst C dX12_latest_15 ?_
  refine r_iald C dX12_latest_16 la_175 ly_175 (fun t1 => ?_)
  refine r_imul C dX12_latest_17 ?_
  refine r_iadd C dX12_latest_18 ?_
  refine r_icmp_ge C 51 dX12_latest_19 (by decide) (fun _ => ?_) (fun _ => ?_)
  · refine r_iload_n C 1 dX12_latest_51 rfl rfl ?_
    exact r_iret C dX12_latest_52 (by decide) (by decide)
  · refine r_aload_n C 0 dX12_latest_22 rfl rfl ?_
    refine r_getR C 175 dX12_latest_23 fl_X12_9 la_174 ly_174 rfl rfl ?_
    refine r_iload_n C 2 dX12_latest_26 rfl rfl ?_
    refine r_iald C dX12_latest_27 la_175 ly_175 (fun t2 => ?_)
    refine r_iconst C dX12_latest_28 ?_
    refine r_icmp_ne C 45 dX12_latest_29 (by decide) (fun _ => ?_) (fun _ => ?_)
    · refine r_iinc C 2 [(2, i9 (v2 + 4)), (0, rf G 174), (1, i9 v1)] dX12_latest_45 rfl (by decide) rfl ?_
      refine r_goto C 6 dX12_latest_48 (by decide) ?_
      refine ss_wide (k' := 0) (n' := 0) (by decide) (by decide) ?_
      refine ss_ls [(0, rf G 174), (1, i9 v1), (2, i9 (v2 + 4))] [1, 2, 0] rfl ?_
      exact hk_X12_latest_174_c6 v1 (v2 + 4) d
    · refine r_iload_n C 1 dX12_latest_32 rfl rfl ?_
      refine r_aload_n C 0 dX12_latest_33 rfl rfl ?_
      refine r_getR C 175 dX12_latest_34 fl_X12_9 la_174 ly_174 rfl rfl ?_
      refine r_iload_n C 2 dX12_latest_37 rfl rfl ?_
      refine r_iconst C dX12_latest_38 ?_
      refine r_iadd C dX12_latest_39 ?_
      refine r_iald C dX12_latest_40 la_175 ly_175 (fun t3 => ?_)
      refine r_mmax C dX12_latest_41 mm_X12_366 ⟨Nat.le_of_ble_eq_true rfl, Nat.le_of_ble_eq_true rfl⟩ (by decide) (by decide) ?_
      refine ss_lt (fun a4 => ?_)
      refine r_istore_n C [(1, i9 a4), (0, rf G 174), (2, i9 v2)] dX12_latest_44 rfl (by decide) rfl ?_
      refine r_iinc C 2 [(2, i9 (v2 + 4)), (1, i9 a4), (0, rf G 174)] dX12_latest_45 rfl (by decide) rfl ?_
      refine r_goto C 6 dX12_latest_48 (by decide) ?_
      refine ss_wide (k' := 0) (n' := 0) (by decide) (by decide) ?_
      refine ss_ls [(0, rf G 174), (1, i9 a4), (2, i9 (v2 + 4))] [2, 1, 0] rfl ?_
      exact hk_X12_latest_174_c6 a4 (v2 + 4) d
theorem s_X12_latest_174_c6 {G : G9} {X : X9} (C : CX G X cX12_latest 3 RX12 [] z_X12_latest_174) : ∀ (v1 v2 : Int) (d : D9), SS G X 3 0 0 6 [(0, rf G 174), (1, i9 v1), (2, i9 v2)] [] d (m_X12_latest_174_c6  v1 v2 d) :=
  fix9_ind (P := fun k => ∀ (v1 v2 : Int) (d : D9), SS G X 3 0 0 6 [(0, rf G 174), (1, i9 v1), (2, i9 v2)] [] d (k v1 v2 d)) (fun _ _ _ => ss_none) (fun k hk => sb_X12_latest_174_c6 C k hk) FU
set_option maxRecDepth 100000 in
theorem t_X12_latest_174 {G : G9} {l : Launch} (h1 : va_D (A9 G) (wl G (fun _ _ => 0))) (h2 : l.stackTraces = false) (d : D9) : MT G l yX12_latest cX12_latest 3 z_X12_latest_174 [rf G 174] d (m_X12_latest_174  d) := by
  refine mt_of (own := RX12) (by decide) rfl (Nat.le_of_ble_eq_true rfl) h1 h2 [(0, rf G 174)] rfl (fun X hX C => ?_)
  unfold m_X12_latest_174
  refine r_iconst C dX12_latest_0 ?_
  refine r_istore_n C [(1, i9 (-1)), (0, rf G 174)] dX12_latest_1 rfl (by decide) rfl ?_
  refine r_sipush C dX12_latest_2 rfl ?_
  refine r_istore_n C [(2, i9 1086), (1, i9 (-1)), (0, rf G 174)] dX12_latest_5 rfl (by decide) rfl ?_
  refine ss_wide (k' := 0) (n' := 0) (by decide) (by decide) ?_
  refine ss_ls [(0, rf G 174), (1, i9 (-1)), (2, i9 1086)] [2, 1, 0] rfl ?_
  exact s_X12_latest_174_c6 C  (-1) 1086 d
theorem dX12_say_0 : decode cX12_say 0 = .ok (.aload_n 0, 1) := by decide +kernel
theorem dX12_say_1 : decode cX12_say 1 = .ok (.iconst 0, 1) := by decide +kernel
theorem dX12_say_2 : decode cX12_say 2 = .ok (.putfield 76, 3) := by decide +kernel
theorem dX12_say_5 : decode cX12_say 5 = .ok (.aload_n 0, 1) := by decide +kernel
theorem dX12_say_6 : decode cX12_say 6 = .ok (.iload_n 1, 1) := by decide +kernel
theorem dX12_say_7 : decode cX12_say 7 = .ok (.invokevirtual 95, 3) := by decide +kernel
theorem dX12_say_10 : decode cX12_say 10 = .ok (.ifCond .ne 9, 3) := by decide +kernel
theorem dX12_say_13 : decode cX12_say 13 = .ok (.aload_n 0, 1) := by decide +kernel
theorem dX12_say_14 : decode cX12_say 14 = .ok (.iconst 1, 1) := by decide +kernel
theorem dX12_say_15 : decode cX12_say 15 = .ok (.invokevirtual 89, 3) := by decide +kernel
theorem dX12_say_18 : decode cX12_say 18 = .ok (.ireturn, 1) := by decide +kernel
theorem dX12_say_19 : decode cX12_say 19 = .ok (.aload_n 0, 1) := by decide +kernel
theorem dX12_say_20 : decode cX12_say 20 = .ok (.invokevirtual 381, 3) := by decide +kernel
theorem dX12_say_23 : decode cX12_say 23 = .ok (.aload_n 0, 1) := by decide +kernel
theorem dX12_say_24 : decode cX12_say 24 = .ok (.iload_n 1, 1) := by decide +kernel
theorem dX12_say_25 : decode cX12_say 25 = .ok (.iconst 0, 1) := by decide +kernel
theorem dX12_say_26 : decode cX12_say 26 = .ok (.iconst (-1), 1) := by decide +kernel
theorem dX12_say_27 : decode cX12_say 27 = .ok (.invokevirtual 384, 3) := by decide +kernel
theorem dX12_say_30 : decode cX12_say 30 = .ok (.istore_n 2, 1) := by decide +kernel
theorem dX12_say_31 : decode cX12_say 31 = .ok (.aload_n 0, 1) := by decide +kernel
theorem dX12_say_32 : decode cX12_say 32 = .ok (.iload_n 1, 1) := by decide +kernel
theorem dX12_say_33 : decode cX12_say 33 = .ok (.iconst 1, 1) := by decide +kernel
theorem dX12_say_34 : decode cX12_say 34 = .ok (.iconst (-1), 1) := by decide +kernel
theorem dX12_say_35 : decode cX12_say 35 = .ok (.invokevirtual 384, 3) := by decide +kernel
theorem dX12_say_38 : decode cX12_say 38 = .ok (.istore_n 3, 1) := by decide +kernel
theorem dX12_say_39 : decode cX12_say 39 = .ok (.aload_n 0, 1) := by decide +kernel
theorem dX12_say_40 : decode cX12_say 40 = .ok (.iload_n 1, 1) := by decide +kernel
theorem dX12_say_41 : decode cX12_say 41 = .ok (.iload_n 1, 1) := by decide +kernel
theorem dX12_say_42 : decode cX12_say 42 = .ok (.invokevirtual 378, 3) := by decide +kernel
theorem dX12_say_45 : decode cX12_say 45 = .ok (.ifCond .eq 5, 3) := by decide +kernel
theorem dX12_say_48 : decode cX12_say 48 = .ok (.iconst 0, 1) := by decide +kernel
theorem dX12_say_49 : decode cX12_say 49 = .ok (.ireturn, 1) := by decide +kernel
theorem dX12_say_50 : decode cX12_say 50 = .ok (.iload_n 2, 1) := by decide +kernel
theorem dX12_say_51 : decode cX12_say 51 = .ok (.iload_n 3, 1) := by decide +kernel
theorem dX12_say_52 : decode cX12_say 52 = .ok (.if_icmp .le 5, 3) := by decide +kernel
theorem dX12_say_55 : decode cX12_say 55 = .ok (.iconst 1, 1) := by decide +kernel
theorem dX12_say_56 : decode cX12_say 56 = .ok (.ireturn, 1) := by decide +kernel
theorem dX12_say_57 : decode cX12_say 57 = .ok (.iload_n 2, 1) := by decide +kernel
theorem dX12_say_58 : decode cX12_say 58 = .ok (.ifCond .ne 12, 3) := by decide +kernel
theorem dX12_say_61 : decode cX12_say 61 = .ok (.iload_n 3, 1) := by decide +kernel
theorem dX12_say_62 : decode cX12_say 62 = .ok (.sipush 400, 3) := by decide +kernel
theorem dX12_say_65 : decode cX12_say 65 = .ok (.if_icmp .ne 5, 3) := by decide +kernel
theorem dX12_say_68 : decode cX12_say 68 = .ok (.iconst 2, 1) := by decide +kernel
theorem dX12_say_69 : decode cX12_say 69 = .ok (.ireturn, 1) := by decide +kernel
theorem dX12_say_70 : decode cX12_say 70 = .ok (.aload_n 0, 1) := by decide +kernel
theorem dX12_say_71 : decode cX12_say 71 = .ok (.invokevirtual 488, 3) := by decide +kernel
theorem dX12_say_74 : decode cX12_say 74 = .ok (.iconst (-1), 1) := by decide +kernel
theorem dX12_say_75 : decode cX12_say 75 = .ok (.if_icmp .eq 13, 3) := by decide +kernel
theorem dX12_say_78 : decode cX12_say 78 = .ok (.iload_n 2, 1) := by decide +kernel
theorem dX12_say_79 : decode cX12_say 79 = .ok (.aload_n 0, 1) := by decide +kernel
theorem dX12_say_80 : decode cX12_say 80 = .ok (.invokevirtual 488, 3) := by decide +kernel
theorem dX12_say_83 : decode cX12_say 83 = .ok (.if_icmp .le 5, 3) := by decide +kernel
theorem dX12_say_86 : decode cX12_say 86 = .ok (.iconst 3, 1) := by decide +kernel
theorem dX12_say_87 : decode cX12_say 87 = .ok (.ireturn, 1) := by decide +kernel
theorem dX12_say_88 : decode cX12_say 88 = .ok (.aload_n 0, 1) := by decide +kernel
theorem dX12_say_89 : decode cX12_say 89 = .ok (.iload_n 1, 1) := by decide +kernel
theorem dX12_say_90 : decode cX12_say 90 = .ok (.invokevirtual 433, 3) := by decide +kernel
theorem dX12_say_93 : decode cX12_say 93 = .ok (.istore 4, 2) := by decide +kernel
theorem dX12_say_95 : decode cX12_say 95 = .ok (.iconst 0, 1) := by decide +kernel
theorem dX12_say_96 : decode cX12_say 96 = .ok (.istore 5, 2) := by decide +kernel
theorem dX12_say_98 : decode cX12_say 98 = .ok (.iload 5, 2) := by decide +kernel
theorem dX12_say_100 : decode cX12_say 100 = .ok (.bipush 6, 2) := by decide +kernel
theorem dX12_say_102 : decode cX12_say 102 = .ok (.if_icmp .ge 27, 3) := by decide +kernel
theorem dX12_say_105 : decode cX12_say 105 = .ok (.iload 4, 2) := by decide +kernel
theorem dX12_say_107 : decode cX12_say 107 = .ok (.ifCond .le 16, 3) := by decide +kernel
theorem dX12_say_110 : decode cX12_say 110 = .ok (.aload_n 0, 1) := by decide +kernel
theorem dX12_say_111 : decode cX12_say 111 = .ok (.iload 5, 2) := by decide +kernel
theorem dX12_say_113 : decode cX12_say 113 = .ok (.invokevirtual 442, 3) := by decide +kernel
theorem dX12_say_116 : decode cX12_say 116 = .ok (.iload 4, 2) := by decide +kernel
theorem dX12_say_118 : decode cX12_say 118 = .ok (.if_icmp .ne 5, 3) := by decide +kernel
theorem dX12_say_121 : decode cX12_say 121 = .ok (.iconst 4, 1) := by decide +kernel
theorem dX12_say_122 : decode cX12_say 122 = .ok (.ireturn, 1) := by decide +kernel
theorem dX12_say_123 : decode cX12_say 123 = .ok (.iinc 5 1, 3) := by decide +kernel
theorem dX12_say_126 : decode cX12_say 126 = .ok (.goto (-28), 3) := by decide +kernel
theorem dX12_say_129 : decode cX12_say 129 = .ok (.iload_n 2, 1) := by decide +kernel
theorem dX12_say_130 : decode cX12_say 130 = .ok (.ifCond .le 19, 3) := by decide +kernel
theorem dX12_say_133 : decode cX12_say 133 = .ok (.iload_n 3, 1) := by decide +kernel
theorem dX12_say_134 : decode cX12_say 134 = .ok (.sipush 400, 3) := by decide +kernel
theorem dX12_say_137 : decode cX12_say 137 = .ok (.if_icmp .ge 7, 3) := by decide +kernel
theorem dX12_say_140 : decode cX12_say 140 = .ok (.iconst 5, 1) := by decide +kernel
theorem dX12_say_141 : decode cX12_say 141 = .ok (.goto 10, 3) := by decide +kernel
theorem dX12_say_144 : decode cX12_say 144 = .ok (.bipush 6, 2) := by decide +kernel
theorem dX12_say_146 : decode cX12_say 146 = .ok (.goto 5, 3) := by decide +kernel
theorem dX12_say_149 : decode cX12_say 149 = .ok (.bipush 7, 2) := by decide +kernel
theorem dX12_say_151 : decode cX12_say 151 = .ok (.ireturn, 1) := by decide +kernel
abbrev z_X12_say_174 : Z9 := (some .int, 1, 0, 0, 11, 277)
def b_X12_say_174_c98 (k_X12_say_174_c98 : Int → Int → Int → Int → D9 → Option R9) (v2 v3 v4 v5 : Int) (d : D9) : Option R9 := if w32 6 ≤ w32 v5 then if w32 v2 ≤ 0 then rt 7 d else if w32 400 ≤ w32 v3 then rt 6 d else rt 5 d else if w32 v4 ≤ 0 then k_X12_say_174_c98 v2 v3 v4 (v5 + 1) d else cl (m_X12_aloneIn_174 v5 d) (fun r1 d2 => if w32 r1 ≠ w32 v4 then k_X12_say_174_c98 v2 v3 v4 (v5 + 1) d2 else rt 4 d2)
def m_X12_say_174_c98 : Int → Int → Int → Int → D9 → Option R9 := fix9 (fun _ _ _ _ _ => none) (fun k => b_X12_say_174_c98 k) FU
def m_X12_say_174_c88 (v1 v2 v3 : Int) (d : D9) : Option R9 := cl (m_X12_layTimes_174 v1 d) (fun r1 d2 => m_X12_say_174_c98  v2 v3 r1 0 d2)
def m_X12_say_174_c70 (v1 v2 v3 : Int) (d : D9) : Option R9 := cl (m_X12_latest_174 d) (fun r1 d2 => if w32 r1 = w32 (-1) then m_X12_say_174_c88  v1 v2 v3 d2 else cl (m_X12_latest_174 d2) (fun r3 d4 => if w32 v2 ≤ w32 r3 then m_X12_say_174_c88  v1 v2 v3 d4 else rt 3 d4))
def m_X12_say_174 (p1 : Int) (d : D9) : Option R9 := pf d 174 3 0 (fun d1 => cl (m_X12_isPaint_174 p1 d1) (fun r2 d3 => if w32 r2 ≠ 0 then cl (m_X12_layReach_174 d3) (fun r4 d5 => cl (m_X12_boundOf_174 p1 0 (-1) d5) (fun r6 d7 => cl (m_X12_boundOf_174 p1 1 (-1) d7) (fun r8 d9 => cl (m_X12_isAbove_174 p1 p1 d9) (fun r10 d11 => if w32 r10 = 0 then if w32 r6 ≤ w32 r8 then if w32 r6 ≠ 0 then m_X12_say_174_c70  p1 r6 r8 d11 else if w32 r8 ≠ w32 400 then m_X12_say_174_c70  p1 r6 r8 d11 else rt 2 d11 else rt 1 d11 else rt 0 d11)))) else cl (m_X12_fails_174 1 d3) (fun r12 d13 => rt r12 d13)))
set_option maxRecDepth 100000 in
theorem sb_X12_say_174_c98 {G : G9} {X : X9} (C : CX G X cX12_say 6 RX12 [] z_X12_say_174) (k_X12_say_174_c98 : Int → Int → Int → Int → D9 → Option R9) (hk_X12_say_174_c98 : ∀ (v2 v3 v4 v5 : Int) (d : D9), SS G X 6 0 0 98 [(0, rf G 174), (2, i9 v2), (3, i9 v3), (4, i9 v4), (5, i9 v5)] [] d (k_X12_say_174_c98 v2 v3 v4 v5 d)) : ∀ (v2 v3 v4 v5 : Int) (d : D9), SS G X 6 0 0 98 [(0, rf G 174), (2, i9 v2), (3, i9 v3), (4, i9 v4), (5, i9 v5)] [] d (b_X12_say_174_c98 k_X12_say_174_c98 v2 v3 v4 v5 d) := by
  intro v2 v3 v4 v5 d
  unfold b_X12_say_174_c98
  refine r_iload C 4 dX12_say_98 rfl ?_
  refine r_bipush C dX12_say_100 rfl ?_
  refine r_icmp_ge C 129 dX12_say_102 (by decide) (fun _ => ?_) (fun _ => ?_)
  · refine r_iload_n C 1 dX12_say_129 rfl rfl ?_
    refine r_if_le C (b := 0) 149 dX12_say_130 (by decide) (fun _ => ?_) (fun _ => ?_)
    · refine r_bipush C dX12_say_149 rfl ?_
      exact r_iret C dX12_say_151 (by decide) (by decide)
    · refine r_iload_n C 2 dX12_say_133 rfl rfl ?_
      refine r_sipush C dX12_say_134 rfl ?_
      refine r_icmp_ge C 144 dX12_say_137 (by decide) (fun _ => ?_) (fun _ => ?_)
      · refine r_bipush C dX12_say_144 rfl ?_
        refine r_goto C 151 dX12_say_146 (by decide) ?_
        exact r_iret C dX12_say_151 (by decide) (by decide)
      · refine r_iconst C dX12_say_140 ?_
        refine r_goto C 151 dX12_say_141 (by decide) ?_
        exact r_iret C dX12_say_151 (by decide) (by decide)
  · refine r_iload C 3 dX12_say_105 rfl ?_
    refine r_if_le C (b := 0) 123 dX12_say_107 (by decide) (fun _ => ?_) (fun _ => ?_)
    · refine r_iinc C 4 [(5, i9 (v5 + 1)), (0, rf G 174), (2, i9 v2), (3, i9 v3), (4, i9 v4)] dX12_say_123 rfl (by decide) rfl ?_
      refine r_goto C 98 dX12_say_126 (by decide) ?_
      refine ss_wide (k' := 0) (n' := 0) (by decide) (by decide) ?_
      refine ss_ls [(0, rf G 174), (2, i9 v2), (3, i9 v3), (4, i9 v4), (5, i9 (v5 + 1))] [1, 2, 3, 4, 0] rfl ?_
      exact hk_X12_say_174_c98 v2 v3 v4 (v5 + 1) d
    · refine r_aload_n C 0 dX12_say_110 rfl rfl ?_
      refine r_iload C 4 dX12_say_111 rfl ?_
      refine r_callV C [i9 v5, rf G 174] dX12_say_113 (t_X12_aloneIn_174 C.h1 C.h2 v5 d) mw_X12_442 mv_X12_aloneIn la_174 ly_174 rfl (by decide) (by decide) (by decide) rfl rfl (Nat.le_of_ble_eq_true rfl) (fun r1 d2 => ?_)
      show SS G X 6 _ _ 116 [(0, rf G 174), (2, i9 v2), (3, i9 v3), (4, i9 v4), (5, i9 v5)] [i9 r1] d2 _
      refine r_iload C 3 dX12_say_116 rfl ?_
      refine r_icmp_ne C 123 dX12_say_118 (by decide) (fun _ => ?_) (fun _ => ?_)
      · refine r_iinc C 4 [(5, i9 (v5 + 1)), (0, rf G 174), (2, i9 v2), (3, i9 v3), (4, i9 v4)] dX12_say_123 rfl (by decide) rfl ?_
        refine r_goto C 98 dX12_say_126 (by decide) ?_
        refine ss_wide (k' := 0) (n' := 0) (by decide) (by decide) ?_
        refine ss_ls [(0, rf G 174), (2, i9 v2), (3, i9 v3), (4, i9 v4), (5, i9 (v5 + 1))] [1, 2, 3, 4, 0] rfl ?_
        exact hk_X12_say_174_c98 v2 v3 v4 (v5 + 1) d2
      · refine r_iconst C dX12_say_121 ?_
        exact r_iret C dX12_say_122 (by decide) (by decide)
theorem s_X12_say_174_c98 {G : G9} {X : X9} (C : CX G X cX12_say 6 RX12 [] z_X12_say_174) : ∀ (v2 v3 v4 v5 : Int) (d : D9), SS G X 6 0 0 98 [(0, rf G 174), (2, i9 v2), (3, i9 v3), (4, i9 v4), (5, i9 v5)] [] d (m_X12_say_174_c98  v2 v3 v4 v5 d) :=
  fix9_ind (P := fun k => ∀ (v2 v3 v4 v5 : Int) (d : D9), SS G X 6 0 0 98 [(0, rf G 174), (2, i9 v2), (3, i9 v3), (4, i9 v4), (5, i9 v5)] [] d (k v2 v3 v4 v5 d)) (fun _ _ _ _ _ => ss_none) (fun k hk => sb_X12_say_174_c98 C k hk) FU
set_option maxRecDepth 100000 in
theorem s_X12_say_174_c88 {G : G9} {X : X9} (C : CX G X cX12_say 6 RX12 [] z_X12_say_174) : ∀ (v1 v2 v3 : Int) (d : D9), SS G X 6 0 0 88 [(0, rf G 174), (1, i9 v1), (2, i9 v2), (3, i9 v3)] [] d (m_X12_say_174_c88  v1 v2 v3 d) := by
  intro v1 v2 v3 d
  unfold m_X12_say_174_c88
  refine r_aload_n C 0 dX12_say_88 rfl rfl ?_
  refine r_iload_n C 1 dX12_say_89 rfl rfl ?_
  refine r_callV C [i9 v1, rf G 174] dX12_say_90 (t_X12_layTimes_174 C.h1 C.h2 v1 d) mw_X12_433 mv_X12_layTimes la_174 ly_174 rfl (by decide) (by decide) (by decide) rfl rfl (Nat.le_of_ble_eq_true rfl) (fun r1 d2 => ?_)
  show SS G X 6 _ _ 93 [(0, rf G 174), (1, i9 v1), (2, i9 v2), (3, i9 v3)] [i9 r1] d2 _
  refine r_istore C [(4, i9 r1), (0, rf G 174), (1, i9 v1), (2, i9 v2), (3, i9 v3)] dX12_say_93 (by decide) rfl ?_
  refine r_iconst C dX12_say_95 ?_
  refine r_istore C [(5, i9 0), (4, i9 r1), (0, rf G 174), (1, i9 v1), (2, i9 v2), (3, i9 v3)] dX12_say_96 (by decide) rfl ?_
  refine ss_wide (k' := 0) (n' := 0) (by decide) (by decide) ?_
  refine ss_ls [(0, rf G 174), (2, i9 v2), (3, i9 v3), (4, i9 r1), (5, i9 0)] [2, 4, 5, 1, 0] rfl ?_
  exact s_X12_say_174_c98 C  v2 v3 r1 0 d2
set_option maxRecDepth 100000 in
theorem s_X12_say_174_c70 {G : G9} {X : X9} (C : CX G X cX12_say 6 RX12 [] z_X12_say_174) : ∀ (v1 v2 v3 : Int) (d : D9), SS G X 6 0 0 70 [(0, rf G 174), (1, i9 v1), (2, i9 v2), (3, i9 v3)] [] d (m_X12_say_174_c70  v1 v2 v3 d) := by
  intro v1 v2 v3 d
  unfold m_X12_say_174_c70
  refine r_aload_n C 0 dX12_say_70 rfl rfl ?_
  refine r_callV C [rf G 174] dX12_say_71 (t_X12_latest_174 C.h1 C.h2 d) mw_X12_488 mv_X12_latest la_174 ly_174 rfl (by decide) (by decide) (by decide) rfl rfl (Nat.le_of_ble_eq_true rfl) (fun r1 d2 => ?_)
  show SS G X 6 _ _ 74 [(0, rf G 174), (1, i9 v1), (2, i9 v2), (3, i9 v3)] [i9 r1] d2 _
  refine r_iconst C dX12_say_74 ?_
  refine r_icmp_eq C 88 dX12_say_75 (by decide) (fun _ => ?_) (fun _ => ?_)
  · refine ss_wide (k' := 0) (n' := 0) (by decide) (by decide) ?_
    refine ss_ls [(0, rf G 174), (1, i9 v1), (2, i9 v2), (3, i9 v3)] [0, 1, 2, 3] rfl ?_
    exact s_X12_say_174_c88 C  v1 v2 v3 d2
  · refine r_iload_n C 2 dX12_say_78 rfl rfl ?_
    refine r_aload_n C 0 dX12_say_79 rfl rfl ?_
    refine r_callV C [rf G 174, i9 v2] dX12_say_80 (t_X12_latest_174 C.h1 C.h2 d2) mw_X12_488 mv_X12_latest la_174 ly_174 rfl (by decide) (by decide) (by decide) rfl rfl (Nat.le_of_ble_eq_true rfl) (fun r3 d4 => ?_)
    show SS G X 6 _ _ 83 [(0, rf G 174), (1, i9 v1), (2, i9 v2), (3, i9 v3)] [i9 r3, i9 v2] d4 _
    refine r_icmp_le C 88 dX12_say_83 (by decide) (fun _ => ?_) (fun _ => ?_)
    · refine ss_wide (k' := 0) (n' := 0) (by decide) (by decide) ?_
      refine ss_ls [(0, rf G 174), (1, i9 v1), (2, i9 v2), (3, i9 v3)] [0, 1, 2, 3] rfl ?_
      exact s_X12_say_174_c88 C  v1 v2 v3 d4
    · refine r_iconst C dX12_say_86 ?_
      exact r_iret C dX12_say_87 (by decide) (by decide)
set_option maxRecDepth 100000 in
theorem t_X12_say_174 {G : G9} {l : Launch} (h1 : va_D (A9 G) (wl G (fun _ _ => 0))) (h2 : l.stackTraces = false) (p1 : Int) (d : D9) : MT G l yX12_say cX12_say 6 z_X12_say_174 [rf G 174, i9 p1] d (m_X12_say_174 p1 d) := by
  refine mt_of (own := RX12) (by decide) rfl (Nat.le_of_ble_eq_true rfl) h1 h2 [(0, rf G 174), (1, i9 p1)] rfl (fun X hX C => ?_)
  unfold m_X12_say_174
  refine r_aload_n C 0 dX12_say_0 rfl rfl ?_
  refine r_iconst C dX12_say_1 ?_
  refine r_putI C dX12_say_2 fp_X12_76 la_174 ly_174 rfl (fun d1 => ?_)
  refine r_aload_n C 0 dX12_say_5 rfl rfl ?_
  refine r_iload_n C 1 dX12_say_6 rfl rfl ?_
  refine r_callV C [i9 p1, rf G 174] dX12_say_7 (t_X12_isPaint_174 C.h1 C.h2 p1 d1) mw_X12_95 mv_X12_isPaint la_174 ly_174 rfl (by decide) (by decide) (by decide) rfl rfl (Nat.le_of_ble_eq_true rfl) (fun r2 d3 => ?_)
  show SS G X 6 _ _ 10 [(0, rf G 174), (1, i9 p1)] [i9 r2] d3 _
  refine r_if_ne C (b := 0) 19 dX12_say_10 (by decide) (fun _ => ?_) (fun _ => ?_)
  · refine r_aload_n C 0 dX12_say_19 rfl rfl ?_
    refine r_callV C [rf G 174] dX12_say_20 (t_X12_layReach_174 C.h1 C.h2 d3) mw_X12_381 mv_X12_layReach la_174 ly_174 rfl (by decide) (by decide) (by decide) rfl rfl (Nat.le_of_ble_eq_true rfl) (fun r4 d5 => ?_)
    show SS G X 6 _ _ 23 [(0, rf G 174), (1, i9 p1)] [] d5 _
    refine r_aload_n C 0 dX12_say_23 rfl rfl ?_
    refine r_iload_n C 1 dX12_say_24 rfl rfl ?_
    refine r_iconst C dX12_say_25 ?_
    refine r_iconst C dX12_say_26 ?_
    refine r_callV C [i9 (-1), i9 0, i9 p1, rf G 174] dX12_say_27 (t_X12_boundOf_174 C.h1 C.h2 p1 0 (-1) d5) mw_X12_384 mv_X12_boundOf la_174 ly_174 rfl (by decide) (by decide) (by decide) rfl rfl (Nat.le_of_ble_eq_true rfl) (fun r6 d7 => ?_)
    show SS G X 6 _ _ 30 [(0, rf G 174), (1, i9 p1)] [i9 r6] d7 _
    refine r_istore_n C [(2, i9 r6), (0, rf G 174), (1, i9 p1)] dX12_say_30 rfl (by decide) rfl ?_
    refine r_aload_n C 1 dX12_say_31 rfl rfl ?_
    refine r_iload_n C 2 dX12_say_32 rfl rfl ?_
    refine r_iconst C dX12_say_33 ?_
    refine r_iconst C dX12_say_34 ?_
    refine r_callV C [i9 (-1), i9 1, i9 p1, rf G 174] dX12_say_35 (t_X12_boundOf_174 C.h1 C.h2 p1 1 (-1) d7) mw_X12_384 mv_X12_boundOf la_174 ly_174 rfl (by decide) (by decide) (by decide) rfl rfl (Nat.le_of_ble_eq_true rfl) (fun r8 d9 => ?_)
    show SS G X 6 _ _ 38 [(2, i9 r6), (0, rf G 174), (1, i9 p1)] [i9 r8] d9 _
    refine r_istore_n C [(3, i9 r8), (2, i9 r6), (0, rf G 174), (1, i9 p1)] dX12_say_38 rfl (by decide) rfl ?_
    refine r_aload_n C 2 dX12_say_39 rfl rfl ?_
    refine r_iload_n C 3 dX12_say_40 rfl rfl ?_
    refine r_iload_n C 3 dX12_say_41 rfl rfl ?_
    refine r_callV C [i9 p1, i9 p1, rf G 174] dX12_say_42 (t_X12_isAbove_174 C.h1 C.h2 p1 p1 d9) mw_X12_378 mv_X12_isAbove la_174 ly_174 rfl (by decide) (by decide) (by decide) rfl rfl (Nat.le_of_ble_eq_true rfl) (fun r10 d11 => ?_)
    show SS G X 6 _ _ 45 [(3, i9 r8), (2, i9 r6), (0, rf G 174), (1, i9 p1)] [i9 r10] d11 _
    refine r_if_eq C (b := 0) 50 dX12_say_45 (by decide) (fun _ => ?_) (fun _ => ?_)
    · refine r_iload_n C 1 dX12_say_50 rfl rfl ?_
      refine r_iload_n C 0 dX12_say_51 rfl rfl ?_
      refine r_icmp_le C 57 dX12_say_52 (by decide) (fun _ => ?_) (fun _ => ?_)
      · refine r_iload_n C 1 dX12_say_57 rfl rfl ?_
        refine r_if_ne C (b := 0) 70 dX12_say_58 (by decide) (fun _ => ?_) (fun _ => ?_)
        · refine ss_wide (k' := 0) (n' := 0) (by decide) (by decide) ?_
          refine ss_ls [(0, rf G 174), (1, i9 p1), (2, i9 r6), (3, i9 r8)] [2, 3, 1, 0] rfl ?_
          exact s_X12_say_174_c70 C  p1 r6 r8 d11
        · refine r_iload_n C 0 dX12_say_61 rfl rfl ?_
          refine r_sipush C dX12_say_62 rfl ?_
          refine r_icmp_ne C 70 dX12_say_65 (by decide) (fun _ => ?_) (fun _ => ?_)
          · refine ss_wide (k' := 0) (n' := 0) (by decide) (by decide) ?_
            refine ss_ls [(0, rf G 174), (1, i9 p1), (2, i9 r6), (3, i9 r8)] [2, 3, 1, 0] rfl ?_
            exact s_X12_say_174_c70 C  p1 r6 r8 d11
          · refine r_iconst C dX12_say_68 ?_
            exact r_iret C dX12_say_69 (by decide) (by decide)
      · refine r_iconst C dX12_say_55 ?_
        exact r_iret C dX12_say_56 (by decide) (by decide)
    · refine r_iconst C dX12_say_48 ?_
      exact r_iret C dX12_say_49 (by decide) (by decide)
  · refine r_aload_n C 0 dX12_say_13 rfl rfl ?_
    refine r_iconst C dX12_say_14 ?_
    refine r_callV C [i9 1, rf G 174] dX12_say_15 (t_X12_fails_174 C.h1 C.h2 1 d3) mw_X12_89 mv_X12_fails la_174 ly_174 rfl (by decide) (by decide) (by decide) rfl rfl (Nat.le_of_ble_eq_true rfl) (fun r12 d13 => ?_)
    show SS G X 6 _ _ 18 [(0, rf G 174), (1, i9 p1)] [i9 r12] d13 _
    exact r_iret C dX12_say_18 (by decide) (by decide)
theorem dX12_says_0 : decode cX12_says 0 = .ok (.aload_n 0, 1) := by decide +kernel
theorem dX12_says_1 : decode cX12_says 1 = .ok (.iconst 0, 1) := by decide +kernel
theorem dX12_says_2 : decode cX12_says 2 = .ok (.putfield 76, 3) := by decide +kernel
theorem dX12_says_5 : decode cX12_says 5 = .ok (.aload_n 0, 1) := by decide +kernel
theorem dX12_says_6 : decode cX12_says 6 = .ok (.iload_n 1, 1) := by decide +kernel
theorem dX12_says_7 : decode cX12_says 7 = .ok (.invokevirtual 118, 3) := by decide +kernel
theorem dX12_says_10 : decode cX12_says 10 = .ok (.ifCond .eq 11, 3) := by decide +kernel
theorem dX12_says_13 : decode cX12_says 13 = .ok (.aload_n 0, 1) := by decide +kernel
theorem dX12_says_14 : decode cX12_says 14 = .ok (.iload_n 1, 1) := by decide +kernel
theorem dX12_says_15 : decode cX12_says 15 = .ok (.invokevirtual 334, 3) := by decide +kernel
theorem dX12_says_18 : decode cX12_says 18 = .ok (.goto 8, 3) := by decide +kernel
theorem dX12_says_21 : decode cX12_says 21 = .ok (.aload_n 0, 1) := by decide +kernel
theorem dX12_says_22 : decode cX12_says 22 = .ok (.iconst 1, 1) := by decide +kernel
theorem dX12_says_23 : decode cX12_says 23 = .ok (.invokevirtual 89, 3) := by decide +kernel
theorem dX12_says_26 : decode cX12_says 26 = .ok (.ireturn, 1) := by decide +kernel
abbrev z_X12_says_174 : Z9 := (some .int, 1, 0, 0, 9, 225)
def m_X12_says_174 (p1 : Int) (d : D9) : Option R9 := pf d 174 3 0 (fun d1 => cl (m_X12_isSkin_174 p1 d1) (fun r2 d3 => if w32 r2 = 0 then cl (m_X12_fails_174 1 d3) (fun r4 d5 => rt r4 d5) else cl (m_X12_saysOf_174 p1 d3) (fun r6 d7 => rt r6 d7)))
set_option maxRecDepth 100000 in
theorem t_X12_says_174 {G : G9} {l : Launch} (h1 : va_D (A9 G) (wl G (fun _ _ => 0))) (h2 : l.stackTraces = false) (p1 : Int) (d : D9) : MT G l yX12_says cX12_says 2 z_X12_says_174 [rf G 174, i9 p1] d (m_X12_says_174 p1 d) := by
  refine mt_of (own := RX12) (by decide) rfl (Nat.le_of_ble_eq_true rfl) h1 h2 [(0, rf G 174), (1, i9 p1)] rfl (fun X hX C => ?_)
  unfold m_X12_says_174
  refine r_aload_n C 0 dX12_says_0 rfl rfl ?_
  refine r_iconst C dX12_says_1 ?_
  refine r_putI C dX12_says_2 fp_X12_76 la_174 ly_174 rfl (fun d1 => ?_)
  refine r_aload_n C 0 dX12_says_5 rfl rfl ?_
  refine r_iload_n C 1 dX12_says_6 rfl rfl ?_
  refine r_callV C [i9 p1, rf G 174] dX12_says_7 (t_X12_isSkin_174 C.h1 C.h2 p1 d1) mw_X12_118 mv_X12_isSkin la_174 ly_174 rfl (by decide) (by decide) (by decide) rfl rfl (Nat.le_of_ble_eq_true rfl) (fun r2 d3 => ?_)
  show SS G X 2 _ _ 10 [(0, rf G 174), (1, i9 p1)] [i9 r2] d3 _
  refine r_if_eq C (b := 0) 21 dX12_says_10 (by decide) (fun _ => ?_) (fun _ => ?_)
  · refine r_aload_n C 0 dX12_says_21 rfl rfl ?_
    refine r_iconst C dX12_says_22 ?_
    refine r_callV C [i9 1, rf G 174] dX12_says_23 (t_X12_fails_174 C.h1 C.h2 1 d3) mw_X12_89 mv_X12_fails la_174 ly_174 rfl (by decide) (by decide) (by decide) rfl rfl (Nat.le_of_ble_eq_true rfl) (fun r4 d5 => ?_)
    show SS G X 2 _ _ 26 [(0, rf G 174), (1, i9 p1)] [i9 r4] d5 _
    exact r_iret C dX12_says_26 (by decide) (by decide)
  · refine r_aload_n C 0 dX12_says_13 rfl rfl ?_
    refine r_iload_n C 1 dX12_says_14 rfl rfl ?_
    refine r_callV C [i9 p1, rf G 174] dX12_says_15 (t_X12_saysOf_174 C.h1 C.h2 p1 d3) mw_X12_334 mv_X12_saysOf la_174 ly_174 rfl (by decide) (by decide) (by decide) rfl rfl (Nat.le_of_ble_eq_true rfl) (fun r6 d7 => ?_)
    show SS G X 2 _ _ 18 [(0, rf G 174), (1, i9 p1)] [i9 r6] d7 _
    refine r_goto C 26 dX12_says_18 (by decide) ?_
    exact r_iret C dX12_says_26 (by decide) (by decide)
abbrev z_X12_isWord_174_s25 : Z9 := (some .boolean, 1, 0, 0, 8, 250)
def b_X12_isWord_174_s25_c39 (k_X12_isWord_174_s25_c39 : Int → Int → D9 → Option R9) (v2 v3 : Int) (d : D9) : Option R9 := if w32 v2 = 0 then rt (v2 % 2) d else if w32 6 ≤ w32 v3 then rt (v2 % 2) d else ld d 178 400 ((d 174 10) + v3) (fun t1 => sch 25 v3 (fun t2 => if w32 t1 ≠ w32 t2 then k_X12_isWord_174_s25_c39 0 (v3 + 1) d else k_X12_isWord_174_s25_c39 1 (v3 + 1) d))
def m_X12_isWord_174_s25_c39 : Int → Int → D9 → Option R9 := fix9 (fun _ _ _ => none) (fun k => b_X12_isWord_174_s25_c39 k) FU
def m_X12_isWord_174_s25 (d : D9) : Option R9 := if w32 (d 174 13) ≠ 0 then m_X12_isWord_174_s25_c39  0 0 d else if w32 (d 174 11) ≠ w32 1 then m_X12_isWord_174_s25_c39  0 0 d else if w32 ((d 174 9) - (d 174 10)) ≠ w32 6 then m_X12_isWord_174_s25_c39  0 0 d else m_X12_isWord_174_s25_c39  1 0 d
set_option maxRecDepth 100000 in
theorem sb_X12_isWord_174_s25_c39 {G : G9} {X : X9} (C : CX G X cX12_isWord 4 RX12 [] z_X12_isWord_174_s25) (k_X12_isWord_174_s25_c39 : Int → Int → D9 → Option R9) (hk_X12_isWord_174_s25_c39 : ∀ (v2 v3 : Int) (d : D9), SS G X 4 0 0 39 [(0, rf G 174), (1, sf G 25), (2, i9 v2), (3, i9 v3)] [] d (k_X12_isWord_174_s25_c39 v2 v3 d)) : ∀ (v2 v3 : Int) (d : D9), SS G X 4 0 0 39 [(0, rf G 174), (1, sf G 25), (2, i9 v2), (3, i9 v3)] [] d (b_X12_isWord_174_s25_c39 k_X12_isWord_174_s25_c39 v2 v3 d) := by
  intro v2 v3 d
  unfold b_X12_isWord_174_s25_c39
  refine r_iload_n C 2 dX12_isWord_39 rfl rfl ?_
  refine r_if_eq C (b := 0) 82 dX12_isWord_40 (by decide) (fun _ => ?_) (fun _ => ?_)
  · refine r_iload_n C 2 dX12_isWord_82 rfl rfl ?_
    exact r_zret C dX12_isWord_83 (by decide) (by decide)
  · refine r_iload_n C 3 dX12_isWord_43 rfl rfl ?_
    refine r_aload_nS C 1 dX12_isWord_44 rfl rfl ?_
    refine r_slen C 25 dX12_isWord_45 mw_X12_166 rfl (by decide) (Nat.le_of_ble_eq_true rfl) ?_
    refine r_icmp_ge C 82 dX12_isWord_48 (by decide) (fun _ => ?_) (fun _ => ?_)
    · refine r_iload_n C 2 dX12_isWord_82 rfl rfl ?_
      exact r_zret C dX12_isWord_83 (by decide) (by decide)
    · refine r_aload_n C 0 dX12_isWord_51 rfl rfl ?_
      refine r_getR C 178 dX12_isWord_52 fl_X12_20 la_174 ly_174 rfl rfl ?_
      refine r_aload_n C 0 dX12_isWord_55 rfl rfl ?_
      refine r_getI C dX12_isWord_56 fl_X12_142 la_174 ly_174 rfl ?_
      refine r_iload_n C 3 dX12_isWord_59 rfl rfl ?_
      refine r_iadd C dX12_isWord_60 ?_
      refine r_iald C dX12_isWord_61 la_178 ly_178 (fun t1 => ?_)
      refine r_aload_nS C 1 dX12_isWord_62 rfl rfl ?_
      refine r_iload_n C 3 dX12_isWord_63 rfl rfl ?_
      refine r_schar C 25 dX12_isWord_64 mw_X12_172 (by decide) (Nat.le_of_ble_eq_true rfl) (fun t2 => ?_)
      refine r_icmp_ne C 74 dX12_isWord_67 (by decide) (fun _ => ?_) (fun _ => ?_)
      · refine r_iconst C dX12_isWord_74 ?_
        refine r_istore_n C [(2, i9 0), (0, rf G 174), (1, sf G 25), (3, i9 v3)] dX12_isWord_75 rfl (by decide) rfl ?_
        refine r_iinc C 3 [(3, i9 (v3 + 1)), (2, i9 0), (0, rf G 174), (1, sf G 25)] dX12_isWord_76 rfl (by decide) rfl ?_
        refine r_goto C 39 dX12_isWord_79 (by decide) ?_
        refine ss_wide (k' := 0) (n' := 0) (by decide) (by decide) ?_
        refine ss_ls [(0, rf G 174), (1, sf G 25), (2, i9 0), (3, i9 (v3 + 1))] [2, 3, 1, 0] rfl ?_
        exact hk_X12_isWord_174_s25_c39 0 (v3 + 1) d
      · refine r_iconst C dX12_isWord_70 ?_
        refine r_goto C 75 dX12_isWord_71 (by decide) ?_
        refine r_istore_n C [(2, i9 1), (0, rf G 174), (1, sf G 25), (3, i9 v3)] dX12_isWord_75 rfl (by decide) rfl ?_
        refine r_iinc C 3 [(3, i9 (v3 + 1)), (2, i9 1), (0, rf G 174), (1, sf G 25)] dX12_isWord_76 rfl (by decide) rfl ?_
        refine r_goto C 39 dX12_isWord_79 (by decide) ?_
        refine ss_wide (k' := 0) (n' := 0) (by decide) (by decide) ?_
        refine ss_ls [(0, rf G 174), (1, sf G 25), (2, i9 1), (3, i9 (v3 + 1))] [2, 3, 1, 0] rfl ?_
        exact hk_X12_isWord_174_s25_c39 1 (v3 + 1) d
theorem s_X12_isWord_174_s25_c39 {G : G9} {X : X9} (C : CX G X cX12_isWord 4 RX12 [] z_X12_isWord_174_s25) : ∀ (v2 v3 : Int) (d : D9), SS G X 4 0 0 39 [(0, rf G 174), (1, sf G 25), (2, i9 v2), (3, i9 v3)] [] d (m_X12_isWord_174_s25_c39  v2 v3 d) :=
  fix9_ind (P := fun k => ∀ (v2 v3 : Int) (d : D9), SS G X 4 0 0 39 [(0, rf G 174), (1, sf G 25), (2, i9 v2), (3, i9 v3)] [] d (k v2 v3 d)) (fun _ _ _ => ss_none) (fun k hk => sb_X12_isWord_174_s25_c39 C k hk) FU
set_option maxRecDepth 100000 in
theorem t_X12_isWord_174_s25 {G : G9} {l : Launch} (h1 : va_D (A9 G) (wl G (fun _ _ => 0))) (h2 : l.stackTraces = false) (d : D9) : MT G l yX12_isWord cX12_isWord 4 z_X12_isWord_174_s25 [rf G 174, sf G 25] d (m_X12_isWord_174_s25  d) := by
  refine mt_of (own := RX12) (by decide) rfl (Nat.le_of_ble_eq_true rfl) h1 h2 [(0, rf G 174), (1, sf G 25)] rfl (fun X hX C => ?_)
  unfold m_X12_isWord_174_s25
  refine r_aload_n C 0 dX12_isWord_0 rfl rfl ?_
  refine r_getI C dX12_isWord_1 fl_X12_160 la_174 ly_174 rfl ?_
  refine r_if_ne C (b := 0) 35 dX12_isWord_4 (by decide) (fun _ => ?_) (fun _ => ?_)
  · refine r_iconst C dX12_isWord_35 ?_
    refine r_istore_n C [(2, i9 0), (0, rf G 174), (1, sf G 25)] dX12_isWord_36 rfl (by decide) rfl ?_
    refine r_iconst C dX12_isWord_37 ?_
    refine r_istore_n C [(3, i9 0), (2, i9 0), (0, rf G 174), (1, sf G 25)] dX12_isWord_38 rfl (by decide) rfl ?_
    refine ss_wide (k' := 0) (n' := 0) (by decide) (by decide) ?_
    refine ss_ls [(0, rf G 174), (1, sf G 25), (2, i9 0), (3, i9 0)] [2, 3, 1, 0] rfl ?_
    exact s_X12_isWord_174_s25_c39 C  0 0 d
  · refine r_aload_n C 0 dX12_isWord_7 rfl rfl ?_
    refine r_getI C dX12_isWord_8 fl_X12_145 la_174 ly_174 rfl ?_
    refine r_iconst C dX12_isWord_11 ?_
    refine r_icmp_ne C 35 dX12_isWord_12 (by decide) (fun _ => ?_) (fun _ => ?_)
    · refine r_iconst C dX12_isWord_35 ?_
      refine r_istore_n C [(2, i9 0), (0, rf G 174), (1, sf G 25)] dX12_isWord_36 rfl (by decide) rfl ?_
      refine r_iconst C dX12_isWord_37 ?_
      refine r_istore_n C [(3, i9 0), (2, i9 0), (0, rf G 174), (1, sf G 25)] dX12_isWord_38 rfl (by decide) rfl ?_
      refine ss_wide (k' := 0) (n' := 0) (by decide) (by decide) ?_
      refine ss_ls [(0, rf G 174), (1, sf G 25), (2, i9 0), (3, i9 0)] [2, 3, 1, 0] rfl ?_
      exact s_X12_isWord_174_s25_c39 C  0 0 d
    · refine r_aload_n C 0 dX12_isWord_15 rfl rfl ?_
      refine r_getI C dX12_isWord_16 fl_X12_139 la_174 ly_174 rfl ?_
      refine r_aload_n C 0 dX12_isWord_19 rfl rfl ?_
      refine r_getI C dX12_isWord_20 fl_X12_142 la_174 ly_174 rfl ?_
      refine r_isub C dX12_isWord_23 ?_
      refine r_aload_nS C 1 dX12_isWord_24 rfl rfl ?_
      refine r_slen C 25 dX12_isWord_25 mw_X12_166 rfl (by decide) (Nat.le_of_ble_eq_true rfl) ?_
      refine r_icmp_ne C 35 dX12_isWord_28 (by decide) (fun _ => ?_) (fun _ => ?_)
      · refine r_iconst C dX12_isWord_35 ?_
        refine r_istore_n C [(2, i9 0), (0, rf G 174), (1, sf G 25)] dX12_isWord_36 rfl (by decide) rfl ?_
        refine r_iconst C dX12_isWord_37 ?_
        refine r_istore_n C [(3, i9 0), (2, i9 0), (0, rf G 174), (1, sf G 25)] dX12_isWord_38 rfl (by decide) rfl ?_
        refine ss_wide (k' := 0) (n' := 0) (by decide) (by decide) ?_
        refine ss_ls [(0, rf G 174), (1, sf G 25), (2, i9 0), (3, i9 0)] [2, 3, 1, 0] rfl ?_
        exact s_X12_isWord_174_s25_c39 C  0 0 d
      · refine r_iconst C dX12_isWord_31 ?_
        refine r_goto C 36 dX12_isWord_32 (by decide) ?_
        refine r_istore_n C [(2, i9 1), (0, rf G 174), (1, sf G 25)] dX12_isWord_36 rfl (by decide) rfl ?_
        refine r_iconst C dX12_isWord_37 ?_
        refine r_istore_n C [(3, i9 0), (2, i9 1), (0, rf G 174), (1, sf G 25)] dX12_isWord_38 rfl (by decide) rfl ?_
        refine ss_wide (k' := 0) (n' := 0) (by decide) (by decide) ?_
        refine ss_ls [(0, rf G 174), (1, sf G 25), (2, i9 1), (3, i9 0)] [2, 3, 1, 0] rfl ?_
        exact s_X12_isWord_174_s25_c39 C  1 0 d
abbrev z_X12_isWord_174_s26 : Z9 := (some .boolean, 1, 0, 0, 8, 250)
def b_X12_isWord_174_s26_c39 (k_X12_isWord_174_s26_c39 : Int → Int → D9 → Option R9) (v2 v3 : Int) (d : D9) : Option R9 := if w32 v2 = 0 then rt (v2 % 2) d else if w32 6 ≤ w32 v3 then rt (v2 % 2) d else ld d 178 400 ((d 174 10) + v3) (fun t1 => sch 26 v3 (fun t2 => if w32 t1 ≠ w32 t2 then k_X12_isWord_174_s26_c39 0 (v3 + 1) d else k_X12_isWord_174_s26_c39 1 (v3 + 1) d))
def m_X12_isWord_174_s26_c39 : Int → Int → D9 → Option R9 := fix9 (fun _ _ _ => none) (fun k => b_X12_isWord_174_s26_c39 k) FU
def m_X12_isWord_174_s26 (d : D9) : Option R9 := if w32 (d 174 13) ≠ 0 then m_X12_isWord_174_s26_c39  0 0 d else if w32 (d 174 11) ≠ w32 1 then m_X12_isWord_174_s26_c39  0 0 d else if w32 ((d 174 9) - (d 174 10)) ≠ w32 6 then m_X12_isWord_174_s26_c39  0 0 d else m_X12_isWord_174_s26_c39  1 0 d
set_option maxRecDepth 100000 in
theorem sb_X12_isWord_174_s26_c39 {G : G9} {X : X9} (C : CX G X cX12_isWord 4 RX12 [] z_X12_isWord_174_s26) (k_X12_isWord_174_s26_c39 : Int → Int → D9 → Option R9) (hk_X12_isWord_174_s26_c39 : ∀ (v2 v3 : Int) (d : D9), SS G X 4 0 0 39 [(0, rf G 174), (1, sf G 26), (2, i9 v2), (3, i9 v3)] [] d (k_X12_isWord_174_s26_c39 v2 v3 d)) : ∀ (v2 v3 : Int) (d : D9), SS G X 4 0 0 39 [(0, rf G 174), (1, sf G 26), (2, i9 v2), (3, i9 v3)] [] d (b_X12_isWord_174_s26_c39 k_X12_isWord_174_s26_c39 v2 v3 d) := by
  intro v2 v3 d
  unfold b_X12_isWord_174_s26_c39
  refine r_iload_n C 2 dX12_isWord_39 rfl rfl ?_
  refine r_if_eq C (b := 0) 82 dX12_isWord_40 (by decide) (fun _ => ?_) (fun _ => ?_)
  · refine r_iload_n C 2 dX12_isWord_82 rfl rfl ?_
    exact r_zret C dX12_isWord_83 (by decide) (by decide)
  · refine r_iload_n C 3 dX12_isWord_43 rfl rfl ?_
    refine r_aload_nS C 1 dX12_isWord_44 rfl rfl ?_
    refine r_slen C 26 dX12_isWord_45 mw_X12_166 rfl (by decide) (Nat.le_of_ble_eq_true rfl) ?_
    refine r_icmp_ge C 82 dX12_isWord_48 (by decide) (fun _ => ?_) (fun _ => ?_)
    · refine r_iload_n C 2 dX12_isWord_82 rfl rfl ?_
      exact r_zret C dX12_isWord_83 (by decide) (by decide)
    · refine r_aload_n C 0 dX12_isWord_51 rfl rfl ?_
      refine r_getR C 178 dX12_isWord_52 fl_X12_20 la_174 ly_174 rfl rfl ?_
      refine r_aload_n C 0 dX12_isWord_55 rfl rfl ?_
      refine r_getI C dX12_isWord_56 fl_X12_142 la_174 ly_174 rfl ?_
      refine r_iload_n C 3 dX12_isWord_59 rfl rfl ?_
      refine r_iadd C dX12_isWord_60 ?_
      refine r_iald C dX12_isWord_61 la_178 ly_178 (fun t1 => ?_)
      refine r_aload_nS C 1 dX12_isWord_62 rfl rfl ?_
      refine r_iload_n C 3 dX12_isWord_63 rfl rfl ?_
      refine r_schar C 26 dX12_isWord_64 mw_X12_172 (by decide) (Nat.le_of_ble_eq_true rfl) (fun t2 => ?_)
      refine r_icmp_ne C 74 dX12_isWord_67 (by decide) (fun _ => ?_) (fun _ => ?_)
      · refine r_iconst C dX12_isWord_74 ?_
        refine r_istore_n C [(2, i9 0), (0, rf G 174), (1, sf G 26), (3, i9 v3)] dX12_isWord_75 rfl (by decide) rfl ?_
        refine r_iinc C 3 [(3, i9 (v3 + 1)), (2, i9 0), (0, rf G 174), (1, sf G 26)] dX12_isWord_76 rfl (by decide) rfl ?_
        refine r_goto C 39 dX12_isWord_79 (by decide) ?_
        refine ss_wide (k' := 0) (n' := 0) (by decide) (by decide) ?_
        refine ss_ls [(0, rf G 174), (1, sf G 26), (2, i9 0), (3, i9 (v3 + 1))] [2, 3, 1, 0] rfl ?_
        exact hk_X12_isWord_174_s26_c39 0 (v3 + 1) d
      · refine r_iconst C dX12_isWord_70 ?_
        refine r_goto C 75 dX12_isWord_71 (by decide) ?_
        refine r_istore_n C [(2, i9 1), (0, rf G 174), (1, sf G 26), (3, i9 v3)] dX12_isWord_75 rfl (by decide) rfl ?_
        refine r_iinc C 3 [(3, i9 (v3 + 1)), (2, i9 1), (0, rf G 174), (1, sf G 26)] dX12_isWord_76 rfl (by decide) rfl ?_
        refine r_goto C 39 dX12_isWord_79 (by decide) ?_
        refine ss_wide (k' := 0) (n' := 0) (by decide) (by decide) ?_
        refine ss_ls [(0, rf G 174), (1, sf G 26), (2, i9 1), (3, i9 (v3 + 1))] [2, 3, 1, 0] rfl ?_
        exact hk_X12_isWord_174_s26_c39 1 (v3 + 1) d
theorem s_X12_isWord_174_s26_c39 {G : G9} {X : X9} (C : CX G X cX12_isWord 4 RX12 [] z_X12_isWord_174_s26) : ∀ (v2 v3 : Int) (d : D9), SS G X 4 0 0 39 [(0, rf G 174), (1, sf G 26), (2, i9 v2), (3, i9 v3)] [] d (m_X12_isWord_174_s26_c39  v2 v3 d) :=
  fix9_ind (P := fun k => ∀ (v2 v3 : Int) (d : D9), SS G X 4 0 0 39 [(0, rf G 174), (1, sf G 26), (2, i9 v2), (3, i9 v3)] [] d (k v2 v3 d)) (fun _ _ _ => ss_none) (fun k hk => sb_X12_isWord_174_s26_c39 C k hk) FU
set_option maxRecDepth 100000 in
theorem t_X12_isWord_174_s26 {G : G9} {l : Launch} (h1 : va_D (A9 G) (wl G (fun _ _ => 0))) (h2 : l.stackTraces = false) (d : D9) : MT G l yX12_isWord cX12_isWord 4 z_X12_isWord_174_s26 [rf G 174, sf G 26] d (m_X12_isWord_174_s26  d) := by
  refine mt_of (own := RX12) (by decide) rfl (Nat.le_of_ble_eq_true rfl) h1 h2 [(0, rf G 174), (1, sf G 26)] rfl (fun X hX C => ?_)
  unfold m_X12_isWord_174_s26
  refine r_aload_n C 0 dX12_isWord_0 rfl rfl ?_
  refine r_getI C dX12_isWord_1 fl_X12_160 la_174 ly_174 rfl ?_
  refine r_if_ne C (b := 0) 35 dX12_isWord_4 (by decide) (fun _ => ?_) (fun _ => ?_)
  · refine r_iconst C dX12_isWord_35 ?_
    refine r_istore_n C [(2, i9 0), (0, rf G 174), (1, sf G 26)] dX12_isWord_36 rfl (by decide) rfl ?_
    refine r_iconst C dX12_isWord_37 ?_
    refine r_istore_n C [(3, i9 0), (2, i9 0), (0, rf G 174), (1, sf G 26)] dX12_isWord_38 rfl (by decide) rfl ?_
    refine ss_wide (k' := 0) (n' := 0) (by decide) (by decide) ?_
    refine ss_ls [(0, rf G 174), (1, sf G 26), (2, i9 0), (3, i9 0)] [2, 3, 1, 0] rfl ?_
    exact s_X12_isWord_174_s26_c39 C  0 0 d
  · refine r_aload_n C 0 dX12_isWord_7 rfl rfl ?_
    refine r_getI C dX12_isWord_8 fl_X12_145 la_174 ly_174 rfl ?_
    refine r_iconst C dX12_isWord_11 ?_
    refine r_icmp_ne C 35 dX12_isWord_12 (by decide) (fun _ => ?_) (fun _ => ?_)
    · refine r_iconst C dX12_isWord_35 ?_
      refine r_istore_n C [(2, i9 0), (0, rf G 174), (1, sf G 26)] dX12_isWord_36 rfl (by decide) rfl ?_
      refine r_iconst C dX12_isWord_37 ?_
      refine r_istore_n C [(3, i9 0), (2, i9 0), (0, rf G 174), (1, sf G 26)] dX12_isWord_38 rfl (by decide) rfl ?_
      refine ss_wide (k' := 0) (n' := 0) (by decide) (by decide) ?_
      refine ss_ls [(0, rf G 174), (1, sf G 26), (2, i9 0), (3, i9 0)] [2, 3, 1, 0] rfl ?_
      exact s_X12_isWord_174_s26_c39 C  0 0 d
    · refine r_aload_n C 0 dX12_isWord_15 rfl rfl ?_
      refine r_getI C dX12_isWord_16 fl_X12_139 la_174 ly_174 rfl ?_
      refine r_aload_n C 0 dX12_isWord_19 rfl rfl ?_
      refine r_getI C dX12_isWord_20 fl_X12_142 la_174 ly_174 rfl ?_
      refine r_isub C dX12_isWord_23 ?_
      refine r_aload_nS C 1 dX12_isWord_24 rfl rfl ?_
      refine r_slen C 26 dX12_isWord_25 mw_X12_166 rfl (by decide) (Nat.le_of_ble_eq_true rfl) ?_
      refine r_icmp_ne C 35 dX12_isWord_28 (by decide) (fun _ => ?_) (fun _ => ?_)
      · refine r_iconst C dX12_isWord_35 ?_
        refine r_istore_n C [(2, i9 0), (0, rf G 174), (1, sf G 26)] dX12_isWord_36 rfl (by decide) rfl ?_
        refine r_iconst C dX12_isWord_37 ?_
        refine r_istore_n C [(3, i9 0), (2, i9 0), (0, rf G 174), (1, sf G 26)] dX12_isWord_38 rfl (by decide) rfl ?_
        refine ss_wide (k' := 0) (n' := 0) (by decide) (by decide) ?_
        refine ss_ls [(0, rf G 174), (1, sf G 26), (2, i9 0), (3, i9 0)] [2, 3, 1, 0] rfl ?_
        exact s_X12_isWord_174_s26_c39 C  0 0 d
      · refine r_iconst C dX12_isWord_31 ?_
        refine r_goto C 36 dX12_isWord_32 (by decide) ?_
        refine r_istore_n C [(2, i9 1), (0, rf G 174), (1, sf G 26)] dX12_isWord_36 rfl (by decide) rfl ?_
        refine r_iconst C dX12_isWord_37 ?_
        refine r_istore_n C [(3, i9 0), (2, i9 1), (0, rf G 174), (1, sf G 26)] dX12_isWord_38 rfl (by decide) rfl ?_
        refine ss_wide (k' := 0) (n' := 0) (by decide) (by decide) ?_
        refine ss_ls [(0, rf G 174), (1, sf G 26), (2, i9 1), (3, i9 0)] [2, 3, 1, 0] rfl ?_
        exact s_X12_isWord_174_s26_c39 C  1 0 d
abbrev z_X12_isWord_174_s27 : Z9 := (some .boolean, 1, 0, 0, 8, 250)
def b_X12_isWord_174_s27_c39 (k_X12_isWord_174_s27_c39 : Int → Int → D9 → Option R9) (v2 v3 : Int) (d : D9) : Option R9 := if w32 v2 = 0 then rt (v2 % 2) d else if w32 4 ≤ w32 v3 then rt (v2 % 2) d else ld d 178 400 ((d 174 10) + v3) (fun t1 => sch 27 v3 (fun t2 => if w32 t1 ≠ w32 t2 then k_X12_isWord_174_s27_c39 0 (v3 + 1) d else k_X12_isWord_174_s27_c39 1 (v3 + 1) d))
def m_X12_isWord_174_s27_c39 : Int → Int → D9 → Option R9 := fix9 (fun _ _ _ => none) (fun k => b_X12_isWord_174_s27_c39 k) FU
def m_X12_isWord_174_s27 (d : D9) : Option R9 := if w32 (d 174 13) ≠ 0 then m_X12_isWord_174_s27_c39  0 0 d else if w32 (d 174 11) ≠ w32 1 then m_X12_isWord_174_s27_c39  0 0 d else if w32 ((d 174 9) - (d 174 10)) ≠ w32 4 then m_X12_isWord_174_s27_c39  0 0 d else m_X12_isWord_174_s27_c39  1 0 d
set_option maxRecDepth 100000 in
theorem sb_X12_isWord_174_s27_c39 {G : G9} {X : X9} (C : CX G X cX12_isWord 4 RX12 [] z_X12_isWord_174_s27) (k_X12_isWord_174_s27_c39 : Int → Int → D9 → Option R9) (hk_X12_isWord_174_s27_c39 : ∀ (v2 v3 : Int) (d : D9), SS G X 4 0 0 39 [(0, rf G 174), (1, sf G 27), (2, i9 v2), (3, i9 v3)] [] d (k_X12_isWord_174_s27_c39 v2 v3 d)) : ∀ (v2 v3 : Int) (d : D9), SS G X 4 0 0 39 [(0, rf G 174), (1, sf G 27), (2, i9 v2), (3, i9 v3)] [] d (b_X12_isWord_174_s27_c39 k_X12_isWord_174_s27_c39 v2 v3 d) := by
  intro v2 v3 d
  unfold b_X12_isWord_174_s27_c39
  refine r_iload_n C 2 dX12_isWord_39 rfl rfl ?_
  refine r_if_eq C (b := 0) 82 dX12_isWord_40 (by decide) (fun _ => ?_) (fun _ => ?_)
  · refine r_iload_n C 2 dX12_isWord_82 rfl rfl ?_
    exact r_zret C dX12_isWord_83 (by decide) (by decide)
  · refine r_iload_n C 3 dX12_isWord_43 rfl rfl ?_
    refine r_aload_nS C 1 dX12_isWord_44 rfl rfl ?_
    refine r_slen C 27 dX12_isWord_45 mw_X12_166 rfl (by decide) (Nat.le_of_ble_eq_true rfl) ?_
    refine r_icmp_ge C 82 dX12_isWord_48 (by decide) (fun _ => ?_) (fun _ => ?_)
    · refine r_iload_n C 2 dX12_isWord_82 rfl rfl ?_
      exact r_zret C dX12_isWord_83 (by decide) (by decide)
    · refine r_aload_n C 0 dX12_isWord_51 rfl rfl ?_
      refine r_getR C 178 dX12_isWord_52 fl_X12_20 la_174 ly_174 rfl rfl ?_
      refine r_aload_n C 0 dX12_isWord_55 rfl rfl ?_
      refine r_getI C dX12_isWord_56 fl_X12_142 la_174 ly_174 rfl ?_
      refine r_iload_n C 3 dX12_isWord_59 rfl rfl ?_
      refine r_iadd C dX12_isWord_60 ?_
      refine r_iald C dX12_isWord_61 la_178 ly_178 (fun t1 => ?_)
      refine r_aload_nS C 1 dX12_isWord_62 rfl rfl ?_
      refine r_iload_n C 3 dX12_isWord_63 rfl rfl ?_
      refine r_schar C 27 dX12_isWord_64 mw_X12_172 (by decide) (Nat.le_of_ble_eq_true rfl) (fun t2 => ?_)
      refine r_icmp_ne C 74 dX12_isWord_67 (by decide) (fun _ => ?_) (fun _ => ?_)
      · refine r_iconst C dX12_isWord_74 ?_
        refine r_istore_n C [(2, i9 0), (0, rf G 174), (1, sf G 27), (3, i9 v3)] dX12_isWord_75 rfl (by decide) rfl ?_
        refine r_iinc C 3 [(3, i9 (v3 + 1)), (2, i9 0), (0, rf G 174), (1, sf G 27)] dX12_isWord_76 rfl (by decide) rfl ?_
        refine r_goto C 39 dX12_isWord_79 (by decide) ?_
        refine ss_wide (k' := 0) (n' := 0) (by decide) (by decide) ?_
        refine ss_ls [(0, rf G 174), (1, sf G 27), (2, i9 0), (3, i9 (v3 + 1))] [2, 3, 1, 0] rfl ?_
        exact hk_X12_isWord_174_s27_c39 0 (v3 + 1) d
      · refine r_iconst C dX12_isWord_70 ?_
        refine r_goto C 75 dX12_isWord_71 (by decide) ?_
        refine r_istore_n C [(2, i9 1), (0, rf G 174), (1, sf G 27), (3, i9 v3)] dX12_isWord_75 rfl (by decide) rfl ?_
        refine r_iinc C 3 [(3, i9 (v3 + 1)), (2, i9 1), (0, rf G 174), (1, sf G 27)] dX12_isWord_76 rfl (by decide) rfl ?_
        refine r_goto C 39 dX12_isWord_79 (by decide) ?_
        refine ss_wide (k' := 0) (n' := 0) (by decide) (by decide) ?_
        refine ss_ls [(0, rf G 174), (1, sf G 27), (2, i9 1), (3, i9 (v3 + 1))] [2, 3, 1, 0] rfl ?_
        exact hk_X12_isWord_174_s27_c39 1 (v3 + 1) d
theorem s_X12_isWord_174_s27_c39 {G : G9} {X : X9} (C : CX G X cX12_isWord 4 RX12 [] z_X12_isWord_174_s27) : ∀ (v2 v3 : Int) (d : D9), SS G X 4 0 0 39 [(0, rf G 174), (1, sf G 27), (2, i9 v2), (3, i9 v3)] [] d (m_X12_isWord_174_s27_c39  v2 v3 d) :=
  fix9_ind (P := fun k => ∀ (v2 v3 : Int) (d : D9), SS G X 4 0 0 39 [(0, rf G 174), (1, sf G 27), (2, i9 v2), (3, i9 v3)] [] d (k v2 v3 d)) (fun _ _ _ => ss_none) (fun k hk => sb_X12_isWord_174_s27_c39 C k hk) FU
set_option maxRecDepth 100000 in
theorem t_X12_isWord_174_s27 {G : G9} {l : Launch} (h1 : va_D (A9 G) (wl G (fun _ _ => 0))) (h2 : l.stackTraces = false) (d : D9) : MT G l yX12_isWord cX12_isWord 4 z_X12_isWord_174_s27 [rf G 174, sf G 27] d (m_X12_isWord_174_s27  d) := by
  refine mt_of (own := RX12) (by decide) rfl (Nat.le_of_ble_eq_true rfl) h1 h2 [(0, rf G 174), (1, sf G 27)] rfl (fun X hX C => ?_)
  unfold m_X12_isWord_174_s27
  refine r_aload_n C 0 dX12_isWord_0 rfl rfl ?_
  refine r_getI C dX12_isWord_1 fl_X12_160 la_174 ly_174 rfl ?_
  refine r_if_ne C (b := 0) 35 dX12_isWord_4 (by decide) (fun _ => ?_) (fun _ => ?_)
  · refine r_iconst C dX12_isWord_35 ?_
    refine r_istore_n C [(2, i9 0), (0, rf G 174), (1, sf G 27)] dX12_isWord_36 rfl (by decide) rfl ?_
    refine r_iconst C dX12_isWord_37 ?_
    refine r_istore_n C [(3, i9 0), (2, i9 0), (0, rf G 174), (1, sf G 27)] dX12_isWord_38 rfl (by decide) rfl ?_
    refine ss_wide (k' := 0) (n' := 0) (by decide) (by decide) ?_
    refine ss_ls [(0, rf G 174), (1, sf G 27), (2, i9 0), (3, i9 0)] [2, 3, 1, 0] rfl ?_
    exact s_X12_isWord_174_s27_c39 C  0 0 d
  · refine r_aload_n C 0 dX12_isWord_7 rfl rfl ?_
    refine r_getI C dX12_isWord_8 fl_X12_145 la_174 ly_174 rfl ?_
    refine r_iconst C dX12_isWord_11 ?_
    refine r_icmp_ne C 35 dX12_isWord_12 (by decide) (fun _ => ?_) (fun _ => ?_)
    · refine r_iconst C dX12_isWord_35 ?_
      refine r_istore_n C [(2, i9 0), (0, rf G 174), (1, sf G 27)] dX12_isWord_36 rfl (by decide) rfl ?_
      refine r_iconst C dX12_isWord_37 ?_
      refine r_istore_n C [(3, i9 0), (2, i9 0), (0, rf G 174), (1, sf G 27)] dX12_isWord_38 rfl (by decide) rfl ?_
      refine ss_wide (k' := 0) (n' := 0) (by decide) (by decide) ?_
      refine ss_ls [(0, rf G 174), (1, sf G 27), (2, i9 0), (3, i9 0)] [2, 3, 1, 0] rfl ?_
      exact s_X12_isWord_174_s27_c39 C  0 0 d
    · refine r_aload_n C 0 dX12_isWord_15 rfl rfl ?_
      refine r_getI C dX12_isWord_16 fl_X12_139 la_174 ly_174 rfl ?_
      refine r_aload_n C 0 dX12_isWord_19 rfl rfl ?_
      refine r_getI C dX12_isWord_20 fl_X12_142 la_174 ly_174 rfl ?_
      refine r_isub C dX12_isWord_23 ?_
      refine r_aload_nS C 1 dX12_isWord_24 rfl rfl ?_
      refine r_slen C 27 dX12_isWord_25 mw_X12_166 rfl (by decide) (Nat.le_of_ble_eq_true rfl) ?_
      refine r_icmp_ne C 35 dX12_isWord_28 (by decide) (fun _ => ?_) (fun _ => ?_)
      · refine r_iconst C dX12_isWord_35 ?_
        refine r_istore_n C [(2, i9 0), (0, rf G 174), (1, sf G 27)] dX12_isWord_36 rfl (by decide) rfl ?_
        refine r_iconst C dX12_isWord_37 ?_
        refine r_istore_n C [(3, i9 0), (2, i9 0), (0, rf G 174), (1, sf G 27)] dX12_isWord_38 rfl (by decide) rfl ?_
        refine ss_wide (k' := 0) (n' := 0) (by decide) (by decide) ?_
        refine ss_ls [(0, rf G 174), (1, sf G 27), (2, i9 0), (3, i9 0)] [2, 3, 1, 0] rfl ?_
        exact s_X12_isWord_174_s27_c39 C  0 0 d
      · refine r_iconst C dX12_isWord_31 ?_
        refine r_goto C 36 dX12_isWord_32 (by decide) ?_
        refine r_istore_n C [(2, i9 1), (0, rf G 174), (1, sf G 27)] dX12_isWord_36 rfl (by decide) rfl ?_
        refine r_iconst C dX12_isWord_37 ?_
        refine r_istore_n C [(3, i9 0), (2, i9 1), (0, rf G 174), (1, sf G 27)] dX12_isWord_38 rfl (by decide) rfl ?_
        refine ss_wide (k' := 0) (n' := 0) (by decide) (by decide) ?_
        refine ss_ls [(0, rf G 174), (1, sf G 27), (2, i9 1), (3, i9 0)] [2, 3, 1, 0] rfl ?_
        exact s_X12_isWord_174_s27_c39 C  1 0 d
abbrev z_X12_isWord_174_s28 : Z9 := (some .boolean, 1, 0, 0, 8, 250)
def b_X12_isWord_174_s28_c39 (k_X12_isWord_174_s28_c39 : Int → Int → D9 → Option R9) (v2 v3 : Int) (d : D9) : Option R9 := if w32 v2 = 0 then rt (v2 % 2) d else if w32 5 ≤ w32 v3 then rt (v2 % 2) d else ld d 178 400 ((d 174 10) + v3) (fun t1 => sch 28 v3 (fun t2 => if w32 t1 ≠ w32 t2 then k_X12_isWord_174_s28_c39 0 (v3 + 1) d else k_X12_isWord_174_s28_c39 1 (v3 + 1) d))
def m_X12_isWord_174_s28_c39 : Int → Int → D9 → Option R9 := fix9 (fun _ _ _ => none) (fun k => b_X12_isWord_174_s28_c39 k) FU
def m_X12_isWord_174_s28 (d : D9) : Option R9 := if w32 (d 174 13) ≠ 0 then m_X12_isWord_174_s28_c39  0 0 d else if w32 (d 174 11) ≠ w32 1 then m_X12_isWord_174_s28_c39  0 0 d else if w32 ((d 174 9) - (d 174 10)) ≠ w32 5 then m_X12_isWord_174_s28_c39  0 0 d else m_X12_isWord_174_s28_c39  1 0 d
set_option maxRecDepth 100000 in
theorem sb_X12_isWord_174_s28_c39 {G : G9} {X : X9} (C : CX G X cX12_isWord 4 RX12 [] z_X12_isWord_174_s28) (k_X12_isWord_174_s28_c39 : Int → Int → D9 → Option R9) (hk_X12_isWord_174_s28_c39 : ∀ (v2 v3 : Int) (d : D9), SS G X 4 0 0 39 [(0, rf G 174), (1, sf G 28), (2, i9 v2), (3, i9 v3)] [] d (k_X12_isWord_174_s28_c39 v2 v3 d)) : ∀ (v2 v3 : Int) (d : D9), SS G X 4 0 0 39 [(0, rf G 174), (1, sf G 28), (2, i9 v2), (3, i9 v3)] [] d (b_X12_isWord_174_s28_c39 k_X12_isWord_174_s28_c39 v2 v3 d) := by
  intro v2 v3 d
  unfold b_X12_isWord_174_s28_c39
  refine r_iload_n C 2 dX12_isWord_39 rfl rfl ?_
  refine r_if_eq C (b := 0) 82 dX12_isWord_40 (by decide) (fun _ => ?_) (fun _ => ?_)
  · refine r_iload_n C 2 dX12_isWord_82 rfl rfl ?_
    exact r_zret C dX12_isWord_83 (by decide) (by decide)
  · refine r_iload_n C 3 dX12_isWord_43 rfl rfl ?_
    refine r_aload_nS C 1 dX12_isWord_44 rfl rfl ?_
    refine r_slen C 28 dX12_isWord_45 mw_X12_166 rfl (by decide) (Nat.le_of_ble_eq_true rfl) ?_
    refine r_icmp_ge C 82 dX12_isWord_48 (by decide) (fun _ => ?_) (fun _ => ?_)
    · refine r_iload_n C 2 dX12_isWord_82 rfl rfl ?_
      exact r_zret C dX12_isWord_83 (by decide) (by decide)
    · refine r_aload_n C 0 dX12_isWord_51 rfl rfl ?_
      refine r_getR C 178 dX12_isWord_52 fl_X12_20 la_174 ly_174 rfl rfl ?_
      refine r_aload_n C 0 dX12_isWord_55 rfl rfl ?_
      refine r_getI C dX12_isWord_56 fl_X12_142 la_174 ly_174 rfl ?_
      refine r_iload_n C 3 dX12_isWord_59 rfl rfl ?_
      refine r_iadd C dX12_isWord_60 ?_
      refine r_iald C dX12_isWord_61 la_178 ly_178 (fun t1 => ?_)
      refine r_aload_nS C 1 dX12_isWord_62 rfl rfl ?_
      refine r_iload_n C 3 dX12_isWord_63 rfl rfl ?_
      refine r_schar C 28 dX12_isWord_64 mw_X12_172 (by decide) (Nat.le_of_ble_eq_true rfl) (fun t2 => ?_)
      refine r_icmp_ne C 74 dX12_isWord_67 (by decide) (fun _ => ?_) (fun _ => ?_)
      · refine r_iconst C dX12_isWord_74 ?_
        refine r_istore_n C [(2, i9 0), (0, rf G 174), (1, sf G 28), (3, i9 v3)] dX12_isWord_75 rfl (by decide) rfl ?_
        refine r_iinc C 3 [(3, i9 (v3 + 1)), (2, i9 0), (0, rf G 174), (1, sf G 28)] dX12_isWord_76 rfl (by decide) rfl ?_
        refine r_goto C 39 dX12_isWord_79 (by decide) ?_
        refine ss_wide (k' := 0) (n' := 0) (by decide) (by decide) ?_
        refine ss_ls [(0, rf G 174), (1, sf G 28), (2, i9 0), (3, i9 (v3 + 1))] [2, 3, 1, 0] rfl ?_
        exact hk_X12_isWord_174_s28_c39 0 (v3 + 1) d
      · refine r_iconst C dX12_isWord_70 ?_
        refine r_goto C 75 dX12_isWord_71 (by decide) ?_
        refine r_istore_n C [(2, i9 1), (0, rf G 174), (1, sf G 28), (3, i9 v3)] dX12_isWord_75 rfl (by decide) rfl ?_
        refine r_iinc C 3 [(3, i9 (v3 + 1)), (2, i9 1), (0, rf G 174), (1, sf G 28)] dX12_isWord_76 rfl (by decide) rfl ?_
        refine r_goto C 39 dX12_isWord_79 (by decide) ?_
        refine ss_wide (k' := 0) (n' := 0) (by decide) (by decide) ?_
        refine ss_ls [(0, rf G 174), (1, sf G 28), (2, i9 1), (3, i9 (v3 + 1))] [2, 3, 1, 0] rfl ?_
        exact hk_X12_isWord_174_s28_c39 1 (v3 + 1) d
theorem s_X12_isWord_174_s28_c39 {G : G9} {X : X9} (C : CX G X cX12_isWord 4 RX12 [] z_X12_isWord_174_s28) : ∀ (v2 v3 : Int) (d : D9), SS G X 4 0 0 39 [(0, rf G 174), (1, sf G 28), (2, i9 v2), (3, i9 v3)] [] d (m_X12_isWord_174_s28_c39  v2 v3 d) :=
  fix9_ind (P := fun k => ∀ (v2 v3 : Int) (d : D9), SS G X 4 0 0 39 [(0, rf G 174), (1, sf G 28), (2, i9 v2), (3, i9 v3)] [] d (k v2 v3 d)) (fun _ _ _ => ss_none) (fun k hk => sb_X12_isWord_174_s28_c39 C k hk) FU
set_option maxRecDepth 100000 in
theorem t_X12_isWord_174_s28 {G : G9} {l : Launch} (h1 : va_D (A9 G) (wl G (fun _ _ => 0))) (h2 : l.stackTraces = false) (d : D9) : MT G l yX12_isWord cX12_isWord 4 z_X12_isWord_174_s28 [rf G 174, sf G 28] d (m_X12_isWord_174_s28  d) := by
  refine mt_of (own := RX12) (by decide) rfl (Nat.le_of_ble_eq_true rfl) h1 h2 [(0, rf G 174), (1, sf G 28)] rfl (fun X hX C => ?_)
  unfold m_X12_isWord_174_s28
  refine r_aload_n C 0 dX12_isWord_0 rfl rfl ?_
  refine r_getI C dX12_isWord_1 fl_X12_160 la_174 ly_174 rfl ?_
  refine r_if_ne C (b := 0) 35 dX12_isWord_4 (by decide) (fun _ => ?_) (fun _ => ?_)
  · refine r_iconst C dX12_isWord_35 ?_
    refine r_istore_n C [(2, i9 0), (0, rf G 174), (1, sf G 28)] dX12_isWord_36 rfl (by decide) rfl ?_
    refine r_iconst C dX12_isWord_37 ?_
    refine r_istore_n C [(3, i9 0), (2, i9 0), (0, rf G 174), (1, sf G 28)] dX12_isWord_38 rfl (by decide) rfl ?_
    refine ss_wide (k' := 0) (n' := 0) (by decide) (by decide) ?_
    refine ss_ls [(0, rf G 174), (1, sf G 28), (2, i9 0), (3, i9 0)] [2, 3, 1, 0] rfl ?_
    exact s_X12_isWord_174_s28_c39 C  0 0 d
  · refine r_aload_n C 0 dX12_isWord_7 rfl rfl ?_
    refine r_getI C dX12_isWord_8 fl_X12_145 la_174 ly_174 rfl ?_
    refine r_iconst C dX12_isWord_11 ?_
    refine r_icmp_ne C 35 dX12_isWord_12 (by decide) (fun _ => ?_) (fun _ => ?_)
    · refine r_iconst C dX12_isWord_35 ?_
      refine r_istore_n C [(2, i9 0), (0, rf G 174), (1, sf G 28)] dX12_isWord_36 rfl (by decide) rfl ?_
      refine r_iconst C dX12_isWord_37 ?_
      refine r_istore_n C [(3, i9 0), (2, i9 0), (0, rf G 174), (1, sf G 28)] dX12_isWord_38 rfl (by decide) rfl ?_
      refine ss_wide (k' := 0) (n' := 0) (by decide) (by decide) ?_
      refine ss_ls [(0, rf G 174), (1, sf G 28), (2, i9 0), (3, i9 0)] [2, 3, 1, 0] rfl ?_
      exact s_X12_isWord_174_s28_c39 C  0 0 d
    · refine r_aload_n C 0 dX12_isWord_15 rfl rfl ?_
      refine r_getI C dX12_isWord_16 fl_X12_139 la_174 ly_174 rfl ?_
      refine r_aload_n C 0 dX12_isWord_19 rfl rfl ?_
      refine r_getI C dX12_isWord_20 fl_X12_142 la_174 ly_174 rfl ?_
      refine r_isub C dX12_isWord_23 ?_
      refine r_aload_nS C 1 dX12_isWord_24 rfl rfl ?_
      refine r_slen C 28 dX12_isWord_25 mw_X12_166 rfl (by decide) (Nat.le_of_ble_eq_true rfl) ?_
      refine r_icmp_ne C 35 dX12_isWord_28 (by decide) (fun _ => ?_) (fun _ => ?_)
      · refine r_iconst C dX12_isWord_35 ?_
        refine r_istore_n C [(2, i9 0), (0, rf G 174), (1, sf G 28)] dX12_isWord_36 rfl (by decide) rfl ?_
        refine r_iconst C dX12_isWord_37 ?_
        refine r_istore_n C [(3, i9 0), (2, i9 0), (0, rf G 174), (1, sf G 28)] dX12_isWord_38 rfl (by decide) rfl ?_
        refine ss_wide (k' := 0) (n' := 0) (by decide) (by decide) ?_
        refine ss_ls [(0, rf G 174), (1, sf G 28), (2, i9 0), (3, i9 0)] [2, 3, 1, 0] rfl ?_
        exact s_X12_isWord_174_s28_c39 C  0 0 d
      · refine r_iconst C dX12_isWord_31 ?_
        refine r_goto C 36 dX12_isWord_32 (by decide) ?_
        refine r_istore_n C [(2, i9 1), (0, rf G 174), (1, sf G 28)] dX12_isWord_36 rfl (by decide) rfl ?_
        refine r_iconst C dX12_isWord_37 ?_
        refine r_istore_n C [(3, i9 0), (2, i9 1), (0, rf G 174), (1, sf G 28)] dX12_isWord_38 rfl (by decide) rfl ?_
        refine ss_wide (k' := 0) (n' := 0) (by decide) (by decide) ?_
        refine ss_ls [(0, rf G 174), (1, sf G 28), (2, i9 1), (3, i9 0)] [2, 3, 1, 0] rfl ?_
        exact s_X12_isWord_174_s28_c39 C  1 0 d
theorem dX12_puts_0 : decode cX12_puts 0 = .ok (.aload_n 0, 1) := by decide +kernel
theorem dX12_puts_1 : decode cX12_puts 1 = .ok (.getfield 160, 3) := by decide +kernel
theorem dX12_puts_4 : decode cX12_puts 4 = .ok (.ifCond .eq 4, 3) := by decide +kernel
theorem dX12_puts_7 : decode cX12_puts 7 = .ok (.return_, 1) := by decide +kernel
theorem dX12_puts_8 : decode cX12_puts 8 = .ok (.aload_n 0, 1) := by decide +kernel
theorem dX12_puts_9 : decode cX12_puts 9 = .ok (.getfield 33, 3) := by decide +kernel
theorem dX12_puts_12 : decode cX12_puts 12 = .ok (.aload_n 0, 1) := by decide +kernel
theorem dX12_puts_13 : decode cX12_puts 13 = .ok (.getfield 232, 3) := by decide +kernel
theorem dX12_puts_16 : decode cX12_puts 16 = .ok (.iload_n 1, 1) := by decide +kernel
theorem dX12_puts_17 : decode cX12_puts 17 = .ok (.iastore, 1) := by decide +kernel
theorem dX12_puts_18 : decode cX12_puts 18 = .ok (.aload_n 0, 1) := by decide +kernel
theorem dX12_puts_19 : decode cX12_puts 19 = .ok (.dup, 1) := by decide +kernel
theorem dX12_puts_20 : decode cX12_puts 20 = .ok (.getfield 232, 3) := by decide +kernel
theorem dX12_puts_23 : decode cX12_puts 23 = .ok (.iconst 1, 1) := by decide +kernel
theorem dX12_puts_24 : decode cX12_puts 24 = .ok (.iadd, 1) := by decide +kernel
theorem dX12_puts_25 : decode cX12_puts 25 = .ok (.putfield 232, 3) := by decide +kernel
theorem dX12_puts_28 : decode cX12_puts 28 = .ok (.return_, 1) := by decide +kernel
abbrev z_X12_puts_174 : Z9 := (none, 0, 0, 0, 1, 0)
def m_X12_puts_174 (p1 : Int) (d : D9) : Option R9 := if w32 (d 174 13) = 0 then sd d 181 460 (d 174 18) p1 (fun d1 => pf d1 174 18 ((d1 174 18) + 1) (fun d2 => rt 0 d2)) else rt 0 d
set_option maxRecDepth 100000 in
theorem t_X12_puts_174 {G : G9} {l : Launch} (h1 : va_D (A9 G) (wl G (fun _ _ => 0))) (h2 : l.stackTraces = false) (p1 : Int) (d : D9) : MT G l yX12_puts cX12_puts 2 z_X12_puts_174 [rf G 174, i9 p1] d (m_X12_puts_174 p1 d) := by
  refine mt_of (own := RX12) (by decide) rfl (Nat.le_of_ble_eq_true rfl) h1 h2 [(0, rf G 174), (1, i9 p1)] rfl (fun X hX C => ?_)
  unfold m_X12_puts_174
  refine r_aload_n C 0 dX12_puts_0 rfl rfl ?_
  refine r_getI C dX12_puts_1 fl_X12_160 la_174 ly_174 rfl ?_
  refine r_if_eq C (b := 0) 8 dX12_puts_4 (by decide) (fun _ => ?_) (fun _ => ?_)
  · refine r_aload_n C 0 dX12_puts_8 rfl rfl ?_
    refine r_getR C 181 dX12_puts_9 fl_X12_33 la_174 ly_174 rfl rfl ?_
    refine r_aload_n C 0 dX12_puts_12 rfl rfl ?_
    refine r_getI C dX12_puts_13 fl_X12_232 la_174 ly_174 rfl ?_
    refine r_iload_n C 1 dX12_puts_16 rfl rfl ?_
    refine r_iast C dX12_puts_17 la_181 ly_181 (fun d1 => ?_)
    refine r_aload_n C 0 dX12_puts_18 rfl rfl ?_
    refine r_dup C dX12_puts_19 rfl ?_
    refine r_getI C dX12_puts_20 fl_X12_232 la_174 ly_174 rfl ?_
    refine r_iconst C dX12_puts_23 ?_
    refine r_iadd C dX12_puts_24 ?_
    refine r_putI C dX12_puts_25 fp_X12_232 la_174 ly_174 rfl (fun d2 => ?_)
    exact r_vret C dX12_puts_28 (by decide) (by decide)
  · exact r_vret C dX12_puts_7 (by decide) (by decide)
abbrev z_X12_isWord_174_s29 : Z9 := (some .boolean, 1, 0, 0, 8, 250)
def b_X12_isWord_174_s29_c39 (k_X12_isWord_174_s29_c39 : Int → Int → D9 → Option R9) (v2 v3 : Int) (d : D9) : Option R9 := if w32 v2 = 0 then rt (v2 % 2) d else if w32 2 ≤ w32 v3 then rt (v2 % 2) d else ld d 178 400 ((d 174 10) + v3) (fun t1 => sch 29 v3 (fun t2 => if w32 t1 ≠ w32 t2 then k_X12_isWord_174_s29_c39 0 (v3 + 1) d else k_X12_isWord_174_s29_c39 1 (v3 + 1) d))
def m_X12_isWord_174_s29_c39 : Int → Int → D9 → Option R9 := fix9 (fun _ _ _ => none) (fun k => b_X12_isWord_174_s29_c39 k) FU
def m_X12_isWord_174_s29 (d : D9) : Option R9 := if w32 (d 174 13) ≠ 0 then m_X12_isWord_174_s29_c39  0 0 d else if w32 (d 174 11) ≠ w32 1 then m_X12_isWord_174_s29_c39  0 0 d else if w32 ((d 174 9) - (d 174 10)) ≠ w32 2 then m_X12_isWord_174_s29_c39  0 0 d else m_X12_isWord_174_s29_c39  1 0 d
set_option maxRecDepth 100000 in
theorem sb_X12_isWord_174_s29_c39 {G : G9} {X : X9} (C : CX G X cX12_isWord 4 RX12 [] z_X12_isWord_174_s29) (k_X12_isWord_174_s29_c39 : Int → Int → D9 → Option R9) (hk_X12_isWord_174_s29_c39 : ∀ (v2 v3 : Int) (d : D9), SS G X 4 0 0 39 [(0, rf G 174), (1, sf G 29), (2, i9 v2), (3, i9 v3)] [] d (k_X12_isWord_174_s29_c39 v2 v3 d)) : ∀ (v2 v3 : Int) (d : D9), SS G X 4 0 0 39 [(0, rf G 174), (1, sf G 29), (2, i9 v2), (3, i9 v3)] [] d (b_X12_isWord_174_s29_c39 k_X12_isWord_174_s29_c39 v2 v3 d) := by
  intro v2 v3 d
  unfold b_X12_isWord_174_s29_c39
  refine r_iload_n C 2 dX12_isWord_39 rfl rfl ?_
  refine r_if_eq C (b := 0) 82 dX12_isWord_40 (by decide) (fun _ => ?_) (fun _ => ?_)
  · refine r_iload_n C 2 dX12_isWord_82 rfl rfl ?_
    exact r_zret C dX12_isWord_83 (by decide) (by decide)
  · refine r_iload_n C 3 dX12_isWord_43 rfl rfl ?_
    refine r_aload_nS C 1 dX12_isWord_44 rfl rfl ?_
    refine r_slen C 29 dX12_isWord_45 mw_X12_166 rfl (by decide) (Nat.le_of_ble_eq_true rfl) ?_
    refine r_icmp_ge C 82 dX12_isWord_48 (by decide) (fun _ => ?_) (fun _ => ?_)
    · refine r_iload_n C 2 dX12_isWord_82 rfl rfl ?_
      exact r_zret C dX12_isWord_83 (by decide) (by decide)
    · refine r_aload_n C 0 dX12_isWord_51 rfl rfl ?_
      refine r_getR C 178 dX12_isWord_52 fl_X12_20 la_174 ly_174 rfl rfl ?_
      refine r_aload_n C 0 dX12_isWord_55 rfl rfl ?_
      refine r_getI C dX12_isWord_56 fl_X12_142 la_174 ly_174 rfl ?_
      refine r_iload_n C 3 dX12_isWord_59 rfl rfl ?_
      refine r_iadd C dX12_isWord_60 ?_
      refine r_iald C dX12_isWord_61 la_178 ly_178 (fun t1 => ?_)
      refine r_aload_nS C 1 dX12_isWord_62 rfl rfl ?_
      refine r_iload_n C 3 dX12_isWord_63 rfl rfl ?_
      refine r_schar C 29 dX12_isWord_64 mw_X12_172 (by decide) (Nat.le_of_ble_eq_true rfl) (fun t2 => ?_)
      refine r_icmp_ne C 74 dX12_isWord_67 (by decide) (fun _ => ?_) (fun _ => ?_)
      · refine r_iconst C dX12_isWord_74 ?_
        refine r_istore_n C [(2, i9 0), (0, rf G 174), (1, sf G 29), (3, i9 v3)] dX12_isWord_75 rfl (by decide) rfl ?_
        refine r_iinc C 3 [(3, i9 (v3 + 1)), (2, i9 0), (0, rf G 174), (1, sf G 29)] dX12_isWord_76 rfl (by decide) rfl ?_
        refine r_goto C 39 dX12_isWord_79 (by decide) ?_
        refine ss_wide (k' := 0) (n' := 0) (by decide) (by decide) ?_
        refine ss_ls [(0, rf G 174), (1, sf G 29), (2, i9 0), (3, i9 (v3 + 1))] [2, 3, 1, 0] rfl ?_
        exact hk_X12_isWord_174_s29_c39 0 (v3 + 1) d
      · refine r_iconst C dX12_isWord_70 ?_
        refine r_goto C 75 dX12_isWord_71 (by decide) ?_
        refine r_istore_n C [(2, i9 1), (0, rf G 174), (1, sf G 29), (3, i9 v3)] dX12_isWord_75 rfl (by decide) rfl ?_
        refine r_iinc C 3 [(3, i9 (v3 + 1)), (2, i9 1), (0, rf G 174), (1, sf G 29)] dX12_isWord_76 rfl (by decide) rfl ?_
        refine r_goto C 39 dX12_isWord_79 (by decide) ?_
        refine ss_wide (k' := 0) (n' := 0) (by decide) (by decide) ?_
        refine ss_ls [(0, rf G 174), (1, sf G 29), (2, i9 1), (3, i9 (v3 + 1))] [2, 3, 1, 0] rfl ?_
        exact hk_X12_isWord_174_s29_c39 1 (v3 + 1) d
theorem s_X12_isWord_174_s29_c39 {G : G9} {X : X9} (C : CX G X cX12_isWord 4 RX12 [] z_X12_isWord_174_s29) : ∀ (v2 v3 : Int) (d : D9), SS G X 4 0 0 39 [(0, rf G 174), (1, sf G 29), (2, i9 v2), (3, i9 v3)] [] d (m_X12_isWord_174_s29_c39  v2 v3 d) :=
  fix9_ind (P := fun k => ∀ (v2 v3 : Int) (d : D9), SS G X 4 0 0 39 [(0, rf G 174), (1, sf G 29), (2, i9 v2), (3, i9 v3)] [] d (k v2 v3 d)) (fun _ _ _ => ss_none) (fun k hk => sb_X12_isWord_174_s29_c39 C k hk) FU
set_option maxRecDepth 100000 in
theorem t_X12_isWord_174_s29 {G : G9} {l : Launch} (h1 : va_D (A9 G) (wl G (fun _ _ => 0))) (h2 : l.stackTraces = false) (d : D9) : MT G l yX12_isWord cX12_isWord 4 z_X12_isWord_174_s29 [rf G 174, sf G 29] d (m_X12_isWord_174_s29  d) := by
  refine mt_of (own := RX12) (by decide) rfl (Nat.le_of_ble_eq_true rfl) h1 h2 [(0, rf G 174), (1, sf G 29)] rfl (fun X hX C => ?_)
  unfold m_X12_isWord_174_s29
  refine r_aload_n C 0 dX12_isWord_0 rfl rfl ?_
  refine r_getI C dX12_isWord_1 fl_X12_160 la_174 ly_174 rfl ?_
  refine r_if_ne C (b := 0) 35 dX12_isWord_4 (by decide) (fun _ => ?_) (fun _ => ?_)
  · refine r_iconst C dX12_isWord_35 ?_
    refine r_istore_n C [(2, i9 0), (0, rf G 174), (1, sf G 29)] dX12_isWord_36 rfl (by decide) rfl ?_
    refine r_iconst C dX12_isWord_37 ?_
    refine r_istore_n C [(3, i9 0), (2, i9 0), (0, rf G 174), (1, sf G 29)] dX12_isWord_38 rfl (by decide) rfl ?_
    refine ss_wide (k' := 0) (n' := 0) (by decide) (by decide) ?_
    refine ss_ls [(0, rf G 174), (1, sf G 29), (2, i9 0), (3, i9 0)] [2, 3, 1, 0] rfl ?_
    exact s_X12_isWord_174_s29_c39 C  0 0 d
  · refine r_aload_n C 0 dX12_isWord_7 rfl rfl ?_
    refine r_getI C dX12_isWord_8 fl_X12_145 la_174 ly_174 rfl ?_
    refine r_iconst C dX12_isWord_11 ?_
    refine r_icmp_ne C 35 dX12_isWord_12 (by decide) (fun _ => ?_) (fun _ => ?_)
    · refine r_iconst C dX12_isWord_35 ?_
      refine r_istore_n C [(2, i9 0), (0, rf G 174), (1, sf G 29)] dX12_isWord_36 rfl (by decide) rfl ?_
      refine r_iconst C dX12_isWord_37 ?_
      refine r_istore_n C [(3, i9 0), (2, i9 0), (0, rf G 174), (1, sf G 29)] dX12_isWord_38 rfl (by decide) rfl ?_
      refine ss_wide (k' := 0) (n' := 0) (by decide) (by decide) ?_
      refine ss_ls [(0, rf G 174), (1, sf G 29), (2, i9 0), (3, i9 0)] [2, 3, 1, 0] rfl ?_
      exact s_X12_isWord_174_s29_c39 C  0 0 d
    · refine r_aload_n C 0 dX12_isWord_15 rfl rfl ?_
      refine r_getI C dX12_isWord_16 fl_X12_139 la_174 ly_174 rfl ?_
      refine r_aload_n C 0 dX12_isWord_19 rfl rfl ?_
      refine r_getI C dX12_isWord_20 fl_X12_142 la_174 ly_174 rfl ?_
      refine r_isub C dX12_isWord_23 ?_
      refine r_aload_nS C 1 dX12_isWord_24 rfl rfl ?_
      refine r_slen C 29 dX12_isWord_25 mw_X12_166 rfl (by decide) (Nat.le_of_ble_eq_true rfl) ?_
      refine r_icmp_ne C 35 dX12_isWord_28 (by decide) (fun _ => ?_) (fun _ => ?_)
      · refine r_iconst C dX12_isWord_35 ?_
        refine r_istore_n C [(2, i9 0), (0, rf G 174), (1, sf G 29)] dX12_isWord_36 rfl (by decide) rfl ?_
        refine r_iconst C dX12_isWord_37 ?_
        refine r_istore_n C [(3, i9 0), (2, i9 0), (0, rf G 174), (1, sf G 29)] dX12_isWord_38 rfl (by decide) rfl ?_
        refine ss_wide (k' := 0) (n' := 0) (by decide) (by decide) ?_
        refine ss_ls [(0, rf G 174), (1, sf G 29), (2, i9 0), (3, i9 0)] [2, 3, 1, 0] rfl ?_
        exact s_X12_isWord_174_s29_c39 C  0 0 d
      · refine r_iconst C dX12_isWord_31 ?_
        refine r_goto C 36 dX12_isWord_32 (by decide) ?_
        refine r_istore_n C [(2, i9 1), (0, rf G 174), (1, sf G 29)] dX12_isWord_36 rfl (by decide) rfl ?_
        refine r_iconst C dX12_isWord_37 ?_
        refine r_istore_n C [(3, i9 0), (2, i9 1), (0, rf G 174), (1, sf G 29)] dX12_isWord_38 rfl (by decide) rfl ?_
        refine ss_wide (k' := 0) (n' := 0) (by decide) (by decide) ?_
        refine ss_ls [(0, rf G 174), (1, sf G 29), (2, i9 1), (3, i9 0)] [2, 3, 1, 0] rfl ?_
        exact s_X12_isWord_174_s29_c39 C  1 0 d
abbrev z_X12_isWord_174_s38 : Z9 := (some .boolean, 1, 0, 0, 8, 250)
def b_X12_isWord_174_s38_c39 (k_X12_isWord_174_s38_c39 : Int → Int → D9 → Option R9) (v2 v3 : Int) (d : D9) : Option R9 := if w32 v2 = 0 then rt (v2 % 2) d else if w32 3 ≤ w32 v3 then rt (v2 % 2) d else ld d 178 400 ((d 174 10) + v3) (fun t1 => sch 38 v3 (fun t2 => if w32 t1 ≠ w32 t2 then k_X12_isWord_174_s38_c39 0 (v3 + 1) d else k_X12_isWord_174_s38_c39 1 (v3 + 1) d))
def m_X12_isWord_174_s38_c39 : Int → Int → D9 → Option R9 := fix9 (fun _ _ _ => none) (fun k => b_X12_isWord_174_s38_c39 k) FU
def m_X12_isWord_174_s38 (d : D9) : Option R9 := if w32 (d 174 13) ≠ 0 then m_X12_isWord_174_s38_c39  0 0 d else if w32 (d 174 11) ≠ w32 1 then m_X12_isWord_174_s38_c39  0 0 d else if w32 ((d 174 9) - (d 174 10)) ≠ w32 3 then m_X12_isWord_174_s38_c39  0 0 d else m_X12_isWord_174_s38_c39  1 0 d
set_option maxRecDepth 100000 in
theorem sb_X12_isWord_174_s38_c39 {G : G9} {X : X9} (C : CX G X cX12_isWord 4 RX12 [] z_X12_isWord_174_s38) (k_X12_isWord_174_s38_c39 : Int → Int → D9 → Option R9) (hk_X12_isWord_174_s38_c39 : ∀ (v2 v3 : Int) (d : D9), SS G X 4 0 0 39 [(0, rf G 174), (1, sf G 38), (2, i9 v2), (3, i9 v3)] [] d (k_X12_isWord_174_s38_c39 v2 v3 d)) : ∀ (v2 v3 : Int) (d : D9), SS G X 4 0 0 39 [(0, rf G 174), (1, sf G 38), (2, i9 v2), (3, i9 v3)] [] d (b_X12_isWord_174_s38_c39 k_X12_isWord_174_s38_c39 v2 v3 d) := by
  intro v2 v3 d
  unfold b_X12_isWord_174_s38_c39
  refine r_iload_n C 2 dX12_isWord_39 rfl rfl ?_
  refine r_if_eq C (b := 0) 82 dX12_isWord_40 (by decide) (fun _ => ?_) (fun _ => ?_)
  · refine r_iload_n C 2 dX12_isWord_82 rfl rfl ?_
    exact r_zret C dX12_isWord_83 (by decide) (by decide)
  · refine r_iload_n C 3 dX12_isWord_43 rfl rfl ?_
    refine r_aload_nS C 1 dX12_isWord_44 rfl rfl ?_
    refine r_slen C 38 dX12_isWord_45 mw_X12_166 rfl (by decide) (Nat.le_of_ble_eq_true rfl) ?_
    refine r_icmp_ge C 82 dX12_isWord_48 (by decide) (fun _ => ?_) (fun _ => ?_)
    · refine r_iload_n C 2 dX12_isWord_82 rfl rfl ?_
      exact r_zret C dX12_isWord_83 (by decide) (by decide)
    · refine r_aload_n C 0 dX12_isWord_51 rfl rfl ?_
      refine r_getR C 178 dX12_isWord_52 fl_X12_20 la_174 ly_174 rfl rfl ?_
      refine r_aload_n C 0 dX12_isWord_55 rfl rfl ?_
      refine r_getI C dX12_isWord_56 fl_X12_142 la_174 ly_174 rfl ?_
      refine r_iload_n C 3 dX12_isWord_59 rfl rfl ?_
      refine r_iadd C dX12_isWord_60 ?_
      refine r_iald C dX12_isWord_61 la_178 ly_178 (fun t1 => ?_)
      refine r_aload_nS C 1 dX12_isWord_62 rfl rfl ?_
      refine r_iload_n C 3 dX12_isWord_63 rfl rfl ?_
      refine r_schar C 38 dX12_isWord_64 mw_X12_172 (by decide) (Nat.le_of_ble_eq_true rfl) (fun t2 => ?_)
      refine r_icmp_ne C 74 dX12_isWord_67 (by decide) (fun _ => ?_) (fun _ => ?_)
      · refine r_iconst C dX12_isWord_74 ?_
        refine r_istore_n C [(2, i9 0), (0, rf G 174), (1, sf G 38), (3, i9 v3)] dX12_isWord_75 rfl (by decide) rfl ?_
        refine r_iinc C 3 [(3, i9 (v3 + 1)), (2, i9 0), (0, rf G 174), (1, sf G 38)] dX12_isWord_76 rfl (by decide) rfl ?_
        refine r_goto C 39 dX12_isWord_79 (by decide) ?_
        refine ss_wide (k' := 0) (n' := 0) (by decide) (by decide) ?_
        refine ss_ls [(0, rf G 174), (1, sf G 38), (2, i9 0), (3, i9 (v3 + 1))] [2, 3, 1, 0] rfl ?_
        exact hk_X12_isWord_174_s38_c39 0 (v3 + 1) d
      · refine r_iconst C dX12_isWord_70 ?_
        refine r_goto C 75 dX12_isWord_71 (by decide) ?_
        refine r_istore_n C [(2, i9 1), (0, rf G 174), (1, sf G 38), (3, i9 v3)] dX12_isWord_75 rfl (by decide) rfl ?_
        refine r_iinc C 3 [(3, i9 (v3 + 1)), (2, i9 1), (0, rf G 174), (1, sf G 38)] dX12_isWord_76 rfl (by decide) rfl ?_
        refine r_goto C 39 dX12_isWord_79 (by decide) ?_
        refine ss_wide (k' := 0) (n' := 0) (by decide) (by decide) ?_
        refine ss_ls [(0, rf G 174), (1, sf G 38), (2, i9 1), (3, i9 (v3 + 1))] [2, 3, 1, 0] rfl ?_
        exact hk_X12_isWord_174_s38_c39 1 (v3 + 1) d
theorem s_X12_isWord_174_s38_c39 {G : G9} {X : X9} (C : CX G X cX12_isWord 4 RX12 [] z_X12_isWord_174_s38) : ∀ (v2 v3 : Int) (d : D9), SS G X 4 0 0 39 [(0, rf G 174), (1, sf G 38), (2, i9 v2), (3, i9 v3)] [] d (m_X12_isWord_174_s38_c39  v2 v3 d) :=
  fix9_ind (P := fun k => ∀ (v2 v3 : Int) (d : D9), SS G X 4 0 0 39 [(0, rf G 174), (1, sf G 38), (2, i9 v2), (3, i9 v3)] [] d (k v2 v3 d)) (fun _ _ _ => ss_none) (fun k hk => sb_X12_isWord_174_s38_c39 C k hk) FU
set_option maxRecDepth 100000 in
theorem t_X12_isWord_174_s38 {G : G9} {l : Launch} (h1 : va_D (A9 G) (wl G (fun _ _ => 0))) (h2 : l.stackTraces = false) (d : D9) : MT G l yX12_isWord cX12_isWord 4 z_X12_isWord_174_s38 [rf G 174, sf G 38] d (m_X12_isWord_174_s38  d) := by
  refine mt_of (own := RX12) (by decide) rfl (Nat.le_of_ble_eq_true rfl) h1 h2 [(0, rf G 174), (1, sf G 38)] rfl (fun X hX C => ?_)
  unfold m_X12_isWord_174_s38
  refine r_aload_n C 0 dX12_isWord_0 rfl rfl ?_
  refine r_getI C dX12_isWord_1 fl_X12_160 la_174 ly_174 rfl ?_
  refine r_if_ne C (b := 0) 35 dX12_isWord_4 (by decide) (fun _ => ?_) (fun _ => ?_)
  · refine r_iconst C dX12_isWord_35 ?_
    refine r_istore_n C [(2, i9 0), (0, rf G 174), (1, sf G 38)] dX12_isWord_36 rfl (by decide) rfl ?_
    refine r_iconst C dX12_isWord_37 ?_
    refine r_istore_n C [(3, i9 0), (2, i9 0), (0, rf G 174), (1, sf G 38)] dX12_isWord_38 rfl (by decide) rfl ?_
    refine ss_wide (k' := 0) (n' := 0) (by decide) (by decide) ?_
    refine ss_ls [(0, rf G 174), (1, sf G 38), (2, i9 0), (3, i9 0)] [2, 3, 1, 0] rfl ?_
    exact s_X12_isWord_174_s38_c39 C  0 0 d
  · refine r_aload_n C 0 dX12_isWord_7 rfl rfl ?_
    refine r_getI C dX12_isWord_8 fl_X12_145 la_174 ly_174 rfl ?_
    refine r_iconst C dX12_isWord_11 ?_
    refine r_icmp_ne C 35 dX12_isWord_12 (by decide) (fun _ => ?_) (fun _ => ?_)
    · refine r_iconst C dX12_isWord_35 ?_
      refine r_istore_n C [(2, i9 0), (0, rf G 174), (1, sf G 38)] dX12_isWord_36 rfl (by decide) rfl ?_
      refine r_iconst C dX12_isWord_37 ?_
      refine r_istore_n C [(3, i9 0), (2, i9 0), (0, rf G 174), (1, sf G 38)] dX12_isWord_38 rfl (by decide) rfl ?_
      refine ss_wide (k' := 0) (n' := 0) (by decide) (by decide) ?_
      refine ss_ls [(0, rf G 174), (1, sf G 38), (2, i9 0), (3, i9 0)] [2, 3, 1, 0] rfl ?_
      exact s_X12_isWord_174_s38_c39 C  0 0 d
    · refine r_aload_n C 0 dX12_isWord_15 rfl rfl ?_
      refine r_getI C dX12_isWord_16 fl_X12_139 la_174 ly_174 rfl ?_
      refine r_aload_n C 0 dX12_isWord_19 rfl rfl ?_
      refine r_getI C dX12_isWord_20 fl_X12_142 la_174 ly_174 rfl ?_
      refine r_isub C dX12_isWord_23 ?_
      refine r_aload_nS C 1 dX12_isWord_24 rfl rfl ?_
      refine r_slen C 38 dX12_isWord_25 mw_X12_166 rfl (by decide) (Nat.le_of_ble_eq_true rfl) ?_
      refine r_icmp_ne C 35 dX12_isWord_28 (by decide) (fun _ => ?_) (fun _ => ?_)
      · refine r_iconst C dX12_isWord_35 ?_
        refine r_istore_n C [(2, i9 0), (0, rf G 174), (1, sf G 38)] dX12_isWord_36 rfl (by decide) rfl ?_
        refine r_iconst C dX12_isWord_37 ?_
        refine r_istore_n C [(3, i9 0), (2, i9 0), (0, rf G 174), (1, sf G 38)] dX12_isWord_38 rfl (by decide) rfl ?_
        refine ss_wide (k' := 0) (n' := 0) (by decide) (by decide) ?_
        refine ss_ls [(0, rf G 174), (1, sf G 38), (2, i9 0), (3, i9 0)] [2, 3, 1, 0] rfl ?_
        exact s_X12_isWord_174_s38_c39 C  0 0 d
      · refine r_iconst C dX12_isWord_31 ?_
        refine r_goto C 36 dX12_isWord_32 (by decide) ?_
        refine r_istore_n C [(2, i9 1), (0, rf G 174), (1, sf G 38)] dX12_isWord_36 rfl (by decide) rfl ?_
        refine r_iconst C dX12_isWord_37 ?_
        refine r_istore_n C [(3, i9 0), (2, i9 1), (0, rf G 174), (1, sf G 38)] dX12_isWord_38 rfl (by decide) rfl ?_
        refine ss_wide (k' := 0) (n' := 0) (by decide) (by decide) ?_
        refine ss_ls [(0, rf G 174), (1, sf G 38), (2, i9 1), (3, i9 0)] [2, 3, 1, 0] rfl ?_
        exact s_X12_isWord_174_s38_c39 C  1 0 d
theorem dX12_readPart_0 : decode cX12_readPart 0 = .ok (.aload_n 0, 1) := by decide +kernel
theorem dX12_readPart_1 : decode cX12_readPart 1 = .ok (.invokevirtual 243, 3) := by decide +kernel
theorem dX12_readPart_4 : decode cX12_readPart 4 = .ok (.aload_n 0, 1) := by decide +kernel
theorem dX12_readPart_5 : decode cX12_readPart 5 = .ok (.ldc_w 266, 3) := by decide +kernel
theorem dX12_readPart_8 : decode cX12_readPart 8 = .ok (.invokevirtual 183, 3) := by decide +kernel
theorem dX12_readPart_11 : decode cX12_readPart 11 = .ok (.ifCond .eq 20, 3) := by decide +kernel
theorem dX12_readPart_14 : decode cX12_readPart 14 = .ok (.aload_n 0, 1) := by decide +kernel
theorem dX12_readPart_15 : decode cX12_readPart 15 = .ok (.invokevirtual 180, 3) := by decide +kernel
theorem dX12_readPart_18 : decode cX12_readPart 18 = .ok (.aload_n 0, 1) := by decide +kernel
theorem dX12_readPart_19 : decode cX12_readPart 19 = .ok (.invokevirtual 243, 3) := by decide +kernel
theorem dX12_readPart_22 : decode cX12_readPart 22 = .ok (.aload_n 0, 1) := by decide +kernel
theorem dX12_readPart_23 : decode cX12_readPart 23 = .ok (.bipush 8, 2) := by decide +kernel
theorem dX12_readPart_25 : decode cX12_readPart 25 = .ok (.invokevirtual 246, 3) := by decide +kernel
theorem dX12_readPart_28 : decode cX12_readPart 28 = .ok (.goto (-24), 3) := by decide +kernel
theorem dX12_readPart_31 : decode cX12_readPart 31 = .ok (.return_, 1) := by decide +kernel
abbrev z_X12_readPart_174 (n9 : Nat) : Z9 := (none, 0, 0, 0, 15 + 4 * n9, 550 + 200 * n9)
abbrev z_X12_readTest_174 (n9 : Nat) : Z9 := (none, 0, 0, 0, 16 + 4 * n9, 600 + 200 * n9)
abbrev z_X12_readFact_174 (n9 : Nat) : Z9 := (none, 0, 0, 0, 14 + 4 * n9, 500 + 200 * n9)
def b_X12_readPart_174_c4 (kF : D9 → Option R9) (k_X12_readPart_174_c4 : D9 → Option R9) (d : D9) : Option R9 := cl (m_X12_isWord_174_s38 d) (fun r1 d2 => if w32 r1 = 0 then rt 0 d2 else cl (m_X12_next_174 d2) (fun r3 d4 => cl (kF d4) (fun r5 d6 => cl (m_X12_puts_174 8 d6) (fun r7 d8 => k_X12_readPart_174_c4  d8))))
def m_X12_readPart_174_c4 (kF : D9 → Option R9) : D9 → Option R9 := fix9 (fun _ => none) (fun k => b_X12_readPart_174_c4 kF k) FU
def m_X12_readPart_174 (kF : D9 → Option R9) (d : D9) : Option R9 := cl (kF d) (fun r1 d2 => m_X12_readPart_174_c4 kF   d2)
set_option maxRecDepth 100000 in
theorem sb_X12_readPart_174_c4 {G : G9} {X : X9} {n9 : Nat} (C : CX G X cX12_readPart 1 RX12 [] (z_X12_readPart_174 n9)) (kF : D9 → Option R9) (hkF : ∀ {l : Launch}, l.stackTraces = false → ∀ (d : D9), MT G l yX12_readFact cX12_readFact 2 (z_X12_readFact_174 n9) [rf G 174] d (kF d)) (k_X12_readPart_174_c4 : D9 → Option R9) (hk_X12_readPart_174_c4 : ∀ (d : D9), SS G X 1 0 0 4 [(0, rf G 174)] [] d (k_X12_readPart_174_c4  d)) : ∀ (d : D9), SS G X 1 0 0 4 [(0, rf G 174)] [] d (b_X12_readPart_174_c4 kF k_X12_readPart_174_c4  d) := by
  intro  d
  unfold b_X12_readPart_174_c4
  refine r_aload_n C 0 dX12_readPart_4 rfl rfl ?_
  refine r_ldcSW C 38 dX12_readPart_5 rfl ?_
  refine r_callV C [sf G 38, rf G 174] dX12_readPart_8 (t_X12_isWord_174_s38 C.h1 C.h2 d) mw_X12_183 mv_X12_isWord la_174 ly_174 rfl ⟨(show 8 + 1 ≤ (15 + 4 * n9) by omega), (show 8 + (4 + 11) + 250 ≤ (550 + 200 * n9) by omega)⟩ (Nat.le_of_ble_eq_true rfl) (Nat.le_of_ble_eq_true rfl) rfl rfl (Nat.le_of_ble_eq_true rfl) (fun r1 d2 => ?_)
  show SS G X 1 _ _ 11 [(0, rf G 174)] [i9 r1] d2 _
  refine r_if_eq C (b := 0) 31 dX12_readPart_11 (by decide) (fun _ => ?_) (fun _ => ?_)
  · exact r_vret C dX12_readPart_31 (Nat.le_of_ble_eq_true rfl) (Nat.le_of_ble_eq_true rfl)
  · refine r_aload_n C 0 dX12_readPart_14 rfl rfl ?_
    refine r_callV C [rf G 174] dX12_readPart_15 (t_X12_next_174 C.h1 C.h2 d2) mw_X12_180 mv_X12_next la_174 ly_174 rfl ⟨(show 2 + 1 ≤ (15 + 4 * n9) by omega), (show 8 + (2 + 11) + 21 ≤ (550 + 200 * n9) by omega)⟩ (Nat.le_of_ble_eq_true rfl) (Nat.le_of_ble_eq_true rfl) rfl rfl (Nat.le_of_ble_eq_true rfl) (fun r3 d4 => ?_)
    show SS G X 1 _ _ 18 [(0, rf G 174)] [] d4 _
    refine r_aload_n C 0 dX12_readPart_18 rfl rfl ?_
    refine r_callV C [rf G 174] dX12_readPart_19 (hkF C.h2 d4) mw_X12_243 mv_X12_readFact la_174 ly_174 rfl ⟨(show (14 + 4 * n9) + 1 ≤ (15 + 4 * n9) by omega), (show 8 + (2 + 11) + (500 + 200 * n9) ≤ (550 + 200 * n9) by omega)⟩ (Nat.le_of_ble_eq_true rfl) (Nat.le_of_ble_eq_true rfl) rfl rfl (Nat.le_of_ble_eq_true rfl) (fun r5 d6 => ?_)
    show SS G X 1 _ _ 22 [(0, rf G 174)] [] d6 _
    refine r_aload_n C 0 dX12_readPart_22 rfl rfl ?_
    refine r_bipush C dX12_readPart_23 rfl ?_
    refine r_callV C [i9 8, rf G 174] dX12_readPart_25 (t_X12_puts_174 C.h1 C.h2 8 d6) mw_X12_246 mv_X12_puts la_174 ly_174 rfl ⟨(show 1 + 1 ≤ (15 + 4 * n9) by omega), (show 8 + (2 + 11) + 0 ≤ (550 + 200 * n9) by omega)⟩ (Nat.le_of_ble_eq_true rfl) (Nat.le_of_ble_eq_true rfl) rfl rfl (Nat.le_of_ble_eq_true rfl) (fun r7 d8 => ?_)
    show SS G X 1 _ _ 28 [(0, rf G 174)] [] d8 _
    refine r_goto C 4 dX12_readPart_28 (by decide) ?_
    refine ss_wide (k' := 0) (n' := 0) (Nat.le_of_ble_eq_true rfl) (Nat.le_of_ble_eq_true rfl) ?_
    refine ss_ls [(0, rf G 174)] [0] rfl ?_
    exact hk_X12_readPart_174_c4  d8
theorem s_X12_readPart_174_c4 {G : G9} {X : X9} {n9 : Nat} (C : CX G X cX12_readPart 1 RX12 [] (z_X12_readPart_174 n9)) (kF : D9 → Option R9) (hkF : ∀ {l : Launch}, l.stackTraces = false → ∀ (d : D9), MT G l yX12_readFact cX12_readFact 2 (z_X12_readFact_174 n9) [rf G 174] d (kF d)) : ∀ (d : D9), SS G X 1 0 0 4 [(0, rf G 174)] [] d (m_X12_readPart_174_c4 kF   d) :=
  fix9_ind (P := fun k => ∀ (d : D9), SS G X 1 0 0 4 [(0, rf G 174)] [] d (k  d)) (fun _ => ss_none) (fun k hk => sb_X12_readPart_174_c4 C kF hkF k hk) FU
set_option maxRecDepth 100000 in
theorem t_X12_readPart_174 {G : G9} {l : Launch} (h1 : va_D (A9 G) (wl G (fun _ _ => 0))) (n9 : Nat) (kF : D9 → Option R9) (hkF : ∀ {l : Launch}, l.stackTraces = false → ∀ (d : D9), MT G l yX12_readFact cX12_readFact 2 (z_X12_readFact_174 n9) [rf G 174] d (kF d)) (h2 : l.stackTraces = false) (d : D9) : MT G l yX12_readPart cX12_readPart 1 (z_X12_readPart_174 n9) [rf G 174] d (m_X12_readPart_174 kF  d) := by
  refine mt_of (own := RX12) (by decide) rfl (Nat.le_of_ble_eq_true rfl) h1 h2 [(0, rf G 174)] rfl (fun X hX C => ?_)
  unfold m_X12_readPart_174
  refine r_aload_n C 0 dX12_readPart_0 rfl rfl ?_
  refine r_callV C [rf G 174] dX12_readPart_1 (hkF C.h2 d) mw_X12_243 mv_X12_readFact la_174 ly_174 rfl ⟨(show (14 + 4 * n9) + 1 ≤ (15 + 4 * n9) by omega), (show 8 + (2 + 11) + (500 + 200 * n9) ≤ (550 + 200 * n9) by omega)⟩ (Nat.le_of_ble_eq_true rfl) (Nat.le_of_ble_eq_true rfl) rfl rfl (Nat.le_of_ble_eq_true rfl) (fun r1 d2 => ?_)
  show SS G X 1 _ _ 4 [(0, rf G 174)] [] d2 _
  refine ss_wide (k' := 0) (n' := 0) (Nat.le_of_ble_eq_true rfl) (Nat.le_of_ble_eq_true rfl) ?_
  refine ss_ls [(0, rf G 174)] [0] rfl ?_
  exact s_X12_readPart_174_c4 C kF hkF   d2
abbrev z_X12_isWord_174_s39 : Z9 := (some .boolean, 1, 0, 0, 8, 250)
def b_X12_isWord_174_s39_c39 (k_X12_isWord_174_s39_c39 : Int → Int → D9 → Option R9) (v2 v3 : Int) (d : D9) : Option R9 := if w32 v2 = 0 then rt (v2 % 2) d else if w32 2 ≤ w32 v3 then rt (v2 % 2) d else ld d 178 400 ((d 174 10) + v3) (fun t1 => sch 39 v3 (fun t2 => if w32 t1 ≠ w32 t2 then k_X12_isWord_174_s39_c39 0 (v3 + 1) d else k_X12_isWord_174_s39_c39 1 (v3 + 1) d))
def m_X12_isWord_174_s39_c39 : Int → Int → D9 → Option R9 := fix9 (fun _ _ _ => none) (fun k => b_X12_isWord_174_s39_c39 k) FU
def m_X12_isWord_174_s39 (d : D9) : Option R9 := if w32 (d 174 13) ≠ 0 then m_X12_isWord_174_s39_c39  0 0 d else if w32 (d 174 11) ≠ w32 1 then m_X12_isWord_174_s39_c39  0 0 d else if w32 ((d 174 9) - (d 174 10)) ≠ w32 2 then m_X12_isWord_174_s39_c39  0 0 d else m_X12_isWord_174_s39_c39  1 0 d
set_option maxRecDepth 100000 in
theorem sb_X12_isWord_174_s39_c39 {G : G9} {X : X9} (C : CX G X cX12_isWord 4 RX12 [] z_X12_isWord_174_s39) (k_X12_isWord_174_s39_c39 : Int → Int → D9 → Option R9) (hk_X12_isWord_174_s39_c39 : ∀ (v2 v3 : Int) (d : D9), SS G X 4 0 0 39 [(0, rf G 174), (1, sf G 39), (2, i9 v2), (3, i9 v3)] [] d (k_X12_isWord_174_s39_c39 v2 v3 d)) : ∀ (v2 v3 : Int) (d : D9), SS G X 4 0 0 39 [(0, rf G 174), (1, sf G 39), (2, i9 v2), (3, i9 v3)] [] d (b_X12_isWord_174_s39_c39 k_X12_isWord_174_s39_c39 v2 v3 d) := by
  intro v2 v3 d
  unfold b_X12_isWord_174_s39_c39
  refine r_iload_n C 2 dX12_isWord_39 rfl rfl ?_
  refine r_if_eq C (b := 0) 82 dX12_isWord_40 (by decide) (fun _ => ?_) (fun _ => ?_)
  · refine r_iload_n C 2 dX12_isWord_82 rfl rfl ?_
    exact r_zret C dX12_isWord_83 (by decide) (by decide)
  · refine r_iload_n C 3 dX12_isWord_43 rfl rfl ?_
    refine r_aload_nS C 1 dX12_isWord_44 rfl rfl ?_
    refine r_slen C 39 dX12_isWord_45 mw_X12_166 rfl (by decide) (Nat.le_of_ble_eq_true rfl) ?_
    refine r_icmp_ge C 82 dX12_isWord_48 (by decide) (fun _ => ?_) (fun _ => ?_)
    · refine r_iload_n C 2 dX12_isWord_82 rfl rfl ?_
      exact r_zret C dX12_isWord_83 (by decide) (by decide)
    · refine r_aload_n C 0 dX12_isWord_51 rfl rfl ?_
      refine r_getR C 178 dX12_isWord_52 fl_X12_20 la_174 ly_174 rfl rfl ?_
      refine r_aload_n C 0 dX12_isWord_55 rfl rfl ?_
      refine r_getI C dX12_isWord_56 fl_X12_142 la_174 ly_174 rfl ?_
      refine r_iload_n C 3 dX12_isWord_59 rfl rfl ?_
      refine r_iadd C dX12_isWord_60 ?_
      refine r_iald C dX12_isWord_61 la_178 ly_178 (fun t1 => ?_)
      refine r_aload_nS C 1 dX12_isWord_62 rfl rfl ?_
      refine r_iload_n C 3 dX12_isWord_63 rfl rfl ?_
      refine r_schar C 39 dX12_isWord_64 mw_X12_172 (by decide) (Nat.le_of_ble_eq_true rfl) (fun t2 => ?_)
      refine r_icmp_ne C 74 dX12_isWord_67 (by decide) (fun _ => ?_) (fun _ => ?_)
      · refine r_iconst C dX12_isWord_74 ?_
        refine r_istore_n C [(2, i9 0), (0, rf G 174), (1, sf G 39), (3, i9 v3)] dX12_isWord_75 rfl (by decide) rfl ?_
        refine r_iinc C 3 [(3, i9 (v3 + 1)), (2, i9 0), (0, rf G 174), (1, sf G 39)] dX12_isWord_76 rfl (by decide) rfl ?_
        refine r_goto C 39 dX12_isWord_79 (by decide) ?_
        refine ss_wide (k' := 0) (n' := 0) (by decide) (by decide) ?_
        refine ss_ls [(0, rf G 174), (1, sf G 39), (2, i9 0), (3, i9 (v3 + 1))] [2, 3, 1, 0] rfl ?_
        exact hk_X12_isWord_174_s39_c39 0 (v3 + 1) d
      · refine r_iconst C dX12_isWord_70 ?_
        refine r_goto C 75 dX12_isWord_71 (by decide) ?_
        refine r_istore_n C [(2, i9 1), (0, rf G 174), (1, sf G 39), (3, i9 v3)] dX12_isWord_75 rfl (by decide) rfl ?_
        refine r_iinc C 3 [(3, i9 (v3 + 1)), (2, i9 1), (0, rf G 174), (1, sf G 39)] dX12_isWord_76 rfl (by decide) rfl ?_
        refine r_goto C 39 dX12_isWord_79 (by decide) ?_
        refine ss_wide (k' := 0) (n' := 0) (by decide) (by decide) ?_
        refine ss_ls [(0, rf G 174), (1, sf G 39), (2, i9 1), (3, i9 (v3 + 1))] [2, 3, 1, 0] rfl ?_
        exact hk_X12_isWord_174_s39_c39 1 (v3 + 1) d
theorem s_X12_isWord_174_s39_c39 {G : G9} {X : X9} (C : CX G X cX12_isWord 4 RX12 [] z_X12_isWord_174_s39) : ∀ (v2 v3 : Int) (d : D9), SS G X 4 0 0 39 [(0, rf G 174), (1, sf G 39), (2, i9 v2), (3, i9 v3)] [] d (m_X12_isWord_174_s39_c39  v2 v3 d) :=
  fix9_ind (P := fun k => ∀ (v2 v3 : Int) (d : D9), SS G X 4 0 0 39 [(0, rf G 174), (1, sf G 39), (2, i9 v2), (3, i9 v3)] [] d (k v2 v3 d)) (fun _ _ _ => ss_none) (fun k hk => sb_X12_isWord_174_s39_c39 C k hk) FU
set_option maxRecDepth 100000 in
theorem t_X12_isWord_174_s39 {G : G9} {l : Launch} (h1 : va_D (A9 G) (wl G (fun _ _ => 0))) (h2 : l.stackTraces = false) (d : D9) : MT G l yX12_isWord cX12_isWord 4 z_X12_isWord_174_s39 [rf G 174, sf G 39] d (m_X12_isWord_174_s39  d) := by
  refine mt_of (own := RX12) (by decide) rfl (Nat.le_of_ble_eq_true rfl) h1 h2 [(0, rf G 174), (1, sf G 39)] rfl (fun X hX C => ?_)
  unfold m_X12_isWord_174_s39
  refine r_aload_n C 0 dX12_isWord_0 rfl rfl ?_
  refine r_getI C dX12_isWord_1 fl_X12_160 la_174 ly_174 rfl ?_
  refine r_if_ne C (b := 0) 35 dX12_isWord_4 (by decide) (fun _ => ?_) (fun _ => ?_)
  · refine r_iconst C dX12_isWord_35 ?_
    refine r_istore_n C [(2, i9 0), (0, rf G 174), (1, sf G 39)] dX12_isWord_36 rfl (by decide) rfl ?_
    refine r_iconst C dX12_isWord_37 ?_
    refine r_istore_n C [(3, i9 0), (2, i9 0), (0, rf G 174), (1, sf G 39)] dX12_isWord_38 rfl (by decide) rfl ?_
    refine ss_wide (k' := 0) (n' := 0) (by decide) (by decide) ?_
    refine ss_ls [(0, rf G 174), (1, sf G 39), (2, i9 0), (3, i9 0)] [2, 3, 1, 0] rfl ?_
    exact s_X12_isWord_174_s39_c39 C  0 0 d
  · refine r_aload_n C 0 dX12_isWord_7 rfl rfl ?_
    refine r_getI C dX12_isWord_8 fl_X12_145 la_174 ly_174 rfl ?_
    refine r_iconst C dX12_isWord_11 ?_
    refine r_icmp_ne C 35 dX12_isWord_12 (by decide) (fun _ => ?_) (fun _ => ?_)
    · refine r_iconst C dX12_isWord_35 ?_
      refine r_istore_n C [(2, i9 0), (0, rf G 174), (1, sf G 39)] dX12_isWord_36 rfl (by decide) rfl ?_
      refine r_iconst C dX12_isWord_37 ?_
      refine r_istore_n C [(3, i9 0), (2, i9 0), (0, rf G 174), (1, sf G 39)] dX12_isWord_38 rfl (by decide) rfl ?_
      refine ss_wide (k' := 0) (n' := 0) (by decide) (by decide) ?_
      refine ss_ls [(0, rf G 174), (1, sf G 39), (2, i9 0), (3, i9 0)] [2, 3, 1, 0] rfl ?_
      exact s_X12_isWord_174_s39_c39 C  0 0 d
    · refine r_aload_n C 0 dX12_isWord_15 rfl rfl ?_
      refine r_getI C dX12_isWord_16 fl_X12_139 la_174 ly_174 rfl ?_
      refine r_aload_n C 0 dX12_isWord_19 rfl rfl ?_
      refine r_getI C dX12_isWord_20 fl_X12_142 la_174 ly_174 rfl ?_
      refine r_isub C dX12_isWord_23 ?_
      refine r_aload_nS C 1 dX12_isWord_24 rfl rfl ?_
      refine r_slen C 39 dX12_isWord_25 mw_X12_166 rfl (by decide) (Nat.le_of_ble_eq_true rfl) ?_
      refine r_icmp_ne C 35 dX12_isWord_28 (by decide) (fun _ => ?_) (fun _ => ?_)
      · refine r_iconst C dX12_isWord_35 ?_
        refine r_istore_n C [(2, i9 0), (0, rf G 174), (1, sf G 39)] dX12_isWord_36 rfl (by decide) rfl ?_
        refine r_iconst C dX12_isWord_37 ?_
        refine r_istore_n C [(3, i9 0), (2, i9 0), (0, rf G 174), (1, sf G 39)] dX12_isWord_38 rfl (by decide) rfl ?_
        refine ss_wide (k' := 0) (n' := 0) (by decide) (by decide) ?_
        refine ss_ls [(0, rf G 174), (1, sf G 39), (2, i9 0), (3, i9 0)] [2, 3, 1, 0] rfl ?_
        exact s_X12_isWord_174_s39_c39 C  0 0 d
      · refine r_iconst C dX12_isWord_31 ?_
        refine r_goto C 36 dX12_isWord_32 (by decide) ?_
        refine r_istore_n C [(2, i9 1), (0, rf G 174), (1, sf G 39)] dX12_isWord_36 rfl (by decide) rfl ?_
        refine r_iconst C dX12_isWord_37 ?_
        refine r_istore_n C [(3, i9 0), (2, i9 1), (0, rf G 174), (1, sf G 39)] dX12_isWord_38 rfl (by decide) rfl ?_
        refine ss_wide (k' := 0) (n' := 0) (by decide) (by decide) ?_
        refine ss_ls [(0, rf G 174), (1, sf G 39), (2, i9 1), (3, i9 0)] [2, 3, 1, 0] rfl ?_
        exact s_X12_isWord_174_s39_c39 C  1 0 d
theorem dX12_readTest_0 : decode cX12_readTest 0 = .ok (.aload_n 0, 1) := by decide +kernel
theorem dX12_readTest_1 : decode cX12_readTest 1 = .ok (.invokevirtual 268, 3) := by decide +kernel
theorem dX12_readTest_4 : decode cX12_readTest 4 = .ok (.aload_n 0, 1) := by decide +kernel
theorem dX12_readTest_5 : decode cX12_readTest 5 = .ok (.ldc_w 271, 3) := by decide +kernel
theorem dX12_readTest_8 : decode cX12_readTest 8 = .ok (.invokevirtual 183, 3) := by decide +kernel
theorem dX12_readTest_11 : decode cX12_readTest 11 = .ok (.ifCond .eq 20, 3) := by decide +kernel
theorem dX12_readTest_14 : decode cX12_readTest 14 = .ok (.aload_n 0, 1) := by decide +kernel
theorem dX12_readTest_15 : decode cX12_readTest 15 = .ok (.invokevirtual 180, 3) := by decide +kernel
theorem dX12_readTest_18 : decode cX12_readTest 18 = .ok (.aload_n 0, 1) := by decide +kernel
theorem dX12_readTest_19 : decode cX12_readTest 19 = .ok (.invokevirtual 268, 3) := by decide +kernel
theorem dX12_readTest_22 : decode cX12_readTest 22 = .ok (.aload_n 0, 1) := by decide +kernel
theorem dX12_readTest_23 : decode cX12_readTest 23 = .ok (.bipush 9, 2) := by decide +kernel
theorem dX12_readTest_25 : decode cX12_readTest 25 = .ok (.invokevirtual 246, 3) := by decide +kernel
theorem dX12_readTest_28 : decode cX12_readTest 28 = .ok (.goto (-24), 3) := by decide +kernel
theorem dX12_readTest_31 : decode cX12_readTest 31 = .ok (.return_, 1) := by decide +kernel
def b_X12_readTest_174_c4 (kF : D9 → Option R9) (k_X12_readTest_174_c4 : D9 → Option R9) (d : D9) : Option R9 := cl (m_X12_isWord_174_s39 d) (fun r1 d2 => if w32 r1 = 0 then rt 0 d2 else cl (m_X12_next_174 d2) (fun r3 d4 => cl (m_X12_readPart_174 kF d4) (fun r5 d6 => cl (m_X12_puts_174 9 d6) (fun r7 d8 => k_X12_readTest_174_c4  d8))))
def m_X12_readTest_174_c4 (kF : D9 → Option R9) : D9 → Option R9 := fix9 (fun _ => none) (fun k => b_X12_readTest_174_c4 kF k) FU
def m_X12_readTest_174 (kF : D9 → Option R9) (d : D9) : Option R9 := cl (m_X12_readPart_174 kF d) (fun r1 d2 => m_X12_readTest_174_c4 kF   d2)
set_option maxRecDepth 100000 in
theorem sb_X12_readTest_174_c4 {G : G9} {X : X9} {n9 : Nat} (C : CX G X cX12_readTest 1 RX12 [] (z_X12_readTest_174 n9)) (kF : D9 → Option R9) (hkF : ∀ {l : Launch}, l.stackTraces = false → ∀ (d : D9), MT G l yX12_readFact cX12_readFact 2 (z_X12_readFact_174 n9) [rf G 174] d (kF d)) (k_X12_readTest_174_c4 : D9 → Option R9) (hk_X12_readTest_174_c4 : ∀ (d : D9), SS G X 1 0 0 4 [(0, rf G 174)] [] d (k_X12_readTest_174_c4  d)) : ∀ (d : D9), SS G X 1 0 0 4 [(0, rf G 174)] [] d (b_X12_readTest_174_c4 kF k_X12_readTest_174_c4  d) := by
  intro  d
  unfold b_X12_readTest_174_c4
  refine r_aload_n C 0 dX12_readTest_4 rfl rfl ?_
  refine r_ldcSW C 39 dX12_readTest_5 rfl ?_
  refine r_callV C [sf G 39, rf G 174] dX12_readTest_8 (t_X12_isWord_174_s39 C.h1 C.h2 d) mw_X12_183 mv_X12_isWord la_174 ly_174 rfl ⟨(show 8 + 1 ≤ (16 + 4 * n9) by omega), (show 8 + (4 + 11) + 250 ≤ (600 + 200 * n9) by omega)⟩ (Nat.le_of_ble_eq_true rfl) (Nat.le_of_ble_eq_true rfl) rfl rfl (Nat.le_of_ble_eq_true rfl) (fun r1 d2 => ?_)
  show SS G X 1 _ _ 11 [(0, rf G 174)] [i9 r1] d2 _
  refine r_if_eq C (b := 0) 31 dX12_readTest_11 (by decide) (fun _ => ?_) (fun _ => ?_)
  · exact r_vret C dX12_readTest_31 (Nat.le_of_ble_eq_true rfl) (Nat.le_of_ble_eq_true rfl)
  · refine r_aload_n C 0 dX12_readTest_14 rfl rfl ?_
    refine r_callV C [rf G 174] dX12_readTest_15 (t_X12_next_174 C.h1 C.h2 d2) mw_X12_180 mv_X12_next la_174 ly_174 rfl ⟨(show 2 + 1 ≤ (16 + 4 * n9) by omega), (show 8 + (2 + 11) + 21 ≤ (600 + 200 * n9) by omega)⟩ (Nat.le_of_ble_eq_true rfl) (Nat.le_of_ble_eq_true rfl) rfl rfl (Nat.le_of_ble_eq_true rfl) (fun r3 d4 => ?_)
    show SS G X 1 _ _ 18 [(0, rf G 174)] [] d4 _
    refine r_aload_n C 0 dX12_readTest_18 rfl rfl ?_
    refine r_callV C [rf G 174] dX12_readTest_19 (t_X12_readPart_174 C.h1 n9 kF hkF C.h2 d4) mw_X12_268 mv_X12_readPart la_174 ly_174 rfl ⟨(show (15 + 4 * n9) + 1 ≤ (16 + 4 * n9) by omega), (show 8 + (1 + 11) + (550 + 200 * n9) ≤ (600 + 200 * n9) by omega)⟩ (Nat.le_of_ble_eq_true rfl) (Nat.le_of_ble_eq_true rfl) rfl rfl (Nat.le_of_ble_eq_true rfl) (fun r5 d6 => ?_)
    show SS G X 1 _ _ 22 [(0, rf G 174)] [] d6 _
    refine r_aload_n C 0 dX12_readTest_22 rfl rfl ?_
    refine r_bipush C dX12_readTest_23 rfl ?_
    refine r_callV C [i9 9, rf G 174] dX12_readTest_25 (t_X12_puts_174 C.h1 C.h2 9 d6) mw_X12_246 mv_X12_puts la_174 ly_174 rfl ⟨(show 1 + 1 ≤ (16 + 4 * n9) by omega), (show 8 + (2 + 11) + 0 ≤ (600 + 200 * n9) by omega)⟩ (Nat.le_of_ble_eq_true rfl) (Nat.le_of_ble_eq_true rfl) rfl rfl (Nat.le_of_ble_eq_true rfl) (fun r7 d8 => ?_)
    show SS G X 1 _ _ 28 [(0, rf G 174)] [] d8 _
    refine r_goto C 4 dX12_readTest_28 (by decide) ?_
    refine ss_wide (k' := 0) (n' := 0) (Nat.le_of_ble_eq_true rfl) (Nat.le_of_ble_eq_true rfl) ?_
    refine ss_ls [(0, rf G 174)] [0] rfl ?_
    exact hk_X12_readTest_174_c4  d8
theorem s_X12_readTest_174_c4 {G : G9} {X : X9} {n9 : Nat} (C : CX G X cX12_readTest 1 RX12 [] (z_X12_readTest_174 n9)) (kF : D9 → Option R9) (hkF : ∀ {l : Launch}, l.stackTraces = false → ∀ (d : D9), MT G l yX12_readFact cX12_readFact 2 (z_X12_readFact_174 n9) [rf G 174] d (kF d)) : ∀ (d : D9), SS G X 1 0 0 4 [(0, rf G 174)] [] d (m_X12_readTest_174_c4 kF   d) :=
  fix9_ind (P := fun k => ∀ (d : D9), SS G X 1 0 0 4 [(0, rf G 174)] [] d (k  d)) (fun _ => ss_none) (fun k hk => sb_X12_readTest_174_c4 C kF hkF k hk) FU
set_option maxRecDepth 100000 in
theorem t_X12_readTest_174 {G : G9} {l : Launch} (h1 : va_D (A9 G) (wl G (fun _ _ => 0))) (n9 : Nat) (kF : D9 → Option R9) (hkF : ∀ {l : Launch}, l.stackTraces = false → ∀ (d : D9), MT G l yX12_readFact cX12_readFact 2 (z_X12_readFact_174 n9) [rf G 174] d (kF d)) (h2 : l.stackTraces = false) (d : D9) : MT G l yX12_readTest cX12_readTest 1 (z_X12_readTest_174 n9) [rf G 174] d (m_X12_readTest_174 kF  d) := by
  refine mt_of (own := RX12) (by decide) rfl (Nat.le_of_ble_eq_true rfl) h1 h2 [(0, rf G 174)] rfl (fun X hX C => ?_)
  unfold m_X12_readTest_174
  refine r_aload_n C 0 dX12_readTest_0 rfl rfl ?_
  refine r_callV C [rf G 174] dX12_readTest_1 (t_X12_readPart_174 C.h1 n9 kF hkF C.h2 d) mw_X12_268 mv_X12_readPart la_174 ly_174 rfl ⟨(show (15 + 4 * n9) + 1 ≤ (16 + 4 * n9) by omega), (show 8 + (1 + 11) + (550 + 200 * n9) ≤ (600 + 200 * n9) by omega)⟩ (Nat.le_of_ble_eq_true rfl) (Nat.le_of_ble_eq_true rfl) rfl rfl (Nat.le_of_ble_eq_true rfl) (fun r1 d2 => ?_)
  show SS G X 1 _ _ 4 [(0, rf G 174)] [] d2 _
  refine ss_wide (k' := 0) (n' := 0) (Nat.le_of_ble_eq_true rfl) (Nat.le_of_ble_eq_true rfl) ?_
  refine ss_ls [(0, rf G 174)] [0] rfl ?_
  exact s_X12_readTest_174_c4 C kF hkF   d2
abbrev z_X12_isWord_174_s30 : Z9 := (some .boolean, 1, 0, 0, 8, 250)
def b_X12_isWord_174_s30_c39 (k_X12_isWord_174_s30_c39 : Int → Int → D9 → Option R9) (v2 v3 : Int) (d : D9) : Option R9 := if w32 v2 = 0 then rt (v2 % 2) d else if w32 3 ≤ w32 v3 then rt (v2 % 2) d else ld d 178 400 ((d 174 10) + v3) (fun t1 => sch 30 v3 (fun t2 => if w32 t1 ≠ w32 t2 then k_X12_isWord_174_s30_c39 0 (v3 + 1) d else k_X12_isWord_174_s30_c39 1 (v3 + 1) d))
def m_X12_isWord_174_s30_c39 : Int → Int → D9 → Option R9 := fix9 (fun _ _ _ => none) (fun k => b_X12_isWord_174_s30_c39 k) FU
def m_X12_isWord_174_s30 (d : D9) : Option R9 := if w32 (d 174 13) ≠ 0 then m_X12_isWord_174_s30_c39  0 0 d else if w32 (d 174 11) ≠ w32 1 then m_X12_isWord_174_s30_c39  0 0 d else if w32 ((d 174 9) - (d 174 10)) ≠ w32 3 then m_X12_isWord_174_s30_c39  0 0 d else m_X12_isWord_174_s30_c39  1 0 d
set_option maxRecDepth 100000 in
theorem sb_X12_isWord_174_s30_c39 {G : G9} {X : X9} (C : CX G X cX12_isWord 4 RX12 [] z_X12_isWord_174_s30) (k_X12_isWord_174_s30_c39 : Int → Int → D9 → Option R9) (hk_X12_isWord_174_s30_c39 : ∀ (v2 v3 : Int) (d : D9), SS G X 4 0 0 39 [(0, rf G 174), (1, sf G 30), (2, i9 v2), (3, i9 v3)] [] d (k_X12_isWord_174_s30_c39 v2 v3 d)) : ∀ (v2 v3 : Int) (d : D9), SS G X 4 0 0 39 [(0, rf G 174), (1, sf G 30), (2, i9 v2), (3, i9 v3)] [] d (b_X12_isWord_174_s30_c39 k_X12_isWord_174_s30_c39 v2 v3 d) := by
  intro v2 v3 d
  unfold b_X12_isWord_174_s30_c39
  refine r_iload_n C 2 dX12_isWord_39 rfl rfl ?_
  refine r_if_eq C (b := 0) 82 dX12_isWord_40 (by decide) (fun _ => ?_) (fun _ => ?_)
  · refine r_iload_n C 2 dX12_isWord_82 rfl rfl ?_
    exact r_zret C dX12_isWord_83 (by decide) (by decide)
  · refine r_iload_n C 3 dX12_isWord_43 rfl rfl ?_
    refine r_aload_nS C 1 dX12_isWord_44 rfl rfl ?_
    refine r_slen C 30 dX12_isWord_45 mw_X12_166 rfl (by decide) (Nat.le_of_ble_eq_true rfl) ?_
    refine r_icmp_ge C 82 dX12_isWord_48 (by decide) (fun _ => ?_) (fun _ => ?_)
    · refine r_iload_n C 2 dX12_isWord_82 rfl rfl ?_
      exact r_zret C dX12_isWord_83 (by decide) (by decide)
    · refine r_aload_n C 0 dX12_isWord_51 rfl rfl ?_
      refine r_getR C 178 dX12_isWord_52 fl_X12_20 la_174 ly_174 rfl rfl ?_
      refine r_aload_n C 0 dX12_isWord_55 rfl rfl ?_
      refine r_getI C dX12_isWord_56 fl_X12_142 la_174 ly_174 rfl ?_
      refine r_iload_n C 3 dX12_isWord_59 rfl rfl ?_
      refine r_iadd C dX12_isWord_60 ?_
      refine r_iald C dX12_isWord_61 la_178 ly_178 (fun t1 => ?_)
      refine r_aload_nS C 1 dX12_isWord_62 rfl rfl ?_
      refine r_iload_n C 3 dX12_isWord_63 rfl rfl ?_
      refine r_schar C 30 dX12_isWord_64 mw_X12_172 (by decide) (Nat.le_of_ble_eq_true rfl) (fun t2 => ?_)
      refine r_icmp_ne C 74 dX12_isWord_67 (by decide) (fun _ => ?_) (fun _ => ?_)
      · refine r_iconst C dX12_isWord_74 ?_
        refine r_istore_n C [(2, i9 0), (0, rf G 174), (1, sf G 30), (3, i9 v3)] dX12_isWord_75 rfl (by decide) rfl ?_
        refine r_iinc C 3 [(3, i9 (v3 + 1)), (2, i9 0), (0, rf G 174), (1, sf G 30)] dX12_isWord_76 rfl (by decide) rfl ?_
        refine r_goto C 39 dX12_isWord_79 (by decide) ?_
        refine ss_wide (k' := 0) (n' := 0) (by decide) (by decide) ?_
        refine ss_ls [(0, rf G 174), (1, sf G 30), (2, i9 0), (3, i9 (v3 + 1))] [2, 3, 1, 0] rfl ?_
        exact hk_X12_isWord_174_s30_c39 0 (v3 + 1) d
      · refine r_iconst C dX12_isWord_70 ?_
        refine r_goto C 75 dX12_isWord_71 (by decide) ?_
        refine r_istore_n C [(2, i9 1), (0, rf G 174), (1, sf G 30), (3, i9 v3)] dX12_isWord_75 rfl (by decide) rfl ?_
        refine r_iinc C 3 [(3, i9 (v3 + 1)), (2, i9 1), (0, rf G 174), (1, sf G 30)] dX12_isWord_76 rfl (by decide) rfl ?_
        refine r_goto C 39 dX12_isWord_79 (by decide) ?_
        refine ss_wide (k' := 0) (n' := 0) (by decide) (by decide) ?_
        refine ss_ls [(0, rf G 174), (1, sf G 30), (2, i9 1), (3, i9 (v3 + 1))] [2, 3, 1, 0] rfl ?_
        exact hk_X12_isWord_174_s30_c39 1 (v3 + 1) d
theorem s_X12_isWord_174_s30_c39 {G : G9} {X : X9} (C : CX G X cX12_isWord 4 RX12 [] z_X12_isWord_174_s30) : ∀ (v2 v3 : Int) (d : D9), SS G X 4 0 0 39 [(0, rf G 174), (1, sf G 30), (2, i9 v2), (3, i9 v3)] [] d (m_X12_isWord_174_s30_c39  v2 v3 d) :=
  fix9_ind (P := fun k => ∀ (v2 v3 : Int) (d : D9), SS G X 4 0 0 39 [(0, rf G 174), (1, sf G 30), (2, i9 v2), (3, i9 v3)] [] d (k v2 v3 d)) (fun _ _ _ => ss_none) (fun k hk => sb_X12_isWord_174_s30_c39 C k hk) FU
set_option maxRecDepth 100000 in
theorem t_X12_isWord_174_s30 {G : G9} {l : Launch} (h1 : va_D (A9 G) (wl G (fun _ _ => 0))) (h2 : l.stackTraces = false) (d : D9) : MT G l yX12_isWord cX12_isWord 4 z_X12_isWord_174_s30 [rf G 174, sf G 30] d (m_X12_isWord_174_s30  d) := by
  refine mt_of (own := RX12) (by decide) rfl (Nat.le_of_ble_eq_true rfl) h1 h2 [(0, rf G 174), (1, sf G 30)] rfl (fun X hX C => ?_)
  unfold m_X12_isWord_174_s30
  refine r_aload_n C 0 dX12_isWord_0 rfl rfl ?_
  refine r_getI C dX12_isWord_1 fl_X12_160 la_174 ly_174 rfl ?_
  refine r_if_ne C (b := 0) 35 dX12_isWord_4 (by decide) (fun _ => ?_) (fun _ => ?_)
  · refine r_iconst C dX12_isWord_35 ?_
    refine r_istore_n C [(2, i9 0), (0, rf G 174), (1, sf G 30)] dX12_isWord_36 rfl (by decide) rfl ?_
    refine r_iconst C dX12_isWord_37 ?_
    refine r_istore_n C [(3, i9 0), (2, i9 0), (0, rf G 174), (1, sf G 30)] dX12_isWord_38 rfl (by decide) rfl ?_
    refine ss_wide (k' := 0) (n' := 0) (by decide) (by decide) ?_
    refine ss_ls [(0, rf G 174), (1, sf G 30), (2, i9 0), (3, i9 0)] [2, 3, 1, 0] rfl ?_
    exact s_X12_isWord_174_s30_c39 C  0 0 d
  · refine r_aload_n C 0 dX12_isWord_7 rfl rfl ?_
    refine r_getI C dX12_isWord_8 fl_X12_145 la_174 ly_174 rfl ?_
    refine r_iconst C dX12_isWord_11 ?_
    refine r_icmp_ne C 35 dX12_isWord_12 (by decide) (fun _ => ?_) (fun _ => ?_)
    · refine r_iconst C dX12_isWord_35 ?_
      refine r_istore_n C [(2, i9 0), (0, rf G 174), (1, sf G 30)] dX12_isWord_36 rfl (by decide) rfl ?_
      refine r_iconst C dX12_isWord_37 ?_
      refine r_istore_n C [(3, i9 0), (2, i9 0), (0, rf G 174), (1, sf G 30)] dX12_isWord_38 rfl (by decide) rfl ?_
      refine ss_wide (k' := 0) (n' := 0) (by decide) (by decide) ?_
      refine ss_ls [(0, rf G 174), (1, sf G 30), (2, i9 0), (3, i9 0)] [2, 3, 1, 0] rfl ?_
      exact s_X12_isWord_174_s30_c39 C  0 0 d
    · refine r_aload_n C 0 dX12_isWord_15 rfl rfl ?_
      refine r_getI C dX12_isWord_16 fl_X12_139 la_174 ly_174 rfl ?_
      refine r_aload_n C 0 dX12_isWord_19 rfl rfl ?_
      refine r_getI C dX12_isWord_20 fl_X12_142 la_174 ly_174 rfl ?_
      refine r_isub C dX12_isWord_23 ?_
      refine r_aload_nS C 1 dX12_isWord_24 rfl rfl ?_
      refine r_slen C 30 dX12_isWord_25 mw_X12_166 rfl (by decide) (Nat.le_of_ble_eq_true rfl) ?_
      refine r_icmp_ne C 35 dX12_isWord_28 (by decide) (fun _ => ?_) (fun _ => ?_)
      · refine r_iconst C dX12_isWord_35 ?_
        refine r_istore_n C [(2, i9 0), (0, rf G 174), (1, sf G 30)] dX12_isWord_36 rfl (by decide) rfl ?_
        refine r_iconst C dX12_isWord_37 ?_
        refine r_istore_n C [(3, i9 0), (2, i9 0), (0, rf G 174), (1, sf G 30)] dX12_isWord_38 rfl (by decide) rfl ?_
        refine ss_wide (k' := 0) (n' := 0) (by decide) (by decide) ?_
        refine ss_ls [(0, rf G 174), (1, sf G 30), (2, i9 0), (3, i9 0)] [2, 3, 1, 0] rfl ?_
        exact s_X12_isWord_174_s30_c39 C  0 0 d
      · refine r_iconst C dX12_isWord_31 ?_
        refine r_goto C 36 dX12_isWord_32 (by decide) ?_
        refine r_istore_n C [(2, i9 1), (0, rf G 174), (1, sf G 30)] dX12_isWord_36 rfl (by decide) rfl ?_
        refine r_iconst C dX12_isWord_37 ?_
        refine r_istore_n C [(3, i9 0), (2, i9 1), (0, rf G 174), (1, sf G 30)] dX12_isWord_38 rfl (by decide) rfl ?_
        refine ss_wide (k' := 0) (n' := 0) (by decide) (by decide) ?_
        refine ss_ls [(0, rf G 174), (1, sf G 30), (2, i9 1), (3, i9 0)] [2, 3, 1, 0] rfl ?_
        exact s_X12_isWord_174_s30_c39 C  1 0 d
abbrev z_X12_isWord_174_s31 : Z9 := (some .boolean, 1, 0, 0, 8, 250)
def b_X12_isWord_174_s31_c39 (k_X12_isWord_174_s31_c39 : Int → Int → D9 → Option R9) (v2 v3 : Int) (d : D9) : Option R9 := if w32 v2 = 0 then rt (v2 % 2) d else if w32 5 ≤ w32 v3 then rt (v2 % 2) d else ld d 178 400 ((d 174 10) + v3) (fun t1 => sch 31 v3 (fun t2 => if w32 t1 ≠ w32 t2 then k_X12_isWord_174_s31_c39 0 (v3 + 1) d else k_X12_isWord_174_s31_c39 1 (v3 + 1) d))
def m_X12_isWord_174_s31_c39 : Int → Int → D9 → Option R9 := fix9 (fun _ _ _ => none) (fun k => b_X12_isWord_174_s31_c39 k) FU
def m_X12_isWord_174_s31 (d : D9) : Option R9 := if w32 (d 174 13) ≠ 0 then m_X12_isWord_174_s31_c39  0 0 d else if w32 (d 174 11) ≠ w32 1 then m_X12_isWord_174_s31_c39  0 0 d else if w32 ((d 174 9) - (d 174 10)) ≠ w32 5 then m_X12_isWord_174_s31_c39  0 0 d else m_X12_isWord_174_s31_c39  1 0 d
set_option maxRecDepth 100000 in
theorem sb_X12_isWord_174_s31_c39 {G : G9} {X : X9} (C : CX G X cX12_isWord 4 RX12 [] z_X12_isWord_174_s31) (k_X12_isWord_174_s31_c39 : Int → Int → D9 → Option R9) (hk_X12_isWord_174_s31_c39 : ∀ (v2 v3 : Int) (d : D9), SS G X 4 0 0 39 [(0, rf G 174), (1, sf G 31), (2, i9 v2), (3, i9 v3)] [] d (k_X12_isWord_174_s31_c39 v2 v3 d)) : ∀ (v2 v3 : Int) (d : D9), SS G X 4 0 0 39 [(0, rf G 174), (1, sf G 31), (2, i9 v2), (3, i9 v3)] [] d (b_X12_isWord_174_s31_c39 k_X12_isWord_174_s31_c39 v2 v3 d) := by
  intro v2 v3 d
  unfold b_X12_isWord_174_s31_c39
  refine r_iload_n C 2 dX12_isWord_39 rfl rfl ?_
  refine r_if_eq C (b := 0) 82 dX12_isWord_40 (by decide) (fun _ => ?_) (fun _ => ?_)
  · refine r_iload_n C 2 dX12_isWord_82 rfl rfl ?_
    exact r_zret C dX12_isWord_83 (by decide) (by decide)
  · refine r_iload_n C 3 dX12_isWord_43 rfl rfl ?_
    refine r_aload_nS C 1 dX12_isWord_44 rfl rfl ?_
    refine r_slen C 31 dX12_isWord_45 mw_X12_166 rfl (by decide) (Nat.le_of_ble_eq_true rfl) ?_
    refine r_icmp_ge C 82 dX12_isWord_48 (by decide) (fun _ => ?_) (fun _ => ?_)
    · refine r_iload_n C 2 dX12_isWord_82 rfl rfl ?_
      exact r_zret C dX12_isWord_83 (by decide) (by decide)
    · refine r_aload_n C 0 dX12_isWord_51 rfl rfl ?_
      refine r_getR C 178 dX12_isWord_52 fl_X12_20 la_174 ly_174 rfl rfl ?_
      refine r_aload_n C 0 dX12_isWord_55 rfl rfl ?_
      refine r_getI C dX12_isWord_56 fl_X12_142 la_174 ly_174 rfl ?_
      refine r_iload_n C 3 dX12_isWord_59 rfl rfl ?_
      refine r_iadd C dX12_isWord_60 ?_
      refine r_iald C dX12_isWord_61 la_178 ly_178 (fun t1 => ?_)
      refine r_aload_nS C 1 dX12_isWord_62 rfl rfl ?_
      refine r_iload_n C 3 dX12_isWord_63 rfl rfl ?_
      refine r_schar C 31 dX12_isWord_64 mw_X12_172 (by decide) (Nat.le_of_ble_eq_true rfl) (fun t2 => ?_)
      refine r_icmp_ne C 74 dX12_isWord_67 (by decide) (fun _ => ?_) (fun _ => ?_)
      · refine r_iconst C dX12_isWord_74 ?_
        refine r_istore_n C [(2, i9 0), (0, rf G 174), (1, sf G 31), (3, i9 v3)] dX12_isWord_75 rfl (by decide) rfl ?_
        refine r_iinc C 3 [(3, i9 (v3 + 1)), (2, i9 0), (0, rf G 174), (1, sf G 31)] dX12_isWord_76 rfl (by decide) rfl ?_
        refine r_goto C 39 dX12_isWord_79 (by decide) ?_
        refine ss_wide (k' := 0) (n' := 0) (by decide) (by decide) ?_
        refine ss_ls [(0, rf G 174), (1, sf G 31), (2, i9 0), (3, i9 (v3 + 1))] [2, 3, 1, 0] rfl ?_
        exact hk_X12_isWord_174_s31_c39 0 (v3 + 1) d
      · refine r_iconst C dX12_isWord_70 ?_
        refine r_goto C 75 dX12_isWord_71 (by decide) ?_
        refine r_istore_n C [(2, i9 1), (0, rf G 174), (1, sf G 31), (3, i9 v3)] dX12_isWord_75 rfl (by decide) rfl ?_
        refine r_iinc C 3 [(3, i9 (v3 + 1)), (2, i9 1), (0, rf G 174), (1, sf G 31)] dX12_isWord_76 rfl (by decide) rfl ?_
        refine r_goto C 39 dX12_isWord_79 (by decide) ?_
        refine ss_wide (k' := 0) (n' := 0) (by decide) (by decide) ?_
        refine ss_ls [(0, rf G 174), (1, sf G 31), (2, i9 1), (3, i9 (v3 + 1))] [2, 3, 1, 0] rfl ?_
        exact hk_X12_isWord_174_s31_c39 1 (v3 + 1) d
theorem s_X12_isWord_174_s31_c39 {G : G9} {X : X9} (C : CX G X cX12_isWord 4 RX12 [] z_X12_isWord_174_s31) : ∀ (v2 v3 : Int) (d : D9), SS G X 4 0 0 39 [(0, rf G 174), (1, sf G 31), (2, i9 v2), (3, i9 v3)] [] d (m_X12_isWord_174_s31_c39  v2 v3 d) :=
  fix9_ind (P := fun k => ∀ (v2 v3 : Int) (d : D9), SS G X 4 0 0 39 [(0, rf G 174), (1, sf G 31), (2, i9 v2), (3, i9 v3)] [] d (k v2 v3 d)) (fun _ _ _ => ss_none) (fun k hk => sb_X12_isWord_174_s31_c39 C k hk) FU
set_option maxRecDepth 100000 in
theorem t_X12_isWord_174_s31 {G : G9} {l : Launch} (h1 : va_D (A9 G) (wl G (fun _ _ => 0))) (h2 : l.stackTraces = false) (d : D9) : MT G l yX12_isWord cX12_isWord 4 z_X12_isWord_174_s31 [rf G 174, sf G 31] d (m_X12_isWord_174_s31  d) := by
  refine mt_of (own := RX12) (by decide) rfl (Nat.le_of_ble_eq_true rfl) h1 h2 [(0, rf G 174), (1, sf G 31)] rfl (fun X hX C => ?_)
  unfold m_X12_isWord_174_s31
  refine r_aload_n C 0 dX12_isWord_0 rfl rfl ?_
  refine r_getI C dX12_isWord_1 fl_X12_160 la_174 ly_174 rfl ?_
  refine r_if_ne C (b := 0) 35 dX12_isWord_4 (by decide) (fun _ => ?_) (fun _ => ?_)
  · refine r_iconst C dX12_isWord_35 ?_
    refine r_istore_n C [(2, i9 0), (0, rf G 174), (1, sf G 31)] dX12_isWord_36 rfl (by decide) rfl ?_
    refine r_iconst C dX12_isWord_37 ?_
    refine r_istore_n C [(3, i9 0), (2, i9 0), (0, rf G 174), (1, sf G 31)] dX12_isWord_38 rfl (by decide) rfl ?_
    refine ss_wide (k' := 0) (n' := 0) (by decide) (by decide) ?_
    refine ss_ls [(0, rf G 174), (1, sf G 31), (2, i9 0), (3, i9 0)] [2, 3, 1, 0] rfl ?_
    exact s_X12_isWord_174_s31_c39 C  0 0 d
  · refine r_aload_n C 0 dX12_isWord_7 rfl rfl ?_
    refine r_getI C dX12_isWord_8 fl_X12_145 la_174 ly_174 rfl ?_
    refine r_iconst C dX12_isWord_11 ?_
    refine r_icmp_ne C 35 dX12_isWord_12 (by decide) (fun _ => ?_) (fun _ => ?_)
    · refine r_iconst C dX12_isWord_35 ?_
      refine r_istore_n C [(2, i9 0), (0, rf G 174), (1, sf G 31)] dX12_isWord_36 rfl (by decide) rfl ?_
      refine r_iconst C dX12_isWord_37 ?_
      refine r_istore_n C [(3, i9 0), (2, i9 0), (0, rf G 174), (1, sf G 31)] dX12_isWord_38 rfl (by decide) rfl ?_
      refine ss_wide (k' := 0) (n' := 0) (by decide) (by decide) ?_
      refine ss_ls [(0, rf G 174), (1, sf G 31), (2, i9 0), (3, i9 0)] [2, 3, 1, 0] rfl ?_
      exact s_X12_isWord_174_s31_c39 C  0 0 d
    · refine r_aload_n C 0 dX12_isWord_15 rfl rfl ?_
      refine r_getI C dX12_isWord_16 fl_X12_139 la_174 ly_174 rfl ?_
      refine r_aload_n C 0 dX12_isWord_19 rfl rfl ?_
      refine r_getI C dX12_isWord_20 fl_X12_142 la_174 ly_174 rfl ?_
      refine r_isub C dX12_isWord_23 ?_
      refine r_aload_nS C 1 dX12_isWord_24 rfl rfl ?_
      refine r_slen C 31 dX12_isWord_25 mw_X12_166 rfl (by decide) (Nat.le_of_ble_eq_true rfl) ?_
      refine r_icmp_ne C 35 dX12_isWord_28 (by decide) (fun _ => ?_) (fun _ => ?_)
      · refine r_iconst C dX12_isWord_35 ?_
        refine r_istore_n C [(2, i9 0), (0, rf G 174), (1, sf G 31)] dX12_isWord_36 rfl (by decide) rfl ?_
        refine r_iconst C dX12_isWord_37 ?_
        refine r_istore_n C [(3, i9 0), (2, i9 0), (0, rf G 174), (1, sf G 31)] dX12_isWord_38 rfl (by decide) rfl ?_
        refine ss_wide (k' := 0) (n' := 0) (by decide) (by decide) ?_
        refine ss_ls [(0, rf G 174), (1, sf G 31), (2, i9 0), (3, i9 0)] [2, 3, 1, 0] rfl ?_
        exact s_X12_isWord_174_s31_c39 C  0 0 d
      · refine r_iconst C dX12_isWord_31 ?_
        refine r_goto C 36 dX12_isWord_32 (by decide) ?_
        refine r_istore_n C [(2, i9 1), (0, rf G 174), (1, sf G 31)] dX12_isWord_36 rfl (by decide) rfl ?_
        refine r_iconst C dX12_isWord_37 ?_
        refine r_istore_n C [(3, i9 0), (2, i9 1), (0, rf G 174), (1, sf G 31)] dX12_isWord_38 rfl (by decide) rfl ?_
        refine ss_wide (k' := 0) (n' := 0) (by decide) (by decide) ?_
        refine ss_ls [(0, rf G 174), (1, sf G 31), (2, i9 1), (3, i9 0)] [2, 3, 1, 0] rfl ?_
        exact s_X12_isWord_174_s31_c39 C  1 0 d
abbrev z_X12_isWord_174_s32 : Z9 := (some .boolean, 1, 0, 0, 8, 250)
def b_X12_isWord_174_s32_c39 (k_X12_isWord_174_s32_c39 : Int → Int → D9 → Option R9) (v2 v3 : Int) (d : D9) : Option R9 := if w32 v2 = 0 then rt (v2 % 2) d else if w32 4 ≤ w32 v3 then rt (v2 % 2) d else ld d 178 400 ((d 174 10) + v3) (fun t1 => sch 32 v3 (fun t2 => if w32 t1 ≠ w32 t2 then k_X12_isWord_174_s32_c39 0 (v3 + 1) d else k_X12_isWord_174_s32_c39 1 (v3 + 1) d))
def m_X12_isWord_174_s32_c39 : Int → Int → D9 → Option R9 := fix9 (fun _ _ _ => none) (fun k => b_X12_isWord_174_s32_c39 k) FU
def m_X12_isWord_174_s32 (d : D9) : Option R9 := if w32 (d 174 13) ≠ 0 then m_X12_isWord_174_s32_c39  0 0 d else if w32 (d 174 11) ≠ w32 1 then m_X12_isWord_174_s32_c39  0 0 d else if w32 ((d 174 9) - (d 174 10)) ≠ w32 4 then m_X12_isWord_174_s32_c39  0 0 d else m_X12_isWord_174_s32_c39  1 0 d
set_option maxRecDepth 100000 in
theorem sb_X12_isWord_174_s32_c39 {G : G9} {X : X9} (C : CX G X cX12_isWord 4 RX12 [] z_X12_isWord_174_s32) (k_X12_isWord_174_s32_c39 : Int → Int → D9 → Option R9) (hk_X12_isWord_174_s32_c39 : ∀ (v2 v3 : Int) (d : D9), SS G X 4 0 0 39 [(0, rf G 174), (1, sf G 32), (2, i9 v2), (3, i9 v3)] [] d (k_X12_isWord_174_s32_c39 v2 v3 d)) : ∀ (v2 v3 : Int) (d : D9), SS G X 4 0 0 39 [(0, rf G 174), (1, sf G 32), (2, i9 v2), (3, i9 v3)] [] d (b_X12_isWord_174_s32_c39 k_X12_isWord_174_s32_c39 v2 v3 d) := by
  intro v2 v3 d
  unfold b_X12_isWord_174_s32_c39
  refine r_iload_n C 2 dX12_isWord_39 rfl rfl ?_
  refine r_if_eq C (b := 0) 82 dX12_isWord_40 (by decide) (fun _ => ?_) (fun _ => ?_)
  · refine r_iload_n C 2 dX12_isWord_82 rfl rfl ?_
    exact r_zret C dX12_isWord_83 (by decide) (by decide)
  · refine r_iload_n C 3 dX12_isWord_43 rfl rfl ?_
    refine r_aload_nS C 1 dX12_isWord_44 rfl rfl ?_
    refine r_slen C 32 dX12_isWord_45 mw_X12_166 rfl (by decide) (Nat.le_of_ble_eq_true rfl) ?_
    refine r_icmp_ge C 82 dX12_isWord_48 (by decide) (fun _ => ?_) (fun _ => ?_)
    · refine r_iload_n C 2 dX12_isWord_82 rfl rfl ?_
      exact r_zret C dX12_isWord_83 (by decide) (by decide)
    · refine r_aload_n C 0 dX12_isWord_51 rfl rfl ?_
      refine r_getR C 178 dX12_isWord_52 fl_X12_20 la_174 ly_174 rfl rfl ?_
      refine r_aload_n C 0 dX12_isWord_55 rfl rfl ?_
      refine r_getI C dX12_isWord_56 fl_X12_142 la_174 ly_174 rfl ?_
      refine r_iload_n C 3 dX12_isWord_59 rfl rfl ?_
      refine r_iadd C dX12_isWord_60 ?_
      refine r_iald C dX12_isWord_61 la_178 ly_178 (fun t1 => ?_)
      refine r_aload_nS C 1 dX12_isWord_62 rfl rfl ?_
      refine r_iload_n C 3 dX12_isWord_63 rfl rfl ?_
      refine r_schar C 32 dX12_isWord_64 mw_X12_172 (by decide) (Nat.le_of_ble_eq_true rfl) (fun t2 => ?_)
      refine r_icmp_ne C 74 dX12_isWord_67 (by decide) (fun _ => ?_) (fun _ => ?_)
      · refine r_iconst C dX12_isWord_74 ?_
        refine r_istore_n C [(2, i9 0), (0, rf G 174), (1, sf G 32), (3, i9 v3)] dX12_isWord_75 rfl (by decide) rfl ?_
        refine r_iinc C 3 [(3, i9 (v3 + 1)), (2, i9 0), (0, rf G 174), (1, sf G 32)] dX12_isWord_76 rfl (by decide) rfl ?_
        refine r_goto C 39 dX12_isWord_79 (by decide) ?_
        refine ss_wide (k' := 0) (n' := 0) (by decide) (by decide) ?_
        refine ss_ls [(0, rf G 174), (1, sf G 32), (2, i9 0), (3, i9 (v3 + 1))] [2, 3, 1, 0] rfl ?_
        exact hk_X12_isWord_174_s32_c39 0 (v3 + 1) d
      · refine r_iconst C dX12_isWord_70 ?_
        refine r_goto C 75 dX12_isWord_71 (by decide) ?_
        refine r_istore_n C [(2, i9 1), (0, rf G 174), (1, sf G 32), (3, i9 v3)] dX12_isWord_75 rfl (by decide) rfl ?_
        refine r_iinc C 3 [(3, i9 (v3 + 1)), (2, i9 1), (0, rf G 174), (1, sf G 32)] dX12_isWord_76 rfl (by decide) rfl ?_
        refine r_goto C 39 dX12_isWord_79 (by decide) ?_
        refine ss_wide (k' := 0) (n' := 0) (by decide) (by decide) ?_
        refine ss_ls [(0, rf G 174), (1, sf G 32), (2, i9 1), (3, i9 (v3 + 1))] [2, 3, 1, 0] rfl ?_
        exact hk_X12_isWord_174_s32_c39 1 (v3 + 1) d
theorem s_X12_isWord_174_s32_c39 {G : G9} {X : X9} (C : CX G X cX12_isWord 4 RX12 [] z_X12_isWord_174_s32) : ∀ (v2 v3 : Int) (d : D9), SS G X 4 0 0 39 [(0, rf G 174), (1, sf G 32), (2, i9 v2), (3, i9 v3)] [] d (m_X12_isWord_174_s32_c39  v2 v3 d) :=
  fix9_ind (P := fun k => ∀ (v2 v3 : Int) (d : D9), SS G X 4 0 0 39 [(0, rf G 174), (1, sf G 32), (2, i9 v2), (3, i9 v3)] [] d (k v2 v3 d)) (fun _ _ _ => ss_none) (fun k hk => sb_X12_isWord_174_s32_c39 C k hk) FU
set_option maxRecDepth 100000 in
theorem t_X12_isWord_174_s32 {G : G9} {l : Launch} (h1 : va_D (A9 G) (wl G (fun _ _ => 0))) (h2 : l.stackTraces = false) (d : D9) : MT G l yX12_isWord cX12_isWord 4 z_X12_isWord_174_s32 [rf G 174, sf G 32] d (m_X12_isWord_174_s32  d) := by
  refine mt_of (own := RX12) (by decide) rfl (Nat.le_of_ble_eq_true rfl) h1 h2 [(0, rf G 174), (1, sf G 32)] rfl (fun X hX C => ?_)
  unfold m_X12_isWord_174_s32
  refine r_aload_n C 0 dX12_isWord_0 rfl rfl ?_
  refine r_getI C dX12_isWord_1 fl_X12_160 la_174 ly_174 rfl ?_
  refine r_if_ne C (b := 0) 35 dX12_isWord_4 (by decide) (fun _ => ?_) (fun _ => ?_)
  · refine r_iconst C dX12_isWord_35 ?_
    refine r_istore_n C [(2, i9 0), (0, rf G 174), (1, sf G 32)] dX12_isWord_36 rfl (by decide) rfl ?_
    refine r_iconst C dX12_isWord_37 ?_
    refine r_istore_n C [(3, i9 0), (2, i9 0), (0, rf G 174), (1, sf G 32)] dX12_isWord_38 rfl (by decide) rfl ?_
    refine ss_wide (k' := 0) (n' := 0) (by decide) (by decide) ?_
    refine ss_ls [(0, rf G 174), (1, sf G 32), (2, i9 0), (3, i9 0)] [2, 3, 1, 0] rfl ?_
    exact s_X12_isWord_174_s32_c39 C  0 0 d
  · refine r_aload_n C 0 dX12_isWord_7 rfl rfl ?_
    refine r_getI C dX12_isWord_8 fl_X12_145 la_174 ly_174 rfl ?_
    refine r_iconst C dX12_isWord_11 ?_
    refine r_icmp_ne C 35 dX12_isWord_12 (by decide) (fun _ => ?_) (fun _ => ?_)
    · refine r_iconst C dX12_isWord_35 ?_
      refine r_istore_n C [(2, i9 0), (0, rf G 174), (1, sf G 32)] dX12_isWord_36 rfl (by decide) rfl ?_
      refine r_iconst C dX12_isWord_37 ?_
      refine r_istore_n C [(3, i9 0), (2, i9 0), (0, rf G 174), (1, sf G 32)] dX12_isWord_38 rfl (by decide) rfl ?_
      refine ss_wide (k' := 0) (n' := 0) (by decide) (by decide) ?_
      refine ss_ls [(0, rf G 174), (1, sf G 32), (2, i9 0), (3, i9 0)] [2, 3, 1, 0] rfl ?_
      exact s_X12_isWord_174_s32_c39 C  0 0 d
    · refine r_aload_n C 0 dX12_isWord_15 rfl rfl ?_
      refine r_getI C dX12_isWord_16 fl_X12_139 la_174 ly_174 rfl ?_
      refine r_aload_n C 0 dX12_isWord_19 rfl rfl ?_
      refine r_getI C dX12_isWord_20 fl_X12_142 la_174 ly_174 rfl ?_
      refine r_isub C dX12_isWord_23 ?_
      refine r_aload_nS C 1 dX12_isWord_24 rfl rfl ?_
      refine r_slen C 32 dX12_isWord_25 mw_X12_166 rfl (by decide) (Nat.le_of_ble_eq_true rfl) ?_
      refine r_icmp_ne C 35 dX12_isWord_28 (by decide) (fun _ => ?_) (fun _ => ?_)
      · refine r_iconst C dX12_isWord_35 ?_
        refine r_istore_n C [(2, i9 0), (0, rf G 174), (1, sf G 32)] dX12_isWord_36 rfl (by decide) rfl ?_
        refine r_iconst C dX12_isWord_37 ?_
        refine r_istore_n C [(3, i9 0), (2, i9 0), (0, rf G 174), (1, sf G 32)] dX12_isWord_38 rfl (by decide) rfl ?_
        refine ss_wide (k' := 0) (n' := 0) (by decide) (by decide) ?_
        refine ss_ls [(0, rf G 174), (1, sf G 32), (2, i9 0), (3, i9 0)] [2, 3, 1, 0] rfl ?_
        exact s_X12_isWord_174_s32_c39 C  0 0 d
      · refine r_iconst C dX12_isWord_31 ?_
        refine r_goto C 36 dX12_isWord_32 (by decide) ?_
        refine r_istore_n C [(2, i9 1), (0, rf G 174), (1, sf G 32)] dX12_isWord_36 rfl (by decide) rfl ?_
        refine r_iconst C dX12_isWord_37 ?_
        refine r_istore_n C [(3, i9 0), (2, i9 1), (0, rf G 174), (1, sf G 32)] dX12_isWord_38 rfl (by decide) rfl ?_
        refine ss_wide (k' := 0) (n' := 0) (by decide) (by decide) ?_
        refine ss_ls [(0, rf G 174), (1, sf G 32), (2, i9 1), (3, i9 0)] [2, 3, 1, 0] rfl ?_
        exact s_X12_isWord_174_s32_c39 C  1 0 d
abbrev z_X12_isWord_174_s33 : Z9 := (some .boolean, 1, 0, 0, 8, 250)
def b_X12_isWord_174_s33_c39 (k_X12_isWord_174_s33_c39 : Int → Int → D9 → Option R9) (v2 v3 : Int) (d : D9) : Option R9 := if w32 v2 = 0 then rt (v2 % 2) d else if w32 4 ≤ w32 v3 then rt (v2 % 2) d else ld d 178 400 ((d 174 10) + v3) (fun t1 => sch 33 v3 (fun t2 => if w32 t1 ≠ w32 t2 then k_X12_isWord_174_s33_c39 0 (v3 + 1) d else k_X12_isWord_174_s33_c39 1 (v3 + 1) d))
def m_X12_isWord_174_s33_c39 : Int → Int → D9 → Option R9 := fix9 (fun _ _ _ => none) (fun k => b_X12_isWord_174_s33_c39 k) FU
def m_X12_isWord_174_s33 (d : D9) : Option R9 := if w32 (d 174 13) ≠ 0 then m_X12_isWord_174_s33_c39  0 0 d else if w32 (d 174 11) ≠ w32 1 then m_X12_isWord_174_s33_c39  0 0 d else if w32 ((d 174 9) - (d 174 10)) ≠ w32 4 then m_X12_isWord_174_s33_c39  0 0 d else m_X12_isWord_174_s33_c39  1 0 d
set_option maxRecDepth 100000 in
theorem sb_X12_isWord_174_s33_c39 {G : G9} {X : X9} (C : CX G X cX12_isWord 4 RX12 [] z_X12_isWord_174_s33) (k_X12_isWord_174_s33_c39 : Int → Int → D9 → Option R9) (hk_X12_isWord_174_s33_c39 : ∀ (v2 v3 : Int) (d : D9), SS G X 4 0 0 39 [(0, rf G 174), (1, sf G 33), (2, i9 v2), (3, i9 v3)] [] d (k_X12_isWord_174_s33_c39 v2 v3 d)) : ∀ (v2 v3 : Int) (d : D9), SS G X 4 0 0 39 [(0, rf G 174), (1, sf G 33), (2, i9 v2), (3, i9 v3)] [] d (b_X12_isWord_174_s33_c39 k_X12_isWord_174_s33_c39 v2 v3 d) := by
  intro v2 v3 d
  unfold b_X12_isWord_174_s33_c39
  refine r_iload_n C 2 dX12_isWord_39 rfl rfl ?_
  refine r_if_eq C (b := 0) 82 dX12_isWord_40 (by decide) (fun _ => ?_) (fun _ => ?_)
  · refine r_iload_n C 2 dX12_isWord_82 rfl rfl ?_
    exact r_zret C dX12_isWord_83 (by decide) (by decide)
  · refine r_iload_n C 3 dX12_isWord_43 rfl rfl ?_
    refine r_aload_nS C 1 dX12_isWord_44 rfl rfl ?_
    refine r_slen C 33 dX12_isWord_45 mw_X12_166 rfl (by decide) (Nat.le_of_ble_eq_true rfl) ?_
    refine r_icmp_ge C 82 dX12_isWord_48 (by decide) (fun _ => ?_) (fun _ => ?_)
    · refine r_iload_n C 2 dX12_isWord_82 rfl rfl ?_
      exact r_zret C dX12_isWord_83 (by decide) (by decide)
    · refine r_aload_n C 0 dX12_isWord_51 rfl rfl ?_
      refine r_getR C 178 dX12_isWord_52 fl_X12_20 la_174 ly_174 rfl rfl ?_
      refine r_aload_n C 0 dX12_isWord_55 rfl rfl ?_
      refine r_getI C dX12_isWord_56 fl_X12_142 la_174 ly_174 rfl ?_
      refine r_iload_n C 3 dX12_isWord_59 rfl rfl ?_
      refine r_iadd C dX12_isWord_60 ?_
      refine r_iald C dX12_isWord_61 la_178 ly_178 (fun t1 => ?_)
      refine r_aload_nS C 1 dX12_isWord_62 rfl rfl ?_
      refine r_iload_n C 3 dX12_isWord_63 rfl rfl ?_
      refine r_schar C 33 dX12_isWord_64 mw_X12_172 (by decide) (Nat.le_of_ble_eq_true rfl) (fun t2 => ?_)
      refine r_icmp_ne C 74 dX12_isWord_67 (by decide) (fun _ => ?_) (fun _ => ?_)
      · refine r_iconst C dX12_isWord_74 ?_
        refine r_istore_n C [(2, i9 0), (0, rf G 174), (1, sf G 33), (3, i9 v3)] dX12_isWord_75 rfl (by decide) rfl ?_
        refine r_iinc C 3 [(3, i9 (v3 + 1)), (2, i9 0), (0, rf G 174), (1, sf G 33)] dX12_isWord_76 rfl (by decide) rfl ?_
        refine r_goto C 39 dX12_isWord_79 (by decide) ?_
        refine ss_wide (k' := 0) (n' := 0) (by decide) (by decide) ?_
        refine ss_ls [(0, rf G 174), (1, sf G 33), (2, i9 0), (3, i9 (v3 + 1))] [2, 3, 1, 0] rfl ?_
        exact hk_X12_isWord_174_s33_c39 0 (v3 + 1) d
      · refine r_iconst C dX12_isWord_70 ?_
        refine r_goto C 75 dX12_isWord_71 (by decide) ?_
        refine r_istore_n C [(2, i9 1), (0, rf G 174), (1, sf G 33), (3, i9 v3)] dX12_isWord_75 rfl (by decide) rfl ?_
        refine r_iinc C 3 [(3, i9 (v3 + 1)), (2, i9 1), (0, rf G 174), (1, sf G 33)] dX12_isWord_76 rfl (by decide) rfl ?_
        refine r_goto C 39 dX12_isWord_79 (by decide) ?_
        refine ss_wide (k' := 0) (n' := 0) (by decide) (by decide) ?_
        refine ss_ls [(0, rf G 174), (1, sf G 33), (2, i9 1), (3, i9 (v3 + 1))] [2, 3, 1, 0] rfl ?_
        exact hk_X12_isWord_174_s33_c39 1 (v3 + 1) d
theorem s_X12_isWord_174_s33_c39 {G : G9} {X : X9} (C : CX G X cX12_isWord 4 RX12 [] z_X12_isWord_174_s33) : ∀ (v2 v3 : Int) (d : D9), SS G X 4 0 0 39 [(0, rf G 174), (1, sf G 33), (2, i9 v2), (3, i9 v3)] [] d (m_X12_isWord_174_s33_c39  v2 v3 d) :=
  fix9_ind (P := fun k => ∀ (v2 v3 : Int) (d : D9), SS G X 4 0 0 39 [(0, rf G 174), (1, sf G 33), (2, i9 v2), (3, i9 v3)] [] d (k v2 v3 d)) (fun _ _ _ => ss_none) (fun k hk => sb_X12_isWord_174_s33_c39 C k hk) FU
set_option maxRecDepth 100000 in
theorem t_X12_isWord_174_s33 {G : G9} {l : Launch} (h1 : va_D (A9 G) (wl G (fun _ _ => 0))) (h2 : l.stackTraces = false) (d : D9) : MT G l yX12_isWord cX12_isWord 4 z_X12_isWord_174_s33 [rf G 174, sf G 33] d (m_X12_isWord_174_s33  d) := by
  refine mt_of (own := RX12) (by decide) rfl (Nat.le_of_ble_eq_true rfl) h1 h2 [(0, rf G 174), (1, sf G 33)] rfl (fun X hX C => ?_)
  unfold m_X12_isWord_174_s33
  refine r_aload_n C 0 dX12_isWord_0 rfl rfl ?_
  refine r_getI C dX12_isWord_1 fl_X12_160 la_174 ly_174 rfl ?_
  refine r_if_ne C (b := 0) 35 dX12_isWord_4 (by decide) (fun _ => ?_) (fun _ => ?_)
  · refine r_iconst C dX12_isWord_35 ?_
    refine r_istore_n C [(2, i9 0), (0, rf G 174), (1, sf G 33)] dX12_isWord_36 rfl (by decide) rfl ?_
    refine r_iconst C dX12_isWord_37 ?_
    refine r_istore_n C [(3, i9 0), (2, i9 0), (0, rf G 174), (1, sf G 33)] dX12_isWord_38 rfl (by decide) rfl ?_
    refine ss_wide (k' := 0) (n' := 0) (by decide) (by decide) ?_
    refine ss_ls [(0, rf G 174), (1, sf G 33), (2, i9 0), (3, i9 0)] [2, 3, 1, 0] rfl ?_
    exact s_X12_isWord_174_s33_c39 C  0 0 d
  · refine r_aload_n C 0 dX12_isWord_7 rfl rfl ?_
    refine r_getI C dX12_isWord_8 fl_X12_145 la_174 ly_174 rfl ?_
    refine r_iconst C dX12_isWord_11 ?_
    refine r_icmp_ne C 35 dX12_isWord_12 (by decide) (fun _ => ?_) (fun _ => ?_)
    · refine r_iconst C dX12_isWord_35 ?_
      refine r_istore_n C [(2, i9 0), (0, rf G 174), (1, sf G 33)] dX12_isWord_36 rfl (by decide) rfl ?_
      refine r_iconst C dX12_isWord_37 ?_
      refine r_istore_n C [(3, i9 0), (2, i9 0), (0, rf G 174), (1, sf G 33)] dX12_isWord_38 rfl (by decide) rfl ?_
      refine ss_wide (k' := 0) (n' := 0) (by decide) (by decide) ?_
      refine ss_ls [(0, rf G 174), (1, sf G 33), (2, i9 0), (3, i9 0)] [2, 3, 1, 0] rfl ?_
      exact s_X12_isWord_174_s33_c39 C  0 0 d
    · refine r_aload_n C 0 dX12_isWord_15 rfl rfl ?_
      refine r_getI C dX12_isWord_16 fl_X12_139 la_174 ly_174 rfl ?_
      refine r_aload_n C 0 dX12_isWord_19 rfl rfl ?_
      refine r_getI C dX12_isWord_20 fl_X12_142 la_174 ly_174 rfl ?_
      refine r_isub C dX12_isWord_23 ?_
      refine r_aload_nS C 1 dX12_isWord_24 rfl rfl ?_
      refine r_slen C 33 dX12_isWord_25 mw_X12_166 rfl (by decide) (Nat.le_of_ble_eq_true rfl) ?_
      refine r_icmp_ne C 35 dX12_isWord_28 (by decide) (fun _ => ?_) (fun _ => ?_)
      · refine r_iconst C dX12_isWord_35 ?_
        refine r_istore_n C [(2, i9 0), (0, rf G 174), (1, sf G 33)] dX12_isWord_36 rfl (by decide) rfl ?_
        refine r_iconst C dX12_isWord_37 ?_
        refine r_istore_n C [(3, i9 0), (2, i9 0), (0, rf G 174), (1, sf G 33)] dX12_isWord_38 rfl (by decide) rfl ?_
        refine ss_wide (k' := 0) (n' := 0) (by decide) (by decide) ?_
        refine ss_ls [(0, rf G 174), (1, sf G 33), (2, i9 0), (3, i9 0)] [2, 3, 1, 0] rfl ?_
        exact s_X12_isWord_174_s33_c39 C  0 0 d
      · refine r_iconst C dX12_isWord_31 ?_
        refine r_goto C 36 dX12_isWord_32 (by decide) ?_
        refine r_istore_n C [(2, i9 1), (0, rf G 174), (1, sf G 33)] dX12_isWord_36 rfl (by decide) rfl ?_
        refine r_iconst C dX12_isWord_37 ?_
        refine r_istore_n C [(3, i9 0), (2, i9 1), (0, rf G 174), (1, sf G 33)] dX12_isWord_38 rfl (by decide) rfl ?_
        refine ss_wide (k' := 0) (n' := 0) (by decide) (by decide) ?_
        refine ss_ls [(0, rf G 174), (1, sf G 33), (2, i9 1), (3, i9 0)] [2, 3, 1, 0] rfl ?_
        exact s_X12_isWord_174_s33_c39 C  1 0 d

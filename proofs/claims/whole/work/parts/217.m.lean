theorem dX12_stories_0 : decode cX12_stories 0 = .ok (.aload_n 0, 1) := by decide +kernel
theorem dX12_stories_1 : decode cX12_stories 1 = .ok (.iconst 0, 1) := by decide +kernel
theorem dX12_stories_2 : decode cX12_stories 2 = .ok (.putfield 76, 3) := by decide +kernel
theorem dX12_stories_5 : decode cX12_stories 5 = .ok (.iload_n 1, 1) := by decide +kernel
theorem dX12_stories_6 : decode cX12_stories 6 = .ok (.i2l, 1) := by decide +kernel
theorem dX12_stories_7 : decode cX12_stories 7 = .ok (.lconst 0, 1) := by decide +kernel
theorem dX12_stories_8 : decode cX12_stories 8 = .ok (.aload_n 0, 1) := by decide +kernel
theorem dX12_stories_9 : decode cX12_stories 9 = .ok (.getfield 133, 3) := by decide +kernel
theorem dX12_stories_12 : decode cX12_stories 12 = .ok (.i2l, 1) := by decide +kernel
theorem dX12_stories_13 : decode cX12_stories 13 = .ok (.invokestatic 79, 3) := by decide +kernel
theorem dX12_stories_16 : decode cX12_stories 16 = .ok (.ifCond .ne 9, 3) := by decide +kernel
theorem dX12_stories_19 : decode cX12_stories 19 = .ok (.aload_n 0, 1) := by decide +kernel
theorem dX12_stories_20 : decode cX12_stories 20 = .ok (.iconst 1, 1) := by decide +kernel
theorem dX12_stories_21 : decode cX12_stories 21 = .ok (.invokevirtual 89, 3) := by decide +kernel
theorem dX12_stories_24 : decode cX12_stories 24 = .ok (.ireturn, 1) := by decide +kernel
theorem dX12_stories_25 : decode cX12_stories 25 = .ok (.aload_n 0, 1) := by decide +kernel
theorem dX12_stories_26 : decode cX12_stories 26 = .ok (.iload_n 1, 1) := by decide +kernel
theorem dX12_stories_27 : decode cX12_stories 27 = .ok (.invokevirtual 214, 3) := by decide +kernel
theorem dX12_stories_30 : decode cX12_stories 30 = .ok (.iconst 0, 1) := by decide +kernel
theorem dX12_stories_31 : decode cX12_stories 31 = .ok (.istore_n 2, 1) := by decide +kernel
theorem dX12_stories_32 : decode cX12_stories 32 = .ok (.aload_n 0, 1) := by decide +kernel
theorem dX12_stories_33 : decode cX12_stories 33 = .ok (.getfield 160, 3) := by decide +kernel
theorem dX12_stories_36 : decode cX12_stories 36 = .ok (.ifCond .ne 21, 3) := by decide +kernel
theorem dX12_stories_39 : decode cX12_stories 39 = .ok (.aload_n 0, 1) := by decide +kernel
theorem dX12_stories_40 : decode cX12_stories 40 = .ok (.getfield 145, 3) := by decide +kernel
theorem dX12_stories_43 : decode cX12_stories 43 = .ok (.ifCond .eq 14, 3) := by decide +kernel
theorem dX12_stories_46 : decode cX12_stories 46 = .ok (.aload_n 0, 1) := by decide +kernel
theorem dX12_stories_47 : decode cX12_stories 47 = .ok (.iload_n 2, 1) := by decide +kernel
theorem dX12_stories_48 : decode cX12_stories 48 = .ok (.invokevirtual 229, 3) := by decide +kernel
theorem dX12_stories_51 : decode cX12_stories 51 = .ok (.iinc 2 1, 3) := by decide +kernel
theorem dX12_stories_54 : decode cX12_stories 54 = .ok (.goto (-22), 3) := by decide +kernel
theorem dX12_stories_57 : decode cX12_stories 57 = .ok (.aload_n 0, 1) := by decide +kernel
theorem dX12_stories_58 : decode cX12_stories 58 = .ok (.getfield 160, 3) := by decide +kernel
theorem dX12_stories_61 : decode cX12_stories 61 = .ok (.ifCond .ne 41, 3) := by decide +kernel
theorem dX12_stories_64 : decode cX12_stories 64 = .ok (.iconst 0, 1) := by decide +kernel
theorem dX12_stories_65 : decode cX12_stories 65 = .ok (.istore_n 3, 1) := by decide +kernel
theorem dX12_stories_66 : decode cX12_stories 66 = .ok (.iload_n 3, 1) := by decide +kernel
theorem dX12_stories_67 : decode cX12_stories 67 = .ok (.iconst 4, 1) := by decide +kernel
theorem dX12_stories_68 : decode cX12_stories 68 = .ok (.iload_n 2, 1) := by decide +kernel
theorem dX12_stories_69 : decode cX12_stories 69 = .ok (.imul, 1) := by decide +kernel
theorem dX12_stories_70 : decode cX12_stories 70 = .ok (.if_icmp .ge 25, 3) := by decide +kernel
theorem dX12_stories_73 : decode cX12_stories 73 = .ok (.aload_n 0, 1) := by decide +kernel
theorem dX12_stories_74 : decode cX12_stories 74 = .ok (.getfield 9, 3) := by decide +kernel
theorem dX12_stories_77 : decode cX12_stories 77 = .ok (.sipush 1086, 3) := by decide +kernel
theorem dX12_stories_80 : decode cX12_stories 80 = .ok (.iload_n 3, 1) := by decide +kernel
theorem dX12_stories_81 : decode cX12_stories 81 = .ok (.iadd, 1) := by decide +kernel
theorem dX12_stories_82 : decode cX12_stories 82 = .ok (.aload_n 0, 1) := by decide +kernel
theorem dX12_stories_83 : decode cX12_stories 83 = .ok (.getfield 26, 3) := by decide +kernel
theorem dX12_stories_86 : decode cX12_stories 86 = .ok (.iload_n 3, 1) := by decide +kernel
theorem dX12_stories_87 : decode cX12_stories 87 = .ok (.iaload, 1) := by decide +kernel
theorem dX12_stories_88 : decode cX12_stories 88 = .ok (.iastore, 1) := by decide +kernel
theorem dX12_stories_89 : decode cX12_stories 89 = .ok (.iinc 3 1, 3) := by decide +kernel
theorem dX12_stories_92 : decode cX12_stories 92 = .ok (.goto (-26), 3) := by decide +kernel
theorem dX12_stories_95 : decode cX12_stories 95 = .ok (.aload_n 0, 1) := by decide +kernel
theorem dX12_stories_96 : decode cX12_stories 96 = .ok (.getfield 9, 3) := by decide +kernel
theorem dX12_stories_99 : decode cX12_stories 99 = .ok (.iconst 5, 1) := by decide +kernel
theorem dX12_stories_100 : decode cX12_stories 100 = .ok (.iload_n 2, 1) := by decide +kernel
theorem dX12_stories_101 : decode cX12_stories 101 = .ok (.iastore, 1) := by decide +kernel
theorem dX12_stories_102 : decode cX12_stories 102 = .ok (.aload_n 0, 1) := by decide +kernel
theorem dX12_stories_103 : decode cX12_stories 103 = .ok (.iload_n 2, 1) := by decide +kernel
theorem dX12_stories_104 : decode cX12_stories 104 = .ok (.invokevirtual 220, 3) := by decide +kernel
theorem dX12_stories_107 : decode cX12_stories 107 = .ok (.ireturn, 1) := by decide +kernel
abbrev z_X12_stories_174 : Z9 := (some .int, 1, 0, 0, 11, 319)
def m_X12_stories_174_c102 (v2 : Int) (d : D9) : Option R9 := cl (m_X12_ends_174 v2 d) (fun r1 d2 => rt r1 d2)
def b_X12_stories_174_c66 (k_X12_stories_174_c66 : Int → Int → D9 → Option R9) (v2 v3 : Int) (d : D9) : Option R9 := if w32 (4 * v2) ≤ w32 v3 then sd d 175 1604 5 v2 (fun d1 => m_X12_stories_174_c102  v2 d1) else ld d 180 48 v3 (fun t2 => sd d 175 1604 (1086 + v3) t2 (fun d3 => k_X12_stories_174_c66 v2 (v3 + 1) d3))
def m_X12_stories_174_c66 : Int → Int → D9 → Option R9 := fix9 (fun _ _ _ => none) (fun k => b_X12_stories_174_c66 k) FU
def m_X12_stories_174_c57 (v2 : Int) (d : D9) : Option R9 := if w32 (d 174 13) ≠ 0 then m_X12_stories_174_c102  v2 d else m_X12_stories_174_c66  v2 0 d
def b_X12_stories_174_c32 (k_X12_stories_174_c32 : Int → D9 → Option R9) (v2 : Int) (d : D9) : Option R9 := if w32 (d 174 13) ≠ 0 then m_X12_stories_174_c57  v2 d else if w32 (d 174 11) = 0 then m_X12_stories_174_c57  v2 d else cl (m_X12_storyLine_174 v2 d) (fun r1 d2 => k_X12_stories_174_c32 (v2 + 1) d2)
def m_X12_stories_174_c32 : Int → D9 → Option R9 := fix9 (fun _ _ => none) (fun k => b_X12_stories_174_c32 k) FU
def m_X12_stories_174 (p1 : Int) (d : D9) : Option R9 := pf d 174 3 0 (fun d1 => cl (m_X12_within (w32 p1) 0 (w32 (d1 174 7)) d1) (fun r2 d3 => if w32 r2 ≠ 0 then cl (m_X12_starts_174 p1 d3) (fun r4 d5 => m_X12_stories_174_c32  0 d5) else cl (m_X12_fails_174 1 d3) (fun r6 d7 => rt r6 d7)))
set_option maxRecDepth 100000 in
theorem s_X12_stories_174_c102 {G : G9} {X : X9} (C : CX G X cX12_stories 4 RX12 [] z_X12_stories_174) : ∀ (v2 : Int) (d : D9), SS G X 4 0 0 102 [(0, rf G 174), (2, i9 v2)] [] d (m_X12_stories_174_c102  v2 d) := by
  intro v2 d
  unfold m_X12_stories_174_c102
  refine r_aload_n C 0 dX12_stories_102 rfl rfl ?_
  refine r_iload_n C 1 dX12_stories_103 rfl rfl ?_
  refine r_callV C [i9 v2, rf G 174] dX12_stories_104 (t_X12_ends_174 C.h1 C.h2 v2 d) mw_X12_220 mv_X12_ends la_174 ly_174 rfl (by decide) (by decide) (by decide) rfl rfl (Nat.le_of_ble_eq_true rfl) (fun r1 d2 => ?_)
  show SS G X 4 _ _ 107 [(0, rf G 174), (2, i9 v2)] [i9 r1] d2 _
  exact r_iret C dX12_stories_107 (by decide) (by decide)
set_option maxRecDepth 100000 in
theorem sb_X12_stories_174_c66 {G : G9} {X : X9} (C : CX G X cX12_stories 4 RX12 [] z_X12_stories_174) (k_X12_stories_174_c66 : Int → Int → D9 → Option R9) (hk_X12_stories_174_c66 : ∀ (v2 v3 : Int) (d : D9), SS G X 4 0 0 66 [(0, rf G 174), (2, i9 v2), (3, i9 v3)] [] d (k_X12_stories_174_c66 v2 v3 d)) : ∀ (v2 v3 : Int) (d : D9), SS G X 4 0 0 66 [(0, rf G 174), (2, i9 v2), (3, i9 v3)] [] d (b_X12_stories_174_c66 k_X12_stories_174_c66 v2 v3 d) := by
  intro v2 v3 d
  unfold b_X12_stories_174_c66
  refine r_iload_n C 2 dX12_stories_66 rfl rfl ?_
  refine r_iconst C dX12_stories_67 ?_
  refine r_iload_n C 1 dX12_stories_68 rfl rfl ?_
  refine r_imul C dX12_stories_69 ?_
  refine r_icmp_ge C 95 dX12_stories_70 (by decide) (fun _ => ?_) (fun _ => ?_)
  · refine r_aload_n C 0 dX12_stories_95 rfl rfl ?_
    refine r_getR C 175 dX12_stories_96 fl_X12_9 la_174 ly_174 rfl rfl ?_
    refine r_iconst C dX12_stories_99 ?_
    refine r_iload_n C 1 dX12_stories_100 rfl rfl ?_
    refine r_iast C dX12_stories_101 la_175 ly_175 (fun d1 => ?_)
    refine ss_wide (k' := 0) (n' := 0) (by decide) (by decide) ?_
    refine ss_ls [(0, rf G 174), (2, i9 v2)] [0, 1] rfl ?_
    exact s_X12_stories_174_c102 C  v2 d1
  · refine r_aload_n C 0 dX12_stories_73 rfl rfl ?_
    refine r_getR C 175 dX12_stories_74 fl_X12_9 la_174 ly_174 rfl rfl ?_
    refine r_sipush C dX12_stories_77 rfl ?_
    refine r_iload_n C 2 dX12_stories_80 rfl rfl ?_
    refine r_iadd C dX12_stories_81 ?_
    refine r_aload_n C 0 dX12_stories_82 rfl rfl ?_
    refine r_getR C 180 dX12_stories_83 fl_X12_26 la_174 ly_174 rfl rfl ?_
    refine r_iload_n C 2 dX12_stories_86 rfl rfl ?_
    refine r_iald C dX12_stories_87 la_180 ly_180 (fun t2 => ?_)
    refine r_iast C dX12_stories_88 la_175 ly_175 (fun d3 => ?_)
    refine r_iinc C 2 [(3, i9 (v3 + 1)), (0, rf G 174), (2, i9 v2)] dX12_stories_89 rfl (by decide) rfl ?_
    refine r_goto C 66 dX12_stories_92 (by decide) ?_
    refine ss_wide (k' := 0) (n' := 0) (by decide) (by decide) ?_
    refine ss_ls [(0, rf G 174), (2, i9 v2), (3, i9 (v3 + 1))] [1, 2, 0] rfl ?_
    exact hk_X12_stories_174_c66 v2 (v3 + 1) d3
theorem s_X12_stories_174_c66 {G : G9} {X : X9} (C : CX G X cX12_stories 4 RX12 [] z_X12_stories_174) : ∀ (v2 v3 : Int) (d : D9), SS G X 4 0 0 66 [(0, rf G 174), (2, i9 v2), (3, i9 v3)] [] d (m_X12_stories_174_c66  v2 v3 d) :=
  fix9_ind (P := fun k => ∀ (v2 v3 : Int) (d : D9), SS G X 4 0 0 66 [(0, rf G 174), (2, i9 v2), (3, i9 v3)] [] d (k v2 v3 d)) (fun _ _ _ => ss_none) (fun k hk => sb_X12_stories_174_c66 C k hk) FU
set_option maxRecDepth 100000 in
theorem s_X12_stories_174_c57 {G : G9} {X : X9} (C : CX G X cX12_stories 4 RX12 [] z_X12_stories_174) : ∀ (v2 : Int) (d : D9), SS G X 4 0 0 57 [(0, rf G 174), (2, i9 v2)] [] d (m_X12_stories_174_c57  v2 d) := by
  intro v2 d
  unfold m_X12_stories_174_c57
  refine r_aload_n C 0 dX12_stories_57 rfl rfl ?_
  refine r_getI C dX12_stories_58 fl_X12_160 la_174 ly_174 rfl ?_
  refine r_if_ne C (b := 0) 102 dX12_stories_61 (by decide) (fun _ => ?_) (fun _ => ?_)
  · refine ss_wide (k' := 0) (n' := 0) (by decide) (by decide) ?_
    refine ss_ls [(0, rf G 174), (2, i9 v2)] [0, 1] rfl ?_
    exact s_X12_stories_174_c102 C  v2 d
  · refine r_iconst C dX12_stories_64 ?_
    refine r_istore_n C [(3, i9 0), (0, rf G 174), (2, i9 v2)] dX12_stories_65 rfl (by decide) rfl ?_
    refine ss_wide (k' := 0) (n' := 0) (by decide) (by decide) ?_
    refine ss_ls [(0, rf G 174), (2, i9 v2), (3, i9 0)] [1, 2, 0] rfl ?_
    exact s_X12_stories_174_c66 C  v2 0 d
set_option maxRecDepth 100000 in
theorem sb_X12_stories_174_c32 {G : G9} {X : X9} (C : CX G X cX12_stories 4 RX12 [] z_X12_stories_174) (k_X12_stories_174_c32 : Int → D9 → Option R9) (hk_X12_stories_174_c32 : ∀ (v2 : Int) (d : D9), SS G X 4 0 0 32 [(0, rf G 174), (2, i9 v2)] [] d (k_X12_stories_174_c32 v2 d)) : ∀ (v2 : Int) (d : D9), SS G X 4 0 0 32 [(0, rf G 174), (2, i9 v2)] [] d (b_X12_stories_174_c32 k_X12_stories_174_c32 v2 d) := by
  intro v2 d
  unfold b_X12_stories_174_c32
  refine r_aload_n C 0 dX12_stories_32 rfl rfl ?_
  refine r_getI C dX12_stories_33 fl_X12_160 la_174 ly_174 rfl ?_
  refine r_if_ne C (b := 0) 57 dX12_stories_36 (by decide) (fun _ => ?_) (fun _ => ?_)
  · refine ss_wide (k' := 0) (n' := 0) (by decide) (by decide) ?_
    refine ss_ls [(0, rf G 174), (2, i9 v2)] [0, 1] rfl ?_
    exact s_X12_stories_174_c57 C  v2 d
  · refine r_aload_n C 0 dX12_stories_39 rfl rfl ?_
    refine r_getI C dX12_stories_40 fl_X12_145 la_174 ly_174 rfl ?_
    refine r_if_eq C (b := 0) 57 dX12_stories_43 (by decide) (fun _ => ?_) (fun _ => ?_)
    · refine ss_wide (k' := 0) (n' := 0) (by decide) (by decide) ?_
      refine ss_ls [(0, rf G 174), (2, i9 v2)] [0, 1] rfl ?_
      exact s_X12_stories_174_c57 C  v2 d
    · refine r_aload_n C 0 dX12_stories_46 rfl rfl ?_
      refine r_iload_n C 1 dX12_stories_47 rfl rfl ?_
      refine r_callV C [i9 v2, rf G 174] dX12_stories_48 (t_X12_storyLine_174 C.h1 C.h2 v2 d) mw_X12_229 mv_X12_storyLine la_174 ly_174 rfl (by decide) (by decide) (by decide) rfl rfl (Nat.le_of_ble_eq_true rfl) (fun r1 d2 => ?_)
      show SS G X 4 _ _ 51 [(0, rf G 174), (2, i9 v2)] [] d2 _
      refine r_iinc C 1 [(2, i9 (v2 + 1)), (0, rf G 174)] dX12_stories_51 rfl (by decide) rfl ?_
      refine r_goto C 32 dX12_stories_54 (by decide) ?_
      refine ss_wide (k' := 0) (n' := 0) (by decide) (by decide) ?_
      refine ss_ls [(0, rf G 174), (2, i9 (v2 + 1))] [1, 0] rfl ?_
      exact hk_X12_stories_174_c32 (v2 + 1) d2
theorem s_X12_stories_174_c32 {G : G9} {X : X9} (C : CX G X cX12_stories 4 RX12 [] z_X12_stories_174) : ∀ (v2 : Int) (d : D9), SS G X 4 0 0 32 [(0, rf G 174), (2, i9 v2)] [] d (m_X12_stories_174_c32  v2 d) :=
  fix9_ind (P := fun k => ∀ (v2 : Int) (d : D9), SS G X 4 0 0 32 [(0, rf G 174), (2, i9 v2)] [] d (k v2 d)) (fun _ _ => ss_none) (fun k hk => sb_X12_stories_174_c32 C k hk) FU
set_option maxRecDepth 100000 in
theorem t_X12_stories_174 {G : G9} {l : Launch} (h1 : va_D (A9 G) (wl G (fun _ _ => 0))) (h2 : l.stackTraces = false) (p1 : Int) (d : D9) : MT G l yX12_stories cX12_stories 4 z_X12_stories_174 [rf G 174, i9 p1] d (m_X12_stories_174 p1 d) := by
  refine mt_of (own := RX12) (by decide) rfl (Nat.le_of_ble_eq_true rfl) h1 h2 [(0, rf G 174), (1, i9 p1)] rfl (fun X hX C => ?_)
  unfold m_X12_stories_174
  refine r_aload_n C 0 dX12_stories_0 rfl rfl ?_
  refine r_iconst C dX12_stories_1 ?_
  refine r_putI C dX12_stories_2 fp_X12_76 la_174 ly_174 rfl (fun d1 => ?_)
  refine r_iload_n C 1 dX12_stories_5 rfl rfl ?_
  refine r_i2l C dX12_stories_6 ?_
  refine r_lconst C dX12_stories_7 (a := 0) rfl ?_
  refine r_aload_n C 0 dX12_stories_8 rfl rfl ?_
  refine r_getI C dX12_stories_9 fl_X12_133 la_174 ly_174 rfl ?_
  refine r_i2l C dX12_stories_12 ?_
  refine r_callS C [l9 (w32 (d1 174 7)), l9 0, l9 (w32 p1)] dX12_stories_13 (t_X12_within C.h1 C.h2 (w32 p1) 0 (w32 (d1 174 7)) d1) mw_X12_79 ms_X12_within (by decide) (by decide) (by decide) rfl rfl (Nat.le_of_ble_eq_true rfl) (fun r2 d3 => ?_)
  show SS G X 4 _ _ 16 [(0, rf G 174), (1, i9 p1)] [i9 r2] d3 _
  refine r_if_ne C (b := 0) 25 dX12_stories_16 (by decide) (fun _ => ?_) (fun _ => ?_)
  · refine r_aload_n C 0 dX12_stories_25 rfl rfl ?_
    refine r_iload_n C 1 dX12_stories_26 rfl rfl ?_
    refine r_callV C [i9 p1, rf G 174] dX12_stories_27 (t_X12_starts_174 C.h1 C.h2 p1 d3) mw_X12_214 mv_X12_starts la_174 ly_174 rfl (by decide) (by decide) (by decide) rfl rfl (Nat.le_of_ble_eq_true rfl) (fun r4 d5 => ?_)
    show SS G X 4 _ _ 30 [(0, rf G 174), (1, i9 p1)] [] d5 _
    refine r_iconst C dX12_stories_30 ?_
    refine r_istore_n C [(2, i9 0), (0, rf G 174), (1, i9 p1)] dX12_stories_31 rfl (by decide) rfl ?_
    refine ss_wide (k' := 0) (n' := 0) (by decide) (by decide) ?_
    refine ss_ls [(0, rf G 174), (2, i9 0)] [1, 0] rfl ?_
    exact s_X12_stories_174_c32 C  0 d5
  · refine r_aload_n C 0 dX12_stories_19 rfl rfl ?_
    refine r_iconst C dX12_stories_20 ?_
    refine r_callV C [i9 1, rf G 174] dX12_stories_21 (t_X12_fails_174 C.h1 C.h2 1 d3) mw_X12_89 mv_X12_fails la_174 ly_174 rfl (by decide) (by decide) (by decide) rfl rfl (Nat.le_of_ble_eq_true rfl) (fun r6 d7 => ?_)
    show SS G X 4 _ _ 24 [(0, rf G 174), (1, i9 p1)] [i9 r6] d7 _
    exact r_iret C dX12_stories_24 (by decide) (by decide)
theorem dX12_stumps_0 : decode cX12_stumps 0 = .ok (.aload_n 0, 1) := by decide +kernel
theorem dX12_stumps_1 : decode cX12_stumps 1 = .ok (.aload_n 0, 1) := by decide +kernel
theorem dX12_stumps_2 : decode cX12_stumps 2 = .ok (.iload_n 1, 1) := by decide +kernel
theorem dX12_stumps_3 : decode cX12_stumps 3 = .ok (.invokevirtual 103, 3) := by decide +kernel
theorem dX12_stumps_6 : decode cX12_stumps 6 = .ok (.putfield 76, 3) := by decide +kernel
theorem dX12_stumps_9 : decode cX12_stumps 9 = .ok (.aload_n 0, 1) := by decide +kernel
theorem dX12_stumps_10 : decode cX12_stumps 10 = .ok (.getfield 76, 3) := by decide +kernel
theorem dX12_stumps_13 : decode cX12_stumps 13 = .ok (.ifCond .le 5, 3) := by decide +kernel
theorem dX12_stumps_16 : decode cX12_stumps 16 = .ok (.iconst 0, 1) := by decide +kernel
theorem dX12_stumps_17 : decode cX12_stumps 17 = .ok (.ireturn, 1) := by decide +kernel
theorem dX12_stumps_18 : decode cX12_stumps 18 = .ok (.iconst 0, 1) := by decide +kernel
theorem dX12_stumps_19 : decode cX12_stumps 19 = .ok (.istore_n 2, 1) := by decide +kernel
theorem dX12_stumps_20 : decode cX12_stumps 20 = .ok (.iconst 0, 1) := by decide +kernel
theorem dX12_stumps_21 : decode cX12_stumps 21 = .ok (.istore_n 3, 1) := by decide +kernel
theorem dX12_stumps_22 : decode cX12_stumps 22 = .ok (.iload_n 3, 1) := by decide +kernel
theorem dX12_stumps_23 : decode cX12_stumps 23 = .ok (.iconst 5, 1) := by decide +kernel
theorem dX12_stumps_24 : decode cX12_stumps 24 = .ok (.if_icmp .ge 28, 3) := by decide +kernel
theorem dX12_stumps_27 : decode cX12_stumps 27 = .ok (.iload_n 2, 1) := by decide +kernel
theorem dX12_stumps_28 : decode cX12_stumps 28 = .ok (.aload_n 0, 1) := by decide +kernel
theorem dX12_stumps_29 : decode cX12_stumps 29 = .ok (.iload_n 1, 1) := by decide +kernel
theorem dX12_stumps_30 : decode cX12_stumps 30 = .ok (.iload_n 3, 1) := by decide +kernel
theorem dX12_stumps_31 : decode cX12_stumps 31 = .ok (.invokevirtual 424, 3) := by decide +kernel
theorem dX12_stumps_34 : decode cX12_stumps 34 = .ok (.ifCond .eq 9, 3) := by decide +kernel
theorem dX12_stumps_37 : decode cX12_stumps 37 = .ok (.iconst 1, 1) := by decide +kernel
theorem dX12_stumps_38 : decode cX12_stumps 38 = .ok (.iload_n 3, 1) := by decide +kernel
theorem dX12_stumps_39 : decode cX12_stumps 39 = .ok (.ishl, 1) := by decide +kernel
theorem dX12_stumps_40 : decode cX12_stumps 40 = .ok (.goto 4, 3) := by decide +kernel
theorem dX12_stumps_43 : decode cX12_stumps 43 = .ok (.iconst 0, 1) := by decide +kernel
theorem dX12_stumps_44 : decode cX12_stumps 44 = .ok (.ior, 1) := by decide +kernel
theorem dX12_stumps_45 : decode cX12_stumps 45 = .ok (.istore_n 2, 1) := by decide +kernel
theorem dX12_stumps_46 : decode cX12_stumps 46 = .ok (.iinc 3 1, 3) := by decide +kernel
theorem dX12_stumps_49 : decode cX12_stumps 49 = .ok (.goto (-27), 3) := by decide +kernel
theorem dX12_stumps_52 : decode cX12_stumps 52 = .ok (.iload_n 2, 1) := by decide +kernel
theorem dX12_stumps_53 : decode cX12_stumps 53 = .ok (.ireturn, 1) := by decide +kernel
abbrev z_X12_stumps_174 : Z9 := (some .int, 1, 0, 0, 6, 132)
def b_X12_stumps_174_c22 (k_X12_stumps_174_c22 : Int → Int → Int → D9 → Option R9) (v1 v2 v3 : Int) (d : D9) : Option R9 := if w32 5 ≤ w32 v3 then rt v2 d else cl (m_X12_isStump_174 v1 v3 d) (fun r1 d2 => if w32 r1 = 0 then lt9v (or9 v2 0) (fun a3 => k_X12_stumps_174_c22 v1 a3 (v3 + 1) d2) else lt9v (or9 v2 (shl9 1 v3)) (fun a4 => k_X12_stumps_174_c22 v1 a4 (v3 + 1) d2))
def m_X12_stumps_174_c22 : Int → Int → Int → D9 → Option R9 := fix9 (fun _ _ _ _ => none) (fun k => b_X12_stumps_174_c22 k) FU
def m_X12_stumps_174 (p1 : Int) (d : D9) : Option R9 := cl (m_X12_handFault_174 p1 d) (fun r1 d2 => pf d2 174 3 r1 (fun d3 => if w32 (d3 174 3) ≤ 0 then m_X12_stumps_174_c22  p1 0 0 d3 else rt 0 d3))
set_option maxRecDepth 100000 in
theorem sb_X12_stumps_174_c22 {G : G9} {X : X9} (C : CX G X cX12_stumps 4 RX12 [] z_X12_stumps_174) (k_X12_stumps_174_c22 : Int → Int → Int → D9 → Option R9) (hk_X12_stumps_174_c22 : ∀ (v1 v2 v3 : Int) (d : D9), SS G X 4 0 0 22 [(0, rf G 174), (1, i9 v1), (2, i9 v2), (3, i9 v3)] [] d (k_X12_stumps_174_c22 v1 v2 v3 d)) : ∀ (v1 v2 v3 : Int) (d : D9), SS G X 4 0 0 22 [(0, rf G 174), (1, i9 v1), (2, i9 v2), (3, i9 v3)] [] d (b_X12_stumps_174_c22 k_X12_stumps_174_c22 v1 v2 v3 d) := by
  intro v1 v2 v3 d
  unfold b_X12_stumps_174_c22
  refine r_iload_n C 3 dX12_stumps_22 rfl rfl ?_
  refine r_iconst C dX12_stumps_23 ?_
  refine r_icmp_ge C 52 dX12_stumps_24 (by decide) (fun _ => ?_) (fun _ => ?_)
  · refine r_iload_n C 2 dX12_stumps_52 rfl rfl ?_
    exact r_iret C dX12_stumps_53 (by decide) (by decide)
  · refine r_iload_n C 2 dX12_stumps_27 rfl rfl ?_
    refine r_aload_n C 0 dX12_stumps_28 rfl rfl ?_
    refine r_iload_n C 1 dX12_stumps_29 rfl rfl ?_
    refine r_iload_n C 3 dX12_stumps_30 rfl rfl ?_
    refine r_callV C [i9 v3, i9 v1, rf G 174, i9 v2] dX12_stumps_31 (t_X12_isStump_174 C.h1 C.h2 v1 v3 d) mw_X12_424 mv_X12_isStump la_174 ly_174 rfl (by decide) (by decide) (by decide) rfl rfl (Nat.le_of_ble_eq_true rfl) (fun r1 d2 => ?_)
    show SS G X 4 _ _ 34 [(0, rf G 174), (1, i9 v1), (2, i9 v2), (3, i9 v3)] [i9 r1, i9 v2] d2 _
    refine r_if_eq C (b := 0) 43 dX12_stumps_34 (by decide) (fun _ => ?_) (fun _ => ?_)
    · refine r_iconst C dX12_stumps_43 ?_
      refine r_ior C dX12_stumps_44 ?_
      refine ss_lt (fun a3 => ?_)
      refine r_istore_n C [(2, i9 a3), (0, rf G 174), (1, i9 v1), (3, i9 v3)] dX12_stumps_45 rfl (by decide) rfl ?_
      refine r_iinc C 3 [(3, i9 (v3 + 1)), (2, i9 a3), (0, rf G 174), (1, i9 v1)] dX12_stumps_46 rfl (by decide) rfl ?_
      refine r_goto C 22 dX12_stumps_49 (by decide) ?_
      refine ss_wide (k' := 0) (n' := 0) (by decide) (by decide) ?_
      refine ss_ls [(0, rf G 174), (1, i9 v1), (2, i9 a3), (3, i9 (v3 + 1))] [2, 3, 1, 0] rfl ?_
      exact hk_X12_stumps_174_c22 v1 a3 (v3 + 1) d2
    · refine r_iconst C dX12_stumps_37 ?_
      refine r_iload_n C 3 dX12_stumps_38 rfl rfl ?_
      refine r_ishl C dX12_stumps_39 ?_
      refine r_goto C 44 dX12_stumps_40 (by decide) ?_
      refine r_ior C dX12_stumps_44 ?_
      refine ss_lt (fun a4 => ?_)
      refine r_istore_n C [(2, i9 a4), (0, rf G 174), (1, i9 v1), (3, i9 v3)] dX12_stumps_45 rfl (by decide) rfl ?_
      refine r_iinc C 3 [(3, i9 (v3 + 1)), (2, i9 a4), (0, rf G 174), (1, i9 v1)] dX12_stumps_46 rfl (by decide) rfl ?_
      refine r_goto C 22 dX12_stumps_49 (by decide) ?_
      refine ss_wide (k' := 0) (n' := 0) (by decide) (by decide) ?_
      refine ss_ls [(0, rf G 174), (1, i9 v1), (2, i9 a4), (3, i9 (v3 + 1))] [2, 3, 1, 0] rfl ?_
      exact hk_X12_stumps_174_c22 v1 a4 (v3 + 1) d2
theorem s_X12_stumps_174_c22 {G : G9} {X : X9} (C : CX G X cX12_stumps 4 RX12 [] z_X12_stumps_174) : ∀ (v1 v2 v3 : Int) (d : D9), SS G X 4 0 0 22 [(0, rf G 174), (1, i9 v1), (2, i9 v2), (3, i9 v3)] [] d (m_X12_stumps_174_c22  v1 v2 v3 d) :=
  fix9_ind (P := fun k => ∀ (v1 v2 v3 : Int) (d : D9), SS G X 4 0 0 22 [(0, rf G 174), (1, i9 v1), (2, i9 v2), (3, i9 v3)] [] d (k v1 v2 v3 d)) (fun _ _ _ _ => ss_none) (fun k hk => sb_X12_stumps_174_c22 C k hk) FU
set_option maxRecDepth 100000 in
theorem t_X12_stumps_174 {G : G9} {l : Launch} (h1 : va_D (A9 G) (wl G (fun _ _ => 0))) (h2 : l.stackTraces = false) (p1 : Int) (d : D9) : MT G l yX12_stumps cX12_stumps 4 z_X12_stumps_174 [rf G 174, i9 p1] d (m_X12_stumps_174 p1 d) := by
  refine mt_of (own := RX12) (by decide) rfl (Nat.le_of_ble_eq_true rfl) h1 h2 [(0, rf G 174), (1, i9 p1)] rfl (fun X hX C => ?_)
  unfold m_X12_stumps_174
  refine r_aload_n C 0 dX12_stumps_0 rfl rfl ?_
  refine r_aload_n C 0 dX12_stumps_1 rfl rfl ?_
  refine r_iload_n C 1 dX12_stumps_2 rfl rfl ?_
  refine r_callV C [i9 p1, rf G 174, rf G 174] dX12_stumps_3 (t_X12_handFault_174 C.h1 C.h2 p1 d) mw_X12_103 mv_X12_handFault la_174 ly_174 rfl (by decide) (by decide) (by decide) rfl rfl (Nat.le_of_ble_eq_true rfl) (fun r1 d2 => ?_)
  show SS G X 4 _ _ 6 [(0, rf G 174), (1, i9 p1)] [i9 r1, rf G 174] d2 _
  refine r_putI C dX12_stumps_6 fp_X12_76 la_174 ly_174 rfl (fun d3 => ?_)
  refine r_aload_n C 0 dX12_stumps_9 rfl rfl ?_
  refine r_getI C dX12_stumps_10 fl_X12_76 la_174 ly_174 rfl ?_
  refine r_if_le C (b := 0) 18 dX12_stumps_13 (by decide) (fun _ => ?_) (fun _ => ?_)
  · refine r_iconst C dX12_stumps_18 ?_
    refine r_istore_n C [(2, i9 0), (0, rf G 174), (1, i9 p1)] dX12_stumps_19 rfl (by decide) rfl ?_
    refine r_iconst C dX12_stumps_20 ?_
    refine r_istore_n C [(3, i9 0), (2, i9 0), (0, rf G 174), (1, i9 p1)] dX12_stumps_21 rfl (by decide) rfl ?_
    refine ss_wide (k' := 0) (n' := 0) (by decide) (by decide) ?_
    refine ss_ls [(0, rf G 174), (1, i9 p1), (2, i9 0), (3, i9 0)] [2, 3, 1, 0] rfl ?_
    exact s_X12_stumps_174_c22 C  p1 0 0 d3
  · refine r_iconst C dX12_stumps_16 ?_
    exact r_iret C dX12_stumps_17 (by decide) (by decide)
theorem dX12_thrown_0 : decode cX12_thrown 0 = .ok (.aload_n 0, 1) := by decide +kernel
theorem dX12_thrown_1 : decode cX12_thrown 1 = .ok (.getfield 76, 3) := by decide +kernel
theorem dX12_thrown_4 : decode cX12_thrown 4 = .ok (.ireturn, 1) := by decide +kernel
abbrev z_X12_thrown_174 : Z9 := (some .int, 1, 0, 0, 1, 0)
def m_X12_thrown_174 (d : D9) : Option R9 := rt (d 174 3) d
set_option maxRecDepth 100000 in
theorem t_X12_thrown_174 {G : G9} {l : Launch} (h1 : va_D (A9 G) (wl G (fun _ _ => 0))) (h2 : l.stackTraces = false) (d : D9) : MT G l yX12_thrown cX12_thrown 1 z_X12_thrown_174 [rf G 174] d (m_X12_thrown_174  d) := by
  refine mt_of (own := RX12) (by decide) rfl (Nat.le_of_ble_eq_true rfl) h1 h2 [(0, rf G 174)] rfl (fun X hX C => ?_)
  unfold m_X12_thrown_174
  refine r_aload_n C 0 dX12_thrown_0 rfl rfl ?_
  refine r_getI C dX12_thrown_1 fl_X12_76 la_174 ly_174 rfl ?_
  exact r_iret C dX12_thrown_4 (by decide) (by decide)
theorem dX12_times_0 : decode cX12_times 0 = .ok (.aload_n 0, 1) := by decide +kernel
theorem dX12_times_1 : decode cX12_times 1 = .ok (.iconst 0, 1) := by decide +kernel
theorem dX12_times_2 : decode cX12_times 2 = .ok (.putfield 76, 3) := by decide +kernel
theorem dX12_times_5 : decode cX12_times 5 = .ok (.aload_n 0, 1) := by decide +kernel
theorem dX12_times_6 : decode cX12_times 6 = .ok (.iload_n 1, 1) := by decide +kernel
theorem dX12_times_7 : decode cX12_times 7 = .ok (.invokevirtual 95, 3) := by decide +kernel
theorem dX12_times_10 : decode cX12_times 10 = .ok (.ifCond .ne 9, 3) := by decide +kernel
theorem dX12_times_13 : decode cX12_times 13 = .ok (.aload_n 0, 1) := by decide +kernel
theorem dX12_times_14 : decode cX12_times 14 = .ok (.iconst 1, 1) := by decide +kernel
theorem dX12_times_15 : decode cX12_times 15 = .ok (.invokevirtual 89, 3) := by decide +kernel
theorem dX12_times_18 : decode cX12_times 18 = .ok (.ireturn, 1) := by decide +kernel
theorem dX12_times_19 : decode cX12_times 19 = .ok (.iload_n 2, 1) := by decide +kernel
theorem dX12_times_20 : decode cX12_times 20 = .ok (.i2l, 1) := by decide +kernel
theorem dX12_times_21 : decode cX12_times 21 = .ok (.lconst 0, 1) := by decide +kernel
theorem dX12_times_22 : decode cX12_times 22 = .ok (.ldc2_w 114, 3) := by decide +kernel
theorem dX12_times_25 : decode cX12_times 25 = .ok (.invokestatic 79, 3) := by decide +kernel
theorem dX12_times_28 : decode cX12_times 28 = .ok (.ifCond .ne 9, 3) := by decide +kernel
theorem dX12_times_31 : decode cX12_times 31 = .ok (.aload_n 0, 1) := by decide +kernel
theorem dX12_times_32 : decode cX12_times 32 = .ok (.iconst 2, 1) := by decide +kernel
theorem dX12_times_33 : decode cX12_times 33 = .ok (.invokevirtual 89, 3) := by decide +kernel
theorem dX12_times_36 : decode cX12_times 36 = .ok (.ireturn, 1) := by decide +kernel
theorem dX12_times_37 : decode cX12_times 37 = .ok (.aload_n 0, 1) := by decide +kernel
theorem dX12_times_38 : decode cX12_times 38 = .ok (.iload_n 1, 1) := by decide +kernel
theorem dX12_times_39 : decode cX12_times 39 = .ok (.invokevirtual 433, 3) := by decide +kernel
theorem dX12_times_42 : decode cX12_times 42 = .ok (.istore_n 3, 1) := by decide +kernel
theorem dX12_times_43 : decode cX12_times 43 = .ok (.iload_n 2, 1) := by decide +kernel
theorem dX12_times_44 : decode cX12_times 44 = .ok (.ifCond .ne 5, 3) := by decide +kernel
theorem dX12_times_47 : decode cX12_times 47 = .ok (.iload_n 3, 1) := by decide +kernel
theorem dX12_times_48 : decode cX12_times 48 = .ok (.ireturn, 1) := by decide +kernel
theorem dX12_times_49 : decode cX12_times 49 = .ok (.iconst (-1), 1) := by decide +kernel
theorem dX12_times_50 : decode cX12_times 50 = .ok (.istore 4, 2) := by decide +kernel
theorem dX12_times_52 : decode cX12_times 52 = .ok (.iconst (-1), 1) := by decide +kernel
theorem dX12_times_53 : decode cX12_times 53 = .ok (.istore 5, 2) := by decide +kernel
theorem dX12_times_55 : decode cX12_times 55 = .ok (.iconst 0, 1) := by decide +kernel
theorem dX12_times_56 : decode cX12_times 56 = .ok (.istore 6, 2) := by decide +kernel
theorem dX12_times_58 : decode cX12_times 58 = .ok (.iload 6, 2) := by decide +kernel
theorem dX12_times_60 : decode cX12_times 60 = .ok (.sipush 400, 3) := by decide +kernel
theorem dX12_times_63 : decode cX12_times 63 = .ok (.if_icmp .gt 41, 3) := by decide +kernel
theorem dX12_times_66 : decode cX12_times 66 = .ok (.aload_n 0, 1) := by decide +kernel
theorem dX12_times_67 : decode cX12_times 67 = .ok (.getfield 49, 3) := by decide +kernel
theorem dX12_times_70 : decode cX12_times 70 = .ok (.iload 6, 2) := by decide +kernel
theorem dX12_times_72 : decode cX12_times 72 = .ok (.baload, 1) := by decide +kernel
theorem dX12_times_73 : decode cX12_times 73 = .ok (.ifCond .ne 6, 3) := by decide +kernel
theorem dX12_times_76 : decode cX12_times 76 = .ok (.goto 22, 3) := by decide +kernel
theorem dX12_times_79 : decode cX12_times 79 = .ok (.iload 4, 2) := by decide +kernel
theorem dX12_times_81 : decode cX12_times 81 = .ok (.iconst (-1), 1) := by decide +kernel
theorem dX12_times_82 : decode cX12_times 82 = .ok (.if_icmp .ne 8, 3) := by decide +kernel
theorem dX12_times_85 : decode cX12_times 85 = .ok (.iload 6, 2) := by decide +kernel
theorem dX12_times_87 : decode cX12_times 87 = .ok (.goto 5, 3) := by decide +kernel
theorem dX12_times_90 : decode cX12_times 90 = .ok (.iload 4, 2) := by decide +kernel
theorem dX12_times_92 : decode cX12_times 92 = .ok (.istore 4, 2) := by decide +kernel
theorem dX12_times_94 : decode cX12_times 94 = .ok (.iload 6, 2) := by decide +kernel
theorem dX12_times_96 : decode cX12_times 96 = .ok (.istore 5, 2) := by decide +kernel
theorem dX12_times_98 : decode cX12_times 98 = .ok (.iinc 6 1, 3) := by decide +kernel
theorem dX12_times_101 : decode cX12_times 101 = .ok (.goto (-43), 3) := by decide +kernel
theorem dX12_times_104 : decode cX12_times 104 = .ok (.iload_n 2, 1) := by decide +kernel
theorem dX12_times_105 : decode cX12_times 105 = .ok (.iconst 1, 1) := by decide +kernel
theorem dX12_times_106 : decode cX12_times 106 = .ok (.if_icmp .ne 8, 3) := by decide +kernel
theorem dX12_times_109 : decode cX12_times 109 = .ok (.iload 4, 2) := by decide +kernel
theorem dX12_times_111 : decode cX12_times 111 = .ok (.goto 5, 3) := by decide +kernel
theorem dX12_times_114 : decode cX12_times 114 = .ok (.iload 5, 2) := by decide +kernel
theorem dX12_times_116 : decode cX12_times 116 = .ok (.ireturn, 1) := by decide +kernel
abbrev z_X12_times_174 : Z9 := (some .int, 1, 0, 0, 11, 277)
def b_X12_times_174_c58 (k_X12_times_174_c58 : Int → Int → Int → Int → D9 → Option R9) (v2 v4 v5 v6 : Int) (d : D9) : Option R9 := if w32 400 < w32 v6 then if w32 v2 ≠ w32 1 then rt v5 d else rt v4 d else ld d 186 401 v6 (fun t1 => if w32 t1 ≠ 0 then if w32 v4 ≠ w32 (-1) then k_X12_times_174_c58 v2 v4 v6 (v6 + 1) d else k_X12_times_174_c58 v2 v6 v6 (v6 + 1) d else k_X12_times_174_c58 v2 v4 v5 (v6 + 1) d)
def m_X12_times_174_c58 : Int → Int → Int → Int → D9 → Option R9 := fix9 (fun _ _ _ _ _ => none) (fun k => b_X12_times_174_c58 k) FU
def m_X12_times_174 (p1 p2 : Int) (d : D9) : Option R9 := pf d 174 3 0 (fun d1 => cl (m_X12_isPaint_174 p1 d1) (fun r2 d3 => if w32 r2 ≠ 0 then cl (m_X12_within (w32 p2) 0 2 d3) (fun r4 d5 => if w32 r4 ≠ 0 then cl (m_X12_layTimes_174 p1 d5) (fun r6 d7 => if w32 p2 ≠ 0 then m_X12_times_174_c58  p2 (-1) (-1) 0 d7 else rt r6 d7) else cl (m_X12_fails_174 2 d5) (fun r8 d9 => rt r8 d9)) else cl (m_X12_fails_174 1 d3) (fun r10 d11 => rt r10 d11)))
set_option maxRecDepth 100000 in
theorem sb_X12_times_174_c58 {G : G9} {X : X9} (C : CX G X cX12_times 7 RX12 [] z_X12_times_174) (k_X12_times_174_c58 : Int → Int → Int → Int → D9 → Option R9) (hk_X12_times_174_c58 : ∀ (v2 v4 v5 v6 : Int) (d : D9), SS G X 7 0 0 58 [(0, rf G 174), (2, i9 v2), (4, i9 v4), (5, i9 v5), (6, i9 v6)] [] d (k_X12_times_174_c58 v2 v4 v5 v6 d)) : ∀ (v2 v4 v5 v6 : Int) (d : D9), SS G X 7 0 0 58 [(0, rf G 174), (2, i9 v2), (4, i9 v4), (5, i9 v5), (6, i9 v6)] [] d (b_X12_times_174_c58 k_X12_times_174_c58 v2 v4 v5 v6 d) := by
  intro v2 v4 v5 v6 d
  unfold b_X12_times_174_c58
  refine r_iload C 4 dX12_times_58 rfl ?_
  refine r_sipush C dX12_times_60 rfl ?_
  refine r_icmp_gt C 104 dX12_times_63 (by decide) (fun _ => ?_) (fun _ => ?_)
  · refine r_iload_n C 1 dX12_times_104 rfl rfl ?_
    refine r_iconst C dX12_times_105 ?_
    refine r_icmp_ne C 114 dX12_times_106 (by decide) (fun _ => ?_) (fun _ => ?_)
    · refine r_iload C 3 dX12_times_114 rfl ?_
      exact r_iret C dX12_times_116 (by decide) (by decide)
    · refine r_iload C 2 dX12_times_109 rfl ?_
      refine r_goto C 116 dX12_times_111 (by decide) ?_
      exact r_iret C dX12_times_116 (by decide) (by decide)
  · refine r_aload_n C 0 dX12_times_66 rfl rfl ?_
    refine r_getR C 186 dX12_times_67 fl_X12_49 la_174 ly_174 rfl rfl ?_
    refine r_iload C 4 dX12_times_70 rfl ?_
    refine r_zald C dX12_times_72 la_186 ly_186 (fun t1 => ?_)
    refine r_if_ne C (b := 0) 79 dX12_times_73 (by decide) (fun _ => ?_) (fun _ => ?_)
    · refine r_iload C 2 dX12_times_79 rfl ?_
      refine r_iconst C dX12_times_81 ?_
      refine r_icmp_ne C 90 dX12_times_82 (by decide) (fun _ => ?_) (fun _ => ?_)
      · refine r_iload C 2 dX12_times_90 rfl ?_
        refine r_istore C [(4, i9 v4), (0, rf G 174), (2, i9 v2), (5, i9 v5), (6, i9 v6)] dX12_times_92 (by decide) rfl ?_
        refine r_iload C 4 dX12_times_94 rfl ?_
        refine r_istore C [(5, i9 v6), (4, i9 v4), (0, rf G 174), (2, i9 v2), (6, i9 v6)] dX12_times_96 (by decide) rfl ?_
        refine r_iinc C 4 [(6, i9 (v6 + 1)), (5, i9 v6), (4, i9 v4), (0, rf G 174), (2, i9 v2)] dX12_times_98 rfl (by decide) rfl ?_
        refine r_goto C 58 dX12_times_101 (by decide) ?_
        refine ss_wide (k' := 0) (n' := 0) (by decide) (by decide) ?_
        refine ss_ls [(0, rf G 174), (2, i9 v2), (4, i9 v4), (5, i9 v6), (6, i9 (v6 + 1))] [3, 4, 2, 1, 0] rfl ?_
        exact hk_X12_times_174_c58 v2 v4 v6 (v6 + 1) d
      · refine r_iload C 4 dX12_times_85 rfl ?_
        refine r_goto C 92 dX12_times_87 (by decide) ?_
        refine r_istore C [(4, i9 v6), (0, rf G 174), (2, i9 v2), (5, i9 v5), (6, i9 v6)] dX12_times_92 (by decide) rfl ?_
        refine r_iload C 4 dX12_times_94 rfl ?_
        refine r_istore C [(5, i9 v6), (4, i9 v6), (0, rf G 174), (2, i9 v2), (6, i9 v6)] dX12_times_96 (by decide) rfl ?_
        refine r_iinc C 4 [(6, i9 (v6 + 1)), (5, i9 v6), (4, i9 v6), (0, rf G 174), (2, i9 v2)] dX12_times_98 rfl (by decide) rfl ?_
        refine r_goto C 58 dX12_times_101 (by decide) ?_
        refine ss_wide (k' := 0) (n' := 0) (by decide) (by decide) ?_
        refine ss_ls [(0, rf G 174), (2, i9 v2), (4, i9 v6), (5, i9 v6), (6, i9 (v6 + 1))] [3, 4, 2, 1, 0] rfl ?_
        exact hk_X12_times_174_c58 v2 v6 v6 (v6 + 1) d
    · refine r_goto C 98 dX12_times_76 (by decide) ?_
      refine r_iinc C 4 [(6, i9 (v6 + 1)), (0, rf G 174), (2, i9 v2), (4, i9 v4), (5, i9 v5)] dX12_times_98 rfl (by decide) rfl ?_
      refine r_goto C 58 dX12_times_101 (by decide) ?_
      refine ss_wide (k' := 0) (n' := 0) (by decide) (by decide) ?_
      refine ss_ls [(0, rf G 174), (2, i9 v2), (4, i9 v4), (5, i9 v5), (6, i9 (v6 + 1))] [1, 2, 3, 4, 0] rfl ?_
      exact hk_X12_times_174_c58 v2 v4 v5 (v6 + 1) d
theorem s_X12_times_174_c58 {G : G9} {X : X9} (C : CX G X cX12_times 7 RX12 [] z_X12_times_174) : ∀ (v2 v4 v5 v6 : Int) (d : D9), SS G X 7 0 0 58 [(0, rf G 174), (2, i9 v2), (4, i9 v4), (5, i9 v5), (6, i9 v6)] [] d (m_X12_times_174_c58  v2 v4 v5 v6 d) :=
  fix9_ind (P := fun k => ∀ (v2 v4 v5 v6 : Int) (d : D9), SS G X 7 0 0 58 [(0, rf G 174), (2, i9 v2), (4, i9 v4), (5, i9 v5), (6, i9 v6)] [] d (k v2 v4 v5 v6 d)) (fun _ _ _ _ _ => ss_none) (fun k hk => sb_X12_times_174_c58 C k hk) FU
set_option maxRecDepth 100000 in
theorem t_X12_times_174 {G : G9} {l : Launch} (h1 : va_D (A9 G) (wl G (fun _ _ => 0))) (h2 : l.stackTraces = false) (p1 p2 : Int) (d : D9) : MT G l yX12_times cX12_times 7 z_X12_times_174 [rf G 174, i9 p1, i9 p2] d (m_X12_times_174 p1 p2 d) := by
  refine mt_of (own := RX12) (by decide) rfl (Nat.le_of_ble_eq_true rfl) h1 h2 [(0, rf G 174), (1, i9 p1), (2, i9 p2)] rfl (fun X hX C => ?_)
  unfold m_X12_times_174
  refine r_aload_n C 0 dX12_times_0 rfl rfl ?_
  refine r_iconst C dX12_times_1 ?_
  refine r_putI C dX12_times_2 fp_X12_76 la_174 ly_174 rfl (fun d1 => ?_)
  refine r_aload_n C 0 dX12_times_5 rfl rfl ?_
  refine r_iload_n C 1 dX12_times_6 rfl rfl ?_
  refine r_callV C [i9 p1, rf G 174] dX12_times_7 (t_X12_isPaint_174 C.h1 C.h2 p1 d1) mw_X12_95 mv_X12_isPaint la_174 ly_174 rfl (by decide) (by decide) (by decide) rfl rfl (Nat.le_of_ble_eq_true rfl) (fun r2 d3 => ?_)
  show SS G X 7 _ _ 10 [(0, rf G 174), (1, i9 p1), (2, i9 p2)] [i9 r2] d3 _
  refine r_if_ne C (b := 0) 19 dX12_times_10 (by decide) (fun _ => ?_) (fun _ => ?_)
  · refine r_iload_n C 2 dX12_times_19 rfl rfl ?_
    refine r_i2l C dX12_times_20 ?_
    refine r_lconst C dX12_times_21 (a := 0) rfl ?_
    refine r_ldcL C dX12_times_22 kc_X12_114 ?_
    refine r_callS C [l9 2, l9 0, l9 (w32 p2)] dX12_times_25 (t_X12_within C.h1 C.h2 (w32 p2) 0 2 d3) mw_X12_79 ms_X12_within (by decide) (by decide) (by decide) rfl rfl (Nat.le_of_ble_eq_true rfl) (fun r4 d5 => ?_)
    show SS G X 7 _ _ 28 [(0, rf G 174), (1, i9 p1), (2, i9 p2)] [i9 r4] d5 _
    refine r_if_ne C (b := 0) 37 dX12_times_28 (by decide) (fun _ => ?_) (fun _ => ?_)
    · refine r_aload_n C 0 dX12_times_37 rfl rfl ?_
      refine r_iload_n C 1 dX12_times_38 rfl rfl ?_
      refine r_callV C [i9 p1, rf G 174] dX12_times_39 (t_X12_layTimes_174 C.h1 C.h2 p1 d5) mw_X12_433 mv_X12_layTimes la_174 ly_174 rfl (by decide) (by decide) (by decide) rfl rfl (Nat.le_of_ble_eq_true rfl) (fun r6 d7 => ?_)
      show SS G X 7 _ _ 42 [(0, rf G 174), (1, i9 p1), (2, i9 p2)] [i9 r6] d7 _
      refine r_istore_n C [(3, i9 r6), (0, rf G 174), (1, i9 p1), (2, i9 p2)] dX12_times_42 rfl (by decide) rfl ?_
      refine r_iload_n C 3 dX12_times_43 rfl rfl ?_
      refine r_if_ne C (b := 0) 49 dX12_times_44 (by decide) (fun _ => ?_) (fun _ => ?_)
      · refine r_iconst C dX12_times_49 ?_
        refine r_istore C [(4, i9 (-1)), (3, i9 r6), (0, rf G 174), (1, i9 p1), (2, i9 p2)] dX12_times_50 (by decide) rfl ?_
        refine r_iconst C dX12_times_52 ?_
        refine r_istore C [(5, i9 (-1)), (4, i9 (-1)), (3, i9 r6), (0, rf G 174), (1, i9 p1), (2, i9 p2)] dX12_times_53 (by decide) rfl ?_
        refine r_iconst C dX12_times_55 ?_
        refine r_istore C [(6, i9 0), (5, i9 (-1)), (4, i9 (-1)), (3, i9 r6), (0, rf G 174), (1, i9 p1), (2, i9 p2)] dX12_times_56 (by decide) rfl ?_
        refine ss_wide (k' := 0) (n' := 0) (by decide) (by decide) ?_
        refine ss_ls [(0, rf G 174), (2, i9 p2), (4, i9 (-1)), (5, i9 (-1)), (6, i9 0)] [4, 6, 2, 1, 0] rfl ?_
        exact s_X12_times_174_c58 C  p2 (-1) (-1) 0 d7
      · refine r_iload_n C 0 dX12_times_47 rfl rfl ?_
        exact r_iret C dX12_times_48 (by decide) (by decide)
    · refine r_aload_n C 0 dX12_times_31 rfl rfl ?_
      refine r_iconst C dX12_times_32 ?_
      refine r_callV C [i9 2, rf G 174] dX12_times_33 (t_X12_fails_174 C.h1 C.h2 2 d5) mw_X12_89 mv_X12_fails la_174 ly_174 rfl (by decide) (by decide) (by decide) rfl rfl (Nat.le_of_ble_eq_true rfl) (fun r8 d9 => ?_)
      show SS G X 7 _ _ 36 [(0, rf G 174), (1, i9 p1), (2, i9 p2)] [i9 r8] d9 _
      exact r_iret C dX12_times_36 (by decide) (by decide)
  · refine r_aload_n C 0 dX12_times_13 rfl rfl ?_
    refine r_iconst C dX12_times_14 ?_
    refine r_callV C [i9 1, rf G 174] dX12_times_15 (t_X12_fails_174 C.h1 C.h2 1 d3) mw_X12_89 mv_X12_fails la_174 ly_174 rfl (by decide) (by decide) (by decide) rfl rfl (Nat.le_of_ble_eq_true rfl) (fun r10 d11 => ?_)
    show SS G X 7 _ _ 18 [(0, rf G 174), (1, i9 p1), (2, i9 p2)] [i9 r10] d11 _
    exact r_iret C dX12_times_18 (by decide) (by decide)
theorem dX12_told_0 : decode cX12_told 0 = .ok (.aload_n 0, 1) := by decide +kernel
theorem dX12_told_1 : decode cX12_told 1 = .ok (.iconst 0, 1) := by decide +kernel
theorem dX12_told_2 : decode cX12_told 2 = .ok (.putfield 76, 3) := by decide +kernel
theorem dX12_told_5 : decode cX12_told 5 = .ok (.iload_n 1, 1) := by decide +kernel
theorem dX12_told_6 : decode cX12_told 6 = .ok (.i2l, 1) := by decide +kernel
theorem dX12_told_7 : decode cX12_told 7 = .ok (.lconst 0, 1) := by decide +kernel
theorem dX12_told_8 : decode cX12_told 8 = .ok (.ldc2_w 83, 3) := by decide +kernel
theorem dX12_told_11 : decode cX12_told 11 = .ok (.invokestatic 79, 3) := by decide +kernel
theorem dX12_told_14 : decode cX12_told 14 = .ok (.ifCond .eq 18, 3) := by decide +kernel
theorem dX12_told_17 : decode cX12_told 17 = .ok (.iconst 1, 1) := by decide +kernel
theorem dX12_told_18 : decode cX12_told 18 = .ok (.iload_n 2, 1) := by decide +kernel
theorem dX12_told_19 : decode cX12_told 19 = .ok (.iload_n 3, 1) := by decide +kernel
theorem dX12_told_20 : decode cX12_told 20 = .ok (.iload 4, 2) := by decide +kernel
theorem dX12_told_22 : decode cX12_told 22 = .ok (.iload 5, 2) := by decide +kernel
theorem dX12_told_24 : decode cX12_told 24 = .ok (.iload 6, 2) := by decide +kernel
theorem dX12_told_26 : decode cX12_told 26 = .ok (.invokestatic 106, 3) := by decide +kernel
theorem dX12_told_29 : decode cX12_told 29 = .ok (.ifCond .ne 9, 3) := by decide +kernel
theorem dX12_told_32 : decode cX12_told 32 = .ok (.aload_n 0, 1) := by decide +kernel
theorem dX12_told_33 : decode cX12_told 33 = .ok (.iconst 1, 1) := by decide +kernel
theorem dX12_told_34 : decode cX12_told 34 = .ok (.invokevirtual 89, 3) := by decide +kernel
theorem dX12_told_37 : decode cX12_told 37 = .ok (.ireturn, 1) := by decide +kernel
theorem dX12_told_38 : decode cX12_told 38 = .ok (.aload_n 0, 1) := by decide +kernel
theorem dX12_told_39 : decode cX12_told 39 = .ok (.getfield 9, 3) := by decide +kernel
theorem dX12_told_42 : decode cX12_told 42 = .ok (.iconst 3, 1) := by decide +kernel
theorem dX12_told_43 : decode cX12_told 43 = .ok (.iaload, 1) := by decide +kernel
theorem dX12_told_44 : decode cX12_told 44 = .ok (.bipush 40, 2) := by decide +kernel
theorem dX12_told_46 : decode cX12_told 46 = .ok (.if_icmp .ne 5, 3) := by decide +kernel
theorem dX12_told_49 : decode cX12_told 49 = .ok (.iconst (-1), 1) := by decide +kernel
theorem dX12_told_50 : decode cX12_told 50 = .ok (.ireturn, 1) := by decide +kernel
theorem dX12_told_51 : decode cX12_told 51 = .ok (.sipush 846, 3) := by decide +kernel
theorem dX12_told_54 : decode cX12_told 54 = .ok (.bipush 6, 2) := by decide +kernel
theorem dX12_told_56 : decode cX12_told 56 = .ok (.aload_n 0, 1) := by decide +kernel
theorem dX12_told_57 : decode cX12_told 57 = .ok (.getfield 9, 3) := by decide +kernel
theorem dX12_told_60 : decode cX12_told 60 = .ok (.iconst 3, 1) := by decide +kernel
theorem dX12_told_61 : decode cX12_told 61 = .ok (.iaload, 1) := by decide +kernel
theorem dX12_told_62 : decode cX12_told 62 = .ok (.imul, 1) := by decide +kernel
theorem dX12_told_63 : decode cX12_told 63 = .ok (.iadd, 1) := by decide +kernel
theorem dX12_told_64 : decode cX12_told 64 = .ok (.istore 7, 2) := by decide +kernel
theorem dX12_told_66 : decode cX12_told 66 = .ok (.aload_n 0, 1) := by decide +kernel
theorem dX12_told_67 : decode cX12_told 67 = .ok (.getfield 9, 3) := by decide +kernel
theorem dX12_told_70 : decode cX12_told 70 = .ok (.iload 7, 2) := by decide +kernel
theorem dX12_told_72 : decode cX12_told 72 = .ok (.iload_n 1, 1) := by decide +kernel
theorem dX12_told_73 : decode cX12_told 73 = .ok (.iastore, 1) := by decide +kernel
theorem dX12_told_74 : decode cX12_told 74 = .ok (.aload_n 0, 1) := by decide +kernel
theorem dX12_told_75 : decode cX12_told 75 = .ok (.getfield 9, 3) := by decide +kernel
theorem dX12_told_78 : decode cX12_told 78 = .ok (.iload 7, 2) := by decide +kernel
theorem dX12_told_80 : decode cX12_told 80 = .ok (.iconst 1, 1) := by decide +kernel
theorem dX12_told_81 : decode cX12_told 81 = .ok (.iadd, 1) := by decide +kernel
theorem dX12_told_82 : decode cX12_told 82 = .ok (.iload_n 2, 1) := by decide +kernel
theorem dX12_told_83 : decode cX12_told 83 = .ok (.iastore, 1) := by decide +kernel
theorem dX12_told_84 : decode cX12_told 84 = .ok (.aload_n 0, 1) := by decide +kernel
theorem dX12_told_85 : decode cX12_told 85 = .ok (.getfield 9, 3) := by decide +kernel
theorem dX12_told_88 : decode cX12_told 88 = .ok (.iload 7, 2) := by decide +kernel
theorem dX12_told_90 : decode cX12_told 90 = .ok (.iconst 2, 1) := by decide +kernel
theorem dX12_told_91 : decode cX12_told 91 = .ok (.iadd, 1) := by decide +kernel
theorem dX12_told_92 : decode cX12_told 92 = .ok (.iload_n 3, 1) := by decide +kernel
theorem dX12_told_93 : decode cX12_told 93 = .ok (.iastore, 1) := by decide +kernel
theorem dX12_told_94 : decode cX12_told 94 = .ok (.aload_n 0, 1) := by decide +kernel
theorem dX12_told_95 : decode cX12_told 95 = .ok (.getfield 9, 3) := by decide +kernel
theorem dX12_told_98 : decode cX12_told 98 = .ok (.iload 7, 2) := by decide +kernel
theorem dX12_told_100 : decode cX12_told 100 = .ok (.iconst 3, 1) := by decide +kernel
theorem dX12_told_101 : decode cX12_told 101 = .ok (.iadd, 1) := by decide +kernel
theorem dX12_told_102 : decode cX12_told 102 = .ok (.iload 4, 2) := by decide +kernel
theorem dX12_told_104 : decode cX12_told 104 = .ok (.iastore, 1) := by decide +kernel
theorem dX12_told_105 : decode cX12_told 105 = .ok (.aload_n 0, 1) := by decide +kernel
theorem dX12_told_106 : decode cX12_told 106 = .ok (.getfield 9, 3) := by decide +kernel
theorem dX12_told_109 : decode cX12_told 109 = .ok (.iload 7, 2) := by decide +kernel
theorem dX12_told_111 : decode cX12_told 111 = .ok (.iconst 4, 1) := by decide +kernel
theorem dX12_told_112 : decode cX12_told 112 = .ok (.iadd, 1) := by decide +kernel
theorem dX12_told_113 : decode cX12_told 113 = .ok (.iload 5, 2) := by decide +kernel
theorem dX12_told_115 : decode cX12_told 115 = .ok (.iastore, 1) := by decide +kernel
theorem dX12_told_116 : decode cX12_told 116 = .ok (.aload_n 0, 1) := by decide +kernel
theorem dX12_told_117 : decode cX12_told 117 = .ok (.getfield 9, 3) := by decide +kernel
theorem dX12_told_120 : decode cX12_told 120 = .ok (.iload 7, 2) := by decide +kernel
theorem dX12_told_122 : decode cX12_told 122 = .ok (.iconst 5, 1) := by decide +kernel
theorem dX12_told_123 : decode cX12_told 123 = .ok (.iadd, 1) := by decide +kernel
theorem dX12_told_124 : decode cX12_told 124 = .ok (.iload 6, 2) := by decide +kernel
theorem dX12_told_126 : decode cX12_told 126 = .ok (.iastore, 1) := by decide +kernel
theorem dX12_told_127 : decode cX12_told 127 = .ok (.aload_n 0, 1) := by decide +kernel
theorem dX12_told_128 : decode cX12_told 128 = .ok (.getfield 9, 3) := by decide +kernel
theorem dX12_told_131 : decode cX12_told 131 = .ok (.iconst 3, 1) := by decide +kernel
theorem dX12_told_132 : decode cX12_told 132 = .ok (.dup2, 1) := by decide +kernel
theorem dX12_told_133 : decode cX12_told 133 = .ok (.iaload, 1) := by decide +kernel
theorem dX12_told_134 : decode cX12_told 134 = .ok (.iconst 1, 1) := by decide +kernel
theorem dX12_told_135 : decode cX12_told 135 = .ok (.iadd, 1) := by decide +kernel
theorem dX12_told_136 : decode cX12_told 136 = .ok (.iastore, 1) := by decide +kernel
theorem dX12_told_137 : decode cX12_told 137 = .ok (.aload_n 0, 1) := by decide +kernel
theorem dX12_told_138 : decode cX12_told 138 = .ok (.getfield 9, 3) := by decide +kernel
theorem dX12_told_141 : decode cX12_told 141 = .ok (.iconst 3, 1) := by decide +kernel
theorem dX12_told_142 : decode cX12_told 142 = .ok (.iaload, 1) := by decide +kernel
theorem dX12_told_143 : decode cX12_told 143 = .ok (.ireturn, 1) := by decide +kernel
abbrev z_X12_told_174 : Z9 := (some .int, 1, 0, 0, 3, 50)
def m_X12_told_174_c32 (d : D9) : Option R9 := cl (m_X12_fails_174 1 d) (fun r1 d2 => rt r1 d2)
def m_X12_told_174 (p1 p2 p3 p4 p5 p6 : Int) (d : D9) : Option R9 := pf d 174 3 0 (fun d1 => cl (m_X12_within (w32 p1) 0 3 d1) (fun r2 d3 => if w32 r2 = 0 then m_X12_told_174_c32   d3 else cl (m_X12_areLengths 1 p2 p3 p4 p5 p6 d3) (fun r4 d5 => if w32 r4 ≠ 0 then ld d5 175 1604 3 (fun t6 => if w32 t6 ≠ w32 40 then ld d5 175 1604 3 (fun t7 => lt9v (846 + (6 * t7)) (fun a8 => sd d5 175 1604 a8 p1 (fun d9 => sd d9 175 1604 (a8 + 1) p2 (fun d10 => sd d10 175 1604 (a8 + 2) p3 (fun d11 => sd d11 175 1604 (a8 + 3) p4 (fun d12 => sd d12 175 1604 (a8 + 4) p5 (fun d13 => sd d13 175 1604 (a8 + 5) p6 (fun d14 => ld d14 175 1604 3 (fun t15 => sd d14 175 1604 3 (t15 + 1) (fun d16 => ld d16 175 1604 3 (fun t17 => rt t17 d16))))))))))) else rt (-1) d5) else m_X12_told_174_c32   d5)))
set_option maxRecDepth 100000 in
theorem s_X12_told_174_c32 {G : G9} {X : X9} (C : CX G X cX12_told 8 RX12 [] z_X12_told_174) : ∀ (d : D9), SS G X 8 0 0 32 [(0, rf G 174)] [] d (m_X12_told_174_c32   d) := by
  intro  d
  unfold m_X12_told_174_c32
  refine r_aload_n C 0 dX12_told_32 rfl rfl ?_
  refine r_iconst C dX12_told_33 ?_
  refine r_callV C [i9 1, rf G 174] dX12_told_34 (t_X12_fails_174 C.h1 C.h2 1 d) mw_X12_89 mv_X12_fails la_174 ly_174 rfl (by decide) (by decide) (by decide) rfl rfl (Nat.le_of_ble_eq_true rfl) (fun r1 d2 => ?_)
  show SS G X 8 _ _ 37 [(0, rf G 174)] [i9 r1] d2 _
  exact r_iret C dX12_told_37 (by decide) (by decide)
set_option maxRecDepth 100000 in
theorem t_X12_told_174 {G : G9} {l : Launch} (h1 : va_D (A9 G) (wl G (fun _ _ => 0))) (h2 : l.stackTraces = false) (p1 p2 p3 p4 p5 p6 : Int) (d : D9) : MT G l yX12_told cX12_told 8 z_X12_told_174 [rf G 174, i9 p1, i9 p2, i9 p3, i9 p4, i9 p5, i9 p6] d (m_X12_told_174 p1 p2 p3 p4 p5 p6 d) := by
  refine mt_of (own := RX12) (by decide) rfl (Nat.le_of_ble_eq_true rfl) h1 h2 [(0, rf G 174), (1, i9 p1), (2, i9 p2), (3, i9 p3), (4, i9 p4), (5, i9 p5), (6, i9 p6)] rfl (fun X hX C => ?_)
  unfold m_X12_told_174
  refine r_aload_n C 0 dX12_told_0 rfl rfl ?_
  refine r_iconst C dX12_told_1 ?_
  refine r_putI C dX12_told_2 fp_X12_76 la_174 ly_174 rfl (fun d1 => ?_)
  refine r_iload_n C 1 dX12_told_5 rfl rfl ?_
  refine r_i2l C dX12_told_6 ?_
  refine r_lconst C dX12_told_7 (a := 0) rfl ?_
  refine r_ldcL C dX12_told_8 kc_X12_83 ?_
  refine r_callS C [l9 3, l9 0, l9 (w32 p1)] dX12_told_11 (t_X12_within C.h1 C.h2 (w32 p1) 0 3 d1) mw_X12_79 ms_X12_within (by decide) (by decide) (by decide) rfl rfl (Nat.le_of_ble_eq_true rfl) (fun r2 d3 => ?_)
  show SS G X 8 _ _ 14 [(0, rf G 174), (1, i9 p1), (2, i9 p2), (3, i9 p3), (4, i9 p4), (5, i9 p5), (6, i9 p6)] [i9 r2] d3 _
  refine r_if_eq C (b := 0) 32 dX12_told_14 (by decide) (fun _ => ?_) (fun _ => ?_)
  · refine ss_wide (k' := 0) (n' := 0) (by decide) (by decide) ?_
    refine ss_ls [(0, rf G 174)] [0] rfl ?_
    exact s_X12_told_174_c32 C   d3
  · refine r_iconst C dX12_told_17 ?_
    refine r_iload_n C 2 dX12_told_18 rfl rfl ?_
    refine r_iload_n C 3 dX12_told_19 rfl rfl ?_
    refine r_iload C 4 dX12_told_20 rfl ?_
    refine r_iload C 5 dX12_told_22 rfl ?_
    refine r_iload C 6 dX12_told_24 rfl ?_
    refine r_callS C [i9 p6, i9 p5, i9 p4, i9 p3, i9 p2, i9 1] dX12_told_26 (t_X12_areLengths C.h1 C.h2 1 p2 p3 p4 p5 p6 d3) mw_X12_106 ms_X12_areLengths (by decide) (by decide) (by decide) rfl rfl (Nat.le_of_ble_eq_true rfl) (fun r4 d5 => ?_)
    show SS G X 8 _ _ 29 [(0, rf G 174), (1, i9 p1), (2, i9 p2), (3, i9 p3), (4, i9 p4), (5, i9 p5), (6, i9 p6)] [i9 r4] d5 _
    refine r_if_ne C (b := 0) 38 dX12_told_29 (by decide) (fun _ => ?_) (fun _ => ?_)
    · refine r_aload_n C 0 dX12_told_38 rfl rfl ?_
      refine r_getR C 175 dX12_told_39 fl_X12_9 la_174 ly_174 rfl rfl ?_
      refine r_iconst C dX12_told_42 ?_
      refine r_iald C dX12_told_43 la_175 ly_175 (fun t6 => ?_)
      refine r_bipush C dX12_told_44 rfl ?_
      refine r_icmp_ne C 51 dX12_told_46 (by decide) (fun _ => ?_) (fun _ => ?_)
      · refine r_sipush C dX12_told_51 rfl ?_
        refine r_bipush C dX12_told_54 rfl ?_
        refine r_aload_n C 0 dX12_told_56 rfl rfl ?_
        refine r_getR C 175 dX12_told_57 fl_X12_9 la_174 ly_174 rfl rfl ?_
        refine r_iconst C dX12_told_60 ?_
        refine r_iald C dX12_told_61 la_175 ly_175 (fun t7 => ?_)
        refine r_imul C dX12_told_62 ?_
        refine r_iadd C dX12_told_63 ?_
        refine ss_lt (fun a8 => ?_)
        refine r_istore C [(7, i9 a8), (0, rf G 174), (1, i9 p1), (2, i9 p2), (3, i9 p3), (4, i9 p4), (5, i9 p5), (6, i9 p6)] dX12_told_64 (by decide) rfl ?_
        refine r_aload_n C 1 dX12_told_66 rfl rfl ?_
        refine r_getR C 175 dX12_told_67 fl_X12_9 la_174 ly_174 rfl rfl ?_
        refine r_iload C 0 dX12_told_70 rfl ?_
        refine r_iload_n C 2 dX12_told_72 rfl rfl ?_
        refine r_iast C dX12_told_73 la_175 ly_175 (fun d9 => ?_)
        refine r_aload_n C 1 dX12_told_74 rfl rfl ?_
        refine r_getR C 175 dX12_told_75 fl_X12_9 la_174 ly_174 rfl rfl ?_
        refine r_iload C 0 dX12_told_78 rfl ?_
        refine r_iconst C dX12_told_80 ?_
        refine r_iadd C dX12_told_81 ?_
        refine r_iload_n C 3 dX12_told_82 rfl rfl ?_
        refine r_iast C dX12_told_83 la_175 ly_175 (fun d10 => ?_)
        refine r_aload_n C 1 dX12_told_84 rfl rfl ?_
        refine r_getR C 175 dX12_told_85 fl_X12_9 la_174 ly_174 rfl rfl ?_
        refine r_iload C 0 dX12_told_88 rfl ?_
        refine r_iconst C dX12_told_90 ?_
        refine r_iadd C dX12_told_91 ?_
        refine r_iload_n C 4 dX12_told_92 rfl rfl ?_
        refine r_iast C dX12_told_93 la_175 ly_175 (fun d11 => ?_)
        refine r_aload_n C 1 dX12_told_94 rfl rfl ?_
        refine r_getR C 175 dX12_told_95 fl_X12_9 la_174 ly_174 rfl rfl ?_
        refine r_iload C 0 dX12_told_98 rfl ?_
        refine r_iconst C dX12_told_100 ?_
        refine r_iadd C dX12_told_101 ?_
        refine r_iload C 5 dX12_told_102 rfl ?_
        refine r_iast C dX12_told_104 la_175 ly_175 (fun d12 => ?_)
        refine r_aload_n C 1 dX12_told_105 rfl rfl ?_
        refine r_getR C 175 dX12_told_106 fl_X12_9 la_174 ly_174 rfl rfl ?_
        refine r_iload C 0 dX12_told_109 rfl ?_
        refine r_iconst C dX12_told_111 ?_
        refine r_iadd C dX12_told_112 ?_
        refine r_iload C 6 dX12_told_113 rfl ?_
        refine r_iast C dX12_told_115 la_175 ly_175 (fun d13 => ?_)
        refine r_aload_n C 1 dX12_told_116 rfl rfl ?_
        refine r_getR C 175 dX12_told_117 fl_X12_9 la_174 ly_174 rfl rfl ?_
        refine r_iload C 0 dX12_told_120 rfl ?_
        refine r_iconst C dX12_told_122 ?_
        refine r_iadd C dX12_told_123 ?_
        refine r_iload C 7 dX12_told_124 rfl ?_
        refine r_iast C dX12_told_126 la_175 ly_175 (fun d14 => ?_)
        refine r_aload_n C 1 dX12_told_127 rfl rfl ?_
        refine r_getR C 175 dX12_told_128 fl_X12_9 la_174 ly_174 rfl rfl ?_
        refine r_iconst C dX12_told_131 ?_
        refine r_dup2 C dX12_told_132 rfl rfl ?_
        refine r_iald C dX12_told_133 la_175 ly_175 (fun t15 => ?_)
        refine r_iconst C dX12_told_134 ?_
        refine r_iadd C dX12_told_135 ?_
        refine r_iast C dX12_told_136 la_175 ly_175 (fun d16 => ?_)
        refine r_aload_n C 1 dX12_told_137 rfl rfl ?_
        refine r_getR C 175 dX12_told_138 fl_X12_9 la_174 ly_174 rfl rfl ?_
        refine r_iconst C dX12_told_141 ?_
        refine r_iald C dX12_told_142 la_175 ly_175 (fun t17 => ?_)
        exact r_iret C dX12_told_143 (by decide) (by decide)
      · refine r_iconst C dX12_told_49 ?_
        exact r_iret C dX12_told_50 (by decide) (by decide)
    · refine ss_wide (k' := 0) (n' := 0) (by decide) (by decide) ?_
      refine ss_ls [(0, rf G 174)] [0] rfl ?_
      exact s_X12_told_174_c32 C   d5
theorem dX12_tray_0 : decode cX12_tray 0 = .ok (.aload_n 0, 1) := by decide +kernel
theorem dX12_tray_1 : decode cX12_tray 1 = .ok (.iload_n 1, 1) := by decide +kernel
theorem dX12_tray_2 : decode cX12_tray 2 = .ok (.invokestatic 427, 3) := by decide +kernel
theorem dX12_tray_5 : decode cX12_tray 5 = .ok (.ifCond .ne 7, 3) := by decide +kernel
theorem dX12_tray_8 : decode cX12_tray 8 = .ok (.iconst 1, 1) := by decide +kernel
theorem dX12_tray_9 : decode cX12_tray 9 = .ok (.goto 32, 3) := by decide +kernel
theorem dX12_tray_12 : decode cX12_tray 12 = .ok (.iload_n 2, 1) := by decide +kernel
theorem dX12_tray_13 : decode cX12_tray 13 = .ok (.i2l, 1) := by decide +kernel
theorem dX12_tray_14 : decode cX12_tray 14 = .ok (.lconst 0, 1) := by decide +kernel
theorem dX12_tray_15 : decode cX12_tray 15 = .ok (.ldc2_w 83, 3) := by decide +kernel
theorem dX12_tray_18 : decode cX12_tray 18 = .ok (.invokestatic 79, 3) := by decide +kernel
theorem dX12_tray_21 : decode cX12_tray 21 = .ok (.ifCond .eq 15, 3) := by decide +kernel
theorem dX12_tray_24 : decode cX12_tray 24 = .ok (.iload_n 3, 1) := by decide +kernel
theorem dX12_tray_25 : decode cX12_tray 25 = .ok (.i2l, 1) := by decide +kernel
theorem dX12_tray_26 : decode cX12_tray 26 = .ok (.lconst 0, 1) := by decide +kernel
theorem dX12_tray_27 : decode cX12_tray 27 = .ok (.ldc2_w 491, 3) := by decide +kernel
theorem dX12_tray_30 : decode cX12_tray 30 = .ok (.invokestatic 79, 3) := by decide +kernel
theorem dX12_tray_33 : decode cX12_tray 33 = .ok (.ifCond .ne 7, 3) := by decide +kernel
theorem dX12_tray_36 : decode cX12_tray 36 = .ok (.iconst 2, 1) := by decide +kernel
theorem dX12_tray_37 : decode cX12_tray 37 = .ok (.goto 4, 3) := by decide +kernel
theorem dX12_tray_40 : decode cX12_tray 40 = .ok (.iconst 0, 1) := by decide +kernel
theorem dX12_tray_41 : decode cX12_tray 41 = .ok (.putfield 76, 3) := by decide +kernel
theorem dX12_tray_44 : decode cX12_tray 44 = .ok (.aload_n 0, 1) := by decide +kernel
theorem dX12_tray_45 : decode cX12_tray 45 = .ok (.getfield 76, 3) := by decide +kernel
theorem dX12_tray_48 : decode cX12_tray 48 = .ok (.ifCond .le 4, 3) := by decide +kernel
theorem dX12_tray_51 : decode cX12_tray 51 = .ok (.return_, 1) := by decide +kernel
theorem dX12_tray_52 : decode cX12_tray 52 = .ok (.aload_n 0, 1) := by decide +kernel
theorem dX12_tray_53 : decode cX12_tray 53 = .ok (.getfield 64, 3) := by decide +kernel
theorem dX12_tray_56 : decode cX12_tray 56 = .ok (.iload_n 1, 1) := by decide +kernel
theorem dX12_tray_57 : decode cX12_tray 57 = .ok (.iload_n 2, 1) := by decide +kernel
theorem dX12_tray_58 : decode cX12_tray 58 = .ok (.iastore, 1) := by decide +kernel
theorem dX12_tray_59 : decode cX12_tray 59 = .ok (.aload_n 0, 1) := by decide +kernel
theorem dX12_tray_60 : decode cX12_tray 60 = .ok (.getfield 67, 3) := by decide +kernel
theorem dX12_tray_63 : decode cX12_tray 63 = .ok (.iload_n 1, 1) := by decide +kernel
theorem dX12_tray_64 : decode cX12_tray 64 = .ok (.iload_n 3, 1) := by decide +kernel
theorem dX12_tray_65 : decode cX12_tray 65 = .ok (.iastore, 1) := by decide +kernel
theorem dX12_tray_66 : decode cX12_tray 66 = .ok (.iconst 0, 1) := by decide +kernel
theorem dX12_tray_67 : decode cX12_tray 67 = .ok (.istore 4, 2) := by decide +kernel
theorem dX12_tray_69 : decode cX12_tray 69 = .ok (.iload 4, 2) := by decide +kernel
theorem dX12_tray_71 : decode cX12_tray 71 = .ok (.bipush 40, 2) := by decide +kernel
theorem dX12_tray_73 : decode cX12_tray 73 = .ok (.if_icmp .ge 22, 3) := by decide +kernel
theorem dX12_tray_76 : decode cX12_tray 76 = .ok (.aload_n 0, 1) := by decide +kernel
theorem dX12_tray_77 : decode cX12_tray 77 = .ok (.getfield 70, 3) := by decide +kernel
theorem dX12_tray_80 : decode cX12_tray 80 = .ok (.bipush 40, 2) := by decide +kernel
theorem dX12_tray_82 : decode cX12_tray 82 = .ok (.iload_n 1, 1) := by decide +kernel
theorem dX12_tray_83 : decode cX12_tray 83 = .ok (.imul, 1) := by decide +kernel
theorem dX12_tray_84 : decode cX12_tray 84 = .ok (.iload 4, 2) := by decide +kernel
theorem dX12_tray_86 : decode cX12_tray 86 = .ok (.iadd, 1) := by decide +kernel
theorem dX12_tray_87 : decode cX12_tray 87 = .ok (.lconst 0, 1) := by decide +kernel
theorem dX12_tray_88 : decode cX12_tray 88 = .ok (.lastore, 1) := by decide +kernel
theorem dX12_tray_89 : decode cX12_tray 89 = .ok (.iinc 4 1, 3) := by decide +kernel
theorem dX12_tray_92 : decode cX12_tray 92 = .ok (.goto (-23), 3) := by decide +kernel
theorem dX12_tray_95 : decode cX12_tray 95 = .ok (.return_, 1) := by decide +kernel
abbrev z_X12_tray_174 : Z9 := (none, 0, 0, 0, 3, 45)
def b_X12_tray_174_c69 (k_X12_tray_174_c69 : Int → Int → D9 → Option R9) (v1 v4 : Int) (d : D9) : Option R9 := if w32 40 ≤ w32 v4 then rt 0 d else sd d 193 160 ((40 * v1) + v4) 0 (fun d1 => k_X12_tray_174_c69 v1 (v4 + 1) d1)
def m_X12_tray_174_c69 : Int → Int → D9 → Option R9 := fix9 (fun _ _ _ => none) (fun k => b_X12_tray_174_c69 k) FU
def m_X12_tray_174_c41 (v1 v2 v3 s0 : Int) (d : D9) : Option R9 := pf d 174 3 s0 (fun d1 => if w32 (d1 174 3) ≤ 0 then sd d1 191 4 v1 v2 (fun d2 => sd d2 192 4 v1 v3 (fun d3 => m_X12_tray_174_c69  v1 0 d3)) else rt 0 d1)
def m_X12_tray_174 (p1 p2 p3 : Int) (d : D9) : Option R9 := cl (m_X12_isTray p1 d) (fun r1 d2 => if w32 r1 ≠ 0 then cl (m_X12_within (w32 p2) 0 3 d2) (fun r3 d4 => if w32 r3 = 0 then m_X12_tray_174_c41  p1 p2 p3 2 d4 else cl (m_X12_within (w32 p3) 0 40 d4) (fun r5 d6 => if w32 r5 ≠ 0 then m_X12_tray_174_c41  p1 p2 p3 0 d6 else m_X12_tray_174_c41  p1 p2 p3 2 d6)) else m_X12_tray_174_c41  p1 p2 p3 1 d2)
set_option maxRecDepth 100000 in
theorem sb_X12_tray_174_c69 {G : G9} {X : X9} (C : CX G X cX12_tray 5 RX12 [] z_X12_tray_174) (k_X12_tray_174_c69 : Int → Int → D9 → Option R9) (hk_X12_tray_174_c69 : ∀ (v1 v4 : Int) (d : D9), SS G X 5 0 0 69 [(0, rf G 174), (1, i9 v1), (4, i9 v4)] [] d (k_X12_tray_174_c69 v1 v4 d)) : ∀ (v1 v4 : Int) (d : D9), SS G X 5 0 0 69 [(0, rf G 174), (1, i9 v1), (4, i9 v4)] [] d (b_X12_tray_174_c69 k_X12_tray_174_c69 v1 v4 d) := by
  intro v1 v4 d
  unfold b_X12_tray_174_c69
  refine r_iload C 2 dX12_tray_69 rfl ?_
  refine r_bipush C dX12_tray_71 rfl ?_
  refine r_icmp_ge C 95 dX12_tray_73 (by decide) (fun _ => ?_) (fun _ => ?_)
  · exact r_vret C dX12_tray_95 (by decide) (by decide)
  · refine r_aload_n C 0 dX12_tray_76 rfl rfl ?_
    refine r_getR C 193 dX12_tray_77 fl_X12_70 la_174 ly_174 rfl rfl ?_
    refine r_bipush C dX12_tray_80 rfl ?_
    refine r_iload_n C 1 dX12_tray_82 rfl rfl ?_
    refine r_imul C dX12_tray_83 ?_
    refine r_iload C 2 dX12_tray_84 rfl ?_
    refine r_iadd C dX12_tray_86 ?_
    refine r_lconst C dX12_tray_87 (a := 0) rfl ?_
    refine r_last C dX12_tray_88 la_193 ly_193 (fun d1 => ?_)
    refine r_iinc C 2 [(4, i9 (v4 + 1)), (0, rf G 174), (1, i9 v1)] dX12_tray_89 rfl (by decide) rfl ?_
    refine r_goto C 69 dX12_tray_92 (by decide) ?_
    refine ss_wide (k' := 0) (n' := 0) (by decide) (by decide) ?_
    refine ss_ls [(0, rf G 174), (1, i9 v1), (4, i9 (v4 + 1))] [1, 2, 0] rfl ?_
    exact hk_X12_tray_174_c69 v1 (v4 + 1) d1
theorem s_X12_tray_174_c69 {G : G9} {X : X9} (C : CX G X cX12_tray 5 RX12 [] z_X12_tray_174) : ∀ (v1 v4 : Int) (d : D9), SS G X 5 0 0 69 [(0, rf G 174), (1, i9 v1), (4, i9 v4)] [] d (m_X12_tray_174_c69  v1 v4 d) :=
  fix9_ind (P := fun k => ∀ (v1 v4 : Int) (d : D9), SS G X 5 0 0 69 [(0, rf G 174), (1, i9 v1), (4, i9 v4)] [] d (k v1 v4 d)) (fun _ _ _ => ss_none) (fun k hk => sb_X12_tray_174_c69 C k hk) FU
set_option maxRecDepth 100000 in
theorem s_X12_tray_174_c41 {G : G9} {X : X9} (C : CX G X cX12_tray 5 RX12 [] z_X12_tray_174) : ∀ (v1 v2 v3 s0 : Int) (d : D9), SS G X 5 0 0 41 [(0, rf G 174), (1, i9 v1), (2, i9 v2), (3, i9 v3)] [i9 s0, rf G 174] d (m_X12_tray_174_c41  v1 v2 v3 s0 d) := by
  intro v1 v2 v3 s0 d
  unfold m_X12_tray_174_c41
  refine r_putI C dX12_tray_41 fp_X12_76 la_174 ly_174 rfl (fun d1 => ?_)
  refine r_aload_n C 0 dX12_tray_44 rfl rfl ?_
  refine r_getI C dX12_tray_45 fl_X12_76 la_174 ly_174 rfl ?_
  refine r_if_le C (b := 0) 52 dX12_tray_48 (by decide) (fun _ => ?_) (fun _ => ?_)
  · refine r_aload_n C 0 dX12_tray_52 rfl rfl ?_
    refine r_getR C 191 dX12_tray_53 fl_X12_64 la_174 ly_174 rfl rfl ?_
    refine r_iload_n C 1 dX12_tray_56 rfl rfl ?_
    refine r_iload_n C 2 dX12_tray_57 rfl rfl ?_
    refine r_iast C dX12_tray_58 la_191 ly_191 (fun d2 => ?_)
    refine r_aload_n C 0 dX12_tray_59 rfl rfl ?_
    refine r_getR C 192 dX12_tray_60 fl_X12_67 la_174 ly_174 rfl rfl ?_
    refine r_iload_n C 1 dX12_tray_63 rfl rfl ?_
    refine r_iload_n C 3 dX12_tray_64 rfl rfl ?_
    refine r_iast C dX12_tray_65 la_192 ly_192 (fun d3 => ?_)
    refine r_iconst C dX12_tray_66 ?_
    refine r_istore C [(4, i9 0), (0, rf G 174), (1, i9 v1), (2, i9 v2), (3, i9 v3)] dX12_tray_67 (by decide) rfl ?_
    refine ss_wide (k' := 0) (n' := 0) (by decide) (by decide) ?_
    refine ss_ls [(0, rf G 174), (1, i9 v1), (4, i9 0)] [1, 2, 0] rfl ?_
    exact s_X12_tray_174_c69 C  v1 0 d3
  · exact r_vret C dX12_tray_51 (by decide) (by decide)
set_option maxRecDepth 100000 in
theorem t_X12_tray_174 {G : G9} {l : Launch} (h1 : va_D (A9 G) (wl G (fun _ _ => 0))) (h2 : l.stackTraces = false) (p1 p2 p3 : Int) (d : D9) : MT G l yX12_tray cX12_tray 5 z_X12_tray_174 [rf G 174, i9 p1, i9 p2, i9 p3] d (m_X12_tray_174 p1 p2 p3 d) := by
  refine mt_of (own := RX12) (by decide) rfl (Nat.le_of_ble_eq_true rfl) h1 h2 [(0, rf G 174), (1, i9 p1), (2, i9 p2), (3, i9 p3)] rfl (fun X hX C => ?_)
  unfold m_X12_tray_174
  refine r_aload_n C 0 dX12_tray_0 rfl rfl ?_
  refine r_iload_n C 1 dX12_tray_1 rfl rfl ?_
  refine r_callS C [i9 p1, rf G 174] dX12_tray_2 (t_X12_isTray C.h1 C.h2 p1 d) mw_X12_427 ms_X12_isTray (by decide) (by decide) (by decide) rfl rfl (Nat.le_of_ble_eq_true rfl) (fun r1 d2 => ?_)
  show SS G X 5 _ _ 5 [(0, rf G 174), (1, i9 p1), (2, i9 p2), (3, i9 p3)] [i9 r1, rf G 174] d2 _
  refine r_if_ne C (b := 0) 12 dX12_tray_5 (by decide) (fun _ => ?_) (fun _ => ?_)
  · refine r_iload_n C 2 dX12_tray_12 rfl rfl ?_
    refine r_i2l C dX12_tray_13 ?_
    refine r_lconst C dX12_tray_14 (a := 0) rfl ?_
    refine r_ldcL C dX12_tray_15 kc_X12_83 ?_
    refine r_callS C [l9 3, l9 0, l9 (w32 p2), rf G 174] dX12_tray_18 (t_X12_within C.h1 C.h2 (w32 p2) 0 3 d2) mw_X12_79 ms_X12_within (by decide) (by decide) (by decide) rfl rfl (Nat.le_of_ble_eq_true rfl) (fun r3 d4 => ?_)
    show SS G X 5 _ _ 21 [(0, rf G 174), (1, i9 p1), (2, i9 p2), (3, i9 p3)] [i9 r3, rf G 174] d4 _
    refine r_if_eq C (b := 0) 36 dX12_tray_21 (by decide) (fun _ => ?_) (fun _ => ?_)
    · refine r_iconst C dX12_tray_36 ?_
      refine r_goto C 41 dX12_tray_37 (by decide) ?_
      refine ss_wide (k' := 0) (n' := 0) (by decide) (by decide) ?_
      refine ss_ls [(0, rf G 174), (1, i9 p1), (2, i9 p2), (3, i9 p3)] [0, 1, 2, 3] rfl ?_
      exact s_X12_tray_174_c41 C  p1 p2 p3 2 d4
    · refine r_iload_n C 3 dX12_tray_24 rfl rfl ?_
      refine r_i2l C dX12_tray_25 ?_
      refine r_lconst C dX12_tray_26 (a := 0) rfl ?_
      refine r_ldcL C dX12_tray_27 kc_X12_491 ?_
      refine r_callS C [l9 40, l9 0, l9 (w32 p3), rf G 174] dX12_tray_30 (t_X12_within C.h1 C.h2 (w32 p3) 0 40 d4) mw_X12_79 ms_X12_within (by decide) (by decide) (by decide) rfl rfl (Nat.le_of_ble_eq_true rfl) (fun r5 d6 => ?_)
      show SS G X 5 _ _ 33 [(0, rf G 174), (1, i9 p1), (2, i9 p2), (3, i9 p3)] [i9 r5, rf G 174] d6 _
      refine r_if_ne C (b := 0) 40 dX12_tray_33 (by decide) (fun _ => ?_) (fun _ => ?_)
      · refine r_iconst C dX12_tray_40 ?_
        refine ss_wide (k' := 0) (n' := 0) (by decide) (by decide) ?_
        refine ss_ls [(0, rf G 174), (1, i9 p1), (2, i9 p2), (3, i9 p3)] [0, 1, 2, 3] rfl ?_
        exact s_X12_tray_174_c41 C  p1 p2 p3 0 d6
      · refine r_iconst C dX12_tray_36 ?_
        refine r_goto C 41 dX12_tray_37 (by decide) ?_
        refine ss_wide (k' := 0) (n' := 0) (by decide) (by decide) ?_
        refine ss_ls [(0, rf G 174), (1, i9 p1), (2, i9 p2), (3, i9 p3)] [0, 1, 2, 3] rfl ?_
        exact s_X12_tray_174_c41 C  p1 p2 p3 2 d6
  · refine r_iconst C dX12_tray_8 ?_
    refine r_goto C 41 dX12_tray_9 (by decide) ?_
    refine ss_wide (k' := 0) (n' := 0) (by decide) (by decide) ?_
    refine ss_ls [(0, rf G 174), (1, i9 p1), (2, i9 p2), (3, i9 p3)] [0, 1, 2, 3] rfl ?_
    exact s_X12_tray_174_c41 C  p1 p2 p3 1 d2
theorem dX12_trial_0 : decode cX12_trial 0 = .ok (.aload_n 0, 1) := by decide +kernel
theorem dX12_trial_1 : decode cX12_trial 1 = .ok (.iconst 0, 1) := by decide +kernel
theorem dX12_trial_2 : decode cX12_trial 2 = .ok (.putfield 76, 3) := by decide +kernel
theorem dX12_trial_5 : decode cX12_trial 5 = .ok (.iload_n 1, 1) := by decide +kernel
theorem dX12_trial_6 : decode cX12_trial 6 = .ok (.iload_n 2, 1) := by decide +kernel
theorem dX12_trial_7 : decode cX12_trial 7 = .ok (.iload_n 3, 1) := by decide +kernel
theorem dX12_trial_8 : decode cX12_trial 8 = .ok (.iload 4, 2) := by decide +kernel
theorem dX12_trial_10 : decode cX12_trial 10 = .ok (.invokestatic 370, 3) := by decide +kernel
theorem dX12_trial_13 : decode cX12_trial 13 = .ok (.ifCond .eq 16, 3) := by decide +kernel
theorem dX12_trial_16 : decode cX12_trial 16 = .ok (.iload 5, 2) := by decide +kernel
theorem dX12_trial_18 : decode cX12_trial 18 = .ok (.i2l, 1) := by decide +kernel
theorem dX12_trial_19 : decode cX12_trial 19 = .ok (.lconst 1, 1) := by decide +kernel
theorem dX12_trial_20 : decode cX12_trial 20 = .ok (.ldc2_w 347, 3) := by decide +kernel
theorem dX12_trial_23 : decode cX12_trial 23 = .ok (.invokestatic 79, 3) := by decide +kernel
theorem dX12_trial_26 : decode cX12_trial 26 = .ok (.ifCond .ne 9, 3) := by decide +kernel
theorem dX12_trial_29 : decode cX12_trial 29 = .ok (.aload_n 0, 1) := by decide +kernel
theorem dX12_trial_30 : decode cX12_trial 30 = .ok (.iconst 1, 1) := by decide +kernel
theorem dX12_trial_31 : decode cX12_trial 31 = .ok (.invokevirtual 89, 3) := by decide +kernel
theorem dX12_trial_34 : decode cX12_trial 34 = .ok (.ireturn, 1) := by decide +kernel
theorem dX12_trial_35 : decode cX12_trial 35 = .ok (.iconst 0, 1) := by decide +kernel
theorem dX12_trial_36 : decode cX12_trial 36 = .ok (.istore 6, 2) := by decide +kernel
theorem dX12_trial_38 : decode cX12_trial 38 = .ok (.iconst 1, 1) := by decide +kernel
theorem dX12_trial_39 : decode cX12_trial 39 = .ok (.istore 7, 2) := by decide +kernel
theorem dX12_trial_41 : decode cX12_trial 41 = .ok (.iload 7, 2) := by decide +kernel
theorem dX12_trial_43 : decode cX12_trial 43 = .ok (.iload 5, 2) := by decide +kernel
theorem dX12_trial_45 : decode cX12_trial 45 = .ok (.if_icmp .gt 66, 3) := by decide +kernel
theorem dX12_trial_48 : decode cX12_trial 48 = .ok (.aload_n 0, 1) := by decide +kernel
theorem dX12_trial_49 : decode cX12_trial 49 = .ok (.iload_n 2, 1) := by decide +kernel
theorem dX12_trial_50 : decode cX12_trial 50 = .ok (.invokevirtual 311, 3) := by decide +kernel
theorem dX12_trial_53 : decode cX12_trial 53 = .ok (.ifCond .ne 58, 3) := by decide +kernel
theorem dX12_trial_56 : decode cX12_trial 56 = .ok (.aload_n 0, 1) := by decide +kernel
theorem dX12_trial_57 : decode cX12_trial 57 = .ok (.iload_n 1, 1) := by decide +kernel
theorem dX12_trial_58 : decode cX12_trial 58 = .ok (.iload_n 2, 1) := by decide +kernel
theorem dX12_trial_59 : decode cX12_trial 59 = .ok (.iload_n 3, 1) := by decide +kernel
theorem dX12_trial_60 : decode cX12_trial 60 = .ok (.iload 4, 2) := by decide +kernel
theorem dX12_trial_62 : decode cX12_trial 62 = .ok (.iload 7, 2) := by decide +kernel
theorem dX12_trial_64 : decode cX12_trial 64 = .ok (.invokevirtual 374, 3) := by decide +kernel
theorem dX12_trial_67 : decode cX12_trial 67 = .ok (.istore 8, 2) := by decide +kernel
theorem dX12_trial_69 : decode cX12_trial 69 = .ok (.iload 6, 2) := by decide +kernel
theorem dX12_trial_71 : decode cX12_trial 71 = .ok (.aload_n 0, 1) := by decide +kernel
theorem dX12_trial_72 : decode cX12_trial 72 = .ok (.iload 8, 2) := by decide +kernel
theorem dX12_trial_74 : decode cX12_trial 74 = .ok (.iload_n 2, 1) := by decide +kernel
theorem dX12_trial_75 : decode cX12_trial 75 = .ok (.iload_n 3, 1) := by decide +kernel
theorem dX12_trial_76 : decode cX12_trial 76 = .ok (.iconst 0, 1) := by decide +kernel
theorem dX12_trial_77 : decode cX12_trial 77 = .ok (.invokevirtual 314, 3) := by decide +kernel
theorem dX12_trial_80 : decode cX12_trial 80 = .ok (.iload_n 1, 1) := by decide +kernel
theorem dX12_trial_81 : decode cX12_trial 81 = .ok (.if_icmp .gt 20, 3) := by decide +kernel
theorem dX12_trial_84 : decode cX12_trial 84 = .ok (.aload_n 0, 1) := by decide +kernel
theorem dX12_trial_85 : decode cX12_trial 85 = .ok (.iload 8, 2) := by decide +kernel
theorem dX12_trial_87 : decode cX12_trial 87 = .ok (.iload_n 2, 1) := by decide +kernel
theorem dX12_trial_88 : decode cX12_trial 88 = .ok (.iload_n 3, 1) := by decide +kernel
theorem dX12_trial_89 : decode cX12_trial 89 = .ok (.iconst 1, 1) := by decide +kernel
theorem dX12_trial_90 : decode cX12_trial 90 = .ok (.invokevirtual 314, 3) := by decide +kernel
theorem dX12_trial_93 : decode cX12_trial 93 = .ok (.iload_n 1, 1) := by decide +kernel
theorem dX12_trial_94 : decode cX12_trial 94 = .ok (.if_icmp .lt 7, 3) := by decide +kernel
theorem dX12_trial_97 : decode cX12_trial 97 = .ok (.iconst 1, 1) := by decide +kernel
theorem dX12_trial_98 : decode cX12_trial 98 = .ok (.goto 4, 3) := by decide +kernel
theorem dX12_trial_101 : decode cX12_trial 101 = .ok (.iconst 0, 1) := by decide +kernel
theorem dX12_trial_102 : decode cX12_trial 102 = .ok (.iadd, 1) := by decide +kernel
theorem dX12_trial_103 : decode cX12_trial 103 = .ok (.istore 6, 2) := by decide +kernel
theorem dX12_trial_105 : decode cX12_trial 105 = .ok (.iinc 7 1, 3) := by decide +kernel
theorem dX12_trial_108 : decode cX12_trial 108 = .ok (.goto (-67), 3) := by decide +kernel
theorem dX12_trial_111 : decode cX12_trial 111 = .ok (.iload 6, 2) := by decide +kernel
theorem dX12_trial_113 : decode cX12_trial 113 = .ok (.ireturn, 1) := by decide +kernel
abbrev z_X12_trial_174 : Z9 := (some .int, 1, 0, 0, 5, 134)
def m_X12_trial_174_c29 (d : D9) : Option R9 := cl (m_X12_fails_174 1 d) (fun r1 d2 => rt r1 d2)
def b_X12_trial_174_c41 (k_X12_trial_174_c41 : Int → Int → Int → Int → Int → Int → Int → D9 → Option R9) (v1 v2 v3 v4 v5 v6 v7 : Int) (d : D9) : Option R9 := if w32 v5 < w32 v7 then rt v6 d else cl (m_X12_isThin_174 v2 d) (fun r1 d2 => if w32 r1 ≠ 0 then rt v6 d2 else cl (m_X12_dripped_174 v1 v2 v3 v4 v7 d2) (fun r3 d4 => cl (m_X12_spanOf_174 r3 v2 v3 0 d4) (fun r5 d6 => if w32 v1 < w32 r5 then lt9v (v6 + 0) (fun a7 => k_X12_trial_174_c41 v1 v2 v3 v4 v5 a7 (v7 + 1) d6) else cl (m_X12_spanOf_174 r3 v2 v3 1 d6) (fun r8 d9 => if w32 r8 < w32 v1 then lt9v (v6 + 0) (fun a10 => k_X12_trial_174_c41 v1 v2 v3 v4 v5 a10 (v7 + 1) d9) else lt9v (v6 + 1) (fun a11 => k_X12_trial_174_c41 v1 v2 v3 v4 v5 a11 (v7 + 1) d9)))))
def m_X12_trial_174_c41 : Int → Int → Int → Int → Int → Int → Int → D9 → Option R9 := fix9 (fun _ _ _ _ _ _ _ _ => none) (fun k => b_X12_trial_174_c41 k) FU
def m_X12_trial_174 (p1 p2 p3 p4 p5 : Int) (d : D9) : Option R9 := pf d 174 3 0 (fun d1 => cl (m_X12_isDrip p1 p2 p3 p4 d1) (fun r2 d3 => if w32 r2 = 0 then m_X12_trial_174_c29   d3 else cl (m_X12_within (w32 p5) 1 100 d3) (fun r4 d5 => if w32 r4 ≠ 0 then m_X12_trial_174_c41  p1 p2 p3 p4 p5 0 1 d5 else m_X12_trial_174_c29   d5)))
set_option maxRecDepth 100000 in
theorem s_X12_trial_174_c29 {G : G9} {X : X9} (C : CX G X cX12_trial 9 RX12 [] z_X12_trial_174) : ∀ (d : D9), SS G X 9 0 0 29 [(0, rf G 174)] [] d (m_X12_trial_174_c29   d) := by
  intro  d
  unfold m_X12_trial_174_c29
  refine r_aload_n C 0 dX12_trial_29 rfl rfl ?_
  refine r_iconst C dX12_trial_30 ?_
  refine r_callV C [i9 1, rf G 174] dX12_trial_31 (t_X12_fails_174 C.h1 C.h2 1 d) mw_X12_89 mv_X12_fails la_174 ly_174 rfl (by decide) (by decide) (by decide) rfl rfl (Nat.le_of_ble_eq_true rfl) (fun r1 d2 => ?_)
  show SS G X 9 _ _ 34 [(0, rf G 174)] [i9 r1] d2 _
  exact r_iret C dX12_trial_34 (by decide) (by decide)
set_option maxRecDepth 100000 in
theorem sb_X12_trial_174_c41 {G : G9} {X : X9} (C : CX G X cX12_trial 9 RX12 [] z_X12_trial_174) (k_X12_trial_174_c41 : Int → Int → Int → Int → Int → Int → Int → D9 → Option R9) (hk_X12_trial_174_c41 : ∀ (v1 v2 v3 v4 v5 v6 v7 : Int) (d : D9), SS G X 9 0 0 41 [(0, rf G 174), (1, i9 v1), (2, i9 v2), (3, i9 v3), (4, i9 v4), (5, i9 v5), (6, i9 v6), (7, i9 v7)] [] d (k_X12_trial_174_c41 v1 v2 v3 v4 v5 v6 v7 d)) : ∀ (v1 v2 v3 v4 v5 v6 v7 : Int) (d : D9), SS G X 9 0 0 41 [(0, rf G 174), (1, i9 v1), (2, i9 v2), (3, i9 v3), (4, i9 v4), (5, i9 v5), (6, i9 v6), (7, i9 v7)] [] d (b_X12_trial_174_c41 k_X12_trial_174_c41 v1 v2 v3 v4 v5 v6 v7 d) := by
  intro v1 v2 v3 v4 v5 v6 v7 d
  unfold b_X12_trial_174_c41
  refine r_iload C 7 dX12_trial_41 rfl ?_
  refine r_iload C 5 dX12_trial_43 rfl ?_
  refine r_icmp_gt C 111 dX12_trial_45 (by decide) (fun _ => ?_) (fun _ => ?_)
  · refine r_iload C 6 dX12_trial_111 rfl ?_
    exact r_iret C dX12_trial_113 (by decide) (by decide)
  · refine r_aload_n C 0 dX12_trial_48 rfl rfl ?_
    refine r_iload_n C 2 dX12_trial_49 rfl rfl ?_
    refine r_callV C [i9 v2, rf G 174] dX12_trial_50 (t_X12_isThin_174 C.h1 C.h2 v2 d) mw_X12_311 mv_X12_isThin la_174 ly_174 rfl (by decide) (by decide) (by decide) rfl rfl (Nat.le_of_ble_eq_true rfl) (fun r1 d2 => ?_)
    show SS G X 9 _ _ 53 [(0, rf G 174), (1, i9 v1), (2, i9 v2), (3, i9 v3), (4, i9 v4), (5, i9 v5), (6, i9 v6), (7, i9 v7)] [i9 r1] d2 _
    refine r_if_ne C (b := 0) 111 dX12_trial_53 (by decide) (fun _ => ?_) (fun _ => ?_)
    · refine r_iload C 6 dX12_trial_111 rfl ?_
      exact r_iret C dX12_trial_113 (by decide) (by decide)
    · refine r_aload_n C 0 dX12_trial_56 rfl rfl ?_
      refine r_iload_n C 1 dX12_trial_57 rfl rfl ?_
      refine r_iload_n C 2 dX12_trial_58 rfl rfl ?_
      refine r_iload_n C 3 dX12_trial_59 rfl rfl ?_
      refine r_iload C 4 dX12_trial_60 rfl ?_
      refine r_iload C 7 dX12_trial_62 rfl ?_
      refine r_callV C [i9 v7, i9 v4, i9 v3, i9 v2, i9 v1, rf G 174] dX12_trial_64 (t_X12_dripped_174 C.h1 C.h2 v1 v2 v3 v4 v7 d2) mw_X12_374 mv_X12_dripped la_174 ly_174 rfl (by decide) (by decide) (by decide) rfl rfl (Nat.le_of_ble_eq_true rfl) (fun r3 d4 => ?_)
      show SS G X 9 _ _ 67 [(0, rf G 174), (1, i9 v1), (2, i9 v2), (3, i9 v3), (4, i9 v4), (5, i9 v5), (6, i9 v6), (7, i9 v7)] [i9 r3] d4 _
      refine r_istore C [(8, i9 r3), (0, rf G 174), (1, i9 v1), (2, i9 v2), (3, i9 v3), (4, i9 v4), (5, i9 v5), (6, i9 v6), (7, i9 v7)] dX12_trial_67 (by decide) rfl ?_
      refine r_iload C 7 dX12_trial_69 rfl ?_
      refine r_aload_n C 1 dX12_trial_71 rfl rfl ?_
      refine r_iload C 0 dX12_trial_72 rfl ?_
      refine r_iload_n C 3 dX12_trial_74 rfl rfl ?_
      refine r_iload_n C 4 dX12_trial_75 rfl rfl ?_
      refine r_iconst C dX12_trial_76 ?_
      refine r_callV C [i9 0, i9 v3, i9 v2, i9 r3, rf G 174, i9 v6] dX12_trial_77 (t_X12_spanOf_174 C.h1 C.h2 r3 v2 v3 0 d4) mw_X12_314 mv_X12_spanOf la_174 ly_174 rfl (by decide) (by decide) (by decide) rfl rfl (Nat.le_of_ble_eq_true rfl) (fun r5 d6 => ?_)
      show SS G X 9 _ _ 80 [(8, i9 r3), (0, rf G 174), (1, i9 v1), (2, i9 v2), (3, i9 v3), (4, i9 v4), (5, i9 v5), (6, i9 v6), (7, i9 v7)] [i9 r5, i9 v6] d6 _
      refine r_iload_n C 2 dX12_trial_80 rfl rfl ?_
      refine r_icmp_gt C 101 dX12_trial_81 (by decide) (fun _ => ?_) (fun _ => ?_)
      · refine r_iconst C dX12_trial_101 ?_
        refine r_iadd C dX12_trial_102 ?_
        refine ss_lt (fun a7 => ?_)
        refine r_istore C [(6, i9 a7), (8, i9 r3), (0, rf G 174), (1, i9 v1), (2, i9 v2), (3, i9 v3), (4, i9 v4), (5, i9 v5), (7, i9 v7)] dX12_trial_103 (by decide) rfl ?_
        refine r_iinc C 8 [(7, i9 (v7 + 1)), (6, i9 a7), (8, i9 r3), (0, rf G 174), (1, i9 v1), (2, i9 v2), (3, i9 v3), (4, i9 v4), (5, i9 v5)] dX12_trial_105 rfl (by decide) rfl ?_
        refine r_goto C 41 dX12_trial_108 (by decide) ?_
        refine ss_wide (k' := 0) (n' := 0) (by decide) (by decide) ?_
        refine ss_ls [(0, rf G 174), (1, i9 v1), (2, i9 v2), (3, i9 v3), (4, i9 v4), (5, i9 v5), (6, i9 a7), (7, i9 (v7 + 1))] [3, 4, 5, 6, 7, 8, 1, 0] rfl ?_
        exact hk_X12_trial_174_c41 v1 v2 v3 v4 v5 a7 (v7 + 1) d6
      · refine r_aload_n C 1 dX12_trial_84 rfl rfl ?_
        refine r_iload C 0 dX12_trial_85 rfl ?_
        refine r_iload_n C 3 dX12_trial_87 rfl rfl ?_
        refine r_iload_n C 4 dX12_trial_88 rfl rfl ?_
        refine r_iconst C dX12_trial_89 ?_
        refine r_callV C [i9 1, i9 v3, i9 v2, i9 r3, rf G 174, i9 v6] dX12_trial_90 (t_X12_spanOf_174 C.h1 C.h2 r3 v2 v3 1 d6) mw_X12_314 mv_X12_spanOf la_174 ly_174 rfl (by decide) (by decide) (by decide) rfl rfl (Nat.le_of_ble_eq_true rfl) (fun r8 d9 => ?_)
        show SS G X 9 _ _ 93 [(8, i9 r3), (0, rf G 174), (1, i9 v1), (2, i9 v2), (3, i9 v3), (4, i9 v4), (5, i9 v5), (6, i9 v6), (7, i9 v7)] [i9 r8, i9 v6] d9 _
        refine r_iload_n C 2 dX12_trial_93 rfl rfl ?_
        refine r_icmp_lt C 101 dX12_trial_94 (by decide) (fun _ => ?_) (fun _ => ?_)
        · refine r_iconst C dX12_trial_101 ?_
          refine r_iadd C dX12_trial_102 ?_
          refine ss_lt (fun a10 => ?_)
          refine r_istore C [(6, i9 a10), (8, i9 r3), (0, rf G 174), (1, i9 v1), (2, i9 v2), (3, i9 v3), (4, i9 v4), (5, i9 v5), (7, i9 v7)] dX12_trial_103 (by decide) rfl ?_
          refine r_iinc C 8 [(7, i9 (v7 + 1)), (6, i9 a10), (8, i9 r3), (0, rf G 174), (1, i9 v1), (2, i9 v2), (3, i9 v3), (4, i9 v4), (5, i9 v5)] dX12_trial_105 rfl (by decide) rfl ?_
          refine r_goto C 41 dX12_trial_108 (by decide) ?_
          refine ss_wide (k' := 0) (n' := 0) (by decide) (by decide) ?_
          refine ss_ls [(0, rf G 174), (1, i9 v1), (2, i9 v2), (3, i9 v3), (4, i9 v4), (5, i9 v5), (6, i9 a10), (7, i9 (v7 + 1))] [3, 4, 5, 6, 7, 8, 1, 0] rfl ?_
          exact hk_X12_trial_174_c41 v1 v2 v3 v4 v5 a10 (v7 + 1) d9
        · refine r_iconst C dX12_trial_97 ?_
          refine r_goto C 102 dX12_trial_98 (by decide) ?_
          refine r_iadd C dX12_trial_102 ?_
          refine ss_lt (fun a11 => ?_)
          refine r_istore C [(6, i9 a11), (8, i9 r3), (0, rf G 174), (1, i9 v1), (2, i9 v2), (3, i9 v3), (4, i9 v4), (5, i9 v5), (7, i9 v7)] dX12_trial_103 (by decide) rfl ?_
          refine r_iinc C 8 [(7, i9 (v7 + 1)), (6, i9 a11), (8, i9 r3), (0, rf G 174), (1, i9 v1), (2, i9 v2), (3, i9 v3), (4, i9 v4), (5, i9 v5)] dX12_trial_105 rfl (by decide) rfl ?_
          refine r_goto C 41 dX12_trial_108 (by decide) ?_
          refine ss_wide (k' := 0) (n' := 0) (by decide) (by decide) ?_
          refine ss_ls [(0, rf G 174), (1, i9 v1), (2, i9 v2), (3, i9 v3), (4, i9 v4), (5, i9 v5), (6, i9 a11), (7, i9 (v7 + 1))] [3, 4, 5, 6, 7, 8, 1, 0] rfl ?_
          exact hk_X12_trial_174_c41 v1 v2 v3 v4 v5 a11 (v7 + 1) d9
theorem s_X12_trial_174_c41 {G : G9} {X : X9} (C : CX G X cX12_trial 9 RX12 [] z_X12_trial_174) : ∀ (v1 v2 v3 v4 v5 v6 v7 : Int) (d : D9), SS G X 9 0 0 41 [(0, rf G 174), (1, i9 v1), (2, i9 v2), (3, i9 v3), (4, i9 v4), (5, i9 v5), (6, i9 v6), (7, i9 v7)] [] d (m_X12_trial_174_c41  v1 v2 v3 v4 v5 v6 v7 d) :=
  fix9_ind (P := fun k => ∀ (v1 v2 v3 v4 v5 v6 v7 : Int) (d : D9), SS G X 9 0 0 41 [(0, rf G 174), (1, i9 v1), (2, i9 v2), (3, i9 v3), (4, i9 v4), (5, i9 v5), (6, i9 v6), (7, i9 v7)] [] d (k v1 v2 v3 v4 v5 v6 v7 d)) (fun _ _ _ _ _ _ _ _ => ss_none) (fun k hk => sb_X12_trial_174_c41 C k hk) FU
set_option maxRecDepth 100000 in
theorem t_X12_trial_174 {G : G9} {l : Launch} (h1 : va_D (A9 G) (wl G (fun _ _ => 0))) (h2 : l.stackTraces = false) (p1 p2 p3 p4 p5 : Int) (d : D9) : MT G l yX12_trial cX12_trial 9 z_X12_trial_174 [rf G 174, i9 p1, i9 p2, i9 p3, i9 p4, i9 p5] d (m_X12_trial_174 p1 p2 p3 p4 p5 d) := by
  refine mt_of (own := RX12) (by decide) rfl (Nat.le_of_ble_eq_true rfl) h1 h2 [(0, rf G 174), (1, i9 p1), (2, i9 p2), (3, i9 p3), (4, i9 p4), (5, i9 p5)] rfl (fun X hX C => ?_)
  unfold m_X12_trial_174
  refine r_aload_n C 0 dX12_trial_0 rfl rfl ?_
  refine r_iconst C dX12_trial_1 ?_
  refine r_putI C dX12_trial_2 fp_X12_76 la_174 ly_174 rfl (fun d1 => ?_)
  refine r_iload_n C 1 dX12_trial_5 rfl rfl ?_
  refine r_iload_n C 2 dX12_trial_6 rfl rfl ?_
  refine r_iload_n C 3 dX12_trial_7 rfl rfl ?_
  refine r_iload C 4 dX12_trial_8 rfl ?_
  refine r_callS C [i9 p4, i9 p3, i9 p2, i9 p1] dX12_trial_10 (t_X12_isDrip C.h1 C.h2 p1 p2 p3 p4 d1) mw_X12_370 ms_X12_isDrip (by decide) (by decide) (by decide) rfl rfl (Nat.le_of_ble_eq_true rfl) (fun r2 d3 => ?_)
  show SS G X 9 _ _ 13 [(0, rf G 174), (1, i9 p1), (2, i9 p2), (3, i9 p3), (4, i9 p4), (5, i9 p5)] [i9 r2] d3 _
  refine r_if_eq C (b := 0) 29 dX12_trial_13 (by decide) (fun _ => ?_) (fun _ => ?_)
  · refine ss_wide (k' := 0) (n' := 0) (by decide) (by decide) ?_
    refine ss_ls [(0, rf G 174)] [0] rfl ?_
    exact s_X12_trial_174_c29 C   d3
  · refine r_iload C 5 dX12_trial_16 rfl ?_
    refine r_i2l C dX12_trial_18 ?_
    refine r_lconst C dX12_trial_19 (a := 1) rfl ?_
    refine r_ldcL C dX12_trial_20 kc_X12_347 ?_
    refine r_callS C [l9 100, l9 1, l9 (w32 p5)] dX12_trial_23 (t_X12_within C.h1 C.h2 (w32 p5) 1 100 d3) mw_X12_79 ms_X12_within (by decide) (by decide) (by decide) rfl rfl (Nat.le_of_ble_eq_true rfl) (fun r4 d5 => ?_)
    show SS G X 9 _ _ 26 [(0, rf G 174), (1, i9 p1), (2, i9 p2), (3, i9 p3), (4, i9 p4), (5, i9 p5)] [i9 r4] d5 _
    refine r_if_ne C (b := 0) 35 dX12_trial_26 (by decide) (fun _ => ?_) (fun _ => ?_)
    · refine r_iconst C dX12_trial_35 ?_
      refine r_istore C [(6, i9 0), (0, rf G 174), (1, i9 p1), (2, i9 p2), (3, i9 p3), (4, i9 p4), (5, i9 p5)] dX12_trial_36 (by decide) rfl ?_
      refine r_iconst C dX12_trial_38 ?_
      refine r_istore C [(7, i9 1), (6, i9 0), (0, rf G 174), (1, i9 p1), (2, i9 p2), (3, i9 p3), (4, i9 p4), (5, i9 p5)] dX12_trial_39 (by decide) rfl ?_
      refine ss_wide (k' := 0) (n' := 0) (by decide) (by decide) ?_
      refine ss_ls [(0, rf G 174), (1, i9 p1), (2, i9 p2), (3, i9 p3), (4, i9 p4), (5, i9 p5), (6, i9 0), (7, i9 1)] [2, 3, 4, 5, 6, 7, 1, 0] rfl ?_
      exact s_X12_trial_174_c41 C  p1 p2 p3 p4 p5 0 1 d5
    · refine ss_wide (k' := 0) (n' := 0) (by decide) (by decide) ?_
      refine ss_ls [(0, rf G 174)] [0] rfl ?_
      exact s_X12_trial_174_c29 C   d5
theorem dX12_upper_0 : decode cX12_upper 0 = .ok (.aload_n 0, 1) := by decide +kernel
theorem dX12_upper_1 : decode cX12_upper 1 = .ok (.iconst 0, 1) := by decide +kernel
theorem dX12_upper_2 : decode cX12_upper 2 = .ok (.putfield 76, 3) := by decide +kernel
theorem dX12_upper_5 : decode cX12_upper 5 = .ok (.aload_n 0, 1) := by decide +kernel
theorem dX12_upper_6 : decode cX12_upper 6 = .ok (.getfield 337, 3) := by decide +kernel
theorem dX12_upper_9 : decode cX12_upper 9 = .ok (.lreturn, 1) := by decide +kernel
abbrev z_X12_upper_174 : Z9 := (some .long, 2, 0, 0, 1, 0)
def m_X12_upper_174 (d : D9) : Option R9 := pf d 174 3 0 (fun d1 => rt (d1 174 20) d1)
set_option maxRecDepth 100000 in
theorem t_X12_upper_174 {G : G9} {l : Launch} (h1 : va_D (A9 G) (wl G (fun _ _ => 0))) (h2 : l.stackTraces = false) (d : D9) : MT G l yX12_upper cX12_upper 1 z_X12_upper_174 [rf G 174] d (m_X12_upper_174  d) := by
  refine mt_of (own := RX12) (by decide) rfl (Nat.le_of_ble_eq_true rfl) h1 h2 [(0, rf G 174)] rfl (fun X hX C => ?_)
  unfold m_X12_upper_174
  refine r_aload_n C 0 dX12_upper_0 rfl rfl ?_
  refine r_iconst C dX12_upper_1 ?_
  refine r_putI C dX12_upper_2 fp_X12_76 la_174 ly_174 rfl (fun d1 => ?_)
  refine r_aload_n C 0 dX12_upper_5 rfl rfl ?_
  refine r_getL C dX12_upper_6 fl_X12_337 la_174 ly_174 rfl ?_
  exact r_lret C dX12_upper_9 (by decide) (by decide)
theorem dX12_weights_0 : decode cX12_weights 0 = .ok (.aload_n 0, 1) := by decide +kernel
theorem dX12_weights_1 : decode cX12_weights 1 = .ok (.iload_n 2, 1) := by decide +kernel
theorem dX12_weights_2 : decode cX12_weights 2 = .ok (.invokestatic 427, 3) := by decide +kernel
theorem dX12_weights_5 : decode cX12_weights 5 = .ok (.ifCond .ne 7, 3) := by decide +kernel
theorem dX12_weights_8 : decode cX12_weights 8 = .ok (.iconst 1, 1) := by decide +kernel
theorem dX12_weights_9 : decode cX12_weights 9 = .ok (.goto 18, 3) := by decide +kernel
theorem dX12_weights_12 : decode cX12_weights 12 = .ok (.aload_n 0, 1) := by decide +kernel
theorem dX12_weights_13 : decode cX12_weights 13 = .ok (.getfield 64, 3) := by decide +kernel
theorem dX12_weights_16 : decode cX12_weights 16 = .ok (.iload_n 2, 1) := by decide +kernel
theorem dX12_weights_17 : decode cX12_weights 17 = .ok (.iaload, 1) := by decide +kernel
theorem dX12_weights_18 : decode cX12_weights 18 = .ok (.iconst (-1), 1) := by decide +kernel
theorem dX12_weights_19 : decode cX12_weights 19 = .ok (.if_icmp .ne 7, 3) := by decide +kernel
theorem dX12_weights_22 : decode cX12_weights 22 = .ok (.iconst 2, 1) := by decide +kernel
theorem dX12_weights_23 : decode cX12_weights 23 = .ok (.goto 4, 3) := by decide +kernel
theorem dX12_weights_26 : decode cX12_weights 26 = .ok (.iconst 0, 1) := by decide +kernel
theorem dX12_weights_27 : decode cX12_weights 27 = .ok (.putfield 76, 3) := by decide +kernel
theorem dX12_weights_30 : decode cX12_weights 30 = .ok (.aload_n 0, 1) := by decide +kernel
theorem dX12_weights_31 : decode cX12_weights 31 = .ok (.getfield 76, 3) := by decide +kernel
theorem dX12_weights_34 : decode cX12_weights 34 = .ok (.ifCond .gt 13, 3) := by decide +kernel
theorem dX12_weights_37 : decode cX12_weights 37 = .ok (.aload_n 0, 1) := by decide +kernel
theorem dX12_weights_38 : decode cX12_weights 38 = .ok (.getfield 67, 3) := by decide +kernel
theorem dX12_weights_41 : decode cX12_weights 41 = .ok (.iload_n 2, 1) := by decide +kernel
theorem dX12_weights_42 : decode cX12_weights 42 = .ok (.iaload, 1) := by decide +kernel
theorem dX12_weights_43 : decode cX12_weights 43 = .ok (.iconst 5, 1) := by decide +kernel
theorem dX12_weights_44 : decode cX12_weights 44 = .ok (.if_icmp .eq 5, 3) := by decide +kernel
theorem dX12_weights_47 : decode cX12_weights 47 = .ok (.iconst 0, 1) := by decide +kernel
theorem dX12_weights_48 : decode cX12_weights 48 = .ok (.ireturn, 1) := by decide +kernel
theorem dX12_weights_49 : decode cX12_weights 49 = .ok (.iconst 0, 1) := by decide +kernel
theorem dX12_weights_50 : decode cX12_weights 50 = .ok (.istore_n 3, 1) := by decide +kernel
theorem dX12_weights_51 : decode cX12_weights 51 = .ok (.iload_n 3, 1) := by decide +kernel
theorem dX12_weights_52 : decode cX12_weights 52 = .ok (.iconst 5, 1) := by decide +kernel
theorem dX12_weights_53 : decode cX12_weights 53 = .ok (.if_icmp .ge 32, 3) := by decide +kernel
theorem dX12_weights_56 : decode cX12_weights 56 = .ok (.aload_n 0, 1) := by decide +kernel
theorem dX12_weights_57 : decode cX12_weights 57 = .ok (.getfield 70, 3) := by decide +kernel
theorem dX12_weights_60 : decode cX12_weights 60 = .ok (.bipush 40, 2) := by decide +kernel
theorem dX12_weights_62 : decode cX12_weights 62 = .ok (.iload_n 2, 1) := by decide +kernel
theorem dX12_weights_63 : decode cX12_weights 63 = .ok (.imul, 1) := by decide +kernel
theorem dX12_weights_64 : decode cX12_weights 64 = .ok (.iload_n 3, 1) := by decide +kernel
theorem dX12_weights_65 : decode cX12_weights 65 = .ok (.iadd, 1) := by decide +kernel
theorem dX12_weights_66 : decode cX12_weights 66 = .ok (.laload, 1) := by decide +kernel
theorem dX12_weights_67 : decode cX12_weights 67 = .ok (.lconst 0, 1) := by decide +kernel
theorem dX12_weights_68 : decode cX12_weights 68 = .ok (.ldc2_w 93, 3) := by decide +kernel
theorem dX12_weights_71 : decode cX12_weights 71 = .ok (.invokestatic 79, 3) := by decide +kernel
theorem dX12_weights_74 : decode cX12_weights 74 = .ok (.ifCond .ne 5, 3) := by decide +kernel
theorem dX12_weights_77 : decode cX12_weights 77 = .ok (.iconst 0, 1) := by decide +kernel
theorem dX12_weights_78 : decode cX12_weights 78 = .ok (.ireturn, 1) := by decide +kernel
theorem dX12_weights_79 : decode cX12_weights 79 = .ok (.iinc 3 1, 3) := by decide +kernel
theorem dX12_weights_82 : decode cX12_weights 82 = .ok (.goto (-31), 3) := by decide +kernel
theorem dX12_weights_85 : decode cX12_weights 85 = .ok (.iconst 0, 1) := by decide +kernel
theorem dX12_weights_86 : decode cX12_weights 86 = .ok (.istore_n 3, 1) := by decide +kernel
theorem dX12_weights_87 : decode cX12_weights 87 = .ok (.iload_n 3, 1) := by decide +kernel
theorem dX12_weights_88 : decode cX12_weights 88 = .ok (.iconst 5, 1) := by decide +kernel
theorem dX12_weights_89 : decode cX12_weights 89 = .ok (.if_icmp .ge 41, 3) := by decide +kernel
theorem dX12_weights_92 : decode cX12_weights 92 = .ok (.aload_n 0, 1) := by decide +kernel
theorem dX12_weights_93 : decode cX12_weights 93 = .ok (.getfield 9, 3) := by decide +kernel
theorem dX12_weights_96 : decode cX12_weights 96 = .ok (.sipush 1134, 3) := by decide +kernel
theorem dX12_weights_99 : decode cX12_weights 99 = .ok (.iload_n 1, 1) := by decide +kernel
theorem dX12_weights_100 : decode cX12_weights 100 = .ok (.ifCond .eq 7, 3) := by decide +kernel
theorem dX12_weights_103 : decode cX12_weights 103 = .ok (.iconst 5, 1) := by decide +kernel
theorem dX12_weights_104 : decode cX12_weights 104 = .ok (.goto 4, 3) := by decide +kernel
theorem dX12_weights_107 : decode cX12_weights 107 = .ok (.iconst 0, 1) := by decide +kernel
theorem dX12_weights_108 : decode cX12_weights 108 = .ok (.iadd, 1) := by decide +kernel
theorem dX12_weights_109 : decode cX12_weights 109 = .ok (.iload_n 3, 1) := by decide +kernel
theorem dX12_weights_110 : decode cX12_weights 110 = .ok (.iadd, 1) := by decide +kernel
theorem dX12_weights_111 : decode cX12_weights 111 = .ok (.aload_n 0, 1) := by decide +kernel
theorem dX12_weights_112 : decode cX12_weights 112 = .ok (.getfield 70, 3) := by decide +kernel
theorem dX12_weights_115 : decode cX12_weights 115 = .ok (.bipush 40, 2) := by decide +kernel
theorem dX12_weights_117 : decode cX12_weights 117 = .ok (.iload_n 2, 1) := by decide +kernel
theorem dX12_weights_118 : decode cX12_weights 118 = .ok (.imul, 1) := by decide +kernel
theorem dX12_weights_119 : decode cX12_weights 119 = .ok (.iload_n 3, 1) := by decide +kernel
theorem dX12_weights_120 : decode cX12_weights 120 = .ok (.iadd, 1) := by decide +kernel
theorem dX12_weights_121 : decode cX12_weights 121 = .ok (.laload, 1) := by decide +kernel
theorem dX12_weights_122 : decode cX12_weights 122 = .ok (.l2i, 1) := by decide +kernel
theorem dX12_weights_123 : decode cX12_weights 123 = .ok (.iastore, 1) := by decide +kernel
theorem dX12_weights_124 : decode cX12_weights 124 = .ok (.iinc 3 1, 3) := by decide +kernel
theorem dX12_weights_127 : decode cX12_weights 127 = .ok (.goto (-40), 3) := by decide +kernel
theorem dX12_weights_130 : decode cX12_weights 130 = .ok (.iconst 1, 1) := by decide +kernel
theorem dX12_weights_131 : decode cX12_weights 131 = .ok (.ireturn, 1) := by decide +kernel
abbrev z_X12_weights_174 : Z9 := (some .boolean, 1, 0, 0, 3, 45)
def m_X12_weights_174_c108 (k_X12_weights_174_c87 : Int → Int → Int → D9 → Option R9) (v1 v2 v3 s0 s1 : Int) (d : D9) : Option R9 := ld d 193 160 ((40 * v2) + v3) (fun t1 => sd d 175 1604 ((s1 + s0) + v3) t1 (fun d2 => k_X12_weights_174_c87 v1 v2 (v3 + 1) d2))
def b_X12_weights_174_c87 (k_X12_weights_174_c87 : Int → Int → Int → D9 → Option R9) (v1 v2 v3 : Int) (d : D9) : Option R9 := if w32 5 ≤ w32 v3 then rt (1 % 2) d else if w32 v1 = 0 then m_X12_weights_174_c108 k_X12_weights_174_c87 v1 v2 v3 0 1134 d else m_X12_weights_174_c108 k_X12_weights_174_c87 v1 v2 v3 5 1134 d
def m_X12_weights_174_c87 : Int → Int → Int → D9 → Option R9 := fix9 (fun _ _ _ _ => none) (fun k => b_X12_weights_174_c87 k) FU
def b_X12_weights_174_c51 (k_X12_weights_174_c51 : Int → Int → Int → D9 → Option R9) (v1 v2 v3 : Int) (d : D9) : Option R9 := if w32 5 ≤ w32 v3 then m_X12_weights_174_c87  v1 v2 0 d else ld d 193 160 ((40 * v2) + v3) (fun t1 => cl (m_X12_within t1 0 99 d) (fun r2 d3 => if w32 r2 ≠ 0 then k_X12_weights_174_c51 v1 v2 (v3 + 1) d3 else rt (0 % 2) d3))
def m_X12_weights_174_c51 : Int → Int → Int → D9 → Option R9 := fix9 (fun _ _ _ _ => none) (fun k => b_X12_weights_174_c51 k) FU
def m_X12_weights_174_c27 (v1 v2 s0 : Int) (d : D9) : Option R9 := pf d 174 3 s0 (fun d1 => if 0 < w32 (d1 174 3) then rt (0 % 2) d1 else ld d1 192 4 v2 (fun t2 => if w32 t2 = w32 5 then m_X12_weights_174_c51  v1 v2 0 d1 else rt (0 % 2) d1))
def m_X12_weights_174 (p1 p2 : Int) (d : D9) : Option R9 := cl (m_X12_isTray p2 d) (fun r1 d2 => if w32 r1 ≠ 0 then ld d2 191 4 p2 (fun t3 => if w32 t3 ≠ w32 (-1) then m_X12_weights_174_c27  p1 p2 0 d2 else m_X12_weights_174_c27  p1 p2 2 d2) else m_X12_weights_174_c27  p1 p2 1 d2)
set_option maxRecDepth 100000 in
theorem s_X12_weights_174_c108 {G : G9} {X : X9} (C : CX G X cX12_weights 4 RX12 [] z_X12_weights_174) (k_X12_weights_174_c87 : Int → Int → Int → D9 → Option R9) (hk_X12_weights_174_c87 : ∀ (v1 v2 v3 : Int) (d : D9), SS G X 4 0 0 87 [(0, rf G 174), (1, i9 v1), (2, i9 v2), (3, i9 v3)] [] d (k_X12_weights_174_c87 v1 v2 v3 d)) : ∀ (v1 v2 v3 s0 s1 : Int) (d : D9), SS G X 4 0 0 108 [(0, rf G 174), (1, i9 v1), (2, i9 v2), (3, i9 v3)] [i9 s0, i9 s1, rf G 175] d (m_X12_weights_174_c108 k_X12_weights_174_c87 v1 v2 v3 s0 s1 d) := by
  intro v1 v2 v3 s0 s1 d
  unfold m_X12_weights_174_c108
  refine r_iadd C dX12_weights_108 ?_
  refine r_iload_n C 3 dX12_weights_109 rfl rfl ?_
  refine r_iadd C dX12_weights_110 ?_
  refine r_aload_n C 0 dX12_weights_111 rfl rfl ?_
  refine r_getR C 193 dX12_weights_112 fl_X12_70 la_174 ly_174 rfl rfl ?_
  refine r_bipush C dX12_weights_115 rfl ?_
  refine r_iload_n C 2 dX12_weights_117 rfl rfl ?_
  refine r_imul C dX12_weights_118 ?_
  refine r_iload_n C 3 dX12_weights_119 rfl rfl ?_
  refine r_iadd C dX12_weights_120 ?_
  refine r_lald C dX12_weights_121 la_193 ly_193 (fun t1 => ?_)
  refine r_l2i C dX12_weights_122 ?_
  refine r_iast C dX12_weights_123 la_175 ly_175 (fun d2 => ?_)
  refine r_iinc C 3 [(3, i9 (v3 + 1)), (0, rf G 174), (1, i9 v1), (2, i9 v2)] dX12_weights_124 rfl (by decide) rfl ?_
  refine r_goto C 87 dX12_weights_127 (by decide) ?_
  refine ss_wide (k' := 0) (n' := 0) (by decide) (by decide) ?_
  refine ss_ls [(0, rf G 174), (1, i9 v1), (2, i9 v2), (3, i9 (v3 + 1))] [1, 2, 3, 0] rfl ?_
  exact hk_X12_weights_174_c87 v1 v2 (v3 + 1) d2
set_option maxRecDepth 100000 in
theorem sb_X12_weights_174_c87 {G : G9} {X : X9} (C : CX G X cX12_weights 4 RX12 [] z_X12_weights_174) (k_X12_weights_174_c87 : Int → Int → Int → D9 → Option R9) (hk_X12_weights_174_c87 : ∀ (v1 v2 v3 : Int) (d : D9), SS G X 4 0 0 87 [(0, rf G 174), (1, i9 v1), (2, i9 v2), (3, i9 v3)] [] d (k_X12_weights_174_c87 v1 v2 v3 d)) : ∀ (v1 v2 v3 : Int) (d : D9), SS G X 4 0 0 87 [(0, rf G 174), (1, i9 v1), (2, i9 v2), (3, i9 v3)] [] d (b_X12_weights_174_c87 k_X12_weights_174_c87 v1 v2 v3 d) := by
  intro v1 v2 v3 d
  unfold b_X12_weights_174_c87
  refine r_iload_n C 3 dX12_weights_87 rfl rfl ?_
  refine r_iconst C dX12_weights_88 ?_
  refine r_icmp_ge C 130 dX12_weights_89 (by decide) (fun _ => ?_) (fun _ => ?_)
  · refine r_iconst C dX12_weights_130 ?_
    exact r_zret C dX12_weights_131 (by decide) (by decide)
  · refine r_aload_n C 0 dX12_weights_92 rfl rfl ?_
    refine r_getR C 175 dX12_weights_93 fl_X12_9 la_174 ly_174 rfl rfl ?_
    refine r_sipush C dX12_weights_96 rfl ?_
    refine r_iload_n C 1 dX12_weights_99 rfl rfl ?_
    refine r_if_eq C (b := 0) 107 dX12_weights_100 (by decide) (fun _ => ?_) (fun _ => ?_)
    · refine r_iconst C dX12_weights_107 ?_
      refine ss_wide (k' := 0) (n' := 0) (by decide) (by decide) ?_
      refine ss_ls [(0, rf G 174), (1, i9 v1), (2, i9 v2), (3, i9 v3)] [0, 1, 2, 3] rfl ?_
      exact s_X12_weights_174_c108 C k_X12_weights_174_c87 hk_X12_weights_174_c87 v1 v2 v3 0 1134 d
    · refine r_iconst C dX12_weights_103 ?_
      refine r_goto C 108 dX12_weights_104 (by decide) ?_
      refine ss_wide (k' := 0) (n' := 0) (by decide) (by decide) ?_
      refine ss_ls [(0, rf G 174), (1, i9 v1), (2, i9 v2), (3, i9 v3)] [0, 1, 2, 3] rfl ?_
      exact s_X12_weights_174_c108 C k_X12_weights_174_c87 hk_X12_weights_174_c87 v1 v2 v3 5 1134 d
theorem s_X12_weights_174_c87 {G : G9} {X : X9} (C : CX G X cX12_weights 4 RX12 [] z_X12_weights_174) : ∀ (v1 v2 v3 : Int) (d : D9), SS G X 4 0 0 87 [(0, rf G 174), (1, i9 v1), (2, i9 v2), (3, i9 v3)] [] d (m_X12_weights_174_c87  v1 v2 v3 d) :=
  fix9_ind (P := fun k => ∀ (v1 v2 v3 : Int) (d : D9), SS G X 4 0 0 87 [(0, rf G 174), (1, i9 v1), (2, i9 v2), (3, i9 v3)] [] d (k v1 v2 v3 d)) (fun _ _ _ _ => ss_none) (fun k hk => sb_X12_weights_174_c87 C k hk) FU
set_option maxRecDepth 100000 in
theorem sb_X12_weights_174_c51 {G : G9} {X : X9} (C : CX G X cX12_weights 4 RX12 [] z_X12_weights_174) (k_X12_weights_174_c51 : Int → Int → Int → D9 → Option R9) (hk_X12_weights_174_c51 : ∀ (v1 v2 v3 : Int) (d : D9), SS G X 4 0 0 51 [(0, rf G 174), (1, i9 v1), (2, i9 v2), (3, i9 v3)] [] d (k_X12_weights_174_c51 v1 v2 v3 d)) : ∀ (v1 v2 v3 : Int) (d : D9), SS G X 4 0 0 51 [(0, rf G 174), (1, i9 v1), (2, i9 v2), (3, i9 v3)] [] d (b_X12_weights_174_c51 k_X12_weights_174_c51 v1 v2 v3 d) := by
  intro v1 v2 v3 d
  unfold b_X12_weights_174_c51
  refine r_iload_n C 3 dX12_weights_51 rfl rfl ?_
  refine r_iconst C dX12_weights_52 ?_
  refine r_icmp_ge C 85 dX12_weights_53 (by decide) (fun _ => ?_) (fun _ => ?_)
  · refine r_iconst C dX12_weights_85 ?_
    refine r_istore_n C [(3, i9 0), (0, rf G 174), (1, i9 v1), (2, i9 v2)] dX12_weights_86 rfl (by decide) rfl ?_
    refine ss_wide (k' := 0) (n' := 0) (by decide) (by decide) ?_
    refine ss_ls [(0, rf G 174), (1, i9 v1), (2, i9 v2), (3, i9 0)] [1, 2, 3, 0] rfl ?_
    exact s_X12_weights_174_c87 C  v1 v2 0 d
  · refine r_aload_n C 0 dX12_weights_56 rfl rfl ?_
    refine r_getR C 193 dX12_weights_57 fl_X12_70 la_174 ly_174 rfl rfl ?_
    refine r_bipush C dX12_weights_60 rfl ?_
    refine r_iload_n C 2 dX12_weights_62 rfl rfl ?_
    refine r_imul C dX12_weights_63 ?_
    refine r_iload_n C 3 dX12_weights_64 rfl rfl ?_
    refine r_iadd C dX12_weights_65 ?_
    refine r_lald C dX12_weights_66 la_193 ly_193 (fun t1 => ?_)
    refine r_lconst C dX12_weights_67 (a := 0) rfl ?_
    refine r_ldcL C dX12_weights_68 kc_X12_93 ?_
    refine r_callS C [l9 99, l9 0, l9 t1] dX12_weights_71 (t_X12_within C.h1 C.h2 t1 0 99 d) mw_X12_79 ms_X12_within (by decide) (by decide) (by decide) rfl rfl (Nat.le_of_ble_eq_true rfl) (fun r2 d3 => ?_)
    show SS G X 4 _ _ 74 [(0, rf G 174), (1, i9 v1), (2, i9 v2), (3, i9 v3)] [i9 r2] d3 _
    refine r_if_ne C (b := 0) 79 dX12_weights_74 (by decide) (fun _ => ?_) (fun _ => ?_)
    · refine r_iinc C 3 [(3, i9 (v3 + 1)), (0, rf G 174), (1, i9 v1), (2, i9 v2)] dX12_weights_79 rfl (by decide) rfl ?_
      refine r_goto C 51 dX12_weights_82 (by decide) ?_
      refine ss_wide (k' := 0) (n' := 0) (by decide) (by decide) ?_
      refine ss_ls [(0, rf G 174), (1, i9 v1), (2, i9 v2), (3, i9 (v3 + 1))] [1, 2, 3, 0] rfl ?_
      exact hk_X12_weights_174_c51 v1 v2 (v3 + 1) d3
    · refine r_iconst C dX12_weights_77 ?_
      exact r_zret C dX12_weights_78 (by decide) (by decide)
theorem s_X12_weights_174_c51 {G : G9} {X : X9} (C : CX G X cX12_weights 4 RX12 [] z_X12_weights_174) : ∀ (v1 v2 v3 : Int) (d : D9), SS G X 4 0 0 51 [(0, rf G 174), (1, i9 v1), (2, i9 v2), (3, i9 v3)] [] d (m_X12_weights_174_c51  v1 v2 v3 d) :=
  fix9_ind (P := fun k => ∀ (v1 v2 v3 : Int) (d : D9), SS G X 4 0 0 51 [(0, rf G 174), (1, i9 v1), (2, i9 v2), (3, i9 v3)] [] d (k v1 v2 v3 d)) (fun _ _ _ _ => ss_none) (fun k hk => sb_X12_weights_174_c51 C k hk) FU
set_option maxRecDepth 100000 in
theorem s_X12_weights_174_c27 {G : G9} {X : X9} (C : CX G X cX12_weights 4 RX12 [] z_X12_weights_174) : ∀ (v1 v2 s0 : Int) (d : D9), SS G X 4 0 0 27 [(0, rf G 174), (1, i9 v1), (2, i9 v2)] [i9 s0, rf G 174] d (m_X12_weights_174_c27  v1 v2 s0 d) := by
  intro v1 v2 s0 d
  unfold m_X12_weights_174_c27
  refine r_putI C dX12_weights_27 fp_X12_76 la_174 ly_174 rfl (fun d1 => ?_)
  refine r_aload_n C 0 dX12_weights_30 rfl rfl ?_
  refine r_getI C dX12_weights_31 fl_X12_76 la_174 ly_174 rfl ?_
  refine r_if_gt C (b := 0) 47 dX12_weights_34 (by decide) (fun _ => ?_) (fun _ => ?_)
  · refine r_iconst C dX12_weights_47 ?_
    exact r_zret C dX12_weights_48 (by decide) (by decide)
  · refine r_aload_n C 0 dX12_weights_37 rfl rfl ?_
    refine r_getR C 192 dX12_weights_38 fl_X12_67 la_174 ly_174 rfl rfl ?_
    refine r_iload_n C 2 dX12_weights_41 rfl rfl ?_
    refine r_iald C dX12_weights_42 la_192 ly_192 (fun t2 => ?_)
    refine r_iconst C dX12_weights_43 ?_
    refine r_icmp_eq C 49 dX12_weights_44 (by decide) (fun _ => ?_) (fun _ => ?_)
    · refine r_iconst C dX12_weights_49 ?_
      refine r_istore_n C [(3, i9 0), (0, rf G 174), (1, i9 v1), (2, i9 v2)] dX12_weights_50 rfl (by decide) rfl ?_
      refine ss_wide (k' := 0) (n' := 0) (by decide) (by decide) ?_
      refine ss_ls [(0, rf G 174), (1, i9 v1), (2, i9 v2), (3, i9 0)] [1, 2, 3, 0] rfl ?_
      exact s_X12_weights_174_c51 C  v1 v2 0 d1
    · refine r_iconst C dX12_weights_47 ?_
      exact r_zret C dX12_weights_48 (by decide) (by decide)
set_option maxRecDepth 100000 in
theorem t_X12_weights_174 {G : G9} {l : Launch} (h1 : va_D (A9 G) (wl G (fun _ _ => 0))) (h2 : l.stackTraces = false) (p1 p2 : Int) (d : D9) : MT G l yX12_weights cX12_weights 4 z_X12_weights_174 [rf G 174, i9 p1, i9 p2] d (m_X12_weights_174 p1 p2 d) := by
  refine mt_of (own := RX12) (by decide) rfl (Nat.le_of_ble_eq_true rfl) h1 h2 [(0, rf G 174), (1, i9 p1), (2, i9 p2)] rfl (fun X hX C => ?_)
  unfold m_X12_weights_174
  refine r_aload_n C 0 dX12_weights_0 rfl rfl ?_
  refine r_iload_n C 2 dX12_weights_1 rfl rfl ?_
  refine r_callS C [i9 p2, rf G 174] dX12_weights_2 (t_X12_isTray C.h1 C.h2 p2 d) mw_X12_427 ms_X12_isTray (by decide) (by decide) (by decide) rfl rfl (Nat.le_of_ble_eq_true rfl) (fun r1 d2 => ?_)
  show SS G X 4 _ _ 5 [(0, rf G 174), (1, i9 p1), (2, i9 p2)] [i9 r1, rf G 174] d2 _
  refine r_if_ne C (b := 0) 12 dX12_weights_5 (by decide) (fun _ => ?_) (fun _ => ?_)
  · refine r_aload_n C 0 dX12_weights_12 rfl rfl ?_
    refine r_getR C 191 dX12_weights_13 fl_X12_64 la_174 ly_174 rfl rfl ?_
    refine r_iload_n C 2 dX12_weights_16 rfl rfl ?_
    refine r_iald C dX12_weights_17 la_191 ly_191 (fun t3 => ?_)
    refine r_iconst C dX12_weights_18 ?_
    refine r_icmp_ne C 26 dX12_weights_19 (by decide) (fun _ => ?_) (fun _ => ?_)
    · refine r_iconst C dX12_weights_26 ?_
      refine ss_wide (k' := 0) (n' := 0) (by decide) (by decide) ?_
      refine ss_ls [(0, rf G 174), (1, i9 p1), (2, i9 p2)] [0, 1, 2] rfl ?_
      exact s_X12_weights_174_c27 C  p1 p2 0 d2
    · refine r_iconst C dX12_weights_22 ?_
      refine r_goto C 27 dX12_weights_23 (by decide) ?_
      refine ss_wide (k' := 0) (n' := 0) (by decide) (by decide) ?_
      refine ss_ls [(0, rf G 174), (1, i9 p1), (2, i9 p2)] [0, 1, 2] rfl ?_
      exact s_X12_weights_174_c27 C  p1 p2 2 d2
  · refine r_iconst C dX12_weights_8 ?_
    refine r_goto C 27 dX12_weights_9 (by decide) ?_
    refine ss_wide (k' := 0) (n' := 0) (by decide) (by decide) ?_
    refine ss_ls [(0, rf G 174), (1, i9 p1), (2, i9 p2)] [0, 1, 2] rfl ?_
    exact s_X12_weights_174_c27 C  p1 p2 1 d2
theorem dX12_who_0 : decode cX12_who 0 = .ok (.aload_n 0, 1) := by decide +kernel
theorem dX12_who_1 : decode cX12_who 1 = .ok (.aload_n 0, 1) := by decide +kernel
theorem dX12_who_2 : decode cX12_who 2 = .ok (.iload_n 1, 1) := by decide +kernel
theorem dX12_who_3 : decode cX12_who 3 = .ok (.iload_n 2, 1) := by decide +kernel
theorem dX12_who_4 : decode cX12_who 4 = .ok (.invokevirtual 436, 3) := by decide +kernel
theorem dX12_who_7 : decode cX12_who 7 = .ok (.putfield 76, 3) := by decide +kernel
theorem dX12_who_10 : decode cX12_who 10 = .ok (.aload_n 0, 1) := by decide +kernel
theorem dX12_who_11 : decode cX12_who 11 = .ok (.getfield 76, 3) := by decide +kernel
theorem dX12_who_14 : decode cX12_who 14 = .ok (.ifCond .le 5, 3) := by decide +kernel
theorem dX12_who_17 : decode cX12_who 17 = .ok (.iconst 0, 1) := by decide +kernel
theorem dX12_who_18 : decode cX12_who 18 = .ok (.ireturn, 1) := by decide +kernel
theorem dX12_who_19 : decode cX12_who 19 = .ok (.aload_n 0, 1) := by decide +kernel
theorem dX12_who_20 : decode cX12_who 20 = .ok (.iload_n 1, 1) := by decide +kernel
theorem dX12_who_21 : decode cX12_who 21 = .ok (.invokevirtual 433, 3) := by decide +kernel
theorem dX12_who_24 : decode cX12_who 24 = .ok (.pop, 1) := by decide +kernel
theorem dX12_who_25 : decode cX12_who 25 = .ok (.lconst 0, 1) := by decide +kernel
theorem dX12_who_26 : decode cX12_who 26 = .ok (.lstore_n 3, 1) := by decide +kernel
theorem dX12_who_27 : decode cX12_who 27 = .ok (.lconst 0, 1) := by decide +kernel
theorem dX12_who_28 : decode cX12_who 28 = .ok (.lstore 5, 2) := by decide +kernel
theorem dX12_who_30 : decode cX12_who 30 = .ok (.iconst 0, 1) := by decide +kernel
theorem dX12_who_31 : decode cX12_who 31 = .ok (.istore 7, 2) := by decide +kernel
theorem dX12_who_33 : decode cX12_who 33 = .ok (.iload 7, 2) := by decide +kernel
theorem dX12_who_35 : decode cX12_who 35 = .ok (.sipush 400, 3) := by decide +kernel
theorem dX12_who_38 : decode cX12_who 38 = .ok (.if_icmp .gt 70, 3) := by decide +kernel
theorem dX12_who_41 : decode cX12_who 41 = .ok (.iconst 0, 1) := by decide +kernel
theorem dX12_who_42 : decode cX12_who 42 = .ok (.istore 8, 2) := by decide +kernel
theorem dX12_who_44 : decode cX12_who 44 = .ok (.iload 8, 2) := by decide +kernel
theorem dX12_who_46 : decode cX12_who 46 = .ok (.bipush 6, 2) := by decide +kernel
theorem dX12_who_48 : decode cX12_who 48 = .ok (.if_icmp .ge 54, 3) := by decide +kernel
theorem dX12_who_51 : decode cX12_who 51 = .ok (.aload_n 0, 1) := by decide +kernel
theorem dX12_who_52 : decode cX12_who 52 = .ok (.getfield 49, 3) := by decide +kernel
theorem dX12_who_55 : decode cX12_who 55 = .ok (.iload 7, 2) := by decide +kernel
theorem dX12_who_57 : decode cX12_who 57 = .ok (.baload, 1) := by decide +kernel
theorem dX12_who_58 : decode cX12_who 58 = .ok (.ifCond .eq 44, 3) := by decide +kernel
theorem dX12_who_61 : decode cX12_who 61 = .ok (.aload_n 0, 1) := by decide +kernel
theorem dX12_who_62 : decode cX12_who 62 = .ok (.iconst 1, 1) := by decide +kernel
theorem dX12_who_63 : decode cX12_who 63 = .ok (.iload 8, 2) := by decide +kernel
theorem dX12_who_65 : decode cX12_who 65 = .ok (.iload 7, 2) := by decide +kernel
theorem dX12_who_67 : decode cX12_who 67 = .ok (.invokevirtual 430, 3) := by decide +kernel
theorem dX12_who_70 : decode cX12_who 70 = .ok (.ifCond .ne 6, 3) := by decide +kernel
theorem dX12_who_73 : decode cX12_who 73 = .ok (.goto 23, 3) := by decide +kernel
theorem dX12_who_76 : decode cX12_who 76 = .ok (.lload 5, 2) := by decide +kernel
theorem dX12_who_78 : decode cX12_who 78 = .ok (.lconst 1, 1) := by decide +kernel
theorem dX12_who_79 : decode cX12_who 79 = .ok (.ladd, 1) := by decide +kernel
theorem dX12_who_80 : decode cX12_who 80 = .ok (.lstore 5, 2) := by decide +kernel
theorem dX12_who_82 : decode cX12_who 82 = .ok (.lload_n 3, 1) := by decide +kernel
theorem dX12_who_83 : decode cX12_who 83 = .ok (.iload 8, 2) := by decide +kernel
theorem dX12_who_85 : decode cX12_who 85 = .ok (.iload_n 2, 1) := by decide +kernel
theorem dX12_who_86 : decode cX12_who 86 = .ok (.if_icmp .ne 7, 3) := by decide +kernel
theorem dX12_who_89 : decode cX12_who 89 = .ok (.lconst 1, 1) := by decide +kernel
theorem dX12_who_90 : decode cX12_who 90 = .ok (.goto 4, 3) := by decide +kernel
theorem dX12_who_93 : decode cX12_who 93 = .ok (.lconst 0, 1) := by decide +kernel
theorem dX12_who_94 : decode cX12_who 94 = .ok (.ladd, 1) := by decide +kernel
theorem dX12_who_95 : decode cX12_who 95 = .ok (.lstore_n 3, 1) := by decide +kernel
theorem dX12_who_96 : decode cX12_who 96 = .ok (.iinc 8 1, 3) := by decide +kernel
theorem dX12_who_99 : decode cX12_who 99 = .ok (.goto (-55), 3) := by decide +kernel
theorem dX12_who_102 : decode cX12_who 102 = .ok (.iinc 7 1, 3) := by decide +kernel
theorem dX12_who_105 : decode cX12_who 105 = .ok (.goto (-72), 3) := by decide +kernel
theorem dX12_who_108 : decode cX12_who 108 = .ok (.lload 5, 2) := by decide +kernel
theorem dX12_who_110 : decode cX12_who 110 = .ok (.lconst 0, 1) := by decide +kernel
theorem dX12_who_111 : decode cX12_who 111 = .ok (.lcmp, 1) := by decide +kernel
theorem dX12_who_112 : decode cX12_who 112 = .ok (.ifCond .ne 10, 3) := by decide +kernel
theorem dX12_who_115 : decode cX12_who 115 = .ok (.aload_n 0, 1) := by decide +kernel
theorem dX12_who_116 : decode cX12_who 116 = .ok (.invokevirtual 415, 3) := by decide +kernel
theorem dX12_who_119 : decode cX12_who 119 = .ok (.goto 10, 3) := by decide +kernel
theorem dX12_who_122 : decode cX12_who 122 = .ok (.aload_n 0, 1) := by decide +kernel
theorem dX12_who_123 : decode cX12_who 123 = .ok (.lload_n 3, 1) := by decide +kernel
theorem dX12_who_124 : decode cX12_who 124 = .ok (.lload 5, 2) := by decide +kernel
theorem dX12_who_126 : decode cX12_who 126 = .ok (.invokevirtual 355, 3) := by decide +kernel
theorem dX12_who_129 : decode cX12_who 129 = .ok (.ireturn, 1) := by decide +kernel
abbrev z_X12_who_174 : Z9 := (some .boolean, 1, 0, 0, 11, 277)
def b_X12_who_174_c44 (k_X12_who_174_c33 : Int → Int → Int → Int → D9 → Option R9) (k_X12_who_174_c44 : Int → Int → Int → Int → Int → D9 → Option R9) (v2 v3 v5 v7 v8 : Int) (d : D9) : Option R9 := if w32 6 ≤ w32 v8 then k_X12_who_174_c33 v2 v3 v5 (v7 + 1) d else ld d 186 401 v7 (fun t1 => if w32 t1 = 0 then k_X12_who_174_c33 v2 v3 v5 (v7 + 1) d else cl (m_X12_wasThere_174 1 v8 v7 d) (fun r2 d3 => if w32 r2 ≠ 0 then lt9v (v5 + 1) (fun a4 => if w32 v8 ≠ w32 v2 then lt9v (v3 + 0) (fun a5 => k_X12_who_174_c44 v2 a5 a4 v7 (v8 + 1) d3) else lt9v (v3 + 1) (fun a6 => k_X12_who_174_c44 v2 a6 a4 v7 (v8 + 1) d3)) else k_X12_who_174_c44 v2 v3 v5 v7 (v8 + 1) d3))
def m_X12_who_174_c44 (k_X12_who_174_c33 : Int → Int → Int → Int → D9 → Option R9) : Int → Int → Int → Int → Int → D9 → Option R9 := fix9 (fun _ _ _ _ _ _ => none) (fun k => b_X12_who_174_c44 k_X12_who_174_c33 k) FU
def b_X12_who_174_c33 (k_X12_who_174_c33 : Int → Int → Int → Int → D9 → Option R9) (v2 v3 v5 v7 : Int) (d : D9) : Option R9 := if w32 400 < w32 v7 then if w64 v5 ≠ w64 0 then cl (m_X12_fraction_174 v3 v5 d) (fun r1 d2 => rt (r1 % 2) d2) else cl (m_X12_nothing_174 d) (fun r3 d4 => rt (r3 % 2) d4) else m_X12_who_174_c44 k_X12_who_174_c33 v2 v3 v5 v7 0 d
def m_X12_who_174_c33 : Int → Int → Int → Int → D9 → Option R9 := fix9 (fun _ _ _ _ _ => none) (fun k => b_X12_who_174_c33 k) FU
def m_X12_who_174 (p1 p2 : Int) (d : D9) : Option R9 := cl (m_X12_peopleFault_174 p1 p2 d) (fun r1 d2 => pf d2 174 3 r1 (fun d3 => if w32 (d3 174 3) ≤ 0 then cl (m_X12_layTimes_174 p1 d3) (fun r4 d5 => m_X12_who_174_c33  p2 0 0 0 d5) else rt (0 % 2) d3))
set_option maxRecDepth 100000 in
theorem sb_X12_who_174_c44 {G : G9} {X : X9} (C : CX G X cX12_who 9 RX12 [] z_X12_who_174) (k_X12_who_174_c33 : Int → Int → Int → Int → D9 → Option R9) (hk_X12_who_174_c33 : ∀ (v2 v3 v5 v7 : Int) (d : D9), SS G X 9 0 0 33 [(0, rf G 174), (2, i9 v2), (3, l9 v3), (5, l9 v5), (7, i9 v7)] [] d (k_X12_who_174_c33 v2 v3 v5 v7 d)) (k_X12_who_174_c44 : Int → Int → Int → Int → Int → D9 → Option R9) (hk_X12_who_174_c44 : ∀ (v2 v3 v5 v7 v8 : Int) (d : D9), SS G X 9 0 0 44 [(0, rf G 174), (2, i9 v2), (3, l9 v3), (5, l9 v5), (7, i9 v7), (8, i9 v8)] [] d (k_X12_who_174_c44 v2 v3 v5 v7 v8 d)) : ∀ (v2 v3 v5 v7 v8 : Int) (d : D9), SS G X 9 0 0 44 [(0, rf G 174), (2, i9 v2), (3, l9 v3), (5, l9 v5), (7, i9 v7), (8, i9 v8)] [] d (b_X12_who_174_c44 k_X12_who_174_c33 k_X12_who_174_c44 v2 v3 v5 v7 v8 d) := by
  intro v2 v3 v5 v7 v8 d
  unfold b_X12_who_174_c44
  refine r_iload C 5 dX12_who_44 rfl ?_
  refine r_bipush C dX12_who_46 rfl ?_
  refine r_icmp_ge C 102 dX12_who_48 (by decide) (fun _ => ?_) (fun _ => ?_)
  · refine r_iinc C 4 [(7, i9 (v7 + 1)), (0, rf G 174), (2, i9 v2), (3, l9 v3), (5, l9 v5), (8, i9 v8)] dX12_who_102 rfl (by decide) rfl ?_
    refine r_goto C 33 dX12_who_105 (by decide) ?_
    refine ss_wide (k' := 0) (n' := 0) (by decide) (by decide) ?_
    refine ss_ls [(0, rf G 174), (2, i9 v2), (3, l9 v3), (5, l9 v5), (7, i9 (v7 + 1))] [1, 2, 3, 4, 0] rfl ?_
    exact hk_X12_who_174_c33 v2 v3 v5 (v7 + 1) d
  · refine r_aload_n C 0 dX12_who_51 rfl rfl ?_
    refine r_getR C 186 dX12_who_52 fl_X12_49 la_174 ly_174 rfl rfl ?_
    refine r_iload C 4 dX12_who_55 rfl ?_
    refine r_zald C dX12_who_57 la_186 ly_186 (fun t1 => ?_)
    refine r_if_eq C (b := 0) 102 dX12_who_58 (by decide) (fun _ => ?_) (fun _ => ?_)
    · refine r_iinc C 4 [(7, i9 (v7 + 1)), (0, rf G 174), (2, i9 v2), (3, l9 v3), (5, l9 v5), (8, i9 v8)] dX12_who_102 rfl (by decide) rfl ?_
      refine r_goto C 33 dX12_who_105 (by decide) ?_
      refine ss_wide (k' := 0) (n' := 0) (by decide) (by decide) ?_
      refine ss_ls [(0, rf G 174), (2, i9 v2), (3, l9 v3), (5, l9 v5), (7, i9 (v7 + 1))] [1, 2, 3, 4, 0] rfl ?_
      exact hk_X12_who_174_c33 v2 v3 v5 (v7 + 1) d
    · refine r_aload_n C 0 dX12_who_61 rfl rfl ?_
      refine r_iconst C dX12_who_62 ?_
      refine r_iload C 5 dX12_who_63 rfl ?_
      refine r_iload C 4 dX12_who_65 rfl ?_
      refine r_callV C [i9 v7, i9 v8, i9 1, rf G 174] dX12_who_67 (t_X12_wasThere_174 C.h1 C.h2 1 v8 v7 d) mw_X12_430 mv_X12_wasThere la_174 ly_174 rfl (by decide) (by decide) (by decide) rfl rfl (Nat.le_of_ble_eq_true rfl) (fun r2 d3 => ?_)
      show SS G X 9 _ _ 70 [(0, rf G 174), (2, i9 v2), (3, l9 v3), (5, l9 v5), (7, i9 v7), (8, i9 v8)] [i9 r2] d3 _
      refine r_if_ne C (b := 0) 76 dX12_who_70 (by decide) (fun _ => ?_) (fun _ => ?_)
      · refine r_lload C 3 dX12_who_76 rfl ?_
        refine r_lconst C dX12_who_78 (a := 1) rfl ?_
        refine r_ladd C dX12_who_79 ?_
        refine ss_ltL (fun a4 => ?_)
        refine r_lstore C [(5, l9 a4), (0, rf G 174), (2, i9 v2), (3, l9 v3), (7, i9 v7), (8, i9 v8)] dX12_who_80 (by decide) rfl ?_
        refine r_lload_n C 3 dX12_who_82 rfl rfl ?_
        refine r_iload C 5 dX12_who_83 rfl ?_
        refine r_iload_n C 2 dX12_who_85 rfl rfl ?_
        refine r_icmp_ne C 93 dX12_who_86 (by decide) (fun _ => ?_) (fun _ => ?_)
        · refine r_lconst C dX12_who_93 (a := 0) rfl ?_
          refine r_ladd C dX12_who_94 ?_
          refine ss_ltL (fun a5 => ?_)
          refine r_lstore_n C [(3, l9 a5), (5, l9 a4), (0, rf G 174), (2, i9 v2), (7, i9 v7), (8, i9 v8)] dX12_who_95 rfl (by decide) rfl ?_
          refine r_iinc C 5 [(8, i9 (v8 + 1)), (3, l9 a5), (5, l9 a4), (0, rf G 174), (2, i9 v2), (7, i9 v7)] dX12_who_96 rfl (by decide) rfl ?_
          refine r_goto C 44 dX12_who_99 (by decide) ?_
          refine ss_wide (k' := 0) (n' := 0) (by decide) (by decide) ?_
          refine ss_ls [(0, rf G 174), (2, i9 v2), (3, l9 a5), (5, l9 a4), (7, i9 v7), (8, i9 (v8 + 1))] [3, 4, 1, 2, 5, 0] rfl ?_
          exact hk_X12_who_174_c44 v2 a5 a4 v7 (v8 + 1) d3
        · refine r_lconst C dX12_who_89 (a := 1) rfl ?_
          refine r_goto C 94 dX12_who_90 (by decide) ?_
          refine r_ladd C dX12_who_94 ?_
          refine ss_ltL (fun a6 => ?_)
          refine r_lstore_n C [(3, l9 a6), (5, l9 a4), (0, rf G 174), (2, i9 v2), (7, i9 v7), (8, i9 v8)] dX12_who_95 rfl (by decide) rfl ?_
          refine r_iinc C 5 [(8, i9 (v8 + 1)), (3, l9 a6), (5, l9 a4), (0, rf G 174), (2, i9 v2), (7, i9 v7)] dX12_who_96 rfl (by decide) rfl ?_
          refine r_goto C 44 dX12_who_99 (by decide) ?_
          refine ss_wide (k' := 0) (n' := 0) (by decide) (by decide) ?_
          refine ss_ls [(0, rf G 174), (2, i9 v2), (3, l9 a6), (5, l9 a4), (7, i9 v7), (8, i9 (v8 + 1))] [3, 4, 1, 2, 5, 0] rfl ?_
          exact hk_X12_who_174_c44 v2 a6 a4 v7 (v8 + 1) d3
      · refine r_goto C 96 dX12_who_73 (by decide) ?_
        refine r_iinc C 5 [(8, i9 (v8 + 1)), (0, rf G 174), (2, i9 v2), (3, l9 v3), (5, l9 v5), (7, i9 v7)] dX12_who_96 rfl (by decide) rfl ?_
        refine r_goto C 44 dX12_who_99 (by decide) ?_
        refine ss_wide (k' := 0) (n' := 0) (by decide) (by decide) ?_
        refine ss_ls [(0, rf G 174), (2, i9 v2), (3, l9 v3), (5, l9 v5), (7, i9 v7), (8, i9 (v8 + 1))] [1, 2, 3, 4, 5, 0] rfl ?_
        exact hk_X12_who_174_c44 v2 v3 v5 v7 (v8 + 1) d3
theorem s_X12_who_174_c44 {G : G9} {X : X9} (C : CX G X cX12_who 9 RX12 [] z_X12_who_174) (k_X12_who_174_c33 : Int → Int → Int → Int → D9 → Option R9) (hk_X12_who_174_c33 : ∀ (v2 v3 v5 v7 : Int) (d : D9), SS G X 9 0 0 33 [(0, rf G 174), (2, i9 v2), (3, l9 v3), (5, l9 v5), (7, i9 v7)] [] d (k_X12_who_174_c33 v2 v3 v5 v7 d)) : ∀ (v2 v3 v5 v7 v8 : Int) (d : D9), SS G X 9 0 0 44 [(0, rf G 174), (2, i9 v2), (3, l9 v3), (5, l9 v5), (7, i9 v7), (8, i9 v8)] [] d (m_X12_who_174_c44 k_X12_who_174_c33 v2 v3 v5 v7 v8 d) :=
  fix9_ind (P := fun k => ∀ (v2 v3 v5 v7 v8 : Int) (d : D9), SS G X 9 0 0 44 [(0, rf G 174), (2, i9 v2), (3, l9 v3), (5, l9 v5), (7, i9 v7), (8, i9 v8)] [] d (k v2 v3 v5 v7 v8 d)) (fun _ _ _ _ _ _ => ss_none) (fun k hk => sb_X12_who_174_c44 C k_X12_who_174_c33 hk_X12_who_174_c33 k hk) FU
set_option maxRecDepth 100000 in
theorem sb_X12_who_174_c33 {G : G9} {X : X9} (C : CX G X cX12_who 9 RX12 [] z_X12_who_174) (k_X12_who_174_c33 : Int → Int → Int → Int → D9 → Option R9) (hk_X12_who_174_c33 : ∀ (v2 v3 v5 v7 : Int) (d : D9), SS G X 9 0 0 33 [(0, rf G 174), (2, i9 v2), (3, l9 v3), (5, l9 v5), (7, i9 v7)] [] d (k_X12_who_174_c33 v2 v3 v5 v7 d)) : ∀ (v2 v3 v5 v7 : Int) (d : D9), SS G X 9 0 0 33 [(0, rf G 174), (2, i9 v2), (3, l9 v3), (5, l9 v5), (7, i9 v7)] [] d (b_X12_who_174_c33 k_X12_who_174_c33 v2 v3 v5 v7 d) := by
  intro v2 v3 v5 v7 d
  unfold b_X12_who_174_c33
  refine r_iload C 4 dX12_who_33 rfl ?_
  refine r_sipush C dX12_who_35 rfl ?_
  refine r_icmp_gt C 108 dX12_who_38 (by decide) (fun _ => ?_) (fun _ => ?_)
  · refine r_lload C 3 dX12_who_108 rfl ?_
    refine r_lconst C dX12_who_110 (a := 0) rfl ?_
    refine r_lcmp_ne C 122 dX12_who_111 dX12_who_112 (by decide) (fun _ => ?_) (fun _ => ?_)
    · refine r_aload_n C 0 dX12_who_122 rfl rfl ?_
      refine r_lload_n C 2 dX12_who_123 rfl rfl ?_
      refine r_lload C 3 dX12_who_124 rfl ?_
      refine r_callV C [l9 v5, l9 v3, rf G 174] dX12_who_126 (t_X12_fraction_174 C.h1 C.h2 v3 v5 d) mw_X12_355 mv_X12_fraction la_174 ly_174 rfl (by decide) (by decide) (by decide) rfl rfl (Nat.le_of_ble_eq_true rfl) (fun r1 d2 => ?_)
      show SS G X 9 _ _ 129 [(0, rf G 174), (2, i9 v2), (3, l9 v3), (5, l9 v5), (7, i9 v7)] [i9 r1] d2 _
      exact r_zret C dX12_who_129 (by decide) (by decide)
    · refine r_aload_n C 0 dX12_who_115 rfl rfl ?_
      refine r_callV C [rf G 174] dX12_who_116 (t_X12_nothing_174 C.h1 C.h2 d) mw_X12_415 mv_X12_nothing la_174 ly_174 rfl (by decide) (by decide) (by decide) rfl rfl (Nat.le_of_ble_eq_true rfl) (fun r3 d4 => ?_)
      show SS G X 9 _ _ 119 [(0, rf G 174), (2, i9 v2), (3, l9 v3), (5, l9 v5), (7, i9 v7)] [i9 r3] d4 _
      refine r_goto C 129 dX12_who_119 (by decide) ?_
      exact r_zret C dX12_who_129 (by decide) (by decide)
  · refine r_iconst C dX12_who_41 ?_
    refine r_istore C [(8, i9 0), (0, rf G 174), (2, i9 v2), (3, l9 v3), (5, l9 v5), (7, i9 v7)] dX12_who_42 (by decide) rfl ?_
    refine ss_wide (k' := 0) (n' := 0) (by decide) (by decide) ?_
    refine ss_ls [(0, rf G 174), (2, i9 v2), (3, l9 v3), (5, l9 v5), (7, i9 v7), (8, i9 0)] [1, 2, 3, 4, 5, 0] rfl ?_
    exact s_X12_who_174_c44 C k_X12_who_174_c33 hk_X12_who_174_c33 v2 v3 v5 v7 0 d
theorem s_X12_who_174_c33 {G : G9} {X : X9} (C : CX G X cX12_who 9 RX12 [] z_X12_who_174) : ∀ (v2 v3 v5 v7 : Int) (d : D9), SS G X 9 0 0 33 [(0, rf G 174), (2, i9 v2), (3, l9 v3), (5, l9 v5), (7, i9 v7)] [] d (m_X12_who_174_c33  v2 v3 v5 v7 d) :=
  fix9_ind (P := fun k => ∀ (v2 v3 v5 v7 : Int) (d : D9), SS G X 9 0 0 33 [(0, rf G 174), (2, i9 v2), (3, l9 v3), (5, l9 v5), (7, i9 v7)] [] d (k v2 v3 v5 v7 d)) (fun _ _ _ _ _ => ss_none) (fun k hk => sb_X12_who_174_c33 C k hk) FU
set_option maxRecDepth 100000 in
theorem t_X12_who_174 {G : G9} {l : Launch} (h1 : va_D (A9 G) (wl G (fun _ _ => 0))) (h2 : l.stackTraces = false) (p1 p2 : Int) (d : D9) : MT G l yX12_who cX12_who 9 z_X12_who_174 [rf G 174, i9 p1, i9 p2] d (m_X12_who_174 p1 p2 d) := by
  refine mt_of (own := RX12) (by decide) rfl (Nat.le_of_ble_eq_true rfl) h1 h2 [(0, rf G 174), (1, i9 p1), (2, i9 p2)] rfl (fun X hX C => ?_)
  unfold m_X12_who_174
  refine r_aload_n C 0 dX12_who_0 rfl rfl ?_
  refine r_aload_n C 0 dX12_who_1 rfl rfl ?_
  refine r_iload_n C 1 dX12_who_2 rfl rfl ?_
  refine r_iload_n C 2 dX12_who_3 rfl rfl ?_
  refine r_callV C [i9 p2, i9 p1, rf G 174, rf G 174] dX12_who_4 (t_X12_peopleFault_174 C.h1 C.h2 p1 p2 d) mw_X12_436 mv_X12_peopleFault la_174 ly_174 rfl (by decide) (by decide) (by decide) rfl rfl (Nat.le_of_ble_eq_true rfl) (fun r1 d2 => ?_)
  show SS G X 9 _ _ 7 [(0, rf G 174), (1, i9 p1), (2, i9 p2)] [i9 r1, rf G 174] d2 _
  refine r_putI C dX12_who_7 fp_X12_76 la_174 ly_174 rfl (fun d3 => ?_)
  refine r_aload_n C 0 dX12_who_10 rfl rfl ?_
  refine r_getI C dX12_who_11 fl_X12_76 la_174 ly_174 rfl ?_
  refine r_if_le C (b := 0) 19 dX12_who_14 (by decide) (fun _ => ?_) (fun _ => ?_)
  · refine r_aload_n C 0 dX12_who_19 rfl rfl ?_
    refine r_iload_n C 1 dX12_who_20 rfl rfl ?_
    refine r_callV C [i9 p1, rf G 174] dX12_who_21 (t_X12_layTimes_174 C.h1 C.h2 p1 d3) mw_X12_433 mv_X12_layTimes la_174 ly_174 rfl (by decide) (by decide) (by decide) rfl rfl (Nat.le_of_ble_eq_true rfl) (fun r4 d5 => ?_)
    show SS G X 9 _ _ 24 [(0, rf G 174), (1, i9 p1), (2, i9 p2)] [i9 r4] d5 _
    refine r_pop C dX12_who_24 rfl ?_
    refine r_lconst C dX12_who_25 (a := 0) rfl ?_
    refine r_lstore_n C [(3, l9 0), (0, rf G 174), (1, i9 p1), (2, i9 p2)] dX12_who_26 rfl (by decide) rfl ?_
    refine r_lconst C dX12_who_27 (a := 0) rfl ?_
    refine r_lstore C [(5, l9 0), (3, l9 0), (0, rf G 174), (1, i9 p1), (2, i9 p2)] dX12_who_28 (by decide) rfl ?_
    refine r_iconst C dX12_who_30 ?_
    refine r_istore C [(7, i9 0), (5, l9 0), (3, l9 0), (0, rf G 174), (1, i9 p1), (2, i9 p2)] dX12_who_31 (by decide) rfl ?_
    refine ss_wide (k' := 0) (n' := 0) (by decide) (by decide) ?_
    refine ss_ls [(0, rf G 174), (2, i9 p2), (3, l9 0), (5, l9 0), (7, i9 0)] [3, 5, 2, 1, 0] rfl ?_
    exact s_X12_who_174_c33 C  p2 0 0 0 d5
  · refine r_iconst C dX12_who_17 ?_
    exact r_zret C dX12_who_18 (by decide) (by decide)
theorem dX12_whose_0 : decode cX12_whose 0 = .ok (.aload_n 0, 1) := by decide +kernel
theorem dX12_whose_1 : decode cX12_whose 1 = .ok (.aload_n 0, 1) := by decide +kernel
theorem dX12_whose_2 : decode cX12_whose 2 = .ok (.iload_n 1, 1) := by decide +kernel
theorem dX12_whose_3 : decode cX12_whose 3 = .ok (.iload_n 2, 1) := by decide +kernel
theorem dX12_whose_4 : decode cX12_whose 4 = .ok (.invokevirtual 412, 3) := by decide +kernel
theorem dX12_whose_7 : decode cX12_whose 7 = .ok (.putfield 76, 3) := by decide +kernel
theorem dX12_whose_10 : decode cX12_whose 10 = .ok (.aload_n 0, 1) := by decide +kernel
theorem dX12_whose_11 : decode cX12_whose 11 = .ok (.getfield 76, 3) := by decide +kernel
theorem dX12_whose_14 : decode cX12_whose 14 = .ok (.ifCond .le 5, 3) := by decide +kernel
theorem dX12_whose_17 : decode cX12_whose 17 = .ok (.iconst 0, 1) := by decide +kernel
theorem dX12_whose_18 : decode cX12_whose 18 = .ok (.ireturn, 1) := by decide +kernel
theorem dX12_whose_19 : decode cX12_whose 19 = .ok (.iconst 0, 1) := by decide +kernel
theorem dX12_whose_20 : decode cX12_whose 20 = .ok (.istore_n 3, 1) := by decide +kernel
theorem dX12_whose_21 : decode cX12_whose 21 = .ok (.iload_n 3, 1) := by decide +kernel
theorem dX12_whose_22 : decode cX12_whose 22 = .ok (.iconst 4, 1) := by decide +kernel
theorem dX12_whose_23 : decode cX12_whose 23 = .ok (.if_icmp .ge 23, 3) := by decide +kernel
theorem dX12_whose_26 : decode cX12_whose 26 = .ok (.aload_n 0, 1) := by decide +kernel
theorem dX12_whose_27 : decode cX12_whose 27 = .ok (.getfield 42, 3) := by decide +kernel
theorem dX12_whose_30 : decode cX12_whose 30 = .ok (.iload_n 3, 1) := by decide +kernel
theorem dX12_whose_31 : decode cX12_whose 31 = .ok (.lconst 0, 1) := by decide +kernel
theorem dX12_whose_32 : decode cX12_whose 32 = .ok (.lastore, 1) := by decide +kernel
theorem dX12_whose_33 : decode cX12_whose 33 = .ok (.aload_n 0, 1) := by decide +kernel
theorem dX12_whose_34 : decode cX12_whose 34 = .ok (.getfield 46, 3) := by decide +kernel
theorem dX12_whose_37 : decode cX12_whose 37 = .ok (.iload_n 3, 1) := by decide +kernel
theorem dX12_whose_38 : decode cX12_whose 38 = .ok (.lconst 0, 1) := by decide +kernel
theorem dX12_whose_39 : decode cX12_whose 39 = .ok (.lastore, 1) := by decide +kernel
theorem dX12_whose_40 : decode cX12_whose 40 = .ok (.iinc 3 1, 3) := by decide +kernel
theorem dX12_whose_43 : decode cX12_whose 43 = .ok (.goto (-22), 3) := by decide +kernel
theorem dX12_whose_46 : decode cX12_whose 46 = .ok (.iconst 0, 1) := by decide +kernel
theorem dX12_whose_47 : decode cX12_whose 47 = .ok (.istore_n 3, 1) := by decide +kernel
theorem dX12_whose_48 : decode cX12_whose 48 = .ok (.iload_n 3, 1) := by decide +kernel
theorem dX12_whose_49 : decode cX12_whose 49 = .ok (.aload_n 0, 1) := by decide +kernel
theorem dX12_whose_50 : decode cX12_whose 50 = .ok (.getfield 9, 3) := by decide +kernel
theorem dX12_whose_53 : decode cX12_whose 53 = .ok (.iconst 3, 1) := by decide +kernel
theorem dX12_whose_54 : decode cX12_whose 54 = .ok (.iaload, 1) := by decide +kernel
theorem dX12_whose_55 : decode cX12_whose 55 = .ok (.if_icmp .ge 53, 3) := by decide +kernel
theorem dX12_whose_58 : decode cX12_whose 58 = .ok (.aload_n 0, 1) := by decide +kernel
theorem dX12_whose_59 : decode cX12_whose 59 = .ok (.getfield 42, 3) := by decide +kernel
theorem dX12_whose_62 : decode cX12_whose 62 = .ok (.aload_n 0, 1) := by decide +kernel
theorem dX12_whose_63 : decode cX12_whose 63 = .ok (.iload_n 3, 1) := by decide +kernel
theorem dX12_whose_64 : decode cX12_whose 64 = .ok (.iconst 0, 1) := by decide +kernel
theorem dX12_whose_65 : decode cX12_whose 65 = .ok (.invokevirtual 397, 3) := by decide +kernel
theorem dX12_whose_68 : decode cX12_whose 68 = .ok (.dup2, 1) := by decide +kernel
theorem dX12_whose_69 : decode cX12_whose 69 = .ok (.laload, 1) := by decide +kernel
theorem dX12_whose_70 : decode cX12_whose 70 = .ok (.lconst 1, 1) := by decide +kernel
theorem dX12_whose_71 : decode cX12_whose 71 = .ok (.ladd, 1) := by decide +kernel
theorem dX12_whose_72 : decode cX12_whose 72 = .ok (.lastore, 1) := by decide +kernel
theorem dX12_whose_73 : decode cX12_whose 73 = .ok (.aload_n 0, 1) := by decide +kernel
theorem dX12_whose_74 : decode cX12_whose 74 = .ok (.getfield 46, 3) := by decide +kernel
theorem dX12_whose_77 : decode cX12_whose 77 = .ok (.aload_n 0, 1) := by decide +kernel
theorem dX12_whose_78 : decode cX12_whose 78 = .ok (.iload_n 3, 1) := by decide +kernel
theorem dX12_whose_79 : decode cX12_whose 79 = .ok (.iconst 0, 1) := by decide +kernel
theorem dX12_whose_80 : decode cX12_whose 80 = .ok (.invokevirtual 397, 3) := by decide +kernel
theorem dX12_whose_83 : decode cX12_whose 83 = .ok (.dup2, 1) := by decide +kernel
theorem dX12_whose_84 : decode cX12_whose 84 = .ok (.laload, 1) := by decide +kernel
theorem dX12_whose_85 : decode cX12_whose 85 = .ok (.aload_n 0, 1) := by decide +kernel
theorem dX12_whose_86 : decode cX12_whose 86 = .ok (.iload_n 3, 1) := by decide +kernel
theorem dX12_whose_87 : decode cX12_whose 87 = .ok (.iload_n 1, 1) := by decide +kernel
theorem dX12_whose_88 : decode cX12_whose 88 = .ok (.iconst (-1), 1) := by decide +kernel
theorem dX12_whose_89 : decode cX12_whose 89 = .ok (.invokevirtual 408, 3) := by decide +kernel
theorem dX12_whose_92 : decode cX12_whose 92 = .ok (.ifCond .eq 7, 3) := by decide +kernel
theorem dX12_whose_95 : decode cX12_whose 95 = .ok (.lconst 1, 1) := by decide +kernel
theorem dX12_whose_96 : decode cX12_whose 96 = .ok (.goto 4, 3) := by decide +kernel
theorem dX12_whose_99 : decode cX12_whose 99 = .ok (.lconst 0, 1) := by decide +kernel
theorem dX12_whose_100 : decode cX12_whose 100 = .ok (.ladd, 1) := by decide +kernel
theorem dX12_whose_101 : decode cX12_whose 101 = .ok (.lastore, 1) := by decide +kernel
theorem dX12_whose_102 : decode cX12_whose 102 = .ok (.iinc 3 1, 3) := by decide +kernel
theorem dX12_whose_105 : decode cX12_whose 105 = .ok (.goto (-57), 3) := by decide +kernel
theorem dX12_whose_108 : decode cX12_whose 108 = .ok (.lconst 1, 1) := by decide +kernel
theorem dX12_whose_109 : decode cX12_whose 109 = .ok (.lstore_n 3, 1) := by decide +kernel
theorem dX12_whose_110 : decode cX12_whose 110 = .ok (.iconst 0, 1) := by decide +kernel
theorem dX12_whose_111 : decode cX12_whose 111 = .ok (.istore 5, 2) := by decide +kernel
theorem dX12_whose_113 : decode cX12_whose 113 = .ok (.iload 5, 2) := by decide +kernel
theorem dX12_whose_115 : decode cX12_whose 115 = .ok (.iconst 4, 1) := by decide +kernel
theorem dX12_whose_116 : decode cX12_whose 116 = .ok (.if_icmp .ge 35, 3) := by decide +kernel
theorem dX12_whose_119 : decode cX12_whose 119 = .ok (.lload_n 3, 1) := by decide +kernel
theorem dX12_whose_120 : decode cX12_whose 120 = .ok (.aload_n 0, 1) := by decide +kernel
theorem dX12_whose_121 : decode cX12_whose 121 = .ok (.getfield 42, 3) := by decide +kernel
theorem dX12_whose_124 : decode cX12_whose 124 = .ok (.iload 5, 2) := by decide +kernel
theorem dX12_whose_126 : decode cX12_whose 126 = .ok (.laload, 1) := by decide +kernel
theorem dX12_whose_127 : decode cX12_whose 127 = .ok (.lconst 0, 1) := by decide +kernel
theorem dX12_whose_128 : decode cX12_whose 128 = .ok (.lcmp, 1) := by decide +kernel
theorem dX12_whose_129 : decode cX12_whose 129 = .ok (.ifCond .ne 7, 3) := by decide +kernel
theorem dX12_whose_132 : decode cX12_whose 132 = .ok (.lconst 1, 1) := by decide +kernel
theorem dX12_whose_133 : decode cX12_whose 133 = .ok (.goto 10, 3) := by decide +kernel
theorem dX12_whose_136 : decode cX12_whose 136 = .ok (.aload_n 0, 1) := by decide +kernel
theorem dX12_whose_137 : decode cX12_whose 137 = .ok (.getfield 42, 3) := by decide +kernel
theorem dX12_whose_140 : decode cX12_whose 140 = .ok (.iload 5, 2) := by decide +kernel
theorem dX12_whose_142 : decode cX12_whose 142 = .ok (.laload, 1) := by decide +kernel
theorem dX12_whose_143 : decode cX12_whose 143 = .ok (.lmul, 1) := by decide +kernel
theorem dX12_whose_144 : decode cX12_whose 144 = .ok (.lstore_n 3, 1) := by decide +kernel
theorem dX12_whose_145 : decode cX12_whose 145 = .ok (.iinc 5 1, 3) := by decide +kernel
theorem dX12_whose_148 : decode cX12_whose 148 = .ok (.goto (-35), 3) := by decide +kernel
theorem dX12_whose_151 : decode cX12_whose 151 = .ok (.lconst 0, 1) := by decide +kernel
theorem dX12_whose_152 : decode cX12_whose 152 = .ok (.lstore 5, 2) := by decide +kernel
theorem dX12_whose_154 : decode cX12_whose 154 = .ok (.iconst 0, 1) := by decide +kernel
theorem dX12_whose_155 : decode cX12_whose 155 = .ok (.istore 7, 2) := by decide +kernel
theorem dX12_whose_157 : decode cX12_whose 157 = .ok (.iload 7, 2) := by decide +kernel
theorem dX12_whose_159 : decode cX12_whose 159 = .ok (.iconst 4, 1) := by decide +kernel
theorem dX12_whose_160 : decode cX12_whose 160 = .ok (.if_icmp .ge 47, 3) := by decide +kernel
theorem dX12_whose_163 : decode cX12_whose 163 = .ok (.lload 5, 2) := by decide +kernel
theorem dX12_whose_165 : decode cX12_whose 165 = .ok (.aload_n 0, 1) := by decide +kernel
theorem dX12_whose_166 : decode cX12_whose 166 = .ok (.getfield 42, 3) := by decide +kernel
theorem dX12_whose_169 : decode cX12_whose 169 = .ok (.iload 7, 2) := by decide +kernel
theorem dX12_whose_171 : decode cX12_whose 171 = .ok (.laload, 1) := by decide +kernel
theorem dX12_whose_172 : decode cX12_whose 172 = .ok (.lconst 0, 1) := by decide +kernel
theorem dX12_whose_173 : decode cX12_whose 173 = .ok (.lcmp, 1) := by decide +kernel
theorem dX12_whose_174 : decode cX12_whose 174 = .ok (.ifCond .ne 7, 3) := by decide +kernel
theorem dX12_whose_177 : decode cX12_whose 177 = .ok (.lconst 0, 1) := by decide +kernel
theorem dX12_whose_178 : decode cX12_whose 178 = .ok (.goto 20, 3) := by decide +kernel
theorem dX12_whose_181 : decode cX12_whose 181 = .ok (.aload_n 0, 1) := by decide +kernel
theorem dX12_whose_182 : decode cX12_whose 182 = .ok (.getfield 46, 3) := by decide +kernel
theorem dX12_whose_185 : decode cX12_whose 185 = .ok (.iload 7, 2) := by decide +kernel
theorem dX12_whose_187 : decode cX12_whose 187 = .ok (.laload, 1) := by decide +kernel
theorem dX12_whose_188 : decode cX12_whose 188 = .ok (.lload_n 3, 1) := by decide +kernel
theorem dX12_whose_189 : decode cX12_whose 189 = .ok (.aload_n 0, 1) := by decide +kernel
theorem dX12_whose_190 : decode cX12_whose 190 = .ok (.getfield 42, 3) := by decide +kernel
theorem dX12_whose_193 : decode cX12_whose 193 = .ok (.iload 7, 2) := by decide +kernel
theorem dX12_whose_195 : decode cX12_whose 195 = .ok (.laload, 1) := by decide +kernel
theorem dX12_whose_196 : decode cX12_whose 196 = .ok (.ldiv, 1) := by decide +kernel
theorem dX12_whose_197 : decode cX12_whose 197 = .ok (.lmul, 1) := by decide +kernel
theorem dX12_whose_198 : decode cX12_whose 198 = .ok (.ladd, 1) := by decide +kernel
theorem dX12_whose_199 : decode cX12_whose 199 = .ok (.lstore 5, 2) := by decide +kernel
theorem dX12_whose_201 : decode cX12_whose 201 = .ok (.iinc 7 1, 3) := by decide +kernel
theorem dX12_whose_204 : decode cX12_whose 204 = .ok (.goto (-47), 3) := by decide +kernel
theorem dX12_whose_207 : decode cX12_whose 207 = .ok (.lload 5, 2) := by decide +kernel
theorem dX12_whose_209 : decode cX12_whose 209 = .ok (.lconst 0, 1) := by decide +kernel
theorem dX12_whose_210 : decode cX12_whose 210 = .ok (.lcmp, 1) := by decide +kernel
theorem dX12_whose_211 : decode cX12_whose 211 = .ok (.ifCond .eq 14, 3) := by decide +kernel
theorem dX12_whose_214 : decode cX12_whose 214 = .ok (.aload_n 0, 1) := by decide +kernel
theorem dX12_whose_215 : decode cX12_whose 215 = .ok (.getfield 42, 3) := by decide +kernel
theorem dX12_whose_218 : decode cX12_whose 218 = .ok (.iload_n 2, 1) := by decide +kernel
theorem dX12_whose_219 : decode cX12_whose 219 = .ok (.laload, 1) := by decide +kernel
theorem dX12_whose_220 : decode cX12_whose 220 = .ok (.lconst 0, 1) := by decide +kernel
theorem dX12_whose_221 : decode cX12_whose 221 = .ok (.lcmp, 1) := by decide +kernel
theorem dX12_whose_222 : decode cX12_whose 222 = .ok (.ifCond .ne 10, 3) := by decide +kernel
theorem dX12_whose_225 : decode cX12_whose 225 = .ok (.aload_n 0, 1) := by decide +kernel
theorem dX12_whose_226 : decode cX12_whose 226 = .ok (.invokevirtual 415, 3) := by decide +kernel
theorem dX12_whose_229 : decode cX12_whose 229 = .ok (.goto 24, 3) := by decide +kernel
theorem dX12_whose_232 : decode cX12_whose 232 = .ok (.aload_n 0, 1) := by decide +kernel
theorem dX12_whose_233 : decode cX12_whose 233 = .ok (.aload_n 0, 1) := by decide +kernel
theorem dX12_whose_234 : decode cX12_whose 234 = .ok (.getfield 46, 3) := by decide +kernel
theorem dX12_whose_237 : decode cX12_whose 237 = .ok (.iload_n 2, 1) := by decide +kernel
theorem dX12_whose_238 : decode cX12_whose 238 = .ok (.laload, 1) := by decide +kernel
theorem dX12_whose_239 : decode cX12_whose 239 = .ok (.lload_n 3, 1) := by decide +kernel
theorem dX12_whose_240 : decode cX12_whose 240 = .ok (.aload_n 0, 1) := by decide +kernel
theorem dX12_whose_241 : decode cX12_whose 241 = .ok (.getfield 42, 3) := by decide +kernel
theorem dX12_whose_244 : decode cX12_whose 244 = .ok (.iload_n 2, 1) := by decide +kernel
theorem dX12_whose_245 : decode cX12_whose 245 = .ok (.laload, 1) := by decide +kernel
theorem dX12_whose_246 : decode cX12_whose 246 = .ok (.ldiv, 1) := by decide +kernel
theorem dX12_whose_247 : decode cX12_whose 247 = .ok (.lmul, 1) := by decide +kernel
theorem dX12_whose_248 : decode cX12_whose 248 = .ok (.lload 5, 2) := by decide +kernel
theorem dX12_whose_250 : decode cX12_whose 250 = .ok (.invokevirtual 355, 3) := by decide +kernel
theorem dX12_whose_253 : decode cX12_whose 253 = .ok (.ireturn, 1) := by decide +kernel
abbrev z_X12_whose_174 : Z9 := (some .boolean, 1, 0, 0, 5, 89)
def m_X12_whose_174_c225 (d : D9) : Option R9 := cl (m_X12_nothing_174 d) (fun r1 d2 => rt (r1 % 2) d2)
def b_X12_whose_174_c157 (k_X12_whose_174_c157 : Int → Int → Int → Int → D9 → Option R9) (v2 v3 v5 v7 : Int) (d : D9) : Option R9 := if w32 4 ≤ w32 v7 then if w64 v5 = w64 0 then m_X12_whose_174_c225   d else ld d 184 4 v2 (fun t1 => if w64 t1 ≠ w64 0 then ld d 185 4 v2 (fun t2 => ld d 184 4 v2 (fun t3 => dvL t3 (cl (m_X12_fraction_174 (t2 * (divL v3 t3)) v5 d) (fun r5 d6 => rt (r5 % 2) d6)))) else m_X12_whose_174_c225   d) else ld d 184 4 v7 (fun t7 => if w64 t7 ≠ w64 0 then ld d 185 4 v7 (fun t8 => ld d 184 4 v7 (fun t9 => dvL t9 (lt9v (v5 + (t8 * (divL v3 t9))) (fun a11 => k_X12_whose_174_c157 v2 v3 a11 (v7 + 1) d)))) else lt9v (v5 + 0) (fun a12 => k_X12_whose_174_c157 v2 v3 a12 (v7 + 1) d))
def m_X12_whose_174_c157 : Int → Int → Int → Int → D9 → Option R9 := fix9 (fun _ _ _ _ _ => none) (fun k => b_X12_whose_174_c157 k) FU
def b_X12_whose_174_c113 (k_X12_whose_174_c113 : Int → Int → Int → D9 → Option R9) (v2 v3 v5 : Int) (d : D9) : Option R9 := if w32 4 ≤ w32 v5 then m_X12_whose_174_c157  v2 v3 0 0 d else ld d 184 4 v5 (fun t1 => if w64 t1 ≠ w64 0 then ld d 184 4 v5 (fun t2 => lt9v (v3 * t2) (fun a3 => k_X12_whose_174_c113 v2 a3 (v5 + 1) d)) else lt9v (v3 * 1) (fun a4 => k_X12_whose_174_c113 v2 a4 (v5 + 1) d))
def m_X12_whose_174_c113 : Int → Int → Int → D9 → Option R9 := fix9 (fun _ _ _ _ => none) (fun k => b_X12_whose_174_c113 k) FU
def b_X12_whose_174_c48 (k_X12_whose_174_c48 : Int → Int → Int → D9 → Option R9) (v1 v2 v3 : Int) (d : D9) : Option R9 := ld d 175 1604 3 (fun t1 => if w32 t1 ≤ w32 v3 then m_X12_whose_174_c113  v2 1 0 d else cl (m_X12_ofHand_174 v3 0 d) (fun r2 d3 => ld d3 184 4 r2 (fun t4 => sd d3 184 4 r2 (t4 + 1) (fun d5 => cl (m_X12_ofHand_174 v3 0 d5) (fun r6 d7 => ld d7 185 4 r6 (fun t8 => cl (m_X12_isLike_174 v3 v1 (-1) d7) (fun r9 d10 => if w32 r9 = 0 then sd d10 185 4 r6 (t8 + 0) (fun d11 => k_X12_whose_174_c48 v1 v2 (v3 + 1) d11) else sd d10 185 4 r6 (t8 + 1) (fun d12 => k_X12_whose_174_c48 v1 v2 (v3 + 1) d12))))))))
def m_X12_whose_174_c48 : Int → Int → Int → D9 → Option R9 := fix9 (fun _ _ _ _ => none) (fun k => b_X12_whose_174_c48 k) FU
def b_X12_whose_174_c21 (k_X12_whose_174_c21 : Int → Int → Int → D9 → Option R9) (v1 v2 v3 : Int) (d : D9) : Option R9 := if w32 4 ≤ w32 v3 then m_X12_whose_174_c48  v1 v2 0 d else sd d 184 4 v3 0 (fun d1 => sd d1 185 4 v3 0 (fun d2 => k_X12_whose_174_c21 v1 v2 (v3 + 1) d2))
def m_X12_whose_174_c21 : Int → Int → Int → D9 → Option R9 := fix9 (fun _ _ _ _ => none) (fun k => b_X12_whose_174_c21 k) FU
def m_X12_whose_174 (p1 p2 : Int) (d : D9) : Option R9 := cl (m_X12_sortFault_174 p1 p2 d) (fun r1 d2 => pf d2 174 3 r1 (fun d3 => if w32 (d3 174 3) ≤ 0 then m_X12_whose_174_c21  p1 p2 0 d3 else rt (0 % 2) d3))
set_option maxRecDepth 100000 in
theorem s_X12_whose_174_c225 {G : G9} {X : X9} (C : CX G X cX12_whose 8 RX12 [] z_X12_whose_174) : ∀ (d : D9), SS G X 8 0 0 225 [(0, rf G 174)] [] d (m_X12_whose_174_c225   d) := by
  intro  d
  unfold m_X12_whose_174_c225
  refine r_aload_n C 0 dX12_whose_225 rfl rfl ?_
  refine r_callV C [rf G 174] dX12_whose_226 (t_X12_nothing_174 C.h1 C.h2 d) mw_X12_415 mv_X12_nothing la_174 ly_174 rfl (by decide) (by decide) (by decide) rfl rfl (Nat.le_of_ble_eq_true rfl) (fun r1 d2 => ?_)
  show SS G X 8 _ _ 229 [(0, rf G 174)] [i9 r1] d2 _
  refine r_goto C 253 dX12_whose_229 (by decide) ?_
  exact r_zret C dX12_whose_253 (by decide) (by decide)
set_option maxRecDepth 100000 in
theorem sb_X12_whose_174_c157 {G : G9} {X : X9} (C : CX G X cX12_whose 8 RX12 [] z_X12_whose_174) (k_X12_whose_174_c157 : Int → Int → Int → Int → D9 → Option R9) (hk_X12_whose_174_c157 : ∀ (v2 v3 v5 v7 : Int) (d : D9), SS G X 8 0 0 157 [(0, rf G 174), (2, i9 v2), (3, l9 v3), (5, l9 v5), (7, i9 v7)] [] d (k_X12_whose_174_c157 v2 v3 v5 v7 d)) : ∀ (v2 v3 v5 v7 : Int) (d : D9), SS G X 8 0 0 157 [(0, rf G 174), (2, i9 v2), (3, l9 v3), (5, l9 v5), (7, i9 v7)] [] d (b_X12_whose_174_c157 k_X12_whose_174_c157 v2 v3 v5 v7 d) := by
  intro v2 v3 v5 v7 d
  unfold b_X12_whose_174_c157
  refine r_iload C 4 dX12_whose_157 rfl ?_
  refine r_iconst C dX12_whose_159 ?_
  refine r_icmp_ge C 207 dX12_whose_160 (by decide) (fun _ => ?_) (fun _ => ?_)
  · refine r_lload C 3 dX12_whose_207 rfl ?_
    refine r_lconst C dX12_whose_209 (a := 0) rfl ?_
    refine r_lcmp_eq C 225 dX12_whose_210 dX12_whose_211 (by decide) (fun _ => ?_) (fun _ => ?_)
    · refine ss_wide (k' := 0) (n' := 0) (by decide) (by decide) ?_
      refine ss_ls [(0, rf G 174)] [0] rfl ?_
      exact s_X12_whose_174_c225 C   d
    · refine r_aload_n C 0 dX12_whose_214 rfl rfl ?_
      refine r_getR C 184 dX12_whose_215 fl_X12_42 la_174 ly_174 rfl rfl ?_
      refine r_iload_n C 1 dX12_whose_218 rfl rfl ?_
      refine r_lald C dX12_whose_219 la_184 ly_184 (fun t1 => ?_)
      refine r_lconst C dX12_whose_220 (a := 0) rfl ?_
      refine r_lcmp_ne C 232 dX12_whose_221 dX12_whose_222 (by decide) (fun _ => ?_) (fun _ => ?_)
      · refine r_aload_n C 0 dX12_whose_232 rfl rfl ?_
        refine r_aload_n C 0 dX12_whose_233 rfl rfl ?_
        refine r_getR C 185 dX12_whose_234 fl_X12_46 la_174 ly_174 rfl rfl ?_
        refine r_iload_n C 1 dX12_whose_237 rfl rfl ?_
        refine r_lald C dX12_whose_238 la_185 ly_185 (fun t2 => ?_)
        refine r_lload_n C 2 dX12_whose_239 rfl rfl ?_
        refine r_aload_n C 0 dX12_whose_240 rfl rfl ?_
        refine r_getR C 184 dX12_whose_241 fl_X12_42 la_174 ly_174 rfl rfl ?_
        refine r_iload_n C 1 dX12_whose_244 rfl rfl ?_
        refine r_lald C dX12_whose_245 la_184 ly_184 (fun t3 => ?_)
        refine ss_dvL (fun h4 => ?_)
        refine r_ldiv C dX12_whose_246 h4 ?_
        refine r_lmul C dX12_whose_247 ?_
        refine r_lload C 3 dX12_whose_248 rfl ?_
        refine r_callV C [l9 v5, l9 (t2 * (divL v3 t3)), rf G 174] dX12_whose_250 (t_X12_fraction_174 C.h1 C.h2 (t2 * (divL v3 t3)) v5 d) mw_X12_355 mv_X12_fraction la_174 ly_174 rfl (by decide) (by decide) (by decide) rfl rfl (Nat.le_of_ble_eq_true rfl) (fun r5 d6 => ?_)
        show SS G X 8 _ _ 253 [(0, rf G 174), (2, i9 v2), (3, l9 v3), (5, l9 v5), (7, i9 v7)] [i9 r5] d6 _
        exact r_zret C dX12_whose_253 (by decide) (by decide)
      · refine ss_wide (k' := 0) (n' := 0) (by decide) (by decide) ?_
        refine ss_ls [(0, rf G 174)] [0] rfl ?_
        exact s_X12_whose_174_c225 C   d
  · refine r_lload C 3 dX12_whose_163 rfl ?_
    refine r_aload_n C 0 dX12_whose_165 rfl rfl ?_
    refine r_getR C 184 dX12_whose_166 fl_X12_42 la_174 ly_174 rfl rfl ?_
    refine r_iload C 4 dX12_whose_169 rfl ?_
    refine r_lald C dX12_whose_171 la_184 ly_184 (fun t7 => ?_)
    refine r_lconst C dX12_whose_172 (a := 0) rfl ?_
    refine r_lcmp_ne C 181 dX12_whose_173 dX12_whose_174 (by decide) (fun _ => ?_) (fun _ => ?_)
    · refine r_aload_n C 0 dX12_whose_181 rfl rfl ?_
      refine r_getR C 185 dX12_whose_182 fl_X12_46 la_174 ly_174 rfl rfl ?_
      refine r_iload C 4 dX12_whose_185 rfl ?_
      refine r_lald C dX12_whose_187 la_185 ly_185 (fun t8 => ?_)
      refine r_lload_n C 2 dX12_whose_188 rfl rfl ?_
      refine r_aload_n C 0 dX12_whose_189 rfl rfl ?_
      refine r_getR C 184 dX12_whose_190 fl_X12_42 la_174 ly_174 rfl rfl ?_
      refine r_iload C 4 dX12_whose_193 rfl ?_
      refine r_lald C dX12_whose_195 la_184 ly_184 (fun t9 => ?_)
      refine ss_dvL (fun h10 => ?_)
      refine r_ldiv C dX12_whose_196 h10 ?_
      refine r_lmul C dX12_whose_197 ?_
      refine r_ladd C dX12_whose_198 ?_
      refine ss_ltL (fun a11 => ?_)
      refine r_lstore C [(5, l9 a11), (0, rf G 174), (2, i9 v2), (3, l9 v3), (7, i9 v7)] dX12_whose_199 (by decide) rfl ?_
      refine r_iinc C 4 [(7, i9 (v7 + 1)), (5, l9 a11), (0, rf G 174), (2, i9 v2), (3, l9 v3)] dX12_whose_201 rfl (by decide) rfl ?_
      refine r_goto C 157 dX12_whose_204 (by decide) ?_
      refine ss_wide (k' := 0) (n' := 0) (by decide) (by decide) ?_
      refine ss_ls [(0, rf G 174), (2, i9 v2), (3, l9 v3), (5, l9 a11), (7, i9 (v7 + 1))] [2, 3, 4, 1, 0] rfl ?_
      exact hk_X12_whose_174_c157 v2 v3 a11 (v7 + 1) d
    · refine r_lconst C dX12_whose_177 (a := 0) rfl ?_
      refine r_goto C 198 dX12_whose_178 (by decide) ?_
      refine r_ladd C dX12_whose_198 ?_
      refine ss_ltL (fun a12 => ?_)
      refine r_lstore C [(5, l9 a12), (0, rf G 174), (2, i9 v2), (3, l9 v3), (7, i9 v7)] dX12_whose_199 (by decide) rfl ?_
      refine r_iinc C 4 [(7, i9 (v7 + 1)), (5, l9 a12), (0, rf G 174), (2, i9 v2), (3, l9 v3)] dX12_whose_201 rfl (by decide) rfl ?_
      refine r_goto C 157 dX12_whose_204 (by decide) ?_
      refine ss_wide (k' := 0) (n' := 0) (by decide) (by decide) ?_
      refine ss_ls [(0, rf G 174), (2, i9 v2), (3, l9 v3), (5, l9 a12), (7, i9 (v7 + 1))] [2, 3, 4, 1, 0] rfl ?_
      exact hk_X12_whose_174_c157 v2 v3 a12 (v7 + 1) d
theorem s_X12_whose_174_c157 {G : G9} {X : X9} (C : CX G X cX12_whose 8 RX12 [] z_X12_whose_174) : ∀ (v2 v3 v5 v7 : Int) (d : D9), SS G X 8 0 0 157 [(0, rf G 174), (2, i9 v2), (3, l9 v3), (5, l9 v5), (7, i9 v7)] [] d (m_X12_whose_174_c157  v2 v3 v5 v7 d) :=
  fix9_ind (P := fun k => ∀ (v2 v3 v5 v7 : Int) (d : D9), SS G X 8 0 0 157 [(0, rf G 174), (2, i9 v2), (3, l9 v3), (5, l9 v5), (7, i9 v7)] [] d (k v2 v3 v5 v7 d)) (fun _ _ _ _ _ => ss_none) (fun k hk => sb_X12_whose_174_c157 C k hk) FU
set_option maxRecDepth 100000 in
theorem sb_X12_whose_174_c113 {G : G9} {X : X9} (C : CX G X cX12_whose 8 RX12 [] z_X12_whose_174) (k_X12_whose_174_c113 : Int → Int → Int → D9 → Option R9) (hk_X12_whose_174_c113 : ∀ (v2 v3 v5 : Int) (d : D9), SS G X 8 0 0 113 [(0, rf G 174), (2, i9 v2), (3, l9 v3), (5, i9 v5)] [] d (k_X12_whose_174_c113 v2 v3 v5 d)) : ∀ (v2 v3 v5 : Int) (d : D9), SS G X 8 0 0 113 [(0, rf G 174), (2, i9 v2), (3, l9 v3), (5, i9 v5)] [] d (b_X12_whose_174_c113 k_X12_whose_174_c113 v2 v3 v5 d) := by
  intro v2 v3 v5 d
  unfold b_X12_whose_174_c113
  refine r_iload C 3 dX12_whose_113 rfl ?_
  refine r_iconst C dX12_whose_115 ?_
  refine r_icmp_ge C 151 dX12_whose_116 (by decide) (fun _ => ?_) (fun _ => ?_)
  · refine r_lconst C dX12_whose_151 (a := 0) rfl ?_
    refine r_lstore C [(5, l9 0), (0, rf G 174), (2, i9 v2), (3, l9 v3)] dX12_whose_152 (by decide) rfl ?_
    refine r_iconst C dX12_whose_154 ?_
    refine r_istore C [(7, i9 0), (5, l9 0), (0, rf G 174), (2, i9 v2), (3, l9 v3)] dX12_whose_155 (by decide) rfl ?_
    refine ss_wide (k' := 0) (n' := 0) (by decide) (by decide) ?_
    refine ss_ls [(0, rf G 174), (2, i9 v2), (3, l9 v3), (5, l9 0), (7, i9 0)] [2, 3, 4, 1, 0] rfl ?_
    exact s_X12_whose_174_c157 C  v2 v3 0 0 d
  · refine r_lload_n C 2 dX12_whose_119 rfl rfl ?_
    refine r_aload_n C 0 dX12_whose_120 rfl rfl ?_
    refine r_getR C 184 dX12_whose_121 fl_X12_42 la_174 ly_174 rfl rfl ?_
    refine r_iload C 3 dX12_whose_124 rfl ?_
    refine r_lald C dX12_whose_126 la_184 ly_184 (fun t1 => ?_)
    refine r_lconst C dX12_whose_127 (a := 0) rfl ?_
    refine r_lcmp_ne C 136 dX12_whose_128 dX12_whose_129 (by decide) (fun _ => ?_) (fun _ => ?_)
    · refine r_aload_n C 0 dX12_whose_136 rfl rfl ?_
      refine r_getR C 184 dX12_whose_137 fl_X12_42 la_174 ly_174 rfl rfl ?_
      refine r_iload C 3 dX12_whose_140 rfl ?_
      refine r_lald C dX12_whose_142 la_184 ly_184 (fun t2 => ?_)
      refine r_lmul C dX12_whose_143 ?_
      refine ss_ltL (fun a3 => ?_)
      refine r_lstore_n C [(3, l9 a3), (0, rf G 174), (2, i9 v2), (5, i9 v5)] dX12_whose_144 rfl (by decide) rfl ?_
      refine r_iinc C 3 [(5, i9 (v5 + 1)), (3, l9 a3), (0, rf G 174), (2, i9 v2)] dX12_whose_145 rfl (by decide) rfl ?_
      refine r_goto C 113 dX12_whose_148 (by decide) ?_
      refine ss_wide (k' := 0) (n' := 0) (by decide) (by decide) ?_
      refine ss_ls [(0, rf G 174), (2, i9 v2), (3, l9 a3), (5, i9 (v5 + 1))] [2, 3, 1, 0] rfl ?_
      exact hk_X12_whose_174_c113 v2 a3 (v5 + 1) d
    · refine r_lconst C dX12_whose_132 (a := 1) rfl ?_
      refine r_goto C 143 dX12_whose_133 (by decide) ?_
      refine r_lmul C dX12_whose_143 ?_
      refine ss_ltL (fun a4 => ?_)
      refine r_lstore_n C [(3, l9 a4), (0, rf G 174), (2, i9 v2), (5, i9 v5)] dX12_whose_144 rfl (by decide) rfl ?_
      refine r_iinc C 3 [(5, i9 (v5 + 1)), (3, l9 a4), (0, rf G 174), (2, i9 v2)] dX12_whose_145 rfl (by decide) rfl ?_
      refine r_goto C 113 dX12_whose_148 (by decide) ?_
      refine ss_wide (k' := 0) (n' := 0) (by decide) (by decide) ?_
      refine ss_ls [(0, rf G 174), (2, i9 v2), (3, l9 a4), (5, i9 (v5 + 1))] [2, 3, 1, 0] rfl ?_
      exact hk_X12_whose_174_c113 v2 a4 (v5 + 1) d
theorem s_X12_whose_174_c113 {G : G9} {X : X9} (C : CX G X cX12_whose 8 RX12 [] z_X12_whose_174) : ∀ (v2 v3 v5 : Int) (d : D9), SS G X 8 0 0 113 [(0, rf G 174), (2, i9 v2), (3, l9 v3), (5, i9 v5)] [] d (m_X12_whose_174_c113  v2 v3 v5 d) :=
  fix9_ind (P := fun k => ∀ (v2 v3 v5 : Int) (d : D9), SS G X 8 0 0 113 [(0, rf G 174), (2, i9 v2), (3, l9 v3), (5, i9 v5)] [] d (k v2 v3 v5 d)) (fun _ _ _ _ => ss_none) (fun k hk => sb_X12_whose_174_c113 C k hk) FU
set_option maxRecDepth 100000 in
theorem sb_X12_whose_174_c48 {G : G9} {X : X9} (C : CX G X cX12_whose 8 RX12 [] z_X12_whose_174) (k_X12_whose_174_c48 : Int → Int → Int → D9 → Option R9) (hk_X12_whose_174_c48 : ∀ (v1 v2 v3 : Int) (d : D9), SS G X 8 0 0 48 [(0, rf G 174), (1, i9 v1), (2, i9 v2), (3, i9 v3)] [] d (k_X12_whose_174_c48 v1 v2 v3 d)) : ∀ (v1 v2 v3 : Int) (d : D9), SS G X 8 0 0 48 [(0, rf G 174), (1, i9 v1), (2, i9 v2), (3, i9 v3)] [] d (b_X12_whose_174_c48 k_X12_whose_174_c48 v1 v2 v3 d) := by
  intro v1 v2 v3 d
  unfold b_X12_whose_174_c48
  refine r_iload_n C 3 dX12_whose_48 rfl rfl ?_
  refine r_aload_n C 0 dX12_whose_49 rfl rfl ?_
  refine r_getR C 175 dX12_whose_50 fl_X12_9 la_174 ly_174 rfl rfl ?_
  refine r_iconst C dX12_whose_53 ?_
  refine r_iald C dX12_whose_54 la_175 ly_175 (fun t1 => ?_)
  refine r_icmp_ge C 108 dX12_whose_55 (by decide) (fun _ => ?_) (fun _ => ?_)
  · refine r_lconst C dX12_whose_108 (a := 1) rfl ?_
    refine r_lstore_n C [(3, l9 1), (0, rf G 174), (1, i9 v1), (2, i9 v2)] dX12_whose_109 rfl (by decide) rfl ?_
    refine r_iconst C dX12_whose_110 ?_
    refine r_istore C [(5, i9 0), (3, l9 1), (0, rf G 174), (1, i9 v1), (2, i9 v2)] dX12_whose_111 (by decide) rfl ?_
    refine ss_wide (k' := 0) (n' := 0) (by decide) (by decide) ?_
    refine ss_ls [(0, rf G 174), (2, i9 v2), (3, l9 1), (5, i9 0)] [2, 4, 1, 0] rfl ?_
    exact s_X12_whose_174_c113 C  v2 1 0 d
  · refine r_aload_n C 0 dX12_whose_58 rfl rfl ?_
    refine r_getR C 184 dX12_whose_59 fl_X12_42 la_174 ly_174 rfl rfl ?_
    refine r_aload_n C 0 dX12_whose_62 rfl rfl ?_
    refine r_iload_n C 3 dX12_whose_63 rfl rfl ?_
    refine r_iconst C dX12_whose_64 ?_
    refine r_callV C [i9 0, i9 v3, rf G 174, rf G 184] dX12_whose_65 (t_X12_ofHand_174 C.h1 C.h2 v3 0 d) mw_X12_397 mv_X12_ofHand la_174 ly_174 rfl (by decide) (by decide) (by decide) rfl rfl (Nat.le_of_ble_eq_true rfl) (fun r2 d3 => ?_)
    show SS G X 8 _ _ 68 [(0, rf G 174), (1, i9 v1), (2, i9 v2), (3, i9 v3)] [i9 r2, rf G 184] d3 _
    refine r_dup2 C dX12_whose_68 rfl rfl ?_
    refine r_lald C dX12_whose_69 la_184 ly_184 (fun t4 => ?_)
    refine r_lconst C dX12_whose_70 (a := 1) rfl ?_
    refine r_ladd C dX12_whose_71 ?_
    refine r_last C dX12_whose_72 la_184 ly_184 (fun d5 => ?_)
    refine r_aload_n C 0 dX12_whose_73 rfl rfl ?_
    refine r_getR C 185 dX12_whose_74 fl_X12_46 la_174 ly_174 rfl rfl ?_
    refine r_aload_n C 0 dX12_whose_77 rfl rfl ?_
    refine r_iload_n C 3 dX12_whose_78 rfl rfl ?_
    refine r_iconst C dX12_whose_79 ?_
    refine r_callV C [i9 0, i9 v3, rf G 174, rf G 185] dX12_whose_80 (t_X12_ofHand_174 C.h1 C.h2 v3 0 d5) mw_X12_397 mv_X12_ofHand la_174 ly_174 rfl (by decide) (by decide) (by decide) rfl rfl (Nat.le_of_ble_eq_true rfl) (fun r6 d7 => ?_)
    show SS G X 8 _ _ 83 [(0, rf G 174), (1, i9 v1), (2, i9 v2), (3, i9 v3)] [i9 r6, rf G 185] d7 _
    refine r_dup2 C dX12_whose_83 rfl rfl ?_
    refine r_lald C dX12_whose_84 la_185 ly_185 (fun t8 => ?_)
    refine r_aload_n C 0 dX12_whose_85 rfl rfl ?_
    refine r_iload_n C 3 dX12_whose_86 rfl rfl ?_
    refine r_iload_n C 1 dX12_whose_87 rfl rfl ?_
    refine r_iconst C dX12_whose_88 ?_
    refine r_callV C [i9 (-1), i9 v1, i9 v3, rf G 174, l9 t8, i9 r6, rf G 185] dX12_whose_89 (t_X12_isLike_174 C.h1 C.h2 v3 v1 (-1) d7) mw_X12_408 mv_X12_isLike la_174 ly_174 rfl (by decide) (by decide) (by decide) rfl rfl (Nat.le_of_ble_eq_true rfl) (fun r9 d10 => ?_)
    show SS G X 8 _ _ 92 [(0, rf G 174), (1, i9 v1), (2, i9 v2), (3, i9 v3)] [i9 r9, l9 t8, i9 r6, rf G 185] d10 _
    refine r_if_eq C (b := 0) 99 dX12_whose_92 (by decide) (fun _ => ?_) (fun _ => ?_)
    · refine r_lconst C dX12_whose_99 (a := 0) rfl ?_
      refine r_ladd C dX12_whose_100 ?_
      refine r_last C dX12_whose_101 la_185 ly_185 (fun d11 => ?_)
      refine r_iinc C 3 [(3, i9 (v3 + 1)), (0, rf G 174), (1, i9 v1), (2, i9 v2)] dX12_whose_102 rfl (by decide) rfl ?_
      refine r_goto C 48 dX12_whose_105 (by decide) ?_
      refine ss_wide (k' := 0) (n' := 0) (by decide) (by decide) ?_
      refine ss_ls [(0, rf G 174), (1, i9 v1), (2, i9 v2), (3, i9 (v3 + 1))] [1, 2, 3, 0] rfl ?_
      exact hk_X12_whose_174_c48 v1 v2 (v3 + 1) d11
    · refine r_lconst C dX12_whose_95 (a := 1) rfl ?_
      refine r_goto C 100 dX12_whose_96 (by decide) ?_
      refine r_ladd C dX12_whose_100 ?_
      refine r_last C dX12_whose_101 la_185 ly_185 (fun d12 => ?_)
      refine r_iinc C 3 [(3, i9 (v3 + 1)), (0, rf G 174), (1, i9 v1), (2, i9 v2)] dX12_whose_102 rfl (by decide) rfl ?_
      refine r_goto C 48 dX12_whose_105 (by decide) ?_
      refine ss_wide (k' := 0) (n' := 0) (by decide) (by decide) ?_
      refine ss_ls [(0, rf G 174), (1, i9 v1), (2, i9 v2), (3, i9 (v3 + 1))] [1, 2, 3, 0] rfl ?_
      exact hk_X12_whose_174_c48 v1 v2 (v3 + 1) d12
theorem s_X12_whose_174_c48 {G : G9} {X : X9} (C : CX G X cX12_whose 8 RX12 [] z_X12_whose_174) : ∀ (v1 v2 v3 : Int) (d : D9), SS G X 8 0 0 48 [(0, rf G 174), (1, i9 v1), (2, i9 v2), (3, i9 v3)] [] d (m_X12_whose_174_c48  v1 v2 v3 d) :=
  fix9_ind (P := fun k => ∀ (v1 v2 v3 : Int) (d : D9), SS G X 8 0 0 48 [(0, rf G 174), (1, i9 v1), (2, i9 v2), (3, i9 v3)] [] d (k v1 v2 v3 d)) (fun _ _ _ _ => ss_none) (fun k hk => sb_X12_whose_174_c48 C k hk) FU
set_option maxRecDepth 100000 in
theorem sb_X12_whose_174_c21 {G : G9} {X : X9} (C : CX G X cX12_whose 8 RX12 [] z_X12_whose_174) (k_X12_whose_174_c21 : Int → Int → Int → D9 → Option R9) (hk_X12_whose_174_c21 : ∀ (v1 v2 v3 : Int) (d : D9), SS G X 8 0 0 21 [(0, rf G 174), (1, i9 v1), (2, i9 v2), (3, i9 v3)] [] d (k_X12_whose_174_c21 v1 v2 v3 d)) : ∀ (v1 v2 v3 : Int) (d : D9), SS G X 8 0 0 21 [(0, rf G 174), (1, i9 v1), (2, i9 v2), (3, i9 v3)] [] d (b_X12_whose_174_c21 k_X12_whose_174_c21 v1 v2 v3 d) := by
  intro v1 v2 v3 d
  unfold b_X12_whose_174_c21
  refine r_iload_n C 3 dX12_whose_21 rfl rfl ?_
  refine r_iconst C dX12_whose_22 ?_
  refine r_icmp_ge C 46 dX12_whose_23 (by decide) (fun _ => ?_) (fun _ => ?_)
  · refine r_iconst C dX12_whose_46 ?_
    refine r_istore_n C [(3, i9 0), (0, rf G 174), (1, i9 v1), (2, i9 v2)] dX12_whose_47 rfl (by decide) rfl ?_
    refine ss_wide (k' := 0) (n' := 0) (by decide) (by decide) ?_
    refine ss_ls [(0, rf G 174), (1, i9 v1), (2, i9 v2), (3, i9 0)] [1, 2, 3, 0] rfl ?_
    exact s_X12_whose_174_c48 C  v1 v2 0 d
  · refine r_aload_n C 0 dX12_whose_26 rfl rfl ?_
    refine r_getR C 184 dX12_whose_27 fl_X12_42 la_174 ly_174 rfl rfl ?_
    refine r_iload_n C 3 dX12_whose_30 rfl rfl ?_
    refine r_lconst C dX12_whose_31 (a := 0) rfl ?_
    refine r_last C dX12_whose_32 la_184 ly_184 (fun d1 => ?_)
    refine r_aload_n C 0 dX12_whose_33 rfl rfl ?_
    refine r_getR C 185 dX12_whose_34 fl_X12_46 la_174 ly_174 rfl rfl ?_
    refine r_iload_n C 3 dX12_whose_37 rfl rfl ?_
    refine r_lconst C dX12_whose_38 (a := 0) rfl ?_
    refine r_last C dX12_whose_39 la_185 ly_185 (fun d2 => ?_)
    refine r_iinc C 3 [(3, i9 (v3 + 1)), (0, rf G 174), (1, i9 v1), (2, i9 v2)] dX12_whose_40 rfl (by decide) rfl ?_
    refine r_goto C 21 dX12_whose_43 (by decide) ?_
    refine ss_wide (k' := 0) (n' := 0) (by decide) (by decide) ?_
    refine ss_ls [(0, rf G 174), (1, i9 v1), (2, i9 v2), (3, i9 (v3 + 1))] [1, 2, 3, 0] rfl ?_
    exact hk_X12_whose_174_c21 v1 v2 (v3 + 1) d2
theorem s_X12_whose_174_c21 {G : G9} {X : X9} (C : CX G X cX12_whose 8 RX12 [] z_X12_whose_174) : ∀ (v1 v2 v3 : Int) (d : D9), SS G X 8 0 0 21 [(0, rf G 174), (1, i9 v1), (2, i9 v2), (3, i9 v3)] [] d (m_X12_whose_174_c21  v1 v2 v3 d) :=
  fix9_ind (P := fun k => ∀ (v1 v2 v3 : Int) (d : D9), SS G X 8 0 0 21 [(0, rf G 174), (1, i9 v1), (2, i9 v2), (3, i9 v3)] [] d (k v1 v2 v3 d)) (fun _ _ _ _ => ss_none) (fun k hk => sb_X12_whose_174_c21 C k hk) FU
set_option maxRecDepth 100000 in
theorem t_X12_whose_174 {G : G9} {l : Launch} (h1 : va_D (A9 G) (wl G (fun _ _ => 0))) (h2 : l.stackTraces = false) (p1 p2 : Int) (d : D9) : MT G l yX12_whose cX12_whose 8 z_X12_whose_174 [rf G 174, i9 p1, i9 p2] d (m_X12_whose_174 p1 p2 d) := by
  refine mt_of (own := RX12) (by decide) rfl (Nat.le_of_ble_eq_true rfl) h1 h2 [(0, rf G 174), (1, i9 p1), (2, i9 p2)] rfl (fun X hX C => ?_)
  unfold m_X12_whose_174
  refine r_aload_n C 0 dX12_whose_0 rfl rfl ?_
  refine r_aload_n C 0 dX12_whose_1 rfl rfl ?_
  refine r_iload_n C 1 dX12_whose_2 rfl rfl ?_
  refine r_iload_n C 2 dX12_whose_3 rfl rfl ?_
  refine r_callV C [i9 p2, i9 p1, rf G 174, rf G 174] dX12_whose_4 (t_X12_sortFault_174 C.h1 C.h2 p1 p2 d) mw_X12_412 mv_X12_sortFault la_174 ly_174 rfl (by decide) (by decide) (by decide) rfl rfl (Nat.le_of_ble_eq_true rfl) (fun r1 d2 => ?_)
  show SS G X 8 _ _ 7 [(0, rf G 174), (1, i9 p1), (2, i9 p2)] [i9 r1, rf G 174] d2 _
  refine r_putI C dX12_whose_7 fp_X12_76 la_174 ly_174 rfl (fun d3 => ?_)
  refine r_aload_n C 0 dX12_whose_10 rfl rfl ?_
  refine r_getI C dX12_whose_11 fl_X12_76 la_174 ly_174 rfl ?_
  refine r_if_le C (b := 0) 19 dX12_whose_14 (by decide) (fun _ => ?_) (fun _ => ?_)
  · refine r_iconst C dX12_whose_19 ?_
    refine r_istore_n C [(3, i9 0), (0, rf G 174), (1, i9 p1), (2, i9 p2)] dX12_whose_20 rfl (by decide) rfl ?_
    refine ss_wide (k' := 0) (n' := 0) (by decide) (by decide) ?_
    refine ss_ls [(0, rf G 174), (1, i9 p1), (2, i9 p2), (3, i9 0)] [1, 2, 3, 0] rfl ?_
    exact s_X12_whose_174_c21 C  p1 p2 0 d3
  · refine r_iconst C dX12_whose_17 ?_
    exact r_zret C dX12_whose_18 (by decide) (by decide)
theorem dX12_write_0 : decode cX12_write 0 = .ok (.aload_n 0, 1) := by decide +kernel
theorem dX12_write_1 : decode cX12_write 1 = .ok (.iconst 0, 1) := by decide +kernel
theorem dX12_write_2 : decode cX12_write 2 = .ok (.putfield 76, 3) := by decide +kernel
theorem dX12_write_5 : decode cX12_write 5 = .ok (.iload_n 1, 1) := by decide +kernel
theorem dX12_write_6 : decode cX12_write 6 = .ok (.invokestatic 427, 3) := by decide +kernel
theorem dX12_write_9 : decode cX12_write 9 = .ok (.ifCond .ne 10, 3) := by decide +kernel
theorem dX12_write_12 : decode cX12_write 12 = .ok (.aload_n 0, 1) := by decide +kernel
theorem dX12_write_13 : decode cX12_write 13 = .ok (.iconst 1, 1) := by decide +kernel
theorem dX12_write_14 : decode cX12_write 14 = .ok (.invokevirtual 89, 3) := by decide +kernel
theorem dX12_write_17 : decode cX12_write 17 = .ok (.i2l, 1) := by decide +kernel
theorem dX12_write_18 : decode cX12_write 18 = .ok (.lreturn, 1) := by decide +kernel
theorem dX12_write_19 : decode cX12_write 19 = .ok (.aload_n 0, 1) := by decide +kernel
theorem dX12_write_20 : decode cX12_write 20 = .ok (.getfield 64, 3) := by decide +kernel
theorem dX12_write_23 : decode cX12_write 23 = .ok (.iload_n 1, 1) := by decide +kernel
theorem dX12_write_24 : decode cX12_write 24 = .ok (.iaload, 1) := by decide +kernel
theorem dX12_write_25 : decode cX12_write 25 = .ok (.iconst (-1), 1) := by decide +kernel
theorem dX12_write_26 : decode cX12_write 26 = .ok (.if_icmp .ne 10, 3) := by decide +kernel
theorem dX12_write_29 : decode cX12_write 29 = .ok (.aload_n 0, 1) := by decide +kernel
theorem dX12_write_30 : decode cX12_write 30 = .ok (.iconst 2, 1) := by decide +kernel
theorem dX12_write_31 : decode cX12_write 31 = .ok (.invokevirtual 89, 3) := by decide +kernel
theorem dX12_write_34 : decode cX12_write 34 = .ok (.i2l, 1) := by decide +kernel
theorem dX12_write_35 : decode cX12_write 35 = .ok (.lreturn, 1) := by decide +kernel
theorem dX12_write_36 : decode cX12_write 36 = .ok (.iload_n 2, 1) := by decide +kernel
theorem dX12_write_37 : decode cX12_write 37 = .ok (.i2l, 1) := by decide +kernel
theorem dX12_write_38 : decode cX12_write 38 = .ok (.lconst 0, 1) := by decide +kernel
theorem dX12_write_39 : decode cX12_write 39 = .ok (.aload_n 0, 1) := by decide +kernel
theorem dX12_write_40 : decode cX12_write 40 = .ok (.getfield 67, 3) := by decide +kernel
theorem dX12_write_43 : decode cX12_write 43 = .ok (.iload_n 1, 1) := by decide +kernel
theorem dX12_write_44 : decode cX12_write 44 = .ok (.iaload, 1) := by decide +kernel
theorem dX12_write_45 : decode cX12_write 45 = .ok (.iconst 1, 1) := by decide +kernel
theorem dX12_write_46 : decode cX12_write 46 = .ok (.isub, 1) := by decide +kernel
theorem dX12_write_47 : decode cX12_write 47 = .ok (.i2l, 1) := by decide +kernel
theorem dX12_write_48 : decode cX12_write 48 = .ok (.invokestatic 79, 3) := by decide +kernel
theorem dX12_write_51 : decode cX12_write 51 = .ok (.ifCond .ne 10, 3) := by decide +kernel
theorem dX12_write_54 : decode cX12_write 54 = .ok (.aload_n 0, 1) := by decide +kernel
theorem dX12_write_55 : decode cX12_write 55 = .ok (.iconst 3, 1) := by decide +kernel
theorem dX12_write_56 : decode cX12_write 56 = .ok (.invokevirtual 89, 3) := by decide +kernel
theorem dX12_write_59 : decode cX12_write 59 = .ok (.i2l, 1) := by decide +kernel
theorem dX12_write_60 : decode cX12_write 60 = .ok (.lreturn, 1) := by decide +kernel
theorem dX12_write_61 : decode cX12_write 61 = .ok (.bipush 64, 2) := by decide +kernel
theorem dX12_write_63 : decode cX12_write 63 = .ok (.bipush 8, 2) := by decide +kernel
theorem dX12_write_65 : decode cX12_write 65 = .ok (.aload_n 0, 1) := by decide +kernel
theorem dX12_write_66 : decode cX12_write 66 = .ok (.getfield 64, 3) := by decide +kernel
theorem dX12_write_69 : decode cX12_write 69 = .ok (.iload_n 1, 1) := by decide +kernel
theorem dX12_write_70 : decode cX12_write 70 = .ok (.iaload, 1) := by decide +kernel
theorem dX12_write_71 : decode cX12_write 71 = .ok (.ishl, 1) := by decide +kernel
theorem dX12_write_72 : decode cX12_write 72 = .ok (.isub, 1) := by decide +kernel
theorem dX12_write_73 : decode cX12_write 73 = .ok (.istore 5, 2) := by decide +kernel
theorem dX12_write_75 : decode cX12_write 75 = .ok (.aload_n 0, 1) := by decide +kernel
theorem dX12_write_76 : decode cX12_write 76 = .ok (.getfield 70, 3) := by decide +kernel
theorem dX12_write_79 : decode cX12_write 79 = .ok (.bipush 40, 2) := by decide +kernel
theorem dX12_write_81 : decode cX12_write 81 = .ok (.iload_n 1, 1) := by decide +kernel
theorem dX12_write_82 : decode cX12_write 82 = .ok (.imul, 1) := by decide +kernel
theorem dX12_write_83 : decode cX12_write 83 = .ok (.iload_n 2, 1) := by decide +kernel
theorem dX12_write_84 : decode cX12_write 84 = .ok (.iadd, 1) := by decide +kernel
theorem dX12_write_85 : decode cX12_write 85 = .ok (.lload_n 3, 1) := by decide +kernel
theorem dX12_write_86 : decode cX12_write 86 = .ok (.iload 5, 2) := by decide +kernel
theorem dX12_write_88 : decode cX12_write 88 = .ok (.lshl, 1) := by decide +kernel
theorem dX12_write_89 : decode cX12_write 89 = .ok (.iload 5, 2) := by decide +kernel
theorem dX12_write_91 : decode cX12_write 91 = .ok (.lshr, 1) := by decide +kernel
theorem dX12_write_92 : decode cX12_write 92 = .ok (.lastore, 1) := by decide +kernel
theorem dX12_write_93 : decode cX12_write 93 = .ok (.aload_n 0, 1) := by decide +kernel
theorem dX12_write_94 : decode cX12_write 94 = .ok (.getfield 70, 3) := by decide +kernel
theorem dX12_write_97 : decode cX12_write 97 = .ok (.bipush 40, 2) := by decide +kernel
theorem dX12_write_99 : decode cX12_write 99 = .ok (.iload_n 1, 1) := by decide +kernel
theorem dX12_write_100 : decode cX12_write 100 = .ok (.imul, 1) := by decide +kernel
theorem dX12_write_101 : decode cX12_write 101 = .ok (.iload_n 2, 1) := by decide +kernel
theorem dX12_write_102 : decode cX12_write 102 = .ok (.iadd, 1) := by decide +kernel
theorem dX12_write_103 : decode cX12_write 103 = .ok (.laload, 1) := by decide +kernel
theorem dX12_write_104 : decode cX12_write 104 = .ok (.lreturn, 1) := by decide +kernel
abbrev z_X12_write_174 : Z9 := (some .long, 2, 0, 0, 3, 45)
def m_X12_write_174 (p1 p2 p3 : Int) (d : D9) : Option R9 := pf d 174 3 0 (fun d1 => cl (m_X12_isTray p1 d1) (fun r2 d3 => if w32 r2 ≠ 0 then ld d3 191 4 p1 (fun t4 => if w32 t4 ≠ w32 (-1) then ld d3 192 4 p1 (fun t5 => cl (m_X12_within (w32 p2) 0 (w32 (t5 - 1)) d3) (fun r6 d7 => if w32 r6 ≠ 0 then ld d7 191 4 p1 (fun t8 => lt9v (64 - (shl9 8 t8)) (fun a9 => sd d7 193 160 ((40 * p1) + p2) (shrL (shlL p3 a9) a9) (fun d10 => ld d10 193 160 ((40 * p1) + p2) (fun t11 => rt t11 d10)))) else cl (m_X12_fails_174 3 d7) (fun r12 d13 => rt (w32 r12) d13))) else cl (m_X12_fails_174 2 d3) (fun r14 d15 => rt (w32 r14) d15)) else cl (m_X12_fails_174 1 d3) (fun r16 d17 => rt (w32 r16) d17)))
set_option maxRecDepth 100000 in
theorem t_X12_write_174 {G : G9} {l : Launch} (h1 : va_D (A9 G) (wl G (fun _ _ => 0))) (h2 : l.stackTraces = false) (p1 p2 p3 : Int) (d : D9) : MT G l yX12_write cX12_write 6 z_X12_write_174 [rf G 174, i9 p1, i9 p2, l9 p3] d (m_X12_write_174 p1 p2 p3 d) := by
  refine mt_of (own := RX12) (by decide) rfl (Nat.le_of_ble_eq_true rfl) h1 h2 [(0, rf G 174), (1, i9 p1), (2, i9 p2), (3, l9 p3)] rfl (fun X hX C => ?_)
  unfold m_X12_write_174
  refine r_aload_n C 0 dX12_write_0 rfl rfl ?_
  refine r_iconst C dX12_write_1 ?_
  refine r_putI C dX12_write_2 fp_X12_76 la_174 ly_174 rfl (fun d1 => ?_)
  refine r_iload_n C 1 dX12_write_5 rfl rfl ?_
  refine r_callS C [i9 p1] dX12_write_6 (t_X12_isTray C.h1 C.h2 p1 d1) mw_X12_427 ms_X12_isTray (by decide) (by decide) (by decide) rfl rfl (Nat.le_of_ble_eq_true rfl) (fun r2 d3 => ?_)
  show SS G X 6 _ _ 9 [(0, rf G 174), (1, i9 p1), (2, i9 p2), (3, l9 p3)] [i9 r2] d3 _
  refine r_if_ne C (b := 0) 19 dX12_write_9 (by decide) (fun _ => ?_) (fun _ => ?_)
  · refine r_aload_n C 0 dX12_write_19 rfl rfl ?_
    refine r_getR C 191 dX12_write_20 fl_X12_64 la_174 ly_174 rfl rfl ?_
    refine r_iload_n C 1 dX12_write_23 rfl rfl ?_
    refine r_iald C dX12_write_24 la_191 ly_191 (fun t4 => ?_)
    refine r_iconst C dX12_write_25 ?_
    refine r_icmp_ne C 36 dX12_write_26 (by decide) (fun _ => ?_) (fun _ => ?_)
    · refine r_iload_n C 2 dX12_write_36 rfl rfl ?_
      refine r_i2l C dX12_write_37 ?_
      refine r_lconst C dX12_write_38 (a := 0) rfl ?_
      refine r_aload_n C 0 dX12_write_39 rfl rfl ?_
      refine r_getR C 192 dX12_write_40 fl_X12_67 la_174 ly_174 rfl rfl ?_
      refine r_iload_n C 1 dX12_write_43 rfl rfl ?_
      refine r_iald C dX12_write_44 la_192 ly_192 (fun t5 => ?_)
      refine r_iconst C dX12_write_45 ?_
      refine r_isub C dX12_write_46 ?_
      refine r_i2l C dX12_write_47 ?_
      refine r_callS C [l9 (w32 (t5 - 1)), l9 0, l9 (w32 p2)] dX12_write_48 (t_X12_within C.h1 C.h2 (w32 p2) 0 (w32 (t5 - 1)) d3) mw_X12_79 ms_X12_within (by decide) (by decide) (by decide) rfl rfl (Nat.le_of_ble_eq_true rfl) (fun r6 d7 => ?_)
      show SS G X 6 _ _ 51 [(0, rf G 174), (1, i9 p1), (2, i9 p2), (3, l9 p3)] [i9 r6] d7 _
      refine r_if_ne C (b := 0) 61 dX12_write_51 (by decide) (fun _ => ?_) (fun _ => ?_)
      · refine r_bipush C dX12_write_61 rfl ?_
        refine r_bipush C dX12_write_63 rfl ?_
        refine r_aload_n C 0 dX12_write_65 rfl rfl ?_
        refine r_getR C 191 dX12_write_66 fl_X12_64 la_174 ly_174 rfl rfl ?_
        refine r_iload_n C 1 dX12_write_69 rfl rfl ?_
        refine r_iald C dX12_write_70 la_191 ly_191 (fun t8 => ?_)
        refine r_ishl C dX12_write_71 ?_
        refine r_isub C dX12_write_72 ?_
        refine ss_lt (fun a9 => ?_)
        refine r_istore C [(5, i9 a9), (0, rf G 174), (1, i9 p1), (2, i9 p2), (3, l9 p3)] dX12_write_73 (by decide) rfl ?_
        refine r_aload_n C 1 dX12_write_75 rfl rfl ?_
        refine r_getR C 193 dX12_write_76 fl_X12_70 la_174 ly_174 rfl rfl ?_
        refine r_bipush C dX12_write_79 rfl ?_
        refine r_iload_n C 2 dX12_write_81 rfl rfl ?_
        refine r_imul C dX12_write_82 ?_
        refine r_iload_n C 3 dX12_write_83 rfl rfl ?_
        refine r_iadd C dX12_write_84 ?_
        refine r_lload_n C 4 dX12_write_85 rfl rfl ?_
        refine r_iload C 0 dX12_write_86 rfl ?_
        refine r_lshl C dX12_write_88 ?_
        refine r_iload C 0 dX12_write_89 rfl ?_
        refine r_lshr C dX12_write_91 ?_
        refine r_last C dX12_write_92 la_193 ly_193 (fun d10 => ?_)
        refine r_aload_n C 1 dX12_write_93 rfl rfl ?_
        refine r_getR C 193 dX12_write_94 fl_X12_70 la_174 ly_174 rfl rfl ?_
        refine r_bipush C dX12_write_97 rfl ?_
        refine r_iload_n C 2 dX12_write_99 rfl rfl ?_
        refine r_imul C dX12_write_100 ?_
        refine r_iload_n C 3 dX12_write_101 rfl rfl ?_
        refine r_iadd C dX12_write_102 ?_
        refine r_lald C dX12_write_103 la_193 ly_193 (fun t11 => ?_)
        exact r_lret C dX12_write_104 (by decide) (by decide)
      · refine r_aload_n C 0 dX12_write_54 rfl rfl ?_
        refine r_iconst C dX12_write_55 ?_
        refine r_callV C [i9 3, rf G 174] dX12_write_56 (t_X12_fails_174 C.h1 C.h2 3 d7) mw_X12_89 mv_X12_fails la_174 ly_174 rfl (by decide) (by decide) (by decide) rfl rfl (Nat.le_of_ble_eq_true rfl) (fun r12 d13 => ?_)
        show SS G X 6 _ _ 59 [(0, rf G 174), (1, i9 p1), (2, i9 p2), (3, l9 p3)] [i9 r12] d13 _
        refine r_i2l C dX12_write_59 ?_
        exact r_lret C dX12_write_60 (by decide) (by decide)
    · refine r_aload_n C 0 dX12_write_29 rfl rfl ?_
      refine r_iconst C dX12_write_30 ?_
      refine r_callV C [i9 2, rf G 174] dX12_write_31 (t_X12_fails_174 C.h1 C.h2 2 d3) mw_X12_89 mv_X12_fails la_174 ly_174 rfl (by decide) (by decide) (by decide) rfl rfl (Nat.le_of_ble_eq_true rfl) (fun r14 d15 => ?_)
      show SS G X 6 _ _ 34 [(0, rf G 174), (1, i9 p1), (2, i9 p2), (3, l9 p3)] [i9 r14] d15 _
      refine r_i2l C dX12_write_34 ?_
      exact r_lret C dX12_write_35 (by decide) (by decide)
  · refine r_aload_n C 0 dX12_write_12 rfl rfl ?_
    refine r_iconst C dX12_write_13 ?_
    refine r_callV C [i9 1, rf G 174] dX12_write_14 (t_X12_fails_174 C.h1 C.h2 1 d3) mw_X12_89 mv_X12_fails la_174 ly_174 rfl (by decide) (by decide) (by decide) rfl rfl (Nat.le_of_ble_eq_true rfl) (fun r16 d17 => ?_)
    show SS G X 6 _ _ 17 [(0, rf G 174), (1, i9 p1), (2, i9 p2), (3, l9 p3)] [i9 r16] d17 _
    refine r_i2l C dX12_write_17 ?_
    exact r_lret C dX12_write_18 (by decide) (by decide)

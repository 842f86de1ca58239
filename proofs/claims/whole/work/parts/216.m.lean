abbrev z_X12_isWord_174_s34 : Z9 := (some .boolean, 1, 0, 0, 8, 250)
def b_X12_isWord_174_s34_c39 (k_X12_isWord_174_s34_c39 : Int → Int → D9 → Option R9) (v2 v3 : Int) (d : D9) : Option R9 := if w32 v2 = 0 then rt (v2 % 2) d else if w32 4 ≤ w32 v3 then rt (v2 % 2) d else ld d 178 400 ((d 174 10) + v3) (fun t1 => sch 34 v3 (fun t2 => if w32 t1 ≠ w32 t2 then k_X12_isWord_174_s34_c39 0 (v3 + 1) d else k_X12_isWord_174_s34_c39 1 (v3 + 1) d))
def m_X12_isWord_174_s34_c39 : Int → Int → D9 → Option R9 := fix9 (fun _ _ _ => none) (fun k => b_X12_isWord_174_s34_c39 k) FU
def m_X12_isWord_174_s34 (d : D9) : Option R9 := if w32 (d 174 13) ≠ 0 then m_X12_isWord_174_s34_c39  0 0 d else if w32 (d 174 11) ≠ w32 1 then m_X12_isWord_174_s34_c39  0 0 d else if w32 ((d 174 9) - (d 174 10)) ≠ w32 4 then m_X12_isWord_174_s34_c39  0 0 d else m_X12_isWord_174_s34_c39  1 0 d
set_option maxRecDepth 100000 in
theorem sb_X12_isWord_174_s34_c39 {G : G9} {X : X9} (C : CX G X cX12_isWord 4 RX12 [] z_X12_isWord_174_s34) (k_X12_isWord_174_s34_c39 : Int → Int → D9 → Option R9) (hk_X12_isWord_174_s34_c39 : ∀ (v2 v3 : Int) (d : D9), SS G X 4 0 0 39 [(0, rf G 174), (1, sf G 34), (2, i9 v2), (3, i9 v3)] [] d (k_X12_isWord_174_s34_c39 v2 v3 d)) : ∀ (v2 v3 : Int) (d : D9), SS G X 4 0 0 39 [(0, rf G 174), (1, sf G 34), (2, i9 v2), (3, i9 v3)] [] d (b_X12_isWord_174_s34_c39 k_X12_isWord_174_s34_c39 v2 v3 d) := by
  intro v2 v3 d
  unfold b_X12_isWord_174_s34_c39
  refine r_iload_n C 2 dX12_isWord_39 rfl rfl ?_
  refine r_if_eq C (b := 0) 82 dX12_isWord_40 (by decide) (fun _ => ?_) (fun _ => ?_)
  · refine r_iload_n C 2 dX12_isWord_82 rfl rfl ?_
    exact r_zret C dX12_isWord_83 (by decide) (by decide)
  · refine r_iload_n C 3 dX12_isWord_43 rfl rfl ?_
    refine r_aload_nS C 1 dX12_isWord_44 rfl rfl ?_
    refine r_slen C 34 dX12_isWord_45 mw_X12_166 rfl (by decide) (Nat.le_of_ble_eq_true rfl) ?_
    refine r_icmp_ge C 82 dX12_isWord_48 (by decide) (fun _ => ?_) (fun _ => ?_)
    · refine r_iload_n C 2 dX12_isWord_82 rfl rfl ?_
      exact r_zret C dX12_isWord_83 (by decide) (by decide)
    · refine r_aload_n C 0 dX12_isWord_51 rfl rfl ?_
      refine r_getR C 178 dX12_isWord_52 fl_X12_20 la_174 ly_174 rfl rfl ?_
      refine r_aload_n C 0 dX12_isWord_55 rfl rfl ?_
      refine r_getI C dX12_isWord_56 fl_X12_142 la_174 ly_174 rfl ?_
      refine r_iload_n C 3 dX12_isWord_59 rfl rfl ?_
      refine r_iadd C dX12_isWord_60 ?_
      refine r_iald C dX12_isWord_61 la_178 ly_178 (fun t1 => ?_)
      refine r_aload_nS C 1 dX12_isWord_62 rfl rfl ?_
      refine r_iload_n C 3 dX12_isWord_63 rfl rfl ?_
      refine r_schar C 34 dX12_isWord_64 mw_X12_172 (by decide) (Nat.le_of_ble_eq_true rfl) (fun t2 => ?_)
      refine r_icmp_ne C 74 dX12_isWord_67 (by decide) (fun _ => ?_) (fun _ => ?_)
      · refine r_iconst C dX12_isWord_74 ?_
        refine r_istore_n C [(2, i9 0), (0, rf G 174), (1, sf G 34), (3, i9 v3)] dX12_isWord_75 rfl (by decide) rfl ?_
        refine r_iinc C 3 [(3, i9 (v3 + 1)), (2, i9 0), (0, rf G 174), (1, sf G 34)] dX12_isWord_76 rfl (by decide) rfl ?_
        refine r_goto C 39 dX12_isWord_79 (by decide) ?_
        refine ss_wide (k' := 0) (n' := 0) (by decide) (by decide) ?_
        refine ss_ls [(0, rf G 174), (1, sf G 34), (2, i9 0), (3, i9 (v3 + 1))] [2, 3, 1, 0] rfl ?_
        exact hk_X12_isWord_174_s34_c39 0 (v3 + 1) d
      · refine r_iconst C dX12_isWord_70 ?_
        refine r_goto C 75 dX12_isWord_71 (by decide) ?_
        refine r_istore_n C [(2, i9 1), (0, rf G 174), (1, sf G 34), (3, i9 v3)] dX12_isWord_75 rfl (by decide) rfl ?_
        refine r_iinc C 3 [(3, i9 (v3 + 1)), (2, i9 1), (0, rf G 174), (1, sf G 34)] dX12_isWord_76 rfl (by decide) rfl ?_
        refine r_goto C 39 dX12_isWord_79 (by decide) ?_
        refine ss_wide (k' := 0) (n' := 0) (by decide) (by decide) ?_
        refine ss_ls [(0, rf G 174), (1, sf G 34), (2, i9 1), (3, i9 (v3 + 1))] [2, 3, 1, 0] rfl ?_
        exact hk_X12_isWord_174_s34_c39 1 (v3 + 1) d
theorem s_X12_isWord_174_s34_c39 {G : G9} {X : X9} (C : CX G X cX12_isWord 4 RX12 [] z_X12_isWord_174_s34) : ∀ (v2 v3 : Int) (d : D9), SS G X 4 0 0 39 [(0, rf G 174), (1, sf G 34), (2, i9 v2), (3, i9 v3)] [] d (m_X12_isWord_174_s34_c39  v2 v3 d) :=
  fix9_ind (P := fun k => ∀ (v2 v3 : Int) (d : D9), SS G X 4 0 0 39 [(0, rf G 174), (1, sf G 34), (2, i9 v2), (3, i9 v3)] [] d (k v2 v3 d)) (fun _ _ _ => ss_none) (fun k hk => sb_X12_isWord_174_s34_c39 C k hk) FU
set_option maxRecDepth 100000 in
theorem t_X12_isWord_174_s34 {G : G9} {l : Launch} (h1 : va_D (A9 G) (wl G (fun _ _ => 0))) (h2 : l.stackTraces = false) (d : D9) : MT G l yX12_isWord cX12_isWord 4 z_X12_isWord_174_s34 [rf G 174, sf G 34] d (m_X12_isWord_174_s34  d) := by
  refine mt_of (own := RX12) (by decide) rfl (Nat.le_of_ble_eq_true rfl) h1 h2 [(0, rf G 174), (1, sf G 34)] rfl (fun X hX C => ?_)
  unfold m_X12_isWord_174_s34
  refine r_aload_n C 0 dX12_isWord_0 rfl rfl ?_
  refine r_getI C dX12_isWord_1 fl_X12_160 la_174 ly_174 rfl ?_
  refine r_if_ne C (b := 0) 35 dX12_isWord_4 (by decide) (fun _ => ?_) (fun _ => ?_)
  · refine r_iconst C dX12_isWord_35 ?_
    refine r_istore_n C [(2, i9 0), (0, rf G 174), (1, sf G 34)] dX12_isWord_36 rfl (by decide) rfl ?_
    refine r_iconst C dX12_isWord_37 ?_
    refine r_istore_n C [(3, i9 0), (2, i9 0), (0, rf G 174), (1, sf G 34)] dX12_isWord_38 rfl (by decide) rfl ?_
    refine ss_wide (k' := 0) (n' := 0) (by decide) (by decide) ?_
    refine ss_ls [(0, rf G 174), (1, sf G 34), (2, i9 0), (3, i9 0)] [2, 3, 1, 0] rfl ?_
    exact s_X12_isWord_174_s34_c39 C  0 0 d
  · refine r_aload_n C 0 dX12_isWord_7 rfl rfl ?_
    refine r_getI C dX12_isWord_8 fl_X12_145 la_174 ly_174 rfl ?_
    refine r_iconst C dX12_isWord_11 ?_
    refine r_icmp_ne C 35 dX12_isWord_12 (by decide) (fun _ => ?_) (fun _ => ?_)
    · refine r_iconst C dX12_isWord_35 ?_
      refine r_istore_n C [(2, i9 0), (0, rf G 174), (1, sf G 34)] dX12_isWord_36 rfl (by decide) rfl ?_
      refine r_iconst C dX12_isWord_37 ?_
      refine r_istore_n C [(3, i9 0), (2, i9 0), (0, rf G 174), (1, sf G 34)] dX12_isWord_38 rfl (by decide) rfl ?_
      refine ss_wide (k' := 0) (n' := 0) (by decide) (by decide) ?_
      refine ss_ls [(0, rf G 174), (1, sf G 34), (2, i9 0), (3, i9 0)] [2, 3, 1, 0] rfl ?_
      exact s_X12_isWord_174_s34_c39 C  0 0 d
    · refine r_aload_n C 0 dX12_isWord_15 rfl rfl ?_
      refine r_getI C dX12_isWord_16 fl_X12_139 la_174 ly_174 rfl ?_
      refine r_aload_n C 0 dX12_isWord_19 rfl rfl ?_
      refine r_getI C dX12_isWord_20 fl_X12_142 la_174 ly_174 rfl ?_
      refine r_isub C dX12_isWord_23 ?_
      refine r_aload_nS C 1 dX12_isWord_24 rfl rfl ?_
      refine r_slen C 34 dX12_isWord_25 mw_X12_166 rfl (by decide) (Nat.le_of_ble_eq_true rfl) ?_
      refine r_icmp_ne C 35 dX12_isWord_28 (by decide) (fun _ => ?_) (fun _ => ?_)
      · refine r_iconst C dX12_isWord_35 ?_
        refine r_istore_n C [(2, i9 0), (0, rf G 174), (1, sf G 34)] dX12_isWord_36 rfl (by decide) rfl ?_
        refine r_iconst C dX12_isWord_37 ?_
        refine r_istore_n C [(3, i9 0), (2, i9 0), (0, rf G 174), (1, sf G 34)] dX12_isWord_38 rfl (by decide) rfl ?_
        refine ss_wide (k' := 0) (n' := 0) (by decide) (by decide) ?_
        refine ss_ls [(0, rf G 174), (1, sf G 34), (2, i9 0), (3, i9 0)] [2, 3, 1, 0] rfl ?_
        exact s_X12_isWord_174_s34_c39 C  0 0 d
      · refine r_iconst C dX12_isWord_31 ?_
        refine r_goto C 36 dX12_isWord_32 (by decide) ?_
        refine r_istore_n C [(2, i9 1), (0, rf G 174), (1, sf G 34)] dX12_isWord_36 rfl (by decide) rfl ?_
        refine r_iconst C dX12_isWord_37 ?_
        refine r_istore_n C [(3, i9 0), (2, i9 1), (0, rf G 174), (1, sf G 34)] dX12_isWord_38 rfl (by decide) rfl ?_
        refine ss_wide (k' := 0) (n' := 0) (by decide) (by decide) ?_
        refine ss_ls [(0, rf G 174), (1, sf G 34), (2, i9 1), (3, i9 0)] [2, 3, 1, 0] rfl ?_
        exact s_X12_isWord_174_s34_c39 C  1 0 d
abbrev z_X12_isWord_174_s22 : Z9 := (some .boolean, 1, 0, 0, 8, 250)
def b_X12_isWord_174_s22_c39 (k_X12_isWord_174_s22_c39 : Int → Int → D9 → Option R9) (v2 v3 : Int) (d : D9) : Option R9 := if w32 v2 = 0 then rt (v2 % 2) d else if w32 5 ≤ w32 v3 then rt (v2 % 2) d else ld d 178 400 ((d 174 10) + v3) (fun t1 => sch 22 v3 (fun t2 => if w32 t1 ≠ w32 t2 then k_X12_isWord_174_s22_c39 0 (v3 + 1) d else k_X12_isWord_174_s22_c39 1 (v3 + 1) d))
def m_X12_isWord_174_s22_c39 : Int → Int → D9 → Option R9 := fix9 (fun _ _ _ => none) (fun k => b_X12_isWord_174_s22_c39 k) FU
def m_X12_isWord_174_s22 (d : D9) : Option R9 := if w32 (d 174 13) ≠ 0 then m_X12_isWord_174_s22_c39  0 0 d else if w32 (d 174 11) ≠ w32 1 then m_X12_isWord_174_s22_c39  0 0 d else if w32 ((d 174 9) - (d 174 10)) ≠ w32 5 then m_X12_isWord_174_s22_c39  0 0 d else m_X12_isWord_174_s22_c39  1 0 d
set_option maxRecDepth 100000 in
theorem sb_X12_isWord_174_s22_c39 {G : G9} {X : X9} (C : CX G X cX12_isWord 4 RX12 [] z_X12_isWord_174_s22) (k_X12_isWord_174_s22_c39 : Int → Int → D9 → Option R9) (hk_X12_isWord_174_s22_c39 : ∀ (v2 v3 : Int) (d : D9), SS G X 4 0 0 39 [(0, rf G 174), (1, sf G 22), (2, i9 v2), (3, i9 v3)] [] d (k_X12_isWord_174_s22_c39 v2 v3 d)) : ∀ (v2 v3 : Int) (d : D9), SS G X 4 0 0 39 [(0, rf G 174), (1, sf G 22), (2, i9 v2), (3, i9 v3)] [] d (b_X12_isWord_174_s22_c39 k_X12_isWord_174_s22_c39 v2 v3 d) := by
  intro v2 v3 d
  unfold b_X12_isWord_174_s22_c39
  refine r_iload_n C 2 dX12_isWord_39 rfl rfl ?_
  refine r_if_eq C (b := 0) 82 dX12_isWord_40 (by decide) (fun _ => ?_) (fun _ => ?_)
  · refine r_iload_n C 2 dX12_isWord_82 rfl rfl ?_
    exact r_zret C dX12_isWord_83 (by decide) (by decide)
  · refine r_iload_n C 3 dX12_isWord_43 rfl rfl ?_
    refine r_aload_nS C 1 dX12_isWord_44 rfl rfl ?_
    refine r_slen C 22 dX12_isWord_45 mw_X12_166 rfl (by decide) (Nat.le_of_ble_eq_true rfl) ?_
    refine r_icmp_ge C 82 dX12_isWord_48 (by decide) (fun _ => ?_) (fun _ => ?_)
    · refine r_iload_n C 2 dX12_isWord_82 rfl rfl ?_
      exact r_zret C dX12_isWord_83 (by decide) (by decide)
    · refine r_aload_n C 0 dX12_isWord_51 rfl rfl ?_
      refine r_getR C 178 dX12_isWord_52 fl_X12_20 la_174 ly_174 rfl rfl ?_
      refine r_aload_n C 0 dX12_isWord_55 rfl rfl ?_
      refine r_getI C dX12_isWord_56 fl_X12_142 la_174 ly_174 rfl ?_
      refine r_iload_n C 3 dX12_isWord_59 rfl rfl ?_
      refine r_iadd C dX12_isWord_60 ?_
      refine r_iald C dX12_isWord_61 la_178 ly_178 (fun t1 => ?_)
      refine r_aload_nS C 1 dX12_isWord_62 rfl rfl ?_
      refine r_iload_n C 3 dX12_isWord_63 rfl rfl ?_
      refine r_schar C 22 dX12_isWord_64 mw_X12_172 (by decide) (Nat.le_of_ble_eq_true rfl) (fun t2 => ?_)
      refine r_icmp_ne C 74 dX12_isWord_67 (by decide) (fun _ => ?_) (fun _ => ?_)
      · refine r_iconst C dX12_isWord_74 ?_
        refine r_istore_n C [(2, i9 0), (0, rf G 174), (1, sf G 22), (3, i9 v3)] dX12_isWord_75 rfl (by decide) rfl ?_
        refine r_iinc C 3 [(3, i9 (v3 + 1)), (2, i9 0), (0, rf G 174), (1, sf G 22)] dX12_isWord_76 rfl (by decide) rfl ?_
        refine r_goto C 39 dX12_isWord_79 (by decide) ?_
        refine ss_wide (k' := 0) (n' := 0) (by decide) (by decide) ?_
        refine ss_ls [(0, rf G 174), (1, sf G 22), (2, i9 0), (3, i9 (v3 + 1))] [2, 3, 1, 0] rfl ?_
        exact hk_X12_isWord_174_s22_c39 0 (v3 + 1) d
      · refine r_iconst C dX12_isWord_70 ?_
        refine r_goto C 75 dX12_isWord_71 (by decide) ?_
        refine r_istore_n C [(2, i9 1), (0, rf G 174), (1, sf G 22), (3, i9 v3)] dX12_isWord_75 rfl (by decide) rfl ?_
        refine r_iinc C 3 [(3, i9 (v3 + 1)), (2, i9 1), (0, rf G 174), (1, sf G 22)] dX12_isWord_76 rfl (by decide) rfl ?_
        refine r_goto C 39 dX12_isWord_79 (by decide) ?_
        refine ss_wide (k' := 0) (n' := 0) (by decide) (by decide) ?_
        refine ss_ls [(0, rf G 174), (1, sf G 22), (2, i9 1), (3, i9 (v3 + 1))] [2, 3, 1, 0] rfl ?_
        exact hk_X12_isWord_174_s22_c39 1 (v3 + 1) d
theorem s_X12_isWord_174_s22_c39 {G : G9} {X : X9} (C : CX G X cX12_isWord 4 RX12 [] z_X12_isWord_174_s22) : ∀ (v2 v3 : Int) (d : D9), SS G X 4 0 0 39 [(0, rf G 174), (1, sf G 22), (2, i9 v2), (3, i9 v3)] [] d (m_X12_isWord_174_s22_c39  v2 v3 d) :=
  fix9_ind (P := fun k => ∀ (v2 v3 : Int) (d : D9), SS G X 4 0 0 39 [(0, rf G 174), (1, sf G 22), (2, i9 v2), (3, i9 v3)] [] d (k v2 v3 d)) (fun _ _ _ => ss_none) (fun k hk => sb_X12_isWord_174_s22_c39 C k hk) FU
set_option maxRecDepth 100000 in
theorem t_X12_isWord_174_s22 {G : G9} {l : Launch} (h1 : va_D (A9 G) (wl G (fun _ _ => 0))) (h2 : l.stackTraces = false) (d : D9) : MT G l yX12_isWord cX12_isWord 4 z_X12_isWord_174_s22 [rf G 174, sf G 22] d (m_X12_isWord_174_s22  d) := by
  refine mt_of (own := RX12) (by decide) rfl (Nat.le_of_ble_eq_true rfl) h1 h2 [(0, rf G 174), (1, sf G 22)] rfl (fun X hX C => ?_)
  unfold m_X12_isWord_174_s22
  refine r_aload_n C 0 dX12_isWord_0 rfl rfl ?_
  refine r_getI C dX12_isWord_1 fl_X12_160 la_174 ly_174 rfl ?_
  refine r_if_ne C (b := 0) 35 dX12_isWord_4 (by decide) (fun _ => ?_) (fun _ => ?_)
  · refine r_iconst C dX12_isWord_35 ?_
    refine r_istore_n C [(2, i9 0), (0, rf G 174), (1, sf G 22)] dX12_isWord_36 rfl (by decide) rfl ?_
    refine r_iconst C dX12_isWord_37 ?_
    refine r_istore_n C [(3, i9 0), (2, i9 0), (0, rf G 174), (1, sf G 22)] dX12_isWord_38 rfl (by decide) rfl ?_
    refine ss_wide (k' := 0) (n' := 0) (by decide) (by decide) ?_
    refine ss_ls [(0, rf G 174), (1, sf G 22), (2, i9 0), (3, i9 0)] [2, 3, 1, 0] rfl ?_
    exact s_X12_isWord_174_s22_c39 C  0 0 d
  · refine r_aload_n C 0 dX12_isWord_7 rfl rfl ?_
    refine r_getI C dX12_isWord_8 fl_X12_145 la_174 ly_174 rfl ?_
    refine r_iconst C dX12_isWord_11 ?_
    refine r_icmp_ne C 35 dX12_isWord_12 (by decide) (fun _ => ?_) (fun _ => ?_)
    · refine r_iconst C dX12_isWord_35 ?_
      refine r_istore_n C [(2, i9 0), (0, rf G 174), (1, sf G 22)] dX12_isWord_36 rfl (by decide) rfl ?_
      refine r_iconst C dX12_isWord_37 ?_
      refine r_istore_n C [(3, i9 0), (2, i9 0), (0, rf G 174), (1, sf G 22)] dX12_isWord_38 rfl (by decide) rfl ?_
      refine ss_wide (k' := 0) (n' := 0) (by decide) (by decide) ?_
      refine ss_ls [(0, rf G 174), (1, sf G 22), (2, i9 0), (3, i9 0)] [2, 3, 1, 0] rfl ?_
      exact s_X12_isWord_174_s22_c39 C  0 0 d
    · refine r_aload_n C 0 dX12_isWord_15 rfl rfl ?_
      refine r_getI C dX12_isWord_16 fl_X12_139 la_174 ly_174 rfl ?_
      refine r_aload_n C 0 dX12_isWord_19 rfl rfl ?_
      refine r_getI C dX12_isWord_20 fl_X12_142 la_174 ly_174 rfl ?_
      refine r_isub C dX12_isWord_23 ?_
      refine r_aload_nS C 1 dX12_isWord_24 rfl rfl ?_
      refine r_slen C 22 dX12_isWord_25 mw_X12_166 rfl (by decide) (Nat.le_of_ble_eq_true rfl) ?_
      refine r_icmp_ne C 35 dX12_isWord_28 (by decide) (fun _ => ?_) (fun _ => ?_)
      · refine r_iconst C dX12_isWord_35 ?_
        refine r_istore_n C [(2, i9 0), (0, rf G 174), (1, sf G 22)] dX12_isWord_36 rfl (by decide) rfl ?_
        refine r_iconst C dX12_isWord_37 ?_
        refine r_istore_n C [(3, i9 0), (2, i9 0), (0, rf G 174), (1, sf G 22)] dX12_isWord_38 rfl (by decide) rfl ?_
        refine ss_wide (k' := 0) (n' := 0) (by decide) (by decide) ?_
        refine ss_ls [(0, rf G 174), (1, sf G 22), (2, i9 0), (3, i9 0)] [2, 3, 1, 0] rfl ?_
        exact s_X12_isWord_174_s22_c39 C  0 0 d
      · refine r_iconst C dX12_isWord_31 ?_
        refine r_goto C 36 dX12_isWord_32 (by decide) ?_
        refine r_istore_n C [(2, i9 1), (0, rf G 174), (1, sf G 22)] dX12_isWord_36 rfl (by decide) rfl ?_
        refine r_iconst C dX12_isWord_37 ?_
        refine r_istore_n C [(3, i9 0), (2, i9 1), (0, rf G 174), (1, sf G 22)] dX12_isWord_38 rfl (by decide) rfl ?_
        refine ss_wide (k' := 0) (n' := 0) (by decide) (by decide) ?_
        refine ss_ls [(0, rf G 174), (1, sf G 22), (2, i9 1), (3, i9 0)] [2, 3, 1, 0] rfl ?_
        exact s_X12_isWord_174_s22_c39 C  1 0 d
abbrev z_X12_isWord_174_s35 : Z9 := (some .boolean, 1, 0, 0, 8, 250)
def b_X12_isWord_174_s35_c39 (k_X12_isWord_174_s35_c39 : Int → Int → D9 → Option R9) (v2 v3 : Int) (d : D9) : Option R9 := if w32 v2 = 0 then rt (v2 % 2) d else if w32 4 ≤ w32 v3 then rt (v2 % 2) d else ld d 178 400 ((d 174 10) + v3) (fun t1 => sch 35 v3 (fun t2 => if w32 t1 ≠ w32 t2 then k_X12_isWord_174_s35_c39 0 (v3 + 1) d else k_X12_isWord_174_s35_c39 1 (v3 + 1) d))
def m_X12_isWord_174_s35_c39 : Int → Int → D9 → Option R9 := fix9 (fun _ _ _ => none) (fun k => b_X12_isWord_174_s35_c39 k) FU
def m_X12_isWord_174_s35 (d : D9) : Option R9 := if w32 (d 174 13) ≠ 0 then m_X12_isWord_174_s35_c39  0 0 d else if w32 (d 174 11) ≠ w32 1 then m_X12_isWord_174_s35_c39  0 0 d else if w32 ((d 174 9) - (d 174 10)) ≠ w32 4 then m_X12_isWord_174_s35_c39  0 0 d else m_X12_isWord_174_s35_c39  1 0 d
set_option maxRecDepth 100000 in
theorem sb_X12_isWord_174_s35_c39 {G : G9} {X : X9} (C : CX G X cX12_isWord 4 RX12 [] z_X12_isWord_174_s35) (k_X12_isWord_174_s35_c39 : Int → Int → D9 → Option R9) (hk_X12_isWord_174_s35_c39 : ∀ (v2 v3 : Int) (d : D9), SS G X 4 0 0 39 [(0, rf G 174), (1, sf G 35), (2, i9 v2), (3, i9 v3)] [] d (k_X12_isWord_174_s35_c39 v2 v3 d)) : ∀ (v2 v3 : Int) (d : D9), SS G X 4 0 0 39 [(0, rf G 174), (1, sf G 35), (2, i9 v2), (3, i9 v3)] [] d (b_X12_isWord_174_s35_c39 k_X12_isWord_174_s35_c39 v2 v3 d) := by
  intro v2 v3 d
  unfold b_X12_isWord_174_s35_c39
  refine r_iload_n C 2 dX12_isWord_39 rfl rfl ?_
  refine r_if_eq C (b := 0) 82 dX12_isWord_40 (by decide) (fun _ => ?_) (fun _ => ?_)
  · refine r_iload_n C 2 dX12_isWord_82 rfl rfl ?_
    exact r_zret C dX12_isWord_83 (by decide) (by decide)
  · refine r_iload_n C 3 dX12_isWord_43 rfl rfl ?_
    refine r_aload_nS C 1 dX12_isWord_44 rfl rfl ?_
    refine r_slen C 35 dX12_isWord_45 mw_X12_166 rfl (by decide) (Nat.le_of_ble_eq_true rfl) ?_
    refine r_icmp_ge C 82 dX12_isWord_48 (by decide) (fun _ => ?_) (fun _ => ?_)
    · refine r_iload_n C 2 dX12_isWord_82 rfl rfl ?_
      exact r_zret C dX12_isWord_83 (by decide) (by decide)
    · refine r_aload_n C 0 dX12_isWord_51 rfl rfl ?_
      refine r_getR C 178 dX12_isWord_52 fl_X12_20 la_174 ly_174 rfl rfl ?_
      refine r_aload_n C 0 dX12_isWord_55 rfl rfl ?_
      refine r_getI C dX12_isWord_56 fl_X12_142 la_174 ly_174 rfl ?_
      refine r_iload_n C 3 dX12_isWord_59 rfl rfl ?_
      refine r_iadd C dX12_isWord_60 ?_
      refine r_iald C dX12_isWord_61 la_178 ly_178 (fun t1 => ?_)
      refine r_aload_nS C 1 dX12_isWord_62 rfl rfl ?_
      refine r_iload_n C 3 dX12_isWord_63 rfl rfl ?_
      refine r_schar C 35 dX12_isWord_64 mw_X12_172 (by decide) (Nat.le_of_ble_eq_true rfl) (fun t2 => ?_)
      refine r_icmp_ne C 74 dX12_isWord_67 (by decide) (fun _ => ?_) (fun _ => ?_)
      · refine r_iconst C dX12_isWord_74 ?_
        refine r_istore_n C [(2, i9 0), (0, rf G 174), (1, sf G 35), (3, i9 v3)] dX12_isWord_75 rfl (by decide) rfl ?_
        refine r_iinc C 3 [(3, i9 (v3 + 1)), (2, i9 0), (0, rf G 174), (1, sf G 35)] dX12_isWord_76 rfl (by decide) rfl ?_
        refine r_goto C 39 dX12_isWord_79 (by decide) ?_
        refine ss_wide (k' := 0) (n' := 0) (by decide) (by decide) ?_
        refine ss_ls [(0, rf G 174), (1, sf G 35), (2, i9 0), (3, i9 (v3 + 1))] [2, 3, 1, 0] rfl ?_
        exact hk_X12_isWord_174_s35_c39 0 (v3 + 1) d
      · refine r_iconst C dX12_isWord_70 ?_
        refine r_goto C 75 dX12_isWord_71 (by decide) ?_
        refine r_istore_n C [(2, i9 1), (0, rf G 174), (1, sf G 35), (3, i9 v3)] dX12_isWord_75 rfl (by decide) rfl ?_
        refine r_iinc C 3 [(3, i9 (v3 + 1)), (2, i9 1), (0, rf G 174), (1, sf G 35)] dX12_isWord_76 rfl (by decide) rfl ?_
        refine r_goto C 39 dX12_isWord_79 (by decide) ?_
        refine ss_wide (k' := 0) (n' := 0) (by decide) (by decide) ?_
        refine ss_ls [(0, rf G 174), (1, sf G 35), (2, i9 1), (3, i9 (v3 + 1))] [2, 3, 1, 0] rfl ?_
        exact hk_X12_isWord_174_s35_c39 1 (v3 + 1) d
theorem s_X12_isWord_174_s35_c39 {G : G9} {X : X9} (C : CX G X cX12_isWord 4 RX12 [] z_X12_isWord_174_s35) : ∀ (v2 v3 : Int) (d : D9), SS G X 4 0 0 39 [(0, rf G 174), (1, sf G 35), (2, i9 v2), (3, i9 v3)] [] d (m_X12_isWord_174_s35_c39  v2 v3 d) :=
  fix9_ind (P := fun k => ∀ (v2 v3 : Int) (d : D9), SS G X 4 0 0 39 [(0, rf G 174), (1, sf G 35), (2, i9 v2), (3, i9 v3)] [] d (k v2 v3 d)) (fun _ _ _ => ss_none) (fun k hk => sb_X12_isWord_174_s35_c39 C k hk) FU
set_option maxRecDepth 100000 in
theorem t_X12_isWord_174_s35 {G : G9} {l : Launch} (h1 : va_D (A9 G) (wl G (fun _ _ => 0))) (h2 : l.stackTraces = false) (d : D9) : MT G l yX12_isWord cX12_isWord 4 z_X12_isWord_174_s35 [rf G 174, sf G 35] d (m_X12_isWord_174_s35  d) := by
  refine mt_of (own := RX12) (by decide) rfl (Nat.le_of_ble_eq_true rfl) h1 h2 [(0, rf G 174), (1, sf G 35)] rfl (fun X hX C => ?_)
  unfold m_X12_isWord_174_s35
  refine r_aload_n C 0 dX12_isWord_0 rfl rfl ?_
  refine r_getI C dX12_isWord_1 fl_X12_160 la_174 ly_174 rfl ?_
  refine r_if_ne C (b := 0) 35 dX12_isWord_4 (by decide) (fun _ => ?_) (fun _ => ?_)
  · refine r_iconst C dX12_isWord_35 ?_
    refine r_istore_n C [(2, i9 0), (0, rf G 174), (1, sf G 35)] dX12_isWord_36 rfl (by decide) rfl ?_
    refine r_iconst C dX12_isWord_37 ?_
    refine r_istore_n C [(3, i9 0), (2, i9 0), (0, rf G 174), (1, sf G 35)] dX12_isWord_38 rfl (by decide) rfl ?_
    refine ss_wide (k' := 0) (n' := 0) (by decide) (by decide) ?_
    refine ss_ls [(0, rf G 174), (1, sf G 35), (2, i9 0), (3, i9 0)] [2, 3, 1, 0] rfl ?_
    exact s_X12_isWord_174_s35_c39 C  0 0 d
  · refine r_aload_n C 0 dX12_isWord_7 rfl rfl ?_
    refine r_getI C dX12_isWord_8 fl_X12_145 la_174 ly_174 rfl ?_
    refine r_iconst C dX12_isWord_11 ?_
    refine r_icmp_ne C 35 dX12_isWord_12 (by decide) (fun _ => ?_) (fun _ => ?_)
    · refine r_iconst C dX12_isWord_35 ?_
      refine r_istore_n C [(2, i9 0), (0, rf G 174), (1, sf G 35)] dX12_isWord_36 rfl (by decide) rfl ?_
      refine r_iconst C dX12_isWord_37 ?_
      refine r_istore_n C [(3, i9 0), (2, i9 0), (0, rf G 174), (1, sf G 35)] dX12_isWord_38 rfl (by decide) rfl ?_
      refine ss_wide (k' := 0) (n' := 0) (by decide) (by decide) ?_
      refine ss_ls [(0, rf G 174), (1, sf G 35), (2, i9 0), (3, i9 0)] [2, 3, 1, 0] rfl ?_
      exact s_X12_isWord_174_s35_c39 C  0 0 d
    · refine r_aload_n C 0 dX12_isWord_15 rfl rfl ?_
      refine r_getI C dX12_isWord_16 fl_X12_139 la_174 ly_174 rfl ?_
      refine r_aload_n C 0 dX12_isWord_19 rfl rfl ?_
      refine r_getI C dX12_isWord_20 fl_X12_142 la_174 ly_174 rfl ?_
      refine r_isub C dX12_isWord_23 ?_
      refine r_aload_nS C 1 dX12_isWord_24 rfl rfl ?_
      refine r_slen C 35 dX12_isWord_25 mw_X12_166 rfl (by decide) (Nat.le_of_ble_eq_true rfl) ?_
      refine r_icmp_ne C 35 dX12_isWord_28 (by decide) (fun _ => ?_) (fun _ => ?_)
      · refine r_iconst C dX12_isWord_35 ?_
        refine r_istore_n C [(2, i9 0), (0, rf G 174), (1, sf G 35)] dX12_isWord_36 rfl (by decide) rfl ?_
        refine r_iconst C dX12_isWord_37 ?_
        refine r_istore_n C [(3, i9 0), (2, i9 0), (0, rf G 174), (1, sf G 35)] dX12_isWord_38 rfl (by decide) rfl ?_
        refine ss_wide (k' := 0) (n' := 0) (by decide) (by decide) ?_
        refine ss_ls [(0, rf G 174), (1, sf G 35), (2, i9 0), (3, i9 0)] [2, 3, 1, 0] rfl ?_
        exact s_X12_isWord_174_s35_c39 C  0 0 d
      · refine r_iconst C dX12_isWord_31 ?_
        refine r_goto C 36 dX12_isWord_32 (by decide) ?_
        refine r_istore_n C [(2, i9 1), (0, rf G 174), (1, sf G 35)] dX12_isWord_36 rfl (by decide) rfl ?_
        refine r_iconst C dX12_isWord_37 ?_
        refine r_istore_n C [(3, i9 0), (2, i9 1), (0, rf G 174), (1, sf G 35)] dX12_isWord_38 rfl (by decide) rfl ?_
        refine ss_wide (k' := 0) (n' := 0) (by decide) (by decide) ?_
        refine ss_ls [(0, rf G 174), (1, sf G 35), (2, i9 1), (3, i9 0)] [2, 3, 1, 0] rfl ?_
        exact s_X12_isWord_174_s35_c39 C  1 0 d
abbrev z_X12_isWord_174_s36 : Z9 := (some .boolean, 1, 0, 0, 8, 250)
def b_X12_isWord_174_s36_c39 (k_X12_isWord_174_s36_c39 : Int → Int → D9 → Option R9) (v2 v3 : Int) (d : D9) : Option R9 := if w32 v2 = 0 then rt (v2 % 2) d else if w32 4 ≤ w32 v3 then rt (v2 % 2) d else ld d 178 400 ((d 174 10) + v3) (fun t1 => sch 36 v3 (fun t2 => if w32 t1 ≠ w32 t2 then k_X12_isWord_174_s36_c39 0 (v3 + 1) d else k_X12_isWord_174_s36_c39 1 (v3 + 1) d))
def m_X12_isWord_174_s36_c39 : Int → Int → D9 → Option R9 := fix9 (fun _ _ _ => none) (fun k => b_X12_isWord_174_s36_c39 k) FU
def m_X12_isWord_174_s36 (d : D9) : Option R9 := if w32 (d 174 13) ≠ 0 then m_X12_isWord_174_s36_c39  0 0 d else if w32 (d 174 11) ≠ w32 1 then m_X12_isWord_174_s36_c39  0 0 d else if w32 ((d 174 9) - (d 174 10)) ≠ w32 4 then m_X12_isWord_174_s36_c39  0 0 d else m_X12_isWord_174_s36_c39  1 0 d
set_option maxRecDepth 100000 in
theorem sb_X12_isWord_174_s36_c39 {G : G9} {X : X9} (C : CX G X cX12_isWord 4 RX12 [] z_X12_isWord_174_s36) (k_X12_isWord_174_s36_c39 : Int → Int → D9 → Option R9) (hk_X12_isWord_174_s36_c39 : ∀ (v2 v3 : Int) (d : D9), SS G X 4 0 0 39 [(0, rf G 174), (1, sf G 36), (2, i9 v2), (3, i9 v3)] [] d (k_X12_isWord_174_s36_c39 v2 v3 d)) : ∀ (v2 v3 : Int) (d : D9), SS G X 4 0 0 39 [(0, rf G 174), (1, sf G 36), (2, i9 v2), (3, i9 v3)] [] d (b_X12_isWord_174_s36_c39 k_X12_isWord_174_s36_c39 v2 v3 d) := by
  intro v2 v3 d
  unfold b_X12_isWord_174_s36_c39
  refine r_iload_n C 2 dX12_isWord_39 rfl rfl ?_
  refine r_if_eq C (b := 0) 82 dX12_isWord_40 (by decide) (fun _ => ?_) (fun _ => ?_)
  · refine r_iload_n C 2 dX12_isWord_82 rfl rfl ?_
    exact r_zret C dX12_isWord_83 (by decide) (by decide)
  · refine r_iload_n C 3 dX12_isWord_43 rfl rfl ?_
    refine r_aload_nS C 1 dX12_isWord_44 rfl rfl ?_
    refine r_slen C 36 dX12_isWord_45 mw_X12_166 rfl (by decide) (Nat.le_of_ble_eq_true rfl) ?_
    refine r_icmp_ge C 82 dX12_isWord_48 (by decide) (fun _ => ?_) (fun _ => ?_)
    · refine r_iload_n C 2 dX12_isWord_82 rfl rfl ?_
      exact r_zret C dX12_isWord_83 (by decide) (by decide)
    · refine r_aload_n C 0 dX12_isWord_51 rfl rfl ?_
      refine r_getR C 178 dX12_isWord_52 fl_X12_20 la_174 ly_174 rfl rfl ?_
      refine r_aload_n C 0 dX12_isWord_55 rfl rfl ?_
      refine r_getI C dX12_isWord_56 fl_X12_142 la_174 ly_174 rfl ?_
      refine r_iload_n C 3 dX12_isWord_59 rfl rfl ?_
      refine r_iadd C dX12_isWord_60 ?_
      refine r_iald C dX12_isWord_61 la_178 ly_178 (fun t1 => ?_)
      refine r_aload_nS C 1 dX12_isWord_62 rfl rfl ?_
      refine r_iload_n C 3 dX12_isWord_63 rfl rfl ?_
      refine r_schar C 36 dX12_isWord_64 mw_X12_172 (by decide) (Nat.le_of_ble_eq_true rfl) (fun t2 => ?_)
      refine r_icmp_ne C 74 dX12_isWord_67 (by decide) (fun _ => ?_) (fun _ => ?_)
      · refine r_iconst C dX12_isWord_74 ?_
        refine r_istore_n C [(2, i9 0), (0, rf G 174), (1, sf G 36), (3, i9 v3)] dX12_isWord_75 rfl (by decide) rfl ?_
        refine r_iinc C 3 [(3, i9 (v3 + 1)), (2, i9 0), (0, rf G 174), (1, sf G 36)] dX12_isWord_76 rfl (by decide) rfl ?_
        refine r_goto C 39 dX12_isWord_79 (by decide) ?_
        refine ss_wide (k' := 0) (n' := 0) (by decide) (by decide) ?_
        refine ss_ls [(0, rf G 174), (1, sf G 36), (2, i9 0), (3, i9 (v3 + 1))] [2, 3, 1, 0] rfl ?_
        exact hk_X12_isWord_174_s36_c39 0 (v3 + 1) d
      · refine r_iconst C dX12_isWord_70 ?_
        refine r_goto C 75 dX12_isWord_71 (by decide) ?_
        refine r_istore_n C [(2, i9 1), (0, rf G 174), (1, sf G 36), (3, i9 v3)] dX12_isWord_75 rfl (by decide) rfl ?_
        refine r_iinc C 3 [(3, i9 (v3 + 1)), (2, i9 1), (0, rf G 174), (1, sf G 36)] dX12_isWord_76 rfl (by decide) rfl ?_
        refine r_goto C 39 dX12_isWord_79 (by decide) ?_
        refine ss_wide (k' := 0) (n' := 0) (by decide) (by decide) ?_
        refine ss_ls [(0, rf G 174), (1, sf G 36), (2, i9 1), (3, i9 (v3 + 1))] [2, 3, 1, 0] rfl ?_
        exact hk_X12_isWord_174_s36_c39 1 (v3 + 1) d
theorem s_X12_isWord_174_s36_c39 {G : G9} {X : X9} (C : CX G X cX12_isWord 4 RX12 [] z_X12_isWord_174_s36) : ∀ (v2 v3 : Int) (d : D9), SS G X 4 0 0 39 [(0, rf G 174), (1, sf G 36), (2, i9 v2), (3, i9 v3)] [] d (m_X12_isWord_174_s36_c39  v2 v3 d) :=
  fix9_ind (P := fun k => ∀ (v2 v3 : Int) (d : D9), SS G X 4 0 0 39 [(0, rf G 174), (1, sf G 36), (2, i9 v2), (3, i9 v3)] [] d (k v2 v3 d)) (fun _ _ _ => ss_none) (fun k hk => sb_X12_isWord_174_s36_c39 C k hk) FU
set_option maxRecDepth 100000 in
theorem t_X12_isWord_174_s36 {G : G9} {l : Launch} (h1 : va_D (A9 G) (wl G (fun _ _ => 0))) (h2 : l.stackTraces = false) (d : D9) : MT G l yX12_isWord cX12_isWord 4 z_X12_isWord_174_s36 [rf G 174, sf G 36] d (m_X12_isWord_174_s36  d) := by
  refine mt_of (own := RX12) (by decide) rfl (Nat.le_of_ble_eq_true rfl) h1 h2 [(0, rf G 174), (1, sf G 36)] rfl (fun X hX C => ?_)
  unfold m_X12_isWord_174_s36
  refine r_aload_n C 0 dX12_isWord_0 rfl rfl ?_
  refine r_getI C dX12_isWord_1 fl_X12_160 la_174 ly_174 rfl ?_
  refine r_if_ne C (b := 0) 35 dX12_isWord_4 (by decide) (fun _ => ?_) (fun _ => ?_)
  · refine r_iconst C dX12_isWord_35 ?_
    refine r_istore_n C [(2, i9 0), (0, rf G 174), (1, sf G 36)] dX12_isWord_36 rfl (by decide) rfl ?_
    refine r_iconst C dX12_isWord_37 ?_
    refine r_istore_n C [(3, i9 0), (2, i9 0), (0, rf G 174), (1, sf G 36)] dX12_isWord_38 rfl (by decide) rfl ?_
    refine ss_wide (k' := 0) (n' := 0) (by decide) (by decide) ?_
    refine ss_ls [(0, rf G 174), (1, sf G 36), (2, i9 0), (3, i9 0)] [2, 3, 1, 0] rfl ?_
    exact s_X12_isWord_174_s36_c39 C  0 0 d
  · refine r_aload_n C 0 dX12_isWord_7 rfl rfl ?_
    refine r_getI C dX12_isWord_8 fl_X12_145 la_174 ly_174 rfl ?_
    refine r_iconst C dX12_isWord_11 ?_
    refine r_icmp_ne C 35 dX12_isWord_12 (by decide) (fun _ => ?_) (fun _ => ?_)
    · refine r_iconst C dX12_isWord_35 ?_
      refine r_istore_n C [(2, i9 0), (0, rf G 174), (1, sf G 36)] dX12_isWord_36 rfl (by decide) rfl ?_
      refine r_iconst C dX12_isWord_37 ?_
      refine r_istore_n C [(3, i9 0), (2, i9 0), (0, rf G 174), (1, sf G 36)] dX12_isWord_38 rfl (by decide) rfl ?_
      refine ss_wide (k' := 0) (n' := 0) (by decide) (by decide) ?_
      refine ss_ls [(0, rf G 174), (1, sf G 36), (2, i9 0), (3, i9 0)] [2, 3, 1, 0] rfl ?_
      exact s_X12_isWord_174_s36_c39 C  0 0 d
    · refine r_aload_n C 0 dX12_isWord_15 rfl rfl ?_
      refine r_getI C dX12_isWord_16 fl_X12_139 la_174 ly_174 rfl ?_
      refine r_aload_n C 0 dX12_isWord_19 rfl rfl ?_
      refine r_getI C dX12_isWord_20 fl_X12_142 la_174 ly_174 rfl ?_
      refine r_isub C dX12_isWord_23 ?_
      refine r_aload_nS C 1 dX12_isWord_24 rfl rfl ?_
      refine r_slen C 36 dX12_isWord_25 mw_X12_166 rfl (by decide) (Nat.le_of_ble_eq_true rfl) ?_
      refine r_icmp_ne C 35 dX12_isWord_28 (by decide) (fun _ => ?_) (fun _ => ?_)
      · refine r_iconst C dX12_isWord_35 ?_
        refine r_istore_n C [(2, i9 0), (0, rf G 174), (1, sf G 36)] dX12_isWord_36 rfl (by decide) rfl ?_
        refine r_iconst C dX12_isWord_37 ?_
        refine r_istore_n C [(3, i9 0), (2, i9 0), (0, rf G 174), (1, sf G 36)] dX12_isWord_38 rfl (by decide) rfl ?_
        refine ss_wide (k' := 0) (n' := 0) (by decide) (by decide) ?_
        refine ss_ls [(0, rf G 174), (1, sf G 36), (2, i9 0), (3, i9 0)] [2, 3, 1, 0] rfl ?_
        exact s_X12_isWord_174_s36_c39 C  0 0 d
      · refine r_iconst C dX12_isWord_31 ?_
        refine r_goto C 36 dX12_isWord_32 (by decide) ?_
        refine r_istore_n C [(2, i9 1), (0, rf G 174), (1, sf G 36)] dX12_isWord_36 rfl (by decide) rfl ?_
        refine r_iconst C dX12_isWord_37 ?_
        refine r_istore_n C [(3, i9 0), (2, i9 1), (0, rf G 174), (1, sf G 36)] dX12_isWord_38 rfl (by decide) rfl ?_
        refine ss_wide (k' := 0) (n' := 0) (by decide) (by decide) ?_
        refine ss_ls [(0, rf G 174), (1, sf G 36), (2, i9 1), (3, i9 0)] [2, 3, 1, 0] rfl ?_
        exact s_X12_isWord_174_s36_c39 C  1 0 d
abbrev z_X12_isWord_174_s37 : Z9 := (some .boolean, 1, 0, 0, 8, 250)
def b_X12_isWord_174_s37_c39 (k_X12_isWord_174_s37_c39 : Int → Int → D9 → Option R9) (v2 v3 : Int) (d : D9) : Option R9 := if w32 v2 = 0 then rt (v2 % 2) d else if w32 4 ≤ w32 v3 then rt (v2 % 2) d else ld d 178 400 ((d 174 10) + v3) (fun t1 => sch 37 v3 (fun t2 => if w32 t1 ≠ w32 t2 then k_X12_isWord_174_s37_c39 0 (v3 + 1) d else k_X12_isWord_174_s37_c39 1 (v3 + 1) d))
def m_X12_isWord_174_s37_c39 : Int → Int → D9 → Option R9 := fix9 (fun _ _ _ => none) (fun k => b_X12_isWord_174_s37_c39 k) FU
def m_X12_isWord_174_s37 (d : D9) : Option R9 := if w32 (d 174 13) ≠ 0 then m_X12_isWord_174_s37_c39  0 0 d else if w32 (d 174 11) ≠ w32 1 then m_X12_isWord_174_s37_c39  0 0 d else if w32 ((d 174 9) - (d 174 10)) ≠ w32 4 then m_X12_isWord_174_s37_c39  0 0 d else m_X12_isWord_174_s37_c39  1 0 d
set_option maxRecDepth 100000 in
theorem sb_X12_isWord_174_s37_c39 {G : G9} {X : X9} (C : CX G X cX12_isWord 4 RX12 [] z_X12_isWord_174_s37) (k_X12_isWord_174_s37_c39 : Int → Int → D9 → Option R9) (hk_X12_isWord_174_s37_c39 : ∀ (v2 v3 : Int) (d : D9), SS G X 4 0 0 39 [(0, rf G 174), (1, sf G 37), (2, i9 v2), (3, i9 v3)] [] d (k_X12_isWord_174_s37_c39 v2 v3 d)) : ∀ (v2 v3 : Int) (d : D9), SS G X 4 0 0 39 [(0, rf G 174), (1, sf G 37), (2, i9 v2), (3, i9 v3)] [] d (b_X12_isWord_174_s37_c39 k_X12_isWord_174_s37_c39 v2 v3 d) := by
  intro v2 v3 d
  unfold b_X12_isWord_174_s37_c39
  refine r_iload_n C 2 dX12_isWord_39 rfl rfl ?_
  refine r_if_eq C (b := 0) 82 dX12_isWord_40 (by decide) (fun _ => ?_) (fun _ => ?_)
  · refine r_iload_n C 2 dX12_isWord_82 rfl rfl ?_
    exact r_zret C dX12_isWord_83 (by decide) (by decide)
  · refine r_iload_n C 3 dX12_isWord_43 rfl rfl ?_
    refine r_aload_nS C 1 dX12_isWord_44 rfl rfl ?_
    refine r_slen C 37 dX12_isWord_45 mw_X12_166 rfl (by decide) (Nat.le_of_ble_eq_true rfl) ?_
    refine r_icmp_ge C 82 dX12_isWord_48 (by decide) (fun _ => ?_) (fun _ => ?_)
    · refine r_iload_n C 2 dX12_isWord_82 rfl rfl ?_
      exact r_zret C dX12_isWord_83 (by decide) (by decide)
    · refine r_aload_n C 0 dX12_isWord_51 rfl rfl ?_
      refine r_getR C 178 dX12_isWord_52 fl_X12_20 la_174 ly_174 rfl rfl ?_
      refine r_aload_n C 0 dX12_isWord_55 rfl rfl ?_
      refine r_getI C dX12_isWord_56 fl_X12_142 la_174 ly_174 rfl ?_
      refine r_iload_n C 3 dX12_isWord_59 rfl rfl ?_
      refine r_iadd C dX12_isWord_60 ?_
      refine r_iald C dX12_isWord_61 la_178 ly_178 (fun t1 => ?_)
      refine r_aload_nS C 1 dX12_isWord_62 rfl rfl ?_
      refine r_iload_n C 3 dX12_isWord_63 rfl rfl ?_
      refine r_schar C 37 dX12_isWord_64 mw_X12_172 (by decide) (Nat.le_of_ble_eq_true rfl) (fun t2 => ?_)
      refine r_icmp_ne C 74 dX12_isWord_67 (by decide) (fun _ => ?_) (fun _ => ?_)
      · refine r_iconst C dX12_isWord_74 ?_
        refine r_istore_n C [(2, i9 0), (0, rf G 174), (1, sf G 37), (3, i9 v3)] dX12_isWord_75 rfl (by decide) rfl ?_
        refine r_iinc C 3 [(3, i9 (v3 + 1)), (2, i9 0), (0, rf G 174), (1, sf G 37)] dX12_isWord_76 rfl (by decide) rfl ?_
        refine r_goto C 39 dX12_isWord_79 (by decide) ?_
        refine ss_wide (k' := 0) (n' := 0) (by decide) (by decide) ?_
        refine ss_ls [(0, rf G 174), (1, sf G 37), (2, i9 0), (3, i9 (v3 + 1))] [2, 3, 1, 0] rfl ?_
        exact hk_X12_isWord_174_s37_c39 0 (v3 + 1) d
      · refine r_iconst C dX12_isWord_70 ?_
        refine r_goto C 75 dX12_isWord_71 (by decide) ?_
        refine r_istore_n C [(2, i9 1), (0, rf G 174), (1, sf G 37), (3, i9 v3)] dX12_isWord_75 rfl (by decide) rfl ?_
        refine r_iinc C 3 [(3, i9 (v3 + 1)), (2, i9 1), (0, rf G 174), (1, sf G 37)] dX12_isWord_76 rfl (by decide) rfl ?_
        refine r_goto C 39 dX12_isWord_79 (by decide) ?_
        refine ss_wide (k' := 0) (n' := 0) (by decide) (by decide) ?_
        refine ss_ls [(0, rf G 174), (1, sf G 37), (2, i9 1), (3, i9 (v3 + 1))] [2, 3, 1, 0] rfl ?_
        exact hk_X12_isWord_174_s37_c39 1 (v3 + 1) d
theorem s_X12_isWord_174_s37_c39 {G : G9} {X : X9} (C : CX G X cX12_isWord 4 RX12 [] z_X12_isWord_174_s37) : ∀ (v2 v3 : Int) (d : D9), SS G X 4 0 0 39 [(0, rf G 174), (1, sf G 37), (2, i9 v2), (3, i9 v3)] [] d (m_X12_isWord_174_s37_c39  v2 v3 d) :=
  fix9_ind (P := fun k => ∀ (v2 v3 : Int) (d : D9), SS G X 4 0 0 39 [(0, rf G 174), (1, sf G 37), (2, i9 v2), (3, i9 v3)] [] d (k v2 v3 d)) (fun _ _ _ => ss_none) (fun k hk => sb_X12_isWord_174_s37_c39 C k hk) FU
set_option maxRecDepth 100000 in
theorem t_X12_isWord_174_s37 {G : G9} {l : Launch} (h1 : va_D (A9 G) (wl G (fun _ _ => 0))) (h2 : l.stackTraces = false) (d : D9) : MT G l yX12_isWord cX12_isWord 4 z_X12_isWord_174_s37 [rf G 174, sf G 37] d (m_X12_isWord_174_s37  d) := by
  refine mt_of (own := RX12) (by decide) rfl (Nat.le_of_ble_eq_true rfl) h1 h2 [(0, rf G 174), (1, sf G 37)] rfl (fun X hX C => ?_)
  unfold m_X12_isWord_174_s37
  refine r_aload_n C 0 dX12_isWord_0 rfl rfl ?_
  refine r_getI C dX12_isWord_1 fl_X12_160 la_174 ly_174 rfl ?_
  refine r_if_ne C (b := 0) 35 dX12_isWord_4 (by decide) (fun _ => ?_) (fun _ => ?_)
  · refine r_iconst C dX12_isWord_35 ?_
    refine r_istore_n C [(2, i9 0), (0, rf G 174), (1, sf G 37)] dX12_isWord_36 rfl (by decide) rfl ?_
    refine r_iconst C dX12_isWord_37 ?_
    refine r_istore_n C [(3, i9 0), (2, i9 0), (0, rf G 174), (1, sf G 37)] dX12_isWord_38 rfl (by decide) rfl ?_
    refine ss_wide (k' := 0) (n' := 0) (by decide) (by decide) ?_
    refine ss_ls [(0, rf G 174), (1, sf G 37), (2, i9 0), (3, i9 0)] [2, 3, 1, 0] rfl ?_
    exact s_X12_isWord_174_s37_c39 C  0 0 d
  · refine r_aload_n C 0 dX12_isWord_7 rfl rfl ?_
    refine r_getI C dX12_isWord_8 fl_X12_145 la_174 ly_174 rfl ?_
    refine r_iconst C dX12_isWord_11 ?_
    refine r_icmp_ne C 35 dX12_isWord_12 (by decide) (fun _ => ?_) (fun _ => ?_)
    · refine r_iconst C dX12_isWord_35 ?_
      refine r_istore_n C [(2, i9 0), (0, rf G 174), (1, sf G 37)] dX12_isWord_36 rfl (by decide) rfl ?_
      refine r_iconst C dX12_isWord_37 ?_
      refine r_istore_n C [(3, i9 0), (2, i9 0), (0, rf G 174), (1, sf G 37)] dX12_isWord_38 rfl (by decide) rfl ?_
      refine ss_wide (k' := 0) (n' := 0) (by decide) (by decide) ?_
      refine ss_ls [(0, rf G 174), (1, sf G 37), (2, i9 0), (3, i9 0)] [2, 3, 1, 0] rfl ?_
      exact s_X12_isWord_174_s37_c39 C  0 0 d
    · refine r_aload_n C 0 dX12_isWord_15 rfl rfl ?_
      refine r_getI C dX12_isWord_16 fl_X12_139 la_174 ly_174 rfl ?_
      refine r_aload_n C 0 dX12_isWord_19 rfl rfl ?_
      refine r_getI C dX12_isWord_20 fl_X12_142 la_174 ly_174 rfl ?_
      refine r_isub C dX12_isWord_23 ?_
      refine r_aload_nS C 1 dX12_isWord_24 rfl rfl ?_
      refine r_slen C 37 dX12_isWord_25 mw_X12_166 rfl (by decide) (Nat.le_of_ble_eq_true rfl) ?_
      refine r_icmp_ne C 35 dX12_isWord_28 (by decide) (fun _ => ?_) (fun _ => ?_)
      · refine r_iconst C dX12_isWord_35 ?_
        refine r_istore_n C [(2, i9 0), (0, rf G 174), (1, sf G 37)] dX12_isWord_36 rfl (by decide) rfl ?_
        refine r_iconst C dX12_isWord_37 ?_
        refine r_istore_n C [(3, i9 0), (2, i9 0), (0, rf G 174), (1, sf G 37)] dX12_isWord_38 rfl (by decide) rfl ?_
        refine ss_wide (k' := 0) (n' := 0) (by decide) (by decide) ?_
        refine ss_ls [(0, rf G 174), (1, sf G 37), (2, i9 0), (3, i9 0)] [2, 3, 1, 0] rfl ?_
        exact s_X12_isWord_174_s37_c39 C  0 0 d
      · refine r_iconst C dX12_isWord_31 ?_
        refine r_goto C 36 dX12_isWord_32 (by decide) ?_
        refine r_istore_n C [(2, i9 1), (0, rf G 174), (1, sf G 37)] dX12_isWord_36 rfl (by decide) rfl ?_
        refine r_iconst C dX12_isWord_37 ?_
        refine r_istore_n C [(3, i9 0), (2, i9 1), (0, rf G 174), (1, sf G 37)] dX12_isWord_38 rfl (by decide) rfl ?_
        refine ss_wide (k' := 0) (n' := 0) (by decide) (by decide) ?_
        refine ss_ls [(0, rf G 174), (1, sf G 37), (2, i9 1), (3, i9 0)] [2, 3, 1, 0] rfl ?_
        exact s_X12_isWord_174_s37_c39 C  1 0 d
theorem dX12_deeper_0 : decode cX12_deeper 0 = .ok (.aload_n 0, 1) := by decide +kernel
theorem dX12_deeper_1 : decode cX12_deeper 1 = .ok (.getfield 235, 3) := by decide +kernel
theorem dX12_deeper_4 : decode cX12_deeper 4 = .ok (.bipush 8, 2) := by decide +kernel
theorem dX12_deeper_6 : decode cX12_deeper 6 = .ok (.if_icmp .ne 8, 3) := by decide +kernel
theorem dX12_deeper_9 : decode cX12_deeper 9 = .ok (.aload_n 0, 1) := by decide +kernel
theorem dX12_deeper_10 : decode cX12_deeper 10 = .ok (.iconst 5, 1) := by decide +kernel
theorem dX12_deeper_11 : decode cX12_deeper 11 = .ok (.invokevirtual 176, 3) := by decide +kernel
theorem dX12_deeper_14 : decode cX12_deeper 14 = .ok (.aload_n 0, 1) := by decide +kernel
theorem dX12_deeper_15 : decode cX12_deeper 15 = .ok (.dup, 1) := by decide +kernel
theorem dX12_deeper_16 : decode cX12_deeper 16 = .ok (.getfield 235, 3) := by decide +kernel
theorem dX12_deeper_19 : decode cX12_deeper 19 = .ok (.iconst 1, 1) := by decide +kernel
theorem dX12_deeper_20 : decode cX12_deeper 20 = .ok (.iadd, 1) := by decide +kernel
theorem dX12_deeper_21 : decode cX12_deeper 21 = .ok (.putfield 235, 3) := by decide +kernel
theorem dX12_deeper_24 : decode cX12_deeper 24 = .ok (.aload_n 0, 1) := by decide +kernel
theorem dX12_deeper_25 : decode cX12_deeper 25 = .ok (.getfield 160, 3) := by decide +kernel
theorem dX12_deeper_28 : decode cX12_deeper 28 = .ok (.ifCond .ne 7, 3) := by decide +kernel
theorem dX12_deeper_31 : decode cX12_deeper 31 = .ok (.aload_n 0, 1) := by decide +kernel
theorem dX12_deeper_32 : decode cX12_deeper 32 = .ok (.invokevirtual 180, 3) := by decide +kernel
theorem dX12_deeper_35 : decode cX12_deeper 35 = .ok (.return_, 1) := by decide +kernel
abbrev z_X12_deeper_174 : Z9 := (none, 0, 0, 0, 3, 42)
def m_X12_deeper_174_c14 (d : D9) : Option R9 := pf d 174 19 ((d 174 19) + 1) (fun d1 => if w32 (d1 174 13) ≠ 0 then rt 0 d1 else cl (m_X12_next_174 d1) (fun r2 d3 => rt 0 d3))
def m_X12_deeper_174 (d : D9) : Option R9 := if w32 (d 174 19) ≠ w32 8 then m_X12_deeper_174_c14   d else cl (m_X12_blames_174 5 d) (fun r1 d2 => m_X12_deeper_174_c14   d2)
set_option maxRecDepth 100000 in
theorem s_X12_deeper_174_c14 {G : G9} {X : X9} (C : CX G X cX12_deeper 1 RX12 [] z_X12_deeper_174) : ∀ (d : D9), SS G X 1 0 0 14 [(0, rf G 174)] [] d (m_X12_deeper_174_c14   d) := by
  intro  d
  unfold m_X12_deeper_174_c14
  refine r_aload_n C 0 dX12_deeper_14 rfl rfl ?_
  refine r_dup C dX12_deeper_15 rfl ?_
  refine r_getI C dX12_deeper_16 fl_X12_235 la_174 ly_174 rfl ?_
  refine r_iconst C dX12_deeper_19 ?_
  refine r_iadd C dX12_deeper_20 ?_
  refine r_putI C dX12_deeper_21 fp_X12_235 la_174 ly_174 rfl (fun d1 => ?_)
  refine r_aload_n C 0 dX12_deeper_24 rfl rfl ?_
  refine r_getI C dX12_deeper_25 fl_X12_160 la_174 ly_174 rfl ?_
  refine r_if_ne C (b := 0) 35 dX12_deeper_28 (by decide) (fun _ => ?_) (fun _ => ?_)
  · exact r_vret C dX12_deeper_35 (by decide) (by decide)
  · refine r_aload_n C 0 dX12_deeper_31 rfl rfl ?_
    refine r_callV C [rf G 174] dX12_deeper_32 (t_X12_next_174 C.h1 C.h2 d1) mw_X12_180 mv_X12_next la_174 ly_174 rfl (by decide) (by decide) (by decide) rfl rfl (Nat.le_of_ble_eq_true rfl) (fun r2 d3 => ?_)
    show SS G X 1 _ _ 35 [(0, rf G 174)] [] d3 _
    exact r_vret C dX12_deeper_35 (by decide) (by decide)
set_option maxRecDepth 100000 in
theorem t_X12_deeper_174 {G : G9} {l : Launch} (h1 : va_D (A9 G) (wl G (fun _ _ => 0))) (h2 : l.stackTraces = false) (d : D9) : MT G l yX12_deeper cX12_deeper 1 z_X12_deeper_174 [rf G 174] d (m_X12_deeper_174  d) := by
  refine mt_of (own := RX12) (by decide) rfl (Nat.le_of_ble_eq_true rfl) h1 h2 [(0, rf G 174)] rfl (fun X hX C => ?_)
  unfold m_X12_deeper_174
  refine r_aload_n C 0 dX12_deeper_0 rfl rfl ?_
  refine r_getI C dX12_deeper_1 fl_X12_235 la_174 ly_174 rfl ?_
  refine r_bipush C dX12_deeper_4 rfl ?_
  refine r_icmp_ne C 14 dX12_deeper_6 (by decide) (fun _ => ?_) (fun _ => ?_)
  · refine ss_wide (k' := 0) (n' := 0) (by decide) (by decide) ?_
    refine ss_ls [(0, rf G 174)] [0] rfl ?_
    exact s_X12_deeper_174_c14 C   d
  · refine r_aload_n C 0 dX12_deeper_9 rfl rfl ?_
    refine r_iconst C dX12_deeper_10 ?_
    refine r_callV C [i9 5, rf G 174] dX12_deeper_11 (t_X12_blames_174 C.h1 C.h2 5 d) mw_X12_176 mv_X12_blames la_174 ly_174 rfl (by decide) (by decide) (by decide) rfl rfl (Nat.le_of_ble_eq_true rfl) (fun r1 d2 => ?_)
    show SS G X 1 _ _ 14 [(0, rf G 174)] [] d2 _
    refine ss_wide (k' := 0) (n' := 0) (by decide) (by decide) ?_
    refine ss_ls [(0, rf G 174)] [0] rfl ?_
    exact s_X12_deeper_174_c14 C   d2
theorem dX12_readFact_0 : decode cX12_readFact 0 = .ok (.aload_n 0, 1) := by decide +kernel
theorem dX12_readFact_1 : decode cX12_readFact 1 = .ok (.getfield 160, 3) := by decide +kernel
theorem dX12_readFact_4 : decode cX12_readFact 4 = .ok (.ifCond .eq 4, 3) := by decide +kernel
theorem dX12_readFact_7 : decode cX12_readFact 7 = .ok (.return_, 1) := by decide +kernel
theorem dX12_readFact_8 : decode cX12_readFact 8 = .ok (.aload_n 0, 1) := by decide +kernel
theorem dX12_readFact_9 : decode cX12_readFact 9 = .ok (.ldc 238, 2) := by decide +kernel
theorem dX12_readFact_11 : decode cX12_readFact 11 = .ok (.invokevirtual 183, 3) := by decide +kernel
theorem dX12_readFact_14 : decode cX12_readFact 14 = .ok (.ifCond .eq 28, 3) := by decide +kernel
theorem dX12_readFact_17 : decode cX12_readFact 17 = .ok (.aload_n 0, 1) := by decide +kernel
theorem dX12_readFact_18 : decode cX12_readFact 18 = .ok (.invokevirtual 240, 3) := by decide +kernel
theorem dX12_readFact_21 : decode cX12_readFact 21 = .ok (.aload_n 0, 1) := by decide +kernel
theorem dX12_readFact_22 : decode cX12_readFact 22 = .ok (.invokevirtual 243, 3) := by decide +kernel
theorem dX12_readFact_25 : decode cX12_readFact 25 = .ok (.aload_n 0, 1) := by decide +kernel
theorem dX12_readFact_26 : decode cX12_readFact 26 = .ok (.dup, 1) := by decide +kernel
theorem dX12_readFact_27 : decode cX12_readFact 27 = .ok (.getfield 235, 3) := by decide +kernel
theorem dX12_readFact_30 : decode cX12_readFact 30 = .ok (.iconst 1, 1) := by decide +kernel
theorem dX12_readFact_31 : decode cX12_readFact 31 = .ok (.isub, 1) := by decide +kernel
theorem dX12_readFact_32 : decode cX12_readFact 32 = .ok (.putfield 235, 3) := by decide +kernel
theorem dX12_readFact_35 : decode cX12_readFact 35 = .ok (.aload_n 0, 1) := by decide +kernel
theorem dX12_readFact_36 : decode cX12_readFact 36 = .ok (.bipush 7, 2) := by decide +kernel
theorem dX12_readFact_38 : decode cX12_readFact 38 = .ok (.invokevirtual 246, 3) := by decide +kernel
theorem dX12_readFact_41 : decode cX12_readFact 41 = .ok (.return_, 1) := by decide +kernel
theorem dX12_readFact_42 : decode cX12_readFact 42 = .ok (.aload_n 0, 1) := by decide +kernel
theorem dX12_readFact_43 : decode cX12_readFact 43 = .ok (.getfield 145, 3) := by decide +kernel
theorem dX12_readFact_46 : decode cX12_readFact 46 = .ok (.iconst 5, 1) := by decide +kernel
theorem dX12_readFact_47 : decode cX12_readFact 47 = .ok (.if_icmp .ne 47, 3) := by decide +kernel
theorem dX12_readFact_50 : decode cX12_readFact 50 = .ok (.aload_n 0, 1) := by decide +kernel
theorem dX12_readFact_51 : decode cX12_readFact 51 = .ok (.invokevirtual 240, 3) := by decide +kernel
theorem dX12_readFact_54 : decode cX12_readFact 54 = .ok (.aload_n 0, 1) := by decide +kernel
theorem dX12_readFact_55 : decode cX12_readFact 55 = .ok (.invokevirtual 249, 3) := by decide +kernel
theorem dX12_readFact_58 : decode cX12_readFact 58 = .ok (.aload_n 0, 1) := by decide +kernel
theorem dX12_readFact_59 : decode cX12_readFact 59 = .ok (.getfield 145, 3) := by decide +kernel
theorem dX12_readFact_62 : decode cX12_readFact 62 = .ok (.bipush 6, 2) := by decide +kernel
theorem dX12_readFact_64 : decode cX12_readFact 64 = .ok (.if_icmp .eq 8, 3) := by decide +kernel
theorem dX12_readFact_67 : decode cX12_readFact 67 = .ok (.aload_n 0, 1) := by decide +kernel
theorem dX12_readFact_68 : decode cX12_readFact 68 = .ok (.iconst 2, 1) := by decide +kernel
theorem dX12_readFact_69 : decode cX12_readFact 69 = .ok (.invokevirtual 176, 3) := by decide +kernel
theorem dX12_readFact_72 : decode cX12_readFact 72 = .ok (.aload_n 0, 1) := by decide +kernel
theorem dX12_readFact_73 : decode cX12_readFact 73 = .ok (.getfield 160, 3) := by decide +kernel
theorem dX12_readFact_76 : decode cX12_readFact 76 = .ok (.ifCond .ne 7, 3) := by decide +kernel
theorem dX12_readFact_79 : decode cX12_readFact 79 = .ok (.aload_n 0, 1) := by decide +kernel
theorem dX12_readFact_80 : decode cX12_readFact 80 = .ok (.invokevirtual 180, 3) := by decide +kernel
theorem dX12_readFact_83 : decode cX12_readFact 83 = .ok (.aload_n 0, 1) := by decide +kernel
theorem dX12_readFact_84 : decode cX12_readFact 84 = .ok (.dup, 1) := by decide +kernel
theorem dX12_readFact_85 : decode cX12_readFact 85 = .ok (.getfield 235, 3) := by decide +kernel
theorem dX12_readFact_88 : decode cX12_readFact 88 = .ok (.iconst 1, 1) := by decide +kernel
theorem dX12_readFact_89 : decode cX12_readFact 89 = .ok (.isub, 1) := by decide +kernel
theorem dX12_readFact_90 : decode cX12_readFact 90 = .ok (.putfield 235, 3) := by decide +kernel
theorem dX12_readFact_93 : decode cX12_readFact 93 = .ok (.return_, 1) := by decide +kernel
theorem dX12_readFact_94 : decode cX12_readFact 94 = .ok (.aload_n 0, 1) := by decide +kernel
theorem dX12_readFact_95 : decode cX12_readFact 95 = .ok (.ldc 252, 2) := by decide +kernel
theorem dX12_readFact_97 : decode cX12_readFact 97 = .ok (.invokevirtual 183, 3) := by decide +kernel
theorem dX12_readFact_100 : decode cX12_readFact 100 = .ok (.ifCond .eq 8, 3) := by decide +kernel
theorem dX12_readFact_103 : decode cX12_readFact 103 = .ok (.bipush 100, 2) := by decide +kernel
theorem dX12_readFact_105 : decode cX12_readFact 105 = .ok (.goto 103, 3) := by decide +kernel
theorem dX12_readFact_108 : decode cX12_readFact 108 = .ok (.aload_n 0, 1) := by decide +kernel
theorem dX12_readFact_109 : decode cX12_readFact 109 = .ok (.ldc 254, 2) := by decide +kernel
theorem dX12_readFact_111 : decode cX12_readFact 111 = .ok (.invokevirtual 183, 3) := by decide +kernel
theorem dX12_readFact_114 : decode cX12_readFact 114 = .ok (.ifCond .eq 9, 3) := by decide +kernel
theorem dX12_readFact_117 : decode cX12_readFact 117 = .ok (.sipush 300, 3) := by decide +kernel
theorem dX12_readFact_120 : decode cX12_readFact 120 = .ok (.goto 88, 3) := by decide +kernel
theorem dX12_readFact_123 : decode cX12_readFact 123 = .ok (.aload_n 0, 1) := by decide +kernel
theorem dX12_readFact_124 : decode cX12_readFact 124 = .ok (.ldc_w 256, 3) := by decide +kernel
theorem dX12_readFact_127 : decode cX12_readFact 127 = .ok (.invokevirtual 183, 3) := by decide +kernel
theorem dX12_readFact_130 : decode cX12_readFact 130 = .ok (.ifCond .eq 7, 3) := by decide +kernel
theorem dX12_readFact_133 : decode cX12_readFact 133 = .ok (.iconst 1, 1) := by decide +kernel
theorem dX12_readFact_134 : decode cX12_readFact 134 = .ok (.goto 74, 3) := by decide +kernel
theorem dX12_readFact_137 : decode cX12_readFact 137 = .ok (.aload_n 0, 1) := by decide +kernel
theorem dX12_readFact_138 : decode cX12_readFact 138 = .ok (.ldc_w 258, 3) := by decide +kernel
theorem dX12_readFact_141 : decode cX12_readFact 141 = .ok (.invokevirtual 183, 3) := by decide +kernel
theorem dX12_readFact_144 : decode cX12_readFact 144 = .ok (.ifCond .eq 7, 3) := by decide +kernel
theorem dX12_readFact_147 : decode cX12_readFact 147 = .ok (.iconst 2, 1) := by decide +kernel
theorem dX12_readFact_148 : decode cX12_readFact 148 = .ok (.goto 60, 3) := by decide +kernel
theorem dX12_readFact_151 : decode cX12_readFact 151 = .ok (.aload_n 0, 1) := by decide +kernel
theorem dX12_readFact_152 : decode cX12_readFact 152 = .ok (.ldc 223, 2) := by decide +kernel
theorem dX12_readFact_154 : decode cX12_readFact 154 = .ok (.invokevirtual 183, 3) := by decide +kernel
theorem dX12_readFact_157 : decode cX12_readFact 157 = .ok (.ifCond .eq 7, 3) := by decide +kernel
theorem dX12_readFact_160 : decode cX12_readFact 160 = .ok (.iconst 3, 1) := by decide +kernel
theorem dX12_readFact_161 : decode cX12_readFact 161 = .ok (.goto 47, 3) := by decide +kernel
theorem dX12_readFact_164 : decode cX12_readFact 164 = .ok (.aload_n 0, 1) := by decide +kernel
theorem dX12_readFact_165 : decode cX12_readFact 165 = .ok (.ldc_w 260, 3) := by decide +kernel
theorem dX12_readFact_168 : decode cX12_readFact 168 = .ok (.invokevirtual 183, 3) := by decide +kernel
theorem dX12_readFact_171 : decode cX12_readFact 171 = .ok (.ifCond .eq 7, 3) := by decide +kernel
theorem dX12_readFact_174 : decode cX12_readFact 174 = .ok (.iconst 4, 1) := by decide +kernel
theorem dX12_readFact_175 : decode cX12_readFact 175 = .ok (.goto 33, 3) := by decide +kernel
theorem dX12_readFact_178 : decode cX12_readFact 178 = .ok (.aload_n 0, 1) := by decide +kernel
theorem dX12_readFact_179 : decode cX12_readFact 179 = .ok (.ldc_w 262, 3) := by decide +kernel
theorem dX12_readFact_182 : decode cX12_readFact 182 = .ok (.invokevirtual 183, 3) := by decide +kernel
theorem dX12_readFact_185 : decode cX12_readFact 185 = .ok (.ifCond .eq 7, 3) := by decide +kernel
theorem dX12_readFact_188 : decode cX12_readFact 188 = .ok (.iconst 5, 1) := by decide +kernel
theorem dX12_readFact_189 : decode cX12_readFact 189 = .ok (.goto 19, 3) := by decide +kernel
theorem dX12_readFact_192 : decode cX12_readFact 192 = .ok (.aload_n 0, 1) := by decide +kernel
theorem dX12_readFact_193 : decode cX12_readFact 193 = .ok (.ldc_w 264, 3) := by decide +kernel
theorem dX12_readFact_196 : decode cX12_readFact 196 = .ok (.invokevirtual 183, 3) := by decide +kernel
theorem dX12_readFact_199 : decode cX12_readFact 199 = .ok (.ifCond .eq 8, 3) := by decide +kernel
theorem dX12_readFact_202 : decode cX12_readFact 202 = .ok (.bipush 6, 2) := by decide +kernel
theorem dX12_readFact_204 : decode cX12_readFact 204 = .ok (.goto 4, 3) := by decide +kernel
theorem dX12_readFact_207 : decode cX12_readFact 207 = .ok (.iconst 0, 1) := by decide +kernel
theorem dX12_readFact_208 : decode cX12_readFact 208 = .ok (.istore_n 1, 1) := by decide +kernel
theorem dX12_readFact_209 : decode cX12_readFact 209 = .ok (.iload_n 1, 1) := by decide +kernel
theorem dX12_readFact_210 : decode cX12_readFact 210 = .ok (.ifCond .ne 8, 3) := by decide +kernel
theorem dX12_readFact_213 : decode cX12_readFact 213 = .ok (.aload_n 0, 1) := by decide +kernel
theorem dX12_readFact_214 : decode cX12_readFact 214 = .ok (.iconst 2, 1) := by decide +kernel
theorem dX12_readFact_215 : decode cX12_readFact 215 = .ok (.invokevirtual 176, 3) := by decide +kernel
theorem dX12_readFact_218 : decode cX12_readFact 218 = .ok (.aload_n 0, 1) := by decide +kernel
theorem dX12_readFact_219 : decode cX12_readFact 219 = .ok (.getfield 160, 3) := by decide +kernel
theorem dX12_readFact_222 : decode cX12_readFact 222 = .ok (.ifCond .eq 4, 3) := by decide +kernel
theorem dX12_readFact_225 : decode cX12_readFact 225 = .ok (.return_, 1) := by decide +kernel
theorem dX12_readFact_226 : decode cX12_readFact 226 = .ok (.aload_n 0, 1) := by decide +kernel
theorem dX12_readFact_227 : decode cX12_readFact 227 = .ok (.invokevirtual 180, 3) := by decide +kernel
theorem dX12_readFact_230 : decode cX12_readFact 230 = .ok (.iload_n 1, 1) := by decide +kernel
theorem dX12_readFact_231 : decode cX12_readFact 231 = .ok (.bipush 100, 2) := by decide +kernel
theorem dX12_readFact_233 : decode cX12_readFact 233 = .ok (.if_icmp .ne 16, 3) := by decide +kernel
theorem dX12_readFact_236 : decode cX12_readFact 236 = .ok (.iload_n 1, 1) := by decide +kernel
theorem dX12_readFact_237 : decode cX12_readFact 237 = .ok (.aload_n 0, 1) := by decide +kernel
theorem dX12_readFact_238 : decode cX12_readFact 238 = .ok (.iconst 1, 1) := by decide +kernel
theorem dX12_readFact_239 : decode cX12_readFact 239 = .ok (.bipush 99, 2) := by decide +kernel
theorem dX12_readFact_241 : decode cX12_readFact 241 = .ok (.invokevirtual 202, 3) := by decide +kernel
theorem dX12_readFact_244 : decode cX12_readFact 244 = .ok (.iadd, 1) := by decide +kernel
theorem dX12_readFact_245 : decode cX12_readFact 245 = .ok (.istore_n 1, 1) := by decide +kernel
theorem dX12_readFact_246 : decode cX12_readFact 246 = .ok (.goto 19, 3) := by decide +kernel
theorem dX12_readFact_249 : decode cX12_readFact 249 = .ok (.iload_n 1, 1) := by decide +kernel
theorem dX12_readFact_250 : decode cX12_readFact 250 = .ok (.sipush 300, 3) := by decide +kernel
theorem dX12_readFact_253 : decode cX12_readFact 253 = .ok (.if_icmp .ne 12, 3) := by decide +kernel
theorem dX12_readFact_256 : decode cX12_readFact 256 = .ok (.iload_n 1, 1) := by decide +kernel
theorem dX12_readFact_257 : decode cX12_readFact 257 = .ok (.aload_n 0, 1) := by decide +kernel
theorem dX12_readFact_258 : decode cX12_readFact 258 = .ok (.iconst 0, 1) := by decide +kernel
theorem dX12_readFact_259 : decode cX12_readFact 259 = .ok (.iconst 5, 1) := by decide +kernel
theorem dX12_readFact_260 : decode cX12_readFact 260 = .ok (.invokevirtual 202, 3) := by decide +kernel
theorem dX12_readFact_263 : decode cX12_readFact 263 = .ok (.iadd, 1) := by decide +kernel
theorem dX12_readFact_264 : decode cX12_readFact 264 = .ok (.istore_n 1, 1) := by decide +kernel
theorem dX12_readFact_265 : decode cX12_readFact 265 = .ok (.aload_n 0, 1) := by decide +kernel
theorem dX12_readFact_266 : decode cX12_readFact 266 = .ok (.iload_n 1, 1) := by decide +kernel
theorem dX12_readFact_267 : decode cX12_readFact 267 = .ok (.invokevirtual 246, 3) := by decide +kernel
theorem dX12_readFact_270 : decode cX12_readFact 270 = .ok (.return_, 1) := by decide +kernel
def m_X12_readFact_174_c265 (kF : D9 → Option R9) (v1 : Int) (d : D9) : Option R9 := cl (m_X12_puts_174 v1 d) (fun r1 d2 => rt 0 d2)
def m_X12_readFact_174_c218 (kF : D9 → Option R9) (v1 : Int) (d : D9) : Option R9 := if w32 (d 174 13) = 0 then cl (m_X12_next_174 d) (fun r1 d2 => if w32 v1 ≠ w32 100 then if w32 v1 ≠ w32 300 then m_X12_readFact_174_c265 kF  v1 d2 else cl (m_X12_number_174 0 5 d2) (fun r3 d4 => lt9v (v1 + r3) (fun a5 => m_X12_readFact_174_c265 kF  a5 d4)) else cl (m_X12_number_174 1 99 d2) (fun r6 d7 => lt9v (v1 + r6) (fun a8 => m_X12_readFact_174_c265 kF  a8 d7))) else rt 0 d
def m_X12_readFact_174_c208 (kF : D9 → Option R9) (s0 : Int) (d : D9) : Option R9 := if w32 s0 ≠ 0 then m_X12_readFact_174_c218 kF  s0 d else cl (m_X12_blames_174 2 d) (fun r1 d2 => m_X12_readFact_174_c218 kF  s0 d2)
def m_X12_readFact_174_c72 (kF : D9 → Option R9) (d : D9) : Option R9 := if w32 (d 174 13) ≠ 0 then pf d 174 19 ((d 174 19) - 1) (fun d1 => rt 0 d1) else cl (m_X12_next_174 d) (fun r2 d3 => pf d3 174 19 ((d3 174 19) - 1) (fun d4 => rt 0 d4))
def b_X12_readFact_174 (kF : D9 → Option R9) (d : D9) : Option R9 := if w32 (d 174 13) = 0 then cl (m_X12_isWord_174_s30 d) (fun r1 d2 => if w32 r1 = 0 then if w32 (d2 174 11) ≠ w32 5 then cl (m_X12_isWord_174_s31 d2) (fun r3 d4 => if w32 r3 = 0 then cl (m_X12_isWord_174_s32 d4) (fun r5 d6 => if w32 r5 = 0 then cl (m_X12_isWord_174_s33 d6) (fun r7 d8 => if w32 r7 = 0 then cl (m_X12_isWord_174_s34 d8) (fun r9 d10 => if w32 r9 = 0 then cl (m_X12_isWord_174_s22 d10) (fun r11 d12 => if w32 r11 = 0 then cl (m_X12_isWord_174_s35 d12) (fun r13 d14 => if w32 r13 = 0 then cl (m_X12_isWord_174_s36 d14) (fun r15 d16 => if w32 r15 = 0 then cl (m_X12_isWord_174_s37 d16) (fun r17 d18 => if w32 r17 = 0 then m_X12_readFact_174_c208 kF  0 d18 else m_X12_readFact_174_c208 kF  6 d18) else m_X12_readFact_174_c208 kF  5 d16) else m_X12_readFact_174_c208 kF  4 d14) else m_X12_readFact_174_c208 kF  3 d12) else m_X12_readFact_174_c208 kF  2 d10) else m_X12_readFact_174_c208 kF  1 d8) else m_X12_readFact_174_c208 kF  300 d6) else m_X12_readFact_174_c208 kF  100 d4) else cl (m_X12_deeper_174 d2) (fun r19 d20 => cl (m_X12_readTest_174 kF d20) (fun r21 d22 => if w32 (d22 174 11) = w32 6 then m_X12_readFact_174_c72 kF   d22 else cl (m_X12_blames_174 2 d22) (fun r23 d24 => m_X12_readFact_174_c72 kF   d24))) else cl (m_X12_deeper_174 d2) (fun r25 d26 => cl (kF d26) (fun r27 d28 => pf d28 174 19 ((d28 174 19) - 1) (fun d29 => cl (m_X12_puts_174 7 d29) (fun r30 d31 => rt 0 d31))))) else rt 0 d
def m_X12_readFact_174 : D9 → Option R9 := fix9 (fun _ => none) (fun k => b_X12_readFact_174 k) 12
def m_X12_readTest_174R (d : D9) : Option R9 := m_X12_readTest_174 m_X12_readFact_174 d
set_option maxRecDepth 100000 in
theorem s_X12_readFact_174_c265 {G : G9} {X : X9} {n9 : Nat} (C : CX G X cX12_readFact 2 RX12 [] (z_X12_readFact_174 (n9 + 1))) (kF : D9 → Option R9) (hkF : ∀ {l : Launch}, l.stackTraces = false → ∀ (d : D9), MT G l yX12_readFact cX12_readFact 2 (z_X12_readFact_174 n9) [rf G 174] d (kF d)) : ∀ (v1 : Int) (d : D9), SS G X 2 0 0 265 [(0, rf G 174), (1, i9 v1)] [] d (m_X12_readFact_174_c265 kF  v1 d) := by
  intro v1 d
  unfold m_X12_readFact_174_c265
  refine r_aload_n C 0 dX12_readFact_265 rfl rfl ?_
  refine r_iload_n C 1 dX12_readFact_266 rfl rfl ?_
  refine r_callV C [i9 v1, rf G 174] dX12_readFact_267 (t_X12_puts_174 C.h1 C.h2 v1 d) mw_X12_246 mv_X12_puts la_174 ly_174 rfl ⟨(show 1 + 1 ≤ (14 + 4 * (n9 + 1)) by omega), (show 8 + (2 + 11) + 0 ≤ (500 + 200 * (n9 + 1)) by omega)⟩ (Nat.le_of_ble_eq_true rfl) (Nat.le_of_ble_eq_true rfl) rfl rfl (Nat.le_of_ble_eq_true rfl) (fun r1 d2 => ?_)
  show SS G X 2 _ _ 270 [(0, rf G 174), (1, i9 v1)] [] d2 _
  exact r_vret C dX12_readFact_270 (Nat.le_of_ble_eq_true rfl) (Nat.le_of_ble_eq_true rfl)
set_option maxRecDepth 100000 in
theorem s_X12_readFact_174_c218 {G : G9} {X : X9} {n9 : Nat} (C : CX G X cX12_readFact 2 RX12 [] (z_X12_readFact_174 (n9 + 1))) (kF : D9 → Option R9) (hkF : ∀ {l : Launch}, l.stackTraces = false → ∀ (d : D9), MT G l yX12_readFact cX12_readFact 2 (z_X12_readFact_174 n9) [rf G 174] d (kF d)) : ∀ (v1 : Int) (d : D9), SS G X 2 0 0 218 [(0, rf G 174), (1, i9 v1)] [] d (m_X12_readFact_174_c218 kF  v1 d) := by
  intro v1 d
  unfold m_X12_readFact_174_c218
  refine r_aload_n C 0 dX12_readFact_218 rfl rfl ?_
  refine r_getI C dX12_readFact_219 fl_X12_160 la_174 ly_174 rfl ?_
  refine r_if_eq C (b := 0) 226 dX12_readFact_222 (by decide) (fun _ => ?_) (fun _ => ?_)
  · refine r_aload_n C 0 dX12_readFact_226 rfl rfl ?_
    refine r_callV C [rf G 174] dX12_readFact_227 (t_X12_next_174 C.h1 C.h2 d) mw_X12_180 mv_X12_next la_174 ly_174 rfl ⟨(show 2 + 1 ≤ (14 + 4 * (n9 + 1)) by omega), (show 8 + (2 + 11) + 21 ≤ (500 + 200 * (n9 + 1)) by omega)⟩ (Nat.le_of_ble_eq_true rfl) (Nat.le_of_ble_eq_true rfl) rfl rfl (Nat.le_of_ble_eq_true rfl) (fun r1 d2 => ?_)
    show SS G X 2 _ _ 230 [(0, rf G 174), (1, i9 v1)] [] d2 _
    refine r_iload_n C 1 dX12_readFact_230 rfl rfl ?_
    refine r_bipush C dX12_readFact_231 rfl ?_
    refine r_icmp_ne C 249 dX12_readFact_233 (by decide) (fun _ => ?_) (fun _ => ?_)
    · refine r_iload_n C 1 dX12_readFact_249 rfl rfl ?_
      refine r_sipush C dX12_readFact_250 rfl ?_
      refine r_icmp_ne C 265 dX12_readFact_253 (by decide) (fun _ => ?_) (fun _ => ?_)
      · refine ss_wide (k' := 0) (n' := 0) (Nat.le_of_ble_eq_true rfl) (Nat.le_of_ble_eq_true rfl) ?_
        refine ss_ls [(0, rf G 174), (1, i9 v1)] [0, 1] rfl ?_
        exact s_X12_readFact_174_c265 C kF hkF  v1 d2
      · refine r_iload_n C 1 dX12_readFact_256 rfl rfl ?_
        refine r_aload_n C 0 dX12_readFact_257 rfl rfl ?_
        refine r_iconst C dX12_readFact_258 ?_
        refine r_iconst C dX12_readFact_259 ?_
        refine r_callV C [i9 5, i9 0, rf G 174, i9 v1] dX12_readFact_260 (t_X12_number_174 C.h1 C.h2 0 5 d2) mw_X12_202 mv_X12_number la_174 ly_174 rfl ⟨(show 3 + 1 ≤ (14 + 4 * (n9 + 1)) by omega), (show 8 + (4 + 11) + 42 ≤ (500 + 200 * (n9 + 1)) by omega)⟩ (Nat.le_of_ble_eq_true rfl) (Nat.le_of_ble_eq_true rfl) rfl rfl (Nat.le_of_ble_eq_true rfl) (fun r3 d4 => ?_)
        show SS G X 2 _ _ 263 [(0, rf G 174), (1, i9 v1)] [i9 r3, i9 v1] d4 _
        refine r_iadd C dX12_readFact_263 ?_
        refine ss_lt (fun a5 => ?_)
        refine r_istore_n C [(1, i9 a5), (0, rf G 174)] dX12_readFact_264 rfl (by decide) rfl ?_
        refine ss_wide (k' := 0) (n' := 0) (Nat.le_of_ble_eq_true rfl) (Nat.le_of_ble_eq_true rfl) ?_
        refine ss_ls [(0, rf G 174), (1, i9 a5)] [1, 0] rfl ?_
        exact s_X12_readFact_174_c265 C kF hkF  a5 d4
    · refine r_iload_n C 1 dX12_readFact_236 rfl rfl ?_
      refine r_aload_n C 0 dX12_readFact_237 rfl rfl ?_
      refine r_iconst C dX12_readFact_238 ?_
      refine r_bipush C dX12_readFact_239 rfl ?_
      refine r_callV C [i9 99, i9 1, rf G 174, i9 v1] dX12_readFact_241 (t_X12_number_174 C.h1 C.h2 1 99 d2) mw_X12_202 mv_X12_number la_174 ly_174 rfl ⟨(show 3 + 1 ≤ (14 + 4 * (n9 + 1)) by omega), (show 8 + (4 + 11) + 42 ≤ (500 + 200 * (n9 + 1)) by omega)⟩ (Nat.le_of_ble_eq_true rfl) (Nat.le_of_ble_eq_true rfl) rfl rfl (Nat.le_of_ble_eq_true rfl) (fun r6 d7 => ?_)
      show SS G X 2 _ _ 244 [(0, rf G 174), (1, i9 v1)] [i9 r6, i9 v1] d7 _
      refine r_iadd C dX12_readFact_244 ?_
      refine ss_lt (fun a8 => ?_)
      refine r_istore_n C [(1, i9 a8), (0, rf G 174)] dX12_readFact_245 rfl (by decide) rfl ?_
      refine r_goto C 265 dX12_readFact_246 (by decide) ?_
      refine ss_wide (k' := 0) (n' := 0) (Nat.le_of_ble_eq_true rfl) (Nat.le_of_ble_eq_true rfl) ?_
      refine ss_ls [(0, rf G 174), (1, i9 a8)] [1, 0] rfl ?_
      exact s_X12_readFact_174_c265 C kF hkF  a8 d7
  · exact r_vret C dX12_readFact_225 (Nat.le_of_ble_eq_true rfl) (Nat.le_of_ble_eq_true rfl)
set_option maxRecDepth 100000 in
theorem s_X12_readFact_174_c208 {G : G9} {X : X9} {n9 : Nat} (C : CX G X cX12_readFact 2 RX12 [] (z_X12_readFact_174 (n9 + 1))) (kF : D9 → Option R9) (hkF : ∀ {l : Launch}, l.stackTraces = false → ∀ (d : D9), MT G l yX12_readFact cX12_readFact 2 (z_X12_readFact_174 n9) [rf G 174] d (kF d)) : ∀ (s0 : Int) (d : D9), SS G X 2 0 0 208 [(0, rf G 174)] [i9 s0] d (m_X12_readFact_174_c208 kF  s0 d) := by
  intro s0 d
  unfold m_X12_readFact_174_c208
  refine r_istore_n C [(1, i9 s0), (0, rf G 174)] dX12_readFact_208 rfl (by decide) rfl ?_
  refine r_iload_n C 0 dX12_readFact_209 rfl rfl ?_
  refine r_if_ne C (b := 0) 218 dX12_readFact_210 (by decide) (fun _ => ?_) (fun _ => ?_)
  · refine ss_wide (k' := 0) (n' := 0) (Nat.le_of_ble_eq_true rfl) (Nat.le_of_ble_eq_true rfl) ?_
    refine ss_ls [(0, rf G 174), (1, i9 s0)] [1, 0] rfl ?_
    exact s_X12_readFact_174_c218 C kF hkF  s0 d
  · refine r_aload_n C 1 dX12_readFact_213 rfl rfl ?_
    refine r_iconst C dX12_readFact_214 ?_
    refine r_callV C [i9 2, rf G 174] dX12_readFact_215 (t_X12_blames_174 C.h1 C.h2 2 d) mw_X12_176 mv_X12_blames la_174 ly_174 rfl ⟨(show 1 + 1 ≤ (14 + 4 * (n9 + 1)) by omega), (show 8 + (2 + 11) + 0 ≤ (500 + 200 * (n9 + 1)) by omega)⟩ (Nat.le_of_ble_eq_true rfl) (Nat.le_of_ble_eq_true rfl) rfl rfl (Nat.le_of_ble_eq_true rfl) (fun r1 d2 => ?_)
    show SS G X 2 _ _ 218 [(1, i9 s0), (0, rf G 174)] [] d2 _
    refine ss_wide (k' := 0) (n' := 0) (Nat.le_of_ble_eq_true rfl) (Nat.le_of_ble_eq_true rfl) ?_
    refine ss_ls [(0, rf G 174), (1, i9 s0)] [1, 0] rfl ?_
    exact s_X12_readFact_174_c218 C kF hkF  s0 d2
set_option maxRecDepth 100000 in
theorem s_X12_readFact_174_c72 {G : G9} {X : X9} {n9 : Nat} (C : CX G X cX12_readFact 2 RX12 [] (z_X12_readFact_174 (n9 + 1))) (kF : D9 → Option R9) (hkF : ∀ {l : Launch}, l.stackTraces = false → ∀ (d : D9), MT G l yX12_readFact cX12_readFact 2 (z_X12_readFact_174 n9) [rf G 174] d (kF d)) : ∀ (d : D9), SS G X 2 0 0 72 [(0, rf G 174)] [] d (m_X12_readFact_174_c72 kF   d) := by
  intro  d
  unfold m_X12_readFact_174_c72
  refine r_aload_n C 0 dX12_readFact_72 rfl rfl ?_
  refine r_getI C dX12_readFact_73 fl_X12_160 la_174 ly_174 rfl ?_
  refine r_if_ne C (b := 0) 83 dX12_readFact_76 (by decide) (fun _ => ?_) (fun _ => ?_)
  · refine r_aload_n C 0 dX12_readFact_83 rfl rfl ?_
    refine r_dup C dX12_readFact_84 rfl ?_
    refine r_getI C dX12_readFact_85 fl_X12_235 la_174 ly_174 rfl ?_
    refine r_iconst C dX12_readFact_88 ?_
    refine r_isub C dX12_readFact_89 ?_
    refine r_putI C dX12_readFact_90 fp_X12_235 la_174 ly_174 rfl (fun d1 => ?_)
    exact r_vret C dX12_readFact_93 (Nat.le_of_ble_eq_true rfl) (Nat.le_of_ble_eq_true rfl)
  · refine r_aload_n C 0 dX12_readFact_79 rfl rfl ?_
    refine r_callV C [rf G 174] dX12_readFact_80 (t_X12_next_174 C.h1 C.h2 d) mw_X12_180 mv_X12_next la_174 ly_174 rfl ⟨(show 2 + 1 ≤ (14 + 4 * (n9 + 1)) by omega), (show 8 + (2 + 11) + 21 ≤ (500 + 200 * (n9 + 1)) by omega)⟩ (Nat.le_of_ble_eq_true rfl) (Nat.le_of_ble_eq_true rfl) rfl rfl (Nat.le_of_ble_eq_true rfl) (fun r2 d3 => ?_)
    show SS G X 2 _ _ 83 [(0, rf G 174)] [] d3 _
    refine r_aload_n C 0 dX12_readFact_83 rfl rfl ?_
    refine r_dup C dX12_readFact_84 rfl ?_
    refine r_getI C dX12_readFact_85 fl_X12_235 la_174 ly_174 rfl ?_
    refine r_iconst C dX12_readFact_88 ?_
    refine r_isub C dX12_readFact_89 ?_
    refine r_putI C dX12_readFact_90 fp_X12_235 la_174 ly_174 rfl (fun d4 => ?_)
    exact r_vret C dX12_readFact_93 (Nat.le_of_ble_eq_true rfl) (Nat.le_of_ble_eq_true rfl)
set_option maxRecDepth 100000 in
theorem tb_X12_readFact_174 {G : G9} {l : Launch} (h1 : va_D (A9 G) (wl G (fun _ _ => 0))) (n9 : Nat) (kF : D9 → Option R9) (hkF : ∀ {l : Launch}, l.stackTraces = false → ∀ (d : D9), MT G l yX12_readFact cX12_readFact 2 (z_X12_readFact_174 n9) [rf G 174] d (kF d)) (h2 : l.stackTraces = false) (d : D9) : MT G l yX12_readFact cX12_readFact 2 (z_X12_readFact_174 (n9 + 1)) [rf G 174] d (b_X12_readFact_174 kF  d) := by
  refine mt_of (own := RX12) (by decide) rfl (Nat.le_of_ble_eq_true rfl) h1 h2 [(0, rf G 174)] rfl (fun X hX C => ?_)
  unfold b_X12_readFact_174
  refine r_aload_n C 0 dX12_readFact_0 rfl rfl ?_
  refine r_getI C dX12_readFact_1 fl_X12_160 la_174 ly_174 rfl ?_
  refine r_if_eq C (b := 0) 8 dX12_readFact_4 (by decide) (fun _ => ?_) (fun _ => ?_)
  · refine r_aload_n C 0 dX12_readFact_8 rfl rfl ?_
    refine r_ldcS C 30 dX12_readFact_9 rfl ?_
    refine r_callV C [sf G 30, rf G 174] dX12_readFact_11 (t_X12_isWord_174_s30 C.h1 C.h2 d) mw_X12_183 mv_X12_isWord la_174 ly_174 rfl ⟨(show 8 + 1 ≤ (14 + 4 * (n9 + 1)) by omega), (show 8 + (4 + 11) + 250 ≤ (500 + 200 * (n9 + 1)) by omega)⟩ (Nat.le_of_ble_eq_true rfl) (Nat.le_of_ble_eq_true rfl) rfl rfl (Nat.le_of_ble_eq_true rfl) (fun r1 d2 => ?_)
    show SS G X 2 _ _ 14 [(0, rf G 174)] [i9 r1] d2 _
    refine r_if_eq C (b := 0) 42 dX12_readFact_14 (by decide) (fun _ => ?_) (fun _ => ?_)
    · refine r_aload_n C 0 dX12_readFact_42 rfl rfl ?_
      refine r_getI C dX12_readFact_43 fl_X12_145 la_174 ly_174 rfl ?_
      refine r_iconst C dX12_readFact_46 ?_
      refine r_icmp_ne C 94 dX12_readFact_47 (by decide) (fun _ => ?_) (fun _ => ?_)
      · refine r_aload_n C 0 dX12_readFact_94 rfl rfl ?_
        refine r_ldcS C 31 dX12_readFact_95 rfl ?_
        refine r_callV C [sf G 31, rf G 174] dX12_readFact_97 (t_X12_isWord_174_s31 C.h1 C.h2 d2) mw_X12_183 mv_X12_isWord la_174 ly_174 rfl ⟨(show 8 + 1 ≤ (14 + 4 * (n9 + 1)) by omega), (show 8 + (4 + 11) + 250 ≤ (500 + 200 * (n9 + 1)) by omega)⟩ (Nat.le_of_ble_eq_true rfl) (Nat.le_of_ble_eq_true rfl) rfl rfl (Nat.le_of_ble_eq_true rfl) (fun r3 d4 => ?_)
        show SS G X 2 _ _ 100 [(0, rf G 174)] [i9 r3] d4 _
        refine r_if_eq C (b := 0) 108 dX12_readFact_100 (by decide) (fun _ => ?_) (fun _ => ?_)
        · refine r_aload_n C 0 dX12_readFact_108 rfl rfl ?_
          refine r_ldcS C 32 dX12_readFact_109 rfl ?_
          refine r_callV C [sf G 32, rf G 174] dX12_readFact_111 (t_X12_isWord_174_s32 C.h1 C.h2 d4) mw_X12_183 mv_X12_isWord la_174 ly_174 rfl ⟨(show 8 + 1 ≤ (14 + 4 * (n9 + 1)) by omega), (show 8 + (4 + 11) + 250 ≤ (500 + 200 * (n9 + 1)) by omega)⟩ (Nat.le_of_ble_eq_true rfl) (Nat.le_of_ble_eq_true rfl) rfl rfl (Nat.le_of_ble_eq_true rfl) (fun r5 d6 => ?_)
          show SS G X 2 _ _ 114 [(0, rf G 174)] [i9 r5] d6 _
          refine r_if_eq C (b := 0) 123 dX12_readFact_114 (by decide) (fun _ => ?_) (fun _ => ?_)
          · refine r_aload_n C 0 dX12_readFact_123 rfl rfl ?_
            refine r_ldcSW C 33 dX12_readFact_124 rfl ?_
            refine r_callV C [sf G 33, rf G 174] dX12_readFact_127 (t_X12_isWord_174_s33 C.h1 C.h2 d6) mw_X12_183 mv_X12_isWord la_174 ly_174 rfl ⟨(show 8 + 1 ≤ (14 + 4 * (n9 + 1)) by omega), (show 8 + (4 + 11) + 250 ≤ (500 + 200 * (n9 + 1)) by omega)⟩ (Nat.le_of_ble_eq_true rfl) (Nat.le_of_ble_eq_true rfl) rfl rfl (Nat.le_of_ble_eq_true rfl) (fun r7 d8 => ?_)
            show SS G X 2 _ _ 130 [(0, rf G 174)] [i9 r7] d8 _
            refine r_if_eq C (b := 0) 137 dX12_readFact_130 (by decide) (fun _ => ?_) (fun _ => ?_)
            · refine r_aload_n C 0 dX12_readFact_137 rfl rfl ?_
              refine r_ldcSW C 34 dX12_readFact_138 rfl ?_
              refine r_callV C [sf G 34, rf G 174] dX12_readFact_141 (t_X12_isWord_174_s34 C.h1 C.h2 d8) mw_X12_183 mv_X12_isWord la_174 ly_174 rfl ⟨(show 8 + 1 ≤ (14 + 4 * (n9 + 1)) by omega), (show 8 + (4 + 11) + 250 ≤ (500 + 200 * (n9 + 1)) by omega)⟩ (Nat.le_of_ble_eq_true rfl) (Nat.le_of_ble_eq_true rfl) rfl rfl (Nat.le_of_ble_eq_true rfl) (fun r9 d10 => ?_)
              show SS G X 2 _ _ 144 [(0, rf G 174)] [i9 r9] d10 _
              refine r_if_eq C (b := 0) 151 dX12_readFact_144 (by decide) (fun _ => ?_) (fun _ => ?_)
              · refine r_aload_n C 0 dX12_readFact_151 rfl rfl ?_
                refine r_ldcS C 22 dX12_readFact_152 rfl ?_
                refine r_callV C [sf G 22, rf G 174] dX12_readFact_154 (t_X12_isWord_174_s22 C.h1 C.h2 d10) mw_X12_183 mv_X12_isWord la_174 ly_174 rfl ⟨(show 8 + 1 ≤ (14 + 4 * (n9 + 1)) by omega), (show 8 + (4 + 11) + 250 ≤ (500 + 200 * (n9 + 1)) by omega)⟩ (Nat.le_of_ble_eq_true rfl) (Nat.le_of_ble_eq_true rfl) rfl rfl (Nat.le_of_ble_eq_true rfl) (fun r11 d12 => ?_)
                show SS G X 2 _ _ 157 [(0, rf G 174)] [i9 r11] d12 _
                refine r_if_eq C (b := 0) 164 dX12_readFact_157 (by decide) (fun _ => ?_) (fun _ => ?_)
                · refine r_aload_n C 0 dX12_readFact_164 rfl rfl ?_
                  refine r_ldcSW C 35 dX12_readFact_165 rfl ?_
                  refine r_callV C [sf G 35, rf G 174] dX12_readFact_168 (t_X12_isWord_174_s35 C.h1 C.h2 d12) mw_X12_183 mv_X12_isWord la_174 ly_174 rfl ⟨(show 8 + 1 ≤ (14 + 4 * (n9 + 1)) by omega), (show 8 + (4 + 11) + 250 ≤ (500 + 200 * (n9 + 1)) by omega)⟩ (Nat.le_of_ble_eq_true rfl) (Nat.le_of_ble_eq_true rfl) rfl rfl (Nat.le_of_ble_eq_true rfl) (fun r13 d14 => ?_)
                  show SS G X 2 _ _ 171 [(0, rf G 174)] [i9 r13] d14 _
                  refine r_if_eq C (b := 0) 178 dX12_readFact_171 (by decide) (fun _ => ?_) (fun _ => ?_)
                  · refine r_aload_n C 0 dX12_readFact_178 rfl rfl ?_
                    refine r_ldcSW C 36 dX12_readFact_179 rfl ?_
                    refine r_callV C [sf G 36, rf G 174] dX12_readFact_182 (t_X12_isWord_174_s36 C.h1 C.h2 d14) mw_X12_183 mv_X12_isWord la_174 ly_174 rfl ⟨(show 8 + 1 ≤ (14 + 4 * (n9 + 1)) by omega), (show 8 + (4 + 11) + 250 ≤ (500 + 200 * (n9 + 1)) by omega)⟩ (Nat.le_of_ble_eq_true rfl) (Nat.le_of_ble_eq_true rfl) rfl rfl (Nat.le_of_ble_eq_true rfl) (fun r15 d16 => ?_)
                    show SS G X 2 _ _ 185 [(0, rf G 174)] [i9 r15] d16 _
                    refine r_if_eq C (b := 0) 192 dX12_readFact_185 (by decide) (fun _ => ?_) (fun _ => ?_)
                    · refine r_aload_n C 0 dX12_readFact_192 rfl rfl ?_
                      refine r_ldcSW C 37 dX12_readFact_193 rfl ?_
                      refine r_callV C [sf G 37, rf G 174] dX12_readFact_196 (t_X12_isWord_174_s37 C.h1 C.h2 d16) mw_X12_183 mv_X12_isWord la_174 ly_174 rfl ⟨(show 8 + 1 ≤ (14 + 4 * (n9 + 1)) by omega), (show 8 + (4 + 11) + 250 ≤ (500 + 200 * (n9 + 1)) by omega)⟩ (Nat.le_of_ble_eq_true rfl) (Nat.le_of_ble_eq_true rfl) rfl rfl (Nat.le_of_ble_eq_true rfl) (fun r17 d18 => ?_)
                      show SS G X 2 _ _ 199 [(0, rf G 174)] [i9 r17] d18 _
                      refine r_if_eq C (b := 0) 207 dX12_readFact_199 (by decide) (fun _ => ?_) (fun _ => ?_)
                      · refine r_iconst C dX12_readFact_207 ?_
                        refine ss_wide (k' := 0) (n' := 0) (Nat.le_of_ble_eq_true rfl) (Nat.le_of_ble_eq_true rfl) ?_
                        refine ss_ls [(0, rf G 174)] [0] rfl ?_
                        exact s_X12_readFact_174_c208 C kF hkF  0 d18
                      · refine r_bipush C dX12_readFact_202 rfl ?_
                        refine r_goto C 208 dX12_readFact_204 (by decide) ?_
                        refine ss_wide (k' := 0) (n' := 0) (Nat.le_of_ble_eq_true rfl) (Nat.le_of_ble_eq_true rfl) ?_
                        refine ss_ls [(0, rf G 174)] [0] rfl ?_
                        exact s_X12_readFact_174_c208 C kF hkF  6 d18
                    · refine r_iconst C dX12_readFact_188 ?_
                      refine r_goto C 208 dX12_readFact_189 (by decide) ?_
                      refine ss_wide (k' := 0) (n' := 0) (Nat.le_of_ble_eq_true rfl) (Nat.le_of_ble_eq_true rfl) ?_
                      refine ss_ls [(0, rf G 174)] [0] rfl ?_
                      exact s_X12_readFact_174_c208 C kF hkF  5 d16
                  · refine r_iconst C dX12_readFact_174 ?_
                    refine r_goto C 208 dX12_readFact_175 (by decide) ?_
                    refine ss_wide (k' := 0) (n' := 0) (Nat.le_of_ble_eq_true rfl) (Nat.le_of_ble_eq_true rfl) ?_
                    refine ss_ls [(0, rf G 174)] [0] rfl ?_
                    exact s_X12_readFact_174_c208 C kF hkF  4 d14
                · refine r_iconst C dX12_readFact_160 ?_
                  refine r_goto C 208 dX12_readFact_161 (by decide) ?_
                  refine ss_wide (k' := 0) (n' := 0) (Nat.le_of_ble_eq_true rfl) (Nat.le_of_ble_eq_true rfl) ?_
                  refine ss_ls [(0, rf G 174)] [0] rfl ?_
                  exact s_X12_readFact_174_c208 C kF hkF  3 d12
              · refine r_iconst C dX12_readFact_147 ?_
                refine r_goto C 208 dX12_readFact_148 (by decide) ?_
                refine ss_wide (k' := 0) (n' := 0) (Nat.le_of_ble_eq_true rfl) (Nat.le_of_ble_eq_true rfl) ?_
                refine ss_ls [(0, rf G 174)] [0] rfl ?_
                exact s_X12_readFact_174_c208 C kF hkF  2 d10
            · refine r_iconst C dX12_readFact_133 ?_
              refine r_goto C 208 dX12_readFact_134 (by decide) ?_
              refine ss_wide (k' := 0) (n' := 0) (Nat.le_of_ble_eq_true rfl) (Nat.le_of_ble_eq_true rfl) ?_
              refine ss_ls [(0, rf G 174)] [0] rfl ?_
              exact s_X12_readFact_174_c208 C kF hkF  1 d8
          · refine r_sipush C dX12_readFact_117 rfl ?_
            refine r_goto C 208 dX12_readFact_120 (by decide) ?_
            refine ss_wide (k' := 0) (n' := 0) (Nat.le_of_ble_eq_true rfl) (Nat.le_of_ble_eq_true rfl) ?_
            refine ss_ls [(0, rf G 174)] [0] rfl ?_
            exact s_X12_readFact_174_c208 C kF hkF  300 d6
        · refine r_bipush C dX12_readFact_103 rfl ?_
          refine r_goto C 208 dX12_readFact_105 (by decide) ?_
          refine ss_wide (k' := 0) (n' := 0) (Nat.le_of_ble_eq_true rfl) (Nat.le_of_ble_eq_true rfl) ?_
          refine ss_ls [(0, rf G 174)] [0] rfl ?_
          exact s_X12_readFact_174_c208 C kF hkF  100 d4
      · refine r_aload_n C 0 dX12_readFact_50 rfl rfl ?_
        refine r_callV C [rf G 174] dX12_readFact_51 (t_X12_deeper_174 C.h1 C.h2 d2) mw_X12_240 mv_X12_deeper la_174 ly_174 rfl ⟨(show 3 + 1 ≤ (14 + 4 * (n9 + 1)) by omega), (show 8 + (1 + 11) + 42 ≤ (500 + 200 * (n9 + 1)) by omega)⟩ (Nat.le_of_ble_eq_true rfl) (Nat.le_of_ble_eq_true rfl) rfl rfl (Nat.le_of_ble_eq_true rfl) (fun r19 d20 => ?_)
        show SS G X 2 _ _ 54 [(0, rf G 174)] [] d20 _
        refine r_aload_n C 0 dX12_readFact_54 rfl rfl ?_
        refine r_callV C [rf G 174] dX12_readFact_55 (t_X12_readTest_174 C.h1 n9 kF hkF C.h2 d20) mw_X12_249 mv_X12_readTest la_174 ly_174 rfl ⟨(show (16 + 4 * n9) + 1 ≤ (14 + 4 * (n9 + 1)) by omega), (show 8 + (1 + 11) + (600 + 200 * n9) ≤ (500 + 200 * (n9 + 1)) by omega)⟩ (Nat.le_of_ble_eq_true rfl) (Nat.le_of_ble_eq_true rfl) rfl rfl (Nat.le_of_ble_eq_true rfl) (fun r21 d22 => ?_)
        show SS G X 2 _ _ 58 [(0, rf G 174)] [] d22 _
        refine r_aload_n C 0 dX12_readFact_58 rfl rfl ?_
        refine r_getI C dX12_readFact_59 fl_X12_145 la_174 ly_174 rfl ?_
        refine r_bipush C dX12_readFact_62 rfl ?_
        refine r_icmp_eq C 72 dX12_readFact_64 (by decide) (fun _ => ?_) (fun _ => ?_)
        · refine ss_wide (k' := 0) (n' := 0) (Nat.le_of_ble_eq_true rfl) (Nat.le_of_ble_eq_true rfl) ?_
          refine ss_ls [(0, rf G 174)] [0] rfl ?_
          exact s_X12_readFact_174_c72 C kF hkF   d22
        · refine r_aload_n C 0 dX12_readFact_67 rfl rfl ?_
          refine r_iconst C dX12_readFact_68 ?_
          refine r_callV C [i9 2, rf G 174] dX12_readFact_69 (t_X12_blames_174 C.h1 C.h2 2 d22) mw_X12_176 mv_X12_blames la_174 ly_174 rfl ⟨(show 1 + 1 ≤ (14 + 4 * (n9 + 1)) by omega), (show 8 + (2 + 11) + 0 ≤ (500 + 200 * (n9 + 1)) by omega)⟩ (Nat.le_of_ble_eq_true rfl) (Nat.le_of_ble_eq_true rfl) rfl rfl (Nat.le_of_ble_eq_true rfl) (fun r23 d24 => ?_)
          show SS G X 2 _ _ 72 [(0, rf G 174)] [] d24 _
          refine ss_wide (k' := 0) (n' := 0) (Nat.le_of_ble_eq_true rfl) (Nat.le_of_ble_eq_true rfl) ?_
          refine ss_ls [(0, rf G 174)] [0] rfl ?_
          exact s_X12_readFact_174_c72 C kF hkF   d24
    · refine r_aload_n C 0 dX12_readFact_17 rfl rfl ?_
      refine r_callV C [rf G 174] dX12_readFact_18 (t_X12_deeper_174 C.h1 C.h2 d2) mw_X12_240 mv_X12_deeper la_174 ly_174 rfl ⟨(show 3 + 1 ≤ (14 + 4 * (n9 + 1)) by omega), (show 8 + (1 + 11) + 42 ≤ (500 + 200 * (n9 + 1)) by omega)⟩ (Nat.le_of_ble_eq_true rfl) (Nat.le_of_ble_eq_true rfl) rfl rfl (Nat.le_of_ble_eq_true rfl) (fun r25 d26 => ?_)
      show SS G X 2 _ _ 21 [(0, rf G 174)] [] d26 _
      refine r_aload_n C 0 dX12_readFact_21 rfl rfl ?_
      refine r_callV C [rf G 174] dX12_readFact_22 (hkF C.h2 d26) mw_X12_243 mv_X12_readFact la_174 ly_174 rfl ⟨(show (14 + 4 * n9) + 1 ≤ (14 + 4 * (n9 + 1)) by omega), (show 8 + (2 + 11) + (500 + 200 * n9) ≤ (500 + 200 * (n9 + 1)) by omega)⟩ (Nat.le_of_ble_eq_true rfl) (Nat.le_of_ble_eq_true rfl) rfl rfl (Nat.le_of_ble_eq_true rfl) (fun r27 d28 => ?_)
      show SS G X 2 _ _ 25 [(0, rf G 174)] [] d28 _
      refine r_aload_n C 0 dX12_readFact_25 rfl rfl ?_
      refine r_dup C dX12_readFact_26 rfl ?_
      refine r_getI C dX12_readFact_27 fl_X12_235 la_174 ly_174 rfl ?_
      refine r_iconst C dX12_readFact_30 ?_
      refine r_isub C dX12_readFact_31 ?_
      refine r_putI C dX12_readFact_32 fp_X12_235 la_174 ly_174 rfl (fun d29 => ?_)
      refine r_aload_n C 0 dX12_readFact_35 rfl rfl ?_
      refine r_bipush C dX12_readFact_36 rfl ?_
      refine r_callV C [i9 7, rf G 174] dX12_readFact_38 (t_X12_puts_174 C.h1 C.h2 7 d29) mw_X12_246 mv_X12_puts la_174 ly_174 rfl ⟨(show 1 + 1 ≤ (14 + 4 * (n9 + 1)) by omega), (show 8 + (2 + 11) + 0 ≤ (500 + 200 * (n9 + 1)) by omega)⟩ (Nat.le_of_ble_eq_true rfl) (Nat.le_of_ble_eq_true rfl) rfl rfl (Nat.le_of_ble_eq_true rfl) (fun r30 d31 => ?_)
      show SS G X 2 _ _ 41 [(0, rf G 174)] [] d31 _
      exact r_vret C dX12_readFact_41 (Nat.le_of_ble_eq_true rfl) (Nat.le_of_ble_eq_true rfl)
  · exact r_vret C dX12_readFact_7 (Nat.le_of_ble_eq_true rfl) (Nat.le_of_ble_eq_true rfl)
theorem t_X12_readFact_174_n {G : G9} (h1 : va_D (A9 G) (wl G (fun _ _ => 0))) : ∀ (n9 : Nat) {l : Launch}, l.stackTraces = false → ∀ (d : D9), MT G l yX12_readFact cX12_readFact 2 (z_X12_readFact_174 n9) [rf G 174] d (fix9 (fun _ => none) (fun k => b_X12_readFact_174 k) n9 d)
  | 0, _, _, _ => fun r h => nomatch h
  | n9 + 1, _, h2, d => tb_X12_readFact_174 h1 n9 _ (t_X12_readFact_174_n h1 n9) h2 d
theorem t_X12_readTest_174R {G : G9} {l : Launch} (h1 : va_D (A9 G) (wl G (fun _ _ => 0))) (h2 : l.stackTraces = false) (d : D9) : MT G l yX12_readTest cX12_readTest 1 (z_X12_readTest_174 12) [rf G 174] d (m_X12_readTest_174R d) := t_X12_readTest_174 h1 12 _ (t_X12_readFact_174_n h1 12) h2 d
theorem dX12_readRule_0 : decode cX12_readRule 0 = .ok (.aload_n 0, 1) := by decide +kernel
theorem dX12_readRule_1 : decode cX12_readRule 1 = .ok (.ldc_w 273, 3) := by decide +kernel
theorem dX12_readRule_4 : decode cX12_readRule 4 = .ok (.invokevirtual 183, 3) := by decide +kernel
theorem dX12_readRule_7 : decode cX12_readRule 7 = .ok (.ifCond .ne 11, 3) := by decide +kernel
theorem dX12_readRule_10 : decode cX12_readRule 10 = .ok (.aload_n 0, 1) := by decide +kernel
theorem dX12_readRule_11 : decode cX12_readRule 11 = .ok (.iconst 2, 1) := by decide +kernel
theorem dX12_readRule_12 : decode cX12_readRule 12 = .ok (.invokevirtual 176, 3) := by decide +kernel
theorem dX12_readRule_15 : decode cX12_readRule 15 = .ok (.goto 19, 3) := by decide +kernel
theorem dX12_readRule_18 : decode cX12_readRule 18 = .ok (.aload_n 0, 1) := by decide +kernel
theorem dX12_readRule_19 : decode cX12_readRule 19 = .ok (.getfield 33, 3) := by decide +kernel
theorem dX12_readRule_22 : decode cX12_readRule 22 = .ok (.iconst 0, 1) := by decide +kernel
theorem dX12_readRule_23 : decode cX12_readRule 23 = .ok (.iaload, 1) := by decide +kernel
theorem dX12_readRule_24 : decode cX12_readRule 24 = .ok (.bipush 12, 2) := by decide +kernel
theorem dX12_readRule_26 : decode cX12_readRule 26 = .ok (.if_icmp .ne 8, 3) := by decide +kernel
theorem dX12_readRule_29 : decode cX12_readRule 29 = .ok (.aload_n 0, 1) := by decide +kernel
theorem dX12_readRule_30 : decode cX12_readRule 30 = .ok (.iconst 4, 1) := by decide +kernel
theorem dX12_readRule_31 : decode cX12_readRule 31 = .ok (.invokevirtual 176, 3) := by decide +kernel
theorem dX12_readRule_34 : decode cX12_readRule 34 = .ok (.aload_n 0, 1) := by decide +kernel
theorem dX12_readRule_35 : decode cX12_readRule 35 = .ok (.getfield 160, 3) := by decide +kernel
theorem dX12_readRule_38 : decode cX12_readRule 38 = .ok (.ifCond .eq 4, 3) := by decide +kernel
theorem dX12_readRule_41 : decode cX12_readRule 41 = .ok (.return_, 1) := by decide +kernel
theorem dX12_readRule_42 : decode cX12_readRule 42 = .ok (.aload_n 0, 1) := by decide +kernel
theorem dX12_readRule_43 : decode cX12_readRule 43 = .ok (.invokevirtual 180, 3) := by decide +kernel
theorem dX12_readRule_46 : decode cX12_readRule 46 = .ok (.aload_n 0, 1) := by decide +kernel
theorem dX12_readRule_47 : decode cX12_readRule 47 = .ok (.ldc_w 275, 3) := by decide +kernel
theorem dX12_readRule_50 : decode cX12_readRule 50 = .ok (.invokevirtual 183, 3) := by decide +kernel
theorem dX12_readRule_53 : decode cX12_readRule 53 = .ok (.ifCond .eq 7, 3) := by decide +kernel
theorem dX12_readRule_56 : decode cX12_readRule 56 = .ok (.iconst 0, 1) := by decide +kernel
theorem dX12_readRule_57 : decode cX12_readRule 57 = .ok (.goto 32, 3) := by decide +kernel
theorem dX12_readRule_60 : decode cX12_readRule 60 = .ok (.aload_n 0, 1) := by decide +kernel
theorem dX12_readRule_61 : decode cX12_readRule 61 = .ok (.ldc_w 277, 3) := by decide +kernel
theorem dX12_readRule_64 : decode cX12_readRule 64 = .ok (.invokevirtual 183, 3) := by decide +kernel
theorem dX12_readRule_67 : decode cX12_readRule 67 = .ok (.ifCond .eq 7, 3) := by decide +kernel
theorem dX12_readRule_70 : decode cX12_readRule 70 = .ok (.iconst 1, 1) := by decide +kernel
theorem dX12_readRule_71 : decode cX12_readRule 71 = .ok (.goto 18, 3) := by decide +kernel
theorem dX12_readRule_74 : decode cX12_readRule 74 = .ok (.aload_n 0, 1) := by decide +kernel
theorem dX12_readRule_75 : decode cX12_readRule 75 = .ok (.ldc_w 279, 3) := by decide +kernel
theorem dX12_readRule_78 : decode cX12_readRule 78 = .ok (.invokevirtual 183, 3) := by decide +kernel
theorem dX12_readRule_81 : decode cX12_readRule 81 = .ok (.ifCond .eq 7, 3) := by decide +kernel
theorem dX12_readRule_84 : decode cX12_readRule 84 = .ok (.iconst 2, 1) := by decide +kernel
theorem dX12_readRule_85 : decode cX12_readRule 85 = .ok (.goto 4, 3) := by decide +kernel
theorem dX12_readRule_88 : decode cX12_readRule 88 = .ok (.iconst (-1), 1) := by decide +kernel
theorem dX12_readRule_89 : decode cX12_readRule 89 = .ok (.istore_n 1, 1) := by decide +kernel
theorem dX12_readRule_90 : decode cX12_readRule 90 = .ok (.iload_n 1, 1) := by decide +kernel
theorem dX12_readRule_91 : decode cX12_readRule 91 = .ok (.iconst (-1), 1) := by decide +kernel
theorem dX12_readRule_92 : decode cX12_readRule 92 = .ok (.if_icmp .ne 8, 3) := by decide +kernel
theorem dX12_readRule_95 : decode cX12_readRule 95 = .ok (.aload_n 0, 1) := by decide +kernel
theorem dX12_readRule_96 : decode cX12_readRule 96 = .ok (.iconst 2, 1) := by decide +kernel
theorem dX12_readRule_97 : decode cX12_readRule 97 = .ok (.invokevirtual 176, 3) := by decide +kernel
theorem dX12_readRule_100 : decode cX12_readRule 100 = .ok (.aload_n 0, 1) := by decide +kernel
theorem dX12_readRule_101 : decode cX12_readRule 101 = .ok (.getfield 160, 3) := by decide +kernel
theorem dX12_readRule_104 : decode cX12_readRule 104 = .ok (.ifCond .eq 4, 3) := by decide +kernel
theorem dX12_readRule_107 : decode cX12_readRule 107 = .ok (.return_, 1) := by decide +kernel
theorem dX12_readRule_108 : decode cX12_readRule 108 = .ok (.aload_n 0, 1) := by decide +kernel
theorem dX12_readRule_109 : decode cX12_readRule 109 = .ok (.invokevirtual 180, 3) := by decide +kernel
theorem dX12_readRule_112 : decode cX12_readRule 112 = .ok (.aload_n 0, 1) := by decide +kernel
theorem dX12_readRule_113 : decode cX12_readRule 113 = .ok (.iload_n 1, 1) := by decide +kernel
theorem dX12_readRule_114 : decode cX12_readRule 114 = .ok (.invokevirtual 246, 3) := by decide +kernel
theorem dX12_readRule_117 : decode cX12_readRule 117 = .ok (.aload_n 0, 1) := by decide +kernel
theorem dX12_readRule_118 : decode cX12_readRule 118 = .ok (.getfield 232, 3) := by decide +kernel
theorem dX12_readRule_121 : decode cX12_readRule 121 = .ok (.istore_n 2, 1) := by decide +kernel
theorem dX12_readRule_122 : decode cX12_readRule 122 = .ok (.aload_n 0, 1) := by decide +kernel
theorem dX12_readRule_123 : decode cX12_readRule 123 = .ok (.iconst 0, 1) := by decide +kernel
theorem dX12_readRule_124 : decode cX12_readRule 124 = .ok (.invokevirtual 246, 3) := by decide +kernel
theorem dX12_readRule_127 : decode cX12_readRule 127 = .ok (.aload_n 0, 1) := by decide +kernel
theorem dX12_readRule_128 : decode cX12_readRule 128 = .ok (.ldc_w 281, 3) := by decide +kernel
theorem dX12_readRule_131 : decode cX12_readRule 131 = .ok (.invokevirtual 183, 3) := by decide +kernel
theorem dX12_readRule_134 : decode cX12_readRule 134 = .ok (.ifCond .eq 11, 3) := by decide +kernel
theorem dX12_readRule_137 : decode cX12_readRule 137 = .ok (.aload_n 0, 1) := by decide +kernel
theorem dX12_readRule_138 : decode cX12_readRule 138 = .ok (.invokevirtual 180, 3) := by decide +kernel
theorem dX12_readRule_141 : decode cX12_readRule 141 = .ok (.aload_n 0, 1) := by decide +kernel
theorem dX12_readRule_142 : decode cX12_readRule 142 = .ok (.invokevirtual 249, 3) := by decide +kernel
theorem dX12_readRule_145 : decode cX12_readRule 145 = .ok (.aload_n 0, 1) := by decide +kernel
theorem dX12_readRule_146 : decode cX12_readRule 146 = .ok (.invokevirtual 211, 3) := by decide +kernel
theorem dX12_readRule_149 : decode cX12_readRule 149 = .ok (.aload_n 0, 1) := by decide +kernel
theorem dX12_readRule_150 : decode cX12_readRule 150 = .ok (.getfield 160, 3) := by decide +kernel
theorem dX12_readRule_153 : decode cX12_readRule 153 = .ok (.ifCond .eq 4, 3) := by decide +kernel
theorem dX12_readRule_156 : decode cX12_readRule 156 = .ok (.return_, 1) := by decide +kernel
theorem dX12_readRule_157 : decode cX12_readRule 157 = .ok (.aload_n 0, 1) := by decide +kernel
theorem dX12_readRule_158 : decode cX12_readRule 158 = .ok (.getfield 33, 3) := by decide +kernel
theorem dX12_readRule_161 : decode cX12_readRule 161 = .ok (.iload_n 2, 1) := by decide +kernel
theorem dX12_readRule_162 : decode cX12_readRule 162 = .ok (.aload_n 0, 1) := by decide +kernel
theorem dX12_readRule_163 : decode cX12_readRule 163 = .ok (.getfield 232, 3) := by decide +kernel
theorem dX12_readRule_166 : decode cX12_readRule 166 = .ok (.iload_n 2, 1) := by decide +kernel
theorem dX12_readRule_167 : decode cX12_readRule 167 = .ok (.isub, 1) := by decide +kernel
theorem dX12_readRule_168 : decode cX12_readRule 168 = .ok (.iconst 1, 1) := by decide +kernel
theorem dX12_readRule_169 : decode cX12_readRule 169 = .ok (.isub, 1) := by decide +kernel
theorem dX12_readRule_170 : decode cX12_readRule 170 = .ok (.iastore, 1) := by decide +kernel
theorem dX12_readRule_171 : decode cX12_readRule 171 = .ok (.aload_n 0, 1) := by decide +kernel
theorem dX12_readRule_172 : decode cX12_readRule 172 = .ok (.getfield 33, 3) := by decide +kernel
theorem dX12_readRule_175 : decode cX12_readRule 175 = .ok (.iconst 0, 1) := by decide +kernel
theorem dX12_readRule_176 : decode cX12_readRule 176 = .ok (.dup2, 1) := by decide +kernel
theorem dX12_readRule_177 : decode cX12_readRule 177 = .ok (.iaload, 1) := by decide +kernel
theorem dX12_readRule_178 : decode cX12_readRule 178 = .ok (.iconst 1, 1) := by decide +kernel
theorem dX12_readRule_179 : decode cX12_readRule 179 = .ok (.iadd, 1) := by decide +kernel
theorem dX12_readRule_180 : decode cX12_readRule 180 = .ok (.iastore, 1) := by decide +kernel
theorem dX12_readRule_181 : decode cX12_readRule 181 = .ok (.return_, 1) := by decide +kernel
abbrev z_X12_readRule_174 : Z9 := (none, 0, 0, 0, 65, 3020)
def m_X12_readRule_174_c145 (v2 : Int) (d : D9) : Option R9 := cl (m_X12_stop_174 d) (fun r1 d2 => if w32 (d2 174 13) = 0 then sd d2 181 460 v2 (((d2 174 18) - v2) - 1) (fun d3 => ld d3 181 460 0 (fun t4 => sd d3 181 460 0 (t4 + 1) (fun d5 => rt 0 d5))) else rt 0 d2)
def m_X12_readRule_174_c100 (v1 : Int) (d : D9) : Option R9 := if w32 (d 174 13) = 0 then cl (m_X12_next_174 d) (fun r1 d2 => cl (m_X12_puts_174 v1 d2) (fun r3 d4 => lt9v (d4 174 18) (fun a5 => cl (m_X12_puts_174 0 d4) (fun r6 d7 => cl (m_X12_isWord_174_s29 d7) (fun r8 d9 => if w32 r8 = 0 then m_X12_readRule_174_c145  a5 d9 else cl (m_X12_next_174 d9) (fun r10 d11 => cl (m_X12_readTest_174R d11) (fun r12 d13 => m_X12_readRule_174_c145  a5 d13))))))) else rt 0 d
def m_X12_readRule_174_c89 (s0 : Int) (d : D9) : Option R9 := if w32 s0 ≠ w32 (-1) then m_X12_readRule_174_c100  s0 d else cl (m_X12_blames_174 2 d) (fun r1 d2 => m_X12_readRule_174_c100  s0 d2)
def m_X12_readRule_174_c34 (d : D9) : Option R9 := if w32 (d 174 13) = 0 then cl (m_X12_next_174 d) (fun r1 d2 => cl (m_X12_isWord_174_s26 d2) (fun r3 d4 => if w32 r3 = 0 then cl (m_X12_isWord_174_s27 d4) (fun r5 d6 => if w32 r5 = 0 then cl (m_X12_isWord_174_s28 d6) (fun r7 d8 => if w32 r7 = 0 then m_X12_readRule_174_c89  (-1) d8 else m_X12_readRule_174_c89  2 d8) else m_X12_readRule_174_c89  1 d6) else m_X12_readRule_174_c89  0 d4)) else rt 0 d
def m_X12_readRule_174 (d : D9) : Option R9 := cl (m_X12_isWord_174_s25 d) (fun r1 d2 => if w32 r1 ≠ 0 then ld d2 181 460 0 (fun t3 => if w32 t3 ≠ w32 12 then m_X12_readRule_174_c34   d2 else cl (m_X12_blames_174 4 d2) (fun r4 d5 => m_X12_readRule_174_c34   d5)) else cl (m_X12_blames_174 2 d2) (fun r6 d7 => m_X12_readRule_174_c34   d7))
set_option maxRecDepth 100000 in
theorem s_X12_readRule_174_c145 {G : G9} {X : X9} (C : CX G X cX12_readRule 3 RX12 [] z_X12_readRule_174) : ∀ (v2 : Int) (d : D9), SS G X 3 0 0 145 [(0, rf G 174), (2, i9 v2)] [] d (m_X12_readRule_174_c145  v2 d) := by
  intro v2 d
  unfold m_X12_readRule_174_c145
  refine r_aload_n C 0 dX12_readRule_145 rfl rfl ?_
  refine r_callV C [rf G 174] dX12_readRule_146 (t_X12_stop_174 C.h1 C.h2 d) mw_X12_211 mv_X12_stop la_174 ly_174 rfl (by decide) (by decide) (by decide) rfl rfl (Nat.le_of_ble_eq_true rfl) (fun r1 d2 => ?_)
  show SS G X 3 _ _ 149 [(0, rf G 174), (2, i9 v2)] [] d2 _
  refine r_aload_n C 0 dX12_readRule_149 rfl rfl ?_
  refine r_getI C dX12_readRule_150 fl_X12_160 la_174 ly_174 rfl ?_
  refine r_if_eq C (b := 0) 157 dX12_readRule_153 (by decide) (fun _ => ?_) (fun _ => ?_)
  · refine r_aload_n C 0 dX12_readRule_157 rfl rfl ?_
    refine r_getR C 181 dX12_readRule_158 fl_X12_33 la_174 ly_174 rfl rfl ?_
    refine r_iload_n C 1 dX12_readRule_161 rfl rfl ?_
    refine r_aload_n C 0 dX12_readRule_162 rfl rfl ?_
    refine r_getI C dX12_readRule_163 fl_X12_232 la_174 ly_174 rfl ?_
    refine r_iload_n C 1 dX12_readRule_166 rfl rfl ?_
    refine r_isub C dX12_readRule_167 ?_
    refine r_iconst C dX12_readRule_168 ?_
    refine r_isub C dX12_readRule_169 ?_
    refine r_iast C dX12_readRule_170 la_181 ly_181 (fun d3 => ?_)
    refine r_aload_n C 0 dX12_readRule_171 rfl rfl ?_
    refine r_getR C 181 dX12_readRule_172 fl_X12_33 la_174 ly_174 rfl rfl ?_
    refine r_iconst C dX12_readRule_175 ?_
    refine r_dup2 C dX12_readRule_176 rfl rfl ?_
    refine r_iald C dX12_readRule_177 la_181 ly_181 (fun t4 => ?_)
    refine r_iconst C dX12_readRule_178 ?_
    refine r_iadd C dX12_readRule_179 ?_
    refine r_iast C dX12_readRule_180 la_181 ly_181 (fun d5 => ?_)
    exact r_vret C dX12_readRule_181 (by decide) (by decide)
  · exact r_vret C dX12_readRule_156 (by decide) (by decide)
set_option maxRecDepth 100000 in
theorem s_X12_readRule_174_c100 {G : G9} {X : X9} (C : CX G X cX12_readRule 3 RX12 [] z_X12_readRule_174) : ∀ (v1 : Int) (d : D9), SS G X 3 0 0 100 [(0, rf G 174), (1, i9 v1)] [] d (m_X12_readRule_174_c100  v1 d) := by
  intro v1 d
  unfold m_X12_readRule_174_c100
  refine r_aload_n C 0 dX12_readRule_100 rfl rfl ?_
  refine r_getI C dX12_readRule_101 fl_X12_160 la_174 ly_174 rfl ?_
  refine r_if_eq C (b := 0) 108 dX12_readRule_104 (by decide) (fun _ => ?_) (fun _ => ?_)
  · refine r_aload_n C 0 dX12_readRule_108 rfl rfl ?_
    refine r_callV C [rf G 174] dX12_readRule_109 (t_X12_next_174 C.h1 C.h2 d) mw_X12_180 mv_X12_next la_174 ly_174 rfl (by decide) (by decide) (by decide) rfl rfl (Nat.le_of_ble_eq_true rfl) (fun r1 d2 => ?_)
    show SS G X 3 _ _ 112 [(0, rf G 174), (1, i9 v1)] [] d2 _
    refine r_aload_n C 0 dX12_readRule_112 rfl rfl ?_
    refine r_iload_n C 1 dX12_readRule_113 rfl rfl ?_
    refine r_callV C [i9 v1, rf G 174] dX12_readRule_114 (t_X12_puts_174 C.h1 C.h2 v1 d2) mw_X12_246 mv_X12_puts la_174 ly_174 rfl (by decide) (by decide) (by decide) rfl rfl (Nat.le_of_ble_eq_true rfl) (fun r3 d4 => ?_)
    show SS G X 3 _ _ 117 [(0, rf G 174), (1, i9 v1)] [] d4 _
    refine r_aload_n C 0 dX12_readRule_117 rfl rfl ?_
    refine r_getI C dX12_readRule_118 fl_X12_232 la_174 ly_174 rfl ?_
    refine ss_lt (fun a5 => ?_)
    refine r_istore_n C [(2, i9 a5), (0, rf G 174), (1, i9 v1)] dX12_readRule_121 rfl (by decide) rfl ?_
    refine r_aload_n C 1 dX12_readRule_122 rfl rfl ?_
    refine r_iconst C dX12_readRule_123 ?_
    refine r_callV C [i9 0, rf G 174] dX12_readRule_124 (t_X12_puts_174 C.h1 C.h2 0 d4) mw_X12_246 mv_X12_puts la_174 ly_174 rfl (by decide) (by decide) (by decide) rfl rfl (Nat.le_of_ble_eq_true rfl) (fun r6 d7 => ?_)
    show SS G X 3 _ _ 127 [(2, i9 a5), (0, rf G 174), (1, i9 v1)] [] d7 _
    refine r_aload_n C 1 dX12_readRule_127 rfl rfl ?_
    refine r_ldcSW C 29 dX12_readRule_128 rfl ?_
    refine r_callV C [sf G 29, rf G 174] dX12_readRule_131 (t_X12_isWord_174_s29 C.h1 C.h2 d7) mw_X12_183 mv_X12_isWord la_174 ly_174 rfl (by decide) (by decide) (by decide) rfl rfl (Nat.le_of_ble_eq_true rfl) (fun r8 d9 => ?_)
    show SS G X 3 _ _ 134 [(2, i9 a5), (0, rf G 174), (1, i9 v1)] [i9 r8] d9 _
    refine r_if_eq C (b := 0) 145 dX12_readRule_134 (by decide) (fun _ => ?_) (fun _ => ?_)
    · refine ss_wide (k' := 0) (n' := 0) (by decide) (by decide) ?_
      refine ss_ls [(0, rf G 174), (2, i9 a5)] [1, 0] rfl ?_
      exact s_X12_readRule_174_c145 C  a5 d9
    · refine r_aload_n C 1 dX12_readRule_137 rfl rfl ?_
      refine r_callV C [rf G 174] dX12_readRule_138 (t_X12_next_174 C.h1 C.h2 d9) mw_X12_180 mv_X12_next la_174 ly_174 rfl (by decide) (by decide) (by decide) rfl rfl (Nat.le_of_ble_eq_true rfl) (fun r10 d11 => ?_)
      show SS G X 3 _ _ 141 [(2, i9 a5), (0, rf G 174), (1, i9 v1)] [] d11 _
      refine r_aload_n C 1 dX12_readRule_141 rfl rfl ?_
      refine r_callV C [rf G 174] dX12_readRule_142 (t_X12_readTest_174R C.h1 C.h2 d11) mw_X12_249 mv_X12_readTest la_174 ly_174 rfl (by decide) (by decide) (by decide) rfl rfl (Nat.le_of_ble_eq_true rfl) (fun r12 d13 => ?_)
      show SS G X 3 _ _ 145 [(2, i9 a5), (0, rf G 174), (1, i9 v1)] [] d13 _
      refine ss_wide (k' := 0) (n' := 0) (by decide) (by decide) ?_
      refine ss_ls [(0, rf G 174), (2, i9 a5)] [1, 0] rfl ?_
      exact s_X12_readRule_174_c145 C  a5 d13
  · exact r_vret C dX12_readRule_107 (by decide) (by decide)
set_option maxRecDepth 100000 in
theorem s_X12_readRule_174_c89 {G : G9} {X : X9} (C : CX G X cX12_readRule 3 RX12 [] z_X12_readRule_174) : ∀ (s0 : Int) (d : D9), SS G X 3 0 0 89 [(0, rf G 174)] [i9 s0] d (m_X12_readRule_174_c89  s0 d) := by
  intro s0 d
  unfold m_X12_readRule_174_c89
  refine r_istore_n C [(1, i9 s0), (0, rf G 174)] dX12_readRule_89 rfl (by decide) rfl ?_
  refine r_iload_n C 0 dX12_readRule_90 rfl rfl ?_
  refine r_iconst C dX12_readRule_91 ?_
  refine r_icmp_ne C 100 dX12_readRule_92 (by decide) (fun _ => ?_) (fun _ => ?_)
  · refine ss_wide (k' := 0) (n' := 0) (by decide) (by decide) ?_
    refine ss_ls [(0, rf G 174), (1, i9 s0)] [1, 0] rfl ?_
    exact s_X12_readRule_174_c100 C  s0 d
  · refine r_aload_n C 1 dX12_readRule_95 rfl rfl ?_
    refine r_iconst C dX12_readRule_96 ?_
    refine r_callV C [i9 2, rf G 174] dX12_readRule_97 (t_X12_blames_174 C.h1 C.h2 2 d) mw_X12_176 mv_X12_blames la_174 ly_174 rfl (by decide) (by decide) (by decide) rfl rfl (Nat.le_of_ble_eq_true rfl) (fun r1 d2 => ?_)
    show SS G X 3 _ _ 100 [(1, i9 s0), (0, rf G 174)] [] d2 _
    refine ss_wide (k' := 0) (n' := 0) (by decide) (by decide) ?_
    refine ss_ls [(0, rf G 174), (1, i9 s0)] [1, 0] rfl ?_
    exact s_X12_readRule_174_c100 C  s0 d2
set_option maxRecDepth 100000 in
theorem s_X12_readRule_174_c34 {G : G9} {X : X9} (C : CX G X cX12_readRule 3 RX12 [] z_X12_readRule_174) : ∀ (d : D9), SS G X 3 0 0 34 [(0, rf G 174)] [] d (m_X12_readRule_174_c34   d) := by
  intro  d
  unfold m_X12_readRule_174_c34
  refine r_aload_n C 0 dX12_readRule_34 rfl rfl ?_
  refine r_getI C dX12_readRule_35 fl_X12_160 la_174 ly_174 rfl ?_
  refine r_if_eq C (b := 0) 42 dX12_readRule_38 (by decide) (fun _ => ?_) (fun _ => ?_)
  · refine r_aload_n C 0 dX12_readRule_42 rfl rfl ?_
    refine r_callV C [rf G 174] dX12_readRule_43 (t_X12_next_174 C.h1 C.h2 d) mw_X12_180 mv_X12_next la_174 ly_174 rfl (by decide) (by decide) (by decide) rfl rfl (Nat.le_of_ble_eq_true rfl) (fun r1 d2 => ?_)
    show SS G X 3 _ _ 46 [(0, rf G 174)] [] d2 _
    refine r_aload_n C 0 dX12_readRule_46 rfl rfl ?_
    refine r_ldcSW C 26 dX12_readRule_47 rfl ?_
    refine r_callV C [sf G 26, rf G 174] dX12_readRule_50 (t_X12_isWord_174_s26 C.h1 C.h2 d2) mw_X12_183 mv_X12_isWord la_174 ly_174 rfl (by decide) (by decide) (by decide) rfl rfl (Nat.le_of_ble_eq_true rfl) (fun r3 d4 => ?_)
    show SS G X 3 _ _ 53 [(0, rf G 174)] [i9 r3] d4 _
    refine r_if_eq C (b := 0) 60 dX12_readRule_53 (by decide) (fun _ => ?_) (fun _ => ?_)
    · refine r_aload_n C 0 dX12_readRule_60 rfl rfl ?_
      refine r_ldcSW C 27 dX12_readRule_61 rfl ?_
      refine r_callV C [sf G 27, rf G 174] dX12_readRule_64 (t_X12_isWord_174_s27 C.h1 C.h2 d4) mw_X12_183 mv_X12_isWord la_174 ly_174 rfl (by decide) (by decide) (by decide) rfl rfl (Nat.le_of_ble_eq_true rfl) (fun r5 d6 => ?_)
      show SS G X 3 _ _ 67 [(0, rf G 174)] [i9 r5] d6 _
      refine r_if_eq C (b := 0) 74 dX12_readRule_67 (by decide) (fun _ => ?_) (fun _ => ?_)
      · refine r_aload_n C 0 dX12_readRule_74 rfl rfl ?_
        refine r_ldcSW C 28 dX12_readRule_75 rfl ?_
        refine r_callV C [sf G 28, rf G 174] dX12_readRule_78 (t_X12_isWord_174_s28 C.h1 C.h2 d6) mw_X12_183 mv_X12_isWord la_174 ly_174 rfl (by decide) (by decide) (by decide) rfl rfl (Nat.le_of_ble_eq_true rfl) (fun r7 d8 => ?_)
        show SS G X 3 _ _ 81 [(0, rf G 174)] [i9 r7] d8 _
        refine r_if_eq C (b := 0) 88 dX12_readRule_81 (by decide) (fun _ => ?_) (fun _ => ?_)
        · refine r_iconst C dX12_readRule_88 ?_
          refine ss_wide (k' := 0) (n' := 0) (by decide) (by decide) ?_
          refine ss_ls [(0, rf G 174)] [0] rfl ?_
          exact s_X12_readRule_174_c89 C  (-1) d8
        · refine r_iconst C dX12_readRule_84 ?_
          refine r_goto C 89 dX12_readRule_85 (by decide) ?_
          refine ss_wide (k' := 0) (n' := 0) (by decide) (by decide) ?_
          refine ss_ls [(0, rf G 174)] [0] rfl ?_
          exact s_X12_readRule_174_c89 C  2 d8
      · refine r_iconst C dX12_readRule_70 ?_
        refine r_goto C 89 dX12_readRule_71 (by decide) ?_
        refine ss_wide (k' := 0) (n' := 0) (by decide) (by decide) ?_
        refine ss_ls [(0, rf G 174)] [0] rfl ?_
        exact s_X12_readRule_174_c89 C  1 d6
    · refine r_iconst C dX12_readRule_56 ?_
      refine r_goto C 89 dX12_readRule_57 (by decide) ?_
      refine ss_wide (k' := 0) (n' := 0) (by decide) (by decide) ?_
      refine ss_ls [(0, rf G 174)] [0] rfl ?_
      exact s_X12_readRule_174_c89 C  0 d4
  · exact r_vret C dX12_readRule_41 (by decide) (by decide)
set_option maxRecDepth 100000 in
theorem t_X12_readRule_174 {G : G9} {l : Launch} (h1 : va_D (A9 G) (wl G (fun _ _ => 0))) (h2 : l.stackTraces = false) (d : D9) : MT G l yX12_readRule cX12_readRule 3 z_X12_readRule_174 [rf G 174] d (m_X12_readRule_174  d) := by
  refine mt_of (own := RX12) (by decide) rfl (Nat.le_of_ble_eq_true rfl) h1 h2 [(0, rf G 174)] rfl (fun X hX C => ?_)
  unfold m_X12_readRule_174
  refine r_aload_n C 0 dX12_readRule_0 rfl rfl ?_
  refine r_ldcSW C 25 dX12_readRule_1 rfl ?_
  refine r_callV C [sf G 25, rf G 174] dX12_readRule_4 (t_X12_isWord_174_s25 C.h1 C.h2 d) mw_X12_183 mv_X12_isWord la_174 ly_174 rfl (by decide) (by decide) (by decide) rfl rfl (Nat.le_of_ble_eq_true rfl) (fun r1 d2 => ?_)
  show SS G X 3 _ _ 7 [(0, rf G 174)] [i9 r1] d2 _
  refine r_if_ne C (b := 0) 18 dX12_readRule_7 (by decide) (fun _ => ?_) (fun _ => ?_)
  · refine r_aload_n C 0 dX12_readRule_18 rfl rfl ?_
    refine r_getR C 181 dX12_readRule_19 fl_X12_33 la_174 ly_174 rfl rfl ?_
    refine r_iconst C dX12_readRule_22 ?_
    refine r_iald C dX12_readRule_23 la_181 ly_181 (fun t3 => ?_)
    refine r_bipush C dX12_readRule_24 rfl ?_
    refine r_icmp_ne C 34 dX12_readRule_26 (by decide) (fun _ => ?_) (fun _ => ?_)
    · refine ss_wide (k' := 0) (n' := 0) (by decide) (by decide) ?_
      refine ss_ls [(0, rf G 174)] [0] rfl ?_
      exact s_X12_readRule_174_c34 C   d2
    · refine r_aload_n C 0 dX12_readRule_29 rfl rfl ?_
      refine r_iconst C dX12_readRule_30 ?_
      refine r_callV C [i9 4, rf G 174] dX12_readRule_31 (t_X12_blames_174 C.h1 C.h2 4 d2) mw_X12_176 mv_X12_blames la_174 ly_174 rfl (by decide) (by decide) (by decide) rfl rfl (Nat.le_of_ble_eq_true rfl) (fun r4 d5 => ?_)
      show SS G X 3 _ _ 34 [(0, rf G 174)] [] d5 _
      refine ss_wide (k' := 0) (n' := 0) (by decide) (by decide) ?_
      refine ss_ls [(0, rf G 174)] [0] rfl ?_
      exact s_X12_readRule_174_c34 C   d5
  · refine r_aload_n C 0 dX12_readRule_10 rfl rfl ?_
    refine r_iconst C dX12_readRule_11 ?_
    refine r_callV C [i9 2, rf G 174] dX12_readRule_12 (t_X12_blames_174 C.h1 C.h2 2 d2) mw_X12_176 mv_X12_blames la_174 ly_174 rfl (by decide) (by decide) (by decide) rfl rfl (Nat.le_of_ble_eq_true rfl) (fun r6 d7 => ?_)
    show SS G X 3 _ _ 15 [(0, rf G 174)] [] d7 _
    refine r_goto C 34 dX12_readRule_15 (by decide) ?_
    refine ss_wide (k' := 0) (n' := 0) (by decide) (by decide) ?_
    refine ss_ls [(0, rf G 174)] [0] rfl ?_
    exact s_X12_readRule_174_c34 C   d7
theorem dX12_scrapers_0 : decode cX12_scrapers 0 = .ok (.aload_n 0, 1) := by decide +kernel
theorem dX12_scrapers_1 : decode cX12_scrapers 1 = .ok (.iconst 0, 1) := by decide +kernel
theorem dX12_scrapers_2 : decode cX12_scrapers 2 = .ok (.putfield 76, 3) := by decide +kernel
theorem dX12_scrapers_5 : decode cX12_scrapers 5 = .ok (.iload_n 1, 1) := by decide +kernel
theorem dX12_scrapers_6 : decode cX12_scrapers 6 = .ok (.i2l, 1) := by decide +kernel
theorem dX12_scrapers_7 : decode cX12_scrapers 7 = .ok (.lconst 0, 1) := by decide +kernel
theorem dX12_scrapers_8 : decode cX12_scrapers 8 = .ok (.aload_n 0, 1) := by decide +kernel
theorem dX12_scrapers_9 : decode cX12_scrapers 9 = .ok (.getfield 133, 3) := by decide +kernel
theorem dX12_scrapers_12 : decode cX12_scrapers 12 = .ok (.i2l, 1) := by decide +kernel
theorem dX12_scrapers_13 : decode cX12_scrapers 13 = .ok (.invokestatic 79, 3) := by decide +kernel
theorem dX12_scrapers_16 : decode cX12_scrapers 16 = .ok (.ifCond .ne 9, 3) := by decide +kernel
theorem dX12_scrapers_19 : decode cX12_scrapers 19 = .ok (.aload_n 0, 1) := by decide +kernel
theorem dX12_scrapers_20 : decode cX12_scrapers 20 = .ok (.iconst 1, 1) := by decide +kernel
theorem dX12_scrapers_21 : decode cX12_scrapers 21 = .ok (.invokevirtual 89, 3) := by decide +kernel
theorem dX12_scrapers_24 : decode cX12_scrapers 24 = .ok (.ireturn, 1) := by decide +kernel
theorem dX12_scrapers_25 : decode cX12_scrapers 25 = .ok (.aload_n 0, 1) := by decide +kernel
theorem dX12_scrapers_26 : decode cX12_scrapers 26 = .ok (.iload_n 1, 1) := by decide +kernel
theorem dX12_scrapers_27 : decode cX12_scrapers 27 = .ok (.invokevirtual 214, 3) := by decide +kernel
theorem dX12_scrapers_30 : decode cX12_scrapers 30 = .ok (.aload_n 0, 1) := by decide +kernel
theorem dX12_scrapers_31 : decode cX12_scrapers 31 = .ok (.iconst 0, 1) := by decide +kernel
theorem dX12_scrapers_32 : decode cX12_scrapers 32 = .ok (.putfield 235, 3) := by decide +kernel
theorem dX12_scrapers_35 : decode cX12_scrapers 35 = .ok (.aload_n 0, 1) := by decide +kernel
theorem dX12_scrapers_36 : decode cX12_scrapers 36 = .ok (.getfield 33, 3) := by decide +kernel
theorem dX12_scrapers_39 : decode cX12_scrapers 39 = .ok (.iconst 0, 1) := by decide +kernel
theorem dX12_scrapers_40 : decode cX12_scrapers 40 = .ok (.iconst 0, 1) := by decide +kernel
theorem dX12_scrapers_41 : decode cX12_scrapers 41 = .ok (.iastore, 1) := by decide +kernel
theorem dX12_scrapers_42 : decode cX12_scrapers 42 = .ok (.aload_n 0, 1) := by decide +kernel
theorem dX12_scrapers_43 : decode cX12_scrapers 43 = .ok (.iconst 1, 1) := by decide +kernel
theorem dX12_scrapers_44 : decode cX12_scrapers 44 = .ok (.putfield 232, 3) := by decide +kernel
theorem dX12_scrapers_47 : decode cX12_scrapers 47 = .ok (.aload_n 0, 1) := by decide +kernel
theorem dX12_scrapers_48 : decode cX12_scrapers 48 = .ok (.getfield 160, 3) := by decide +kernel
theorem dX12_scrapers_51 : decode cX12_scrapers 51 = .ok (.ifCond .ne 17, 3) := by decide +kernel
theorem dX12_scrapers_54 : decode cX12_scrapers 54 = .ok (.aload_n 0, 1) := by decide +kernel
theorem dX12_scrapers_55 : decode cX12_scrapers 55 = .ok (.getfield 145, 3) := by decide +kernel
theorem dX12_scrapers_58 : decode cX12_scrapers 58 = .ok (.ifCond .eq 10, 3) := by decide +kernel
theorem dX12_scrapers_61 : decode cX12_scrapers 61 = .ok (.aload_n 0, 1) := by decide +kernel
theorem dX12_scrapers_62 : decode cX12_scrapers 62 = .ok (.invokevirtual 283, 3) := by decide +kernel
theorem dX12_scrapers_65 : decode cX12_scrapers 65 = .ok (.goto (-18), 3) := by decide +kernel
theorem dX12_scrapers_68 : decode cX12_scrapers 68 = .ok (.aload_n 0, 1) := by decide +kernel
theorem dX12_scrapers_69 : decode cX12_scrapers 69 = .ok (.getfield 160, 3) := by decide +kernel
theorem dX12_scrapers_72 : decode cX12_scrapers 72 = .ok (.ifCond .ne 35, 3) := by decide +kernel
theorem dX12_scrapers_75 : decode cX12_scrapers 75 = .ok (.iconst 0, 1) := by decide +kernel
theorem dX12_scrapers_76 : decode cX12_scrapers 76 = .ok (.istore_n 2, 1) := by decide +kernel
theorem dX12_scrapers_77 : decode cX12_scrapers 77 = .ok (.iload_n 2, 1) := by decide +kernel
theorem dX12_scrapers_78 : decode cX12_scrapers 78 = .ok (.aload_n 0, 1) := by decide +kernel
theorem dX12_scrapers_79 : decode cX12_scrapers 79 = .ok (.getfield 232, 3) := by decide +kernel
theorem dX12_scrapers_82 : decode cX12_scrapers 82 = .ok (.if_icmp .ge 25, 3) := by decide +kernel
theorem dX12_scrapers_85 : decode cX12_scrapers 85 = .ok (.aload_n 0, 1) := by decide +kernel
theorem dX12_scrapers_86 : decode cX12_scrapers 86 = .ok (.getfield 9, 3) := by decide +kernel
theorem dX12_scrapers_89 : decode cX12_scrapers 89 = .ok (.sipush 1144, 3) := by decide +kernel
theorem dX12_scrapers_92 : decode cX12_scrapers 92 = .ok (.iload_n 2, 1) := by decide +kernel
theorem dX12_scrapers_93 : decode cX12_scrapers 93 = .ok (.iadd, 1) := by decide +kernel
theorem dX12_scrapers_94 : decode cX12_scrapers 94 = .ok (.aload_n 0, 1) := by decide +kernel
theorem dX12_scrapers_95 : decode cX12_scrapers 95 = .ok (.getfield 33, 3) := by decide +kernel
theorem dX12_scrapers_98 : decode cX12_scrapers 98 = .ok (.iload_n 2, 1) := by decide +kernel
theorem dX12_scrapers_99 : decode cX12_scrapers 99 = .ok (.iaload, 1) := by decide +kernel
theorem dX12_scrapers_100 : decode cX12_scrapers 100 = .ok (.iastore, 1) := by decide +kernel
theorem dX12_scrapers_101 : decode cX12_scrapers 101 = .ok (.iinc 2 1, 3) := by decide +kernel
theorem dX12_scrapers_104 : decode cX12_scrapers 104 = .ok (.goto (-27), 3) := by decide +kernel
theorem dX12_scrapers_107 : decode cX12_scrapers 107 = .ok (.aload_n 0, 1) := by decide +kernel
theorem dX12_scrapers_108 : decode cX12_scrapers 108 = .ok (.aload_n 0, 1) := by decide +kernel
theorem dX12_scrapers_109 : decode cX12_scrapers 109 = .ok (.getfield 33, 3) := by decide +kernel
theorem dX12_scrapers_112 : decode cX12_scrapers 112 = .ok (.iconst 0, 1) := by decide +kernel
theorem dX12_scrapers_113 : decode cX12_scrapers 113 = .ok (.iaload, 1) := by decide +kernel
theorem dX12_scrapers_114 : decode cX12_scrapers 114 = .ok (.invokevirtual 220, 3) := by decide +kernel
theorem dX12_scrapers_117 : decode cX12_scrapers 117 = .ok (.ireturn, 1) := by decide +kernel
abbrev z_X12_scrapers_174 : Z9 := (some .int, 1, 0, 0, 66, 3042)
def m_X12_scrapers_174_c107 (d : D9) : Option R9 := ld d 181 460 0 (fun t1 => cl (m_X12_ends_174 t1 d) (fun r2 d3 => rt r2 d3))
def b_X12_scrapers_174_c77 (k_X12_scrapers_174_c77 : Int → D9 → Option R9) (v2 : Int) (d : D9) : Option R9 := if w32 (d 174 18) ≤ w32 v2 then m_X12_scrapers_174_c107   d else ld d 181 460 v2 (fun t1 => sd d 175 1604 (1144 + v2) t1 (fun d2 => k_X12_scrapers_174_c77 (v2 + 1) d2))
def m_X12_scrapers_174_c77 : Int → D9 → Option R9 := fix9 (fun _ _ => none) (fun k => b_X12_scrapers_174_c77 k) FU
def m_X12_scrapers_174_c68 (d : D9) : Option R9 := if w32 (d 174 13) ≠ 0 then m_X12_scrapers_174_c107   d else m_X12_scrapers_174_c77  0 d
def b_X12_scrapers_174_c47 (k_X12_scrapers_174_c47 : D9 → Option R9) (d : D9) : Option R9 := if w32 (d 174 13) ≠ 0 then m_X12_scrapers_174_c68   d else if w32 (d 174 11) = 0 then m_X12_scrapers_174_c68   d else cl (m_X12_readRule_174 d) (fun r1 d2 => k_X12_scrapers_174_c47  d2)
def m_X12_scrapers_174_c47 : D9 → Option R9 := fix9 (fun _ => none) (fun k => b_X12_scrapers_174_c47 k) FU
def m_X12_scrapers_174 (p1 : Int) (d : D9) : Option R9 := pf d 174 3 0 (fun d1 => cl (m_X12_within (w32 p1) 0 (w32 (d1 174 7)) d1) (fun r2 d3 => if w32 r2 ≠ 0 then cl (m_X12_starts_174 p1 d3) (fun r4 d5 => pf d5 174 19 0 (fun d6 => sd d6 181 460 0 0 (fun d7 => pf d7 174 18 1 (fun d8 => m_X12_scrapers_174_c47   d8)))) else cl (m_X12_fails_174 1 d3) (fun r9 d10 => rt r9 d10)))
set_option maxRecDepth 100000 in
theorem s_X12_scrapers_174_c107 {G : G9} {X : X9} (C : CX G X cX12_scrapers 3 RX12 [] z_X12_scrapers_174) : ∀ (d : D9), SS G X 3 0 0 107 [(0, rf G 174)] [] d (m_X12_scrapers_174_c107   d) := by
  intro  d
  unfold m_X12_scrapers_174_c107
  refine r_aload_n C 0 dX12_scrapers_107 rfl rfl ?_
  refine r_aload_n C 0 dX12_scrapers_108 rfl rfl ?_
  refine r_getR C 181 dX12_scrapers_109 fl_X12_33 la_174 ly_174 rfl rfl ?_
  refine r_iconst C dX12_scrapers_112 ?_
  refine r_iald C dX12_scrapers_113 la_181 ly_181 (fun t1 => ?_)
  refine r_callV C [i9 t1, rf G 174] dX12_scrapers_114 (t_X12_ends_174 C.h1 C.h2 t1 d) mw_X12_220 mv_X12_ends la_174 ly_174 rfl (by decide) (by decide) (by decide) rfl rfl (Nat.le_of_ble_eq_true rfl) (fun r2 d3 => ?_)
  show SS G X 3 _ _ 117 [(0, rf G 174)] [i9 r2] d3 _
  exact r_iret C dX12_scrapers_117 (by decide) (by decide)
set_option maxRecDepth 100000 in
theorem sb_X12_scrapers_174_c77 {G : G9} {X : X9} (C : CX G X cX12_scrapers 3 RX12 [] z_X12_scrapers_174) (k_X12_scrapers_174_c77 : Int → D9 → Option R9) (hk_X12_scrapers_174_c77 : ∀ (v2 : Int) (d : D9), SS G X 3 0 0 77 [(0, rf G 174), (2, i9 v2)] [] d (k_X12_scrapers_174_c77 v2 d)) : ∀ (v2 : Int) (d : D9), SS G X 3 0 0 77 [(0, rf G 174), (2, i9 v2)] [] d (b_X12_scrapers_174_c77 k_X12_scrapers_174_c77 v2 d) := by
  intro v2 d
  unfold b_X12_scrapers_174_c77
  refine r_iload_n C 1 dX12_scrapers_77 rfl rfl ?_
  refine r_aload_n C 0 dX12_scrapers_78 rfl rfl ?_
  refine r_getI C dX12_scrapers_79 fl_X12_232 la_174 ly_174 rfl ?_
  refine r_icmp_ge C 107 dX12_scrapers_82 (by decide) (fun _ => ?_) (fun _ => ?_)
  · refine ss_wide (k' := 0) (n' := 0) (by decide) (by decide) ?_
    refine ss_ls [(0, rf G 174)] [0] rfl ?_
    exact s_X12_scrapers_174_c107 C   d
  · refine r_aload_n C 0 dX12_scrapers_85 rfl rfl ?_
    refine r_getR C 175 dX12_scrapers_86 fl_X12_9 la_174 ly_174 rfl rfl ?_
    refine r_sipush C dX12_scrapers_89 rfl ?_
    refine r_iload_n C 1 dX12_scrapers_92 rfl rfl ?_
    refine r_iadd C dX12_scrapers_93 ?_
    refine r_aload_n C 0 dX12_scrapers_94 rfl rfl ?_
    refine r_getR C 181 dX12_scrapers_95 fl_X12_33 la_174 ly_174 rfl rfl ?_
    refine r_iload_n C 1 dX12_scrapers_98 rfl rfl ?_
    refine r_iald C dX12_scrapers_99 la_181 ly_181 (fun t1 => ?_)
    refine r_iast C dX12_scrapers_100 la_175 ly_175 (fun d2 => ?_)
    refine r_iinc C 1 [(2, i9 (v2 + 1)), (0, rf G 174)] dX12_scrapers_101 rfl (by decide) rfl ?_
    refine r_goto C 77 dX12_scrapers_104 (by decide) ?_
    refine ss_wide (k' := 0) (n' := 0) (by decide) (by decide) ?_
    refine ss_ls [(0, rf G 174), (2, i9 (v2 + 1))] [1, 0] rfl ?_
    exact hk_X12_scrapers_174_c77 (v2 + 1) d2
theorem s_X12_scrapers_174_c77 {G : G9} {X : X9} (C : CX G X cX12_scrapers 3 RX12 [] z_X12_scrapers_174) : ∀ (v2 : Int) (d : D9), SS G X 3 0 0 77 [(0, rf G 174), (2, i9 v2)] [] d (m_X12_scrapers_174_c77  v2 d) :=
  fix9_ind (P := fun k => ∀ (v2 : Int) (d : D9), SS G X 3 0 0 77 [(0, rf G 174), (2, i9 v2)] [] d (k v2 d)) (fun _ _ => ss_none) (fun k hk => sb_X12_scrapers_174_c77 C k hk) FU
set_option maxRecDepth 100000 in
theorem s_X12_scrapers_174_c68 {G : G9} {X : X9} (C : CX G X cX12_scrapers 3 RX12 [] z_X12_scrapers_174) : ∀ (d : D9), SS G X 3 0 0 68 [(0, rf G 174)] [] d (m_X12_scrapers_174_c68   d) := by
  intro  d
  unfold m_X12_scrapers_174_c68
  refine r_aload_n C 0 dX12_scrapers_68 rfl rfl ?_
  refine r_getI C dX12_scrapers_69 fl_X12_160 la_174 ly_174 rfl ?_
  refine r_if_ne C (b := 0) 107 dX12_scrapers_72 (by decide) (fun _ => ?_) (fun _ => ?_)
  · refine ss_wide (k' := 0) (n' := 0) (by decide) (by decide) ?_
    refine ss_ls [(0, rf G 174)] [0] rfl ?_
    exact s_X12_scrapers_174_c107 C   d
  · refine r_iconst C dX12_scrapers_75 ?_
    refine r_istore_n C [(2, i9 0), (0, rf G 174)] dX12_scrapers_76 rfl (by decide) rfl ?_
    refine ss_wide (k' := 0) (n' := 0) (by decide) (by decide) ?_
    refine ss_ls [(0, rf G 174), (2, i9 0)] [1, 0] rfl ?_
    exact s_X12_scrapers_174_c77 C  0 d
set_option maxRecDepth 100000 in
theorem sb_X12_scrapers_174_c47 {G : G9} {X : X9} (C : CX G X cX12_scrapers 3 RX12 [] z_X12_scrapers_174) (k_X12_scrapers_174_c47 : D9 → Option R9) (hk_X12_scrapers_174_c47 : ∀ (d : D9), SS G X 3 0 0 47 [(0, rf G 174)] [] d (k_X12_scrapers_174_c47  d)) : ∀ (d : D9), SS G X 3 0 0 47 [(0, rf G 174)] [] d (b_X12_scrapers_174_c47 k_X12_scrapers_174_c47  d) := by
  intro  d
  unfold b_X12_scrapers_174_c47
  refine r_aload_n C 0 dX12_scrapers_47 rfl rfl ?_
  refine r_getI C dX12_scrapers_48 fl_X12_160 la_174 ly_174 rfl ?_
  refine r_if_ne C (b := 0) 68 dX12_scrapers_51 (by decide) (fun _ => ?_) (fun _ => ?_)
  · refine ss_wide (k' := 0) (n' := 0) (by decide) (by decide) ?_
    refine ss_ls [(0, rf G 174)] [0] rfl ?_
    exact s_X12_scrapers_174_c68 C   d
  · refine r_aload_n C 0 dX12_scrapers_54 rfl rfl ?_
    refine r_getI C dX12_scrapers_55 fl_X12_145 la_174 ly_174 rfl ?_
    refine r_if_eq C (b := 0) 68 dX12_scrapers_58 (by decide) (fun _ => ?_) (fun _ => ?_)
    · refine ss_wide (k' := 0) (n' := 0) (by decide) (by decide) ?_
      refine ss_ls [(0, rf G 174)] [0] rfl ?_
      exact s_X12_scrapers_174_c68 C   d
    · refine r_aload_n C 0 dX12_scrapers_61 rfl rfl ?_
      refine r_callV C [rf G 174] dX12_scrapers_62 (t_X12_readRule_174 C.h1 C.h2 d) mw_X12_283 mv_X12_readRule la_174 ly_174 rfl (by decide) (by decide) (by decide) rfl rfl (Nat.le_of_ble_eq_true rfl) (fun r1 d2 => ?_)
      show SS G X 3 _ _ 65 [(0, rf G 174)] [] d2 _
      refine r_goto C 47 dX12_scrapers_65 (by decide) ?_
      refine ss_wide (k' := 0) (n' := 0) (by decide) (by decide) ?_
      refine ss_ls [(0, rf G 174)] [0] rfl ?_
      exact hk_X12_scrapers_174_c47  d2
theorem s_X12_scrapers_174_c47 {G : G9} {X : X9} (C : CX G X cX12_scrapers 3 RX12 [] z_X12_scrapers_174) : ∀ (d : D9), SS G X 3 0 0 47 [(0, rf G 174)] [] d (m_X12_scrapers_174_c47   d) :=
  fix9_ind (P := fun k => ∀ (d : D9), SS G X 3 0 0 47 [(0, rf G 174)] [] d (k  d)) (fun _ => ss_none) (fun k hk => sb_X12_scrapers_174_c47 C k hk) FU
set_option maxRecDepth 100000 in
theorem t_X12_scrapers_174 {G : G9} {l : Launch} (h1 : va_D (A9 G) (wl G (fun _ _ => 0))) (h2 : l.stackTraces = false) (p1 : Int) (d : D9) : MT G l yX12_scrapers cX12_scrapers 3 z_X12_scrapers_174 [rf G 174, i9 p1] d (m_X12_scrapers_174 p1 d) := by
  refine mt_of (own := RX12) (by decide) rfl (Nat.le_of_ble_eq_true rfl) h1 h2 [(0, rf G 174), (1, i9 p1)] rfl (fun X hX C => ?_)
  unfold m_X12_scrapers_174
  refine r_aload_n C 0 dX12_scrapers_0 rfl rfl ?_
  refine r_iconst C dX12_scrapers_1 ?_
  refine r_putI C dX12_scrapers_2 fp_X12_76 la_174 ly_174 rfl (fun d1 => ?_)
  refine r_iload_n C 1 dX12_scrapers_5 rfl rfl ?_
  refine r_i2l C dX12_scrapers_6 ?_
  refine r_lconst C dX12_scrapers_7 (a := 0) rfl ?_
  refine r_aload_n C 0 dX12_scrapers_8 rfl rfl ?_
  refine r_getI C dX12_scrapers_9 fl_X12_133 la_174 ly_174 rfl ?_
  refine r_i2l C dX12_scrapers_12 ?_
  refine r_callS C [l9 (w32 (d1 174 7)), l9 0, l9 (w32 p1)] dX12_scrapers_13 (t_X12_within C.h1 C.h2 (w32 p1) 0 (w32 (d1 174 7)) d1) mw_X12_79 ms_X12_within (by decide) (by decide) (by decide) rfl rfl (Nat.le_of_ble_eq_true rfl) (fun r2 d3 => ?_)
  show SS G X 3 _ _ 16 [(0, rf G 174), (1, i9 p1)] [i9 r2] d3 _
  refine r_if_ne C (b := 0) 25 dX12_scrapers_16 (by decide) (fun _ => ?_) (fun _ => ?_)
  · refine r_aload_n C 0 dX12_scrapers_25 rfl rfl ?_
    refine r_iload_n C 1 dX12_scrapers_26 rfl rfl ?_
    refine r_callV C [i9 p1, rf G 174] dX12_scrapers_27 (t_X12_starts_174 C.h1 C.h2 p1 d3) mw_X12_214 mv_X12_starts la_174 ly_174 rfl (by decide) (by decide) (by decide) rfl rfl (Nat.le_of_ble_eq_true rfl) (fun r4 d5 => ?_)
    show SS G X 3 _ _ 30 [(0, rf G 174), (1, i9 p1)] [] d5 _
    refine r_aload_n C 0 dX12_scrapers_30 rfl rfl ?_
    refine r_iconst C dX12_scrapers_31 ?_
    refine r_putI C dX12_scrapers_32 fp_X12_235 la_174 ly_174 rfl (fun d6 => ?_)
    refine r_aload_n C 0 dX12_scrapers_35 rfl rfl ?_
    refine r_getR C 181 dX12_scrapers_36 fl_X12_33 la_174 ly_174 rfl rfl ?_
    refine r_iconst C dX12_scrapers_39 ?_
    refine r_iconst C dX12_scrapers_40 ?_
    refine r_iast C dX12_scrapers_41 la_181 ly_181 (fun d7 => ?_)
    refine r_aload_n C 0 dX12_scrapers_42 rfl rfl ?_
    refine r_iconst C dX12_scrapers_43 ?_
    refine r_putI C dX12_scrapers_44 fp_X12_232 la_174 ly_174 rfl (fun d8 => ?_)
    refine ss_wide (k' := 0) (n' := 0) (by decide) (by decide) ?_
    refine ss_ls [(0, rf G 174)] [0] rfl ?_
    exact s_X12_scrapers_174_c47 C   d8
  · refine r_aload_n C 0 dX12_scrapers_19 rfl rfl ?_
    refine r_iconst C dX12_scrapers_20 ?_
    refine r_callV C [i9 1, rf G 174] dX12_scrapers_21 (t_X12_fails_174 C.h1 C.h2 1 d3) mw_X12_89 mv_X12_fails la_174 ly_174 rfl (by decide) (by decide) (by decide) rfl rfl (Nat.le_of_ble_eq_true rfl) (fun r9 d10 => ?_)
    show SS G X 3 _ _ 24 [(0, rf G 174), (1, i9 p1)] [i9 r9] d10 _
    exact r_iret C dX12_scrapers_24 (by decide) (by decide)
theorem dX12_skin_0 : decode cX12_skin 0 = .ok (.aload_n 0, 1) := by decide +kernel
theorem dX12_skin_1 : decode cX12_skin 1 = .ok (.iconst 0, 1) := by decide +kernel
theorem dX12_skin_2 : decode cX12_skin 2 = .ok (.putfield 76, 3) := by decide +kernel
theorem dX12_skin_5 : decode cX12_skin 5 = .ok (.iload_n 2, 1) := by decide +kernel
theorem dX12_skin_6 : decode cX12_skin 6 = .ok (.i2l, 1) := by decide +kernel
theorem dX12_skin_7 : decode cX12_skin 7 = .ok (.lconst 1, 1) := by decide +kernel
theorem dX12_skin_8 : decode cX12_skin 8 = .ok (.ldc2_w 114, 3) := by decide +kernel
theorem dX12_skin_11 : decode cX12_skin 11 = .ok (.invokestatic 79, 3) := by decide +kernel
theorem dX12_skin_14 : decode cX12_skin 14 = .ok (.istore 5, 2) := by decide +kernel
theorem dX12_skin_16 : decode cX12_skin 16 = .ok (.iload 5, 2) := by decide +kernel
theorem dX12_skin_18 : decode cX12_skin 18 = .ok (.ifCond .eq 17, 3) := by decide +kernel
theorem dX12_skin_21 : decode cX12_skin 21 = .ok (.aload_n 0, 1) := by decide +kernel
theorem dX12_skin_22 : decode cX12_skin 22 = .ok (.iload_n 3, 1) := by decide +kernel
theorem dX12_skin_23 : decode cX12_skin 23 = .ok (.invokevirtual 95, 3) := by decide +kernel
theorem dX12_skin_26 : decode cX12_skin 26 = .ok (.ifCond .ne 9, 3) := by decide +kernel
theorem dX12_skin_29 : decode cX12_skin 29 = .ok (.aload_n 0, 1) := by decide +kernel
theorem dX12_skin_30 : decode cX12_skin 30 = .ok (.iconst 1, 1) := by decide +kernel
theorem dX12_skin_31 : decode cX12_skin 31 = .ok (.invokevirtual 89, 3) := by decide +kernel
theorem dX12_skin_34 : decode cX12_skin 34 = .ok (.ireturn, 1) := by decide +kernel
theorem dX12_skin_35 : decode cX12_skin 35 = .ok (.iload_n 1, 1) := by decide +kernel
theorem dX12_skin_36 : decode cX12_skin 36 = .ok (.i2l, 1) := by decide +kernel
theorem dX12_skin_37 : decode cX12_skin 37 = .ok (.lconst 0, 1) := by decide +kernel
theorem dX12_skin_38 : decode cX12_skin 38 = .ok (.ldc2_w 85, 3) := by decide +kernel
theorem dX12_skin_41 : decode cX12_skin 41 = .ok (.invokestatic 79, 3) := by decide +kernel
theorem dX12_skin_44 : decode cX12_skin 44 = .ok (.ifCond .eq 43, 3) := by decide +kernel
theorem dX12_skin_47 : decode cX12_skin 47 = .ok (.iload_n 2, 1) := by decide +kernel
theorem dX12_skin_48 : decode cX12_skin 48 = .ok (.i2l, 1) := by decide +kernel
theorem dX12_skin_49 : decode cX12_skin 49 = .ok (.lconst 0, 1) := by decide +kernel
theorem dX12_skin_50 : decode cX12_skin 50 = .ok (.ldc2_w 114, 3) := by decide +kernel
theorem dX12_skin_53 : decode cX12_skin 53 = .ok (.invokestatic 79, 3) := by decide +kernel
theorem dX12_skin_56 : decode cX12_skin 56 = .ok (.ifCond .eq 31, 3) := by decide +kernel
theorem dX12_skin_59 : decode cX12_skin 59 = .ok (.iload 4, 2) := by decide +kernel
theorem dX12_skin_61 : decode cX12_skin 61 = .ok (.i2l, 1) := by decide +kernel
theorem dX12_skin_62 : decode cX12_skin 62 = .ok (.lconst 1, 1) := by decide +kernel
theorem dX12_skin_63 : decode cX12_skin 63 = .ok (.ldc2_w 93, 3) := by decide +kernel
theorem dX12_skin_66 : decode cX12_skin 66 = .ok (.invokestatic 79, 3) := by decide +kernel
theorem dX12_skin_69 : decode cX12_skin 69 = .ok (.ifCond .eq 18, 3) := by decide +kernel
theorem dX12_skin_72 : decode cX12_skin 72 = .ok (.iload 5, 2) := by decide +kernel
theorem dX12_skin_74 : decode cX12_skin 74 = .ok (.ifCond .eq 19, 3) := by decide +kernel
theorem dX12_skin_77 : decode cX12_skin 77 = .ok (.aload_n 0, 1) := by decide +kernel
theorem dX12_skin_78 : decode cX12_skin 78 = .ok (.iload_n 3, 1) := by decide +kernel
theorem dX12_skin_79 : decode cX12_skin 79 = .ok (.iconst 1, 1) := by decide +kernel
theorem dX12_skin_80 : decode cX12_skin 80 = .ok (.invokevirtual 99, 3) := by decide +kernel
theorem dX12_skin_83 : decode cX12_skin 83 = .ok (.iload_n 1, 1) := by decide +kernel
theorem dX12_skin_84 : decode cX12_skin 84 = .ok (.if_icmp .eq 9, 3) := by decide +kernel
theorem dX12_skin_87 : decode cX12_skin 87 = .ok (.aload_n 0, 1) := by decide +kernel
theorem dX12_skin_88 : decode cX12_skin 88 = .ok (.iconst 2, 1) := by decide +kernel
theorem dX12_skin_89 : decode cX12_skin 89 = .ok (.invokevirtual 89, 3) := by decide +kernel
theorem dX12_skin_92 : decode cX12_skin 92 = .ok (.ireturn, 1) := by decide +kernel
theorem dX12_skin_93 : decode cX12_skin 93 = .ok (.aload_n 0, 1) := by decide +kernel
theorem dX12_skin_94 : decode cX12_skin 94 = .ok (.getfield 9, 3) := by decide +kernel
theorem dX12_skin_97 : decode cX12_skin 97 = .ok (.iconst 1, 1) := by decide +kernel
theorem dX12_skin_98 : decode cX12_skin 98 = .ok (.iaload, 1) := by decide +kernel
theorem dX12_skin_99 : decode cX12_skin 99 = .ok (.bipush 30, 2) := by decide +kernel
theorem dX12_skin_101 : decode cX12_skin 101 = .ok (.if_icmp .ne 5, 3) := by decide +kernel
theorem dX12_skin_104 : decode cX12_skin 104 = .ok (.iconst (-1), 1) := by decide +kernel
theorem dX12_skin_105 : decode cX12_skin 105 = .ok (.ireturn, 1) := by decide +kernel
theorem dX12_skin_106 : decode cX12_skin 106 = .ok (.sipush 336, 3) := by decide +kernel
theorem dX12_skin_109 : decode cX12_skin 109 = .ok (.bipush 17, 2) := by decide +kernel
theorem dX12_skin_111 : decode cX12_skin 111 = .ok (.aload_n 0, 1) := by decide +kernel
theorem dX12_skin_112 : decode cX12_skin 112 = .ok (.getfield 9, 3) := by decide +kernel
theorem dX12_skin_115 : decode cX12_skin 115 = .ok (.iconst 1, 1) := by decide +kernel
theorem dX12_skin_116 : decode cX12_skin 116 = .ok (.iaload, 1) := by decide +kernel
theorem dX12_skin_117 : decode cX12_skin 117 = .ok (.imul, 1) := by decide +kernel
theorem dX12_skin_118 : decode cX12_skin 118 = .ok (.iadd, 1) := by decide +kernel
theorem dX12_skin_119 : decode cX12_skin 119 = .ok (.istore 6, 2) := by decide +kernel
theorem dX12_skin_121 : decode cX12_skin 121 = .ok (.aload_n 0, 1) := by decide +kernel
theorem dX12_skin_122 : decode cX12_skin 122 = .ok (.getfield 9, 3) := by decide +kernel
theorem dX12_skin_125 : decode cX12_skin 125 = .ok (.iload 6, 2) := by decide +kernel
theorem dX12_skin_127 : decode cX12_skin 127 = .ok (.iconst 0, 1) := by decide +kernel
theorem dX12_skin_128 : decode cX12_skin 128 = .ok (.iadd, 1) := by decide +kernel
theorem dX12_skin_129 : decode cX12_skin 129 = .ok (.iload_n 1, 1) := by decide +kernel
theorem dX12_skin_130 : decode cX12_skin 130 = .ok (.iastore, 1) := by decide +kernel
theorem dX12_skin_131 : decode cX12_skin 131 = .ok (.aload_n 0, 1) := by decide +kernel
theorem dX12_skin_132 : decode cX12_skin 132 = .ok (.getfield 9, 3) := by decide +kernel
theorem dX12_skin_135 : decode cX12_skin 135 = .ok (.iload 6, 2) := by decide +kernel
theorem dX12_skin_137 : decode cX12_skin 137 = .ok (.iconst 1, 1) := by decide +kernel
theorem dX12_skin_138 : decode cX12_skin 138 = .ok (.iadd, 1) := by decide +kernel
theorem dX12_skin_139 : decode cX12_skin 139 = .ok (.iload_n 2, 1) := by decide +kernel
theorem dX12_skin_140 : decode cX12_skin 140 = .ok (.iastore, 1) := by decide +kernel
theorem dX12_skin_141 : decode cX12_skin 141 = .ok (.aload_n 0, 1) := by decide +kernel
theorem dX12_skin_142 : decode cX12_skin 142 = .ok (.getfield 9, 3) := by decide +kernel
theorem dX12_skin_145 : decode cX12_skin 145 = .ok (.iload 6, 2) := by decide +kernel
theorem dX12_skin_147 : decode cX12_skin 147 = .ok (.iconst 2, 1) := by decide +kernel
theorem dX12_skin_148 : decode cX12_skin 148 = .ok (.iadd, 1) := by decide +kernel
theorem dX12_skin_149 : decode cX12_skin 149 = .ok (.iload_n 2, 1) := by decide +kernel
theorem dX12_skin_150 : decode cX12_skin 150 = .ok (.ifCond .ne 7, 3) := by decide +kernel
theorem dX12_skin_153 : decode cX12_skin 153 = .ok (.iconst (-1), 1) := by decide +kernel
theorem dX12_skin_154 : decode cX12_skin 154 = .ok (.goto 4, 3) := by decide +kernel
theorem dX12_skin_157 : decode cX12_skin 157 = .ok (.iload_n 3, 1) := by decide +kernel
theorem dX12_skin_158 : decode cX12_skin 158 = .ok (.iastore, 1) := by decide +kernel
theorem dX12_skin_159 : decode cX12_skin 159 = .ok (.aload_n 0, 1) := by decide +kernel
theorem dX12_skin_160 : decode cX12_skin 160 = .ok (.getfield 9, 3) := by decide +kernel
theorem dX12_skin_163 : decode cX12_skin 163 = .ok (.iload 6, 2) := by decide +kernel
theorem dX12_skin_165 : decode cX12_skin 165 = .ok (.iconst 3, 1) := by decide +kernel
theorem dX12_skin_166 : decode cX12_skin 166 = .ok (.iadd, 1) := by decide +kernel
theorem dX12_skin_167 : decode cX12_skin 167 = .ok (.iload 4, 2) := by decide +kernel
theorem dX12_skin_169 : decode cX12_skin 169 = .ok (.iastore, 1) := by decide +kernel
theorem dX12_skin_170 : decode cX12_skin 170 = .ok (.aload_n 0, 1) := by decide +kernel
theorem dX12_skin_171 : decode cX12_skin 171 = .ok (.getfield 9, 3) := by decide +kernel
theorem dX12_skin_174 : decode cX12_skin 174 = .ok (.iload 6, 2) := by decide +kernel
theorem dX12_skin_176 : decode cX12_skin 176 = .ok (.iconst 4, 1) := by decide +kernel
theorem dX12_skin_177 : decode cX12_skin 177 = .ok (.iadd, 1) := by decide +kernel
theorem dX12_skin_178 : decode cX12_skin 178 = .ok (.iconst 0, 1) := by decide +kernel
theorem dX12_skin_179 : decode cX12_skin 179 = .ok (.iastore, 1) := by decide +kernel
theorem dX12_skin_180 : decode cX12_skin 180 = .ok (.aload_n 0, 1) := by decide +kernel
theorem dX12_skin_181 : decode cX12_skin 181 = .ok (.getfield 9, 3) := by decide +kernel
theorem dX12_skin_184 : decode cX12_skin 184 = .ok (.iconst 1, 1) := by decide +kernel
theorem dX12_skin_185 : decode cX12_skin 185 = .ok (.dup2, 1) := by decide +kernel
theorem dX12_skin_186 : decode cX12_skin 186 = .ok (.iaload, 1) := by decide +kernel
theorem dX12_skin_187 : decode cX12_skin 187 = .ok (.iconst 1, 1) := by decide +kernel
theorem dX12_skin_188 : decode cX12_skin 188 = .ok (.iadd, 1) := by decide +kernel
theorem dX12_skin_189 : decode cX12_skin 189 = .ok (.iastore, 1) := by decide +kernel
theorem dX12_skin_190 : decode cX12_skin 190 = .ok (.aload_n 0, 1) := by decide +kernel
theorem dX12_skin_191 : decode cX12_skin 191 = .ok (.getfield 9, 3) := by decide +kernel
theorem dX12_skin_194 : decode cX12_skin 194 = .ok (.iconst 1, 1) := by decide +kernel
theorem dX12_skin_195 : decode cX12_skin 195 = .ok (.iaload, 1) := by decide +kernel
theorem dX12_skin_196 : decode cX12_skin 196 = .ok (.iconst 1, 1) := by decide +kernel
theorem dX12_skin_197 : decode cX12_skin 197 = .ok (.isub, 1) := by decide +kernel
theorem dX12_skin_198 : decode cX12_skin 198 = .ok (.ireturn, 1) := by decide +kernel
abbrev z_X12_skin_174 : Z9 := (some .int, 1, 0, 0, 3, 46)
def m_X12_skin_174_c87 (d : D9) : Option R9 := cl (m_X12_fails_174 2 d) (fun r1 d2 => rt r1 d2)
def m_X12_skin_174_c158 (v4 v6 s0 s1 : Int) (d : D9) : Option R9 := sd d 175 1604 s1 s0 (fun d1 => sd d1 175 1604 (v6 + 3) v4 (fun d2 => sd d2 175 1604 (v6 + 4) 0 (fun d3 => ld d3 175 1604 1 (fun t4 => sd d3 175 1604 1 (t4 + 1) (fun d5 => ld d5 175 1604 1 (fun t6 => rt (t6 - 1) d5))))))
def m_X12_skin_174_c93 (v1 v2 v3 v4 : Int) (d : D9) : Option R9 := ld d 175 1604 1 (fun t1 => if w32 t1 ≠ w32 30 then ld d 175 1604 1 (fun t2 => lt9v (336 + (17 * t2)) (fun a3 => sd d 175 1604 (a3 + 0) v1 (fun d4 => sd d4 175 1604 (a3 + 1) v2 (fun d5 => if w32 v2 ≠ 0 then m_X12_skin_174_c158  v4 a3 v3 (a3 + 2) d5 else m_X12_skin_174_c158  v4 a3 (-1) (a3 + 2) d5)))) else rt (-1) d)
def m_X12_skin_174_c35 (v1 v2 v3 v4 v5 : Int) (d : D9) : Option R9 := cl (m_X12_within (w32 v1) 0 5 d) (fun r1 d2 => if w32 r1 = 0 then m_X12_skin_174_c87   d2 else cl (m_X12_within (w32 v2) 0 2 d2) (fun r3 d4 => if w32 r3 = 0 then m_X12_skin_174_c87   d4 else cl (m_X12_within (w32 v4) 1 99 d4) (fun r5 d6 => if w32 r5 = 0 then m_X12_skin_174_c87   d6 else if w32 v5 = 0 then m_X12_skin_174_c93  v1 v2 v3 v4 d6 else cl (m_X12_ofPaint_174 v3 1 d6) (fun r7 d8 => if w32 r7 = w32 v1 then m_X12_skin_174_c93  v1 v2 v3 v4 d8 else m_X12_skin_174_c87   d8))))
def m_X12_skin_174 (p1 p2 p3 p4 : Int) (d : D9) : Option R9 := pf d 174 3 0 (fun d1 => cl (m_X12_within (w32 p2) 1 2 d1) (fun r2 d3 => if w32 r2 = 0 then m_X12_skin_174_c35  p1 p2 p3 p4 r2 d3 else cl (m_X12_isPaint_174 p3 d3) (fun r4 d5 => if w32 r4 ≠ 0 then m_X12_skin_174_c35  p1 p2 p3 p4 r2 d5 else cl (m_X12_fails_174 1 d5) (fun r6 d7 => rt r6 d7))))
set_option maxRecDepth 100000 in
theorem s_X12_skin_174_c87 {G : G9} {X : X9} (C : CX G X cX12_skin 7 RX12 [] z_X12_skin_174) : ∀ (d : D9), SS G X 7 0 0 87 [(0, rf G 174)] [] d (m_X12_skin_174_c87   d) := by
  intro  d
  unfold m_X12_skin_174_c87
  refine r_aload_n C 0 dX12_skin_87 rfl rfl ?_
  refine r_iconst C dX12_skin_88 ?_
  refine r_callV C [i9 2, rf G 174] dX12_skin_89 (t_X12_fails_174 C.h1 C.h2 2 d) mw_X12_89 mv_X12_fails la_174 ly_174 rfl (by decide) (by decide) (by decide) rfl rfl (Nat.le_of_ble_eq_true rfl) (fun r1 d2 => ?_)
  show SS G X 7 _ _ 92 [(0, rf G 174)] [i9 r1] d2 _
  exact r_iret C dX12_skin_92 (by decide) (by decide)
set_option maxRecDepth 100000 in
theorem s_X12_skin_174_c158 {G : G9} {X : X9} (C : CX G X cX12_skin 7 RX12 [] z_X12_skin_174) : ∀ (v4 v6 s0 s1 : Int) (d : D9), SS G X 7 0 0 158 [(0, rf G 174), (4, i9 v4), (6, i9 v6)] [i9 s0, i9 s1, rf G 175] d (m_X12_skin_174_c158  v4 v6 s0 s1 d) := by
  intro v4 v6 s0 s1 d
  unfold m_X12_skin_174_c158
  refine r_iast C dX12_skin_158 la_175 ly_175 (fun d1 => ?_)
  refine r_aload_n C 0 dX12_skin_159 rfl rfl ?_
  refine r_getR C 175 dX12_skin_160 fl_X12_9 la_174 ly_174 rfl rfl ?_
  refine r_iload C 2 dX12_skin_163 rfl ?_
  refine r_iconst C dX12_skin_165 ?_
  refine r_iadd C dX12_skin_166 ?_
  refine r_iload C 1 dX12_skin_167 rfl ?_
  refine r_iast C dX12_skin_169 la_175 ly_175 (fun d2 => ?_)
  refine r_aload_n C 0 dX12_skin_170 rfl rfl ?_
  refine r_getR C 175 dX12_skin_171 fl_X12_9 la_174 ly_174 rfl rfl ?_
  refine r_iload C 2 dX12_skin_174 rfl ?_
  refine r_iconst C dX12_skin_176 ?_
  refine r_iadd C dX12_skin_177 ?_
  refine r_iconst C dX12_skin_178 ?_
  refine r_iast C dX12_skin_179 la_175 ly_175 (fun d3 => ?_)
  refine r_aload_n C 0 dX12_skin_180 rfl rfl ?_
  refine r_getR C 175 dX12_skin_181 fl_X12_9 la_174 ly_174 rfl rfl ?_
  refine r_iconst C dX12_skin_184 ?_
  refine r_dup2 C dX12_skin_185 rfl rfl ?_
  refine r_iald C dX12_skin_186 la_175 ly_175 (fun t4 => ?_)
  refine r_iconst C dX12_skin_187 ?_
  refine r_iadd C dX12_skin_188 ?_
  refine r_iast C dX12_skin_189 la_175 ly_175 (fun d5 => ?_)
  refine r_aload_n C 0 dX12_skin_190 rfl rfl ?_
  refine r_getR C 175 dX12_skin_191 fl_X12_9 la_174 ly_174 rfl rfl ?_
  refine r_iconst C dX12_skin_194 ?_
  refine r_iald C dX12_skin_195 la_175 ly_175 (fun t6 => ?_)
  refine r_iconst C dX12_skin_196 ?_
  refine r_isub C dX12_skin_197 ?_
  exact r_iret C dX12_skin_198 (by decide) (by decide)
set_option maxRecDepth 100000 in
theorem s_X12_skin_174_c93 {G : G9} {X : X9} (C : CX G X cX12_skin 7 RX12 [] z_X12_skin_174) : ∀ (v1 v2 v3 v4 : Int) (d : D9), SS G X 7 0 0 93 [(0, rf G 174), (1, i9 v1), (2, i9 v2), (3, i9 v3), (4, i9 v4)] [] d (m_X12_skin_174_c93  v1 v2 v3 v4 d) := by
  intro v1 v2 v3 v4 d
  unfold m_X12_skin_174_c93
  refine r_aload_n C 0 dX12_skin_93 rfl rfl ?_
  refine r_getR C 175 dX12_skin_94 fl_X12_9 la_174 ly_174 rfl rfl ?_
  refine r_iconst C dX12_skin_97 ?_
  refine r_iald C dX12_skin_98 la_175 ly_175 (fun t1 => ?_)
  refine r_bipush C dX12_skin_99 rfl ?_
  refine r_icmp_ne C 106 dX12_skin_101 (by decide) (fun _ => ?_) (fun _ => ?_)
  · refine r_sipush C dX12_skin_106 rfl ?_
    refine r_bipush C dX12_skin_109 rfl ?_
    refine r_aload_n C 0 dX12_skin_111 rfl rfl ?_
    refine r_getR C 175 dX12_skin_112 fl_X12_9 la_174 ly_174 rfl rfl ?_
    refine r_iconst C dX12_skin_115 ?_
    refine r_iald C dX12_skin_116 la_175 ly_175 (fun t2 => ?_)
    refine r_imul C dX12_skin_117 ?_
    refine r_iadd C dX12_skin_118 ?_
    refine ss_lt (fun a3 => ?_)
    refine r_istore C [(6, i9 a3), (0, rf G 174), (1, i9 v1), (2, i9 v2), (3, i9 v3), (4, i9 v4)] dX12_skin_119 (by decide) rfl ?_
    refine r_aload_n C 1 dX12_skin_121 rfl rfl ?_
    refine r_getR C 175 dX12_skin_122 fl_X12_9 la_174 ly_174 rfl rfl ?_
    refine r_iload C 0 dX12_skin_125 rfl ?_
    refine r_iconst C dX12_skin_127 ?_
    refine r_iadd C dX12_skin_128 ?_
    refine r_iload_n C 2 dX12_skin_129 rfl rfl ?_
    refine r_iast C dX12_skin_130 la_175 ly_175 (fun d4 => ?_)
    refine r_aload_n C 1 dX12_skin_131 rfl rfl ?_
    refine r_getR C 175 dX12_skin_132 fl_X12_9 la_174 ly_174 rfl rfl ?_
    refine r_iload C 0 dX12_skin_135 rfl ?_
    refine r_iconst C dX12_skin_137 ?_
    refine r_iadd C dX12_skin_138 ?_
    refine r_iload_n C 3 dX12_skin_139 rfl rfl ?_
    refine r_iast C dX12_skin_140 la_175 ly_175 (fun d5 => ?_)
    refine r_aload_n C 1 dX12_skin_141 rfl rfl ?_
    refine r_getR C 175 dX12_skin_142 fl_X12_9 la_174 ly_174 rfl rfl ?_
    refine r_iload C 0 dX12_skin_145 rfl ?_
    refine r_iconst C dX12_skin_147 ?_
    refine r_iadd C dX12_skin_148 ?_
    refine r_iload_n C 3 dX12_skin_149 rfl rfl ?_
    refine r_if_ne C (b := 0) 157 dX12_skin_150 (by decide) (fun _ => ?_) (fun _ => ?_)
    · refine r_iload_n C 4 dX12_skin_157 rfl rfl ?_
      refine ss_wide (k' := 0) (n' := 0) (by decide) (by decide) ?_
      refine ss_ls [(0, rf G 174), (4, i9 v4), (6, i9 a3)] [1, 5, 0] rfl ?_
      exact s_X12_skin_174_c158 C  v4 a3 v3 (a3 + 2) d5
    · refine r_iconst C dX12_skin_153 ?_
      refine r_goto C 158 dX12_skin_154 (by decide) ?_
      refine ss_wide (k' := 0) (n' := 0) (by decide) (by decide) ?_
      refine ss_ls [(0, rf G 174), (4, i9 v4), (6, i9 a3)] [1, 5, 0] rfl ?_
      exact s_X12_skin_174_c158 C  v4 a3 (-1) (a3 + 2) d5
  · refine r_iconst C dX12_skin_104 ?_
    exact r_iret C dX12_skin_105 (by decide) (by decide)
set_option maxRecDepth 100000 in
theorem s_X12_skin_174_c35 {G : G9} {X : X9} (C : CX G X cX12_skin 7 RX12 [] z_X12_skin_174) : ∀ (v1 v2 v3 v4 v5 : Int) (d : D9), SS G X 7 0 0 35 [(0, rf G 174), (1, i9 v1), (2, i9 v2), (3, i9 v3), (4, i9 v4), (5, i9 v5)] [] d (m_X12_skin_174_c35  v1 v2 v3 v4 v5 d) := by
  intro v1 v2 v3 v4 v5 d
  unfold m_X12_skin_174_c35
  refine r_iload_n C 1 dX12_skin_35 rfl rfl ?_
  refine r_i2l C dX12_skin_36 ?_
  refine r_lconst C dX12_skin_37 (a := 0) rfl ?_
  refine r_ldcL C dX12_skin_38 kc_X12_85 ?_
  refine r_callS C [l9 5, l9 0, l9 (w32 v1)] dX12_skin_41 (t_X12_within C.h1 C.h2 (w32 v1) 0 5 d) mw_X12_79 ms_X12_within (by decide) (by decide) (by decide) rfl rfl (Nat.le_of_ble_eq_true rfl) (fun r1 d2 => ?_)
  show SS G X 7 _ _ 44 [(0, rf G 174), (1, i9 v1), (2, i9 v2), (3, i9 v3), (4, i9 v4), (5, i9 v5)] [i9 r1] d2 _
  refine r_if_eq C (b := 0) 87 dX12_skin_44 (by decide) (fun _ => ?_) (fun _ => ?_)
  · refine ss_wide (k' := 0) (n' := 0) (by decide) (by decide) ?_
    refine ss_ls [(0, rf G 174)] [0] rfl ?_
    exact s_X12_skin_174_c87 C   d2
  · refine r_iload_n C 2 dX12_skin_47 rfl rfl ?_
    refine r_i2l C dX12_skin_48 ?_
    refine r_lconst C dX12_skin_49 (a := 0) rfl ?_
    refine r_ldcL C dX12_skin_50 kc_X12_114 ?_
    refine r_callS C [l9 2, l9 0, l9 (w32 v2)] dX12_skin_53 (t_X12_within C.h1 C.h2 (w32 v2) 0 2 d2) mw_X12_79 ms_X12_within (by decide) (by decide) (by decide) rfl rfl (Nat.le_of_ble_eq_true rfl) (fun r3 d4 => ?_)
    show SS G X 7 _ _ 56 [(0, rf G 174), (1, i9 v1), (2, i9 v2), (3, i9 v3), (4, i9 v4), (5, i9 v5)] [i9 r3] d4 _
    refine r_if_eq C (b := 0) 87 dX12_skin_56 (by decide) (fun _ => ?_) (fun _ => ?_)
    · refine ss_wide (k' := 0) (n' := 0) (by decide) (by decide) ?_
      refine ss_ls [(0, rf G 174)] [0] rfl ?_
      exact s_X12_skin_174_c87 C   d4
    · refine r_iload C 4 dX12_skin_59 rfl ?_
      refine r_i2l C dX12_skin_61 ?_
      refine r_lconst C dX12_skin_62 (a := 1) rfl ?_
      refine r_ldcL C dX12_skin_63 kc_X12_93 ?_
      refine r_callS C [l9 99, l9 1, l9 (w32 v4)] dX12_skin_66 (t_X12_within C.h1 C.h2 (w32 v4) 1 99 d4) mw_X12_79 ms_X12_within (by decide) (by decide) (by decide) rfl rfl (Nat.le_of_ble_eq_true rfl) (fun r5 d6 => ?_)
      show SS G X 7 _ _ 69 [(0, rf G 174), (1, i9 v1), (2, i9 v2), (3, i9 v3), (4, i9 v4), (5, i9 v5)] [i9 r5] d6 _
      refine r_if_eq C (b := 0) 87 dX12_skin_69 (by decide) (fun _ => ?_) (fun _ => ?_)
      · refine ss_wide (k' := 0) (n' := 0) (by decide) (by decide) ?_
        refine ss_ls [(0, rf G 174)] [0] rfl ?_
        exact s_X12_skin_174_c87 C   d6
      · refine r_iload C 5 dX12_skin_72 rfl ?_
        refine r_if_eq C (b := 0) 93 dX12_skin_74 (by decide) (fun _ => ?_) (fun _ => ?_)
        · refine ss_wide (k' := 0) (n' := 0) (by decide) (by decide) ?_
          refine ss_ls [(0, rf G 174), (1, i9 v1), (2, i9 v2), (3, i9 v3), (4, i9 v4)] [0, 1, 2, 3, 4] rfl ?_
          exact s_X12_skin_174_c93 C  v1 v2 v3 v4 d6
        · refine r_aload_n C 0 dX12_skin_77 rfl rfl ?_
          refine r_iload_n C 3 dX12_skin_78 rfl rfl ?_
          refine r_iconst C dX12_skin_79 ?_
          refine r_callV C [i9 1, i9 v3, rf G 174] dX12_skin_80 (t_X12_ofPaint_174 C.h1 C.h2 v3 1 d6) mw_X12_99 mv_X12_ofPaint la_174 ly_174 rfl (by decide) (by decide) (by decide) rfl rfl (Nat.le_of_ble_eq_true rfl) (fun r7 d8 => ?_)
          show SS G X 7 _ _ 83 [(0, rf G 174), (1, i9 v1), (2, i9 v2), (3, i9 v3), (4, i9 v4), (5, i9 v5)] [i9 r7] d8 _
          refine r_iload_n C 1 dX12_skin_83 rfl rfl ?_
          refine r_icmp_eq C 93 dX12_skin_84 (by decide) (fun _ => ?_) (fun _ => ?_)
          · refine ss_wide (k' := 0) (n' := 0) (by decide) (by decide) ?_
            refine ss_ls [(0, rf G 174), (1, i9 v1), (2, i9 v2), (3, i9 v3), (4, i9 v4)] [0, 1, 2, 3, 4] rfl ?_
            exact s_X12_skin_174_c93 C  v1 v2 v3 v4 d8
          · refine ss_wide (k' := 0) (n' := 0) (by decide) (by decide) ?_
            refine ss_ls [(0, rf G 174)] [0] rfl ?_
            exact s_X12_skin_174_c87 C   d8
set_option maxRecDepth 100000 in
theorem t_X12_skin_174 {G : G9} {l : Launch} (h1 : va_D (A9 G) (wl G (fun _ _ => 0))) (h2 : l.stackTraces = false) (p1 p2 p3 p4 : Int) (d : D9) : MT G l yX12_skin cX12_skin 7 z_X12_skin_174 [rf G 174, i9 p1, i9 p2, i9 p3, i9 p4] d (m_X12_skin_174 p1 p2 p3 p4 d) := by
  refine mt_of (own := RX12) (by decide) rfl (Nat.le_of_ble_eq_true rfl) h1 h2 [(0, rf G 174), (1, i9 p1), (2, i9 p2), (3, i9 p3), (4, i9 p4)] rfl (fun X hX C => ?_)
  unfold m_X12_skin_174
  refine r_aload_n C 0 dX12_skin_0 rfl rfl ?_
  refine r_iconst C dX12_skin_1 ?_
  refine r_putI C dX12_skin_2 fp_X12_76 la_174 ly_174 rfl (fun d1 => ?_)
  refine r_iload_n C 2 dX12_skin_5 rfl rfl ?_
  refine r_i2l C dX12_skin_6 ?_
  refine r_lconst C dX12_skin_7 (a := 1) rfl ?_
  refine r_ldcL C dX12_skin_8 kc_X12_114 ?_
  refine r_callS C [l9 2, l9 1, l9 (w32 p2)] dX12_skin_11 (t_X12_within C.h1 C.h2 (w32 p2) 1 2 d1) mw_X12_79 ms_X12_within (by decide) (by decide) (by decide) rfl rfl (Nat.le_of_ble_eq_true rfl) (fun r2 d3 => ?_)
  show SS G X 7 _ _ 14 [(0, rf G 174), (1, i9 p1), (2, i9 p2), (3, i9 p3), (4, i9 p4)] [i9 r2] d3 _
  refine r_istore C [(5, i9 r2), (0, rf G 174), (1, i9 p1), (2, i9 p2), (3, i9 p3), (4, i9 p4)] dX12_skin_14 (by decide) rfl ?_
  refine r_iload C 0 dX12_skin_16 rfl ?_
  refine r_if_eq C (b := 0) 35 dX12_skin_18 (by decide) (fun _ => ?_) (fun _ => ?_)
  · refine ss_wide (k' := 0) (n' := 0) (by decide) (by decide) ?_
    refine ss_ls [(0, rf G 174), (1, i9 p1), (2, i9 p2), (3, i9 p3), (4, i9 p4), (5, i9 r2)] [1, 2, 3, 4, 5, 0] rfl ?_
    exact s_X12_skin_174_c35 C  p1 p2 p3 p4 r2 d3
  · refine r_aload_n C 1 dX12_skin_21 rfl rfl ?_
    refine r_iload_n C 4 dX12_skin_22 rfl rfl ?_
    refine r_callV C [i9 p3, rf G 174] dX12_skin_23 (t_X12_isPaint_174 C.h1 C.h2 p3 d3) mw_X12_95 mv_X12_isPaint la_174 ly_174 rfl (by decide) (by decide) (by decide) rfl rfl (Nat.le_of_ble_eq_true rfl) (fun r4 d5 => ?_)
    show SS G X 7 _ _ 26 [(5, i9 r2), (0, rf G 174), (1, i9 p1), (2, i9 p2), (3, i9 p3), (4, i9 p4)] [i9 r4] d5 _
    refine r_if_ne C (b := 0) 35 dX12_skin_26 (by decide) (fun _ => ?_) (fun _ => ?_)
    · refine ss_wide (k' := 0) (n' := 0) (by decide) (by decide) ?_
      refine ss_ls [(0, rf G 174), (1, i9 p1), (2, i9 p2), (3, i9 p3), (4, i9 p4), (5, i9 r2)] [1, 2, 3, 4, 5, 0] rfl ?_
      exact s_X12_skin_174_c35 C  p1 p2 p3 p4 r2 d5
    · refine r_aload_n C 1 dX12_skin_29 rfl rfl ?_
      refine r_iconst C dX12_skin_30 ?_
      refine r_callV C [i9 1, rf G 174] dX12_skin_31 (t_X12_fails_174 C.h1 C.h2 1 d5) mw_X12_89 mv_X12_fails la_174 ly_174 rfl (by decide) (by decide) (by decide) rfl rfl (Nat.le_of_ble_eq_true rfl) (fun r6 d7 => ?_)
      show SS G X 7 _ _ 34 [(5, i9 r2), (0, rf G 174), (1, i9 p1), (2, i9 p2), (3, i9 p3), (4, i9 p4)] [i9 r6] d7 _
      exact r_iret C dX12_skin_34 (by decide) (by decide)
theorem dX12_sort_0 : decode cX12_sort 0 = .ok (.aload_n 0, 1) := by decide +kernel
theorem dX12_sort_1 : decode cX12_sort 1 = .ok (.iconst 0, 1) := by decide +kernel
theorem dX12_sort_2 : decode cX12_sort 2 = .ok (.putfield 76, 3) := by decide +kernel
theorem dX12_sort_5 : decode cX12_sort 5 = .ok (.aload_n 0, 1) := by decide +kernel
theorem dX12_sort_6 : decode cX12_sort 6 = .ok (.iload_n 1, 1) := by decide +kernel
theorem dX12_sort_7 : decode cX12_sort 7 = .ok (.invokevirtual 118, 3) := by decide +kernel
theorem dX12_sort_10 : decode cX12_sort 10 = .ok (.ifCond .eq 11, 3) := by decide +kernel
theorem dX12_sort_13 : decode cX12_sort 13 = .ok (.aload_n 0, 1) := by decide +kernel
theorem dX12_sort_14 : decode cX12_sort 14 = .ok (.iload_n 1, 1) := by decide +kernel
theorem dX12_sort_15 : decode cX12_sort 15 = .ok (.invokevirtual 331, 3) := by decide +kernel
theorem dX12_sort_18 : decode cX12_sort 18 = .ok (.goto 8, 3) := by decide +kernel
theorem dX12_sort_21 : decode cX12_sort 21 = .ok (.aload_n 0, 1) := by decide +kernel
theorem dX12_sort_22 : decode cX12_sort 22 = .ok (.iconst 1, 1) := by decide +kernel
theorem dX12_sort_23 : decode cX12_sort 23 = .ok (.invokevirtual 89, 3) := by decide +kernel
theorem dX12_sort_26 : decode cX12_sort 26 = .ok (.ireturn, 1) := by decide +kernel
abbrev z_X12_sort_174 : Z9 := (some .int, 1, 0, 0, 8, 201)
def m_X12_sort_174 (p1 : Int) (d : D9) : Option R9 := pf d 174 3 0 (fun d1 => cl (m_X12_isSkin_174 p1 d1) (fun r2 d3 => if w32 r2 = 0 then cl (m_X12_fails_174 1 d3) (fun r4 d5 => rt r4 d5) else cl (m_X12_sortOf_174 p1 d3) (fun r6 d7 => rt r6 d7)))
set_option maxRecDepth 100000 in
theorem t_X12_sort_174 {G : G9} {l : Launch} (h1 : va_D (A9 G) (wl G (fun _ _ => 0))) (h2 : l.stackTraces = false) (p1 : Int) (d : D9) : MT G l yX12_sort cX12_sort 2 z_X12_sort_174 [rf G 174, i9 p1] d (m_X12_sort_174 p1 d) := by
  refine mt_of (own := RX12) (by decide) rfl (Nat.le_of_ble_eq_true rfl) h1 h2 [(0, rf G 174), (1, i9 p1)] rfl (fun X hX C => ?_)
  unfold m_X12_sort_174
  refine r_aload_n C 0 dX12_sort_0 rfl rfl ?_
  refine r_iconst C dX12_sort_1 ?_
  refine r_putI C dX12_sort_2 fp_X12_76 la_174 ly_174 rfl (fun d1 => ?_)
  refine r_aload_n C 0 dX12_sort_5 rfl rfl ?_
  refine r_iload_n C 1 dX12_sort_6 rfl rfl ?_
  refine r_callV C [i9 p1, rf G 174] dX12_sort_7 (t_X12_isSkin_174 C.h1 C.h2 p1 d1) mw_X12_118 mv_X12_isSkin la_174 ly_174 rfl (by decide) (by decide) (by decide) rfl rfl (Nat.le_of_ble_eq_true rfl) (fun r2 d3 => ?_)
  show SS G X 2 _ _ 10 [(0, rf G 174), (1, i9 p1)] [i9 r2] d3 _
  refine r_if_eq C (b := 0) 21 dX12_sort_10 (by decide) (fun _ => ?_) (fun _ => ?_)
  · refine r_aload_n C 0 dX12_sort_21 rfl rfl ?_
    refine r_iconst C dX12_sort_22 ?_
    refine r_callV C [i9 1, rf G 174] dX12_sort_23 (t_X12_fails_174 C.h1 C.h2 1 d3) mw_X12_89 mv_X12_fails la_174 ly_174 rfl (by decide) (by decide) (by decide) rfl rfl (Nat.le_of_ble_eq_true rfl) (fun r4 d5 => ?_)
    show SS G X 2 _ _ 26 [(0, rf G 174), (1, i9 p1)] [i9 r4] d5 _
    exact r_iret C dX12_sort_26 (by decide) (by decide)
  · refine r_aload_n C 0 dX12_sort_13 rfl rfl ?_
    refine r_iload_n C 1 dX12_sort_14 rfl rfl ?_
    refine r_callV C [i9 p1, rf G 174] dX12_sort_15 (t_X12_sortOf_174 C.h1 C.h2 p1 d3) mw_X12_331 mv_X12_sortOf la_174 ly_174 rfl (by decide) (by decide) (by decide) rfl rfl (Nat.le_of_ble_eq_true rfl) (fun r6 d7 => ?_)
    show SS G X 2 _ _ 18 [(0, rf G 174), (1, i9 p1)] [i9 r6] d7 _
    refine r_goto C 26 dX12_sort_18 (by decide) ?_
    exact r_iret C dX12_sort_26 (by decide) (by decide)
theorem dX12_span_0 : decode cX12_span 0 = .ok (.aload_n 0, 1) := by decide +kernel
theorem dX12_span_1 : decode cX12_span 1 = .ok (.iconst 0, 1) := by decide +kernel
theorem dX12_span_2 : decode cX12_span 2 = .ok (.putfield 76, 3) := by decide +kernel
theorem dX12_span_5 : decode cX12_span 5 = .ok (.aload_n 0, 1) := by decide +kernel
theorem dX12_span_6 : decode cX12_span 6 = .ok (.iload_n 1, 1) := by decide +kernel
theorem dX12_span_7 : decode cX12_span 7 = .ok (.invokevirtual 118, 3) := by decide +kernel
theorem dX12_span_10 : decode cX12_span 10 = .ok (.ifCond .eq 21, 3) := by decide +kernel
theorem dX12_span_13 : decode cX12_span 13 = .ok (.iload_n 2, 1) := by decide +kernel
theorem dX12_span_14 : decode cX12_span 14 = .ok (.i2l, 1) := by decide +kernel
theorem dX12_span_15 : decode cX12_span 15 = .ok (.lconst 0, 1) := by decide +kernel
theorem dX12_span_16 : decode cX12_span 16 = .ok (.aload_n 0, 1) := by decide +kernel
theorem dX12_span_17 : decode cX12_span 17 = .ok (.iload_n 1, 1) := by decide +kernel
theorem dX12_span_18 : decode cX12_span 18 = .ok (.iconst 4, 1) := by decide +kernel
theorem dX12_span_19 : decode cX12_span 19 = .ok (.invokevirtual 124, 3) := by decide +kernel
theorem dX12_span_22 : decode cX12_span 22 = .ok (.iconst 1, 1) := by decide +kernel
theorem dX12_span_23 : decode cX12_span 23 = .ok (.isub, 1) := by decide +kernel
theorem dX12_span_24 : decode cX12_span 24 = .ok (.i2l, 1) := by decide +kernel
theorem dX12_span_25 : decode cX12_span 25 = .ok (.invokestatic 79, 3) := by decide +kernel
theorem dX12_span_28 : decode cX12_span 28 = .ok (.ifCond .ne 9, 3) := by decide +kernel
theorem dX12_span_31 : decode cX12_span 31 = .ok (.aload_n 0, 1) := by decide +kernel
theorem dX12_span_32 : decode cX12_span 32 = .ok (.iconst 1, 1) := by decide +kernel
theorem dX12_span_33 : decode cX12_span 33 = .ok (.invokevirtual 89, 3) := by decide +kernel
theorem dX12_span_36 : decode cX12_span 36 = .ok (.ireturn, 1) := by decide +kernel
theorem dX12_span_37 : decode cX12_span 37 = .ok (.aload_n 0, 1) := by decide +kernel
theorem dX12_span_38 : decode cX12_span 38 = .ok (.iload_n 1, 1) := by decide +kernel
theorem dX12_span_39 : decode cX12_span 39 = .ok (.iload_n 2, 1) := by decide +kernel
theorem dX12_span_40 : decode cX12_span 40 = .ok (.invokevirtual 318, 3) := by decide +kernel
theorem dX12_span_43 : decode cX12_span 43 = .ok (.ifCond .eq 7, 3) := by decide +kernel
theorem dX12_span_46 : decode cX12_span 46 = .ok (.iconst (-1), 1) := by decide +kernel
theorem dX12_span_47 : decode cX12_span 47 = .ok (.goto 10, 3) := by decide +kernel
theorem dX12_span_50 : decode cX12_span 50 = .ok (.aload_n 0, 1) := by decide +kernel
theorem dX12_span_51 : decode cX12_span 51 = .ok (.iload_n 1, 1) := by decide +kernel
theorem dX12_span_52 : decode cX12_span 52 = .ok (.iload_n 2, 1) := by decide +kernel
theorem dX12_span_53 : decode cX12_span 53 = .ok (.iload_n 3, 1) := by decide +kernel
theorem dX12_span_54 : decode cX12_span 54 = .ok (.invokevirtual 321, 3) := by decide +kernel
theorem dX12_span_57 : decode cX12_span 57 = .ok (.ireturn, 1) := by decide +kernel
abbrev z_X12_span_174 : Z9 := (some .int, 1, 0, 0, 6, 157)
def m_X12_span_174_c31 (d : D9) : Option R9 := cl (m_X12_fails_174 1 d) (fun r1 d2 => rt r1 d2)
def m_X12_span_174 (p1 p2 p3 : Int) (d : D9) : Option R9 := pf d 174 3 0 (fun d1 => cl (m_X12_isSkin_174 p1 d1) (fun r2 d3 => if w32 r2 = 0 then m_X12_span_174_c31   d3 else cl (m_X12_ofSkin_174 p1 4 d3) (fun r4 d5 => cl (m_X12_within (w32 p2) 0 (w32 (r4 - 1)) d5) (fun r6 d7 => if w32 r6 ≠ 0 then cl (m_X12_isThinAt_174 p1 p2 d7) (fun r8 d9 => if w32 r8 = 0 then cl (m_X12_spanAt_174 p1 p2 p3 d9) (fun r10 d11 => rt r10 d11) else rt (-1) d9) else m_X12_span_174_c31   d7))))
set_option maxRecDepth 100000 in
theorem s_X12_span_174_c31 {G : G9} {X : X9} (C : CX G X cX12_span 4 RX12 [] z_X12_span_174) : ∀ (d : D9), SS G X 4 0 0 31 [(0, rf G 174)] [] d (m_X12_span_174_c31   d) := by
  intro  d
  unfold m_X12_span_174_c31
  refine r_aload_n C 0 dX12_span_31 rfl rfl ?_
  refine r_iconst C dX12_span_32 ?_
  refine r_callV C [i9 1, rf G 174] dX12_span_33 (t_X12_fails_174 C.h1 C.h2 1 d) mw_X12_89 mv_X12_fails la_174 ly_174 rfl (by decide) (by decide) (by decide) rfl rfl (Nat.le_of_ble_eq_true rfl) (fun r1 d2 => ?_)
  show SS G X 4 _ _ 36 [(0, rf G 174)] [i9 r1] d2 _
  exact r_iret C dX12_span_36 (by decide) (by decide)
set_option maxRecDepth 100000 in
theorem t_X12_span_174 {G : G9} {l : Launch} (h1 : va_D (A9 G) (wl G (fun _ _ => 0))) (h2 : l.stackTraces = false) (p1 p2 p3 : Int) (d : D9) : MT G l yX12_span cX12_span 4 z_X12_span_174 [rf G 174, i9 p1, i9 p2, i9 p3] d (m_X12_span_174 p1 p2 p3 d) := by
  refine mt_of (own := RX12) (by decide) rfl (Nat.le_of_ble_eq_true rfl) h1 h2 [(0, rf G 174), (1, i9 p1), (2, i9 p2), (3, i9 p3)] rfl (fun X hX C => ?_)
  unfold m_X12_span_174
  refine r_aload_n C 0 dX12_span_0 rfl rfl ?_
  refine r_iconst C dX12_span_1 ?_
  refine r_putI C dX12_span_2 fp_X12_76 la_174 ly_174 rfl (fun d1 => ?_)
  refine r_aload_n C 0 dX12_span_5 rfl rfl ?_
  refine r_iload_n C 1 dX12_span_6 rfl rfl ?_
  refine r_callV C [i9 p1, rf G 174] dX12_span_7 (t_X12_isSkin_174 C.h1 C.h2 p1 d1) mw_X12_118 mv_X12_isSkin la_174 ly_174 rfl (by decide) (by decide) (by decide) rfl rfl (Nat.le_of_ble_eq_true rfl) (fun r2 d3 => ?_)
  show SS G X 4 _ _ 10 [(0, rf G 174), (1, i9 p1), (2, i9 p2), (3, i9 p3)] [i9 r2] d3 _
  refine r_if_eq C (b := 0) 31 dX12_span_10 (by decide) (fun _ => ?_) (fun _ => ?_)
  · refine ss_wide (k' := 0) (n' := 0) (by decide) (by decide) ?_
    refine ss_ls [(0, rf G 174)] [0] rfl ?_
    exact s_X12_span_174_c31 C   d3
  · refine r_iload_n C 2 dX12_span_13 rfl rfl ?_
    refine r_i2l C dX12_span_14 ?_
    refine r_lconst C dX12_span_15 (a := 0) rfl ?_
    refine r_aload_n C 0 dX12_span_16 rfl rfl ?_
    refine r_iload_n C 1 dX12_span_17 rfl rfl ?_
    refine r_iconst C dX12_span_18 ?_
    refine r_callV C [i9 4, i9 p1, rf G 174, l9 0, l9 (w32 p2)] dX12_span_19 (t_X12_ofSkin_174 C.h1 C.h2 p1 4 d3) mw_X12_124 mv_X12_ofSkin la_174 ly_174 rfl (by decide) (by decide) (by decide) rfl rfl (Nat.le_of_ble_eq_true rfl) (fun r4 d5 => ?_)
    show SS G X 4 _ _ 22 [(0, rf G 174), (1, i9 p1), (2, i9 p2), (3, i9 p3)] [i9 r4, l9 0, l9 (w32 p2)] d5 _
    refine r_iconst C dX12_span_22 ?_
    refine r_isub C dX12_span_23 ?_
    refine r_i2l C dX12_span_24 ?_
    refine r_callS C [l9 (w32 (r4 - 1)), l9 0, l9 (w32 p2)] dX12_span_25 (t_X12_within C.h1 C.h2 (w32 p2) 0 (w32 (r4 - 1)) d5) mw_X12_79 ms_X12_within (by decide) (by decide) (by decide) rfl rfl (Nat.le_of_ble_eq_true rfl) (fun r6 d7 => ?_)
    show SS G X 4 _ _ 28 [(0, rf G 174), (1, i9 p1), (2, i9 p2), (3, i9 p3)] [i9 r6] d7 _
    refine r_if_ne C (b := 0) 37 dX12_span_28 (by decide) (fun _ => ?_) (fun _ => ?_)
    · refine r_aload_n C 0 dX12_span_37 rfl rfl ?_
      refine r_iload_n C 1 dX12_span_38 rfl rfl ?_
      refine r_iload_n C 2 dX12_span_39 rfl rfl ?_
      refine r_callV C [i9 p2, i9 p1, rf G 174] dX12_span_40 (t_X12_isThinAt_174 C.h1 C.h2 p1 p2 d7) mw_X12_318 mv_X12_isThinAt la_174 ly_174 rfl (by decide) (by decide) (by decide) rfl rfl (Nat.le_of_ble_eq_true rfl) (fun r8 d9 => ?_)
      show SS G X 4 _ _ 43 [(0, rf G 174), (1, i9 p1), (2, i9 p2), (3, i9 p3)] [i9 r8] d9 _
      refine r_if_eq C (b := 0) 50 dX12_span_43 (by decide) (fun _ => ?_) (fun _ => ?_)
      · refine r_aload_n C 0 dX12_span_50 rfl rfl ?_
        refine r_iload_n C 1 dX12_span_51 rfl rfl ?_
        refine r_iload_n C 2 dX12_span_52 rfl rfl ?_
        refine r_iload_n C 3 dX12_span_53 rfl rfl ?_
        refine r_callV C [i9 p3, i9 p2, i9 p1, rf G 174] dX12_span_54 (t_X12_spanAt_174 C.h1 C.h2 p1 p2 p3 d9) mw_X12_321 mv_X12_spanAt la_174 ly_174 rfl (by decide) (by decide) (by decide) rfl rfl (Nat.le_of_ble_eq_true rfl) (fun r10 d11 => ?_)
        show SS G X 4 _ _ 57 [(0, rf G 174), (1, i9 p1), (2, i9 p2), (3, i9 p3)] [i9 r10] d11 _
        exact r_iret C dX12_span_57 (by decide) (by decide)
      · refine r_iconst C dX12_span_46 ?_
        refine r_goto C 57 dX12_span_47 (by decide) ?_
        exact r_iret C dX12_span_57 (by decide) (by decide)
    · refine ss_wide (k' := 0) (n' := 0) (by decide) (by decide) ?_
      refine ss_ls [(0, rf G 174)] [0] rfl ?_
      exact s_X12_span_174_c31 C   d7
theorem dX12_spread_0 : decode cX12_spread 0 = .ok (.aload_n 0, 1) := by decide +kernel
theorem dX12_spread_1 : decode cX12_spread 1 = .ok (.iconst 0, 1) := by decide +kernel
theorem dX12_spread_2 : decode cX12_spread 2 = .ok (.putfield 76, 3) := by decide +kernel
theorem dX12_spread_5 : decode cX12_spread 5 = .ok (.iload_n 1, 1) := by decide +kernel
theorem dX12_spread_6 : decode cX12_spread 6 = .ok (.i2l, 1) := by decide +kernel
theorem dX12_spread_7 : decode cX12_spread 7 = .ok (.lconst 0, 1) := by decide +kernel
theorem dX12_spread_8 : decode cX12_spread 8 = .ok (.ldc2_w 87, 3) := by decide +kernel
theorem dX12_spread_11 : decode cX12_spread 11 = .ok (.invokestatic 79, 3) := by decide +kernel
theorem dX12_spread_14 : decode cX12_spread 14 = .ok (.ifCond .ne 9, 3) := by decide +kernel
theorem dX12_spread_17 : decode cX12_spread 17 = .ok (.aload_n 0, 1) := by decide +kernel
theorem dX12_spread_18 : decode cX12_spread 18 = .ok (.iconst 1, 1) := by decide +kernel
theorem dX12_spread_19 : decode cX12_spread 19 = .ok (.invokevirtual 89, 3) := by decide +kernel
theorem dX12_spread_22 : decode cX12_spread 22 = .ok (.ireturn, 1) := by decide +kernel
theorem dX12_spread_23 : decode cX12_spread 23 = .ok (.iconst 0, 1) := by decide +kernel
theorem dX12_spread_24 : decode cX12_spread 24 = .ok (.istore_n 2, 1) := by decide +kernel
theorem dX12_spread_25 : decode cX12_spread 25 = .ok (.iconst 0, 1) := by decide +kernel
theorem dX12_spread_26 : decode cX12_spread 26 = .ok (.istore_n 3, 1) := by decide +kernel
theorem dX12_spread_27 : decode cX12_spread 27 = .ok (.iload_n 3, 1) := by decide +kernel
theorem dX12_spread_28 : decode cX12_spread 28 = .ok (.aload_n 0, 1) := by decide +kernel
theorem dX12_spread_29 : decode cX12_spread 29 = .ok (.getfield 9, 3) := by decide +kernel
theorem dX12_spread_32 : decode cX12_spread 32 = .ok (.iconst 0, 1) := by decide +kernel
theorem dX12_spread_33 : decode cX12_spread 33 = .ok (.iaload, 1) := by decide +kernel
theorem dX12_spread_34 : decode cX12_spread 34 = .ok (.if_icmp .ge 29, 3) := by decide +kernel
theorem dX12_spread_37 : decode cX12_spread 37 = .ok (.aload_n 0, 1) := by decide +kernel
theorem dX12_spread_38 : decode cX12_spread 38 = .ok (.iload_n 3, 1) := by decide +kernel
theorem dX12_spread_39 : decode cX12_spread 39 = .ok (.iload_n 1, 1) := by decide +kernel
theorem dX12_spread_40 : decode cX12_spread 40 = .ok (.invokevirtual 445, 3) := by decide +kernel
theorem dX12_spread_43 : decode cX12_spread 43 = .ok (.ifCond .eq 14, 3) := by decide +kernel
theorem dX12_spread_46 : decode cX12_spread 46 = .ok (.iload_n 2, 1) := by decide +kernel
theorem dX12_spread_47 : decode cX12_spread 47 = .ok (.iconst 1, 1) := by decide +kernel
theorem dX12_spread_48 : decode cX12_spread 48 = .ok (.aload_n 0, 1) := by decide +kernel
theorem dX12_spread_49 : decode cX12_spread 49 = .ok (.iload_n 3, 1) := by decide +kernel
theorem dX12_spread_50 : decode cX12_spread 50 = .ok (.iconst 1, 1) := by decide +kernel
theorem dX12_spread_51 : decode cX12_spread 51 = .ok (.invokevirtual 99, 3) := by decide +kernel
theorem dX12_spread_54 : decode cX12_spread 54 = .ok (.ishl, 1) := by decide +kernel
theorem dX12_spread_55 : decode cX12_spread 55 = .ok (.ior, 1) := by decide +kernel
theorem dX12_spread_56 : decode cX12_spread 56 = .ok (.istore_n 2, 1) := by decide +kernel
theorem dX12_spread_57 : decode cX12_spread 57 = .ok (.iinc 3 1, 3) := by decide +kernel
theorem dX12_spread_60 : decode cX12_spread 60 = .ok (.goto (-33), 3) := by decide +kernel
theorem dX12_spread_63 : decode cX12_spread 63 = .ok (.iload_n 2, 1) := by decide +kernel
theorem dX12_spread_64 : decode cX12_spread 64 = .ok (.invokestatic 448, 3) := by decide +kernel
theorem dX12_spread_67 : decode cX12_spread 67 = .ok (.ireturn, 1) := by decide +kernel
abbrev z_X12_spread_174 : Z9 := (some .int, 1, 0, 0, 3, 44)
def b_X12_spread_174_c27 (k_X12_spread_174_c27 : Int → Int → Int → D9 → Option R9) (v1 v2 v3 : Int) (d : D9) : Option R9 := ld d 175 1604 0 (fun t1 => if w32 t1 ≤ w32 v3 then cl (m_J6_bitCount_0f7a4 v2 d) (fun r2 d3 => rt r2 d3) else cl (m_X12_isSign_174 v3 v1 d) (fun r4 d5 => if w32 r4 = 0 then k_X12_spread_174_c27 v1 v2 (v3 + 1) d5 else cl (m_X12_ofPaint_174 v3 1 d5) (fun r6 d7 => lt9v (or9 v2 (shl9 1 r6)) (fun a8 => k_X12_spread_174_c27 v1 a8 (v3 + 1) d7))))
def m_X12_spread_174_c27 : Int → Int → Int → D9 → Option R9 := fix9 (fun _ _ _ _ => none) (fun k => b_X12_spread_174_c27 k) FU
def m_X12_spread_174 (p1 : Int) (d : D9) : Option R9 := pf d 174 3 0 (fun d1 => cl (m_X12_within (w32 p1) 0 9 d1) (fun r2 d3 => if w32 r2 ≠ 0 then m_X12_spread_174_c27  p1 0 0 d3 else cl (m_X12_fails_174 1 d3) (fun r4 d5 => rt r4 d5)))
set_option maxRecDepth 100000 in
theorem sb_X12_spread_174_c27 {G : G9} {X : X9} (C : CX G X cX12_spread 4 RX12 [] z_X12_spread_174) (k_X12_spread_174_c27 : Int → Int → Int → D9 → Option R9) (hk_X12_spread_174_c27 : ∀ (v1 v2 v3 : Int) (d : D9), SS G X 4 0 0 27 [(0, rf G 174), (1, i9 v1), (2, i9 v2), (3, i9 v3)] [] d (k_X12_spread_174_c27 v1 v2 v3 d)) : ∀ (v1 v2 v3 : Int) (d : D9), SS G X 4 0 0 27 [(0, rf G 174), (1, i9 v1), (2, i9 v2), (3, i9 v3)] [] d (b_X12_spread_174_c27 k_X12_spread_174_c27 v1 v2 v3 d) := by
  intro v1 v2 v3 d
  unfold b_X12_spread_174_c27
  refine r_iload_n C 3 dX12_spread_27 rfl rfl ?_
  refine r_aload_n C 0 dX12_spread_28 rfl rfl ?_
  refine r_getR C 175 dX12_spread_29 fl_X12_9 la_174 ly_174 rfl rfl ?_
  refine r_iconst C dX12_spread_32 ?_
  refine r_iald C dX12_spread_33 la_175 ly_175 (fun t1 => ?_)
  refine r_icmp_ge C 63 dX12_spread_34 (by decide) (fun _ => ?_) (fun _ => ?_)
  · refine r_iload_n C 2 dX12_spread_63 rfl rfl ?_
    refine r_callS C [i9 v2] dX12_spread_64 (t_J6_bitCount_0f7a4 C.h1 C.h2 v2 d) mw_X12_448 ms_J6_bitCount_0f7a4 (by decide) (by decide) (by decide) rfl rfl (Nat.le_of_ble_eq_true rfl) (fun r2 d3 => ?_)
    show SS G X 4 _ _ 67 [(0, rf G 174), (1, i9 v1), (2, i9 v2), (3, i9 v3)] [i9 r2] d3 _
    exact r_iret C dX12_spread_67 (by decide) (by decide)
  · refine r_aload_n C 0 dX12_spread_37 rfl rfl ?_
    refine r_iload_n C 3 dX12_spread_38 rfl rfl ?_
    refine r_iload_n C 1 dX12_spread_39 rfl rfl ?_
    refine r_callV C [i9 v1, i9 v3, rf G 174] dX12_spread_40 (t_X12_isSign_174 C.h1 C.h2 v3 v1 d) mw_X12_445 mv_X12_isSign la_174 ly_174 rfl (by decide) (by decide) (by decide) rfl rfl (Nat.le_of_ble_eq_true rfl) (fun r4 d5 => ?_)
    show SS G X 4 _ _ 43 [(0, rf G 174), (1, i9 v1), (2, i9 v2), (3, i9 v3)] [i9 r4] d5 _
    refine r_if_eq C (b := 0) 57 dX12_spread_43 (by decide) (fun _ => ?_) (fun _ => ?_)
    · refine r_iinc C 3 [(3, i9 (v3 + 1)), (0, rf G 174), (1, i9 v1), (2, i9 v2)] dX12_spread_57 rfl (by decide) rfl ?_
      refine r_goto C 27 dX12_spread_60 (by decide) ?_
      refine ss_wide (k' := 0) (n' := 0) (by decide) (by decide) ?_
      refine ss_ls [(0, rf G 174), (1, i9 v1), (2, i9 v2), (3, i9 (v3 + 1))] [1, 2, 3, 0] rfl ?_
      exact hk_X12_spread_174_c27 v1 v2 (v3 + 1) d5
    · refine r_iload_n C 2 dX12_spread_46 rfl rfl ?_
      refine r_iconst C dX12_spread_47 ?_
      refine r_aload_n C 0 dX12_spread_48 rfl rfl ?_
      refine r_iload_n C 3 dX12_spread_49 rfl rfl ?_
      refine r_iconst C dX12_spread_50 ?_
      refine r_callV C [i9 1, i9 v3, rf G 174, i9 1, i9 v2] dX12_spread_51 (t_X12_ofPaint_174 C.h1 C.h2 v3 1 d5) mw_X12_99 mv_X12_ofPaint la_174 ly_174 rfl (by decide) (by decide) (by decide) rfl rfl (Nat.le_of_ble_eq_true rfl) (fun r6 d7 => ?_)
      show SS G X 4 _ _ 54 [(0, rf G 174), (1, i9 v1), (2, i9 v2), (3, i9 v3)] [i9 r6, i9 1, i9 v2] d7 _
      refine r_ishl C dX12_spread_54 ?_
      refine r_ior C dX12_spread_55 ?_
      refine ss_lt (fun a8 => ?_)
      refine r_istore_n C [(2, i9 a8), (0, rf G 174), (1, i9 v1), (3, i9 v3)] dX12_spread_56 rfl (by decide) rfl ?_
      refine r_iinc C 3 [(3, i9 (v3 + 1)), (2, i9 a8), (0, rf G 174), (1, i9 v1)] dX12_spread_57 rfl (by decide) rfl ?_
      refine r_goto C 27 dX12_spread_60 (by decide) ?_
      refine ss_wide (k' := 0) (n' := 0) (by decide) (by decide) ?_
      refine ss_ls [(0, rf G 174), (1, i9 v1), (2, i9 a8), (3, i9 (v3 + 1))] [2, 3, 1, 0] rfl ?_
      exact hk_X12_spread_174_c27 v1 a8 (v3 + 1) d7
theorem s_X12_spread_174_c27 {G : G9} {X : X9} (C : CX G X cX12_spread 4 RX12 [] z_X12_spread_174) : ∀ (v1 v2 v3 : Int) (d : D9), SS G X 4 0 0 27 [(0, rf G 174), (1, i9 v1), (2, i9 v2), (3, i9 v3)] [] d (m_X12_spread_174_c27  v1 v2 v3 d) :=
  fix9_ind (P := fun k => ∀ (v1 v2 v3 : Int) (d : D9), SS G X 4 0 0 27 [(0, rf G 174), (1, i9 v1), (2, i9 v2), (3, i9 v3)] [] d (k v1 v2 v3 d)) (fun _ _ _ _ => ss_none) (fun k hk => sb_X12_spread_174_c27 C k hk) FU
set_option maxRecDepth 100000 in
theorem t_X12_spread_174 {G : G9} {l : Launch} (h1 : va_D (A9 G) (wl G (fun _ _ => 0))) (h2 : l.stackTraces = false) (p1 : Int) (d : D9) : MT G l yX12_spread cX12_spread 4 z_X12_spread_174 [rf G 174, i9 p1] d (m_X12_spread_174 p1 d) := by
  refine mt_of (own := RX12) (by decide) rfl (Nat.le_of_ble_eq_true rfl) h1 h2 [(0, rf G 174), (1, i9 p1)] rfl (fun X hX C => ?_)
  unfold m_X12_spread_174
  refine r_aload_n C 0 dX12_spread_0 rfl rfl ?_
  refine r_iconst C dX12_spread_1 ?_
  refine r_putI C dX12_spread_2 fp_X12_76 la_174 ly_174 rfl (fun d1 => ?_)
  refine r_iload_n C 1 dX12_spread_5 rfl rfl ?_
  refine r_i2l C dX12_spread_6 ?_
  refine r_lconst C dX12_spread_7 (a := 0) rfl ?_
  refine r_ldcL C dX12_spread_8 kc_X12_87 ?_
  refine r_callS C [l9 9, l9 0, l9 (w32 p1)] dX12_spread_11 (t_X12_within C.h1 C.h2 (w32 p1) 0 9 d1) mw_X12_79 ms_X12_within (by decide) (by decide) (by decide) rfl rfl (Nat.le_of_ble_eq_true rfl) (fun r2 d3 => ?_)
  show SS G X 4 _ _ 14 [(0, rf G 174), (1, i9 p1)] [i9 r2] d3 _
  refine r_if_ne C (b := 0) 23 dX12_spread_14 (by decide) (fun _ => ?_) (fun _ => ?_)
  · refine r_iconst C dX12_spread_23 ?_
    refine r_istore_n C [(2, i9 0), (0, rf G 174), (1, i9 p1)] dX12_spread_24 rfl (by decide) rfl ?_
    refine r_iconst C dX12_spread_25 ?_
    refine r_istore_n C [(3, i9 0), (2, i9 0), (0, rf G 174), (1, i9 p1)] dX12_spread_26 rfl (by decide) rfl ?_
    refine ss_wide (k' := 0) (n' := 0) (by decide) (by decide) ?_
    refine ss_ls [(0, rf G 174), (1, i9 p1), (2, i9 0), (3, i9 0)] [2, 3, 1, 0] rfl ?_
    exact s_X12_spread_174_c27 C  p1 0 0 d3
  · refine r_aload_n C 0 dX12_spread_17 rfl rfl ?_
    refine r_iconst C dX12_spread_18 ?_
    refine r_callV C [i9 1, rf G 174] dX12_spread_19 (t_X12_fails_174 C.h1 C.h2 1 d3) mw_X12_89 mv_X12_fails la_174 ly_174 rfl (by decide) (by decide) (by decide) rfl rfl (Nat.le_of_ble_eq_true rfl) (fun r4 d5 => ?_)
    show SS G X 4 _ _ 22 [(0, rf G 174), (1, i9 p1)] [i9 r4] d5 _
    exact r_iret C dX12_spread_22 (by decide) (by decide)
abbrev z_X12_isWord_174_s23 : Z9 := (some .boolean, 1, 0, 0, 8, 250)
def b_X12_isWord_174_s23_c39 (k_X12_isWord_174_s23_c39 : Int → Int → D9 → Option R9) (v2 v3 : Int) (d : D9) : Option R9 := if w32 v2 = 0 then rt (v2 % 2) d else if w32 6 ≤ w32 v3 then rt (v2 % 2) d else ld d 178 400 ((d 174 10) + v3) (fun t1 => sch 23 v3 (fun t2 => if w32 t1 ≠ w32 t2 then k_X12_isWord_174_s23_c39 0 (v3 + 1) d else k_X12_isWord_174_s23_c39 1 (v3 + 1) d))
def m_X12_isWord_174_s23_c39 : Int → Int → D9 → Option R9 := fix9 (fun _ _ _ => none) (fun k => b_X12_isWord_174_s23_c39 k) FU
def m_X12_isWord_174_s23 (d : D9) : Option R9 := if w32 (d 174 13) ≠ 0 then m_X12_isWord_174_s23_c39  0 0 d else if w32 (d 174 11) ≠ w32 1 then m_X12_isWord_174_s23_c39  0 0 d else if w32 ((d 174 9) - (d 174 10)) ≠ w32 6 then m_X12_isWord_174_s23_c39  0 0 d else m_X12_isWord_174_s23_c39  1 0 d
set_option maxRecDepth 100000 in
theorem sb_X12_isWord_174_s23_c39 {G : G9} {X : X9} (C : CX G X cX12_isWord 4 RX12 [] z_X12_isWord_174_s23) (k_X12_isWord_174_s23_c39 : Int → Int → D9 → Option R9) (hk_X12_isWord_174_s23_c39 : ∀ (v2 v3 : Int) (d : D9), SS G X 4 0 0 39 [(0, rf G 174), (1, sf G 23), (2, i9 v2), (3, i9 v3)] [] d (k_X12_isWord_174_s23_c39 v2 v3 d)) : ∀ (v2 v3 : Int) (d : D9), SS G X 4 0 0 39 [(0, rf G 174), (1, sf G 23), (2, i9 v2), (3, i9 v3)] [] d (b_X12_isWord_174_s23_c39 k_X12_isWord_174_s23_c39 v2 v3 d) := by
  intro v2 v3 d
  unfold b_X12_isWord_174_s23_c39
  refine r_iload_n C 2 dX12_isWord_39 rfl rfl ?_
  refine r_if_eq C (b := 0) 82 dX12_isWord_40 (by decide) (fun _ => ?_) (fun _ => ?_)
  · refine r_iload_n C 2 dX12_isWord_82 rfl rfl ?_
    exact r_zret C dX12_isWord_83 (by decide) (by decide)
  · refine r_iload_n C 3 dX12_isWord_43 rfl rfl ?_
    refine r_aload_nS C 1 dX12_isWord_44 rfl rfl ?_
    refine r_slen C 23 dX12_isWord_45 mw_X12_166 rfl (by decide) (Nat.le_of_ble_eq_true rfl) ?_
    refine r_icmp_ge C 82 dX12_isWord_48 (by decide) (fun _ => ?_) (fun _ => ?_)
    · refine r_iload_n C 2 dX12_isWord_82 rfl rfl ?_
      exact r_zret C dX12_isWord_83 (by decide) (by decide)
    · refine r_aload_n C 0 dX12_isWord_51 rfl rfl ?_
      refine r_getR C 178 dX12_isWord_52 fl_X12_20 la_174 ly_174 rfl rfl ?_
      refine r_aload_n C 0 dX12_isWord_55 rfl rfl ?_
      refine r_getI C dX12_isWord_56 fl_X12_142 la_174 ly_174 rfl ?_
      refine r_iload_n C 3 dX12_isWord_59 rfl rfl ?_
      refine r_iadd C dX12_isWord_60 ?_
      refine r_iald C dX12_isWord_61 la_178 ly_178 (fun t1 => ?_)
      refine r_aload_nS C 1 dX12_isWord_62 rfl rfl ?_
      refine r_iload_n C 3 dX12_isWord_63 rfl rfl ?_
      refine r_schar C 23 dX12_isWord_64 mw_X12_172 (by decide) (Nat.le_of_ble_eq_true rfl) (fun t2 => ?_)
      refine r_icmp_ne C 74 dX12_isWord_67 (by decide) (fun _ => ?_) (fun _ => ?_)
      · refine r_iconst C dX12_isWord_74 ?_
        refine r_istore_n C [(2, i9 0), (0, rf G 174), (1, sf G 23), (3, i9 v3)] dX12_isWord_75 rfl (by decide) rfl ?_
        refine r_iinc C 3 [(3, i9 (v3 + 1)), (2, i9 0), (0, rf G 174), (1, sf G 23)] dX12_isWord_76 rfl (by decide) rfl ?_
        refine r_goto C 39 dX12_isWord_79 (by decide) ?_
        refine ss_wide (k' := 0) (n' := 0) (by decide) (by decide) ?_
        refine ss_ls [(0, rf G 174), (1, sf G 23), (2, i9 0), (3, i9 (v3 + 1))] [2, 3, 1, 0] rfl ?_
        exact hk_X12_isWord_174_s23_c39 0 (v3 + 1) d
      · refine r_iconst C dX12_isWord_70 ?_
        refine r_goto C 75 dX12_isWord_71 (by decide) ?_
        refine r_istore_n C [(2, i9 1), (0, rf G 174), (1, sf G 23), (3, i9 v3)] dX12_isWord_75 rfl (by decide) rfl ?_
        refine r_iinc C 3 [(3, i9 (v3 + 1)), (2, i9 1), (0, rf G 174), (1, sf G 23)] dX12_isWord_76 rfl (by decide) rfl ?_
        refine r_goto C 39 dX12_isWord_79 (by decide) ?_
        refine ss_wide (k' := 0) (n' := 0) (by decide) (by decide) ?_
        refine ss_ls [(0, rf G 174), (1, sf G 23), (2, i9 1), (3, i9 (v3 + 1))] [2, 3, 1, 0] rfl ?_
        exact hk_X12_isWord_174_s23_c39 1 (v3 + 1) d
theorem s_X12_isWord_174_s23_c39 {G : G9} {X : X9} (C : CX G X cX12_isWord 4 RX12 [] z_X12_isWord_174_s23) : ∀ (v2 v3 : Int) (d : D9), SS G X 4 0 0 39 [(0, rf G 174), (1, sf G 23), (2, i9 v2), (3, i9 v3)] [] d (m_X12_isWord_174_s23_c39  v2 v3 d) :=
  fix9_ind (P := fun k => ∀ (v2 v3 : Int) (d : D9), SS G X 4 0 0 39 [(0, rf G 174), (1, sf G 23), (2, i9 v2), (3, i9 v3)] [] d (k v2 v3 d)) (fun _ _ _ => ss_none) (fun k hk => sb_X12_isWord_174_s23_c39 C k hk) FU
set_option maxRecDepth 100000 in
theorem t_X12_isWord_174_s23 {G : G9} {l : Launch} (h1 : va_D (A9 G) (wl G (fun _ _ => 0))) (h2 : l.stackTraces = false) (d : D9) : MT G l yX12_isWord cX12_isWord 4 z_X12_isWord_174_s23 [rf G 174, sf G 23] d (m_X12_isWord_174_s23  d) := by
  refine mt_of (own := RX12) (by decide) rfl (Nat.le_of_ble_eq_true rfl) h1 h2 [(0, rf G 174), (1, sf G 23)] rfl (fun X hX C => ?_)
  unfold m_X12_isWord_174_s23
  refine r_aload_n C 0 dX12_isWord_0 rfl rfl ?_
  refine r_getI C dX12_isWord_1 fl_X12_160 la_174 ly_174 rfl ?_
  refine r_if_ne C (b := 0) 35 dX12_isWord_4 (by decide) (fun _ => ?_) (fun _ => ?_)
  · refine r_iconst C dX12_isWord_35 ?_
    refine r_istore_n C [(2, i9 0), (0, rf G 174), (1, sf G 23)] dX12_isWord_36 rfl (by decide) rfl ?_
    refine r_iconst C dX12_isWord_37 ?_
    refine r_istore_n C [(3, i9 0), (2, i9 0), (0, rf G 174), (1, sf G 23)] dX12_isWord_38 rfl (by decide) rfl ?_
    refine ss_wide (k' := 0) (n' := 0) (by decide) (by decide) ?_
    refine ss_ls [(0, rf G 174), (1, sf G 23), (2, i9 0), (3, i9 0)] [2, 3, 1, 0] rfl ?_
    exact s_X12_isWord_174_s23_c39 C  0 0 d
  · refine r_aload_n C 0 dX12_isWord_7 rfl rfl ?_
    refine r_getI C dX12_isWord_8 fl_X12_145 la_174 ly_174 rfl ?_
    refine r_iconst C dX12_isWord_11 ?_
    refine r_icmp_ne C 35 dX12_isWord_12 (by decide) (fun _ => ?_) (fun _ => ?_)
    · refine r_iconst C dX12_isWord_35 ?_
      refine r_istore_n C [(2, i9 0), (0, rf G 174), (1, sf G 23)] dX12_isWord_36 rfl (by decide) rfl ?_
      refine r_iconst C dX12_isWord_37 ?_
      refine r_istore_n C [(3, i9 0), (2, i9 0), (0, rf G 174), (1, sf G 23)] dX12_isWord_38 rfl (by decide) rfl ?_
      refine ss_wide (k' := 0) (n' := 0) (by decide) (by decide) ?_
      refine ss_ls [(0, rf G 174), (1, sf G 23), (2, i9 0), (3, i9 0)] [2, 3, 1, 0] rfl ?_
      exact s_X12_isWord_174_s23_c39 C  0 0 d
    · refine r_aload_n C 0 dX12_isWord_15 rfl rfl ?_
      refine r_getI C dX12_isWord_16 fl_X12_139 la_174 ly_174 rfl ?_
      refine r_aload_n C 0 dX12_isWord_19 rfl rfl ?_
      refine r_getI C dX12_isWord_20 fl_X12_142 la_174 ly_174 rfl ?_
      refine r_isub C dX12_isWord_23 ?_
      refine r_aload_nS C 1 dX12_isWord_24 rfl rfl ?_
      refine r_slen C 23 dX12_isWord_25 mw_X12_166 rfl (by decide) (Nat.le_of_ble_eq_true rfl) ?_
      refine r_icmp_ne C 35 dX12_isWord_28 (by decide) (fun _ => ?_) (fun _ => ?_)
      · refine r_iconst C dX12_isWord_35 ?_
        refine r_istore_n C [(2, i9 0), (0, rf G 174), (1, sf G 23)] dX12_isWord_36 rfl (by decide) rfl ?_
        refine r_iconst C dX12_isWord_37 ?_
        refine r_istore_n C [(3, i9 0), (2, i9 0), (0, rf G 174), (1, sf G 23)] dX12_isWord_38 rfl (by decide) rfl ?_
        refine ss_wide (k' := 0) (n' := 0) (by decide) (by decide) ?_
        refine ss_ls [(0, rf G 174), (1, sf G 23), (2, i9 0), (3, i9 0)] [2, 3, 1, 0] rfl ?_
        exact s_X12_isWord_174_s23_c39 C  0 0 d
      · refine r_iconst C dX12_isWord_31 ?_
        refine r_goto C 36 dX12_isWord_32 (by decide) ?_
        refine r_istore_n C [(2, i9 1), (0, rf G 174), (1, sf G 23)] dX12_isWord_36 rfl (by decide) rfl ?_
        refine r_iconst C dX12_isWord_37 ?_
        refine r_istore_n C [(3, i9 0), (2, i9 1), (0, rf G 174), (1, sf G 23)] dX12_isWord_38 rfl (by decide) rfl ?_
        refine ss_wide (k' := 0) (n' := 0) (by decide) (by decide) ?_
        refine ss_ls [(0, rf G 174), (1, sf G 23), (2, i9 1), (3, i9 0)] [2, 3, 1, 0] rfl ?_
        exact s_X12_isWord_174_s23_c39 C  1 0 d
abbrev z_X12_isWord_174_s24 : Z9 := (some .boolean, 1, 0, 0, 8, 250)
def b_X12_isWord_174_s24_c39 (k_X12_isWord_174_s24_c39 : Int → Int → D9 → Option R9) (v2 v3 : Int) (d : D9) : Option R9 := if w32 v2 = 0 then rt (v2 % 2) d else if w32 2 ≤ w32 v3 then rt (v2 % 2) d else ld d 178 400 ((d 174 10) + v3) (fun t1 => sch 24 v3 (fun t2 => if w32 t1 ≠ w32 t2 then k_X12_isWord_174_s24_c39 0 (v3 + 1) d else k_X12_isWord_174_s24_c39 1 (v3 + 1) d))
def m_X12_isWord_174_s24_c39 : Int → Int → D9 → Option R9 := fix9 (fun _ _ _ => none) (fun k => b_X12_isWord_174_s24_c39 k) FU
def m_X12_isWord_174_s24 (d : D9) : Option R9 := if w32 (d 174 13) ≠ 0 then m_X12_isWord_174_s24_c39  0 0 d else if w32 (d 174 11) ≠ w32 1 then m_X12_isWord_174_s24_c39  0 0 d else if w32 ((d 174 9) - (d 174 10)) ≠ w32 2 then m_X12_isWord_174_s24_c39  0 0 d else m_X12_isWord_174_s24_c39  1 0 d
set_option maxRecDepth 100000 in
theorem sb_X12_isWord_174_s24_c39 {G : G9} {X : X9} (C : CX G X cX12_isWord 4 RX12 [] z_X12_isWord_174_s24) (k_X12_isWord_174_s24_c39 : Int → Int → D9 → Option R9) (hk_X12_isWord_174_s24_c39 : ∀ (v2 v3 : Int) (d : D9), SS G X 4 0 0 39 [(0, rf G 174), (1, sf G 24), (2, i9 v2), (3, i9 v3)] [] d (k_X12_isWord_174_s24_c39 v2 v3 d)) : ∀ (v2 v3 : Int) (d : D9), SS G X 4 0 0 39 [(0, rf G 174), (1, sf G 24), (2, i9 v2), (3, i9 v3)] [] d (b_X12_isWord_174_s24_c39 k_X12_isWord_174_s24_c39 v2 v3 d) := by
  intro v2 v3 d
  unfold b_X12_isWord_174_s24_c39
  refine r_iload_n C 2 dX12_isWord_39 rfl rfl ?_
  refine r_if_eq C (b := 0) 82 dX12_isWord_40 (by decide) (fun _ => ?_) (fun _ => ?_)
  · refine r_iload_n C 2 dX12_isWord_82 rfl rfl ?_
    exact r_zret C dX12_isWord_83 (by decide) (by decide)
  · refine r_iload_n C 3 dX12_isWord_43 rfl rfl ?_
    refine r_aload_nS C 1 dX12_isWord_44 rfl rfl ?_
    refine r_slen C 24 dX12_isWord_45 mw_X12_166 rfl (by decide) (Nat.le_of_ble_eq_true rfl) ?_
    refine r_icmp_ge C 82 dX12_isWord_48 (by decide) (fun _ => ?_) (fun _ => ?_)
    · refine r_iload_n C 2 dX12_isWord_82 rfl rfl ?_
      exact r_zret C dX12_isWord_83 (by decide) (by decide)
    · refine r_aload_n C 0 dX12_isWord_51 rfl rfl ?_
      refine r_getR C 178 dX12_isWord_52 fl_X12_20 la_174 ly_174 rfl rfl ?_
      refine r_aload_n C 0 dX12_isWord_55 rfl rfl ?_
      refine r_getI C dX12_isWord_56 fl_X12_142 la_174 ly_174 rfl ?_
      refine r_iload_n C 3 dX12_isWord_59 rfl rfl ?_
      refine r_iadd C dX12_isWord_60 ?_
      refine r_iald C dX12_isWord_61 la_178 ly_178 (fun t1 => ?_)
      refine r_aload_nS C 1 dX12_isWord_62 rfl rfl ?_
      refine r_iload_n C 3 dX12_isWord_63 rfl rfl ?_
      refine r_schar C 24 dX12_isWord_64 mw_X12_172 (by decide) (Nat.le_of_ble_eq_true rfl) (fun t2 => ?_)
      refine r_icmp_ne C 74 dX12_isWord_67 (by decide) (fun _ => ?_) (fun _ => ?_)
      · refine r_iconst C dX12_isWord_74 ?_
        refine r_istore_n C [(2, i9 0), (0, rf G 174), (1, sf G 24), (3, i9 v3)] dX12_isWord_75 rfl (by decide) rfl ?_
        refine r_iinc C 3 [(3, i9 (v3 + 1)), (2, i9 0), (0, rf G 174), (1, sf G 24)] dX12_isWord_76 rfl (by decide) rfl ?_
        refine r_goto C 39 dX12_isWord_79 (by decide) ?_
        refine ss_wide (k' := 0) (n' := 0) (by decide) (by decide) ?_
        refine ss_ls [(0, rf G 174), (1, sf G 24), (2, i9 0), (3, i9 (v3 + 1))] [2, 3, 1, 0] rfl ?_
        exact hk_X12_isWord_174_s24_c39 0 (v3 + 1) d
      · refine r_iconst C dX12_isWord_70 ?_
        refine r_goto C 75 dX12_isWord_71 (by decide) ?_
        refine r_istore_n C [(2, i9 1), (0, rf G 174), (1, sf G 24), (3, i9 v3)] dX12_isWord_75 rfl (by decide) rfl ?_
        refine r_iinc C 3 [(3, i9 (v3 + 1)), (2, i9 1), (0, rf G 174), (1, sf G 24)] dX12_isWord_76 rfl (by decide) rfl ?_
        refine r_goto C 39 dX12_isWord_79 (by decide) ?_
        refine ss_wide (k' := 0) (n' := 0) (by decide) (by decide) ?_
        refine ss_ls [(0, rf G 174), (1, sf G 24), (2, i9 1), (3, i9 (v3 + 1))] [2, 3, 1, 0] rfl ?_
        exact hk_X12_isWord_174_s24_c39 1 (v3 + 1) d
theorem s_X12_isWord_174_s24_c39 {G : G9} {X : X9} (C : CX G X cX12_isWord 4 RX12 [] z_X12_isWord_174_s24) : ∀ (v2 v3 : Int) (d : D9), SS G X 4 0 0 39 [(0, rf G 174), (1, sf G 24), (2, i9 v2), (3, i9 v3)] [] d (m_X12_isWord_174_s24_c39  v2 v3 d) :=
  fix9_ind (P := fun k => ∀ (v2 v3 : Int) (d : D9), SS G X 4 0 0 39 [(0, rf G 174), (1, sf G 24), (2, i9 v2), (3, i9 v3)] [] d (k v2 v3 d)) (fun _ _ _ => ss_none) (fun k hk => sb_X12_isWord_174_s24_c39 C k hk) FU
set_option maxRecDepth 100000 in
theorem t_X12_isWord_174_s24 {G : G9} {l : Launch} (h1 : va_D (A9 G) (wl G (fun _ _ => 0))) (h2 : l.stackTraces = false) (d : D9) : MT G l yX12_isWord cX12_isWord 4 z_X12_isWord_174_s24 [rf G 174, sf G 24] d (m_X12_isWord_174_s24  d) := by
  refine mt_of (own := RX12) (by decide) rfl (Nat.le_of_ble_eq_true rfl) h1 h2 [(0, rf G 174), (1, sf G 24)] rfl (fun X hX C => ?_)
  unfold m_X12_isWord_174_s24
  refine r_aload_n C 0 dX12_isWord_0 rfl rfl ?_
  refine r_getI C dX12_isWord_1 fl_X12_160 la_174 ly_174 rfl ?_
  refine r_if_ne C (b := 0) 35 dX12_isWord_4 (by decide) (fun _ => ?_) (fun _ => ?_)
  · refine r_iconst C dX12_isWord_35 ?_
    refine r_istore_n C [(2, i9 0), (0, rf G 174), (1, sf G 24)] dX12_isWord_36 rfl (by decide) rfl ?_
    refine r_iconst C dX12_isWord_37 ?_
    refine r_istore_n C [(3, i9 0), (2, i9 0), (0, rf G 174), (1, sf G 24)] dX12_isWord_38 rfl (by decide) rfl ?_
    refine ss_wide (k' := 0) (n' := 0) (by decide) (by decide) ?_
    refine ss_ls [(0, rf G 174), (1, sf G 24), (2, i9 0), (3, i9 0)] [2, 3, 1, 0] rfl ?_
    exact s_X12_isWord_174_s24_c39 C  0 0 d
  · refine r_aload_n C 0 dX12_isWord_7 rfl rfl ?_
    refine r_getI C dX12_isWord_8 fl_X12_145 la_174 ly_174 rfl ?_
    refine r_iconst C dX12_isWord_11 ?_
    refine r_icmp_ne C 35 dX12_isWord_12 (by decide) (fun _ => ?_) (fun _ => ?_)
    · refine r_iconst C dX12_isWord_35 ?_
      refine r_istore_n C [(2, i9 0), (0, rf G 174), (1, sf G 24)] dX12_isWord_36 rfl (by decide) rfl ?_
      refine r_iconst C dX12_isWord_37 ?_
      refine r_istore_n C [(3, i9 0), (2, i9 0), (0, rf G 174), (1, sf G 24)] dX12_isWord_38 rfl (by decide) rfl ?_
      refine ss_wide (k' := 0) (n' := 0) (by decide) (by decide) ?_
      refine ss_ls [(0, rf G 174), (1, sf G 24), (2, i9 0), (3, i9 0)] [2, 3, 1, 0] rfl ?_
      exact s_X12_isWord_174_s24_c39 C  0 0 d
    · refine r_aload_n C 0 dX12_isWord_15 rfl rfl ?_
      refine r_getI C dX12_isWord_16 fl_X12_139 la_174 ly_174 rfl ?_
      refine r_aload_n C 0 dX12_isWord_19 rfl rfl ?_
      refine r_getI C dX12_isWord_20 fl_X12_142 la_174 ly_174 rfl ?_
      refine r_isub C dX12_isWord_23 ?_
      refine r_aload_nS C 1 dX12_isWord_24 rfl rfl ?_
      refine r_slen C 24 dX12_isWord_25 mw_X12_166 rfl (by decide) (Nat.le_of_ble_eq_true rfl) ?_
      refine r_icmp_ne C 35 dX12_isWord_28 (by decide) (fun _ => ?_) (fun _ => ?_)
      · refine r_iconst C dX12_isWord_35 ?_
        refine r_istore_n C [(2, i9 0), (0, rf G 174), (1, sf G 24)] dX12_isWord_36 rfl (by decide) rfl ?_
        refine r_iconst C dX12_isWord_37 ?_
        refine r_istore_n C [(3, i9 0), (2, i9 0), (0, rf G 174), (1, sf G 24)] dX12_isWord_38 rfl (by decide) rfl ?_
        refine ss_wide (k' := 0) (n' := 0) (by decide) (by decide) ?_
        refine ss_ls [(0, rf G 174), (1, sf G 24), (2, i9 0), (3, i9 0)] [2, 3, 1, 0] rfl ?_
        exact s_X12_isWord_174_s24_c39 C  0 0 d
      · refine r_iconst C dX12_isWord_31 ?_
        refine r_goto C 36 dX12_isWord_32 (by decide) ?_
        refine r_istore_n C [(2, i9 1), (0, rf G 174), (1, sf G 24)] dX12_isWord_36 rfl (by decide) rfl ?_
        refine r_iconst C dX12_isWord_37 ?_
        refine r_istore_n C [(3, i9 0), (2, i9 1), (0, rf G 174), (1, sf G 24)] dX12_isWord_38 rfl (by decide) rfl ?_
        refine ss_wide (k' := 0) (n' := 0) (by decide) (by decide) ?_
        refine ss_ls [(0, rf G 174), (1, sf G 24), (2, i9 1), (3, i9 0)] [2, 3, 1, 0] rfl ?_
        exact s_X12_isWord_174_s24_c39 C  1 0 d
abbrev z_X12_word_174_s24 : Z9 := (none, 0, 0, 0, 9, 273)
def m_X12_word_174_s24_c13 (d : D9) : Option R9 := if w32 (d 174 13) ≠ 0 then rt 0 d else cl (m_X12_next_174 d) (fun r1 d2 => rt 0 d2)
def m_X12_word_174_s24 (d : D9) : Option R9 := cl (m_X12_isWord_174_s24 d) (fun r1 d2 => if w32 r1 ≠ 0 then m_X12_word_174_s24_c13   d2 else cl (m_X12_blames_174 2 d2) (fun r3 d4 => m_X12_word_174_s24_c13   d4))
set_option maxRecDepth 100000 in
theorem s_X12_word_174_s24_c13 {G : G9} {X : X9} (C : CX G X cX12_word 2 RX12 [] z_X12_word_174_s24) : ∀ (d : D9), SS G X 2 0 0 13 [(0, rf G 174)] [] d (m_X12_word_174_s24_c13   d) := by
  intro  d
  unfold m_X12_word_174_s24_c13
  refine r_aload_n C 0 dX12_word_13 rfl rfl ?_
  refine r_getI C dX12_word_14 fl_X12_160 la_174 ly_174 rfl ?_
  refine r_if_ne C (b := 0) 24 dX12_word_17 (by decide) (fun _ => ?_) (fun _ => ?_)
  · exact r_vret C dX12_word_24 (by decide) (by decide)
  · refine r_aload_n C 0 dX12_word_20 rfl rfl ?_
    refine r_callV C [rf G 174] dX12_word_21 (t_X12_next_174 C.h1 C.h2 d) mw_X12_180 mv_X12_next la_174 ly_174 rfl (by decide) (by decide) (by decide) rfl rfl (Nat.le_of_ble_eq_true rfl) (fun r1 d2 => ?_)
    show SS G X 2 _ _ 24 [(0, rf G 174)] [] d2 _
    exact r_vret C dX12_word_24 (by decide) (by decide)
set_option maxRecDepth 100000 in
theorem t_X12_word_174_s24 {G : G9} {l : Launch} (h1 : va_D (A9 G) (wl G (fun _ _ => 0))) (h2 : l.stackTraces = false) (d : D9) : MT G l yX12_word cX12_word 2 z_X12_word_174_s24 [rf G 174, sf G 24] d (m_X12_word_174_s24  d) := by
  refine mt_of (own := RX12) (by decide) rfl (Nat.le_of_ble_eq_true rfl) h1 h2 [(0, rf G 174), (1, sf G 24)] rfl (fun X hX C => ?_)
  unfold m_X12_word_174_s24
  refine r_aload_n C 0 dX12_word_0 rfl rfl ?_
  refine r_aload_nS C 1 dX12_word_1 rfl rfl ?_
  refine r_callV C [sf G 24, rf G 174] dX12_word_2 (t_X12_isWord_174_s24 C.h1 C.h2 d) mw_X12_183 mv_X12_isWord la_174 ly_174 rfl (by decide) (by decide) (by decide) rfl rfl (Nat.le_of_ble_eq_true rfl) (fun r1 d2 => ?_)
  show SS G X 2 _ _ 5 [(0, rf G 174), (1, sf G 24)] [i9 r1] d2 _
  refine r_if_ne C (b := 0) 13 dX12_word_5 (by decide) (fun _ => ?_) (fun _ => ?_)
  · refine ss_wide (k' := 0) (n' := 0) (by decide) (by decide) ?_
    refine ss_ls [(0, rf G 174)] [0] rfl ?_
    exact s_X12_word_174_s24_c13 C   d2
  · refine r_aload_n C 0 dX12_word_8 rfl rfl ?_
    refine r_iconst C dX12_word_9 ?_
    refine r_callV C [i9 2, rf G 174] dX12_word_10 (t_X12_blames_174 C.h1 C.h2 2 d2) mw_X12_176 mv_X12_blames la_174 ly_174 rfl (by decide) (by decide) (by decide) rfl rfl (Nat.le_of_ble_eq_true rfl) (fun r3 d4 => ?_)
    show SS G X 2 _ _ 13 [(0, rf G 174), (1, sf G 24)] [] d4 _
    refine ss_wide (k' := 0) (n' := 0) (by decide) (by decide) ?_
    refine ss_ls [(0, rf G 174)] [0] rfl ?_
    exact s_X12_word_174_s24_c13 C   d4
theorem dX12_storyLine_0 : decode cX12_storyLine 0 = .ok (.aload_n 0, 1) := by decide +kernel
theorem dX12_storyLine_1 : decode cX12_storyLine 1 = .ok (.ldc 223, 2) := by decide +kernel
theorem dX12_storyLine_3 : decode cX12_storyLine 3 = .ok (.invokevirtual 183, 3) := by decide +kernel
theorem dX12_storyLine_6 : decode cX12_storyLine 6 = .ok (.ifCond .eq 7, 3) := by decide +kernel
theorem dX12_storyLine_9 : decode cX12_storyLine 9 = .ok (.iconst 0, 1) := by decide +kernel
theorem dX12_storyLine_10 : decode cX12_storyLine 10 = .ok (.goto 17, 3) := by decide +kernel
theorem dX12_storyLine_13 : decode cX12_storyLine 13 = .ok (.aload_n 0, 1) := by decide +kernel
theorem dX12_storyLine_14 : decode cX12_storyLine 14 = .ok (.ldc 225, 2) := by decide +kernel
theorem dX12_storyLine_16 : decode cX12_storyLine 16 = .ok (.invokevirtual 183, 3) := by decide +kernel
theorem dX12_storyLine_19 : decode cX12_storyLine 19 = .ok (.ifCond .eq 7, 3) := by decide +kernel
theorem dX12_storyLine_22 : decode cX12_storyLine 22 = .ok (.iconst 1, 1) := by decide +kernel
theorem dX12_storyLine_23 : decode cX12_storyLine 23 = .ok (.goto 4, 3) := by decide +kernel
theorem dX12_storyLine_26 : decode cX12_storyLine 26 = .ok (.iconst (-1), 1) := by decide +kernel
theorem dX12_storyLine_27 : decode cX12_storyLine 27 = .ok (.istore_n 2, 1) := by decide +kernel
theorem dX12_storyLine_28 : decode cX12_storyLine 28 = .ok (.iload_n 2, 1) := by decide +kernel
theorem dX12_storyLine_29 : decode cX12_storyLine 29 = .ok (.iconst (-1), 1) := by decide +kernel
theorem dX12_storyLine_30 : decode cX12_storyLine 30 = .ok (.if_icmp .ne 11, 3) := by decide +kernel
theorem dX12_storyLine_33 : decode cX12_storyLine 33 = .ok (.aload_n 0, 1) := by decide +kernel
theorem dX12_storyLine_34 : decode cX12_storyLine 34 = .ok (.iconst 2, 1) := by decide +kernel
theorem dX12_storyLine_35 : decode cX12_storyLine 35 = .ok (.invokevirtual 176, 3) := by decide +kernel
theorem dX12_storyLine_38 : decode cX12_storyLine 38 = .ok (.goto 14, 3) := by decide +kernel
theorem dX12_storyLine_41 : decode cX12_storyLine 41 = .ok (.iload_n 1, 1) := by decide +kernel
theorem dX12_storyLine_42 : decode cX12_storyLine 42 = .ok (.bipush 12, 2) := by decide +kernel
theorem dX12_storyLine_44 : decode cX12_storyLine 44 = .ok (.if_icmp .ne 8, 3) := by decide +kernel
theorem dX12_storyLine_47 : decode cX12_storyLine 47 = .ok (.aload_n 0, 1) := by decide +kernel
theorem dX12_storyLine_48 : decode cX12_storyLine 48 = .ok (.iconst 4, 1) := by decide +kernel
theorem dX12_storyLine_49 : decode cX12_storyLine 49 = .ok (.invokevirtual 176, 3) := by decide +kernel
theorem dX12_storyLine_52 : decode cX12_storyLine 52 = .ok (.aload_n 0, 1) := by decide +kernel
theorem dX12_storyLine_53 : decode cX12_storyLine 53 = .ok (.getfield 160, 3) := by decide +kernel
theorem dX12_storyLine_56 : decode cX12_storyLine 56 = .ok (.ifCond .eq 4, 3) := by decide +kernel
theorem dX12_storyLine_59 : decode cX12_storyLine 59 = .ok (.return_, 1) := by decide +kernel
theorem dX12_storyLine_60 : decode cX12_storyLine 60 = .ok (.aload_n 0, 1) := by decide +kernel
theorem dX12_storyLine_61 : decode cX12_storyLine 61 = .ok (.invokevirtual 180, 3) := by decide +kernel
theorem dX12_storyLine_64 : decode cX12_storyLine 64 = .ok (.aload_n 0, 1) := by decide +kernel
theorem dX12_storyLine_65 : decode cX12_storyLine 65 = .ok (.iconst 0, 1) := by decide +kernel
theorem dX12_storyLine_66 : decode cX12_storyLine 66 = .ok (.iload_n 2, 1) := by decide +kernel
theorem dX12_storyLine_67 : decode cX12_storyLine 67 = .ok (.ifCond .ne 8, 3) := by decide +kernel
theorem dX12_storyLine_70 : decode cX12_storyLine 70 = .ok (.bipush 9, 2) := by decide +kernel
theorem dX12_storyLine_72 : decode cX12_storyLine 72 = .ok (.goto 4, 3) := by decide +kernel
theorem dX12_storyLine_75 : decode cX12_storyLine 75 = .ok (.iconst 5, 1) := by decide +kernel
theorem dX12_storyLine_76 : decode cX12_storyLine 76 = .ok (.invokevirtual 202, 3) := by decide +kernel
theorem dX12_storyLine_79 : decode cX12_storyLine 79 = .ok (.istore_n 3, 1) := by decide +kernel
theorem dX12_storyLine_80 : decode cX12_storyLine 80 = .ok (.aload_n 0, 1) := by decide +kernel
theorem dX12_storyLine_81 : decode cX12_storyLine 81 = .ok (.ldc 227, 2) := by decide +kernel
theorem dX12_storyLine_83 : decode cX12_storyLine 83 = .ok (.invokevirtual 207, 3) := by decide +kernel
theorem dX12_storyLine_86 : decode cX12_storyLine 86 = .ok (.aload_n 0, 1) := by decide +kernel
theorem dX12_storyLine_87 : decode cX12_storyLine 87 = .ok (.iconst 0, 1) := by decide +kernel
theorem dX12_storyLine_88 : decode cX12_storyLine 88 = .ok (.sipush 400, 3) := by decide +kernel
theorem dX12_storyLine_91 : decode cX12_storyLine 91 = .ok (.invokevirtual 202, 3) := by decide +kernel
theorem dX12_storyLine_94 : decode cX12_storyLine 94 = .ok (.istore 4, 2) := by decide +kernel
theorem dX12_storyLine_96 : decode cX12_storyLine 96 = .ok (.aload_n 0, 1) := by decide +kernel
theorem dX12_storyLine_97 : decode cX12_storyLine 97 = .ok (.ldc 205, 2) := by decide +kernel
theorem dX12_storyLine_99 : decode cX12_storyLine 99 = .ok (.invokevirtual 207, 3) := by decide +kernel
theorem dX12_storyLine_102 : decode cX12_storyLine 102 = .ok (.aload_n 0, 1) := by decide +kernel
theorem dX12_storyLine_103 : decode cX12_storyLine 103 = .ok (.iload 4, 2) := by decide +kernel
theorem dX12_storyLine_105 : decode cX12_storyLine 105 = .ok (.sipush 400, 3) := by decide +kernel
theorem dX12_storyLine_108 : decode cX12_storyLine 108 = .ok (.invokevirtual 202, 3) := by decide +kernel
theorem dX12_storyLine_111 : decode cX12_storyLine 111 = .ok (.istore 5, 2) := by decide +kernel
theorem dX12_storyLine_113 : decode cX12_storyLine 113 = .ok (.aload_n 0, 1) := by decide +kernel
theorem dX12_storyLine_114 : decode cX12_storyLine 114 = .ok (.invokevirtual 211, 3) := by decide +kernel
theorem dX12_storyLine_117 : decode cX12_storyLine 117 = .ok (.aload_n 0, 1) := by decide +kernel
theorem dX12_storyLine_118 : decode cX12_storyLine 118 = .ok (.getfield 26, 3) := by decide +kernel
theorem dX12_storyLine_121 : decode cX12_storyLine 121 = .ok (.iconst 4, 1) := by decide +kernel
theorem dX12_storyLine_122 : decode cX12_storyLine 122 = .ok (.iload_n 1, 1) := by decide +kernel
theorem dX12_storyLine_123 : decode cX12_storyLine 123 = .ok (.imul, 1) := by decide +kernel
theorem dX12_storyLine_124 : decode cX12_storyLine 124 = .ok (.iload_n 2, 1) := by decide +kernel
theorem dX12_storyLine_125 : decode cX12_storyLine 125 = .ok (.iastore, 1) := by decide +kernel
theorem dX12_storyLine_126 : decode cX12_storyLine 126 = .ok (.aload_n 0, 1) := by decide +kernel
theorem dX12_storyLine_127 : decode cX12_storyLine 127 = .ok (.getfield 26, 3) := by decide +kernel
theorem dX12_storyLine_130 : decode cX12_storyLine 130 = .ok (.iconst 4, 1) := by decide +kernel
theorem dX12_storyLine_131 : decode cX12_storyLine 131 = .ok (.iload_n 1, 1) := by decide +kernel
theorem dX12_storyLine_132 : decode cX12_storyLine 132 = .ok (.imul, 1) := by decide +kernel
theorem dX12_storyLine_133 : decode cX12_storyLine 133 = .ok (.iconst 1, 1) := by decide +kernel
theorem dX12_storyLine_134 : decode cX12_storyLine 134 = .ok (.iadd, 1) := by decide +kernel
theorem dX12_storyLine_135 : decode cX12_storyLine 135 = .ok (.iload_n 3, 1) := by decide +kernel
theorem dX12_storyLine_136 : decode cX12_storyLine 136 = .ok (.iastore, 1) := by decide +kernel
theorem dX12_storyLine_137 : decode cX12_storyLine 137 = .ok (.aload_n 0, 1) := by decide +kernel
theorem dX12_storyLine_138 : decode cX12_storyLine 138 = .ok (.getfield 26, 3) := by decide +kernel
theorem dX12_storyLine_141 : decode cX12_storyLine 141 = .ok (.iconst 4, 1) := by decide +kernel
theorem dX12_storyLine_142 : decode cX12_storyLine 142 = .ok (.iload_n 1, 1) := by decide +kernel
theorem dX12_storyLine_143 : decode cX12_storyLine 143 = .ok (.imul, 1) := by decide +kernel
theorem dX12_storyLine_144 : decode cX12_storyLine 144 = .ok (.iconst 2, 1) := by decide +kernel
theorem dX12_storyLine_145 : decode cX12_storyLine 145 = .ok (.iadd, 1) := by decide +kernel
theorem dX12_storyLine_146 : decode cX12_storyLine 146 = .ok (.iload 4, 2) := by decide +kernel
theorem dX12_storyLine_148 : decode cX12_storyLine 148 = .ok (.iastore, 1) := by decide +kernel
theorem dX12_storyLine_149 : decode cX12_storyLine 149 = .ok (.aload_n 0, 1) := by decide +kernel
theorem dX12_storyLine_150 : decode cX12_storyLine 150 = .ok (.getfield 26, 3) := by decide +kernel
theorem dX12_storyLine_153 : decode cX12_storyLine 153 = .ok (.iconst 4, 1) := by decide +kernel
theorem dX12_storyLine_154 : decode cX12_storyLine 154 = .ok (.iload_n 1, 1) := by decide +kernel
theorem dX12_storyLine_155 : decode cX12_storyLine 155 = .ok (.imul, 1) := by decide +kernel
theorem dX12_storyLine_156 : decode cX12_storyLine 156 = .ok (.iconst 3, 1) := by decide +kernel
theorem dX12_storyLine_157 : decode cX12_storyLine 157 = .ok (.iadd, 1) := by decide +kernel
theorem dX12_storyLine_158 : decode cX12_storyLine 158 = .ok (.iload 5, 2) := by decide +kernel
theorem dX12_storyLine_160 : decode cX12_storyLine 160 = .ok (.iastore, 1) := by decide +kernel
theorem dX12_storyLine_161 : decode cX12_storyLine 161 = .ok (.return_, 1) := by decide +kernel
abbrev z_X12_storyLine_174 : Z9 := (none, 0, 0, 0, 10, 294)
def m_X12_storyLine_174_c76 (v1 v2 s0 s1 : Int) (d : D9) : Option R9 := cl (m_X12_number_174 s1 s0 d) (fun r1 d2 => cl (m_X12_word_174_s24 d2) (fun r3 d4 => cl (m_X12_number_174 0 400 d4) (fun r5 d6 => cl (m_X12_word_174_s21 d6) (fun r7 d8 => cl (m_X12_number_174 r5 400 d8) (fun r9 d10 => cl (m_X12_stop_174 d10) (fun r11 d12 => sd d12 180 48 (4 * v1) v2 (fun d13 => sd d13 180 48 ((4 * v1) + 1) r1 (fun d14 => sd d14 180 48 ((4 * v1) + 2) r5 (fun d15 => sd d15 180 48 ((4 * v1) + 3) r9 (fun d16 => rt 0 d16))))))))))
def m_X12_storyLine_174_c52 (v1 v2 : Int) (d : D9) : Option R9 := if w32 (d 174 13) = 0 then cl (m_X12_next_174 d) (fun r1 d2 => if w32 v2 ≠ 0 then m_X12_storyLine_174_c76  v1 v2 5 0 d2 else m_X12_storyLine_174_c76  v1 v2 9 0 d2) else rt 0 d
def m_X12_storyLine_174_c27 (v1 s0 : Int) (d : D9) : Option R9 := if w32 s0 ≠ w32 (-1) then if w32 v1 ≠ w32 12 then m_X12_storyLine_174_c52  v1 s0 d else cl (m_X12_blames_174 4 d) (fun r1 d2 => m_X12_storyLine_174_c52  v1 s0 d2) else cl (m_X12_blames_174 2 d) (fun r3 d4 => m_X12_storyLine_174_c52  v1 s0 d4)
def m_X12_storyLine_174 (p1 : Int) (d : D9) : Option R9 := cl (m_X12_isWord_174_s22 d) (fun r1 d2 => if w32 r1 = 0 then cl (m_X12_isWord_174_s23 d2) (fun r3 d4 => if w32 r3 = 0 then m_X12_storyLine_174_c27  p1 (-1) d4 else m_X12_storyLine_174_c27  p1 1 d4) else m_X12_storyLine_174_c27  p1 0 d2)
set_option maxRecDepth 100000 in
theorem s_X12_storyLine_174_c76 {G : G9} {X : X9} (C : CX G X cX12_storyLine 6 RX12 [] z_X12_storyLine_174) : ∀ (v1 v2 s0 s1 : Int) (d : D9), SS G X 6 0 0 76 [(0, rf G 174), (1, i9 v1), (2, i9 v2)] [i9 s0, i9 s1, rf G 174] d (m_X12_storyLine_174_c76  v1 v2 s0 s1 d) := by
  intro v1 v2 s0 s1 d
  unfold m_X12_storyLine_174_c76
  refine r_callV C [i9 s0, i9 s1, rf G 174] dX12_storyLine_76 (t_X12_number_174 C.h1 C.h2 s1 s0 d) mw_X12_202 mv_X12_number la_174 ly_174 rfl (by decide) (by decide) (by decide) rfl rfl (Nat.le_of_ble_eq_true rfl) (fun r1 d2 => ?_)
  show SS G X 6 _ _ 79 [(0, rf G 174), (1, i9 v1), (2, i9 v2)] [i9 r1] d2 _
  refine r_istore_n C [(3, i9 r1), (0, rf G 174), (1, i9 v1), (2, i9 v2)] dX12_storyLine_79 rfl (by decide) rfl ?_
  refine r_aload_n C 1 dX12_storyLine_80 rfl rfl ?_
  refine r_ldcS C 24 dX12_storyLine_81 rfl ?_
  refine r_callV C [sf G 24, rf G 174] dX12_storyLine_83 (t_X12_word_174_s24 C.h1 C.h2 d2) mw_X12_207 mv_X12_word la_174 ly_174 rfl (by decide) (by decide) (by decide) rfl rfl (Nat.le_of_ble_eq_true rfl) (fun r3 d4 => ?_)
  show SS G X 6 _ _ 86 [(3, i9 r1), (0, rf G 174), (1, i9 v1), (2, i9 v2)] [] d4 _
  refine r_aload_n C 1 dX12_storyLine_86 rfl rfl ?_
  refine r_iconst C dX12_storyLine_87 ?_
  refine r_sipush C dX12_storyLine_88 rfl ?_
  refine r_callV C [i9 400, i9 0, rf G 174] dX12_storyLine_91 (t_X12_number_174 C.h1 C.h2 0 400 d4) mw_X12_202 mv_X12_number la_174 ly_174 rfl (by decide) (by decide) (by decide) rfl rfl (Nat.le_of_ble_eq_true rfl) (fun r5 d6 => ?_)
  show SS G X 6 _ _ 94 [(3, i9 r1), (0, rf G 174), (1, i9 v1), (2, i9 v2)] [i9 r5] d6 _
  refine r_istore C [(4, i9 r5), (3, i9 r1), (0, rf G 174), (1, i9 v1), (2, i9 v2)] dX12_storyLine_94 (by decide) rfl ?_
  refine r_aload_n C 2 dX12_storyLine_96 rfl rfl ?_
  refine r_ldcS C 21 dX12_storyLine_97 rfl ?_
  refine r_callV C [sf G 21, rf G 174] dX12_storyLine_99 (t_X12_word_174_s21 C.h1 C.h2 d6) mw_X12_207 mv_X12_word la_174 ly_174 rfl (by decide) (by decide) (by decide) rfl rfl (Nat.le_of_ble_eq_true rfl) (fun r7 d8 => ?_)
  show SS G X 6 _ _ 102 [(4, i9 r5), (3, i9 r1), (0, rf G 174), (1, i9 v1), (2, i9 v2)] [] d8 _
  refine r_aload_n C 2 dX12_storyLine_102 rfl rfl ?_
  refine r_iload C 0 dX12_storyLine_103 rfl ?_
  refine r_sipush C dX12_storyLine_105 rfl ?_
  refine r_callV C [i9 400, i9 r5, rf G 174] dX12_storyLine_108 (t_X12_number_174 C.h1 C.h2 r5 400 d8) mw_X12_202 mv_X12_number la_174 ly_174 rfl (by decide) (by decide) (by decide) rfl rfl (Nat.le_of_ble_eq_true rfl) (fun r9 d10 => ?_)
  show SS G X 6 _ _ 111 [(4, i9 r5), (3, i9 r1), (0, rf G 174), (1, i9 v1), (2, i9 v2)] [i9 r9] d10 _
  refine r_istore C [(5, i9 r9), (4, i9 r5), (3, i9 r1), (0, rf G 174), (1, i9 v1), (2, i9 v2)] dX12_storyLine_111 (by decide) rfl ?_
  refine r_aload_n C 3 dX12_storyLine_113 rfl rfl ?_
  refine r_callV C [rf G 174] dX12_storyLine_114 (t_X12_stop_174 C.h1 C.h2 d10) mw_X12_211 mv_X12_stop la_174 ly_174 rfl (by decide) (by decide) (by decide) rfl rfl (Nat.le_of_ble_eq_true rfl) (fun r11 d12 => ?_)
  show SS G X 6 _ _ 117 [(5, i9 r9), (4, i9 r5), (3, i9 r1), (0, rf G 174), (1, i9 v1), (2, i9 v2)] [] d12 _
  refine r_aload_n C 3 dX12_storyLine_117 rfl rfl ?_
  refine r_getR C 180 dX12_storyLine_118 fl_X12_26 la_174 ly_174 rfl rfl ?_
  refine r_iconst C dX12_storyLine_121 ?_
  refine r_iload_n C 4 dX12_storyLine_122 rfl rfl ?_
  refine r_imul C dX12_storyLine_123 ?_
  refine r_iload_n C 5 dX12_storyLine_124 rfl rfl ?_
  refine r_iast C dX12_storyLine_125 la_180 ly_180 (fun d13 => ?_)
  refine r_aload_n C 3 dX12_storyLine_126 rfl rfl ?_
  refine r_getR C 180 dX12_storyLine_127 fl_X12_26 la_174 ly_174 rfl rfl ?_
  refine r_iconst C dX12_storyLine_130 ?_
  refine r_iload_n C 4 dX12_storyLine_131 rfl rfl ?_
  refine r_imul C dX12_storyLine_132 ?_
  refine r_iconst C dX12_storyLine_133 ?_
  refine r_iadd C dX12_storyLine_134 ?_
  refine r_iload_n C 2 dX12_storyLine_135 rfl rfl ?_
  refine r_iast C dX12_storyLine_136 la_180 ly_180 (fun d14 => ?_)
  refine r_aload_n C 3 dX12_storyLine_137 rfl rfl ?_
  refine r_getR C 180 dX12_storyLine_138 fl_X12_26 la_174 ly_174 rfl rfl ?_
  refine r_iconst C dX12_storyLine_141 ?_
  refine r_iload_n C 4 dX12_storyLine_142 rfl rfl ?_
  refine r_imul C dX12_storyLine_143 ?_
  refine r_iconst C dX12_storyLine_144 ?_
  refine r_iadd C dX12_storyLine_145 ?_
  refine r_iload C 1 dX12_storyLine_146 rfl ?_
  refine r_iast C dX12_storyLine_148 la_180 ly_180 (fun d15 => ?_)
  refine r_aload_n C 3 dX12_storyLine_149 rfl rfl ?_
  refine r_getR C 180 dX12_storyLine_150 fl_X12_26 la_174 ly_174 rfl rfl ?_
  refine r_iconst C dX12_storyLine_153 ?_
  refine r_iload_n C 4 dX12_storyLine_154 rfl rfl ?_
  refine r_imul C dX12_storyLine_155 ?_
  refine r_iconst C dX12_storyLine_156 ?_
  refine r_iadd C dX12_storyLine_157 ?_
  refine r_iload C 0 dX12_storyLine_158 rfl ?_
  refine r_iast C dX12_storyLine_160 la_180 ly_180 (fun d16 => ?_)
  exact r_vret C dX12_storyLine_161 (by decide) (by decide)
set_option maxRecDepth 100000 in
theorem s_X12_storyLine_174_c52 {G : G9} {X : X9} (C : CX G X cX12_storyLine 6 RX12 [] z_X12_storyLine_174) : ∀ (v1 v2 : Int) (d : D9), SS G X 6 0 0 52 [(0, rf G 174), (1, i9 v1), (2, i9 v2)] [] d (m_X12_storyLine_174_c52  v1 v2 d) := by
  intro v1 v2 d
  unfold m_X12_storyLine_174_c52
  refine r_aload_n C 0 dX12_storyLine_52 rfl rfl ?_
  refine r_getI C dX12_storyLine_53 fl_X12_160 la_174 ly_174 rfl ?_
  refine r_if_eq C (b := 0) 60 dX12_storyLine_56 (by decide) (fun _ => ?_) (fun _ => ?_)
  · refine r_aload_n C 0 dX12_storyLine_60 rfl rfl ?_
    refine r_callV C [rf G 174] dX12_storyLine_61 (t_X12_next_174 C.h1 C.h2 d) mw_X12_180 mv_X12_next la_174 ly_174 rfl (by decide) (by decide) (by decide) rfl rfl (Nat.le_of_ble_eq_true rfl) (fun r1 d2 => ?_)
    show SS G X 6 _ _ 64 [(0, rf G 174), (1, i9 v1), (2, i9 v2)] [] d2 _
    refine r_aload_n C 0 dX12_storyLine_64 rfl rfl ?_
    refine r_iconst C dX12_storyLine_65 ?_
    refine r_iload_n C 2 dX12_storyLine_66 rfl rfl ?_
    refine r_if_ne C (b := 0) 75 dX12_storyLine_67 (by decide) (fun _ => ?_) (fun _ => ?_)
    · refine r_iconst C dX12_storyLine_75 ?_
      refine ss_wide (k' := 0) (n' := 0) (by decide) (by decide) ?_
      refine ss_ls [(0, rf G 174), (1, i9 v1), (2, i9 v2)] [0, 1, 2] rfl ?_
      exact s_X12_storyLine_174_c76 C  v1 v2 5 0 d2
    · refine r_bipush C dX12_storyLine_70 rfl ?_
      refine r_goto C 76 dX12_storyLine_72 (by decide) ?_
      refine ss_wide (k' := 0) (n' := 0) (by decide) (by decide) ?_
      refine ss_ls [(0, rf G 174), (1, i9 v1), (2, i9 v2)] [0, 1, 2] rfl ?_
      exact s_X12_storyLine_174_c76 C  v1 v2 9 0 d2
  · exact r_vret C dX12_storyLine_59 (by decide) (by decide)
set_option maxRecDepth 100000 in
theorem s_X12_storyLine_174_c27 {G : G9} {X : X9} (C : CX G X cX12_storyLine 6 RX12 [] z_X12_storyLine_174) : ∀ (v1 s0 : Int) (d : D9), SS G X 6 0 0 27 [(0, rf G 174), (1, i9 v1)] [i9 s0] d (m_X12_storyLine_174_c27  v1 s0 d) := by
  intro v1 s0 d
  unfold m_X12_storyLine_174_c27
  refine r_istore_n C [(2, i9 s0), (0, rf G 174), (1, i9 v1)] dX12_storyLine_27 rfl (by decide) rfl ?_
  refine r_iload_n C 0 dX12_storyLine_28 rfl rfl ?_
  refine r_iconst C dX12_storyLine_29 ?_
  refine r_icmp_ne C 41 dX12_storyLine_30 (by decide) (fun _ => ?_) (fun _ => ?_)
  · refine r_iload_n C 2 dX12_storyLine_41 rfl rfl ?_
    refine r_bipush C dX12_storyLine_42 rfl ?_
    refine r_icmp_ne C 52 dX12_storyLine_44 (by decide) (fun _ => ?_) (fun _ => ?_)
    · refine ss_wide (k' := 0) (n' := 0) (by decide) (by decide) ?_
      refine ss_ls [(0, rf G 174), (1, i9 v1), (2, i9 s0)] [1, 2, 0] rfl ?_
      exact s_X12_storyLine_174_c52 C  v1 s0 d
    · refine r_aload_n C 1 dX12_storyLine_47 rfl rfl ?_
      refine r_iconst C dX12_storyLine_48 ?_
      refine r_callV C [i9 4, rf G 174] dX12_storyLine_49 (t_X12_blames_174 C.h1 C.h2 4 d) mw_X12_176 mv_X12_blames la_174 ly_174 rfl (by decide) (by decide) (by decide) rfl rfl (Nat.le_of_ble_eq_true rfl) (fun r1 d2 => ?_)
      show SS G X 6 _ _ 52 [(2, i9 s0), (0, rf G 174), (1, i9 v1)] [] d2 _
      refine ss_wide (k' := 0) (n' := 0) (by decide) (by decide) ?_
      refine ss_ls [(0, rf G 174), (1, i9 v1), (2, i9 s0)] [1, 2, 0] rfl ?_
      exact s_X12_storyLine_174_c52 C  v1 s0 d2
  · refine r_aload_n C 1 dX12_storyLine_33 rfl rfl ?_
    refine r_iconst C dX12_storyLine_34 ?_
    refine r_callV C [i9 2, rf G 174] dX12_storyLine_35 (t_X12_blames_174 C.h1 C.h2 2 d) mw_X12_176 mv_X12_blames la_174 ly_174 rfl (by decide) (by decide) (by decide) rfl rfl (Nat.le_of_ble_eq_true rfl) (fun r3 d4 => ?_)
    show SS G X 6 _ _ 38 [(2, i9 s0), (0, rf G 174), (1, i9 v1)] [] d4 _
    refine r_goto C 52 dX12_storyLine_38 (by decide) ?_
    refine ss_wide (k' := 0) (n' := 0) (by decide) (by decide) ?_
    refine ss_ls [(0, rf G 174), (1, i9 v1), (2, i9 s0)] [1, 2, 0] rfl ?_
    exact s_X12_storyLine_174_c52 C  v1 s0 d4
set_option maxRecDepth 100000 in
theorem t_X12_storyLine_174 {G : G9} {l : Launch} (h1 : va_D (A9 G) (wl G (fun _ _ => 0))) (h2 : l.stackTraces = false) (p1 : Int) (d : D9) : MT G l yX12_storyLine cX12_storyLine 6 z_X12_storyLine_174 [rf G 174, i9 p1] d (m_X12_storyLine_174 p1 d) := by
  refine mt_of (own := RX12) (by decide) rfl (Nat.le_of_ble_eq_true rfl) h1 h2 [(0, rf G 174), (1, i9 p1)] rfl (fun X hX C => ?_)
  unfold m_X12_storyLine_174
  refine r_aload_n C 0 dX12_storyLine_0 rfl rfl ?_
  refine r_ldcS C 22 dX12_storyLine_1 rfl ?_
  refine r_callV C [sf G 22, rf G 174] dX12_storyLine_3 (t_X12_isWord_174_s22 C.h1 C.h2 d) mw_X12_183 mv_X12_isWord la_174 ly_174 rfl (by decide) (by decide) (by decide) rfl rfl (Nat.le_of_ble_eq_true rfl) (fun r1 d2 => ?_)
  show SS G X 6 _ _ 6 [(0, rf G 174), (1, i9 p1)] [i9 r1] d2 _
  refine r_if_eq C (b := 0) 13 dX12_storyLine_6 (by decide) (fun _ => ?_) (fun _ => ?_)
  · refine r_aload_n C 0 dX12_storyLine_13 rfl rfl ?_
    refine r_ldcS C 23 dX12_storyLine_14 rfl ?_
    refine r_callV C [sf G 23, rf G 174] dX12_storyLine_16 (t_X12_isWord_174_s23 C.h1 C.h2 d2) mw_X12_183 mv_X12_isWord la_174 ly_174 rfl (by decide) (by decide) (by decide) rfl rfl (Nat.le_of_ble_eq_true rfl) (fun r3 d4 => ?_)
    show SS G X 6 _ _ 19 [(0, rf G 174), (1, i9 p1)] [i9 r3] d4 _
    refine r_if_eq C (b := 0) 26 dX12_storyLine_19 (by decide) (fun _ => ?_) (fun _ => ?_)
    · refine r_iconst C dX12_storyLine_26 ?_
      refine ss_wide (k' := 0) (n' := 0) (by decide) (by decide) ?_
      refine ss_ls [(0, rf G 174), (1, i9 p1)] [0, 1] rfl ?_
      exact s_X12_storyLine_174_c27 C  p1 (-1) d4
    · refine r_iconst C dX12_storyLine_22 ?_
      refine r_goto C 27 dX12_storyLine_23 (by decide) ?_
      refine ss_wide (k' := 0) (n' := 0) (by decide) (by decide) ?_
      refine ss_ls [(0, rf G 174), (1, i9 p1)] [0, 1] rfl ?_
      exact s_X12_storyLine_174_c27 C  p1 1 d4
  · refine r_iconst C dX12_storyLine_9 ?_
    refine r_goto C 27 dX12_storyLine_10 (by decide) ?_
    refine ss_wide (k' := 0) (n' := 0) (by decide) (by decide) ?_
    refine ss_ls [(0, rf G 174), (1, i9 p1)] [0, 1] rfl ?_
    exact s_X12_storyLine_174_c27 C  p1 0 d2

abbrev z_X11_copyRow_15_151 : Z9 := (none, 0, 0, 0, 2, 200)
def m_X11_copyRow_15_151 (d : D9) : Option R9 := cp9 d 15 30 151 30 (min9 30 30) (fun d1 => rt 0 d1)
set_option maxRecDepth 100000 in
theorem t_X11_copyRow_15_151 {G : G9} {l : Launch} (h1 : va_D (A9 G) (wl G (fun _ _ => 0))) (h2 : l.stackTraces = false) (d : D9) : MT G l yX11_copyRow cX11_copyRow 2 z_X11_copyRow_15_151 [rf G 15, rf G 151] d (m_X11_copyRow_15_151  d) := by
  refine mt_of (own := RX11) (by decide) rfl (Nat.le_of_ble_eq_true rfl) h1 h2 [(0, rf G 15), (1, rf G 151)] rfl (fun X hX C => ?_)
  unfold m_X11_copyRow_15_151
  refine r_aload_n C 0 dX11_copyRow_0 rfl rfl ?_
  refine r_iconst C dX11_copyRow_1 ?_
  refine r_aload_n C 1 dX11_copyRow_2 rfl rfl ?_
  refine r_iconst C dX11_copyRow_3 ?_
  refine r_aload_n C 0 dX11_copyRow_4 rfl rfl ?_
  refine r_alen C dX11_copyRow_5 la_15 ly_15 ?_
  refine r_aload_n C 1 dX11_copyRow_6 rfl rfl ?_
  refine r_alen C dX11_copyRow_7 la_151 ly_151 ?_
  refine r_mmin C dX11_copyRow_8 mm_X11_465 ⟨Nat.le_of_ble_eq_true rfl, Nat.le_of_ble_eq_true rfl⟩ (by decide) (by decide) ?_
  refine r_acopy C dX11_copyRow_11 aw_X11_470 la_15 ly_15 la_151 ly_151 (by decide) (Nat.le_of_ble_eq_true rfl) (fun d1 => ?_)
  exact r_vret C dX11_copyRow_14 (by decide) (by decide)
theorem n_X11_copyRow_15_151 (d : D9) : NT9 (m_X11_copyRow_15_151  d) := by
  unfold m_X11_copyRow_15_151
  repeat (first | exact nt_rt | exact nt_none | apply nt_if | refine nt_cl ?_ (fun _ _ => ?_) | refine nt_cp9 (fun _ => ?_))
abbrev z_X11_copyRow_16_152 : Z9 := (none, 0, 0, 0, 2, 200)
def m_X11_copyRow_16_152 (d : D9) : Option R9 := cp9 d 16 30 152 30 (min9 30 30) (fun d1 => rt 0 d1)
set_option maxRecDepth 100000 in
theorem t_X11_copyRow_16_152 {G : G9} {l : Launch} (h1 : va_D (A9 G) (wl G (fun _ _ => 0))) (h2 : l.stackTraces = false) (d : D9) : MT G l yX11_copyRow cX11_copyRow 2 z_X11_copyRow_16_152 [rf G 16, rf G 152] d (m_X11_copyRow_16_152  d) := by
  refine mt_of (own := RX11) (by decide) rfl (Nat.le_of_ble_eq_true rfl) h1 h2 [(0, rf G 16), (1, rf G 152)] rfl (fun X hX C => ?_)
  unfold m_X11_copyRow_16_152
  refine r_aload_n C 0 dX11_copyRow_0 rfl rfl ?_
  refine r_iconst C dX11_copyRow_1 ?_
  refine r_aload_n C 1 dX11_copyRow_2 rfl rfl ?_
  refine r_iconst C dX11_copyRow_3 ?_
  refine r_aload_n C 0 dX11_copyRow_4 rfl rfl ?_
  refine r_alen C dX11_copyRow_5 la_16 ly_16 ?_
  refine r_aload_n C 1 dX11_copyRow_6 rfl rfl ?_
  refine r_alen C dX11_copyRow_7 la_152 ly_152 ?_
  refine r_mmin C dX11_copyRow_8 mm_X11_465 ⟨Nat.le_of_ble_eq_true rfl, Nat.le_of_ble_eq_true rfl⟩ (by decide) (by decide) ?_
  refine r_acopy C dX11_copyRow_11 aw_X11_470 la_16 ly_16 la_152 ly_152 (by decide) (Nat.le_of_ble_eq_true rfl) (fun d1 => ?_)
  exact r_vret C dX11_copyRow_14 (by decide) (by decide)
theorem n_X11_copyRow_16_152 (d : D9) : NT9 (m_X11_copyRow_16_152  d) := by
  unfold m_X11_copyRow_16_152
  repeat (first | exact nt_rt | exact nt_none | apply nt_if | refine nt_cl ?_ (fun _ _ => ?_) | refine nt_cp9 (fun _ => ?_))
abbrev z_X11_copyRow_17_153 : Z9 := (none, 0, 0, 0, 2, 200)
def m_X11_copyRow_17_153 (d : D9) : Option R9 := cp9 d 17 120 153 120 (min9 120 120) (fun d1 => rt 0 d1)
set_option maxRecDepth 100000 in
theorem t_X11_copyRow_17_153 {G : G9} {l : Launch} (h1 : va_D (A9 G) (wl G (fun _ _ => 0))) (h2 : l.stackTraces = false) (d : D9) : MT G l yX11_copyRow cX11_copyRow 2 z_X11_copyRow_17_153 [rf G 17, rf G 153] d (m_X11_copyRow_17_153  d) := by
  refine mt_of (own := RX11) (by decide) rfl (Nat.le_of_ble_eq_true rfl) h1 h2 [(0, rf G 17), (1, rf G 153)] rfl (fun X hX C => ?_)
  unfold m_X11_copyRow_17_153
  refine r_aload_n C 0 dX11_copyRow_0 rfl rfl ?_
  refine r_iconst C dX11_copyRow_1 ?_
  refine r_aload_n C 1 dX11_copyRow_2 rfl rfl ?_
  refine r_iconst C dX11_copyRow_3 ?_
  refine r_aload_n C 0 dX11_copyRow_4 rfl rfl ?_
  refine r_alen C dX11_copyRow_5 la_17 ly_17 ?_
  refine r_aload_n C 1 dX11_copyRow_6 rfl rfl ?_
  refine r_alen C dX11_copyRow_7 la_153 ly_153 ?_
  refine r_mmin C dX11_copyRow_8 mm_X11_465 ⟨Nat.le_of_ble_eq_true rfl, Nat.le_of_ble_eq_true rfl⟩ (by decide) (by decide) ?_
  refine r_acopy C dX11_copyRow_11 aw_X11_470 la_17 ly_17 la_153 ly_153 (by decide) (Nat.le_of_ble_eq_true rfl) (fun d1 => ?_)
  exact r_vret C dX11_copyRow_14 (by decide) (by decide)
theorem n_X11_copyRow_17_153 (d : D9) : NT9 (m_X11_copyRow_17_153  d) := by
  unfold m_X11_copyRow_17_153
  repeat (first | exact nt_rt | exact nt_none | apply nt_if | refine nt_cl ?_ (fun _ _ => ?_) | refine nt_cp9 (fun _ => ?_))
abbrev z_X11_copyRow_18_154 : Z9 := (none, 0, 0, 0, 2, 200)
def m_X11_copyRow_18_154 (d : D9) : Option R9 := cp9 d 18 120 154 120 (min9 120 120) (fun d1 => rt 0 d1)
set_option maxRecDepth 100000 in
theorem t_X11_copyRow_18_154 {G : G9} {l : Launch} (h1 : va_D (A9 G) (wl G (fun _ _ => 0))) (h2 : l.stackTraces = false) (d : D9) : MT G l yX11_copyRow cX11_copyRow 2 z_X11_copyRow_18_154 [rf G 18, rf G 154] d (m_X11_copyRow_18_154  d) := by
  refine mt_of (own := RX11) (by decide) rfl (Nat.le_of_ble_eq_true rfl) h1 h2 [(0, rf G 18), (1, rf G 154)] rfl (fun X hX C => ?_)
  unfold m_X11_copyRow_18_154
  refine r_aload_n C 0 dX11_copyRow_0 rfl rfl ?_
  refine r_iconst C dX11_copyRow_1 ?_
  refine r_aload_n C 1 dX11_copyRow_2 rfl rfl ?_
  refine r_iconst C dX11_copyRow_3 ?_
  refine r_aload_n C 0 dX11_copyRow_4 rfl rfl ?_
  refine r_alen C dX11_copyRow_5 la_18 ly_18 ?_
  refine r_aload_n C 1 dX11_copyRow_6 rfl rfl ?_
  refine r_alen C dX11_copyRow_7 la_154 ly_154 ?_
  refine r_mmin C dX11_copyRow_8 mm_X11_465 ⟨Nat.le_of_ble_eq_true rfl, Nat.le_of_ble_eq_true rfl⟩ (by decide) (by decide) ?_
  refine r_acopy C dX11_copyRow_11 aw_X11_470 la_18 ly_18 la_154 ly_154 (by decide) (Nat.le_of_ble_eq_true rfl) (fun d1 => ?_)
  exact r_vret C dX11_copyRow_14 (by decide) (by decide)
theorem n_X11_copyRow_18_154 (d : D9) : NT9 (m_X11_copyRow_18_154  d) := by
  unfold m_X11_copyRow_18_154
  repeat (first | exact nt_rt | exact nt_none | apply nt_if | refine nt_cl ?_ (fun _ _ => ?_) | refine nt_cp9 (fun _ => ?_))
abbrev z_X11_copyRow_19_155 : Z9 := (none, 0, 0, 0, 2, 200)
def m_X11_copyRow_19_155 (d : D9) : Option R9 := cp9 d 19 120 155 120 (min9 120 120) (fun d1 => rt 0 d1)
set_option maxRecDepth 100000 in
theorem t_X11_copyRow_19_155 {G : G9} {l : Launch} (h1 : va_D (A9 G) (wl G (fun _ _ => 0))) (h2 : l.stackTraces = false) (d : D9) : MT G l yX11_copyRow cX11_copyRow 2 z_X11_copyRow_19_155 [rf G 19, rf G 155] d (m_X11_copyRow_19_155  d) := by
  refine mt_of (own := RX11) (by decide) rfl (Nat.le_of_ble_eq_true rfl) h1 h2 [(0, rf G 19), (1, rf G 155)] rfl (fun X hX C => ?_)
  unfold m_X11_copyRow_19_155
  refine r_aload_n C 0 dX11_copyRow_0 rfl rfl ?_
  refine r_iconst C dX11_copyRow_1 ?_
  refine r_aload_n C 1 dX11_copyRow_2 rfl rfl ?_
  refine r_iconst C dX11_copyRow_3 ?_
  refine r_aload_n C 0 dX11_copyRow_4 rfl rfl ?_
  refine r_alen C dX11_copyRow_5 la_19 ly_19 ?_
  refine r_aload_n C 1 dX11_copyRow_6 rfl rfl ?_
  refine r_alen C dX11_copyRow_7 la_155 ly_155 ?_
  refine r_mmin C dX11_copyRow_8 mm_X11_465 ⟨Nat.le_of_ble_eq_true rfl, Nat.le_of_ble_eq_true rfl⟩ (by decide) (by decide) ?_
  refine r_acopy C dX11_copyRow_11 aw_X11_470 la_19 ly_19 la_155 ly_155 (by decide) (Nat.le_of_ble_eq_true rfl) (fun d1 => ?_)
  exact r_vret C dX11_copyRow_14 (by decide) (by decide)
theorem n_X11_copyRow_19_155 (d : D9) : NT9 (m_X11_copyRow_19_155  d) := by
  unfold m_X11_copyRow_19_155
  repeat (first | exact nt_rt | exact nt_none | apply nt_if | refine nt_cl ?_ (fun _ _ => ?_) | refine nt_cp9 (fun _ => ?_))
abbrev z_X11_copyRow_20_156 : Z9 := (none, 0, 0, 0, 2, 200)
def m_X11_copyRow_20_156 (d : D9) : Option R9 := cp9 d 20 120 156 120 (min9 120 120) (fun d1 => rt 0 d1)
set_option maxRecDepth 100000 in
theorem t_X11_copyRow_20_156 {G : G9} {l : Launch} (h1 : va_D (A9 G) (wl G (fun _ _ => 0))) (h2 : l.stackTraces = false) (d : D9) : MT G l yX11_copyRow cX11_copyRow 2 z_X11_copyRow_20_156 [rf G 20, rf G 156] d (m_X11_copyRow_20_156  d) := by
  refine mt_of (own := RX11) (by decide) rfl (Nat.le_of_ble_eq_true rfl) h1 h2 [(0, rf G 20), (1, rf G 156)] rfl (fun X hX C => ?_)
  unfold m_X11_copyRow_20_156
  refine r_aload_n C 0 dX11_copyRow_0 rfl rfl ?_
  refine r_iconst C dX11_copyRow_1 ?_
  refine r_aload_n C 1 dX11_copyRow_2 rfl rfl ?_
  refine r_iconst C dX11_copyRow_3 ?_
  refine r_aload_n C 0 dX11_copyRow_4 rfl rfl ?_
  refine r_alen C dX11_copyRow_5 la_20 ly_20 ?_
  refine r_aload_n C 1 dX11_copyRow_6 rfl rfl ?_
  refine r_alen C dX11_copyRow_7 la_156 ly_156 ?_
  refine r_mmin C dX11_copyRow_8 mm_X11_465 ⟨Nat.le_of_ble_eq_true rfl, Nat.le_of_ble_eq_true rfl⟩ (by decide) (by decide) ?_
  refine r_acopy C dX11_copyRow_11 aw_X11_470 la_20 ly_20 la_156 ly_156 (by decide) (Nat.le_of_ble_eq_true rfl) (fun d1 => ?_)
  exact r_vret C dX11_copyRow_14 (by decide) (by decide)
theorem n_X11_copyRow_20_156 (d : D9) : NT9 (m_X11_copyRow_20_156  d) := by
  unfold m_X11_copyRow_20_156
  repeat (first | exact nt_rt | exact nt_none | apply nt_if | refine nt_cl ?_ (fun _ _ => ?_) | refine nt_cp9 (fun _ => ?_))
abbrev z_X11_copyRow_21_157 : Z9 := (none, 0, 0, 0, 2, 200)
def m_X11_copyRow_21_157 (d : D9) : Option R9 := cp9 d 21 120 157 120 (min9 120 120) (fun d1 => rt 0 d1)
set_option maxRecDepth 100000 in
theorem t_X11_copyRow_21_157 {G : G9} {l : Launch} (h1 : va_D (A9 G) (wl G (fun _ _ => 0))) (h2 : l.stackTraces = false) (d : D9) : MT G l yX11_copyRow cX11_copyRow 2 z_X11_copyRow_21_157 [rf G 21, rf G 157] d (m_X11_copyRow_21_157  d) := by
  refine mt_of (own := RX11) (by decide) rfl (Nat.le_of_ble_eq_true rfl) h1 h2 [(0, rf G 21), (1, rf G 157)] rfl (fun X hX C => ?_)
  unfold m_X11_copyRow_21_157
  refine r_aload_n C 0 dX11_copyRow_0 rfl rfl ?_
  refine r_iconst C dX11_copyRow_1 ?_
  refine r_aload_n C 1 dX11_copyRow_2 rfl rfl ?_
  refine r_iconst C dX11_copyRow_3 ?_
  refine r_aload_n C 0 dX11_copyRow_4 rfl rfl ?_
  refine r_alen C dX11_copyRow_5 la_21 ly_21 ?_
  refine r_aload_n C 1 dX11_copyRow_6 rfl rfl ?_
  refine r_alen C dX11_copyRow_7 la_157 ly_157 ?_
  refine r_mmin C dX11_copyRow_8 mm_X11_465 ⟨Nat.le_of_ble_eq_true rfl, Nat.le_of_ble_eq_true rfl⟩ (by decide) (by decide) ?_
  refine r_acopy C dX11_copyRow_11 aw_X11_470 la_21 ly_21 la_157 ly_157 (by decide) (Nat.le_of_ble_eq_true rfl) (fun d1 => ?_)
  exact r_vret C dX11_copyRow_14 (by decide) (by decide)
theorem n_X11_copyRow_21_157 (d : D9) : NT9 (m_X11_copyRow_21_157  d) := by
  unfold m_X11_copyRow_21_157
  repeat (first | exact nt_rt | exact nt_none | apply nt_if | refine nt_cl ?_ (fun _ _ => ?_) | refine nt_cp9 (fun _ => ?_))
abbrev z_X6_copyFrom_145_9 : Z9 := (none, 0, 0, 0, 3, 221)
def m_X6_copyFrom_145_9 (d : D9) : Option R9 := pf d 145 0 (d 9 0) (fun d1 => cl (m_X11_copyRow_10_146 d1) (fun r2 d3 => cl (m_X11_copyRow_11_147 d3) (fun r4 d5 => cl (m_X11_copyRow_12_148 d5) (fun r6 d7 => cl (m_X11_copyRow_13_149 d7) (fun r8 d9 => cl (m_X11_copyRow_14_150 d9) (fun r10 d11 => cl (m_X11_copyRow_15_151 d11) (fun r12 d13 => cl (m_X11_copyRow_16_152 d13) (fun r14 d15 => cl (m_X11_copyRow_17_153 d15) (fun r16 d17 => cl (m_X11_copyRow_18_154 d17) (fun r18 d19 => cl (m_X11_copyRow_19_155 d19) (fun r20 d21 => cl (m_X11_copyRow_20_156 d21) (fun r22 d23 => cl (m_X11_copyRow_21_157 d23) (fun r24 d25 => rt 0 d25)))))))))))))
set_option maxRecDepth 100000 in
theorem t_X6_copyFrom_145_9 {G : G9} {l : Launch} (h1 : va_D (A9 G) (wl G (fun _ _ => 0))) (h2 : l.stackTraces = false) (d : D9) : MT G l yX6_copyFrom cX6_copyFrom 2 z_X6_copyFrom_145_9 [rf G 145, rf G 9] d (m_X6_copyFrom_145_9  d) := by
  refine mt_of (own := RX6) (by decide) rfl (Nat.le_of_ble_eq_true rfl) h1 h2 [(0, rf G 145), (1, rf G 9)] rfl (fun X hX C => ?_)
  unfold m_X6_copyFrom_145_9
  refine r_aload_n C 0 dX6_copyFrom_0 rfl rfl ?_
  refine r_aload_n C 1 dX6_copyFrom_1 rfl rfl ?_
  refine r_getI C dX6_copyFrom_2 fl_X6_48 la_9 ly_9 rfl ?_
  refine r_putI C dX6_copyFrom_5 fp_X6_48 la_145 ly_145 rfl (fun d1 => ?_)
  refine r_aload_n C 1 dX6_copyFrom_8 rfl rfl ?_
  refine r_getR C 10 dX6_copyFrom_9 fl_X6_9 la_9 ly_9 rfl rfl ?_
  refine r_aload_n C 0 dX6_copyFrom_12 rfl rfl ?_
  refine r_getR C 146 dX6_copyFrom_13 fl_X6_9 la_145 ly_145 rfl rfl ?_
  refine r_callN C [rf G 146, rf G 10] dX6_copyFrom_16 (t_X11_copyRow_10_146 C.h1 C.h2 d1) (n_X11_copyRow_10_146 d1) mn_X6_52 ms_X11_copyRow (by decide) (by decide) (by decide) rfl rfl (Nat.le_of_ble_eq_true rfl) (fun r2 d3 => ?_)
  show SS G X 2 _ _ 19 [(0, rf G 145), (1, rf G 9)] [] d3 _
  refine r_aload_n C 1 dX6_copyFrom_19 rfl rfl ?_
  refine r_getR C 11 dX6_copyFrom_20 fl_X6_15 la_9 ly_9 rfl rfl ?_
  refine r_aload_n C 0 dX6_copyFrom_23 rfl rfl ?_
  refine r_getR C 147 dX6_copyFrom_24 fl_X6_15 la_145 ly_145 rfl rfl ?_
  refine r_callN C [rf G 147, rf G 11] dX6_copyFrom_27 (t_X11_copyRow_11_147 C.h1 C.h2 d3) (n_X11_copyRow_11_147 d3) mn_X6_52 ms_X11_copyRow (by decide) (by decide) (by decide) rfl rfl (Nat.le_of_ble_eq_true rfl) (fun r4 d5 => ?_)
  show SS G X 2 _ _ 30 [(0, rf G 145), (1, rf G 9)] [] d5 _
  refine r_aload_n C 1 dX6_copyFrom_30 rfl rfl ?_
  refine r_getR C 12 dX6_copyFrom_31 fl_X6_18 la_9 ly_9 rfl rfl ?_
  refine r_aload_n C 0 dX6_copyFrom_34 rfl rfl ?_
  refine r_getR C 148 dX6_copyFrom_35 fl_X6_18 la_145 ly_145 rfl rfl ?_
  refine r_callN C [rf G 148, rf G 12] dX6_copyFrom_38 (t_X11_copyRow_12_148 C.h1 C.h2 d5) (n_X11_copyRow_12_148 d5) mn_X6_52 ms_X11_copyRow (by decide) (by decide) (by decide) rfl rfl (Nat.le_of_ble_eq_true rfl) (fun r6 d7 => ?_)
  show SS G X 2 _ _ 41 [(0, rf G 145), (1, rf G 9)] [] d7 _
  refine r_aload_n C 1 dX6_copyFrom_41 rfl rfl ?_
  refine r_getR C 13 dX6_copyFrom_42 fl_X6_21 la_9 ly_9 rfl rfl ?_
  refine r_aload_n C 0 dX6_copyFrom_45 rfl rfl ?_
  refine r_getR C 149 dX6_copyFrom_46 fl_X6_21 la_145 ly_145 rfl rfl ?_
  refine r_callN C [rf G 149, rf G 13] dX6_copyFrom_49 (t_X11_copyRow_13_149 C.h1 C.h2 d7) (n_X11_copyRow_13_149 d7) mn_X6_52 ms_X11_copyRow (by decide) (by decide) (by decide) rfl rfl (Nat.le_of_ble_eq_true rfl) (fun r8 d9 => ?_)
  show SS G X 2 _ _ 52 [(0, rf G 145), (1, rf G 9)] [] d9 _
  refine r_aload_n C 1 dX6_copyFrom_52 rfl rfl ?_
  refine r_getR C 14 dX6_copyFrom_53 fl_X6_24 la_9 ly_9 rfl rfl ?_
  refine r_aload_n C 0 dX6_copyFrom_56 rfl rfl ?_
  refine r_getR C 150 dX6_copyFrom_57 fl_X6_24 la_145 ly_145 rfl rfl ?_
  refine r_callN C [rf G 150, rf G 14] dX6_copyFrom_60 (t_X11_copyRow_14_150 C.h1 C.h2 d9) (n_X11_copyRow_14_150 d9) mn_X6_52 ms_X11_copyRow (by decide) (by decide) (by decide) rfl rfl (Nat.le_of_ble_eq_true rfl) (fun r10 d11 => ?_)
  show SS G X 2 _ _ 63 [(0, rf G 145), (1, rf G 9)] [] d11 _
  refine r_aload_n C 1 dX6_copyFrom_63 rfl rfl ?_
  refine r_getR C 15 dX6_copyFrom_64 fl_X6_27 la_9 ly_9 rfl rfl ?_
  refine r_aload_n C 0 dX6_copyFrom_67 rfl rfl ?_
  refine r_getR C 151 dX6_copyFrom_68 fl_X6_27 la_145 ly_145 rfl rfl ?_
  refine r_callN C [rf G 151, rf G 15] dX6_copyFrom_71 (t_X11_copyRow_15_151 C.h1 C.h2 d11) (n_X11_copyRow_15_151 d11) mn_X6_52 ms_X11_copyRow (by decide) (by decide) (by decide) rfl rfl (Nat.le_of_ble_eq_true rfl) (fun r12 d13 => ?_)
  show SS G X 2 _ _ 74 [(0, rf G 145), (1, rf G 9)] [] d13 _
  refine r_aload_n C 1 dX6_copyFrom_74 rfl rfl ?_
  refine r_getR C 16 dX6_copyFrom_75 fl_X6_30 la_9 ly_9 rfl rfl ?_
  refine r_aload_n C 0 dX6_copyFrom_78 rfl rfl ?_
  refine r_getR C 152 dX6_copyFrom_79 fl_X6_30 la_145 ly_145 rfl rfl ?_
  refine r_callN C [rf G 152, rf G 16] dX6_copyFrom_82 (t_X11_copyRow_16_152 C.h1 C.h2 d13) (n_X11_copyRow_16_152 d13) mn_X6_52 ms_X11_copyRow (by decide) (by decide) (by decide) rfl rfl (Nat.le_of_ble_eq_true rfl) (fun r14 d15 => ?_)
  show SS G X 2 _ _ 85 [(0, rf G 145), (1, rf G 9)] [] d15 _
  refine r_aload_n C 1 dX6_copyFrom_85 rfl rfl ?_
  refine r_getR C 17 dX6_copyFrom_86 fl_X6_33 la_9 ly_9 rfl rfl ?_
  refine r_aload_n C 0 dX6_copyFrom_89 rfl rfl ?_
  refine r_getR C 153 dX6_copyFrom_90 fl_X6_33 la_145 ly_145 rfl rfl ?_
  refine r_callN C [rf G 153, rf G 17] dX6_copyFrom_93 (t_X11_copyRow_17_153 C.h1 C.h2 d15) (n_X11_copyRow_17_153 d15) mn_X6_52 ms_X11_copyRow (by decide) (by decide) (by decide) rfl rfl (Nat.le_of_ble_eq_true rfl) (fun r16 d17 => ?_)
  show SS G X 2 _ _ 96 [(0, rf G 145), (1, rf G 9)] [] d17 _
  refine r_aload_n C 1 dX6_copyFrom_96 rfl rfl ?_
  refine r_getR C 18 dX6_copyFrom_97 fl_X6_36 la_9 ly_9 rfl rfl ?_
  refine r_aload_n C 0 dX6_copyFrom_100 rfl rfl ?_
  refine r_getR C 154 dX6_copyFrom_101 fl_X6_36 la_145 ly_145 rfl rfl ?_
  refine r_callN C [rf G 154, rf G 18] dX6_copyFrom_104 (t_X11_copyRow_18_154 C.h1 C.h2 d17) (n_X11_copyRow_18_154 d17) mn_X6_52 ms_X11_copyRow (by decide) (by decide) (by decide) rfl rfl (Nat.le_of_ble_eq_true rfl) (fun r18 d19 => ?_)
  show SS G X 2 _ _ 107 [(0, rf G 145), (1, rf G 9)] [] d19 _
  refine r_aload_n C 1 dX6_copyFrom_107 rfl rfl ?_
  refine r_getR C 19 dX6_copyFrom_108 fl_X6_39 la_9 ly_9 rfl rfl ?_
  refine r_aload_n C 0 dX6_copyFrom_111 rfl rfl ?_
  refine r_getR C 155 dX6_copyFrom_112 fl_X6_39 la_145 ly_145 rfl rfl ?_
  refine r_callN C [rf G 155, rf G 19] dX6_copyFrom_115 (t_X11_copyRow_19_155 C.h1 C.h2 d19) (n_X11_copyRow_19_155 d19) mn_X6_52 ms_X11_copyRow (by decide) (by decide) (by decide) rfl rfl (Nat.le_of_ble_eq_true rfl) (fun r20 d21 => ?_)
  show SS G X 2 _ _ 118 [(0, rf G 145), (1, rf G 9)] [] d21 _
  refine r_aload_n C 1 dX6_copyFrom_118 rfl rfl ?_
  refine r_getR C 20 dX6_copyFrom_119 fl_X6_42 la_9 ly_9 rfl rfl ?_
  refine r_aload_n C 0 dX6_copyFrom_122 rfl rfl ?_
  refine r_getR C 156 dX6_copyFrom_123 fl_X6_42 la_145 ly_145 rfl rfl ?_
  refine r_callN C [rf G 156, rf G 20] dX6_copyFrom_126 (t_X11_copyRow_20_156 C.h1 C.h2 d21) (n_X11_copyRow_20_156 d21) mn_X6_52 ms_X11_copyRow (by decide) (by decide) (by decide) rfl rfl (Nat.le_of_ble_eq_true rfl) (fun r22 d23 => ?_)
  show SS G X 2 _ _ 129 [(0, rf G 145), (1, rf G 9)] [] d23 _
  refine r_aload_n C 1 dX6_copyFrom_129 rfl rfl ?_
  refine r_getR C 21 dX6_copyFrom_130 fl_X6_45 la_9 ly_9 rfl rfl ?_
  refine r_aload_n C 0 dX6_copyFrom_133 rfl rfl ?_
  refine r_getR C 157 dX6_copyFrom_134 fl_X6_45 la_145 ly_145 rfl rfl ?_
  refine r_callN C [rf G 157, rf G 21] dX6_copyFrom_137 (t_X11_copyRow_21_157 C.h1 C.h2 d23) (n_X11_copyRow_21_157 d23) mn_X6_52 ms_X11_copyRow (by decide) (by decide) (by decide) rfl rfl (Nat.le_of_ble_eq_true rfl) (fun r24 d25 => ?_)
  show SS G X 2 _ _ 140 [(0, rf G 145), (1, rf G 9)] [] d25 _
  exact r_vret C dX6_copyFrom_140 (by decide) (by decide)
abbrev z_X2_copyFrom_158_22 : Z9 := (none, 0, 0, 0, 1, 0)
def m_X2_copyFrom_158_22 (d : D9) : Option R9 := pf d 158 0 (d 22 0) (fun d1 => pf d1 158 1 (d1 22 1) (fun d2 => pf d2 158 2 (d2 22 2) (fun d3 => pf d3 158 3 (d3 22 3) (fun d4 => pf d4 158 4 (d4 22 4) (fun d5 => pf d5 158 5 (d5 22 5) (fun d6 => pf d6 158 6 (d6 22 6) (fun d7 => pf d7 158 7 (d7 22 7) (fun d8 => rt 0 d8))))))))
set_option maxRecDepth 100000 in
theorem t_X2_copyFrom_158_22 {G : G9} {l : Launch} (h1 : va_D (A9 G) (wl G (fun _ _ => 0))) (h2 : l.stackTraces = false) (d : D9) : MT G l yX2_copyFrom cX2_copyFrom 2 z_X2_copyFrom_158_22 [rf G 158, rf G 22] d (m_X2_copyFrom_158_22  d) := by
  refine mt_of (own := RX2) (by decide) rfl (Nat.le_of_ble_eq_true rfl) h1 h2 [(0, rf G 158), (1, rf G 22)] rfl (fun X hX C => ?_)
  unfold m_X2_copyFrom_158_22
  refine r_aload_n C 0 dX2_copyFrom_0 rfl rfl ?_
  refine r_aload_n C 1 dX2_copyFrom_1 rfl rfl ?_
  refine r_getI C dX2_copyFrom_2 fl_X2_14 la_22 ly_22 rfl ?_
  refine r_putI C dX2_copyFrom_5 fp_X2_14 la_158 ly_158 rfl (fun d1 => ?_)
  refine r_aload_n C 0 dX2_copyFrom_8 rfl rfl ?_
  refine r_aload_n C 1 dX2_copyFrom_9 rfl rfl ?_
  refine r_getI C dX2_copyFrom_10 fl_X2_18 la_22 ly_22 rfl ?_
  refine r_putI C dX2_copyFrom_13 fp_X2_18 la_158 ly_158 rfl (fun d2 => ?_)
  refine r_aload_n C 0 dX2_copyFrom_16 rfl rfl ?_
  refine r_aload_n C 1 dX2_copyFrom_17 rfl rfl ?_
  refine r_getI C dX2_copyFrom_18 fl_X2_21 la_22 ly_22 rfl ?_
  refine r_putI C dX2_copyFrom_21 fp_X2_21 la_158 ly_158 rfl (fun d3 => ?_)
  refine r_aload_n C 0 dX2_copyFrom_24 rfl rfl ?_
  refine r_aload_n C 1 dX2_copyFrom_25 rfl rfl ?_
  refine r_getI C dX2_copyFrom_26 fl_X2_24 la_22 ly_22 rfl ?_
  refine r_putI C dX2_copyFrom_29 fp_X2_24 la_158 ly_158 rfl (fun d4 => ?_)
  refine r_aload_n C 0 dX2_copyFrom_32 rfl rfl ?_
  refine r_aload_n C 1 dX2_copyFrom_33 rfl rfl ?_
  refine r_getI C dX2_copyFrom_34 fl_X2_27 la_22 ly_22 rfl ?_
  refine r_putI C dX2_copyFrom_37 fp_X2_27 la_158 ly_158 rfl (fun d5 => ?_)
  refine r_aload_n C 0 dX2_copyFrom_40 rfl rfl ?_
  refine r_aload_n C 1 dX2_copyFrom_41 rfl rfl ?_
  refine r_getI C dX2_copyFrom_42 fl_X2_30 la_22 ly_22 rfl ?_
  refine r_putI C dX2_copyFrom_45 fp_X2_30 la_158 ly_158 rfl (fun d6 => ?_)
  refine r_aload_n C 0 dX2_copyFrom_48 rfl rfl ?_
  refine r_aload_n C 1 dX2_copyFrom_49 rfl rfl ?_
  refine r_getI C dX2_copyFrom_50 fl_X2_33 la_22 ly_22 rfl ?_
  refine r_putI C dX2_copyFrom_53 fp_X2_33 la_158 ly_158 rfl (fun d7 => ?_)
  refine r_aload_n C 0 dX2_copyFrom_56 rfl rfl ?_
  refine r_aload_n C 1 dX2_copyFrom_57 rfl rfl ?_
  refine r_getI C dX2_copyFrom_58 fl_X2_36 la_22 ly_22 rfl ?_
  refine r_putI C dX2_copyFrom_61 fp_X2_36 la_158 ly_158 rfl (fun d8 => ?_)
  exact r_vret C dX2_copyFrom_64 (by decide) (by decide)
abbrev z_X11_copyRow_24_160 : Z9 := (none, 0, 0, 0, 2, 200)
def m_X11_copyRow_24_160 (d : D9) : Option R9 := cp9 d 24 12 160 12 (min9 12 12) (fun d1 => rt 0 d1)
set_option maxRecDepth 100000 in
theorem t_X11_copyRow_24_160 {G : G9} {l : Launch} (h1 : va_D (A9 G) (wl G (fun _ _ => 0))) (h2 : l.stackTraces = false) (d : D9) : MT G l yX11_copyRow cX11_copyRow 2 z_X11_copyRow_24_160 [rf G 24, rf G 160] d (m_X11_copyRow_24_160  d) := by
  refine mt_of (own := RX11) (by decide) rfl (Nat.le_of_ble_eq_true rfl) h1 h2 [(0, rf G 24), (1, rf G 160)] rfl (fun X hX C => ?_)
  unfold m_X11_copyRow_24_160
  refine r_aload_n C 0 dX11_copyRow_0 rfl rfl ?_
  refine r_iconst C dX11_copyRow_1 ?_
  refine r_aload_n C 1 dX11_copyRow_2 rfl rfl ?_
  refine r_iconst C dX11_copyRow_3 ?_
  refine r_aload_n C 0 dX11_copyRow_4 rfl rfl ?_
  refine r_alen C dX11_copyRow_5 la_24 ly_24 ?_
  refine r_aload_n C 1 dX11_copyRow_6 rfl rfl ?_
  refine r_alen C dX11_copyRow_7 la_160 ly_160 ?_
  refine r_mmin C dX11_copyRow_8 mm_X11_465 ⟨Nat.le_of_ble_eq_true rfl, Nat.le_of_ble_eq_true rfl⟩ (by decide) (by decide) ?_
  refine r_acopy C dX11_copyRow_11 aw_X11_470 la_24 ly_24 la_160 ly_160 (by decide) (Nat.le_of_ble_eq_true rfl) (fun d1 => ?_)
  exact r_vret C dX11_copyRow_14 (by decide) (by decide)
theorem n_X11_copyRow_24_160 (d : D9) : NT9 (m_X11_copyRow_24_160  d) := by
  unfold m_X11_copyRow_24_160
  repeat (first | exact nt_rt | exact nt_none | apply nt_if | refine nt_cl ?_ (fun _ _ => ?_) | refine nt_cp9 (fun _ => ?_))
abbrev z_X11_copyRow_25_161 : Z9 := (none, 0, 0, 0, 2, 200)
def m_X11_copyRow_25_161 (d : D9) : Option R9 := cp9 d 25 12 161 12 (min9 12 12) (fun d1 => rt 0 d1)
set_option maxRecDepth 100000 in
theorem t_X11_copyRow_25_161 {G : G9} {l : Launch} (h1 : va_D (A9 G) (wl G (fun _ _ => 0))) (h2 : l.stackTraces = false) (d : D9) : MT G l yX11_copyRow cX11_copyRow 2 z_X11_copyRow_25_161 [rf G 25, rf G 161] d (m_X11_copyRow_25_161  d) := by
  refine mt_of (own := RX11) (by decide) rfl (Nat.le_of_ble_eq_true rfl) h1 h2 [(0, rf G 25), (1, rf G 161)] rfl (fun X hX C => ?_)
  unfold m_X11_copyRow_25_161
  refine r_aload_n C 0 dX11_copyRow_0 rfl rfl ?_
  refine r_iconst C dX11_copyRow_1 ?_
  refine r_aload_n C 1 dX11_copyRow_2 rfl rfl ?_
  refine r_iconst C dX11_copyRow_3 ?_
  refine r_aload_n C 0 dX11_copyRow_4 rfl rfl ?_
  refine r_alen C dX11_copyRow_5 la_25 ly_25 ?_
  refine r_aload_n C 1 dX11_copyRow_6 rfl rfl ?_
  refine r_alen C dX11_copyRow_7 la_161 ly_161 ?_
  refine r_mmin C dX11_copyRow_8 mm_X11_465 ⟨Nat.le_of_ble_eq_true rfl, Nat.le_of_ble_eq_true rfl⟩ (by decide) (by decide) ?_
  refine r_acopy C dX11_copyRow_11 aw_X11_470 la_25 ly_25 la_161 ly_161 (by decide) (Nat.le_of_ble_eq_true rfl) (fun d1 => ?_)
  exact r_vret C dX11_copyRow_14 (by decide) (by decide)
theorem n_X11_copyRow_25_161 (d : D9) : NT9 (m_X11_copyRow_25_161  d) := by
  unfold m_X11_copyRow_25_161
  repeat (first | exact nt_rt | exact nt_none | apply nt_if | refine nt_cl ?_ (fun _ _ => ?_) | refine nt_cp9 (fun _ => ?_))
abbrev z_X11_copyRow_26_162 : Z9 := (none, 0, 0, 0, 2, 200)
def m_X11_copyRow_26_162 (d : D9) : Option R9 := cp9 d 26 12 162 12 (min9 12 12) (fun d1 => rt 0 d1)
set_option maxRecDepth 100000 in
theorem t_X11_copyRow_26_162 {G : G9} {l : Launch} (h1 : va_D (A9 G) (wl G (fun _ _ => 0))) (h2 : l.stackTraces = false) (d : D9) : MT G l yX11_copyRow cX11_copyRow 2 z_X11_copyRow_26_162 [rf G 26, rf G 162] d (m_X11_copyRow_26_162  d) := by
  refine mt_of (own := RX11) (by decide) rfl (Nat.le_of_ble_eq_true rfl) h1 h2 [(0, rf G 26), (1, rf G 162)] rfl (fun X hX C => ?_)
  unfold m_X11_copyRow_26_162
  refine r_aload_n C 0 dX11_copyRow_0 rfl rfl ?_
  refine r_iconst C dX11_copyRow_1 ?_
  refine r_aload_n C 1 dX11_copyRow_2 rfl rfl ?_
  refine r_iconst C dX11_copyRow_3 ?_
  refine r_aload_n C 0 dX11_copyRow_4 rfl rfl ?_
  refine r_alen C dX11_copyRow_5 la_26 ly_26 ?_
  refine r_aload_n C 1 dX11_copyRow_6 rfl rfl ?_
  refine r_alen C dX11_copyRow_7 la_162 ly_162 ?_
  refine r_mmin C dX11_copyRow_8 mm_X11_465 ⟨Nat.le_of_ble_eq_true rfl, Nat.le_of_ble_eq_true rfl⟩ (by decide) (by decide) ?_
  refine r_acopy C dX11_copyRow_11 aw_X11_470 la_26 ly_26 la_162 ly_162 (by decide) (Nat.le_of_ble_eq_true rfl) (fun d1 => ?_)
  exact r_vret C dX11_copyRow_14 (by decide) (by decide)
theorem n_X11_copyRow_26_162 (d : D9) : NT9 (m_X11_copyRow_26_162  d) := by
  unfold m_X11_copyRow_26_162
  repeat (first | exact nt_rt | exact nt_none | apply nt_if | refine nt_cl ?_ (fun _ _ => ?_) | refine nt_cp9 (fun _ => ?_))
abbrev z_X11_copyRow_27_163 : Z9 := (none, 0, 0, 0, 2, 200)
def m_X11_copyRow_27_163 (d : D9) : Option R9 := cp9 d 27 12 163 12 (min9 12 12) (fun d1 => rt 0 d1)
set_option maxRecDepth 100000 in
theorem t_X11_copyRow_27_163 {G : G9} {l : Launch} (h1 : va_D (A9 G) (wl G (fun _ _ => 0))) (h2 : l.stackTraces = false) (d : D9) : MT G l yX11_copyRow cX11_copyRow 2 z_X11_copyRow_27_163 [rf G 27, rf G 163] d (m_X11_copyRow_27_163  d) := by
  refine mt_of (own := RX11) (by decide) rfl (Nat.le_of_ble_eq_true rfl) h1 h2 [(0, rf G 27), (1, rf G 163)] rfl (fun X hX C => ?_)
  unfold m_X11_copyRow_27_163
  refine r_aload_n C 0 dX11_copyRow_0 rfl rfl ?_
  refine r_iconst C dX11_copyRow_1 ?_
  refine r_aload_n C 1 dX11_copyRow_2 rfl rfl ?_
  refine r_iconst C dX11_copyRow_3 ?_
  refine r_aload_n C 0 dX11_copyRow_4 rfl rfl ?_
  refine r_alen C dX11_copyRow_5 la_27 ly_27 ?_
  refine r_aload_n C 1 dX11_copyRow_6 rfl rfl ?_
  refine r_alen C dX11_copyRow_7 la_163 ly_163 ?_
  refine r_mmin C dX11_copyRow_8 mm_X11_465 ⟨Nat.le_of_ble_eq_true rfl, Nat.le_of_ble_eq_true rfl⟩ (by decide) (by decide) ?_
  refine r_acopy C dX11_copyRow_11 aw_X11_470 la_27 ly_27 la_163 ly_163 (by decide) (Nat.le_of_ble_eq_true rfl) (fun d1 => ?_)
  exact r_vret C dX11_copyRow_14 (by decide) (by decide)
theorem n_X11_copyRow_27_163 (d : D9) : NT9 (m_X11_copyRow_27_163  d) := by
  unfold m_X11_copyRow_27_163
  repeat (first | exact nt_rt | exact nt_none | apply nt_if | refine nt_cl ?_ (fun _ _ => ?_) | refine nt_cp9 (fun _ => ?_))
abbrev z_X7_copyFrom_159_23 : Z9 := (none, 0, 0, 0, 3, 221)
def m_X7_copyFrom_159_23 (d : D9) : Option R9 := pf d 159 0 (d 23 0) (fun d1 => cl (m_X11_copyRow_24_160 d1) (fun r2 d3 => cl (m_X11_copyRow_25_161 d3) (fun r4 d5 => cl (m_X11_copyRow_26_162 d5) (fun r6 d7 => cl (m_X11_copyRow_27_163 d7) (fun r8 d9 => rt 0 d9)))))
set_option maxRecDepth 100000 in
theorem t_X7_copyFrom_159_23 {G : G9} {l : Launch} (h1 : va_D (A9 G) (wl G (fun _ _ => 0))) (h2 : l.stackTraces = false) (d : D9) : MT G l yX7_copyFrom cX7_copyFrom 2 z_X7_copyFrom_159_23 [rf G 159, rf G 23] d (m_X7_copyFrom_159_23  d) := by
  refine mt_of (own := RX7) (by decide) rfl (Nat.le_of_ble_eq_true rfl) h1 h2 [(0, rf G 159), (1, rf G 23)] rfl (fun X hX C => ?_)
  unfold m_X7_copyFrom_159_23
  refine r_aload_n C 0 dX7_copyFrom_0 rfl rfl ?_
  refine r_aload_n C 1 dX7_copyFrom_1 rfl rfl ?_
  refine r_getI C dX7_copyFrom_2 fl_X7_24 la_23 ly_23 rfl ?_
  refine r_putI C dX7_copyFrom_5 fp_X7_24 la_159 ly_159 rfl (fun d1 => ?_)
  refine r_aload_n C 1 dX7_copyFrom_8 rfl rfl ?_
  refine r_getR C 24 dX7_copyFrom_9 fl_X7_9 la_23 ly_23 rfl rfl ?_
  refine r_aload_n C 0 dX7_copyFrom_12 rfl rfl ?_
  refine r_getR C 160 dX7_copyFrom_13 fl_X7_9 la_159 ly_159 rfl rfl ?_
  refine r_callN C [rf G 160, rf G 24] dX7_copyFrom_16 (t_X11_copyRow_24_160 C.h1 C.h2 d1) (n_X11_copyRow_24_160 d1) mn_X7_28 ms_X11_copyRow (by decide) (by decide) (by decide) rfl rfl (Nat.le_of_ble_eq_true rfl) (fun r2 d3 => ?_)
  show SS G X 2 _ _ 19 [(0, rf G 159), (1, rf G 23)] [] d3 _
  refine r_aload_n C 1 dX7_copyFrom_19 rfl rfl ?_
  refine r_getR C 25 dX7_copyFrom_20 fl_X7_15 la_23 ly_23 rfl rfl ?_
  refine r_aload_n C 0 dX7_copyFrom_23 rfl rfl ?_
  refine r_getR C 161 dX7_copyFrom_24 fl_X7_15 la_159 ly_159 rfl rfl ?_
  refine r_callN C [rf G 161, rf G 25] dX7_copyFrom_27 (t_X11_copyRow_25_161 C.h1 C.h2 d3) (n_X11_copyRow_25_161 d3) mn_X7_28 ms_X11_copyRow (by decide) (by decide) (by decide) rfl rfl (Nat.le_of_ble_eq_true rfl) (fun r4 d5 => ?_)
  show SS G X 2 _ _ 30 [(0, rf G 159), (1, rf G 23)] [] d5 _
  refine r_aload_n C 1 dX7_copyFrom_30 rfl rfl ?_
  refine r_getR C 26 dX7_copyFrom_31 fl_X7_18 la_23 ly_23 rfl rfl ?_
  refine r_aload_n C 0 dX7_copyFrom_34 rfl rfl ?_
  refine r_getR C 162 dX7_copyFrom_35 fl_X7_18 la_159 ly_159 rfl rfl ?_
  refine r_callN C [rf G 162, rf G 26] dX7_copyFrom_38 (t_X11_copyRow_26_162 C.h1 C.h2 d5) (n_X11_copyRow_26_162 d5) mn_X7_28 ms_X11_copyRow (by decide) (by decide) (by decide) rfl rfl (Nat.le_of_ble_eq_true rfl) (fun r6 d7 => ?_)
  show SS G X 2 _ _ 41 [(0, rf G 159), (1, rf G 23)] [] d7 _
  refine r_aload_n C 1 dX7_copyFrom_41 rfl rfl ?_
  refine r_getR C 27 dX7_copyFrom_42 fl_X7_21 la_23 ly_23 rfl rfl ?_
  refine r_aload_n C 0 dX7_copyFrom_45 rfl rfl ?_
  refine r_getR C 163 dX7_copyFrom_46 fl_X7_21 la_159 ly_159 rfl rfl ?_
  refine r_callN C [rf G 163, rf G 27] dX7_copyFrom_49 (t_X11_copyRow_27_163 C.h1 C.h2 d7) (n_X11_copyRow_27_163 d7) mn_X7_28 ms_X11_copyRow (by decide) (by decide) (by decide) rfl rfl (Nat.le_of_ble_eq_true rfl) (fun r8 d9 => ?_)
  show SS G X 2 _ _ 52 [(0, rf G 159), (1, rf G 23)] [] d9 _
  exact r_vret C dX7_copyFrom_52 (by decide) (by decide)
abbrev z_X11_copyRow_29_165 : Z9 := (none, 0, 0, 0, 2, 200)
def m_X11_copyRow_29_165 (d : D9) : Option R9 := cp9 d 29 12 165 12 (min9 12 12) (fun d1 => rt 0 d1)
set_option maxRecDepth 100000 in
theorem t_X11_copyRow_29_165 {G : G9} {l : Launch} (h1 : va_D (A9 G) (wl G (fun _ _ => 0))) (h2 : l.stackTraces = false) (d : D9) : MT G l yX11_copyRow cX11_copyRow 2 z_X11_copyRow_29_165 [rf G 29, rf G 165] d (m_X11_copyRow_29_165  d) := by
  refine mt_of (own := RX11) (by decide) rfl (Nat.le_of_ble_eq_true rfl) h1 h2 [(0, rf G 29), (1, rf G 165)] rfl (fun X hX C => ?_)
  unfold m_X11_copyRow_29_165
  refine r_aload_n C 0 dX11_copyRow_0 rfl rfl ?_
  refine r_iconst C dX11_copyRow_1 ?_
  refine r_aload_n C 1 dX11_copyRow_2 rfl rfl ?_
  refine r_iconst C dX11_copyRow_3 ?_
  refine r_aload_n C 0 dX11_copyRow_4 rfl rfl ?_
  refine r_alen C dX11_copyRow_5 la_29 ly_29 ?_
  refine r_aload_n C 1 dX11_copyRow_6 rfl rfl ?_
  refine r_alen C dX11_copyRow_7 la_165 ly_165 ?_
  refine r_mmin C dX11_copyRow_8 mm_X11_465 ⟨Nat.le_of_ble_eq_true rfl, Nat.le_of_ble_eq_true rfl⟩ (by decide) (by decide) ?_
  refine r_acopy C dX11_copyRow_11 aw_X11_470 la_29 ly_29 la_165 ly_165 (by decide) (Nat.le_of_ble_eq_true rfl) (fun d1 => ?_)
  exact r_vret C dX11_copyRow_14 (by decide) (by decide)
theorem n_X11_copyRow_29_165 (d : D9) : NT9 (m_X11_copyRow_29_165  d) := by
  unfold m_X11_copyRow_29_165
  repeat (first | exact nt_rt | exact nt_none | apply nt_if | refine nt_cl ?_ (fun _ _ => ?_) | refine nt_cp9 (fun _ => ?_))
abbrev z_X11_copyRow_30_166 : Z9 := (none, 0, 0, 0, 2, 200)
def m_X11_copyRow_30_166 (d : D9) : Option R9 := cp9 d 30 12 166 12 (min9 12 12) (fun d1 => rt 0 d1)
set_option maxRecDepth 100000 in
theorem t_X11_copyRow_30_166 {G : G9} {l : Launch} (h1 : va_D (A9 G) (wl G (fun _ _ => 0))) (h2 : l.stackTraces = false) (d : D9) : MT G l yX11_copyRow cX11_copyRow 2 z_X11_copyRow_30_166 [rf G 30, rf G 166] d (m_X11_copyRow_30_166  d) := by
  refine mt_of (own := RX11) (by decide) rfl (Nat.le_of_ble_eq_true rfl) h1 h2 [(0, rf G 30), (1, rf G 166)] rfl (fun X hX C => ?_)
  unfold m_X11_copyRow_30_166
  refine r_aload_n C 0 dX11_copyRow_0 rfl rfl ?_
  refine r_iconst C dX11_copyRow_1 ?_
  refine r_aload_n C 1 dX11_copyRow_2 rfl rfl ?_
  refine r_iconst C dX11_copyRow_3 ?_
  refine r_aload_n C 0 dX11_copyRow_4 rfl rfl ?_
  refine r_alen C dX11_copyRow_5 la_30 ly_30 ?_
  refine r_aload_n C 1 dX11_copyRow_6 rfl rfl ?_
  refine r_alen C dX11_copyRow_7 la_166 ly_166 ?_
  refine r_mmin C dX11_copyRow_8 mm_X11_465 ⟨Nat.le_of_ble_eq_true rfl, Nat.le_of_ble_eq_true rfl⟩ (by decide) (by decide) ?_
  refine r_acopy C dX11_copyRow_11 aw_X11_470 la_30 ly_30 la_166 ly_166 (by decide) (Nat.le_of_ble_eq_true rfl) (fun d1 => ?_)
  exact r_vret C dX11_copyRow_14 (by decide) (by decide)
theorem n_X11_copyRow_30_166 (d : D9) : NT9 (m_X11_copyRow_30_166  d) := by
  unfold m_X11_copyRow_30_166
  repeat (first | exact nt_rt | exact nt_none | apply nt_if | refine nt_cl ?_ (fun _ _ => ?_) | refine nt_cp9 (fun _ => ?_))
abbrev z_X11_copyRow_31_167 : Z9 := (none, 0, 0, 0, 2, 200)
def m_X11_copyRow_31_167 (d : D9) : Option R9 := cp9 d 31 12 167 12 (min9 12 12) (fun d1 => rt 0 d1)
set_option maxRecDepth 100000 in
theorem t_X11_copyRow_31_167 {G : G9} {l : Launch} (h1 : va_D (A9 G) (wl G (fun _ _ => 0))) (h2 : l.stackTraces = false) (d : D9) : MT G l yX11_copyRow cX11_copyRow 2 z_X11_copyRow_31_167 [rf G 31, rf G 167] d (m_X11_copyRow_31_167  d) := by
  refine mt_of (own := RX11) (by decide) rfl (Nat.le_of_ble_eq_true rfl) h1 h2 [(0, rf G 31), (1, rf G 167)] rfl (fun X hX C => ?_)
  unfold m_X11_copyRow_31_167
  refine r_aload_n C 0 dX11_copyRow_0 rfl rfl ?_
  refine r_iconst C dX11_copyRow_1 ?_
  refine r_aload_n C 1 dX11_copyRow_2 rfl rfl ?_
  refine r_iconst C dX11_copyRow_3 ?_
  refine r_aload_n C 0 dX11_copyRow_4 rfl rfl ?_
  refine r_alen C dX11_copyRow_5 la_31 ly_31 ?_
  refine r_aload_n C 1 dX11_copyRow_6 rfl rfl ?_
  refine r_alen C dX11_copyRow_7 la_167 ly_167 ?_
  refine r_mmin C dX11_copyRow_8 mm_X11_465 ⟨Nat.le_of_ble_eq_true rfl, Nat.le_of_ble_eq_true rfl⟩ (by decide) (by decide) ?_
  refine r_acopy C dX11_copyRow_11 aw_X11_470 la_31 ly_31 la_167 ly_167 (by decide) (Nat.le_of_ble_eq_true rfl) (fun d1 => ?_)
  exact r_vret C dX11_copyRow_14 (by decide) (by decide)
theorem n_X11_copyRow_31_167 (d : D9) : NT9 (m_X11_copyRow_31_167  d) := by
  unfold m_X11_copyRow_31_167
  repeat (first | exact nt_rt | exact nt_none | apply nt_if | refine nt_cl ?_ (fun _ _ => ?_) | refine nt_cp9 (fun _ => ?_))
abbrev z_X11_copyRow_32_168 : Z9 := (none, 0, 0, 0, 2, 200)
def m_X11_copyRow_32_168 (d : D9) : Option R9 := cp9 d 32 400 168 400 (min9 400 400) (fun d1 => rt 0 d1)
set_option maxRecDepth 100000 in
theorem t_X11_copyRow_32_168 {G : G9} {l : Launch} (h1 : va_D (A9 G) (wl G (fun _ _ => 0))) (h2 : l.stackTraces = false) (d : D9) : MT G l yX11_copyRow cX11_copyRow 2 z_X11_copyRow_32_168 [rf G 32, rf G 168] d (m_X11_copyRow_32_168  d) := by
  refine mt_of (own := RX11) (by decide) rfl (Nat.le_of_ble_eq_true rfl) h1 h2 [(0, rf G 32), (1, rf G 168)] rfl (fun X hX C => ?_)
  unfold m_X11_copyRow_32_168
  refine r_aload_n C 0 dX11_copyRow_0 rfl rfl ?_
  refine r_iconst C dX11_copyRow_1 ?_
  refine r_aload_n C 1 dX11_copyRow_2 rfl rfl ?_
  refine r_iconst C dX11_copyRow_3 ?_
  refine r_aload_n C 0 dX11_copyRow_4 rfl rfl ?_
  refine r_alen C dX11_copyRow_5 la_32 ly_32 ?_
  refine r_aload_n C 1 dX11_copyRow_6 rfl rfl ?_
  refine r_alen C dX11_copyRow_7 la_168 ly_168 ?_
  refine r_mmin C dX11_copyRow_8 mm_X11_465 ⟨Nat.le_of_ble_eq_true rfl, Nat.le_of_ble_eq_true rfl⟩ (by decide) (by decide) ?_
  refine r_acopy C dX11_copyRow_11 aw_X11_470 la_32 ly_32 la_168 ly_168 (by decide) (Nat.le_of_ble_eq_true rfl) (fun d1 => ?_)
  exact r_vret C dX11_copyRow_14 (by decide) (by decide)
theorem n_X11_copyRow_32_168 (d : D9) : NT9 (m_X11_copyRow_32_168  d) := by
  unfold m_X11_copyRow_32_168
  repeat (first | exact nt_rt | exact nt_none | apply nt_if | refine nt_cl ?_ (fun _ _ => ?_) | refine nt_cp9 (fun _ => ?_))
abbrev z_X4_copyFrom_164_28 : Z9 := (none, 0, 0, 0, 3, 221)
def m_X4_copyFrom_164_28 (d : D9) : Option R9 := pf d 164 0 (d 28 0) (fun d1 => pf d1 164 1 (d1 28 1) (fun d2 => cl (m_X11_copyRow_29_165 d2) (fun r3 d4 => cl (m_X11_copyRow_30_166 d4) (fun r5 d6 => cl (m_X11_copyRow_31_167 d6) (fun r7 d8 => cl (m_X11_copyRow_32_168 d8) (fun r9 d10 => rt 0 d10))))))
set_option maxRecDepth 100000 in
theorem t_X4_copyFrom_164_28 {G : G9} {l : Launch} (h1 : va_D (A9 G) (wl G (fun _ _ => 0))) (h2 : l.stackTraces = false) (d : D9) : MT G l yX4_copyFrom cX4_copyFrom 2 z_X4_copyFrom_164_28 [rf G 164, rf G 28] d (m_X4_copyFrom_164_28  d) := by
  refine mt_of (own := RX4) (by decide) rfl (Nat.le_of_ble_eq_true rfl) h1 h2 [(0, rf G 164), (1, rf G 28)] rfl (fun X hX C => ?_)
  unfold m_X4_copyFrom_164_28
  refine r_aload_n C 0 dX4_copyFrom_0 rfl rfl ?_
  refine r_aload_n C 1 dX4_copyFrom_1 rfl rfl ?_
  refine r_getI C dX4_copyFrom_2 fl_X4_24 la_28 ly_28 rfl ?_
  refine r_putI C dX4_copyFrom_5 fp_X4_24 la_164 ly_164 rfl (fun d1 => ?_)
  refine r_aload_n C 0 dX4_copyFrom_8 rfl rfl ?_
  refine r_aload_n C 1 dX4_copyFrom_9 rfl rfl ?_
  refine r_getI C dX4_copyFrom_10 fl_X4_28 la_28 ly_28 rfl ?_
  refine r_putI C dX4_copyFrom_13 fp_X4_28 la_164 ly_164 rfl (fun d2 => ?_)
  refine r_aload_n C 1 dX4_copyFrom_16 rfl rfl ?_
  refine r_getR C 29 dX4_copyFrom_17 fl_X4_9 la_28 ly_28 rfl rfl ?_
  refine r_aload_n C 0 dX4_copyFrom_20 rfl rfl ?_
  refine r_getR C 165 dX4_copyFrom_21 fl_X4_9 la_164 ly_164 rfl rfl ?_
  refine r_callN C [rf G 165, rf G 29] dX4_copyFrom_24 (t_X11_copyRow_29_165 C.h1 C.h2 d2) (n_X11_copyRow_29_165 d2) mn_X4_31 ms_X11_copyRow (by decide) (by decide) (by decide) rfl rfl (Nat.le_of_ble_eq_true rfl) (fun r3 d4 => ?_)
  show SS G X 2 _ _ 27 [(0, rf G 164), (1, rf G 28)] [] d4 _
  refine r_aload_n C 1 dX4_copyFrom_27 rfl rfl ?_
  refine r_getR C 30 dX4_copyFrom_28 fl_X4_15 la_28 ly_28 rfl rfl ?_
  refine r_aload_n C 0 dX4_copyFrom_31 rfl rfl ?_
  refine r_getR C 166 dX4_copyFrom_32 fl_X4_15 la_164 ly_164 rfl rfl ?_
  refine r_callN C [rf G 166, rf G 30] dX4_copyFrom_35 (t_X11_copyRow_30_166 C.h1 C.h2 d4) (n_X11_copyRow_30_166 d4) mn_X4_31 ms_X11_copyRow (by decide) (by decide) (by decide) rfl rfl (Nat.le_of_ble_eq_true rfl) (fun r5 d6 => ?_)
  show SS G X 2 _ _ 38 [(0, rf G 164), (1, rf G 28)] [] d6 _
  refine r_aload_n C 1 dX4_copyFrom_38 rfl rfl ?_
  refine r_getR C 31 dX4_copyFrom_39 fl_X4_18 la_28 ly_28 rfl rfl ?_
  refine r_aload_n C 0 dX4_copyFrom_42 rfl rfl ?_
  refine r_getR C 167 dX4_copyFrom_43 fl_X4_18 la_164 ly_164 rfl rfl ?_
  refine r_callN C [rf G 167, rf G 31] dX4_copyFrom_46 (t_X11_copyRow_31_167 C.h1 C.h2 d6) (n_X11_copyRow_31_167 d6) mn_X4_31 ms_X11_copyRow (by decide) (by decide) (by decide) rfl rfl (Nat.le_of_ble_eq_true rfl) (fun r7 d8 => ?_)
  show SS G X 2 _ _ 49 [(0, rf G 164), (1, rf G 28)] [] d8 _
  refine r_aload_n C 1 dX4_copyFrom_49 rfl rfl ?_
  refine r_getR C 32 dX4_copyFrom_50 fl_X4_21 la_28 ly_28 rfl rfl ?_
  refine r_aload_n C 0 dX4_copyFrom_53 rfl rfl ?_
  refine r_getR C 168 dX4_copyFrom_54 fl_X4_21 la_164 ly_164 rfl rfl ?_
  refine r_callN C [rf G 168, rf G 32] dX4_copyFrom_57 (t_X11_copyRow_32_168 C.h1 C.h2 d8) (n_X11_copyRow_32_168 d8) mn_X4_31 ms_X11_copyRow (by decide) (by decide) (by decide) rfl rfl (Nat.le_of_ble_eq_true rfl) (fun r9 d10 => ?_)
  show SS G X 2 _ _ 60 [(0, rf G 164), (1, rf G 28)] [] d10 _
  exact r_vret C dX4_copyFrom_60 (by decide) (by decide)
abbrev z_X11_copyRow_34_170 : Z9 := (none, 0, 0, 0, 2, 200)
def m_X11_copyRow_34_170 (d : D9) : Option R9 := cp9 d 34 40 170 40 (min9 40 40) (fun d1 => rt 0 d1)
set_option maxRecDepth 100000 in
theorem t_X11_copyRow_34_170 {G : G9} {l : Launch} (h1 : va_D (A9 G) (wl G (fun _ _ => 0))) (h2 : l.stackTraces = false) (d : D9) : MT G l yX11_copyRow cX11_copyRow 2 z_X11_copyRow_34_170 [rf G 34, rf G 170] d (m_X11_copyRow_34_170  d) := by
  refine mt_of (own := RX11) (by decide) rfl (Nat.le_of_ble_eq_true rfl) h1 h2 [(0, rf G 34), (1, rf G 170)] rfl (fun X hX C => ?_)
  unfold m_X11_copyRow_34_170
  refine r_aload_n C 0 dX11_copyRow_0 rfl rfl ?_
  refine r_iconst C dX11_copyRow_1 ?_
  refine r_aload_n C 1 dX11_copyRow_2 rfl rfl ?_
  refine r_iconst C dX11_copyRow_3 ?_
  refine r_aload_n C 0 dX11_copyRow_4 rfl rfl ?_
  refine r_alen C dX11_copyRow_5 la_34 ly_34 ?_
  refine r_aload_n C 1 dX11_copyRow_6 rfl rfl ?_
  refine r_alen C dX11_copyRow_7 la_170 ly_170 ?_
  refine r_mmin C dX11_copyRow_8 mm_X11_465 ⟨Nat.le_of_ble_eq_true rfl, Nat.le_of_ble_eq_true rfl⟩ (by decide) (by decide) ?_
  refine r_acopy C dX11_copyRow_11 aw_X11_470 la_34 ly_34 la_170 ly_170 (by decide) (Nat.le_of_ble_eq_true rfl) (fun d1 => ?_)
  exact r_vret C dX11_copyRow_14 (by decide) (by decide)
theorem n_X11_copyRow_34_170 (d : D9) : NT9 (m_X11_copyRow_34_170  d) := by
  unfold m_X11_copyRow_34_170
  repeat (first | exact nt_rt | exact nt_none | apply nt_if | refine nt_cl ?_ (fun _ _ => ?_) | refine nt_cp9 (fun _ => ?_))
abbrev z_X11_copyRow_35_171 : Z9 := (none, 0, 0, 0, 2, 200)
def m_X11_copyRow_35_171 (d : D9) : Option R9 := cp9 d 35 200 171 200 (min9 200 200) (fun d1 => rt 0 d1)
set_option maxRecDepth 100000 in
theorem t_X11_copyRow_35_171 {G : G9} {l : Launch} (h1 : va_D (A9 G) (wl G (fun _ _ => 0))) (h2 : l.stackTraces = false) (d : D9) : MT G l yX11_copyRow cX11_copyRow 2 z_X11_copyRow_35_171 [rf G 35, rf G 171] d (m_X11_copyRow_35_171  d) := by
  refine mt_of (own := RX11) (by decide) rfl (Nat.le_of_ble_eq_true rfl) h1 h2 [(0, rf G 35), (1, rf G 171)] rfl (fun X hX C => ?_)
  unfold m_X11_copyRow_35_171
  refine r_aload_n C 0 dX11_copyRow_0 rfl rfl ?_
  refine r_iconst C dX11_copyRow_1 ?_
  refine r_aload_n C 1 dX11_copyRow_2 rfl rfl ?_
  refine r_iconst C dX11_copyRow_3 ?_
  refine r_aload_n C 0 dX11_copyRow_4 rfl rfl ?_
  refine r_alen C dX11_copyRow_5 la_35 ly_35 ?_
  refine r_aload_n C 1 dX11_copyRow_6 rfl rfl ?_
  refine r_alen C dX11_copyRow_7 la_171 ly_171 ?_
  refine r_mmin C dX11_copyRow_8 mm_X11_465 ⟨Nat.le_of_ble_eq_true rfl, Nat.le_of_ble_eq_true rfl⟩ (by decide) (by decide) ?_
  refine r_acopy C dX11_copyRow_11 aw_X11_470 la_35 ly_35 la_171 ly_171 (by decide) (Nat.le_of_ble_eq_true rfl) (fun d1 => ?_)
  exact r_vret C dX11_copyRow_14 (by decide) (by decide)
theorem n_X11_copyRow_35_171 (d : D9) : NT9 (m_X11_copyRow_35_171  d) := by
  unfold m_X11_copyRow_35_171
  repeat (first | exact nt_rt | exact nt_none | apply nt_if | refine nt_cl ?_ (fun _ _ => ?_) | refine nt_cp9 (fun _ => ?_))
abbrev z_X11_copyRow_36_172 : Z9 := (none, 0, 0, 0, 2, 200)
def m_X11_copyRow_36_172 (d : D9) : Option R9 := cp9 d 36 5 172 5 (min9 5 5) (fun d1 => rt 0 d1)
set_option maxRecDepth 100000 in
theorem t_X11_copyRow_36_172 {G : G9} {l : Launch} (h1 : va_D (A9 G) (wl G (fun _ _ => 0))) (h2 : l.stackTraces = false) (d : D9) : MT G l yX11_copyRow cX11_copyRow 2 z_X11_copyRow_36_172 [rf G 36, rf G 172] d (m_X11_copyRow_36_172  d) := by
  refine mt_of (own := RX11) (by decide) rfl (Nat.le_of_ble_eq_true rfl) h1 h2 [(0, rf G 36), (1, rf G 172)] rfl (fun X hX C => ?_)
  unfold m_X11_copyRow_36_172
  refine r_aload_n C 0 dX11_copyRow_0 rfl rfl ?_
  refine r_iconst C dX11_copyRow_1 ?_
  refine r_aload_n C 1 dX11_copyRow_2 rfl rfl ?_
  refine r_iconst C dX11_copyRow_3 ?_
  refine r_aload_n C 0 dX11_copyRow_4 rfl rfl ?_
  refine r_alen C dX11_copyRow_5 la_36 ly_36 ?_
  refine r_aload_n C 1 dX11_copyRow_6 rfl rfl ?_
  refine r_alen C dX11_copyRow_7 la_172 ly_172 ?_
  refine r_mmin C dX11_copyRow_8 mm_X11_465 ⟨Nat.le_of_ble_eq_true rfl, Nat.le_of_ble_eq_true rfl⟩ (by decide) (by decide) ?_
  refine r_acopy C dX11_copyRow_11 aw_X11_470 la_36 ly_36 la_172 ly_172 (by decide) (Nat.le_of_ble_eq_true rfl) (fun d1 => ?_)
  exact r_vret C dX11_copyRow_14 (by decide) (by decide)
theorem n_X11_copyRow_36_172 (d : D9) : NT9 (m_X11_copyRow_36_172  d) := by
  unfold m_X11_copyRow_36_172
  repeat (first | exact nt_rt | exact nt_none | apply nt_if | refine nt_cl ?_ (fun _ _ => ?_) | refine nt_cp9 (fun _ => ?_))
abbrev z_X11_copyRow_37_173 : Z9 := (none, 0, 0, 0, 2, 200)
def m_X11_copyRow_37_173 (d : D9) : Option R9 := cp9 d 37 5 173 5 (min9 5 5) (fun d1 => rt 0 d1)
set_option maxRecDepth 100000 in
theorem t_X11_copyRow_37_173 {G : G9} {l : Launch} (h1 : va_D (A9 G) (wl G (fun _ _ => 0))) (h2 : l.stackTraces = false) (d : D9) : MT G l yX11_copyRow cX11_copyRow 2 z_X11_copyRow_37_173 [rf G 37, rf G 173] d (m_X11_copyRow_37_173  d) := by
  refine mt_of (own := RX11) (by decide) rfl (Nat.le_of_ble_eq_true rfl) h1 h2 [(0, rf G 37), (1, rf G 173)] rfl (fun X hX C => ?_)
  unfold m_X11_copyRow_37_173
  refine r_aload_n C 0 dX11_copyRow_0 rfl rfl ?_
  refine r_iconst C dX11_copyRow_1 ?_
  refine r_aload_n C 1 dX11_copyRow_2 rfl rfl ?_
  refine r_iconst C dX11_copyRow_3 ?_
  refine r_aload_n C 0 dX11_copyRow_4 rfl rfl ?_
  refine r_alen C dX11_copyRow_5 la_37 ly_37 ?_
  refine r_aload_n C 1 dX11_copyRow_6 rfl rfl ?_
  refine r_alen C dX11_copyRow_7 la_173 ly_173 ?_
  refine r_mmin C dX11_copyRow_8 mm_X11_465 ⟨Nat.le_of_ble_eq_true rfl, Nat.le_of_ble_eq_true rfl⟩ (by decide) (by decide) ?_
  refine r_acopy C dX11_copyRow_11 aw_X11_470 la_37 ly_37 la_173 ly_173 (by decide) (Nat.le_of_ble_eq_true rfl) (fun d1 => ?_)
  exact r_vret C dX11_copyRow_14 (by decide) (by decide)
theorem n_X11_copyRow_37_173 (d : D9) : NT9 (m_X11_copyRow_37_173  d) := by
  unfold m_X11_copyRow_37_173
  repeat (first | exact nt_rt | exact nt_none | apply nt_if | refine nt_cl ?_ (fun _ _ => ?_) | refine nt_cp9 (fun _ => ?_))
abbrev z_X1_copyFrom_169_33 : Z9 := (none, 0, 0, 0, 3, 221)
def m_X1_copyFrom_169_33 (d : D9) : Option R9 := pf d 169 0 (d 33 0) (fun d1 => cl (m_X11_copyRow_34_170 d1) (fun r2 d3 => cl (m_X11_copyRow_35_171 d3) (fun r4 d5 => cl (m_X11_copyRow_36_172 d5) (fun r6 d7 => cl (m_X11_copyRow_37_173 d7) (fun r8 d9 => rt 0 d9)))))
set_option maxRecDepth 100000 in
theorem t_X1_copyFrom_169_33 {G : G9} {l : Launch} (h1 : va_D (A9 G) (wl G (fun _ _ => 0))) (h2 : l.stackTraces = false) (d : D9) : MT G l yX1_copyFrom cX1_copyFrom 2 z_X1_copyFrom_169_33 [rf G 169, rf G 33] d (m_X1_copyFrom_169_33  d) := by
  refine mt_of (own := RX1) (by decide) rfl (Nat.le_of_ble_eq_true rfl) h1 h2 [(0, rf G 169), (1, rf G 33)] rfl (fun X hX C => ?_)
  unfold m_X1_copyFrom_169_33
  refine r_aload_n C 0 dX1_copyFrom_0 rfl rfl ?_
  refine r_aload_n C 1 dX1_copyFrom_1 rfl rfl ?_
  refine r_getI C dX1_copyFrom_2 fl_X1_24 la_33 ly_33 rfl ?_
  refine r_putI C dX1_copyFrom_5 fp_X1_24 la_169 ly_169 rfl (fun d1 => ?_)
  refine r_aload_n C 1 dX1_copyFrom_8 rfl rfl ?_
  refine r_getR C 34 dX1_copyFrom_9 fl_X1_9 la_33 ly_33 rfl rfl ?_
  refine r_aload_n C 0 dX1_copyFrom_12 rfl rfl ?_
  refine r_getR C 170 dX1_copyFrom_13 fl_X1_9 la_169 ly_169 rfl rfl ?_
  refine r_callN C [rf G 170, rf G 34] dX1_copyFrom_16 (t_X11_copyRow_34_170 C.h1 C.h2 d1) (n_X11_copyRow_34_170 d1) mn_X1_28 ms_X11_copyRow (by decide) (by decide) (by decide) rfl rfl (Nat.le_of_ble_eq_true rfl) (fun r2 d3 => ?_)
  show SS G X 2 _ _ 19 [(0, rf G 169), (1, rf G 33)] [] d3 _
  refine r_aload_n C 1 dX1_copyFrom_19 rfl rfl ?_
  refine r_getR C 35 dX1_copyFrom_20 fl_X1_15 la_33 ly_33 rfl rfl ?_
  refine r_aload_n C 0 dX1_copyFrom_23 rfl rfl ?_
  refine r_getR C 171 dX1_copyFrom_24 fl_X1_15 la_169 ly_169 rfl rfl ?_
  refine r_callN C [rf G 171, rf G 35] dX1_copyFrom_27 (t_X11_copyRow_35_171 C.h1 C.h2 d3) (n_X11_copyRow_35_171 d3) mn_X1_28 ms_X11_copyRow (by decide) (by decide) (by decide) rfl rfl (Nat.le_of_ble_eq_true rfl) (fun r4 d5 => ?_)
  show SS G X 2 _ _ 30 [(0, rf G 169), (1, rf G 33)] [] d5 _
  refine r_aload_n C 1 dX1_copyFrom_30 rfl rfl ?_
  refine r_getR C 36 dX1_copyFrom_31 fl_X1_18 la_33 ly_33 rfl rfl ?_
  refine r_aload_n C 0 dX1_copyFrom_34 rfl rfl ?_
  refine r_getR C 172 dX1_copyFrom_35 fl_X1_18 la_169 ly_169 rfl rfl ?_
  refine r_callN C [rf G 172, rf G 36] dX1_copyFrom_38 (t_X11_copyRow_36_172 C.h1 C.h2 d5) (n_X11_copyRow_36_172 d5) mn_X1_28 ms_X11_copyRow (by decide) (by decide) (by decide) rfl rfl (Nat.le_of_ble_eq_true rfl) (fun r6 d7 => ?_)
  show SS G X 2 _ _ 41 [(0, rf G 169), (1, rf G 33)] [] d7 _
  refine r_aload_n C 1 dX1_copyFrom_41 rfl rfl ?_
  refine r_getR C 37 dX1_copyFrom_42 fl_X1_21 la_33 ly_33 rfl rfl ?_
  refine r_aload_n C 0 dX1_copyFrom_45 rfl rfl ?_
  refine r_getR C 173 dX1_copyFrom_46 fl_X1_21 la_169 ly_169 rfl rfl ?_
  refine r_callN C [rf G 173, rf G 37] dX1_copyFrom_49 (t_X11_copyRow_37_173 C.h1 C.h2 d7) (n_X11_copyRow_37_173 d7) mn_X1_28 ms_X11_copyRow (by decide) (by decide) (by decide) rfl rfl (Nat.le_of_ble_eq_true rfl) (fun r8 d9 => ?_)
  show SS G X 2 _ _ 52 [(0, rf G 169), (1, rf G 33)] [] d9 _
  exact r_vret C dX1_copyFrom_52 (by decide) (by decide)
abbrev z_X10_copyFrom_137_1 : Z9 := (none, 0, 0, 0, 4, 242)
def m_X10_copyFrom_137_1 (d : D9) : Option R9 := cl (m_X3_copyFrom_138_2 d) (fun r1 d2 => cl (m_X6_copyFrom_145_9 d2) (fun r3 d4 => cl (m_X2_copyFrom_158_22 d4) (fun r5 d6 => cl (m_X7_copyFrom_159_23 d6) (fun r7 d8 => cl (m_X4_copyFrom_164_28 d8) (fun r9 d10 => cl (m_X1_copyFrom_169_33 d10) (fun r11 d12 => rt 0 d12))))))
set_option maxRecDepth 100000 in
theorem t_X10_copyFrom_137_1 {G : G9} {l : Launch} (h1 : va_D (A9 G) (wl G (fun _ _ => 0))) (h2 : l.stackTraces = false) (d : D9) : MT G l yX10_copyFrom cX10_copyFrom 2 z_X10_copyFrom_137_1 [rf G 137, rf G 1] d (m_X10_copyFrom_137_1  d) := by
  refine mt_of (own := RX10) (by decide) rfl (Nat.le_of_ble_eq_true rfl) h1 h2 [(0, rf G 137), (1, rf G 1)] rfl (fun X hX C => ?_)
  unfold m_X10_copyFrom_137_1
  refine r_aload_n C 0 dX10_copyFrom_0 rfl rfl ?_
  refine r_getR C 138 dX10_copyFrom_1 fl_X10_12 la_137 ly_137 rfl rfl ?_
  refine r_aload_n C 1 dX10_copyFrom_4 rfl rfl ?_
  refine r_getR C 2 dX10_copyFrom_5 fl_X10_12 la_1 ly_1 rfl rfl ?_
  refine r_callV C [rf G 2, rf G 138] dX10_copyFrom_8 (t_X3_copyFrom_138_2 C.h1 C.h2 d) mw_X10_53 mv_X3_copyFrom la_138 ly_138 rfl (by decide) (by decide) (by decide) rfl rfl (Nat.le_of_ble_eq_true rfl) (fun r1 d2 => ?_)
  show SS G X 2 _ _ 11 [(0, rf G 137), (1, rf G 1)] [] d2 _
  refine r_aload_n C 0 dX10_copyFrom_11 rfl rfl ?_
  refine r_getR C 145 dX10_copyFrom_12 fl_X10_21 la_137 ly_137 rfl rfl ?_
  refine r_aload_n C 1 dX10_copyFrom_15 rfl rfl ?_
  refine r_getR C 9 dX10_copyFrom_16 fl_X10_21 la_1 ly_1 rfl rfl ?_
  refine r_callV C [rf G 9, rf G 145] dX10_copyFrom_19 (t_X6_copyFrom_145_9 C.h1 C.h2 d2) mw_X10_57 mv_X6_copyFrom la_145 ly_145 rfl (by decide) (by decide) (by decide) rfl rfl (Nat.le_of_ble_eq_true rfl) (fun r3 d4 => ?_)
  show SS G X 2 _ _ 22 [(0, rf G 137), (1, rf G 1)] [] d4 _
  refine r_aload_n C 0 dX10_copyFrom_22 rfl rfl ?_
  refine r_getR C 158 dX10_copyFrom_23 fl_X10_28 la_137 ly_137 rfl rfl ?_
  refine r_aload_n C 1 dX10_copyFrom_26 rfl rfl ?_
  refine r_getR C 22 dX10_copyFrom_27 fl_X10_28 la_1 ly_1 rfl rfl ?_
  refine r_callV C [rf G 22, rf G 158] dX10_copyFrom_30 (t_X2_copyFrom_158_22 C.h1 C.h2 d4) mw_X10_60 mv_X2_copyFrom la_158 ly_158 rfl (by decide) (by decide) (by decide) rfl rfl (Nat.le_of_ble_eq_true rfl) (fun r5 d6 => ?_)
  show SS G X 2 _ _ 33 [(0, rf G 137), (1, rf G 1)] [] d6 _
  refine r_aload_n C 0 dX10_copyFrom_33 rfl rfl ?_
  refine r_getR C 159 dX10_copyFrom_34 fl_X10_35 la_137 ly_137 rfl rfl ?_
  refine r_aload_n C 1 dX10_copyFrom_37 rfl rfl ?_
  refine r_getR C 23 dX10_copyFrom_38 fl_X10_35 la_1 ly_1 rfl rfl ?_
  refine r_callV C [rf G 23, rf G 159] dX10_copyFrom_41 (t_X7_copyFrom_159_23 C.h1 C.h2 d6) mw_X10_63 mv_X7_copyFrom la_159 ly_159 rfl (by decide) (by decide) (by decide) rfl rfl (Nat.le_of_ble_eq_true rfl) (fun r7 d8 => ?_)
  show SS G X 2 _ _ 44 [(0, rf G 137), (1, rf G 1)] [] d8 _
  refine r_aload_n C 0 dX10_copyFrom_44 rfl rfl ?_
  refine r_getR C 164 dX10_copyFrom_45 fl_X10_42 la_137 ly_137 rfl rfl ?_
  refine r_aload_n C 1 dX10_copyFrom_48 rfl rfl ?_
  refine r_getR C 28 dX10_copyFrom_49 fl_X10_42 la_1 ly_1 rfl rfl ?_
  refine r_callV C [rf G 28, rf G 164] dX10_copyFrom_52 (t_X4_copyFrom_164_28 C.h1 C.h2 d8) mw_X10_66 mv_X4_copyFrom la_164 ly_164 rfl (by decide) (by decide) (by decide) rfl rfl (Nat.le_of_ble_eq_true rfl) (fun r9 d10 => ?_)
  show SS G X 2 _ _ 55 [(0, rf G 137), (1, rf G 1)] [] d10 _
  refine r_aload_n C 0 dX10_copyFrom_55 rfl rfl ?_
  refine r_getR C 169 dX10_copyFrom_56 fl_X10_49 la_137 ly_137 rfl rfl ?_
  refine r_aload_n C 1 dX10_copyFrom_59 rfl rfl ?_
  refine r_getR C 33 dX10_copyFrom_60 fl_X10_49 la_1 ly_1 rfl rfl ?_
  refine r_callV C [rf G 33, rf G 169] dX10_copyFrom_63 (t_X1_copyFrom_169_33 C.h1 C.h2 d10) mw_X10_69 mv_X1_copyFrom la_169 ly_169 rfl (by decide) (by decide) (by decide) rfl rfl (Nat.le_of_ble_eq_true rfl) (fun r11 d12 => ?_)
  show SS G X 2 _ _ 66 [(0, rf G 137), (1, rf G 1)] [] d12 _
  exact r_vret C dX10_copyFrom_66 (by decide) (by decide)
theorem dX11_image_0 : decode cX11_image 0 = .ok (.iload_n 1, 1) := by decide +kernel
theorem dX11_image_1 : decode cX11_image 1 = .ok (.invokestatic 424, 3) := by decide +kernel
theorem dX11_image_4 : decode cX11_image 4 = .ok (.aload_n 0, 1) := by decide +kernel
theorem dX11_image_5 : decode cX11_image 5 = .ok (.getfield 16, 3) := by decide +kernel
theorem dX11_image_8 : decode cX11_image 8 = .ok (.iload_n 1, 1) := by decide +kernel
theorem dX11_image_9 : decode cX11_image 9 = .ok (.aaload, 1) := by decide +kernel
theorem dX11_image_10 : decode cX11_image 10 = .ok (.astore_n 2, 1) := by decide +kernel
theorem dX11_image_11 : decode cX11_image 11 = .ok (.aload_n 2, 1) := by decide +kernel
theorem dX11_image_12 : decode cX11_image 12 = .ok (.ifnull 18, 3) := by decide +kernel
theorem dX11_image_15 : decode cX11_image 15 = .ok (.aload_n 2, 1) := by decide +kernel
theorem dX11_image_16 : decode cX11_image 16 = .ok (.aload_n 0, 1) := by decide +kernel
theorem dX11_image_17 : decode cX11_image 17 = .ok (.getfield 10, 3) := by decide +kernel
theorem dX11_image_20 : decode cX11_image 20 = .ok (.invokevirtual 427, 3) := by decide +kernel
theorem dX11_image_23 : decode cX11_image 23 = .ok (.aload_n 0, 1) := by decide +kernel
theorem dX11_image_24 : decode cX11_image 24 = .ok (.getfield 20, 3) := by decide +kernel
theorem dX11_image_27 : decode cX11_image 27 = .ok (.iload_n 1, 1) := by decide +kernel
theorem dX11_image_28 : decode cX11_image 28 = .ok (.iconst 1, 1) := by decide +kernel
theorem dX11_image_29 : decode cX11_image 29 = .ok (.bastore, 1) := by decide +kernel
theorem dX11_image_30 : decode cX11_image 30 = .ok (.return_, 1) := by decide +kernel
abbrev z_X11_image_0 : Z9 := (none, 0, 1, 6, 7, 263)
def m_X11_image_0 (p1 : Int) (d : D9) : Option R9 := cl (m_X11_askImage p1 d) (fun r1 d2 => if w32 p1 = 0 then cl (m_X10_copyFrom_63_1 d2) (fun r4 d5 => sd d5 39 3 p1 (1 % 2) (fun d6 => rt 0 d6)) else if w32 p1 = 1 then cl (m_X10_copyFrom_100_1 d2) (fun r8 d9 => sd d9 39 3 p1 (1 % 2) (fun d10 => rt 0 d10)) else if w32 p1 = 2 then cl (m_X10_copyFrom_137_1 d2) (fun r12 d13 => sd d13 39 3 p1 (1 % 2) (fun d14 => rt 0 d14)) else none)
set_option maxRecDepth 100000 in
theorem t_X11_image_0 {G : G9} {l : Launch} (h1 : va_D (A9 G) (wl G (fun _ _ => 0))) (h2 : l.stackTraces = false) (p1 : Int) (d : D9) : MT G l yX11_image cX11_image 3 z_X11_image_0 [rf G 0, i9 p1] d (m_X11_image_0 p1 d) := by
  refine mt_of (own := RX11) (by decide) rfl (Nat.le_of_ble_eq_true rfl) h1 h2 [(0, rf G 0), (1, i9 p1)] rfl (fun X hX C => ?_)
  unfold m_X11_image_0
  refine r_iload_n C 1 dX11_image_0 rfl rfl ?_
  refine r_callS C [i9 p1] dX11_image_1 (t_X11_askImage C.h1 C.h2 p1 d) mw_X11_424 ms_X11_askImage (by decide) (by decide) (by decide) rfl rfl (Nat.le_of_ble_eq_true rfl) (fun r1 d2 => ?_)
  show SS G X 3 _ _ 4 [(0, rf G 0), (1, i9 p1)] [] d2 _
  refine r_aload_n C 0 dX11_image_4 rfl rfl ?_
  refine r_getR C 38 dX11_image_5 fl_X11_16 la_0 ly_0 rfl rfl ?_
  refine r_iload_n C 1 dX11_image_8 rfl rfl ?_
  refine ss_case (v := 0) (fun h3 => ?_) (fun _ => ?_)
  · refine r_aald C 63 0 dX11_image_9 la_38 ly_38 (by decide) h3 rfl ?_
    refine r_astore_n C [(2, rf G 63), (0, rf G 0), (1, i9 p1)] dX11_image_10 rfl (by decide) rfl ?_
    refine r_aload_n C 0 dX11_image_11 rfl rfl ?_
    refine r_ifnull C dX11_image_12 ?_
    refine r_aload_n C 0 dX11_image_15 rfl rfl ?_
    refine r_aload_n C 1 dX11_image_16 rfl rfl ?_
    refine r_getR C 1 dX11_image_17 fl_X11_10 la_0 ly_0 rfl rfl ?_
    refine r_callV C [rf G 1, rf G 63] dX11_image_20 (t_X10_copyFrom_63_1 C.h1 C.h2 d2) mw_X11_427 mv_X10_copyFrom la_63 ly_63 rfl (by decide) (by decide) (by decide) rfl rfl (Nat.le_of_ble_eq_true rfl) (fun r4 d5 => ?_)
    show SS G X 3 _ _ 23 [(2, rf G 63), (0, rf G 0), (1, i9 p1)] [] d5 _
    refine r_aload_n C 1 dX11_image_23 rfl rfl ?_
    refine r_getR C 39 dX11_image_24 fl_X11_20 la_0 ly_0 rfl rfl ?_
    refine r_iload_n C 2 dX11_image_27 rfl rfl ?_
    refine r_iconst C dX11_image_28 ?_
    refine r_zast C dX11_image_29 la_39 ly_39 (fun d6 => ?_)
    exact r_vret C dX11_image_30 (by decide) (by decide)
  refine ss_case (v := 1) (fun h7 => ?_) (fun _ => ?_)
  · refine r_aald C 100 1 dX11_image_9 la_38 ly_38 (by decide) h7 rfl ?_
    refine r_astore_n C [(2, rf G 100), (0, rf G 0), (1, i9 p1)] dX11_image_10 rfl (by decide) rfl ?_
    refine r_aload_n C 0 dX11_image_11 rfl rfl ?_
    refine r_ifnull C dX11_image_12 ?_
    refine r_aload_n C 0 dX11_image_15 rfl rfl ?_
    refine r_aload_n C 1 dX11_image_16 rfl rfl ?_
    refine r_getR C 1 dX11_image_17 fl_X11_10 la_0 ly_0 rfl rfl ?_
    refine r_callV C [rf G 1, rf G 100] dX11_image_20 (t_X10_copyFrom_100_1 C.h1 C.h2 d2) mw_X11_427 mv_X10_copyFrom la_100 ly_100 rfl (by decide) (by decide) (by decide) rfl rfl (Nat.le_of_ble_eq_true rfl) (fun r8 d9 => ?_)
    show SS G X 3 _ _ 23 [(2, rf G 100), (0, rf G 0), (1, i9 p1)] [] d9 _
    refine r_aload_n C 1 dX11_image_23 rfl rfl ?_
    refine r_getR C 39 dX11_image_24 fl_X11_20 la_0 ly_0 rfl rfl ?_
    refine r_iload_n C 2 dX11_image_27 rfl rfl ?_
    refine r_iconst C dX11_image_28 ?_
    refine r_zast C dX11_image_29 la_39 ly_39 (fun d10 => ?_)
    exact r_vret C dX11_image_30 (by decide) (by decide)
  refine ss_case (v := 2) (fun h11 => ?_) (fun _ => ?_)
  · refine r_aald C 137 2 dX11_image_9 la_38 ly_38 (by decide) h11 rfl ?_
    refine r_astore_n C [(2, rf G 137), (0, rf G 0), (1, i9 p1)] dX11_image_10 rfl (by decide) rfl ?_
    refine r_aload_n C 0 dX11_image_11 rfl rfl ?_
    refine r_ifnull C dX11_image_12 ?_
    refine r_aload_n C 0 dX11_image_15 rfl rfl ?_
    refine r_aload_n C 1 dX11_image_16 rfl rfl ?_
    refine r_getR C 1 dX11_image_17 fl_X11_10 la_0 ly_0 rfl rfl ?_
    refine r_callV C [rf G 1, rf G 137] dX11_image_20 (t_X10_copyFrom_137_1 C.h1 C.h2 d2) mw_X11_427 mv_X10_copyFrom la_137 ly_137 rfl (by decide) (by decide) (by decide) rfl rfl (Nat.le_of_ble_eq_true rfl) (fun r12 d13 => ?_)
    show SS G X 3 _ _ 23 [(2, rf G 137), (0, rf G 0), (1, i9 p1)] [] d13 _
    refine r_aload_n C 1 dX11_image_23 rfl rfl ?_
    refine r_getR C 39 dX11_image_24 fl_X11_20 la_0 ly_0 rfl rfl ?_
    refine r_iload_n C 2 dX11_image_27 rfl rfl ?_
    refine r_iconst C dX11_image_28 ?_
    refine r_zast C dX11_image_29 la_39 ly_39 (fun d14 => ?_)
    exact r_vret C dX11_image_30 (by decide) (by decide)
  exact ss_none
theorem dX8_isLetter_0 : decode cX8_isLetter 0 = .ok (.iload_n 0, 1) := by decide +kernel
theorem dX8_isLetter_1 : decode cX8_isLetter 1 = .ok (.bipush 97, 2) := by decide +kernel
theorem dX8_isLetter_3 : decode cX8_isLetter 3 = .ok (.if_icmp .lt 13, 3) := by decide +kernel
theorem dX8_isLetter_6 : decode cX8_isLetter 6 = .ok (.iload_n 0, 1) := by decide +kernel
theorem dX8_isLetter_7 : decode cX8_isLetter 7 = .ok (.bipush 122, 2) := by decide +kernel
theorem dX8_isLetter_9 : decode cX8_isLetter 9 = .ok (.if_icmp .gt 7, 3) := by decide +kernel
theorem dX8_isLetter_12 : decode cX8_isLetter 12 = .ok (.iconst 1, 1) := by decide +kernel
theorem dX8_isLetter_13 : decode cX8_isLetter 13 = .ok (.goto 4, 3) := by decide +kernel
theorem dX8_isLetter_16 : decode cX8_isLetter 16 = .ok (.iconst 0, 1) := by decide +kernel
theorem dX8_isLetter_17 : decode cX8_isLetter 17 = .ok (.ireturn, 1) := by decide +kernel
abbrev z_X8_isLetter : Z9 := (some .boolean, 1, 0, 0, 1, 0)
def m_X8_isLetter (p0 : Int) (d : D9) : Option R9 := if w32 p0 < w32 97 then rt (0 % 2) d else if w32 122 < w32 p0 then rt (0 % 2) d else rt (1 % 2) d
set_option maxRecDepth 100000 in
theorem t_X8_isLetter {G : G9} {l : Launch} (h1 : va_D (A9 G) (wl G (fun _ _ => 0))) (h2 : l.stackTraces = false) (p0 : Int) (d : D9) : MT G l yX8_isLetter cX8_isLetter 1 z_X8_isLetter [i9 p0] d (m_X8_isLetter p0 d) := by
  refine mt_of (own := RX8) (by decide) rfl (Nat.le_of_ble_eq_true rfl) h1 h2 [(0, i9 p0)] rfl (fun X hX C => ?_)
  unfold m_X8_isLetter
  refine r_iload_n C 0 dX8_isLetter_0 rfl rfl ?_
  refine r_bipush C dX8_isLetter_1 rfl ?_
  refine r_icmp_lt C 16 dX8_isLetter_3 (by decide) (fun _ => ?_) (fun _ => ?_)
  · refine r_iconst C dX8_isLetter_16 ?_
    exact r_zret C dX8_isLetter_17 (by decide) (by decide)
  · refine r_iload_n C 0 dX8_isLetter_6 rfl rfl ?_
    refine r_bipush C dX8_isLetter_7 rfl ?_
    refine r_icmp_gt C 16 dX8_isLetter_9 (by decide) (fun _ => ?_) (fun _ => ?_)
    · refine r_iconst C dX8_isLetter_16 ?_
      exact r_zret C dX8_isLetter_17 (by decide) (by decide)
    · refine r_iconst C dX8_isLetter_12 ?_
      refine r_goto C 17 dX8_isLetter_13 (by decide) ?_
      exact r_zret C dX8_isLetter_17 (by decide) (by decide)
theorem dX8_isDigit_0 : decode cX8_isDigit 0 = .ok (.iload_n 0, 1) := by decide +kernel
theorem dX8_isDigit_1 : decode cX8_isDigit 1 = .ok (.bipush 48, 2) := by decide +kernel
theorem dX8_isDigit_3 : decode cX8_isDigit 3 = .ok (.if_icmp .lt 13, 3) := by decide +kernel
theorem dX8_isDigit_6 : decode cX8_isDigit 6 = .ok (.iload_n 0, 1) := by decide +kernel
theorem dX8_isDigit_7 : decode cX8_isDigit 7 = .ok (.bipush 57, 2) := by decide +kernel
theorem dX8_isDigit_9 : decode cX8_isDigit 9 = .ok (.if_icmp .gt 7, 3) := by decide +kernel
theorem dX8_isDigit_12 : decode cX8_isDigit 12 = .ok (.iconst 1, 1) := by decide +kernel
theorem dX8_isDigit_13 : decode cX8_isDigit 13 = .ok (.goto 4, 3) := by decide +kernel
theorem dX8_isDigit_16 : decode cX8_isDigit 16 = .ok (.iconst 0, 1) := by decide +kernel
theorem dX8_isDigit_17 : decode cX8_isDigit 17 = .ok (.ireturn, 1) := by decide +kernel
abbrev z_X8_isDigit : Z9 := (some .boolean, 1, 0, 0, 1, 0)
def m_X8_isDigit (p0 : Int) (d : D9) : Option R9 := if w32 p0 < w32 48 then rt (0 % 2) d else if w32 57 < w32 p0 then rt (0 % 2) d else rt (1 % 2) d
set_option maxRecDepth 100000 in
theorem t_X8_isDigit {G : G9} {l : Launch} (h1 : va_D (A9 G) (wl G (fun _ _ => 0))) (h2 : l.stackTraces = false) (p0 : Int) (d : D9) : MT G l yX8_isDigit cX8_isDigit 1 z_X8_isDigit [i9 p0] d (m_X8_isDigit p0 d) := by
  refine mt_of (own := RX8) (by decide) rfl (Nat.le_of_ble_eq_true rfl) h1 h2 [(0, i9 p0)] rfl (fun X hX C => ?_)
  unfold m_X8_isDigit
  refine r_iload_n C 0 dX8_isDigit_0 rfl rfl ?_
  refine r_bipush C dX8_isDigit_1 rfl ?_
  refine r_icmp_lt C 16 dX8_isDigit_3 (by decide) (fun _ => ?_) (fun _ => ?_)
  · refine r_iconst C dX8_isDigit_16 ?_
    exact r_zret C dX8_isDigit_17 (by decide) (by decide)
  · refine r_iload_n C 0 dX8_isDigit_6 rfl rfl ?_
    refine r_bipush C dX8_isDigit_7 rfl ?_
    refine r_icmp_gt C 16 dX8_isDigit_9 (by decide) (fun _ => ?_) (fun _ => ?_)
    · refine r_iconst C dX8_isDigit_16 ?_
      exact r_zret C dX8_isDigit_17 (by decide) (by decide)
    · refine r_iconst C dX8_isDigit_12 ?_
      refine r_goto C 17 dX8_isDigit_13 (by decide) ?_
      exact r_zret C dX8_isDigit_17 (by decide) (by decide)
theorem dX8_decimal_0 : decode cX8_decimal 0 = .ok (.iconst 0, 1) := by decide +kernel
theorem dX8_decimal_1 : decode cX8_decimal 1 = .ok (.istore_n 1, 1) := by decide +kernel
theorem dX8_decimal_2 : decode cX8_decimal 2 = .ok (.aload_n 0, 1) := by decide +kernel
theorem dX8_decimal_3 : decode cX8_decimal 3 = .ok (.getfield 43, 3) := by decide +kernel
theorem dX8_decimal_6 : decode cX8_decimal 6 = .ok (.istore_n 2, 1) := by decide +kernel
theorem dX8_decimal_7 : decode cX8_decimal 7 = .ok (.iload_n 2, 1) := by decide +kernel
theorem dX8_decimal_8 : decode cX8_decimal 8 = .ok (.aload_n 0, 1) := by decide +kernel
theorem dX8_decimal_9 : decode cX8_decimal 9 = .ok (.getfield 31, 3) := by decide +kernel
theorem dX8_decimal_12 : decode cX8_decimal 12 = .ok (.if_icmp .ge 34, 3) := by decide +kernel
theorem dX8_decimal_15 : decode cX8_decimal 15 = .ok (.iload_n 2, 1) := by decide +kernel
theorem dX8_decimal_16 : decode cX8_decimal 16 = .ok (.aload_n 0, 1) := by decide +kernel
theorem dX8_decimal_17 : decode cX8_decimal 17 = .ok (.getfield 43, 3) := by decide +kernel
theorem dX8_decimal_20 : decode cX8_decimal 20 = .ok (.iconst 3, 1) := by decide +kernel
theorem dX8_decimal_21 : decode cX8_decimal 21 = .ok (.iadd, 1) := by decide +kernel
theorem dX8_decimal_22 : decode cX8_decimal 22 = .ok (.if_icmp .ge 24, 3) := by decide +kernel
theorem dX8_decimal_25 : decode cX8_decimal 25 = .ok (.bipush 10, 2) := by decide +kernel
theorem dX8_decimal_27 : decode cX8_decimal 27 = .ok (.iload_n 1, 1) := by decide +kernel
theorem dX8_decimal_28 : decode cX8_decimal 28 = .ok (.imul, 1) := by decide +kernel
theorem dX8_decimal_29 : decode cX8_decimal 29 = .ok (.aload_n 0, 1) := by decide +kernel
theorem dX8_decimal_30 : decode cX8_decimal 30 = .ok (.getfield 9, 3) := by decide +kernel
theorem dX8_decimal_33 : decode cX8_decimal 33 = .ok (.iload_n 2, 1) := by decide +kernel
theorem dX8_decimal_34 : decode cX8_decimal 34 = .ok (.caload, 1) := by decide +kernel
theorem dX8_decimal_35 : decode cX8_decimal 35 = .ok (.iadd, 1) := by decide +kernel
theorem dX8_decimal_36 : decode cX8_decimal 36 = .ok (.bipush 48, 2) := by decide +kernel
theorem dX8_decimal_38 : decode cX8_decimal 38 = .ok (.isub, 1) := by decide +kernel
theorem dX8_decimal_39 : decode cX8_decimal 39 = .ok (.istore_n 1, 1) := by decide +kernel
theorem dX8_decimal_40 : decode cX8_decimal 40 = .ok (.iinc 2 1, 3) := by decide +kernel
theorem dX8_decimal_43 : decode cX8_decimal 43 = .ok (.goto (-36), 3) := by decide +kernel
theorem dX8_decimal_46 : decode cX8_decimal 46 = .ok (.iload_n 1, 1) := by decide +kernel
theorem dX8_decimal_47 : decode cX8_decimal 47 = .ok (.ireturn, 1) := by decide +kernel
abbrev z_X8_decimal_51 : Z9 := (some .int, 1, 0, 0, 1, 0)
def b_X8_decimal_51_c7 (k_X8_decimal_51_c7 : Int → Int → D9 → Option R9) (v1 v2 : Int) (d : D9) : Option R9 := if w32 (d 51 5) ≤ w32 v2 then rt v1 d else if w32 ((d 51 6) + 3) ≤ w32 v2 then rt v1 d else ld d 52 400 v2 (fun t1 => lt9v (((10 * v1) + t1) - 48) (fun a2 => k_X8_decimal_51_c7 a2 (v2 + 1) d))
def m_X8_decimal_51_c7 : Int → Int → D9 → Option R9 := fix9 (fun _ _ _ => none) (fun k => b_X8_decimal_51_c7 k) FU
def m_X8_decimal_51 (d : D9) : Option R9 := lt9v (d 51 6) (fun a1 => m_X8_decimal_51_c7  0 a1 d)
set_option maxRecDepth 100000 in
theorem sb_X8_decimal_51_c7 {G : G9} {X : X9} (C : CX G X cX8_decimal 3 RX8 [] z_X8_decimal_51) (k_X8_decimal_51_c7 : Int → Int → D9 → Option R9) (hk_X8_decimal_51_c7 : ∀ (v1 v2 : Int) (d : D9), SS G X 3 0 0 7 [(0, rf G 51), (1, i9 v1), (2, i9 v2)] [] d (k_X8_decimal_51_c7 v1 v2 d)) : ∀ (v1 v2 : Int) (d : D9), SS G X 3 0 0 7 [(0, rf G 51), (1, i9 v1), (2, i9 v2)] [] d (b_X8_decimal_51_c7 k_X8_decimal_51_c7 v1 v2 d) := by
  intro v1 v2 d
  unfold b_X8_decimal_51_c7
  refine r_iload_n C 2 dX8_decimal_7 rfl rfl ?_
  refine r_aload_n C 0 dX8_decimal_8 rfl rfl ?_
  refine r_getI C dX8_decimal_9 fl_X8_31 la_51 ly_51 rfl ?_
  refine r_icmp_ge C 46 dX8_decimal_12 (by decide) (fun _ => ?_) (fun _ => ?_)
  · refine r_iload_n C 1 dX8_decimal_46 rfl rfl ?_
    exact r_iret C dX8_decimal_47 (by decide) (by decide)
  · refine r_iload_n C 2 dX8_decimal_15 rfl rfl ?_
    refine r_aload_n C 0 dX8_decimal_16 rfl rfl ?_
    refine r_getI C dX8_decimal_17 fl_X8_43 la_51 ly_51 rfl ?_
    refine r_iconst C dX8_decimal_20 ?_
    refine r_iadd C dX8_decimal_21 ?_
    refine r_icmp_ge C 46 dX8_decimal_22 (by decide) (fun _ => ?_) (fun _ => ?_)
    · refine r_iload_n C 1 dX8_decimal_46 rfl rfl ?_
      exact r_iret C dX8_decimal_47 (by decide) (by decide)
    · refine r_bipush C dX8_decimal_25 rfl ?_
      refine r_iload_n C 1 dX8_decimal_27 rfl rfl ?_
      refine r_imul C dX8_decimal_28 ?_
      refine r_aload_n C 0 dX8_decimal_29 rfl rfl ?_
      refine r_getR C 52 dX8_decimal_30 fl_X8_9 la_51 ly_51 rfl rfl ?_
      refine r_iload_n C 2 dX8_decimal_33 rfl rfl ?_
      refine r_cald C dX8_decimal_34 la_52 ly_52 (fun t1 => ?_)
      refine r_iadd C dX8_decimal_35 ?_
      refine r_bipush C dX8_decimal_36 rfl ?_
      refine r_isub C dX8_decimal_38 ?_
      refine ss_lt (fun a2 => ?_)
      refine r_istore_n C [(1, i9 a2), (0, rf G 51), (2, i9 v2)] dX8_decimal_39 rfl (by decide) rfl ?_
      refine r_iinc C 2 [(2, i9 (v2 + 1)), (1, i9 a2), (0, rf G 51)] dX8_decimal_40 rfl (by decide) rfl ?_
      refine r_goto C 7 dX8_decimal_43 (by decide) ?_
      refine ss_wide (k' := 0) (n' := 0) (by decide) (by decide) ?_
      refine ss_ls [(0, rf G 51), (1, i9 a2), (2, i9 (v2 + 1))] [2, 1, 0] rfl ?_
      exact hk_X8_decimal_51_c7 a2 (v2 + 1) d
theorem s_X8_decimal_51_c7 {G : G9} {X : X9} (C : CX G X cX8_decimal 3 RX8 [] z_X8_decimal_51) : ∀ (v1 v2 : Int) (d : D9), SS G X 3 0 0 7 [(0, rf G 51), (1, i9 v1), (2, i9 v2)] [] d (m_X8_decimal_51_c7  v1 v2 d) :=
  fix9_ind (P := fun k => ∀ (v1 v2 : Int) (d : D9), SS G X 3 0 0 7 [(0, rf G 51), (1, i9 v1), (2, i9 v2)] [] d (k v1 v2 d)) (fun _ _ _ => ss_none) (fun k hk => sb_X8_decimal_51_c7 C k hk) FU
set_option maxRecDepth 100000 in
theorem t_X8_decimal_51 {G : G9} {l : Launch} (h1 : va_D (A9 G) (wl G (fun _ _ => 0))) (h2 : l.stackTraces = false) (d : D9) : MT G l yX8_decimal cX8_decimal 3 z_X8_decimal_51 [rf G 51] d (m_X8_decimal_51  d) := by
  refine mt_of (own := RX8) (by decide) rfl (Nat.le_of_ble_eq_true rfl) h1 h2 [(0, rf G 51)] rfl (fun X hX C => ?_)
  unfold m_X8_decimal_51
  refine r_iconst C dX8_decimal_0 ?_
  refine r_istore_n C [(1, i9 0), (0, rf G 51)] dX8_decimal_1 rfl (by decide) rfl ?_
  refine r_aload_n C 1 dX8_decimal_2 rfl rfl ?_
  refine r_getI C dX8_decimal_3 fl_X8_43 la_51 ly_51 rfl ?_
  refine ss_lt (fun a1 => ?_)
  refine r_istore_n C [(2, i9 a1), (1, i9 0), (0, rf G 51)] dX8_decimal_6 rfl (by decide) rfl ?_
  refine ss_wide (k' := 0) (n' := 0) (by decide) (by decide) ?_
  refine ss_ls [(0, rf G 51), (1, i9 0), (2, i9 a1)] [2, 1, 0] rfl ?_
  exact s_X8_decimal_51_c7 C  0 a1 d
theorem dX8_wordNumber_0 : decode cX8_wordNumber 0 = .ok (.iconst 0, 1) := by decide +kernel
theorem dX8_wordNumber_1 : decode cX8_wordNumber 1 = .ok (.istore_n 1, 1) := by decide +kernel
theorem dX8_wordNumber_2 : decode cX8_wordNumber 2 = .ok (.aload_n 0, 1) := by decide +kernel
theorem dX8_wordNumber_3 : decode cX8_wordNumber 3 = .ok (.getfield 43, 3) := by decide +kernel
theorem dX8_wordNumber_6 : decode cX8_wordNumber 6 = .ok (.istore_n 2, 1) := by decide +kernel
theorem dX8_wordNumber_7 : decode cX8_wordNumber 7 = .ok (.iconst 0, 1) := by decide +kernel
theorem dX8_wordNumber_8 : decode cX8_wordNumber 8 = .ok (.istore_n 3, 1) := by decide +kernel
theorem dX8_wordNumber_9 : decode cX8_wordNumber 9 = .ok (.iload_n 3, 1) := by decide +kernel
theorem dX8_wordNumber_10 : decode cX8_wordNumber 10 = .ok (.ldc 63, 2) := by decide +kernel
theorem dX8_wordNumber_12 : decode cX8_wordNumber 12 = .ok (.invokevirtual 65, 3) := by decide +kernel
theorem dX8_wordNumber_15 : decode cX8_wordNumber 15 = .ok (.if_icmp .ge 77, 3) := by decide +kernel
theorem dX8_wordNumber_18 : decode cX8_wordNumber 18 = .ok (.ldc 63, 2) := by decide +kernel
theorem dX8_wordNumber_20 : decode cX8_wordNumber 20 = .ok (.iload_n 3, 1) := by decide +kernel
theorem dX8_wordNumber_21 : decode cX8_wordNumber 21 = .ok (.invokevirtual 70, 3) := by decide +kernel
theorem dX8_wordNumber_24 : decode cX8_wordNumber 24 = .ok (.istore 4, 2) := by decide +kernel
theorem dX8_wordNumber_26 : decode cX8_wordNumber 26 = .ok (.iload 4, 2) := by decide +kernel
theorem dX8_wordNumber_28 : decode cX8_wordNumber 28 = .ok (.bipush 32, 2) := by decide +kernel
theorem dX8_wordNumber_30 : decode cX8_wordNumber 30 = .ok (.if_icmp .ne 24, 3) := by decide +kernel
theorem dX8_wordNumber_33 : decode cX8_wordNumber 33 = .ok (.iload_n 2, 1) := by decide +kernel
theorem dX8_wordNumber_34 : decode cX8_wordNumber 34 = .ok (.aload_n 0, 1) := by decide +kernel
theorem dX8_wordNumber_35 : decode cX8_wordNumber 35 = .ok (.getfield 31, 3) := by decide +kernel
theorem dX8_wordNumber_38 : decode cX8_wordNumber 38 = .ok (.if_icmp .ne 5, 3) := by decide +kernel
theorem dX8_wordNumber_41 : decode cX8_wordNumber 41 = .ok (.iload_n 1, 1) := by decide +kernel
theorem dX8_wordNumber_42 : decode cX8_wordNumber 42 = .ok (.ireturn, 1) := by decide +kernel
theorem dX8_wordNumber_43 : decode cX8_wordNumber 43 = .ok (.iinc 1 1, 3) := by decide +kernel
theorem dX8_wordNumber_46 : decode cX8_wordNumber 46 = .ok (.aload_n 0, 1) := by decide +kernel
theorem dX8_wordNumber_47 : decode cX8_wordNumber 47 = .ok (.getfield 43, 3) := by decide +kernel
theorem dX8_wordNumber_50 : decode cX8_wordNumber 50 = .ok (.istore_n 2, 1) := by decide +kernel
theorem dX8_wordNumber_51 : decode cX8_wordNumber 51 = .ok (.goto 35, 3) := by decide +kernel
theorem dX8_wordNumber_54 : decode cX8_wordNumber 54 = .ok (.iload_n 2, 1) := by decide +kernel
theorem dX8_wordNumber_55 : decode cX8_wordNumber 55 = .ok (.aload_n 0, 1) := by decide +kernel
theorem dX8_wordNumber_56 : decode cX8_wordNumber 56 = .ok (.getfield 31, 3) := by decide +kernel
theorem dX8_wordNumber_59 : decode cX8_wordNumber 59 = .ok (.if_icmp .ge 20, 3) := by decide +kernel
theorem dX8_wordNumber_62 : decode cX8_wordNumber 62 = .ok (.aload_n 0, 1) := by decide +kernel
theorem dX8_wordNumber_63 : decode cX8_wordNumber 63 = .ok (.getfield 9, 3) := by decide +kernel
theorem dX8_wordNumber_66 : decode cX8_wordNumber 66 = .ok (.iload_n 2, 1) := by decide +kernel
theorem dX8_wordNumber_67 : decode cX8_wordNumber 67 = .ok (.caload, 1) := by decide +kernel
theorem dX8_wordNumber_68 : decode cX8_wordNumber 68 = .ok (.iload 4, 2) := by decide +kernel
theorem dX8_wordNumber_70 : decode cX8_wordNumber 70 = .ok (.if_icmp .ne 9, 3) := by decide +kernel
theorem dX8_wordNumber_73 : decode cX8_wordNumber 73 = .ok (.iload_n 2, 1) := by decide +kernel
theorem dX8_wordNumber_74 : decode cX8_wordNumber 74 = .ok (.iconst 1, 1) := by decide +kernel
theorem dX8_wordNumber_75 : decode cX8_wordNumber 75 = .ok (.iadd, 1) := by decide +kernel
theorem dX8_wordNumber_76 : decode cX8_wordNumber 76 = .ok (.goto 9, 3) := by decide +kernel
theorem dX8_wordNumber_79 : decode cX8_wordNumber 79 = .ok (.aload_n 0, 1) := by decide +kernel
theorem dX8_wordNumber_80 : decode cX8_wordNumber 80 = .ok (.getfield 28, 3) := by decide +kernel
theorem dX8_wordNumber_83 : decode cX8_wordNumber 83 = .ok (.iconst 1, 1) := by decide +kernel
theorem dX8_wordNumber_84 : decode cX8_wordNumber 84 = .ok (.iadd, 1) := by decide +kernel
theorem dX8_wordNumber_85 : decode cX8_wordNumber 85 = .ok (.istore_n 2, 1) := by decide +kernel
theorem dX8_wordNumber_86 : decode cX8_wordNumber 86 = .ok (.iinc 3 1, 3) := by decide +kernel
theorem dX8_wordNumber_89 : decode cX8_wordNumber 89 = .ok (.goto (-80), 3) := by decide +kernel
theorem dX8_wordNumber_92 : decode cX8_wordNumber 92 = .ok (.iconst (-1), 1) := by decide +kernel
theorem dX8_wordNumber_93 : decode cX8_wordNumber 93 = .ok (.ireturn, 1) := by decide +kernel
abbrev z_X8_wordNumber_51 : Z9 := (some .int, 1, 0, 0, 8, 250)
def b_X8_wordNumber_51_c9 (k_X8_wordNumber_51_c9 : Int → Int → Int → D9 → Option R9) (v1 v2 v3 : Int) (d : D9) : Option R9 := if w32 123 ≤ w32 v3 then rt (-1) d else sch 6 v3 (fun t1 => if w32 t1 ≠ w32 32 then if w32 (d 51 5) ≤ w32 v2 then lt9v ((d 51 4) + 1) (fun a2 => k_X8_wordNumber_51_c9 v1 a2 (v3 + 1) d) else ld d 52 400 v2 (fun t3 => if w32 t3 ≠ w32 t1 then lt9v ((d 51 4) + 1) (fun a4 => k_X8_wordNumber_51_c9 v1 a4 (v3 + 1) d) else lt9v (v2 + 1) (fun a5 => k_X8_wordNumber_51_c9 v1 a5 (v3 + 1) d)) else if w32 v2 ≠ w32 (d 51 5) then lt9v (d 51 6) (fun a6 => k_X8_wordNumber_51_c9 (v1 + 1) a6 (v3 + 1) d) else rt v1 d)
def m_X8_wordNumber_51_c9 : Int → Int → Int → D9 → Option R9 := fix9 (fun _ _ _ _ => none) (fun k => b_X8_wordNumber_51_c9 k) FU
def m_X8_wordNumber_51 (d : D9) : Option R9 := lt9v (d 51 6) (fun a1 => m_X8_wordNumber_51_c9  0 a1 0 d)
set_option maxRecDepth 100000 in
theorem sb_X8_wordNumber_51_c9 {G : G9} {X : X9} (C : CX G X cX8_wordNumber 5 RX8 [] z_X8_wordNumber_51) (k_X8_wordNumber_51_c9 : Int → Int → Int → D9 → Option R9) (hk_X8_wordNumber_51_c9 : ∀ (v1 v2 v3 : Int) (d : D9), SS G X 5 0 0 9 [(0, rf G 51), (1, i9 v1), (2, i9 v2), (3, i9 v3)] [] d (k_X8_wordNumber_51_c9 v1 v2 v3 d)) : ∀ (v1 v2 v3 : Int) (d : D9), SS G X 5 0 0 9 [(0, rf G 51), (1, i9 v1), (2, i9 v2), (3, i9 v3)] [] d (b_X8_wordNumber_51_c9 k_X8_wordNumber_51_c9 v1 v2 v3 d) := by
  intro v1 v2 v3 d
  unfold b_X8_wordNumber_51_c9
  refine r_iload_n C 3 dX8_wordNumber_9 rfl rfl ?_
  refine r_ldcS C 6 dX8_wordNumber_10 rfl ?_
  refine r_slen C 6 dX8_wordNumber_12 mw_X8_65 rfl (by decide) (Nat.le_of_ble_eq_true rfl) ?_
  refine r_icmp_ge C 92 dX8_wordNumber_15 (by decide) (fun _ => ?_) (fun _ => ?_)
  · refine r_iconst C dX8_wordNumber_92 ?_
    exact r_iret C dX8_wordNumber_93 (by decide) (by decide)
  · refine r_ldcS C 6 dX8_wordNumber_18 rfl ?_
    refine r_iload_n C 3 dX8_wordNumber_20 rfl rfl ?_
    refine r_schar C 6 dX8_wordNumber_21 mw_X8_70 (by decide) (Nat.le_of_ble_eq_true rfl) (fun t1 => ?_)
    refine r_istore C [(4, i9 t1), (0, rf G 51), (1, i9 v1), (2, i9 v2), (3, i9 v3)] dX8_wordNumber_24 (by decide) rfl ?_
    refine r_iload C 0 dX8_wordNumber_26 rfl ?_
    refine r_bipush C dX8_wordNumber_28 rfl ?_
    refine r_icmp_ne C 54 dX8_wordNumber_30 (by decide) (fun _ => ?_) (fun _ => ?_)
    · refine r_iload_n C 3 dX8_wordNumber_54 rfl rfl ?_
      refine r_aload_n C 1 dX8_wordNumber_55 rfl rfl ?_
      refine r_getI C dX8_wordNumber_56 fl_X8_31 la_51 ly_51 rfl ?_
      refine r_icmp_ge C 79 dX8_wordNumber_59 (by decide) (fun _ => ?_) (fun _ => ?_)
      · refine r_aload_n C 1 dX8_wordNumber_79 rfl rfl ?_
        refine r_getI C dX8_wordNumber_80 fl_X8_28 la_51 ly_51 rfl ?_
        refine r_iconst C dX8_wordNumber_83 ?_
        refine r_iadd C dX8_wordNumber_84 ?_
        refine ss_lt (fun a2 => ?_)
        refine r_istore_n C [(2, i9 a2), (4, i9 t1), (0, rf G 51), (1, i9 v1), (3, i9 v3)] dX8_wordNumber_85 rfl (by decide) rfl ?_
        refine r_iinc C 4 [(3, i9 (v3 + 1)), (2, i9 a2), (4, i9 t1), (0, rf G 51), (1, i9 v1)] dX8_wordNumber_86 rfl (by decide) rfl ?_
        refine r_goto C 9 dX8_wordNumber_89 (by decide) ?_
        refine ss_wide (k' := 0) (n' := 0) (by decide) (by decide) ?_
        refine ss_ls [(0, rf G 51), (1, i9 v1), (2, i9 a2), (3, i9 (v3 + 1))] [3, 4, 1, 0] rfl ?_
        exact hk_X8_wordNumber_51_c9 v1 a2 (v3 + 1) d
      · refine r_aload_n C 1 dX8_wordNumber_62 rfl rfl ?_
        refine r_getR C 52 dX8_wordNumber_63 fl_X8_9 la_51 ly_51 rfl rfl ?_
        refine r_iload_n C 3 dX8_wordNumber_66 rfl rfl ?_
        refine r_cald C dX8_wordNumber_67 la_52 ly_52 (fun t3 => ?_)
        refine r_iload C 0 dX8_wordNumber_68 rfl ?_
        refine r_icmp_ne C 79 dX8_wordNumber_70 (by decide) (fun _ => ?_) (fun _ => ?_)
        · refine r_aload_n C 1 dX8_wordNumber_79 rfl rfl ?_
          refine r_getI C dX8_wordNumber_80 fl_X8_28 la_51 ly_51 rfl ?_
          refine r_iconst C dX8_wordNumber_83 ?_
          refine r_iadd C dX8_wordNumber_84 ?_
          refine ss_lt (fun a4 => ?_)
          refine r_istore_n C [(2, i9 a4), (4, i9 t1), (0, rf G 51), (1, i9 v1), (3, i9 v3)] dX8_wordNumber_85 rfl (by decide) rfl ?_
          refine r_iinc C 4 [(3, i9 (v3 + 1)), (2, i9 a4), (4, i9 t1), (0, rf G 51), (1, i9 v1)] dX8_wordNumber_86 rfl (by decide) rfl ?_
          refine r_goto C 9 dX8_wordNumber_89 (by decide) ?_
          refine ss_wide (k' := 0) (n' := 0) (by decide) (by decide) ?_
          refine ss_ls [(0, rf G 51), (1, i9 v1), (2, i9 a4), (3, i9 (v3 + 1))] [3, 4, 1, 0] rfl ?_
          exact hk_X8_wordNumber_51_c9 v1 a4 (v3 + 1) d
        · refine r_iload_n C 3 dX8_wordNumber_73 rfl rfl ?_
          refine r_iconst C dX8_wordNumber_74 ?_
          refine r_iadd C dX8_wordNumber_75 ?_
          refine r_goto C 85 dX8_wordNumber_76 (by decide) ?_
          refine ss_lt (fun a5 => ?_)
          refine r_istore_n C [(2, i9 a5), (4, i9 t1), (0, rf G 51), (1, i9 v1), (3, i9 v3)] dX8_wordNumber_85 rfl (by decide) rfl ?_
          refine r_iinc C 4 [(3, i9 (v3 + 1)), (2, i9 a5), (4, i9 t1), (0, rf G 51), (1, i9 v1)] dX8_wordNumber_86 rfl (by decide) rfl ?_
          refine r_goto C 9 dX8_wordNumber_89 (by decide) ?_
          refine ss_wide (k' := 0) (n' := 0) (by decide) (by decide) ?_
          refine ss_ls [(0, rf G 51), (1, i9 v1), (2, i9 a5), (3, i9 (v3 + 1))] [3, 4, 1, 0] rfl ?_
          exact hk_X8_wordNumber_51_c9 v1 a5 (v3 + 1) d
    · refine r_iload_n C 3 dX8_wordNumber_33 rfl rfl ?_
      refine r_aload_n C 1 dX8_wordNumber_34 rfl rfl ?_
      refine r_getI C dX8_wordNumber_35 fl_X8_31 la_51 ly_51 rfl ?_
      refine r_icmp_ne C 43 dX8_wordNumber_38 (by decide) (fun _ => ?_) (fun _ => ?_)
      · refine r_iinc C 2 [(1, i9 (v1 + 1)), (4, i9 t1), (0, rf G 51), (2, i9 v2), (3, i9 v3)] dX8_wordNumber_43 rfl (by decide) rfl ?_
        refine r_aload_n C 2 dX8_wordNumber_46 rfl rfl ?_
        refine r_getI C dX8_wordNumber_47 fl_X8_43 la_51 ly_51 rfl ?_
        refine ss_lt (fun a6 => ?_)
        refine r_istore_n C [(2, i9 a6), (1, i9 (v1 + 1)), (4, i9 t1), (0, rf G 51), (3, i9 v3)] dX8_wordNumber_50 rfl (by decide) rfl ?_
        refine r_goto C 86 dX8_wordNumber_51 (by decide) ?_
        refine r_iinc C 4 [(3, i9 (v3 + 1)), (2, i9 a6), (1, i9 (v1 + 1)), (4, i9 t1), (0, rf G 51)] dX8_wordNumber_86 rfl (by decide) rfl ?_
        refine r_goto C 9 dX8_wordNumber_89 (by decide) ?_
        refine ss_wide (k' := 0) (n' := 0) (by decide) (by decide) ?_
        refine ss_ls [(0, rf G 51), (1, i9 (v1 + 1)), (2, i9 a6), (3, i9 (v3 + 1))] [4, 2, 1, 0] rfl ?_
        exact hk_X8_wordNumber_51_c9 (v1 + 1) a6 (v3 + 1) d
      · refine r_iload_n C 2 dX8_wordNumber_41 rfl rfl ?_
        exact r_iret C dX8_wordNumber_42 (by decide) (by decide)
theorem s_X8_wordNumber_51_c9 {G : G9} {X : X9} (C : CX G X cX8_wordNumber 5 RX8 [] z_X8_wordNumber_51) : ∀ (v1 v2 v3 : Int) (d : D9), SS G X 5 0 0 9 [(0, rf G 51), (1, i9 v1), (2, i9 v2), (3, i9 v3)] [] d (m_X8_wordNumber_51_c9  v1 v2 v3 d) :=
  fix9_ind (P := fun k => ∀ (v1 v2 v3 : Int) (d : D9), SS G X 5 0 0 9 [(0, rf G 51), (1, i9 v1), (2, i9 v2), (3, i9 v3)] [] d (k v1 v2 v3 d)) (fun _ _ _ _ => ss_none) (fun k hk => sb_X8_wordNumber_51_c9 C k hk) FU
set_option maxRecDepth 100000 in
theorem t_X8_wordNumber_51 {G : G9} {l : Launch} (h1 : va_D (A9 G) (wl G (fun _ _ => 0))) (h2 : l.stackTraces = false) (d : D9) : MT G l yX8_wordNumber cX8_wordNumber 5 z_X8_wordNumber_51 [rf G 51] d (m_X8_wordNumber_51  d) := by
  refine mt_of (own := RX8) (by decide) rfl (Nat.le_of_ble_eq_true rfl) h1 h2 [(0, rf G 51)] rfl (fun X hX C => ?_)
  unfold m_X8_wordNumber_51
  refine r_iconst C dX8_wordNumber_0 ?_
  refine r_istore_n C [(1, i9 0), (0, rf G 51)] dX8_wordNumber_1 rfl (by decide) rfl ?_
  refine r_aload_n C 1 dX8_wordNumber_2 rfl rfl ?_
  refine r_getI C dX8_wordNumber_3 fl_X8_43 la_51 ly_51 rfl ?_
  refine ss_lt (fun a1 => ?_)
  refine r_istore_n C [(2, i9 a1), (1, i9 0), (0, rf G 51)] dX8_wordNumber_6 rfl (by decide) rfl ?_
  refine r_iconst C dX8_wordNumber_7 ?_
  refine r_istore_n C [(3, i9 0), (2, i9 a1), (1, i9 0), (0, rf G 51)] dX8_wordNumber_8 rfl (by decide) rfl ?_
  refine ss_wide (k' := 0) (n' := 0) (by decide) (by decide) ?_
  refine ss_ls [(0, rf G 51), (1, i9 0), (2, i9 a1), (3, i9 0)] [3, 2, 1, 0] rfl ?_
  exact s_X8_wordNumber_51_c9 C  0 a1 0 d
theorem dX8_advance_0 : decode cX8_advance 0 = .ok (.aload_n 0, 1) := by decide +kernel
theorem dX8_advance_1 : decode cX8_advance 1 = .ok (.aload_n 0, 1) := by decide +kernel
theorem dX8_advance_2 : decode cX8_advance 2 = .ok (.getfield 31, 3) := by decide +kernel
theorem dX8_advance_5 : decode cX8_advance 5 = .ok (.putfield 43, 3) := by decide +kernel
theorem dX8_advance_8 : decode cX8_advance 8 = .ok (.aload_n 0, 1) := by decide +kernel
theorem dX8_advance_9 : decode cX8_advance 9 = .ok (.getfield 43, 3) := by decide +kernel
theorem dX8_advance_12 : decode cX8_advance 12 = .ok (.aload_n 0, 1) := by decide +kernel
theorem dX8_advance_13 : decode cX8_advance 13 = .ok (.getfield 28, 3) := by decide +kernel
theorem dX8_advance_16 : decode cX8_advance 16 = .ok (.if_icmp .ge 44, 3) := by decide +kernel
theorem dX8_advance_19 : decode cX8_advance 19 = .ok (.aload_n 0, 1) := by decide +kernel
theorem dX8_advance_20 : decode cX8_advance 20 = .ok (.getfield 9, 3) := by decide +kernel
theorem dX8_advance_23 : decode cX8_advance 23 = .ok (.aload_n 0, 1) := by decide +kernel
theorem dX8_advance_24 : decode cX8_advance 24 = .ok (.getfield 43, 3) := by decide +kernel
theorem dX8_advance_27 : decode cX8_advance 27 = .ok (.caload, 1) := by decide +kernel
theorem dX8_advance_28 : decode cX8_advance 28 = .ok (.bipush 10, 2) := by decide +kernel
theorem dX8_advance_30 : decode cX8_advance 30 = .ok (.if_icmp .eq 17, 3) := by decide +kernel
theorem dX8_advance_33 : decode cX8_advance 33 = .ok (.aload_n 0, 1) := by decide +kernel
theorem dX8_advance_34 : decode cX8_advance 34 = .ok (.getfield 9, 3) := by decide +kernel
theorem dX8_advance_37 : decode cX8_advance 37 = .ok (.aload_n 0, 1) := by decide +kernel
theorem dX8_advance_38 : decode cX8_advance 38 = .ok (.getfield 43, 3) := by decide +kernel
theorem dX8_advance_41 : decode cX8_advance 41 = .ok (.caload, 1) := by decide +kernel
theorem dX8_advance_42 : decode cX8_advance 42 = .ok (.bipush 32, 2) := by decide +kernel
theorem dX8_advance_44 : decode cX8_advance 44 = .ok (.if_icmp .ne 16, 3) := by decide +kernel
theorem dX8_advance_47 : decode cX8_advance 47 = .ok (.aload_n 0, 1) := by decide +kernel
theorem dX8_advance_48 : decode cX8_advance 48 = .ok (.dup, 1) := by decide +kernel
theorem dX8_advance_49 : decode cX8_advance 49 = .ok (.getfield 43, 3) := by decide +kernel
theorem dX8_advance_52 : decode cX8_advance 52 = .ok (.iconst 1, 1) := by decide +kernel
theorem dX8_advance_53 : decode cX8_advance 53 = .ok (.iadd, 1) := by decide +kernel
theorem dX8_advance_54 : decode cX8_advance 54 = .ok (.putfield 43, 3) := by decide +kernel
theorem dX8_advance_57 : decode cX8_advance 57 = .ok (.goto (-49), 3) := by decide +kernel
theorem dX8_advance_60 : decode cX8_advance 60 = .ok (.aload_n 0, 1) := by decide +kernel
theorem dX8_advance_61 : decode cX8_advance 61 = .ok (.aload_n 0, 1) := by decide +kernel
theorem dX8_advance_62 : decode cX8_advance 62 = .ok (.getfield 43, 3) := by decide +kernel
theorem dX8_advance_65 : decode cX8_advance 65 = .ok (.putfield 31, 3) := by decide +kernel
theorem dX8_advance_68 : decode cX8_advance 68 = .ok (.aload_n 0, 1) := by decide +kernel
theorem dX8_advance_69 : decode cX8_advance 69 = .ok (.getfield 43, 3) := by decide +kernel
theorem dX8_advance_72 : decode cX8_advance 72 = .ok (.aload_n 0, 1) := by decide +kernel
theorem dX8_advance_73 : decode cX8_advance 73 = .ok (.getfield 28, 3) := by decide +kernel
theorem dX8_advance_76 : decode cX8_advance 76 = .ok (.if_icmp .lt 11, 3) := by decide +kernel
theorem dX8_advance_79 : decode cX8_advance 79 = .ok (.aload_n 0, 1) := by decide +kernel
theorem dX8_advance_80 : decode cX8_advance 80 = .ok (.iconst 1, 1) := by decide +kernel
theorem dX8_advance_81 : decode cX8_advance 81 = .ok (.putfield 40, 3) := by decide +kernel
theorem dX8_advance_84 : decode cX8_advance 84 = .ok (.goto 207, 3) := by decide +kernel
theorem dX8_advance_87 : decode cX8_advance 87 = .ok (.aload_n 0, 1) := by decide +kernel
theorem dX8_advance_88 : decode cX8_advance 88 = .ok (.getfield 9, 3) := by decide +kernel
theorem dX8_advance_91 : decode cX8_advance 91 = .ok (.aload_n 0, 1) := by decide +kernel
theorem dX8_advance_92 : decode cX8_advance 92 = .ok (.getfield 43, 3) := by decide +kernel
theorem dX8_advance_95 : decode cX8_advance 95 = .ok (.caload, 1) := by decide +kernel
theorem dX8_advance_96 : decode cX8_advance 96 = .ok (.invokestatic 46, 3) := by decide +kernel
theorem dX8_advance_99 : decode cX8_advance 99 = .ok (.ifCond .eq 58, 3) := by decide +kernel
theorem dX8_advance_102 : decode cX8_advance 102 = .ok (.aload_n 0, 1) := by decide +kernel
theorem dX8_advance_103 : decode cX8_advance 103 = .ok (.getfield 31, 3) := by decide +kernel
theorem dX8_advance_106 : decode cX8_advance 106 = .ok (.aload_n 0, 1) := by decide +kernel
theorem dX8_advance_107 : decode cX8_advance 107 = .ok (.getfield 28, 3) := by decide +kernel
theorem dX8_advance_110 : decode cX8_advance 110 = .ok (.if_icmp .ge 31, 3) := by decide +kernel
theorem dX8_advance_113 : decode cX8_advance 113 = .ok (.aload_n 0, 1) := by decide +kernel
theorem dX8_advance_114 : decode cX8_advance 114 = .ok (.getfield 9, 3) := by decide +kernel
theorem dX8_advance_117 : decode cX8_advance 117 = .ok (.aload_n 0, 1) := by decide +kernel
theorem dX8_advance_118 : decode cX8_advance 118 = .ok (.getfield 31, 3) := by decide +kernel
theorem dX8_advance_121 : decode cX8_advance 121 = .ok (.caload, 1) := by decide +kernel
theorem dX8_advance_122 : decode cX8_advance 122 = .ok (.invokestatic 46, 3) := by decide +kernel
theorem dX8_advance_125 : decode cX8_advance 125 = .ok (.ifCond .eq 16, 3) := by decide +kernel
theorem dX8_advance_128 : decode cX8_advance 128 = .ok (.aload_n 0, 1) := by decide +kernel
theorem dX8_advance_129 : decode cX8_advance 129 = .ok (.dup, 1) := by decide +kernel
theorem dX8_advance_130 : decode cX8_advance 130 = .ok (.getfield 31, 3) := by decide +kernel
theorem dX8_advance_133 : decode cX8_advance 133 = .ok (.iconst 1, 1) := by decide +kernel
theorem dX8_advance_134 : decode cX8_advance 134 = .ok (.iadd, 1) := by decide +kernel
theorem dX8_advance_135 : decode cX8_advance 135 = .ok (.putfield 31, 3) := by decide +kernel
theorem dX8_advance_138 : decode cX8_advance 138 = .ok (.goto (-36), 3) := by decide +kernel
theorem dX8_advance_141 : decode cX8_advance 141 = .ok (.aload_n 0, 1) := by decide +kernel
theorem dX8_advance_142 : decode cX8_advance 142 = .ok (.iconst 2, 1) := by decide +kernel
theorem dX8_advance_143 : decode cX8_advance 143 = .ok (.putfield 40, 3) := by decide +kernel
theorem dX8_advance_146 : decode cX8_advance 146 = .ok (.aload_n 0, 1) := by decide +kernel
theorem dX8_advance_147 : decode cX8_advance 147 = .ok (.aload_n 0, 1) := by decide +kernel
theorem dX8_advance_148 : decode cX8_advance 148 = .ok (.invokevirtual 50, 3) := by decide +kernel
theorem dX8_advance_151 : decode cX8_advance 151 = .ok (.putfield 54, 3) := by decide +kernel
theorem dX8_advance_154 : decode cX8_advance 154 = .ok (.goto 137, 3) := by decide +kernel
theorem dX8_advance_157 : decode cX8_advance 157 = .ok (.aload_n 0, 1) := by decide +kernel
theorem dX8_advance_158 : decode cX8_advance 158 = .ok (.getfield 9, 3) := by decide +kernel
theorem dX8_advance_161 : decode cX8_advance 161 = .ok (.aload_n 0, 1) := by decide +kernel
theorem dX8_advance_162 : decode cX8_advance 162 = .ok (.getfield 43, 3) := by decide +kernel
theorem dX8_advance_165 : decode cX8_advance 165 = .ok (.caload, 1) := by decide +kernel
theorem dX8_advance_166 : decode cX8_advance 166 = .ok (.invokestatic 57, 3) := by decide +kernel
theorem dX8_advance_169 : decode cX8_advance 169 = .ok (.ifCond .eq 75, 3) := by decide +kernel
theorem dX8_advance_172 : decode cX8_advance 172 = .ok (.aload_n 0, 1) := by decide +kernel
theorem dX8_advance_173 : decode cX8_advance 173 = .ok (.getfield 31, 3) := by decide +kernel
theorem dX8_advance_176 : decode cX8_advance 176 = .ok (.aload_n 0, 1) := by decide +kernel
theorem dX8_advance_177 : decode cX8_advance 177 = .ok (.getfield 28, 3) := by decide +kernel
theorem dX8_advance_180 : decode cX8_advance 180 = .ok (.if_icmp .ge 31, 3) := by decide +kernel
theorem dX8_advance_183 : decode cX8_advance 183 = .ok (.aload_n 0, 1) := by decide +kernel
theorem dX8_advance_184 : decode cX8_advance 184 = .ok (.getfield 9, 3) := by decide +kernel
theorem dX8_advance_187 : decode cX8_advance 187 = .ok (.aload_n 0, 1) := by decide +kernel
theorem dX8_advance_188 : decode cX8_advance 188 = .ok (.getfield 31, 3) := by decide +kernel
theorem dX8_advance_191 : decode cX8_advance 191 = .ok (.caload, 1) := by decide +kernel
theorem dX8_advance_192 : decode cX8_advance 192 = .ok (.invokestatic 57, 3) := by decide +kernel
theorem dX8_advance_195 : decode cX8_advance 195 = .ok (.ifCond .eq 16, 3) := by decide +kernel
theorem dX8_advance_198 : decode cX8_advance 198 = .ok (.aload_n 0, 1) := by decide +kernel
theorem dX8_advance_199 : decode cX8_advance 199 = .ok (.dup, 1) := by decide +kernel
theorem dX8_advance_200 : decode cX8_advance 200 = .ok (.getfield 31, 3) := by decide +kernel
theorem dX8_advance_203 : decode cX8_advance 203 = .ok (.iconst 1, 1) := by decide +kernel
theorem dX8_advance_204 : decode cX8_advance 204 = .ok (.iadd, 1) := by decide +kernel
theorem dX8_advance_205 : decode cX8_advance 205 = .ok (.putfield 31, 3) := by decide +kernel
theorem dX8_advance_208 : decode cX8_advance 208 = .ok (.goto (-36), 3) := by decide +kernel
theorem dX8_advance_211 : decode cX8_advance 211 = .ok (.aload_n 0, 1) := by decide +kernel
theorem dX8_advance_212 : decode cX8_advance 212 = .ok (.aload_n 0, 1) := by decide +kernel
theorem dX8_advance_213 : decode cX8_advance 213 = .ok (.getfield 31, 3) := by decide +kernel
theorem dX8_advance_216 : decode cX8_advance 216 = .ok (.aload_n 0, 1) := by decide +kernel
theorem dX8_advance_217 : decode cX8_advance 217 = .ok (.getfield 43, 3) := by decide +kernel
theorem dX8_advance_220 : decode cX8_advance 220 = .ok (.isub, 1) := by decide +kernel
theorem dX8_advance_221 : decode cX8_advance 221 = .ok (.iconst 3, 1) := by decide +kernel
theorem dX8_advance_222 : decode cX8_advance 222 = .ok (.if_icmp .gt 7, 3) := by decide +kernel
theorem dX8_advance_225 : decode cX8_advance 225 = .ok (.iconst 3, 1) := by decide +kernel
theorem dX8_advance_226 : decode cX8_advance 226 = .ok (.goto 4, 3) := by decide +kernel
theorem dX8_advance_229 : decode cX8_advance 229 = .ok (.iconst 0, 1) := by decide +kernel
theorem dX8_advance_230 : decode cX8_advance 230 = .ok (.putfield 40, 3) := by decide +kernel
theorem dX8_advance_233 : decode cX8_advance 233 = .ok (.aload_n 0, 1) := by decide +kernel
theorem dX8_advance_234 : decode cX8_advance 234 = .ok (.aload_n 0, 1) := by decide +kernel
theorem dX8_advance_235 : decode cX8_advance 235 = .ok (.invokevirtual 60, 3) := by decide +kernel
theorem dX8_advance_238 : decode cX8_advance 238 = .ok (.putfield 54, 3) := by decide +kernel
theorem dX8_advance_241 : decode cX8_advance 241 = .ok (.goto 50, 3) := by decide +kernel
theorem dX8_advance_244 : decode cX8_advance 244 = .ok (.aload_n 0, 1) := by decide +kernel
theorem dX8_advance_245 : decode cX8_advance 245 = .ok (.getfield 9, 3) := by decide +kernel
theorem dX8_advance_248 : decode cX8_advance 248 = .ok (.aload_n 0, 1) := by decide +kernel
theorem dX8_advance_249 : decode cX8_advance 249 = .ok (.getfield 43, 3) := by decide +kernel
theorem dX8_advance_252 : decode cX8_advance 252 = .ok (.caload, 1) := by decide +kernel
theorem dX8_advance_253 : decode cX8_advance 253 = .ok (.istore_n 1, 1) := by decide +kernel
theorem dX8_advance_254 : decode cX8_advance 254 = .ok (.aload_n 0, 1) := by decide +kernel
theorem dX8_advance_255 : decode cX8_advance 255 = .ok (.dup, 1) := by decide +kernel
theorem dX8_advance_256 : decode cX8_advance 256 = .ok (.getfield 31, 3) := by decide +kernel
theorem dX8_advance_259 : decode cX8_advance 259 = .ok (.iconst 1, 1) := by decide +kernel
theorem dX8_advance_260 : decode cX8_advance 260 = .ok (.iadd, 1) := by decide +kernel
theorem dX8_advance_261 : decode cX8_advance 261 = .ok (.putfield 31, 3) := by decide +kernel
theorem dX8_advance_264 : decode cX8_advance 264 = .ok (.aload_n 0, 1) := by decide +kernel
theorem dX8_advance_265 : decode cX8_advance 265 = .ok (.iload_n 1, 1) := by decide +kernel
theorem dX8_advance_266 : decode cX8_advance 266 = .ok (.bipush 59, 2) := by decide +kernel
theorem dX8_advance_268 : decode cX8_advance 268 = .ok (.if_icmp .eq 15, 3) := by decide +kernel
theorem dX8_advance_271 : decode cX8_advance 271 = .ok (.iload_n 1, 1) := by decide +kernel
theorem dX8_advance_272 : decode cX8_advance 272 = .ok (.bipush 40, 2) := by decide +kernel
theorem dX8_advance_274 : decode cX8_advance 274 = .ok (.if_icmp .eq 9, 3) := by decide +kernel
theorem dX8_advance_277 : decode cX8_advance 277 = .ok (.iload_n 1, 1) := by decide +kernel
theorem dX8_advance_278 : decode cX8_advance 278 = .ok (.bipush 41, 2) := by decide +kernel
theorem dX8_advance_280 : decode cX8_advance 280 = .ok (.if_icmp .ne 7, 3) := by decide +kernel
theorem dX8_advance_283 : decode cX8_advance 283 = .ok (.iload_n 1, 1) := by decide +kernel
theorem dX8_advance_284 : decode cX8_advance 284 = .ok (.goto 4, 3) := by decide +kernel
theorem dX8_advance_287 : decode cX8_advance 287 = .ok (.iconst 0, 1) := by decide +kernel
theorem dX8_advance_288 : decode cX8_advance 288 = .ok (.putfield 40, 3) := by decide +kernel
theorem dX8_advance_291 : decode cX8_advance 291 = .ok (.return_, 1) := by decide +kernel
abbrev z_X8_advance_51 : Z9 := (none, 0, 0, 0, 9, 274)
def m_X8_advance_51_c230 (s0 : Int) (d : D9) : Option R9 := pf d 51 7 s0 (fun d1 => cl (m_X8_decimal_51 d1) (fun r2 d3 => pf d3 51 8 r2 (fun d4 => rt 0 d4)))
def m_X8_advance_51_c211 (d : D9) : Option R9 := if w32 3 < w32 ((d 51 5) - (d 51 6)) then m_X8_advance_51_c230  0 d else m_X8_advance_51_c230  3 d
def b_X8_advance_51_c172 (k_X8_advance_51_c172 : D9 → Option R9) (d : D9) : Option R9 := if w32 (d 51 4) ≤ w32 (d 51 5) then m_X8_advance_51_c211   d else ld d 52 400 (d 51 5) (fun t1 => cl (m_X8_isDigit t1 d) (fun r2 d3 => if w32 r2 = 0 then m_X8_advance_51_c211   d3 else pf d3 51 5 ((d3 51 5) + 1) (fun d4 => k_X8_advance_51_c172  d4)))
def m_X8_advance_51_c172 : D9 → Option R9 := fix9 (fun _ => none) (fun k => b_X8_advance_51_c172 k) FU
def m_X8_advance_51_c141 (d : D9) : Option R9 := pf d 51 7 2 (fun d1 => cl (m_X8_wordNumber_51 d1) (fun r2 d3 => pf d3 51 8 r2 (fun d4 => rt 0 d4)))
def b_X8_advance_51_c102 (k_X8_advance_51_c102 : D9 → Option R9) (d : D9) : Option R9 := if w32 (d 51 4) ≤ w32 (d 51 5) then m_X8_advance_51_c141   d else ld d 52 400 (d 51 5) (fun t1 => cl (m_X8_isLetter t1 d) (fun r2 d3 => if w32 r2 = 0 then m_X8_advance_51_c141   d3 else pf d3 51 5 ((d3 51 5) + 1) (fun d4 => k_X8_advance_51_c102  d4)))
def m_X8_advance_51_c102 : D9 → Option R9 := fix9 (fun _ => none) (fun k => b_X8_advance_51_c102 k) FU
def m_X8_advance_51_c60 (d : D9) : Option R9 := pf d 51 5 (d 51 6) (fun d1 => if w32 (d1 51 6) < w32 (d1 51 4) then ld d1 52 400 (d1 51 6) (fun t2 => cl (m_X8_isLetter t2 d1) (fun r3 d4 => if w32 r3 = 0 then ld d4 52 400 (d4 51 6) (fun t5 => cl (m_X8_isDigit t5 d4) (fun r6 d7 => if w32 r6 = 0 then ld d7 52 400 (d7 51 6) (fun t8 => pf d7 51 5 ((d7 51 5) + 1) (fun d9 => if w32 t8 = w32 59 then pf d9 51 7 t8 (fun d10 => rt 0 d10) else if w32 t8 = w32 40 then pf d9 51 7 t8 (fun d11 => rt 0 d11) else if w32 t8 ≠ w32 41 then pf d9 51 7 0 (fun d12 => rt 0 d12) else pf d9 51 7 t8 (fun d13 => rt 0 d13))) else m_X8_advance_51_c172   d7)) else m_X8_advance_51_c102   d4)) else pf d1 51 7 1 (fun d14 => rt 0 d14))
def b_X8_advance_51_c8 (k_X8_advance_51_c8 : D9 → Option R9) (d : D9) : Option R9 := if w32 (d 51 4) ≤ w32 (d 51 6) then m_X8_advance_51_c60   d else ld d 52 400 (d 51 6) (fun t1 => if w32 t1 = w32 10 then pf d 51 6 ((d 51 6) + 1) (fun d2 => k_X8_advance_51_c8  d2) else ld d 52 400 (d 51 6) (fun t3 => if w32 t3 ≠ w32 32 then m_X8_advance_51_c60   d else pf d 51 6 ((d 51 6) + 1) (fun d4 => k_X8_advance_51_c8  d4)))
def m_X8_advance_51_c8 : D9 → Option R9 := fix9 (fun _ => none) (fun k => b_X8_advance_51_c8 k) FU
def m_X8_advance_51 (d : D9) : Option R9 := pf d 51 6 (d 51 5) (fun d1 => m_X8_advance_51_c8   d1)
set_option maxRecDepth 100000 in
theorem s_X8_advance_51_c230 {G : G9} {X : X9} (C : CX G X cX8_advance 2 RX8 [] z_X8_advance_51) : ∀ (s0 : Int) (d : D9), SS G X 2 0 0 230 [(0, rf G 51)] [i9 s0, rf G 51] d (m_X8_advance_51_c230  s0 d) := by
  intro s0 d
  unfold m_X8_advance_51_c230
  refine r_putI C dX8_advance_230 fp_X8_40 la_51 ly_51 rfl (fun d1 => ?_)
  refine r_aload_n C 0 dX8_advance_233 rfl rfl ?_
  refine r_aload_n C 0 dX8_advance_234 rfl rfl ?_
  refine r_callV C [rf G 51, rf G 51] dX8_advance_235 (t_X8_decimal_51 C.h1 C.h2 d1) mw_X8_60 mv_X8_decimal la_51 ly_51 rfl (by decide) (by decide) (by decide) rfl rfl (Nat.le_of_ble_eq_true rfl) (fun r2 d3 => ?_)
  show SS G X 2 _ _ 238 [(0, rf G 51)] [i9 r2, rf G 51] d3 _
  refine r_putI C dX8_advance_238 fp_X8_54 la_51 ly_51 rfl (fun d4 => ?_)
  refine r_goto C 291 dX8_advance_241 (by decide) ?_
  exact r_vret C dX8_advance_291 (by decide) (by decide)
set_option maxRecDepth 100000 in
theorem s_X8_advance_51_c211 {G : G9} {X : X9} (C : CX G X cX8_advance 2 RX8 [] z_X8_advance_51) : ∀ (d : D9), SS G X 2 0 0 211 [(0, rf G 51)] [] d (m_X8_advance_51_c211   d) := by
  intro  d
  unfold m_X8_advance_51_c211
  refine r_aload_n C 0 dX8_advance_211 rfl rfl ?_
  refine r_aload_n C 0 dX8_advance_212 rfl rfl ?_
  refine r_getI C dX8_advance_213 fl_X8_31 la_51 ly_51 rfl ?_
  refine r_aload_n C 0 dX8_advance_216 rfl rfl ?_
  refine r_getI C dX8_advance_217 fl_X8_43 la_51 ly_51 rfl ?_
  refine r_isub C dX8_advance_220 ?_
  refine r_iconst C dX8_advance_221 ?_
  refine r_icmp_gt C 229 dX8_advance_222 (by decide) (fun _ => ?_) (fun _ => ?_)
  · refine r_iconst C dX8_advance_229 ?_
    refine ss_wide (k' := 0) (n' := 0) (by decide) (by decide) ?_
    refine ss_ls [(0, rf G 51)] [0] rfl ?_
    exact s_X8_advance_51_c230 C  0 d
  · refine r_iconst C dX8_advance_225 ?_
    refine r_goto C 230 dX8_advance_226 (by decide) ?_
    refine ss_wide (k' := 0) (n' := 0) (by decide) (by decide) ?_
    refine ss_ls [(0, rf G 51)] [0] rfl ?_
    exact s_X8_advance_51_c230 C  3 d
set_option maxRecDepth 100000 in
theorem sb_X8_advance_51_c172 {G : G9} {X : X9} (C : CX G X cX8_advance 2 RX8 [] z_X8_advance_51) (k_X8_advance_51_c172 : D9 → Option R9) (hk_X8_advance_51_c172 : ∀ (d : D9), SS G X 2 0 0 172 [(0, rf G 51)] [] d (k_X8_advance_51_c172  d)) : ∀ (d : D9), SS G X 2 0 0 172 [(0, rf G 51)] [] d (b_X8_advance_51_c172 k_X8_advance_51_c172  d) := by
  intro  d
  unfold b_X8_advance_51_c172
  refine r_aload_n C 0 dX8_advance_172 rfl rfl ?_
  refine r_getI C dX8_advance_173 fl_X8_31 la_51 ly_51 rfl ?_
  refine r_aload_n C 0 dX8_advance_176 rfl rfl ?_
  refine r_getI C dX8_advance_177 fl_X8_28 la_51 ly_51 rfl ?_
  refine r_icmp_ge C 211 dX8_advance_180 (by decide) (fun _ => ?_) (fun _ => ?_)
  · refine ss_wide (k' := 0) (n' := 0) (by decide) (by decide) ?_
    refine ss_ls [(0, rf G 51)] [0] rfl ?_
    exact s_X8_advance_51_c211 C   d
  · refine r_aload_n C 0 dX8_advance_183 rfl rfl ?_
    refine r_getR C 52 dX8_advance_184 fl_X8_9 la_51 ly_51 rfl rfl ?_
    refine r_aload_n C 0 dX8_advance_187 rfl rfl ?_
    refine r_getI C dX8_advance_188 fl_X8_31 la_51 ly_51 rfl ?_
    refine r_cald C dX8_advance_191 la_52 ly_52 (fun t1 => ?_)
    refine r_callS C [i9 t1] dX8_advance_192 (t_X8_isDigit C.h1 C.h2 t1 d) mw_X8_57 ms_X8_isDigit (by decide) (by decide) (by decide) rfl rfl (Nat.le_of_ble_eq_true rfl) (fun r2 d3 => ?_)
    show SS G X 2 _ _ 195 [(0, rf G 51)] [i9 r2] d3 _
    refine r_if_eq C (b := 0) 211 dX8_advance_195 (by decide) (fun _ => ?_) (fun _ => ?_)
    · refine ss_wide (k' := 0) (n' := 0) (by decide) (by decide) ?_
      refine ss_ls [(0, rf G 51)] [0] rfl ?_
      exact s_X8_advance_51_c211 C   d3
    · refine r_aload_n C 0 dX8_advance_198 rfl rfl ?_
      refine r_dup C dX8_advance_199 rfl ?_
      refine r_getI C dX8_advance_200 fl_X8_31 la_51 ly_51 rfl ?_
      refine r_iconst C dX8_advance_203 ?_
      refine r_iadd C dX8_advance_204 ?_
      refine r_putI C dX8_advance_205 fp_X8_31 la_51 ly_51 rfl (fun d4 => ?_)
      refine r_goto C 172 dX8_advance_208 (by decide) ?_
      refine ss_wide (k' := 0) (n' := 0) (by decide) (by decide) ?_
      refine ss_ls [(0, rf G 51)] [0] rfl ?_
      exact hk_X8_advance_51_c172  d4
theorem s_X8_advance_51_c172 {G : G9} {X : X9} (C : CX G X cX8_advance 2 RX8 [] z_X8_advance_51) : ∀ (d : D9), SS G X 2 0 0 172 [(0, rf G 51)] [] d (m_X8_advance_51_c172   d) :=
  fix9_ind (P := fun k => ∀ (d : D9), SS G X 2 0 0 172 [(0, rf G 51)] [] d (k  d)) (fun _ => ss_none) (fun k hk => sb_X8_advance_51_c172 C k hk) FU
set_option maxRecDepth 100000 in
theorem s_X8_advance_51_c141 {G : G9} {X : X9} (C : CX G X cX8_advance 2 RX8 [] z_X8_advance_51) : ∀ (d : D9), SS G X 2 0 0 141 [(0, rf G 51)] [] d (m_X8_advance_51_c141   d) := by
  intro  d
  unfold m_X8_advance_51_c141
  refine r_aload_n C 0 dX8_advance_141 rfl rfl ?_
  refine r_iconst C dX8_advance_142 ?_
  refine r_putI C dX8_advance_143 fp_X8_40 la_51 ly_51 rfl (fun d1 => ?_)
  refine r_aload_n C 0 dX8_advance_146 rfl rfl ?_
  refine r_aload_n C 0 dX8_advance_147 rfl rfl ?_
  refine r_callV C [rf G 51, rf G 51] dX8_advance_148 (t_X8_wordNumber_51 C.h1 C.h2 d1) mw_X8_50 mv_X8_wordNumber la_51 ly_51 rfl (by decide) (by decide) (by decide) rfl rfl (Nat.le_of_ble_eq_true rfl) (fun r2 d3 => ?_)
  show SS G X 2 _ _ 151 [(0, rf G 51)] [i9 r2, rf G 51] d3 _
  refine r_putI C dX8_advance_151 fp_X8_54 la_51 ly_51 rfl (fun d4 => ?_)
  refine r_goto C 291 dX8_advance_154 (by decide) ?_
  exact r_vret C dX8_advance_291 (by decide) (by decide)
set_option maxRecDepth 100000 in
theorem sb_X8_advance_51_c102 {G : G9} {X : X9} (C : CX G X cX8_advance 2 RX8 [] z_X8_advance_51) (k_X8_advance_51_c102 : D9 → Option R9) (hk_X8_advance_51_c102 : ∀ (d : D9), SS G X 2 0 0 102 [(0, rf G 51)] [] d (k_X8_advance_51_c102  d)) : ∀ (d : D9), SS G X 2 0 0 102 [(0, rf G 51)] [] d (b_X8_advance_51_c102 k_X8_advance_51_c102  d) := by
  intro  d
  unfold b_X8_advance_51_c102
  refine r_aload_n C 0 dX8_advance_102 rfl rfl ?_
  refine r_getI C dX8_advance_103 fl_X8_31 la_51 ly_51 rfl ?_
  refine r_aload_n C 0 dX8_advance_106 rfl rfl ?_
  refine r_getI C dX8_advance_107 fl_X8_28 la_51 ly_51 rfl ?_
  refine r_icmp_ge C 141 dX8_advance_110 (by decide) (fun _ => ?_) (fun _ => ?_)
  · refine ss_wide (k' := 0) (n' := 0) (by decide) (by decide) ?_
    refine ss_ls [(0, rf G 51)] [0] rfl ?_
    exact s_X8_advance_51_c141 C   d
  · refine r_aload_n C 0 dX8_advance_113 rfl rfl ?_
    refine r_getR C 52 dX8_advance_114 fl_X8_9 la_51 ly_51 rfl rfl ?_
    refine r_aload_n C 0 dX8_advance_117 rfl rfl ?_
    refine r_getI C dX8_advance_118 fl_X8_31 la_51 ly_51 rfl ?_
    refine r_cald C dX8_advance_121 la_52 ly_52 (fun t1 => ?_)
    refine r_callS C [i9 t1] dX8_advance_122 (t_X8_isLetter C.h1 C.h2 t1 d) mw_X8_46 ms_X8_isLetter (by decide) (by decide) (by decide) rfl rfl (Nat.le_of_ble_eq_true rfl) (fun r2 d3 => ?_)
    show SS G X 2 _ _ 125 [(0, rf G 51)] [i9 r2] d3 _
    refine r_if_eq C (b := 0) 141 dX8_advance_125 (by decide) (fun _ => ?_) (fun _ => ?_)
    · refine ss_wide (k' := 0) (n' := 0) (by decide) (by decide) ?_
      refine ss_ls [(0, rf G 51)] [0] rfl ?_
      exact s_X8_advance_51_c141 C   d3
    · refine r_aload_n C 0 dX8_advance_128 rfl rfl ?_
      refine r_dup C dX8_advance_129 rfl ?_
      refine r_getI C dX8_advance_130 fl_X8_31 la_51 ly_51 rfl ?_
      refine r_iconst C dX8_advance_133 ?_
      refine r_iadd C dX8_advance_134 ?_
      refine r_putI C dX8_advance_135 fp_X8_31 la_51 ly_51 rfl (fun d4 => ?_)
      refine r_goto C 102 dX8_advance_138 (by decide) ?_
      refine ss_wide (k' := 0) (n' := 0) (by decide) (by decide) ?_
      refine ss_ls [(0, rf G 51)] [0] rfl ?_
      exact hk_X8_advance_51_c102  d4
theorem s_X8_advance_51_c102 {G : G9} {X : X9} (C : CX G X cX8_advance 2 RX8 [] z_X8_advance_51) : ∀ (d : D9), SS G X 2 0 0 102 [(0, rf G 51)] [] d (m_X8_advance_51_c102   d) :=
  fix9_ind (P := fun k => ∀ (d : D9), SS G X 2 0 0 102 [(0, rf G 51)] [] d (k  d)) (fun _ => ss_none) (fun k hk => sb_X8_advance_51_c102 C k hk) FU
set_option maxRecDepth 100000 in
theorem s_X8_advance_51_c60 {G : G9} {X : X9} (C : CX G X cX8_advance 2 RX8 [] z_X8_advance_51) : ∀ (d : D9), SS G X 2 0 0 60 [(0, rf G 51)] [] d (m_X8_advance_51_c60   d) := by
  intro  d
  unfold m_X8_advance_51_c60
  refine r_aload_n C 0 dX8_advance_60 rfl rfl ?_
  refine r_aload_n C 0 dX8_advance_61 rfl rfl ?_
  refine r_getI C dX8_advance_62 fl_X8_43 la_51 ly_51 rfl ?_
  refine r_putI C dX8_advance_65 fp_X8_31 la_51 ly_51 rfl (fun d1 => ?_)
  refine r_aload_n C 0 dX8_advance_68 rfl rfl ?_
  refine r_getI C dX8_advance_69 fl_X8_43 la_51 ly_51 rfl ?_
  refine r_aload_n C 0 dX8_advance_72 rfl rfl ?_
  refine r_getI C dX8_advance_73 fl_X8_28 la_51 ly_51 rfl ?_
  refine r_icmp_lt C 87 dX8_advance_76 (by decide) (fun _ => ?_) (fun _ => ?_)
  · refine r_aload_n C 0 dX8_advance_87 rfl rfl ?_
    refine r_getR C 52 dX8_advance_88 fl_X8_9 la_51 ly_51 rfl rfl ?_
    refine r_aload_n C 0 dX8_advance_91 rfl rfl ?_
    refine r_getI C dX8_advance_92 fl_X8_43 la_51 ly_51 rfl ?_
    refine r_cald C dX8_advance_95 la_52 ly_52 (fun t2 => ?_)
    refine r_callS C [i9 t2] dX8_advance_96 (t_X8_isLetter C.h1 C.h2 t2 d1) mw_X8_46 ms_X8_isLetter (by decide) (by decide) (by decide) rfl rfl (Nat.le_of_ble_eq_true rfl) (fun r3 d4 => ?_)
    show SS G X 2 _ _ 99 [(0, rf G 51)] [i9 r3] d4 _
    refine r_if_eq C (b := 0) 157 dX8_advance_99 (by decide) (fun _ => ?_) (fun _ => ?_)
    · refine r_aload_n C 0 dX8_advance_157 rfl rfl ?_
      refine r_getR C 52 dX8_advance_158 fl_X8_9 la_51 ly_51 rfl rfl ?_
      refine r_aload_n C 0 dX8_advance_161 rfl rfl ?_
      refine r_getI C dX8_advance_162 fl_X8_43 la_51 ly_51 rfl ?_
      refine r_cald C dX8_advance_165 la_52 ly_52 (fun t5 => ?_)
      refine r_callS C [i9 t5] dX8_advance_166 (t_X8_isDigit C.h1 C.h2 t5 d4) mw_X8_57 ms_X8_isDigit (by decide) (by decide) (by decide) rfl rfl (Nat.le_of_ble_eq_true rfl) (fun r6 d7 => ?_)
      show SS G X 2 _ _ 169 [(0, rf G 51)] [i9 r6] d7 _
      refine r_if_eq C (b := 0) 244 dX8_advance_169 (by decide) (fun _ => ?_) (fun _ => ?_)
      · refine r_aload_n C 0 dX8_advance_244 rfl rfl ?_
        refine r_getR C 52 dX8_advance_245 fl_X8_9 la_51 ly_51 rfl rfl ?_
        refine r_aload_n C 0 dX8_advance_248 rfl rfl ?_
        refine r_getI C dX8_advance_249 fl_X8_43 la_51 ly_51 rfl ?_
        refine r_cald C dX8_advance_252 la_52 ly_52 (fun t8 => ?_)
        refine r_istore_n C [(1, i9 t8), (0, rf G 51)] dX8_advance_253 rfl (by decide) rfl ?_
        refine r_aload_n C 1 dX8_advance_254 rfl rfl ?_
        refine r_dup C dX8_advance_255 rfl ?_
        refine r_getI C dX8_advance_256 fl_X8_31 la_51 ly_51 rfl ?_
        refine r_iconst C dX8_advance_259 ?_
        refine r_iadd C dX8_advance_260 ?_
        refine r_putI C dX8_advance_261 fp_X8_31 la_51 ly_51 rfl (fun d9 => ?_)
        refine r_aload_n C 1 dX8_advance_264 rfl rfl ?_
        refine r_iload_n C 0 dX8_advance_265 rfl rfl ?_
        refine r_bipush C dX8_advance_266 rfl ?_
        refine r_icmp_eq C 283 dX8_advance_268 (by decide) (fun _ => ?_) (fun _ => ?_)
        · refine r_iload_n C 0 dX8_advance_283 rfl rfl ?_
          refine r_goto C 288 dX8_advance_284 (by decide) ?_
          refine r_putI C dX8_advance_288 fp_X8_40 la_51 ly_51 rfl (fun d10 => ?_)
          exact r_vret C dX8_advance_291 (by decide) (by decide)
        · refine r_iload_n C 0 dX8_advance_271 rfl rfl ?_
          refine r_bipush C dX8_advance_272 rfl ?_
          refine r_icmp_eq C 283 dX8_advance_274 (by decide) (fun _ => ?_) (fun _ => ?_)
          · refine r_iload_n C 0 dX8_advance_283 rfl rfl ?_
            refine r_goto C 288 dX8_advance_284 (by decide) ?_
            refine r_putI C dX8_advance_288 fp_X8_40 la_51 ly_51 rfl (fun d11 => ?_)
            exact r_vret C dX8_advance_291 (by decide) (by decide)
          · refine r_iload_n C 0 dX8_advance_277 rfl rfl ?_
            refine r_bipush C dX8_advance_278 rfl ?_
            refine r_icmp_ne C 287 dX8_advance_280 (by decide) (fun _ => ?_) (fun _ => ?_)
            · refine r_iconst C dX8_advance_287 ?_
              refine r_putI C dX8_advance_288 fp_X8_40 la_51 ly_51 rfl (fun d12 => ?_)
              exact r_vret C dX8_advance_291 (by decide) (by decide)
            · refine r_iload_n C 0 dX8_advance_283 rfl rfl ?_
              refine r_goto C 288 dX8_advance_284 (by decide) ?_
              refine r_putI C dX8_advance_288 fp_X8_40 la_51 ly_51 rfl (fun d13 => ?_)
              exact r_vret C dX8_advance_291 (by decide) (by decide)
      · refine ss_wide (k' := 0) (n' := 0) (by decide) (by decide) ?_
        refine ss_ls [(0, rf G 51)] [0] rfl ?_
        exact s_X8_advance_51_c172 C   d7
    · refine ss_wide (k' := 0) (n' := 0) (by decide) (by decide) ?_
      refine ss_ls [(0, rf G 51)] [0] rfl ?_
      exact s_X8_advance_51_c102 C   d4
  · refine r_aload_n C 0 dX8_advance_79 rfl rfl ?_
    refine r_iconst C dX8_advance_80 ?_
    refine r_putI C dX8_advance_81 fp_X8_40 la_51 ly_51 rfl (fun d14 => ?_)
    refine r_goto C 291 dX8_advance_84 (by decide) ?_
    exact r_vret C dX8_advance_291 (by decide) (by decide)
set_option maxRecDepth 100000 in
theorem sb_X8_advance_51_c8 {G : G9} {X : X9} (C : CX G X cX8_advance 2 RX8 [] z_X8_advance_51) (k_X8_advance_51_c8 : D9 → Option R9) (hk_X8_advance_51_c8 : ∀ (d : D9), SS G X 2 0 0 8 [(0, rf G 51)] [] d (k_X8_advance_51_c8  d)) : ∀ (d : D9), SS G X 2 0 0 8 [(0, rf G 51)] [] d (b_X8_advance_51_c8 k_X8_advance_51_c8  d) := by
  intro  d
  unfold b_X8_advance_51_c8
  refine r_aload_n C 0 dX8_advance_8 rfl rfl ?_
  refine r_getI C dX8_advance_9 fl_X8_43 la_51 ly_51 rfl ?_
  refine r_aload_n C 0 dX8_advance_12 rfl rfl ?_
  refine r_getI C dX8_advance_13 fl_X8_28 la_51 ly_51 rfl ?_
  refine r_icmp_ge C 60 dX8_advance_16 (by decide) (fun _ => ?_) (fun _ => ?_)
  · refine ss_wide (k' := 0) (n' := 0) (by decide) (by decide) ?_
    refine ss_ls [(0, rf G 51)] [0] rfl ?_
    exact s_X8_advance_51_c60 C   d
  · refine r_aload_n C 0 dX8_advance_19 rfl rfl ?_
    refine r_getR C 52 dX8_advance_20 fl_X8_9 la_51 ly_51 rfl rfl ?_
    refine r_aload_n C 0 dX8_advance_23 rfl rfl ?_
    refine r_getI C dX8_advance_24 fl_X8_43 la_51 ly_51 rfl ?_
    refine r_cald C dX8_advance_27 la_52 ly_52 (fun t1 => ?_)
    refine r_bipush C dX8_advance_28 rfl ?_
    refine r_icmp_eq C 47 dX8_advance_30 (by decide) (fun _ => ?_) (fun _ => ?_)
    · refine r_aload_n C 0 dX8_advance_47 rfl rfl ?_
      refine r_dup C dX8_advance_48 rfl ?_
      refine r_getI C dX8_advance_49 fl_X8_43 la_51 ly_51 rfl ?_
      refine r_iconst C dX8_advance_52 ?_
      refine r_iadd C dX8_advance_53 ?_
      refine r_putI C dX8_advance_54 fp_X8_43 la_51 ly_51 rfl (fun d2 => ?_)
      refine r_goto C 8 dX8_advance_57 (by decide) ?_
      refine ss_wide (k' := 0) (n' := 0) (by decide) (by decide) ?_
      refine ss_ls [(0, rf G 51)] [0] rfl ?_
      exact hk_X8_advance_51_c8  d2
    · refine r_aload_n C 0 dX8_advance_33 rfl rfl ?_
      refine r_getR C 52 dX8_advance_34 fl_X8_9 la_51 ly_51 rfl rfl ?_
      refine r_aload_n C 0 dX8_advance_37 rfl rfl ?_
      refine r_getI C dX8_advance_38 fl_X8_43 la_51 ly_51 rfl ?_
      refine r_cald C dX8_advance_41 la_52 ly_52 (fun t3 => ?_)
      refine r_bipush C dX8_advance_42 rfl ?_
      refine r_icmp_ne C 60 dX8_advance_44 (by decide) (fun _ => ?_) (fun _ => ?_)
      · refine ss_wide (k' := 0) (n' := 0) (by decide) (by decide) ?_
        refine ss_ls [(0, rf G 51)] [0] rfl ?_
        exact s_X8_advance_51_c60 C   d
      · refine r_aload_n C 0 dX8_advance_47 rfl rfl ?_
        refine r_dup C dX8_advance_48 rfl ?_
        refine r_getI C dX8_advance_49 fl_X8_43 la_51 ly_51 rfl ?_
        refine r_iconst C dX8_advance_52 ?_
        refine r_iadd C dX8_advance_53 ?_
        refine r_putI C dX8_advance_54 fp_X8_43 la_51 ly_51 rfl (fun d4 => ?_)
        refine r_goto C 8 dX8_advance_57 (by decide) ?_
        refine ss_wide (k' := 0) (n' := 0) (by decide) (by decide) ?_
        refine ss_ls [(0, rf G 51)] [0] rfl ?_
        exact hk_X8_advance_51_c8  d4
theorem s_X8_advance_51_c8 {G : G9} {X : X9} (C : CX G X cX8_advance 2 RX8 [] z_X8_advance_51) : ∀ (d : D9), SS G X 2 0 0 8 [(0, rf G 51)] [] d (m_X8_advance_51_c8   d) :=
  fix9_ind (P := fun k => ∀ (d : D9), SS G X 2 0 0 8 [(0, rf G 51)] [] d (k  d)) (fun _ => ss_none) (fun k hk => sb_X8_advance_51_c8 C k hk) FU
set_option maxRecDepth 100000 in
theorem t_X8_advance_51 {G : G9} {l : Launch} (h1 : va_D (A9 G) (wl G (fun _ _ => 0))) (h2 : l.stackTraces = false) (d : D9) : MT G l yX8_advance cX8_advance 2 z_X8_advance_51 [rf G 51] d (m_X8_advance_51  d) := by
  refine mt_of (own := RX8) (by decide) rfl (Nat.le_of_ble_eq_true rfl) h1 h2 [(0, rf G 51)] rfl (fun X hX C => ?_)
  unfold m_X8_advance_51
  refine r_aload_n C 0 dX8_advance_0 rfl rfl ?_
  refine r_aload_n C 0 dX8_advance_1 rfl rfl ?_
  refine r_getI C dX8_advance_2 fl_X8_31 la_51 ly_51 rfl ?_
  refine r_putI C dX8_advance_5 fp_X8_43 la_51 ly_51 rfl (fun d1 => ?_)
  refine ss_wide (k' := 0) (n' := 0) (by decide) (by decide) ?_
  refine ss_ls [(0, rf G 51)] [0] rfl ?_
  exact s_X8_advance_51_c8 C   d1
theorem dX8_begin_0 : decode cX8_begin 0 = .ok (.aload_n 0, 1) := by decide +kernel
theorem dX8_begin_1 : decode cX8_begin 1 = .ok (.iload_n 1, 1) := by decide +kernel
theorem dX8_begin_2 : decode cX8_begin 2 = .ok (.aload_n 0, 1) := by decide +kernel
theorem dX8_begin_3 : decode cX8_begin 3 = .ok (.getfield 9, 3) := by decide +kernel
theorem dX8_begin_6 : decode cX8_begin 6 = .ok (.arraylength, 1) := by decide +kernel
theorem dX8_begin_7 : decode cX8_begin 7 = .ok (.invokestatic 22, 3) := by decide +kernel
theorem dX8_begin_10 : decode cX8_begin 10 = .ok (.putfield 28, 3) := by decide +kernel
theorem dX8_begin_13 : decode cX8_begin 13 = .ok (.aload_n 0, 1) := by decide +kernel
theorem dX8_begin_14 : decode cX8_begin 14 = .ok (.iconst 0, 1) := by decide +kernel
theorem dX8_begin_15 : decode cX8_begin 15 = .ok (.putfield 19, 3) := by decide +kernel
theorem dX8_begin_18 : decode cX8_begin 18 = .ok (.aload_n 0, 1) := by decide +kernel
theorem dX8_begin_19 : decode cX8_begin 19 = .ok (.iconst 0, 1) := by decide +kernel
theorem dX8_begin_20 : decode cX8_begin 20 = .ok (.putfield 31, 3) := by decide +kernel
theorem dX8_begin_23 : decode cX8_begin 23 = .ok (.aload_n 0, 1) := by decide +kernel
theorem dX8_begin_24 : decode cX8_begin 24 = .ok (.iconst 0, 1) := by decide +kernel
theorem dX8_begin_25 : decode cX8_begin 25 = .ok (.putfield 34, 3) := by decide +kernel
theorem dX8_begin_28 : decode cX8_begin 28 = .ok (.aload_n 0, 1) := by decide +kernel
theorem dX8_begin_29 : decode cX8_begin 29 = .ok (.iconst (-1), 1) := by decide +kernel
theorem dX8_begin_30 : decode cX8_begin 30 = .ok (.putfield 15, 3) := by decide +kernel
theorem dX8_begin_33 : decode cX8_begin 33 = .ok (.aload_n 0, 1) := by decide +kernel
theorem dX8_begin_34 : decode cX8_begin 34 = .ok (.invokevirtual 37, 3) := by decide +kernel
theorem dX8_begin_37 : decode cX8_begin 37 = .ok (.return_, 1) := by decide +kernel
abbrev z_X8_begin_51 : Z9 := (none, 0, 0, 0, 10, 295)
def m_X8_begin_51 (p1 : Int) (d : D9) : Option R9 := pf d 51 4 (min9 p1 400) (fun d1 => pf d1 51 1 0 (fun d2 => pf d2 51 5 0 (fun d3 => pf d3 51 2 0 (fun d4 => pf d4 51 3 (-1) (fun d5 => cl (m_X8_advance_51 d5) (fun r6 d7 => rt 0 d7))))))
set_option maxRecDepth 100000 in
theorem t_X8_begin_51 {G : G9} {l : Launch} (h1 : va_D (A9 G) (wl G (fun _ _ => 0))) (h2 : l.stackTraces = false) (p1 : Int) (d : D9) : MT G l yX8_begin cX8_begin 2 z_X8_begin_51 [rf G 51, i9 p1] d (m_X8_begin_51 p1 d) := by
  refine mt_of (own := RX8) (by decide) rfl (Nat.le_of_ble_eq_true rfl) h1 h2 [(0, rf G 51), (1, i9 p1)] rfl (fun X hX C => ?_)
  unfold m_X8_begin_51
  refine r_aload_n C 0 dX8_begin_0 rfl rfl ?_
  refine r_iload_n C 1 dX8_begin_1 rfl rfl ?_
  refine r_aload_n C 0 dX8_begin_2 rfl rfl ?_
  refine r_getR C 52 dX8_begin_3 fl_X8_9 la_51 ly_51 rfl rfl ?_
  refine r_alenC C dX8_begin_6 la_52 ly_52 ?_
  refine r_mmin C dX8_begin_7 mm_X8_22 ⟨Nat.le_of_ble_eq_true rfl, Nat.le_of_ble_eq_true rfl⟩ (by decide) (by decide) ?_
  refine r_putI C dX8_begin_10 fp_X8_28 la_51 ly_51 rfl (fun d1 => ?_)
  refine r_aload_n C 0 dX8_begin_13 rfl rfl ?_
  refine r_iconst C dX8_begin_14 ?_
  refine r_putI C dX8_begin_15 fp_X8_19 la_51 ly_51 rfl (fun d2 => ?_)
  refine r_aload_n C 0 dX8_begin_18 rfl rfl ?_
  refine r_iconst C dX8_begin_19 ?_
  refine r_putI C dX8_begin_20 fp_X8_31 la_51 ly_51 rfl (fun d3 => ?_)
  refine r_aload_n C 0 dX8_begin_23 rfl rfl ?_
  refine r_iconst C dX8_begin_24 ?_
  refine r_putI C dX8_begin_25 fp_X8_34 la_51 ly_51 rfl (fun d4 => ?_)
  refine r_aload_n C 0 dX8_begin_28 rfl rfl ?_
  refine r_iconst C dX8_begin_29 ?_
  refine r_putI C dX8_begin_30 fp_X8_15 la_51 ly_51 rfl (fun d5 => ?_)
  refine r_aload_n C 0 dX8_begin_33 rfl rfl ?_
  refine r_callV C [rf G 51] dX8_begin_34 (t_X8_advance_51 C.h1 C.h2 d5) mw_X8_37 mv_X8_advance la_51 ly_51 rfl (by decide) (by decide) (by decide) rfl rfl (Nat.le_of_ble_eq_true rfl) (fun r6 d7 => ?_)
  show SS G X 2 _ _ 37 [(0, rf G 51), (1, i9 p1)] [] d7 _
  exact r_vret C dX8_begin_37 (by decide) (by decide)
theorem dX2_reset_0 : decode cX2_reset 0 = .ok (.aload_n 0, 1) := by decide +kernel
theorem dX2_reset_1 : decode cX2_reset 1 = .ok (.iconst 0, 1) := by decide +kernel
theorem dX2_reset_2 : decode cX2_reset 2 = .ok (.putfield 14, 3) := by decide +kernel
theorem dX2_reset_5 : decode cX2_reset 5 = .ok (.aload_n 0, 1) := by decide +kernel
theorem dX2_reset_6 : decode cX2_reset 6 = .ok (.bipush 10, 2) := by decide +kernel
theorem dX2_reset_8 : decode cX2_reset 8 = .ok (.putfield 18, 3) := by decide +kernel
theorem dX2_reset_11 : decode cX2_reset 11 = .ok (.aload_n 0, 1) := by decide +kernel
theorem dX2_reset_12 : decode cX2_reset 12 = .ok (.bipush 20, 2) := by decide +kernel
theorem dX2_reset_14 : decode cX2_reset 14 = .ok (.putfield 21, 3) := by decide +kernel
theorem dX2_reset_17 : decode cX2_reset 17 = .ok (.aload_n 0, 1) := by decide +kernel
theorem dX2_reset_18 : decode cX2_reset 18 = .ok (.bipush 60, 2) := by decide +kernel
theorem dX2_reset_20 : decode cX2_reset 20 = .ok (.putfield 24, 3) := by decide +kernel
theorem dX2_reset_23 : decode cX2_reset 23 = .ok (.aload_n 0, 1) := by decide +kernel
theorem dX2_reset_24 : decode cX2_reset 24 = .ok (.bipush 50, 2) := by decide +kernel
theorem dX2_reset_26 : decode cX2_reset 26 = .ok (.putfield 27, 3) := by decide +kernel
theorem dX2_reset_29 : decode cX2_reset 29 = .ok (.aload_n 0, 1) := by decide +kernel
theorem dX2_reset_30 : decode cX2_reset 30 = .ok (.iconst 5, 1) := by decide +kernel
theorem dX2_reset_31 : decode cX2_reset 31 = .ok (.putfield 30, 3) := by decide +kernel
theorem dX2_reset_34 : decode cX2_reset 34 = .ok (.aload_n 0, 1) := by decide +kernel
theorem dX2_reset_35 : decode cX2_reset 35 = .ok (.bipush 10, 2) := by decide +kernel
theorem dX2_reset_37 : decode cX2_reset 37 = .ok (.putfield 33, 3) := by decide +kernel
theorem dX2_reset_40 : decode cX2_reset 40 = .ok (.aload_n 0, 1) := by decide +kernel
theorem dX2_reset_41 : decode cX2_reset 41 = .ok (.bipush 6, 2) := by decide +kernel
theorem dX2_reset_43 : decode cX2_reset 43 = .ok (.putfield 36, 3) := by decide +kernel
theorem dX2_reset_46 : decode cX2_reset 46 = .ok (.return_, 1) := by decide +kernel
abbrev z_X2_reset_40 : Z9 := (none, 0, 0, 0, 1, 0)
def m_X2_reset_40 (d : D9) : Option R9 := pf d 40 0 0 (fun d1 => pf d1 40 1 10 (fun d2 => pf d2 40 2 20 (fun d3 => pf d3 40 3 60 (fun d4 => pf d4 40 4 50 (fun d5 => pf d5 40 5 5 (fun d6 => pf d6 40 6 10 (fun d7 => pf d7 40 7 6 (fun d8 => rt 0 d8))))))))
set_option maxRecDepth 100000 in
theorem t_X2_reset_40 {G : G9} {l : Launch} (h1 : va_D (A9 G) (wl G (fun _ _ => 0))) (h2 : l.stackTraces = false) (d : D9) : MT G l yX2_reset cX2_reset 1 z_X2_reset_40 [rf G 40] d (m_X2_reset_40  d) := by
  refine mt_of (own := RX2) (by decide) rfl (Nat.le_of_ble_eq_true rfl) h1 h2 [(0, rf G 40)] rfl (fun X hX C => ?_)
  unfold m_X2_reset_40
  refine r_aload_n C 0 dX2_reset_0 rfl rfl ?_
  refine r_iconst C dX2_reset_1 ?_
  refine r_putI C dX2_reset_2 fp_X2_14 la_40 ly_40 rfl (fun d1 => ?_)
  refine r_aload_n C 0 dX2_reset_5 rfl rfl ?_
  refine r_bipush C dX2_reset_6 rfl ?_
  refine r_putI C dX2_reset_8 fp_X2_18 la_40 ly_40 rfl (fun d2 => ?_)
  refine r_aload_n C 0 dX2_reset_11 rfl rfl ?_
  refine r_bipush C dX2_reset_12 rfl ?_
  refine r_putI C dX2_reset_14 fp_X2_21 la_40 ly_40 rfl (fun d3 => ?_)
  refine r_aload_n C 0 dX2_reset_17 rfl rfl ?_
  refine r_bipush C dX2_reset_18 rfl ?_
  refine r_putI C dX2_reset_20 fp_X2_24 la_40 ly_40 rfl (fun d4 => ?_)
  refine r_aload_n C 0 dX2_reset_23 rfl rfl ?_
  refine r_bipush C dX2_reset_24 rfl ?_
  refine r_putI C dX2_reset_26 fp_X2_27 la_40 ly_40 rfl (fun d5 => ?_)
  refine r_aload_n C 0 dX2_reset_29 rfl rfl ?_
  refine r_iconst C dX2_reset_30 ?_
  refine r_putI C dX2_reset_31 fp_X2_30 la_40 ly_40 rfl (fun d6 => ?_)
  refine r_aload_n C 0 dX2_reset_34 rfl rfl ?_
  refine r_bipush C dX2_reset_35 rfl ?_
  refine r_putI C dX2_reset_37 fp_X2_33 la_40 ly_40 rfl (fun d7 => ?_)
  refine r_aload_n C 0 dX2_reset_40 rfl rfl ?_
  refine r_bipush C dX2_reset_41 rfl ?_
  refine r_putI C dX2_reset_43 fp_X2_36 la_40 ly_40 rfl (fun d8 => ?_)
  exact r_vret C dX2_reset_46 (by decide) (by decide)
theorem dX8_goesOn_0 : decode cX8_goesOn 0 = .ok (.aload_n 0, 1) := by decide +kernel
theorem dX8_goesOn_1 : decode cX8_goesOn 1 = .ok (.getfield 34, 3) := by decide +kernel
theorem dX8_goesOn_4 : decode cX8_goesOn 4 = .ok (.ifCond .ne 15, 3) := by decide +kernel
theorem dX8_goesOn_7 : decode cX8_goesOn 7 = .ok (.aload_n 0, 1) := by decide +kernel
theorem dX8_goesOn_8 : decode cX8_goesOn 8 = .ok (.getfield 40, 3) := by decide +kernel
theorem dX8_goesOn_11 : decode cX8_goesOn 11 = .ok (.iconst 1, 1) := by decide +kernel
theorem dX8_goesOn_12 : decode cX8_goesOn 12 = .ok (.if_icmp .eq 7, 3) := by decide +kernel
theorem dX8_goesOn_15 : decode cX8_goesOn 15 = .ok (.iconst 1, 1) := by decide +kernel
theorem dX8_goesOn_16 : decode cX8_goesOn 16 = .ok (.goto 4, 3) := by decide +kernel
theorem dX8_goesOn_19 : decode cX8_goesOn 19 = .ok (.iconst 0, 1) := by decide +kernel
theorem dX8_goesOn_20 : decode cX8_goesOn 20 = .ok (.ireturn, 1) := by decide +kernel
abbrev z_X8_goesOn_51 : Z9 := (some .boolean, 1, 0, 0, 1, 0)
def m_X8_goesOn_51 (d : D9) : Option R9 := if w32 (d 51 2) ≠ 0 then rt (0 % 2) d else if w32 (d 51 7) = w32 1 then rt (0 % 2) d else rt (1 % 2) d
set_option maxRecDepth 100000 in
theorem t_X8_goesOn_51 {G : G9} {l : Launch} (h1 : va_D (A9 G) (wl G (fun _ _ => 0))) (h2 : l.stackTraces = false) (d : D9) : MT G l yX8_goesOn cX8_goesOn 1 z_X8_goesOn_51 [rf G 51] d (m_X8_goesOn_51  d) := by
  refine mt_of (own := RX8) (by decide) rfl (Nat.le_of_ble_eq_true rfl) h1 h2 [(0, rf G 51)] rfl (fun X hX C => ?_)
  unfold m_X8_goesOn_51
  refine r_aload_n C 0 dX8_goesOn_0 rfl rfl ?_
  refine r_getI C dX8_goesOn_1 fl_X8_34 la_51 ly_51 rfl ?_
  refine r_if_ne C (b := 0) 19 dX8_goesOn_4 (by decide) (fun _ => ?_) (fun _ => ?_)
  · refine r_iconst C dX8_goesOn_19 ?_
    exact r_zret C dX8_goesOn_20 (by decide) (by decide)
  · refine r_aload_n C 0 dX8_goesOn_7 rfl rfl ?_
    refine r_getI C dX8_goesOn_8 fl_X8_40 la_51 ly_51 rfl ?_
    refine r_iconst C dX8_goesOn_11 ?_
    refine r_icmp_eq C 19 dX8_goesOn_12 (by decide) (fun _ => ?_) (fun _ => ?_)
    · refine r_iconst C dX8_goesOn_19 ?_
      exact r_zret C dX8_goesOn_20 (by decide) (by decide)
    · refine r_iconst C dX8_goesOn_15 ?_
      refine r_goto C 20 dX8_goesOn_16 (by decide) ?_
      exact r_zret C dX8_goesOn_20 (by decide) (by decide)
theorem dX8_fail_0 : decode cX8_fail 0 = .ok (.aload_n 0, 1) := by decide +kernel
theorem dX8_fail_1 : decode cX8_fail 1 = .ok (.getfield 34, 3) := by decide +kernel
theorem dX8_fail_4 : decode cX8_fail 4 = .ok (.ifCond .ne 16, 3) := by decide +kernel
theorem dX8_fail_7 : decode cX8_fail 7 = .ok (.aload_n 0, 1) := by decide +kernel
theorem dX8_fail_8 : decode cX8_fail 8 = .ok (.iload_n 1, 1) := by decide +kernel
theorem dX8_fail_9 : decode cX8_fail 9 = .ok (.putfield 34, 3) := by decide +kernel
theorem dX8_fail_12 : decode cX8_fail 12 = .ok (.aload_n 0, 1) := by decide +kernel
theorem dX8_fail_13 : decode cX8_fail 13 = .ok (.aload_n 0, 1) := by decide +kernel
theorem dX8_fail_14 : decode cX8_fail 14 = .ok (.getfield 43, 3) := by decide +kernel
theorem dX8_fail_17 : decode cX8_fail 17 = .ok (.putfield 15, 3) := by decide +kernel
theorem dX8_fail_20 : decode cX8_fail 20 = .ok (.return_, 1) := by decide +kernel
abbrev z_X8_fail_51 : Z9 := (none, 0, 0, 0, 1, 0)
def m_X8_fail_51 (p1 : Int) (d : D9) : Option R9 := if w32 (d 51 2) ≠ 0 then rt 0 d else pf d 51 2 p1 (fun d1 => pf d1 51 3 (d1 51 6) (fun d2 => rt 0 d2))
set_option maxRecDepth 100000 in
theorem t_X8_fail_51 {G : G9} {l : Launch} (h1 : va_D (A9 G) (wl G (fun _ _ => 0))) (h2 : l.stackTraces = false) (p1 : Int) (d : D9) : MT G l yX8_fail cX8_fail 2 z_X8_fail_51 [rf G 51, i9 p1] d (m_X8_fail_51 p1 d) := by
  refine mt_of (own := RX8) (by decide) rfl (Nat.le_of_ble_eq_true rfl) h1 h2 [(0, rf G 51), (1, i9 p1)] rfl (fun X hX C => ?_)
  unfold m_X8_fail_51
  refine r_aload_n C 0 dX8_fail_0 rfl rfl ?_
  refine r_getI C dX8_fail_1 fl_X8_34 la_51 ly_51 rfl ?_
  refine r_if_ne C (b := 0) 20 dX8_fail_4 (by decide) (fun _ => ?_) (fun _ => ?_)
  · exact r_vret C dX8_fail_20 (by decide) (by decide)
  · refine r_aload_n C 0 dX8_fail_7 rfl rfl ?_
    refine r_iload_n C 1 dX8_fail_8 rfl rfl ?_
    refine r_putI C dX8_fail_9 fp_X8_34 la_51 ly_51 rfl (fun d1 => ?_)
    refine r_aload_n C 0 dX8_fail_12 rfl rfl ?_
    refine r_aload_n C 0 dX8_fail_13 rfl rfl ?_
    refine r_getI C dX8_fail_14 fl_X8_43 la_51 ly_51 rfl ?_
    refine r_putI C dX8_fail_17 fp_X8_15 la_51 ly_51 rfl (fun d2 => ?_)
    exact r_vret C dX8_fail_20 (by decide) (by decide)
theorem dX8_refuse_0 : decode cX8_refuse 0 = .ok (.aload_n 0, 1) := by decide +kernel
theorem dX8_refuse_1 : decode cX8_refuse 1 = .ok (.aload_n 0, 1) := by decide +kernel
theorem dX8_refuse_2 : decode cX8_refuse 2 = .ok (.getfield 40, 3) := by decide +kernel
theorem dX8_refuse_5 : decode cX8_refuse 5 = .ok (.ifCond .ne 7, 3) := by decide +kernel
theorem dX8_refuse_8 : decode cX8_refuse 8 = .ok (.iconst 1, 1) := by decide +kernel
theorem dX8_refuse_9 : decode cX8_refuse 9 = .ok (.goto 4, 3) := by decide +kernel
theorem dX8_refuse_12 : decode cX8_refuse 12 = .ok (.iconst 2, 1) := by decide +kernel
theorem dX8_refuse_13 : decode cX8_refuse 13 = .ok (.invokevirtual 74, 3) := by decide +kernel
theorem dX8_refuse_16 : decode cX8_refuse 16 = .ok (.return_, 1) := by decide +kernel
abbrev z_X8_refuse_51 : Z9 := (none, 0, 0, 0, 2, 21)
def m_X8_refuse_51_c13 (s0 : Int) (d : D9) : Option R9 := cl (m_X8_fail_51 s0 d) (fun r1 d2 => rt 0 d2)
def m_X8_refuse_51 (d : D9) : Option R9 := if w32 (d 51 7) ≠ 0 then m_X8_refuse_51_c13  2 d else m_X8_refuse_51_c13  1 d
set_option maxRecDepth 100000 in
theorem s_X8_refuse_51_c13 {G : G9} {X : X9} (C : CX G X cX8_refuse 1 RX8 [] z_X8_refuse_51) : ∀ (s0 : Int) (d : D9), SS G X 1 0 0 13 [] [i9 s0, rf G 51] d (m_X8_refuse_51_c13  s0 d) := by
  intro s0 d
  unfold m_X8_refuse_51_c13
  refine r_callV C [i9 s0, rf G 51] dX8_refuse_13 (t_X8_fail_51 C.h1 C.h2 s0 d) mw_X8_74 mv_X8_fail la_51 ly_51 rfl (by decide) (by decide) (by decide) rfl rfl (Nat.le_of_ble_eq_true rfl) (fun r1 d2 => ?_)
  show SS G X 1 _ _ 16 [] [] d2 _
  exact r_vret C dX8_refuse_16 (by decide) (by decide)
set_option maxRecDepth 100000 in
theorem t_X8_refuse_51 {G : G9} {l : Launch} (h1 : va_D (A9 G) (wl G (fun _ _ => 0))) (h2 : l.stackTraces = false) (d : D9) : MT G l yX8_refuse cX8_refuse 1 z_X8_refuse_51 [rf G 51] d (m_X8_refuse_51  d) := by
  refine mt_of (own := RX8) (by decide) rfl (Nat.le_of_ble_eq_true rfl) h1 h2 [(0, rf G 51)] rfl (fun X hX C => ?_)
  unfold m_X8_refuse_51
  refine r_aload_n C 0 dX8_refuse_0 rfl rfl ?_
  refine r_aload_n C 0 dX8_refuse_1 rfl rfl ?_
  refine r_getI C dX8_refuse_2 fl_X8_40 la_51 ly_51 rfl ?_
  refine r_if_ne C (b := 0) 12 dX8_refuse_5 (by decide) (fun _ => ?_) (fun _ => ?_)
  · refine r_iconst C dX8_refuse_12 ?_
    refine ss_wide (k' := 0) (n' := 0) (by decide) (by decide) ?_
    refine ss_ls [] [] rfl ?_
    exact s_X8_refuse_51_c13 C  2 d
  · refine r_iconst C dX8_refuse_8 ?_
    refine r_goto C 13 dX8_refuse_9 (by decide) ?_
    refine ss_wide (k' := 0) (n' := 0) (by decide) (by decide) ?_
    refine ss_ls [] [] rfl ?_
    exact s_X8_refuse_51_c13 C  1 d
theorem dX8_wordAmong_0 : decode cX8_wordAmong 0 = .ok (.aload_n 0, 1) := by decide +kernel
theorem dX8_wordAmong_1 : decode cX8_wordAmong 1 = .ok (.getfield 34, 3) := by decide +kernel
theorem dX8_wordAmong_4 : decode cX8_wordAmong 4 = .ok (.ifCond .ne 38, 3) := by decide +kernel
theorem dX8_wordAmong_7 : decode cX8_wordAmong 7 = .ok (.aload_n 0, 1) := by decide +kernel
theorem dX8_wordAmong_8 : decode cX8_wordAmong 8 = .ok (.getfield 40, 3) := by decide +kernel
theorem dX8_wordAmong_11 : decode cX8_wordAmong 11 = .ok (.iconst 2, 1) := by decide +kernel
theorem dX8_wordAmong_12 : decode cX8_wordAmong 12 = .ok (.if_icmp .ne 30, 3) := by decide +kernel
theorem dX8_wordAmong_15 : decode cX8_wordAmong 15 = .ok (.aload_n 0, 1) := by decide +kernel
theorem dX8_wordAmong_16 : decode cX8_wordAmong 16 = .ok (.getfield 54, 3) := by decide +kernel
theorem dX8_wordAmong_19 : decode cX8_wordAmong 19 = .ok (.iload_n 1, 1) := by decide +kernel
theorem dX8_wordAmong_20 : decode cX8_wordAmong 20 = .ok (.if_icmp .lt 22, 3) := by decide +kernel
theorem dX8_wordAmong_23 : decode cX8_wordAmong 23 = .ok (.aload_n 0, 1) := by decide +kernel
theorem dX8_wordAmong_24 : decode cX8_wordAmong 24 = .ok (.getfield 54, 3) := by decide +kernel
theorem dX8_wordAmong_27 : decode cX8_wordAmong 27 = .ok (.iload_n 2, 1) := by decide +kernel
theorem dX8_wordAmong_28 : decode cX8_wordAmong 28 = .ok (.if_icmp .gt 14, 3) := by decide +kernel
theorem dX8_wordAmong_31 : decode cX8_wordAmong 31 = .ok (.aload_n 0, 1) := by decide +kernel
theorem dX8_wordAmong_32 : decode cX8_wordAmong 32 = .ok (.getfield 54, 3) := by decide +kernel
theorem dX8_wordAmong_35 : decode cX8_wordAmong 35 = .ok (.istore_n 3, 1) := by decide +kernel
theorem dX8_wordAmong_36 : decode cX8_wordAmong 36 = .ok (.aload_n 0, 1) := by decide +kernel
theorem dX8_wordAmong_37 : decode cX8_wordAmong 37 = .ok (.invokevirtual 37, 3) := by decide +kernel
theorem dX8_wordAmong_40 : decode cX8_wordAmong 40 = .ok (.iload_n 3, 1) := by decide +kernel
theorem dX8_wordAmong_41 : decode cX8_wordAmong 41 = .ok (.ireturn, 1) := by decide +kernel
theorem dX8_wordAmong_42 : decode cX8_wordAmong 42 = .ok (.aload_n 0, 1) := by decide +kernel
theorem dX8_wordAmong_43 : decode cX8_wordAmong 43 = .ok (.invokevirtual 85, 3) := by decide +kernel
theorem dX8_wordAmong_46 : decode cX8_wordAmong 46 = .ok (.iconst (-1), 1) := by decide +kernel
theorem dX8_wordAmong_47 : decode cX8_wordAmong 47 = .ok (.ireturn, 1) := by decide +kernel
abbrev z_X8_wordAmong_51 : Z9 := (some .int, 1, 0, 0, 10, 295)
def m_X8_wordAmong_51_c42 (d : D9) : Option R9 := cl (m_X8_refuse_51 d) (fun r1 d2 => rt (-1) d2)
def m_X8_wordAmong_51 (p1 p2 : Int) (d : D9) : Option R9 := if w32 (d 51 2) ≠ 0 then m_X8_wordAmong_51_c42   d else if w32 (d 51 7) ≠ w32 2 then m_X8_wordAmong_51_c42   d else if w32 (d 51 8) < w32 p1 then m_X8_wordAmong_51_c42   d else if w32 p2 < w32 (d 51 8) then m_X8_wordAmong_51_c42   d else lt9v (d 51 8) (fun a1 => cl (m_X8_advance_51 d) (fun r2 d3 => rt a1 d3))
set_option maxRecDepth 100000 in
theorem s_X8_wordAmong_51_c42 {G : G9} {X : X9} (C : CX G X cX8_wordAmong 4 RX8 [] z_X8_wordAmong_51) : ∀ (d : D9), SS G X 4 0 0 42 [(0, rf G 51)] [] d (m_X8_wordAmong_51_c42   d) := by
  intro  d
  unfold m_X8_wordAmong_51_c42
  refine r_aload_n C 0 dX8_wordAmong_42 rfl rfl ?_
  refine r_callV C [rf G 51] dX8_wordAmong_43 (t_X8_refuse_51 C.h1 C.h2 d) mw_X8_85 mv_X8_refuse la_51 ly_51 rfl (by decide) (by decide) (by decide) rfl rfl (Nat.le_of_ble_eq_true rfl) (fun r1 d2 => ?_)
  show SS G X 4 _ _ 46 [(0, rf G 51)] [] d2 _
  refine r_iconst C dX8_wordAmong_46 ?_
  exact r_iret C dX8_wordAmong_47 (by decide) (by decide)
set_option maxRecDepth 100000 in
theorem t_X8_wordAmong_51 {G : G9} {l : Launch} (h1 : va_D (A9 G) (wl G (fun _ _ => 0))) (h2 : l.stackTraces = false) (p1 p2 : Int) (d : D9) : MT G l yX8_wordAmong cX8_wordAmong 4 z_X8_wordAmong_51 [rf G 51, i9 p1, i9 p2] d (m_X8_wordAmong_51 p1 p2 d) := by
  refine mt_of (own := RX8) (by decide) rfl (Nat.le_of_ble_eq_true rfl) h1 h2 [(0, rf G 51), (1, i9 p1), (2, i9 p2)] rfl (fun X hX C => ?_)
  unfold m_X8_wordAmong_51
  refine r_aload_n C 0 dX8_wordAmong_0 rfl rfl ?_
  refine r_getI C dX8_wordAmong_1 fl_X8_34 la_51 ly_51 rfl ?_
  refine r_if_ne C (b := 0) 42 dX8_wordAmong_4 (by decide) (fun _ => ?_) (fun _ => ?_)
  · refine ss_wide (k' := 0) (n' := 0) (by decide) (by decide) ?_
    refine ss_ls [(0, rf G 51)] [0] rfl ?_
    exact s_X8_wordAmong_51_c42 C   d
  · refine r_aload_n C 0 dX8_wordAmong_7 rfl rfl ?_
    refine r_getI C dX8_wordAmong_8 fl_X8_40 la_51 ly_51 rfl ?_
    refine r_iconst C dX8_wordAmong_11 ?_
    refine r_icmp_ne C 42 dX8_wordAmong_12 (by decide) (fun _ => ?_) (fun _ => ?_)
    · refine ss_wide (k' := 0) (n' := 0) (by decide) (by decide) ?_
      refine ss_ls [(0, rf G 51)] [0] rfl ?_
      exact s_X8_wordAmong_51_c42 C   d
    · refine r_aload_n C 0 dX8_wordAmong_15 rfl rfl ?_
      refine r_getI C dX8_wordAmong_16 fl_X8_54 la_51 ly_51 rfl ?_
      refine r_iload_n C 1 dX8_wordAmong_19 rfl rfl ?_
      refine r_icmp_lt C 42 dX8_wordAmong_20 (by decide) (fun _ => ?_) (fun _ => ?_)
      · refine ss_wide (k' := 0) (n' := 0) (by decide) (by decide) ?_
        refine ss_ls [(0, rf G 51)] [0] rfl ?_
        exact s_X8_wordAmong_51_c42 C   d
      · refine r_aload_n C 0 dX8_wordAmong_23 rfl rfl ?_
        refine r_getI C dX8_wordAmong_24 fl_X8_54 la_51 ly_51 rfl ?_
        refine r_iload_n C 2 dX8_wordAmong_27 rfl rfl ?_
        refine r_icmp_gt C 42 dX8_wordAmong_28 (by decide) (fun _ => ?_) (fun _ => ?_)
        · refine ss_wide (k' := 0) (n' := 0) (by decide) (by decide) ?_
          refine ss_ls [(0, rf G 51)] [0] rfl ?_
          exact s_X8_wordAmong_51_c42 C   d
        · refine r_aload_n C 0 dX8_wordAmong_31 rfl rfl ?_
          refine r_getI C dX8_wordAmong_32 fl_X8_54 la_51 ly_51 rfl ?_
          refine ss_lt (fun a1 => ?_)
          refine r_istore_n C [(3, i9 a1), (0, rf G 51), (1, i9 p1), (2, i9 p2)] dX8_wordAmong_35 rfl (by decide) rfl ?_
          refine r_aload_n C 1 dX8_wordAmong_36 rfl rfl ?_
          refine r_callV C [rf G 51] dX8_wordAmong_37 (t_X8_advance_51 C.h1 C.h2 d) mw_X8_37 mv_X8_advance la_51 ly_51 rfl (by decide) (by decide) (by decide) rfl rfl (Nat.le_of_ble_eq_true rfl) (fun r2 d3 => ?_)
          show SS G X 4 _ _ 40 [(3, i9 a1), (0, rf G 51), (1, i9 p1), (2, i9 p2)] [] d3 _
          refine r_iload_n C 0 dX8_wordAmong_40 rfl rfl ?_
          exact r_iret C dX8_wordAmong_41 (by decide) (by decide)
theorem dX8_firstWord_0 : decode cX8_firstWord 0 = .ok (.aload_n 0, 1) := by decide +kernel
theorem dX8_firstWord_1 : decode cX8_firstWord 1 = .ok (.getfield 40, 3) := by decide +kernel
theorem dX8_firstWord_4 : decode cX8_firstWord 4 = .ok (.iconst 2, 1) := by decide +kernel
theorem dX8_firstWord_5 : decode cX8_firstWord 5 = .ok (.if_icmp .ne 23, 3) := by decide +kernel
theorem dX8_firstWord_8 : decode cX8_firstWord 8 = .ok (.aload_n 0, 1) := by decide +kernel
theorem dX8_firstWord_9 : decode cX8_firstWord 9 = .ok (.getfield 54, 3) := by decide +kernel
theorem dX8_firstWord_12 : decode cX8_firstWord 12 = .ok (.iload_n 1, 1) := by decide +kernel
theorem dX8_firstWord_13 : decode cX8_firstWord 13 = .ok (.if_icmp .lt 15, 3) := by decide +kernel
theorem dX8_firstWord_16 : decode cX8_firstWord 16 = .ok (.aload_n 0, 1) := by decide +kernel
theorem dX8_firstWord_17 : decode cX8_firstWord 17 = .ok (.getfield 54, 3) := by decide +kernel
theorem dX8_firstWord_20 : decode cX8_firstWord 20 = .ok (.iload_n 2, 1) := by decide +kernel
theorem dX8_firstWord_21 : decode cX8_firstWord 21 = .ok (.if_icmp .gt 7, 3) := by decide +kernel
theorem dX8_firstWord_24 : decode cX8_firstWord 24 = .ok (.iconst 1, 1) := by decide +kernel
theorem dX8_firstWord_25 : decode cX8_firstWord 25 = .ok (.goto 4, 3) := by decide +kernel
theorem dX8_firstWord_28 : decode cX8_firstWord 28 = .ok (.iconst 0, 1) := by decide +kernel
theorem dX8_firstWord_29 : decode cX8_firstWord 29 = .ok (.istore 4, 2) := by decide +kernel
theorem dX8_firstWord_31 : decode cX8_firstWord 31 = .ok (.iload 4, 2) := by decide +kernel
theorem dX8_firstWord_33 : decode cX8_firstWord 33 = .ok (.ifCond .eq 16, 3) := by decide +kernel
theorem dX8_firstWord_36 : decode cX8_firstWord 36 = .ok (.iload_n 3, 1) := by decide +kernel
theorem dX8_firstWord_37 : decode cX8_firstWord 37 = .ok (.bipush 12, 2) := by decide +kernel
theorem dX8_firstWord_39 : decode cX8_firstWord 39 = .ok (.if_icmp .lt 10, 3) := by decide +kernel
theorem dX8_firstWord_42 : decode cX8_firstWord 42 = .ok (.aload_n 0, 1) := by decide +kernel
theorem dX8_firstWord_43 : decode cX8_firstWord 43 = .ok (.iconst 4, 1) := by decide +kernel
theorem dX8_firstWord_44 : decode cX8_firstWord 44 = .ok (.invokevirtual 74, 3) := by decide +kernel
theorem dX8_firstWord_47 : decode cX8_firstWord 47 = .ok (.iconst (-1), 1) := by decide +kernel
theorem dX8_firstWord_48 : decode cX8_firstWord 48 = .ok (.ireturn, 1) := by decide +kernel
theorem dX8_firstWord_49 : decode cX8_firstWord 49 = .ok (.aload_n 0, 1) := by decide +kernel
theorem dX8_firstWord_50 : decode cX8_firstWord 50 = .ok (.iload_n 1, 1) := by decide +kernel
theorem dX8_firstWord_51 : decode cX8_firstWord 51 = .ok (.iload_n 2, 1) := by decide +kernel
theorem dX8_firstWord_52 : decode cX8_firstWord 52 = .ok (.invokevirtual 91, 3) := by decide +kernel
theorem dX8_firstWord_55 : decode cX8_firstWord 55 = .ok (.ireturn, 1) := by decide +kernel
abbrev z_X8_firstWord_51 : Z9 := (some .int, 1, 0, 0, 11, 318)
def m_X8_firstWord_51_c49 (v1 v2 : Int) (d : D9) : Option R9 := cl (m_X8_wordAmong_51 v1 v2 d) (fun r1 d2 => rt r1 d2)
def m_X8_firstWord_51_c29 (v1 v2 v3 s0 : Int) (d : D9) : Option R9 := if w32 s0 = 0 then m_X8_firstWord_51_c49  v1 v2 d else if w32 v3 < w32 12 then m_X8_firstWord_51_c49  v1 v2 d else cl (m_X8_fail_51 4 d) (fun r1 d2 => rt (-1) d2)
def m_X8_firstWord_51 (p1 p2 p3 : Int) (d : D9) : Option R9 := if w32 (d 51 7) ≠ w32 2 then m_X8_firstWord_51_c29  p1 p2 p3 0 d else if w32 (d 51 8) < w32 p1 then m_X8_firstWord_51_c29  p1 p2 p3 0 d else if w32 p2 < w32 (d 51 8) then m_X8_firstWord_51_c29  p1 p2 p3 0 d else m_X8_firstWord_51_c29  p1 p2 p3 1 d
set_option maxRecDepth 100000 in
theorem s_X8_firstWord_51_c49 {G : G9} {X : X9} (C : CX G X cX8_firstWord 5 RX8 [] z_X8_firstWord_51) : ∀ (v1 v2 : Int) (d : D9), SS G X 5 0 0 49 [(0, rf G 51), (1, i9 v1), (2, i9 v2)] [] d (m_X8_firstWord_51_c49  v1 v2 d) := by
  intro v1 v2 d
  unfold m_X8_firstWord_51_c49
  refine r_aload_n C 0 dX8_firstWord_49 rfl rfl ?_
  refine r_iload_n C 1 dX8_firstWord_50 rfl rfl ?_
  refine r_iload_n C 2 dX8_firstWord_51 rfl rfl ?_
  refine r_callV C [i9 v2, i9 v1, rf G 51] dX8_firstWord_52 (t_X8_wordAmong_51 C.h1 C.h2 v1 v2 d) mw_X8_91 mv_X8_wordAmong la_51 ly_51 rfl (by decide) (by decide) (by decide) rfl rfl (Nat.le_of_ble_eq_true rfl) (fun r1 d2 => ?_)
  show SS G X 5 _ _ 55 [(0, rf G 51), (1, i9 v1), (2, i9 v2)] [i9 r1] d2 _
  exact r_iret C dX8_firstWord_55 (by decide) (by decide)
set_option maxRecDepth 100000 in
theorem s_X8_firstWord_51_c29 {G : G9} {X : X9} (C : CX G X cX8_firstWord 5 RX8 [] z_X8_firstWord_51) : ∀ (v1 v2 v3 s0 : Int) (d : D9), SS G X 5 0 0 29 [(0, rf G 51), (1, i9 v1), (2, i9 v2), (3, i9 v3)] [i9 s0] d (m_X8_firstWord_51_c29  v1 v2 v3 s0 d) := by
  intro v1 v2 v3 s0 d
  unfold m_X8_firstWord_51_c29
  refine r_istore C [(4, i9 s0), (0, rf G 51), (1, i9 v1), (2, i9 v2), (3, i9 v3)] dX8_firstWord_29 (by decide) rfl ?_
  refine r_iload C 0 dX8_firstWord_31 rfl ?_
  refine r_if_eq C (b := 0) 49 dX8_firstWord_33 (by decide) (fun _ => ?_) (fun _ => ?_)
  · refine ss_wide (k' := 0) (n' := 0) (by decide) (by decide) ?_
    refine ss_ls [(0, rf G 51), (1, i9 v1), (2, i9 v2)] [1, 2, 3] rfl ?_
    exact s_X8_firstWord_51_c49 C  v1 v2 d
  · refine r_iload_n C 4 dX8_firstWord_36 rfl rfl ?_
    refine r_bipush C dX8_firstWord_37 rfl ?_
    refine r_icmp_lt C 49 dX8_firstWord_39 (by decide) (fun _ => ?_) (fun _ => ?_)
    · refine ss_wide (k' := 0) (n' := 0) (by decide) (by decide) ?_
      refine ss_ls [(0, rf G 51), (1, i9 v1), (2, i9 v2)] [1, 2, 3] rfl ?_
      exact s_X8_firstWord_51_c49 C  v1 v2 d
    · refine r_aload_n C 1 dX8_firstWord_42 rfl rfl ?_
      refine r_iconst C dX8_firstWord_43 ?_
      refine r_callV C [i9 4, rf G 51] dX8_firstWord_44 (t_X8_fail_51 C.h1 C.h2 4 d) mw_X8_74 mv_X8_fail la_51 ly_51 rfl (by decide) (by decide) (by decide) rfl rfl (Nat.le_of_ble_eq_true rfl) (fun r1 d2 => ?_)
      show SS G X 5 _ _ 47 [(4, i9 s0), (0, rf G 51), (1, i9 v1), (2, i9 v2), (3, i9 v3)] [] d2 _
      refine r_iconst C dX8_firstWord_47 ?_
      exact r_iret C dX8_firstWord_48 (by decide) (by decide)
set_option maxRecDepth 100000 in
theorem t_X8_firstWord_51 {G : G9} {l : Launch} (h1 : va_D (A9 G) (wl G (fun _ _ => 0))) (h2 : l.stackTraces = false) (p1 p2 p3 : Int) (d : D9) : MT G l yX8_firstWord cX8_firstWord 5 z_X8_firstWord_51 [rf G 51, i9 p1, i9 p2, i9 p3] d (m_X8_firstWord_51 p1 p2 p3 d) := by
  refine mt_of (own := RX8) (by decide) rfl (Nat.le_of_ble_eq_true rfl) h1 h2 [(0, rf G 51), (1, i9 p1), (2, i9 p2), (3, i9 p3)] rfl (fun X hX C => ?_)
  unfold m_X8_firstWord_51
  refine r_aload_n C 0 dX8_firstWord_0 rfl rfl ?_
  refine r_getI C dX8_firstWord_1 fl_X8_40 la_51 ly_51 rfl ?_
  refine r_iconst C dX8_firstWord_4 ?_
  refine r_icmp_ne C 28 dX8_firstWord_5 (by decide) (fun _ => ?_) (fun _ => ?_)
  · refine r_iconst C dX8_firstWord_28 ?_
    refine ss_wide (k' := 0) (n' := 0) (by decide) (by decide) ?_
    refine ss_ls [(0, rf G 51), (1, i9 p1), (2, i9 p2), (3, i9 p3)] [0, 1, 2, 3] rfl ?_
    exact s_X8_firstWord_51_c29 C  p1 p2 p3 0 d
  · refine r_aload_n C 0 dX8_firstWord_8 rfl rfl ?_
    refine r_getI C dX8_firstWord_9 fl_X8_54 la_51 ly_51 rfl ?_
    refine r_iload_n C 1 dX8_firstWord_12 rfl rfl ?_
    refine r_icmp_lt C 28 dX8_firstWord_13 (by decide) (fun _ => ?_) (fun _ => ?_)
    · refine r_iconst C dX8_firstWord_28 ?_
      refine ss_wide (k' := 0) (n' := 0) (by decide) (by decide) ?_
      refine ss_ls [(0, rf G 51), (1, i9 p1), (2, i9 p2), (3, i9 p3)] [0, 1, 2, 3] rfl ?_
      exact s_X8_firstWord_51_c29 C  p1 p2 p3 0 d
    · refine r_aload_n C 0 dX8_firstWord_16 rfl rfl ?_
      refine r_getI C dX8_firstWord_17 fl_X8_54 la_51 ly_51 rfl ?_
      refine r_iload_n C 2 dX8_firstWord_20 rfl rfl ?_
      refine r_icmp_gt C 28 dX8_firstWord_21 (by decide) (fun _ => ?_) (fun _ => ?_)
      · refine r_iconst C dX8_firstWord_28 ?_
        refine ss_wide (k' := 0) (n' := 0) (by decide) (by decide) ?_
        refine ss_ls [(0, rf G 51), (1, i9 p1), (2, i9 p2), (3, i9 p3)] [0, 1, 2, 3] rfl ?_
        exact s_X8_firstWord_51_c29 C  p1 p2 p3 0 d
      · refine r_iconst C dX8_firstWord_24 ?_
        refine r_goto C 29 dX8_firstWord_25 (by decide) ?_
        refine ss_wide (k' := 0) (n' := 0) (by decide) (by decide) ?_
        refine ss_ls [(0, rf G 51), (1, i9 p1), (2, i9 p2), (3, i9 p3)] [0, 1, 2, 3] rfl ?_
        exact s_X8_firstWord_51_c29 C  p1 p2 p3 1 d
theorem dX8_number_0 : decode cX8_number 0 = .ok (.aload_n 0, 1) := by decide +kernel
theorem dX8_number_1 : decode cX8_number 1 = .ok (.getfield 34, 3) := by decide +kernel
theorem dX8_number_4 : decode cX8_number 4 = .ok (.ifCond .eq 5, 3) := by decide +kernel
theorem dX8_number_7 : decode cX8_number 7 = .ok (.iload_n 1, 1) := by decide +kernel
theorem dX8_number_8 : decode cX8_number 8 = .ok (.ireturn, 1) := by decide +kernel
theorem dX8_number_9 : decode cX8_number 9 = .ok (.aload_n 0, 1) := by decide +kernel
theorem dX8_number_10 : decode cX8_number 10 = .ok (.getfield 40, 3) := by decide +kernel
theorem dX8_number_13 : decode cX8_number 13 = .ok (.iconst 3, 1) := by decide +kernel
theorem dX8_number_14 : decode cX8_number 14 = .ok (.if_icmp .eq 9, 3) := by decide +kernel
theorem dX8_number_17 : decode cX8_number 17 = .ok (.aload_n 0, 1) := by decide +kernel
theorem dX8_number_18 : decode cX8_number 18 = .ok (.invokevirtual 85, 3) := by decide +kernel
theorem dX8_number_21 : decode cX8_number 21 = .ok (.iload_n 1, 1) := by decide +kernel
theorem dX8_number_22 : decode cX8_number 22 = .ok (.ireturn, 1) := by decide +kernel
theorem dX8_number_23 : decode cX8_number 23 = .ok (.aload_n 0, 1) := by decide +kernel
theorem dX8_number_24 : decode cX8_number 24 = .ok (.getfield 54, 3) := by decide +kernel
theorem dX8_number_27 : decode cX8_number 27 = .ok (.iload_n 1, 1) := by decide +kernel
theorem dX8_number_28 : decode cX8_number 28 = .ok (.if_icmp .lt 11, 3) := by decide +kernel
theorem dX8_number_31 : decode cX8_number 31 = .ok (.aload_n 0, 1) := by decide +kernel
theorem dX8_number_32 : decode cX8_number 32 = .ok (.getfield 54, 3) := by decide +kernel
theorem dX8_number_35 : decode cX8_number 35 = .ok (.iload_n 2, 1) := by decide +kernel
theorem dX8_number_36 : decode cX8_number 36 = .ok (.if_icmp .le 10, 3) := by decide +kernel
theorem dX8_number_39 : decode cX8_number 39 = .ok (.aload_n 0, 1) := by decide +kernel
theorem dX8_number_40 : decode cX8_number 40 = .ok (.iconst 3, 1) := by decide +kernel
theorem dX8_number_41 : decode cX8_number 41 = .ok (.invokevirtual 74, 3) := by decide +kernel
theorem dX8_number_44 : decode cX8_number 44 = .ok (.iload_n 1, 1) := by decide +kernel
theorem dX8_number_45 : decode cX8_number 45 = .ok (.ireturn, 1) := by decide +kernel
theorem dX8_number_46 : decode cX8_number 46 = .ok (.aload_n 0, 1) := by decide +kernel
theorem dX8_number_47 : decode cX8_number 47 = .ok (.getfield 54, 3) := by decide +kernel
theorem dX8_number_50 : decode cX8_number 50 = .ok (.istore_n 3, 1) := by decide +kernel
theorem dX8_number_51 : decode cX8_number 51 = .ok (.aload_n 0, 1) := by decide +kernel
theorem dX8_number_52 : decode cX8_number 52 = .ok (.invokevirtual 37, 3) := by decide +kernel
theorem dX8_number_55 : decode cX8_number 55 = .ok (.iload_n 3, 1) := by decide +kernel
theorem dX8_number_56 : decode cX8_number 56 = .ok (.ireturn, 1) := by decide +kernel
abbrev z_X8_number_51 : Z9 := (some .int, 1, 0, 0, 10, 295)
def m_X8_number_51_c39 (v1 : Int) (d : D9) : Option R9 := cl (m_X8_fail_51 3 d) (fun r1 d2 => rt v1 d2)
def m_X8_number_51 (p1 p2 : Int) (d : D9) : Option R9 := if w32 (d 51 2) = 0 then if w32 (d 51 7) = w32 3 then if w32 (d 51 8) < w32 p1 then m_X8_number_51_c39  p1 d else if w32 (d 51 8) ≤ w32 p2 then lt9v (d 51 8) (fun a1 => cl (m_X8_advance_51 d) (fun r2 d3 => rt a1 d3)) else m_X8_number_51_c39  p1 d else cl (m_X8_refuse_51 d) (fun r4 d5 => rt p1 d5) else rt p1 d
set_option maxRecDepth 100000 in
theorem s_X8_number_51_c39 {G : G9} {X : X9} (C : CX G X cX8_number 4 RX8 [] z_X8_number_51) : ∀ (v1 : Int) (d : D9), SS G X 4 0 0 39 [(0, rf G 51), (1, i9 v1)] [] d (m_X8_number_51_c39  v1 d) := by
  intro v1 d
  unfold m_X8_number_51_c39
  refine r_aload_n C 0 dX8_number_39 rfl rfl ?_
  refine r_iconst C dX8_number_40 ?_
  refine r_callV C [i9 3, rf G 51] dX8_number_41 (t_X8_fail_51 C.h1 C.h2 3 d) mw_X8_74 mv_X8_fail la_51 ly_51 rfl (by decide) (by decide) (by decide) rfl rfl (Nat.le_of_ble_eq_true rfl) (fun r1 d2 => ?_)
  show SS G X 4 _ _ 44 [(0, rf G 51), (1, i9 v1)] [] d2 _
  refine r_iload_n C 1 dX8_number_44 rfl rfl ?_
  exact r_iret C dX8_number_45 (by decide) (by decide)
set_option maxRecDepth 100000 in
theorem t_X8_number_51 {G : G9} {l : Launch} (h1 : va_D (A9 G) (wl G (fun _ _ => 0))) (h2 : l.stackTraces = false) (p1 p2 : Int) (d : D9) : MT G l yX8_number cX8_number 4 z_X8_number_51 [rf G 51, i9 p1, i9 p2] d (m_X8_number_51 p1 p2 d) := by
  refine mt_of (own := RX8) (by decide) rfl (Nat.le_of_ble_eq_true rfl) h1 h2 [(0, rf G 51), (1, i9 p1), (2, i9 p2)] rfl (fun X hX C => ?_)
  unfold m_X8_number_51
  refine r_aload_n C 0 dX8_number_0 rfl rfl ?_
  refine r_getI C dX8_number_1 fl_X8_34 la_51 ly_51 rfl ?_
  refine r_if_eq C (b := 0) 9 dX8_number_4 (by decide) (fun _ => ?_) (fun _ => ?_)
  · refine r_aload_n C 0 dX8_number_9 rfl rfl ?_
    refine r_getI C dX8_number_10 fl_X8_40 la_51 ly_51 rfl ?_
    refine r_iconst C dX8_number_13 ?_
    refine r_icmp_eq C 23 dX8_number_14 (by decide) (fun _ => ?_) (fun _ => ?_)
    · refine r_aload_n C 0 dX8_number_23 rfl rfl ?_
      refine r_getI C dX8_number_24 fl_X8_54 la_51 ly_51 rfl ?_
      refine r_iload_n C 1 dX8_number_27 rfl rfl ?_
      refine r_icmp_lt C 39 dX8_number_28 (by decide) (fun _ => ?_) (fun _ => ?_)
      · refine ss_wide (k' := 0) (n' := 0) (by decide) (by decide) ?_
        refine ss_ls [(0, rf G 51), (1, i9 p1)] [0, 1] rfl ?_
        exact s_X8_number_51_c39 C  p1 d
      · refine r_aload_n C 0 dX8_number_31 rfl rfl ?_
        refine r_getI C dX8_number_32 fl_X8_54 la_51 ly_51 rfl ?_
        refine r_iload_n C 2 dX8_number_35 rfl rfl ?_
        refine r_icmp_le C 46 dX8_number_36 (by decide) (fun _ => ?_) (fun _ => ?_)
        · refine r_aload_n C 0 dX8_number_46 rfl rfl ?_
          refine r_getI C dX8_number_47 fl_X8_54 la_51 ly_51 rfl ?_
          refine ss_lt (fun a1 => ?_)
          refine r_istore_n C [(3, i9 a1), (0, rf G 51), (1, i9 p1), (2, i9 p2)] dX8_number_50 rfl (by decide) rfl ?_
          refine r_aload_n C 1 dX8_number_51 rfl rfl ?_
          refine r_callV C [rf G 51] dX8_number_52 (t_X8_advance_51 C.h1 C.h2 d) mw_X8_37 mv_X8_advance la_51 ly_51 rfl (by decide) (by decide) (by decide) rfl rfl (Nat.le_of_ble_eq_true rfl) (fun r2 d3 => ?_)
          show SS G X 4 _ _ 55 [(3, i9 a1), (0, rf G 51), (1, i9 p1), (2, i9 p2)] [] d3 _
          refine r_iload_n C 0 dX8_number_55 rfl rfl ?_
          exact r_iret C dX8_number_56 (by decide) (by decide)
        · refine ss_wide (k' := 0) (n' := 0) (by decide) (by decide) ?_
          refine ss_ls [(0, rf G 51), (1, i9 p1)] [0, 1] rfl ?_
          exact s_X8_number_51_c39 C  p1 d
    · refine r_aload_n C 0 dX8_number_17 rfl rfl ?_
      refine r_callV C [rf G 51] dX8_number_18 (t_X8_refuse_51 C.h1 C.h2 d) mw_X8_85 mv_X8_refuse la_51 ly_51 rfl (by decide) (by decide) (by decide) rfl rfl (Nat.le_of_ble_eq_true rfl) (fun r4 d5 => ?_)
      show SS G X 4 _ _ 21 [(0, rf G 51), (1, i9 p1), (2, i9 p2)] [] d5 _
      refine r_iload_n C 1 dX8_number_21 rfl rfl ?_
      exact r_iret C dX8_number_22 (by decide) (by decide)
  · refine r_iload_n C 1 dX8_number_7 rfl rfl ?_
    exact r_iret C dX8_number_8 (by decide) (by decide)
theorem dX8_isWord_0 : decode cX8_isWord 0 = .ok (.aload_n 0, 1) := by decide +kernel
theorem dX8_isWord_1 : decode cX8_isWord 1 = .ok (.getfield 34, 3) := by decide +kernel
theorem dX8_isWord_4 : decode cX8_isWord 4 = .ok (.ifCond .ne 23, 3) := by decide +kernel
theorem dX8_isWord_7 : decode cX8_isWord 7 = .ok (.aload_n 0, 1) := by decide +kernel
theorem dX8_isWord_8 : decode cX8_isWord 8 = .ok (.getfield 40, 3) := by decide +kernel
theorem dX8_isWord_11 : decode cX8_isWord 11 = .ok (.iconst 2, 1) := by decide +kernel
theorem dX8_isWord_12 : decode cX8_isWord 12 = .ok (.if_icmp .ne 15, 3) := by decide +kernel
theorem dX8_isWord_15 : decode cX8_isWord 15 = .ok (.aload_n 0, 1) := by decide +kernel
theorem dX8_isWord_16 : decode cX8_isWord 16 = .ok (.getfield 54, 3) := by decide +kernel
theorem dX8_isWord_19 : decode cX8_isWord 19 = .ok (.iload_n 1, 1) := by decide +kernel
theorem dX8_isWord_20 : decode cX8_isWord 20 = .ok (.if_icmp .ne 7, 3) := by decide +kernel
theorem dX8_isWord_23 : decode cX8_isWord 23 = .ok (.iconst 1, 1) := by decide +kernel
theorem dX8_isWord_24 : decode cX8_isWord 24 = .ok (.goto 4, 3) := by decide +kernel
theorem dX8_isWord_27 : decode cX8_isWord 27 = .ok (.iconst 0, 1) := by decide +kernel
theorem dX8_isWord_28 : decode cX8_isWord 28 = .ok (.ireturn, 1) := by decide +kernel
abbrev z_X8_isWord_51 : Z9 := (some .boolean, 1, 0, 0, 1, 0)
def m_X8_isWord_51 (p1 : Int) (d : D9) : Option R9 := if w32 (d 51 2) ≠ 0 then rt (0 % 2) d else if w32 (d 51 7) ≠ w32 2 then rt (0 % 2) d else if w32 (d 51 8) ≠ w32 p1 then rt (0 % 2) d else rt (1 % 2) d
set_option maxRecDepth 100000 in
theorem t_X8_isWord_51 {G : G9} {l : Launch} (h1 : va_D (A9 G) (wl G (fun _ _ => 0))) (h2 : l.stackTraces = false) (p1 : Int) (d : D9) : MT G l yX8_isWord cX8_isWord 2 z_X8_isWord_51 [rf G 51, i9 p1] d (m_X8_isWord_51 p1 d) := by
  refine mt_of (own := RX8) (by decide) rfl (Nat.le_of_ble_eq_true rfl) h1 h2 [(0, rf G 51), (1, i9 p1)] rfl (fun X hX C => ?_)
  unfold m_X8_isWord_51
  refine r_aload_n C 0 dX8_isWord_0 rfl rfl ?_
  refine r_getI C dX8_isWord_1 fl_X8_34 la_51 ly_51 rfl ?_
  refine r_if_ne C (b := 0) 27 dX8_isWord_4 (by decide) (fun _ => ?_) (fun _ => ?_)
  · refine r_iconst C dX8_isWord_27 ?_
    exact r_zret C dX8_isWord_28 (by decide) (by decide)
  · refine r_aload_n C 0 dX8_isWord_7 rfl rfl ?_
    refine r_getI C dX8_isWord_8 fl_X8_40 la_51 ly_51 rfl ?_
    refine r_iconst C dX8_isWord_11 ?_
    refine r_icmp_ne C 27 dX8_isWord_12 (by decide) (fun _ => ?_) (fun _ => ?_)
    · refine r_iconst C dX8_isWord_27 ?_
      exact r_zret C dX8_isWord_28 (by decide) (by decide)
    · refine r_aload_n C 0 dX8_isWord_15 rfl rfl ?_
      refine r_getI C dX8_isWord_16 fl_X8_54 la_51 ly_51 rfl ?_
      refine r_iload_n C 1 dX8_isWord_19 rfl rfl ?_
      refine r_icmp_ne C 27 dX8_isWord_20 (by decide) (fun _ => ?_) (fun _ => ?_)
      · refine r_iconst C dX8_isWord_27 ?_
        exact r_zret C dX8_isWord_28 (by decide) (by decide)
      · refine r_iconst C dX8_isWord_23 ?_
        refine r_goto C 28 dX8_isWord_24 (by decide) ?_
        exact r_zret C dX8_isWord_28 (by decide) (by decide)
theorem dX8_takeWord_0 : decode cX8_takeWord 0 = .ok (.aload_n 0, 1) := by decide +kernel
theorem dX8_takeWord_1 : decode cX8_takeWord 1 = .ok (.iload_n 1, 1) := by decide +kernel
theorem dX8_takeWord_2 : decode cX8_takeWord 2 = .ok (.invokevirtual 78, 3) := by decide +kernel
theorem dX8_takeWord_5 : decode cX8_takeWord 5 = .ok (.istore_n 2, 1) := by decide +kernel
theorem dX8_takeWord_6 : decode cX8_takeWord 6 = .ok (.iload_n 2, 1) := by decide +kernel
theorem dX8_takeWord_7 : decode cX8_takeWord 7 = .ok (.ifCond .eq 7, 3) := by decide +kernel
theorem dX8_takeWord_10 : decode cX8_takeWord 10 = .ok (.aload_n 0, 1) := by decide +kernel
theorem dX8_takeWord_11 : decode cX8_takeWord 11 = .ok (.invokevirtual 37, 3) := by decide +kernel
theorem dX8_takeWord_14 : decode cX8_takeWord 14 = .ok (.iload_n 2, 1) := by decide +kernel
theorem dX8_takeWord_15 : decode cX8_takeWord 15 = .ok (.ireturn, 1) := by decide +kernel
abbrev z_X8_takeWord_51 : Z9 := (some .boolean, 1, 0, 0, 10, 295)
def m_X8_takeWord_51 (p1 : Int) (d : D9) : Option R9 := cl (m_X8_isWord_51 p1 d) (fun r1 d2 => if w32 r1 = 0 then rt (r1 % 2) d2 else cl (m_X8_advance_51 d2) (fun r3 d4 => rt (r1 % 2) d4))
set_option maxRecDepth 100000 in
theorem t_X8_takeWord_51 {G : G9} {l : Launch} (h1 : va_D (A9 G) (wl G (fun _ _ => 0))) (h2 : l.stackTraces = false) (p1 : Int) (d : D9) : MT G l yX8_takeWord cX8_takeWord 3 z_X8_takeWord_51 [rf G 51, i9 p1] d (m_X8_takeWord_51 p1 d) := by
  refine mt_of (own := RX8) (by decide) rfl (Nat.le_of_ble_eq_true rfl) h1 h2 [(0, rf G 51), (1, i9 p1)] rfl (fun X hX C => ?_)
  unfold m_X8_takeWord_51
  refine r_aload_n C 0 dX8_takeWord_0 rfl rfl ?_
  refine r_iload_n C 1 dX8_takeWord_1 rfl rfl ?_
  refine r_callV C [i9 p1, rf G 51] dX8_takeWord_2 (t_X8_isWord_51 C.h1 C.h2 p1 d) mw_X8_78 mv_X8_isWord la_51 ly_51 rfl (by decide) (by decide) (by decide) rfl rfl (Nat.le_of_ble_eq_true rfl) (fun r1 d2 => ?_)
  show SS G X 3 _ _ 5 [(0, rf G 51), (1, i9 p1)] [i9 r1] d2 _
  refine r_istore_n C [(2, i9 r1), (0, rf G 51), (1, i9 p1)] dX8_takeWord_5 rfl (by decide) rfl ?_
  refine r_iload_n C 0 dX8_takeWord_6 rfl rfl ?_
  refine r_if_eq C (b := 0) 14 dX8_takeWord_7 (by decide) (fun _ => ?_) (fun _ => ?_)
  · refine r_iload_n C 0 dX8_takeWord_14 rfl rfl ?_
    exact r_zret C dX8_takeWord_15 (by decide) (by decide)
  · refine r_aload_n C 1 dX8_takeWord_10 rfl rfl ?_
    refine r_callV C [rf G 51] dX8_takeWord_11 (t_X8_advance_51 C.h1 C.h2 d2) mw_X8_37 mv_X8_advance la_51 ly_51 rfl (by decide) (by decide) (by decide) rfl rfl (Nat.le_of_ble_eq_true rfl) (fun r3 d4 => ?_)
    show SS G X 3 _ _ 14 [(2, i9 r1), (0, rf G 51), (1, i9 p1)] [] d4 _
    refine r_iload_n C 0 dX8_takeWord_14 rfl rfl ?_
    exact r_zret C dX8_takeWord_15 (by decide) (by decide)
theorem dX8_needWord_0 : decode cX8_needWord 0 = .ok (.aload_n 0, 1) := by decide +kernel
theorem dX8_needWord_1 : decode cX8_needWord 1 = .ok (.iload_n 1, 1) := by decide +kernel
theorem dX8_needWord_2 : decode cX8_needWord 2 = .ok (.invokevirtual 82, 3) := by decide +kernel
theorem dX8_needWord_5 : decode cX8_needWord 5 = .ok (.ifCond .ne 7, 3) := by decide +kernel
theorem dX8_needWord_8 : decode cX8_needWord 8 = .ok (.aload_n 0, 1) := by decide +kernel
theorem dX8_needWord_9 : decode cX8_needWord 9 = .ok (.invokevirtual 85, 3) := by decide +kernel
theorem dX8_needWord_12 : decode cX8_needWord 12 = .ok (.return_, 1) := by decide +kernel
abbrev z_X8_needWord_51 : Z9 := (none, 0, 0, 0, 11, 317)
def m_X8_needWord_51 (p1 : Int) (d : D9) : Option R9 := cl (m_X8_takeWord_51 p1 d) (fun r1 d2 => if w32 r1 ≠ 0 then rt 0 d2 else cl (m_X8_refuse_51 d2) (fun r3 d4 => rt 0 d4))
set_option maxRecDepth 100000 in
theorem t_X8_needWord_51 {G : G9} {l : Launch} (h1 : va_D (A9 G) (wl G (fun _ _ => 0))) (h2 : l.stackTraces = false) (p1 : Int) (d : D9) : MT G l yX8_needWord cX8_needWord 2 z_X8_needWord_51 [rf G 51, i9 p1] d (m_X8_needWord_51 p1 d) := by
  refine mt_of (own := RX8) (by decide) rfl (Nat.le_of_ble_eq_true rfl) h1 h2 [(0, rf G 51), (1, i9 p1)] rfl (fun X hX C => ?_)
  unfold m_X8_needWord_51
  refine r_aload_n C 0 dX8_needWord_0 rfl rfl ?_
  refine r_iload_n C 1 dX8_needWord_1 rfl rfl ?_
  refine r_callV C [i9 p1, rf G 51] dX8_needWord_2 (t_X8_takeWord_51 C.h1 C.h2 p1 d) mw_X8_82 mv_X8_takeWord la_51 ly_51 rfl (by decide) (by decide) (by decide) rfl rfl (Nat.le_of_ble_eq_true rfl) (fun r1 d2 => ?_)
  show SS G X 2 _ _ 5 [(0, rf G 51), (1, i9 p1)] [i9 r1] d2 _
  refine r_if_ne C (b := 0) 12 dX8_needWord_5 (by decide) (fun _ => ?_) (fun _ => ?_)
  · exact r_vret C dX8_needWord_12 (by decide) (by decide)
  · refine r_aload_n C 0 dX8_needWord_8 rfl rfl ?_
    refine r_callV C [rf G 51] dX8_needWord_9 (t_X8_refuse_51 C.h1 C.h2 d2) mw_X8_85 mv_X8_refuse la_51 ly_51 rfl (by decide) (by decide) (by decide) rfl rfl (Nat.le_of_ble_eq_true rfl) (fun r3 d4 => ?_)
    show SS G X 2 _ _ 12 [(0, rf G 51), (1, i9 p1)] [] d4 _
    exact r_vret C dX8_needWord_12 (by decide) (by decide)
theorem dX2_readLine_0 : decode cX2_readLine 0 = .ok (.iload_n 2, 1) := by decide +kernel
theorem dX2_readLine_1 : decode cX2_readLine 1 = .ok (.tableswitch 144 0 5 #[39, 53, 87, 102, 116, 130], 39) := by decide +kernel
theorem dX2_readLine_40 : decode cX2_readLine 40 = .ok (.aload_n 0, 1) := by decide +kernel
theorem dX2_readLine_41 : decode cX2_readLine 41 = .ok (.aload_n 1, 1) := by decide +kernel
theorem dX2_readLine_42 : decode cX2_readLine 42 = .ok (.iconst 1, 1) := by decide +kernel
theorem dX2_readLine_43 : decode cX2_readLine 43 = .ok (.bipush 99, 2) := by decide +kernel
theorem dX2_readLine_45 : decode cX2_readLine 45 = .ok (.invokevirtual 57, 3) := by decide +kernel
theorem dX2_readLine_48 : decode cX2_readLine 48 = .ok (.putfield 18, 3) := by decide +kernel
theorem dX2_readLine_51 : decode cX2_readLine 51 = .ok (.goto 94, 3) := by decide +kernel
theorem dX2_readLine_54 : decode cX2_readLine 54 = .ok (.aload_n 0, 1) := by decide +kernel
theorem dX2_readLine_55 : decode cX2_readLine 55 = .ok (.aload_n 1, 1) := by decide +kernel
theorem dX2_readLine_56 : decode cX2_readLine 56 = .ok (.iconst 0, 1) := by decide +kernel
theorem dX2_readLine_57 : decode cX2_readLine 57 = .ok (.bipush 99, 2) := by decide +kernel
theorem dX2_readLine_59 : decode cX2_readLine 59 = .ok (.invokevirtual 57, 3) := by decide +kernel
theorem dX2_readLine_62 : decode cX2_readLine 62 = .ok (.putfield 21, 3) := by decide +kernel
theorem dX2_readLine_65 : decode cX2_readLine 65 = .ok (.aload_n 1, 1) := by decide +kernel
theorem dX2_readLine_66 : decode cX2_readLine 66 = .ok (.bipush 6, 2) := by decide +kernel
theorem dX2_readLine_68 : decode cX2_readLine 68 = .ok (.invokevirtual 61, 3) := by decide +kernel
theorem dX2_readLine_71 : decode cX2_readLine 71 = .ok (.aload_n 0, 1) := by decide +kernel
theorem dX2_readLine_72 : decode cX2_readLine 72 = .ok (.aload_n 1, 1) := by decide +kernel
theorem dX2_readLine_73 : decode cX2_readLine 73 = .ok (.aload_n 0, 1) := by decide +kernel
theorem dX2_readLine_74 : decode cX2_readLine 74 = .ok (.getfield 21, 3) := by decide +kernel
theorem dX2_readLine_77 : decode cX2_readLine 77 = .ok (.bipush 99, 2) := by decide +kernel
theorem dX2_readLine_79 : decode cX2_readLine 79 = .ok (.invokevirtual 57, 3) := by decide +kernel
theorem dX2_readLine_82 : decode cX2_readLine 82 = .ok (.putfield 24, 3) := by decide +kernel
theorem dX2_readLine_85 : decode cX2_readLine 85 = .ok (.goto 60, 3) := by decide +kernel
theorem dX2_readLine_88 : decode cX2_readLine 88 = .ok (.aload_n 0, 1) := by decide +kernel
theorem dX2_readLine_89 : decode cX2_readLine 89 = .ok (.aload_n 1, 1) := by decide +kernel
theorem dX2_readLine_90 : decode cX2_readLine 90 = .ok (.iconst 0, 1) := by decide +kernel
theorem dX2_readLine_91 : decode cX2_readLine 91 = .ok (.sipush 999, 3) := by decide +kernel
theorem dX2_readLine_94 : decode cX2_readLine 94 = .ok (.invokevirtual 57, 3) := by decide +kernel
theorem dX2_readLine_97 : decode cX2_readLine 97 = .ok (.putfield 27, 3) := by decide +kernel
theorem dX2_readLine_100 : decode cX2_readLine 100 = .ok (.goto 45, 3) := by decide +kernel
theorem dX2_readLine_103 : decode cX2_readLine 103 = .ok (.aload_n 0, 1) := by decide +kernel
theorem dX2_readLine_104 : decode cX2_readLine 104 = .ok (.aload_n 1, 1) := by decide +kernel
theorem dX2_readLine_105 : decode cX2_readLine 105 = .ok (.iconst 0, 1) := by decide +kernel
theorem dX2_readLine_106 : decode cX2_readLine 106 = .ok (.bipush 50, 2) := by decide +kernel
theorem dX2_readLine_108 : decode cX2_readLine 108 = .ok (.invokevirtual 57, 3) := by decide +kernel
theorem dX2_readLine_111 : decode cX2_readLine 111 = .ok (.putfield 30, 3) := by decide +kernel
theorem dX2_readLine_114 : decode cX2_readLine 114 = .ok (.goto 31, 3) := by decide +kernel
theorem dX2_readLine_117 : decode cX2_readLine 117 = .ok (.aload_n 0, 1) := by decide +kernel
theorem dX2_readLine_118 : decode cX2_readLine 118 = .ok (.aload_n 1, 1) := by decide +kernel
theorem dX2_readLine_119 : decode cX2_readLine 119 = .ok (.iconst 1, 1) := by decide +kernel
theorem dX2_readLine_120 : decode cX2_readLine 120 = .ok (.bipush 99, 2) := by decide +kernel
theorem dX2_readLine_122 : decode cX2_readLine 122 = .ok (.invokevirtual 57, 3) := by decide +kernel
theorem dX2_readLine_125 : decode cX2_readLine 125 = .ok (.putfield 33, 3) := by decide +kernel
theorem dX2_readLine_128 : decode cX2_readLine 128 = .ok (.goto 17, 3) := by decide +kernel
theorem dX2_readLine_131 : decode cX2_readLine 131 = .ok (.aload_n 0, 1) := by decide +kernel
theorem dX2_readLine_132 : decode cX2_readLine 132 = .ok (.aload_n 1, 1) := by decide +kernel
theorem dX2_readLine_133 : decode cX2_readLine 133 = .ok (.iconst 0, 1) := by decide +kernel
theorem dX2_readLine_134 : decode cX2_readLine 134 = .ok (.bipush 50, 2) := by decide +kernel
theorem dX2_readLine_136 : decode cX2_readLine 136 = .ok (.invokevirtual 57, 3) := by decide +kernel
theorem dX2_readLine_139 : decode cX2_readLine 139 = .ok (.putfield 36, 3) := by decide +kernel
theorem dX2_readLine_142 : decode cX2_readLine 142 = .ok (.goto 3, 3) := by decide +kernel
theorem dX2_readLine_145 : decode cX2_readLine 145 = .ok (.return_, 1) := by decide +kernel
abbrev z_X2_readLine_40_51 : Z9 := (none, 0, 0, 0, 12, 338)
def m_X2_readLine_40_51 (p2 : Int) (d : D9) : Option R9 := if w32 p2 = 0 then cl (m_X8_number_51 1 99 d) (fun r2 d3 => pf d3 40 1 r2 (fun d4 => rt 0 d4)) else if w32 p2 = 1 then cl (m_X8_number_51 0 99 d) (fun r6 d7 => pf d7 40 2 r6 (fun d8 => cl (m_X8_needWord_51 6 d8) (fun r9 d10 => cl (m_X8_number_51 (d10 40 2) 99 d10) (fun r11 d12 => pf d12 40 3 r11 (fun d13 => rt 0 d13))))) else if w32 p2 = 2 then cl (m_X8_number_51 0 999 d) (fun r15 d16 => pf d16 40 4 r15 (fun d17 => rt 0 d17)) else if w32 p2 = 3 then cl (m_X8_number_51 0 50 d) (fun r19 d20 => pf d20 40 5 r19 (fun d21 => rt 0 d21)) else if w32 p2 = 4 then cl (m_X8_number_51 1 99 d) (fun r23 d24 => pf d24 40 6 r23 (fun d25 => rt 0 d25)) else if w32 p2 = 5 then cl (m_X8_number_51 0 50 d) (fun r27 d28 => pf d28 40 7 r27 (fun d29 => rt 0 d29)) else rt 0 d
set_option maxRecDepth 100000 in
theorem t_X2_readLine_40_51 {G : G9} {l : Launch} (h1 : va_D (A9 G) (wl G (fun _ _ => 0))) (h2 : l.stackTraces = false) (p2 : Int) (d : D9) : MT G l yX2_readLine cX2_readLine 3 z_X2_readLine_40_51 [rf G 40, rf G 51, i9 p2] d (m_X2_readLine_40_51 p2 d) := by
  refine mt_of (own := RX2) (by decide) rfl (Nat.le_of_ble_eq_true rfl) h1 h2 [(0, rf G 40), (1, rf G 51), (2, i9 p2)] rfl (fun X hX C => ?_)
  unfold m_X2_readLine_40_51
  refine r_iload_n C 2 dX2_readLine_0 rfl rfl ?_
  refine r_tsw C 0 0 40 dX2_readLine_1 (by decide) rfl (by decide) (fun _ => ?_) (fun h1 => ?_)
  · refine r_aload_n C 0 dX2_readLine_40 rfl rfl ?_
    refine r_aload_n C 1 dX2_readLine_41 rfl rfl ?_
    refine r_iconst C dX2_readLine_42 ?_
    refine r_bipush C dX2_readLine_43 rfl ?_
    refine r_callV C [i9 99, i9 1, rf G 51, rf G 40] dX2_readLine_45 (t_X8_number_51 C.h1 C.h2 1 99 d) mw_X2_57 mv_X8_number la_51 ly_51 rfl (by decide) (by decide) (by decide) rfl rfl (Nat.le_of_ble_eq_true rfl) (fun r2 d3 => ?_)
    show SS G X 3 _ _ 48 [(0, rf G 40), (1, rf G 51), (2, i9 p2)] [i9 r2, rf G 40] d3 _
    refine r_putI C dX2_readLine_48 fp_X2_18 la_40 ly_40 rfl (fun d4 => ?_)
    refine r_goto C 145 dX2_readLine_51 (by decide) ?_
    exact r_vret C dX2_readLine_145 (by decide) (by decide)
  refine r_tsw C 1 1 54 dX2_readLine_1 (by decide) rfl (by decide) (fun _ => ?_) (fun h5 => ?_)
  · refine r_aload_n C 0 dX2_readLine_54 rfl rfl ?_
    refine r_aload_n C 1 dX2_readLine_55 rfl rfl ?_
    refine r_iconst C dX2_readLine_56 ?_
    refine r_bipush C dX2_readLine_57 rfl ?_
    refine r_callV C [i9 99, i9 0, rf G 51, rf G 40] dX2_readLine_59 (t_X8_number_51 C.h1 C.h2 0 99 d) mw_X2_57 mv_X8_number la_51 ly_51 rfl (by decide) (by decide) (by decide) rfl rfl (Nat.le_of_ble_eq_true rfl) (fun r6 d7 => ?_)
    show SS G X 3 _ _ 62 [(0, rf G 40), (1, rf G 51), (2, i9 p2)] [i9 r6, rf G 40] d7 _
    refine r_putI C dX2_readLine_62 fp_X2_21 la_40 ly_40 rfl (fun d8 => ?_)
    refine r_aload_n C 1 dX2_readLine_65 rfl rfl ?_
    refine r_bipush C dX2_readLine_66 rfl ?_
    refine r_callV C [i9 6, rf G 51] dX2_readLine_68 (t_X8_needWord_51 C.h1 C.h2 6 d8) mw_X2_61 mv_X8_needWord la_51 ly_51 rfl (by decide) (by decide) (by decide) rfl rfl (Nat.le_of_ble_eq_true rfl) (fun r9 d10 => ?_)
    show SS G X 3 _ _ 71 [(0, rf G 40), (1, rf G 51), (2, i9 p2)] [] d10 _
    refine r_aload_n C 0 dX2_readLine_71 rfl rfl ?_
    refine r_aload_n C 1 dX2_readLine_72 rfl rfl ?_
    refine r_aload_n C 0 dX2_readLine_73 rfl rfl ?_
    refine r_getI C dX2_readLine_74 fl_X2_21 la_40 ly_40 rfl ?_
    refine r_bipush C dX2_readLine_77 rfl ?_
    refine r_callV C [i9 99, i9 (d10 40 2), rf G 51, rf G 40] dX2_readLine_79 (t_X8_number_51 C.h1 C.h2 (d10 40 2) 99 d10) mw_X2_57 mv_X8_number la_51 ly_51 rfl (by decide) (by decide) (by decide) rfl rfl (Nat.le_of_ble_eq_true rfl) (fun r11 d12 => ?_)
    show SS G X 3 _ _ 82 [(0, rf G 40), (1, rf G 51), (2, i9 p2)] [i9 r11, rf G 40] d12 _
    refine r_putI C dX2_readLine_82 fp_X2_24 la_40 ly_40 rfl (fun d13 => ?_)
    refine r_goto C 145 dX2_readLine_85 (by decide) ?_
    exact r_vret C dX2_readLine_145 (by decide) (by decide)
  refine r_tsw C 2 2 88 dX2_readLine_1 (by decide) rfl (by decide) (fun _ => ?_) (fun h14 => ?_)
  · refine r_aload_n C 0 dX2_readLine_88 rfl rfl ?_
    refine r_aload_n C 1 dX2_readLine_89 rfl rfl ?_
    refine r_iconst C dX2_readLine_90 ?_
    refine r_sipush C dX2_readLine_91 rfl ?_
    refine r_callV C [i9 999, i9 0, rf G 51, rf G 40] dX2_readLine_94 (t_X8_number_51 C.h1 C.h2 0 999 d) mw_X2_57 mv_X8_number la_51 ly_51 rfl (by decide) (by decide) (by decide) rfl rfl (Nat.le_of_ble_eq_true rfl) (fun r15 d16 => ?_)
    show SS G X 3 _ _ 97 [(0, rf G 40), (1, rf G 51), (2, i9 p2)] [i9 r15, rf G 40] d16 _
    refine r_putI C dX2_readLine_97 fp_X2_27 la_40 ly_40 rfl (fun d17 => ?_)
    refine r_goto C 145 dX2_readLine_100 (by decide) ?_
    exact r_vret C dX2_readLine_145 (by decide) (by decide)
  refine r_tsw C 3 3 103 dX2_readLine_1 (by decide) rfl (by decide) (fun _ => ?_) (fun h18 => ?_)
  · refine r_aload_n C 0 dX2_readLine_103 rfl rfl ?_
    refine r_aload_n C 1 dX2_readLine_104 rfl rfl ?_
    refine r_iconst C dX2_readLine_105 ?_
    refine r_bipush C dX2_readLine_106 rfl ?_
    refine r_callV C [i9 50, i9 0, rf G 51, rf G 40] dX2_readLine_108 (t_X8_number_51 C.h1 C.h2 0 50 d) mw_X2_57 mv_X8_number la_51 ly_51 rfl (by decide) (by decide) (by decide) rfl rfl (Nat.le_of_ble_eq_true rfl) (fun r19 d20 => ?_)
    show SS G X 3 _ _ 111 [(0, rf G 40), (1, rf G 51), (2, i9 p2)] [i9 r19, rf G 40] d20 _
    refine r_putI C dX2_readLine_111 fp_X2_30 la_40 ly_40 rfl (fun d21 => ?_)
    refine r_goto C 145 dX2_readLine_114 (by decide) ?_
    exact r_vret C dX2_readLine_145 (by decide) (by decide)
  refine r_tsw C 4 4 117 dX2_readLine_1 (by decide) rfl (by decide) (fun _ => ?_) (fun h22 => ?_)
  · refine r_aload_n C 0 dX2_readLine_117 rfl rfl ?_
    refine r_aload_n C 1 dX2_readLine_118 rfl rfl ?_
    refine r_iconst C dX2_readLine_119 ?_
    refine r_bipush C dX2_readLine_120 rfl ?_
    refine r_callV C [i9 99, i9 1, rf G 51, rf G 40] dX2_readLine_122 (t_X8_number_51 C.h1 C.h2 1 99 d) mw_X2_57 mv_X8_number la_51 ly_51 rfl (by decide) (by decide) (by decide) rfl rfl (Nat.le_of_ble_eq_true rfl) (fun r23 d24 => ?_)
    show SS G X 3 _ _ 125 [(0, rf G 40), (1, rf G 51), (2, i9 p2)] [i9 r23, rf G 40] d24 _
    refine r_putI C dX2_readLine_125 fp_X2_33 la_40 ly_40 rfl (fun d25 => ?_)
    refine r_goto C 145 dX2_readLine_128 (by decide) ?_
    exact r_vret C dX2_readLine_145 (by decide) (by decide)
  refine r_tsw C 5 5 131 dX2_readLine_1 (by decide) rfl (by decide) (fun _ => ?_) (fun h26 => ?_)
  · refine r_aload_n C 0 dX2_readLine_131 rfl rfl ?_
    refine r_aload_n C 1 dX2_readLine_132 rfl rfl ?_
    refine r_iconst C dX2_readLine_133 ?_
    refine r_bipush C dX2_readLine_134 rfl ?_
    refine r_callV C [i9 50, i9 0, rf G 51, rf G 40] dX2_readLine_136 (t_X8_number_51 C.h1 C.h2 0 50 d) mw_X2_57 mv_X8_number la_51 ly_51 rfl (by decide) (by decide) (by decide) rfl rfl (Nat.le_of_ble_eq_true rfl) (fun r27 d28 => ?_)
    show SS G X 3 _ _ 139 [(0, rf G 40), (1, rf G 51), (2, i9 p2)] [i9 r27, rf G 40] d28 _
    refine r_putI C dX2_readLine_139 fp_X2_36 la_40 ly_40 rfl (fun d29 => ?_)
    refine r_goto C 145 dX2_readLine_142 (by decide) ?_
    exact r_vret C dX2_readLine_145 (by decide) (by decide)
  refine r_tswd C 145 dX2_readLine_1 (by omega) (by decide) ?_
  exact r_vret C dX2_readLine_145 (by decide) (by decide)

abbrev z_X11_copyRow_124_25 : Z9 := (none, 0, 0, 0, 2, 200)
def m_X11_copyRow_124_25 (d : D9) : Option R9 := cp9 d 124 12 25 12 (min9 12 12) (fun d1 => rt 0 d1)
set_option maxRecDepth 100000 in
theorem t_X11_copyRow_124_25 {G : G9} {l : Launch} (h1 : va_D (A9 G) (wl G (fun _ _ => 0))) (h2 : l.stackTraces = false) (d : D9) : MT G l yX11_copyRow cX11_copyRow 2 z_X11_copyRow_124_25 [rf G 124, rf G 25] d (m_X11_copyRow_124_25  d) := by
  refine mt_of (own := RX11) (by decide) rfl (Nat.le_of_ble_eq_true rfl) h1 h2 [(0, rf G 124), (1, rf G 25)] rfl (fun X hX C => ?_)
  unfold m_X11_copyRow_124_25
  refine r_aload_n C 0 dX11_copyRow_0 rfl rfl ?_
  refine r_iconst C dX11_copyRow_1 ?_
  refine r_aload_n C 1 dX11_copyRow_2 rfl rfl ?_
  refine r_iconst C dX11_copyRow_3 ?_
  refine r_aload_n C 0 dX11_copyRow_4 rfl rfl ?_
  refine r_alen C dX11_copyRow_5 la_124 ly_124 ?_
  refine r_aload_n C 1 dX11_copyRow_6 rfl rfl ?_
  refine r_alen C dX11_copyRow_7 la_25 ly_25 ?_
  refine r_mmin C dX11_copyRow_8 mm_X11_465 ⟨Nat.le_of_ble_eq_true rfl, Nat.le_of_ble_eq_true rfl⟩ (by decide) (by decide) ?_
  refine r_acopy C dX11_copyRow_11 aw_X11_470 la_124 ly_124 la_25 ly_25 (by decide) (Nat.le_of_ble_eq_true rfl) (fun d1 => ?_)
  exact r_vret C dX11_copyRow_14 (by decide) (by decide)
theorem n_X11_copyRow_124_25 (d : D9) : NT9 (m_X11_copyRow_124_25  d) := by
  unfold m_X11_copyRow_124_25
  repeat (first | exact nt_rt | exact nt_none | apply nt_if | refine nt_cl ?_ (fun _ _ => ?_) | refine nt_cp9 (fun _ => ?_))
abbrev z_X11_copyRow_125_26 : Z9 := (none, 0, 0, 0, 2, 200)
def m_X11_copyRow_125_26 (d : D9) : Option R9 := cp9 d 125 12 26 12 (min9 12 12) (fun d1 => rt 0 d1)
set_option maxRecDepth 100000 in
theorem t_X11_copyRow_125_26 {G : G9} {l : Launch} (h1 : va_D (A9 G) (wl G (fun _ _ => 0))) (h2 : l.stackTraces = false) (d : D9) : MT G l yX11_copyRow cX11_copyRow 2 z_X11_copyRow_125_26 [rf G 125, rf G 26] d (m_X11_copyRow_125_26  d) := by
  refine mt_of (own := RX11) (by decide) rfl (Nat.le_of_ble_eq_true rfl) h1 h2 [(0, rf G 125), (1, rf G 26)] rfl (fun X hX C => ?_)
  unfold m_X11_copyRow_125_26
  refine r_aload_n C 0 dX11_copyRow_0 rfl rfl ?_
  refine r_iconst C dX11_copyRow_1 ?_
  refine r_aload_n C 1 dX11_copyRow_2 rfl rfl ?_
  refine r_iconst C dX11_copyRow_3 ?_
  refine r_aload_n C 0 dX11_copyRow_4 rfl rfl ?_
  refine r_alen C dX11_copyRow_5 la_125 ly_125 ?_
  refine r_aload_n C 1 dX11_copyRow_6 rfl rfl ?_
  refine r_alen C dX11_copyRow_7 la_26 ly_26 ?_
  refine r_mmin C dX11_copyRow_8 mm_X11_465 ⟨Nat.le_of_ble_eq_true rfl, Nat.le_of_ble_eq_true rfl⟩ (by decide) (by decide) ?_
  refine r_acopy C dX11_copyRow_11 aw_X11_470 la_125 ly_125 la_26 ly_26 (by decide) (Nat.le_of_ble_eq_true rfl) (fun d1 => ?_)
  exact r_vret C dX11_copyRow_14 (by decide) (by decide)
theorem n_X11_copyRow_125_26 (d : D9) : NT9 (m_X11_copyRow_125_26  d) := by
  unfold m_X11_copyRow_125_26
  repeat (first | exact nt_rt | exact nt_none | apply nt_if | refine nt_cl ?_ (fun _ _ => ?_) | refine nt_cp9 (fun _ => ?_))
abbrev z_X11_copyRow_126_27 : Z9 := (none, 0, 0, 0, 2, 200)
def m_X11_copyRow_126_27 (d : D9) : Option R9 := cp9 d 126 12 27 12 (min9 12 12) (fun d1 => rt 0 d1)
set_option maxRecDepth 100000 in
theorem t_X11_copyRow_126_27 {G : G9} {l : Launch} (h1 : va_D (A9 G) (wl G (fun _ _ => 0))) (h2 : l.stackTraces = false) (d : D9) : MT G l yX11_copyRow cX11_copyRow 2 z_X11_copyRow_126_27 [rf G 126, rf G 27] d (m_X11_copyRow_126_27  d) := by
  refine mt_of (own := RX11) (by decide) rfl (Nat.le_of_ble_eq_true rfl) h1 h2 [(0, rf G 126), (1, rf G 27)] rfl (fun X hX C => ?_)
  unfold m_X11_copyRow_126_27
  refine r_aload_n C 0 dX11_copyRow_0 rfl rfl ?_
  refine r_iconst C dX11_copyRow_1 ?_
  refine r_aload_n C 1 dX11_copyRow_2 rfl rfl ?_
  refine r_iconst C dX11_copyRow_3 ?_
  refine r_aload_n C 0 dX11_copyRow_4 rfl rfl ?_
  refine r_alen C dX11_copyRow_5 la_126 ly_126 ?_
  refine r_aload_n C 1 dX11_copyRow_6 rfl rfl ?_
  refine r_alen C dX11_copyRow_7 la_27 ly_27 ?_
  refine r_mmin C dX11_copyRow_8 mm_X11_465 ⟨Nat.le_of_ble_eq_true rfl, Nat.le_of_ble_eq_true rfl⟩ (by decide) (by decide) ?_
  refine r_acopy C dX11_copyRow_11 aw_X11_470 la_126 ly_126 la_27 ly_27 (by decide) (Nat.le_of_ble_eq_true rfl) (fun d1 => ?_)
  exact r_vret C dX11_copyRow_14 (by decide) (by decide)
theorem n_X11_copyRow_126_27 (d : D9) : NT9 (m_X11_copyRow_126_27  d) := by
  unfold m_X11_copyRow_126_27
  repeat (first | exact nt_rt | exact nt_none | apply nt_if | refine nt_cl ?_ (fun _ _ => ?_) | refine nt_cp9 (fun _ => ?_))
abbrev z_X7_copyFrom_23_122 : Z9 := (none, 0, 0, 0, 3, 221)
def m_X7_copyFrom_23_122 (d : D9) : Option R9 := pf d 23 0 (d 122 0) (fun d1 => cl (m_X11_copyRow_123_24 d1) (fun r2 d3 => cl (m_X11_copyRow_124_25 d3) (fun r4 d5 => cl (m_X11_copyRow_125_26 d5) (fun r6 d7 => cl (m_X11_copyRow_126_27 d7) (fun r8 d9 => rt 0 d9)))))
set_option maxRecDepth 100000 in
theorem t_X7_copyFrom_23_122 {G : G9} {l : Launch} (h1 : va_D (A9 G) (wl G (fun _ _ => 0))) (h2 : l.stackTraces = false) (d : D9) : MT G l yX7_copyFrom cX7_copyFrom 2 z_X7_copyFrom_23_122 [rf G 23, rf G 122] d (m_X7_copyFrom_23_122  d) := by
  refine mt_of (own := RX7) (by decide) rfl (Nat.le_of_ble_eq_true rfl) h1 h2 [(0, rf G 23), (1, rf G 122)] rfl (fun X hX C => ?_)
  unfold m_X7_copyFrom_23_122
  refine r_aload_n C 0 dX7_copyFrom_0 rfl rfl ?_
  refine r_aload_n C 1 dX7_copyFrom_1 rfl rfl ?_
  refine r_getI C dX7_copyFrom_2 fl_X7_24 la_122 ly_122 rfl ?_
  refine r_putI C dX7_copyFrom_5 fp_X7_24 la_23 ly_23 rfl (fun d1 => ?_)
  refine r_aload_n C 1 dX7_copyFrom_8 rfl rfl ?_
  refine r_getR C 123 dX7_copyFrom_9 fl_X7_9 la_122 ly_122 rfl rfl ?_
  refine r_aload_n C 0 dX7_copyFrom_12 rfl rfl ?_
  refine r_getR C 24 dX7_copyFrom_13 fl_X7_9 la_23 ly_23 rfl rfl ?_
  refine r_callN C [rf G 24, rf G 123] dX7_copyFrom_16 (t_X11_copyRow_123_24 C.h1 C.h2 d1) (n_X11_copyRow_123_24 d1) mn_X7_28 ms_X11_copyRow (by decide) (by decide) (by decide) rfl rfl (Nat.le_of_ble_eq_true rfl) (fun r2 d3 => ?_)
  show SS G X 2 _ _ 19 [(0, rf G 23), (1, rf G 122)] [] d3 _
  refine r_aload_n C 1 dX7_copyFrom_19 rfl rfl ?_
  refine r_getR C 124 dX7_copyFrom_20 fl_X7_15 la_122 ly_122 rfl rfl ?_
  refine r_aload_n C 0 dX7_copyFrom_23 rfl rfl ?_
  refine r_getR C 25 dX7_copyFrom_24 fl_X7_15 la_23 ly_23 rfl rfl ?_
  refine r_callN C [rf G 25, rf G 124] dX7_copyFrom_27 (t_X11_copyRow_124_25 C.h1 C.h2 d3) (n_X11_copyRow_124_25 d3) mn_X7_28 ms_X11_copyRow (by decide) (by decide) (by decide) rfl rfl (Nat.le_of_ble_eq_true rfl) (fun r4 d5 => ?_)
  show SS G X 2 _ _ 30 [(0, rf G 23), (1, rf G 122)] [] d5 _
  refine r_aload_n C 1 dX7_copyFrom_30 rfl rfl ?_
  refine r_getR C 125 dX7_copyFrom_31 fl_X7_18 la_122 ly_122 rfl rfl ?_
  refine r_aload_n C 0 dX7_copyFrom_34 rfl rfl ?_
  refine r_getR C 26 dX7_copyFrom_35 fl_X7_18 la_23 ly_23 rfl rfl ?_
  refine r_callN C [rf G 26, rf G 125] dX7_copyFrom_38 (t_X11_copyRow_125_26 C.h1 C.h2 d5) (n_X11_copyRow_125_26 d5) mn_X7_28 ms_X11_copyRow (by decide) (by decide) (by decide) rfl rfl (Nat.le_of_ble_eq_true rfl) (fun r6 d7 => ?_)
  show SS G X 2 _ _ 41 [(0, rf G 23), (1, rf G 122)] [] d7 _
  refine r_aload_n C 1 dX7_copyFrom_41 rfl rfl ?_
  refine r_getR C 126 dX7_copyFrom_42 fl_X7_21 la_122 ly_122 rfl rfl ?_
  refine r_aload_n C 0 dX7_copyFrom_45 rfl rfl ?_
  refine r_getR C 27 dX7_copyFrom_46 fl_X7_21 la_23 ly_23 rfl rfl ?_
  refine r_callN C [rf G 27, rf G 126] dX7_copyFrom_49 (t_X11_copyRow_126_27 C.h1 C.h2 d7) (n_X11_copyRow_126_27 d7) mn_X7_28 ms_X11_copyRow (by decide) (by decide) (by decide) rfl rfl (Nat.le_of_ble_eq_true rfl) (fun r8 d9 => ?_)
  show SS G X 2 _ _ 52 [(0, rf G 23), (1, rf G 122)] [] d9 _
  exact r_vret C dX7_copyFrom_52 (by decide) (by decide)
abbrev z_X11_copyRow_128_29 : Z9 := (none, 0, 0, 0, 2, 200)
def m_X11_copyRow_128_29 (d : D9) : Option R9 := cp9 d 128 12 29 12 (min9 12 12) (fun d1 => rt 0 d1)
set_option maxRecDepth 100000 in
theorem t_X11_copyRow_128_29 {G : G9} {l : Launch} (h1 : va_D (A9 G) (wl G (fun _ _ => 0))) (h2 : l.stackTraces = false) (d : D9) : MT G l yX11_copyRow cX11_copyRow 2 z_X11_copyRow_128_29 [rf G 128, rf G 29] d (m_X11_copyRow_128_29  d) := by
  refine mt_of (own := RX11) (by decide) rfl (Nat.le_of_ble_eq_true rfl) h1 h2 [(0, rf G 128), (1, rf G 29)] rfl (fun X hX C => ?_)
  unfold m_X11_copyRow_128_29
  refine r_aload_n C 0 dX11_copyRow_0 rfl rfl ?_
  refine r_iconst C dX11_copyRow_1 ?_
  refine r_aload_n C 1 dX11_copyRow_2 rfl rfl ?_
  refine r_iconst C dX11_copyRow_3 ?_
  refine r_aload_n C 0 dX11_copyRow_4 rfl rfl ?_
  refine r_alen C dX11_copyRow_5 la_128 ly_128 ?_
  refine r_aload_n C 1 dX11_copyRow_6 rfl rfl ?_
  refine r_alen C dX11_copyRow_7 la_29 ly_29 ?_
  refine r_mmin C dX11_copyRow_8 mm_X11_465 ⟨Nat.le_of_ble_eq_true rfl, Nat.le_of_ble_eq_true rfl⟩ (by decide) (by decide) ?_
  refine r_acopy C dX11_copyRow_11 aw_X11_470 la_128 ly_128 la_29 ly_29 (by decide) (Nat.le_of_ble_eq_true rfl) (fun d1 => ?_)
  exact r_vret C dX11_copyRow_14 (by decide) (by decide)
theorem n_X11_copyRow_128_29 (d : D9) : NT9 (m_X11_copyRow_128_29  d) := by
  unfold m_X11_copyRow_128_29
  repeat (first | exact nt_rt | exact nt_none | apply nt_if | refine nt_cl ?_ (fun _ _ => ?_) | refine nt_cp9 (fun _ => ?_))
abbrev z_X11_copyRow_129_30 : Z9 := (none, 0, 0, 0, 2, 200)
def m_X11_copyRow_129_30 (d : D9) : Option R9 := cp9 d 129 12 30 12 (min9 12 12) (fun d1 => rt 0 d1)
set_option maxRecDepth 100000 in
theorem t_X11_copyRow_129_30 {G : G9} {l : Launch} (h1 : va_D (A9 G) (wl G (fun _ _ => 0))) (h2 : l.stackTraces = false) (d : D9) : MT G l yX11_copyRow cX11_copyRow 2 z_X11_copyRow_129_30 [rf G 129, rf G 30] d (m_X11_copyRow_129_30  d) := by
  refine mt_of (own := RX11) (by decide) rfl (Nat.le_of_ble_eq_true rfl) h1 h2 [(0, rf G 129), (1, rf G 30)] rfl (fun X hX C => ?_)
  unfold m_X11_copyRow_129_30
  refine r_aload_n C 0 dX11_copyRow_0 rfl rfl ?_
  refine r_iconst C dX11_copyRow_1 ?_
  refine r_aload_n C 1 dX11_copyRow_2 rfl rfl ?_
  refine r_iconst C dX11_copyRow_3 ?_
  refine r_aload_n C 0 dX11_copyRow_4 rfl rfl ?_
  refine r_alen C dX11_copyRow_5 la_129 ly_129 ?_
  refine r_aload_n C 1 dX11_copyRow_6 rfl rfl ?_
  refine r_alen C dX11_copyRow_7 la_30 ly_30 ?_
  refine r_mmin C dX11_copyRow_8 mm_X11_465 ⟨Nat.le_of_ble_eq_true rfl, Nat.le_of_ble_eq_true rfl⟩ (by decide) (by decide) ?_
  refine r_acopy C dX11_copyRow_11 aw_X11_470 la_129 ly_129 la_30 ly_30 (by decide) (Nat.le_of_ble_eq_true rfl) (fun d1 => ?_)
  exact r_vret C dX11_copyRow_14 (by decide) (by decide)
theorem n_X11_copyRow_129_30 (d : D9) : NT9 (m_X11_copyRow_129_30  d) := by
  unfold m_X11_copyRow_129_30
  repeat (first | exact nt_rt | exact nt_none | apply nt_if | refine nt_cl ?_ (fun _ _ => ?_) | refine nt_cp9 (fun _ => ?_))
abbrev z_X11_copyRow_130_31 : Z9 := (none, 0, 0, 0, 2, 200)
def m_X11_copyRow_130_31 (d : D9) : Option R9 := cp9 d 130 12 31 12 (min9 12 12) (fun d1 => rt 0 d1)
set_option maxRecDepth 100000 in
theorem t_X11_copyRow_130_31 {G : G9} {l : Launch} (h1 : va_D (A9 G) (wl G (fun _ _ => 0))) (h2 : l.stackTraces = false) (d : D9) : MT G l yX11_copyRow cX11_copyRow 2 z_X11_copyRow_130_31 [rf G 130, rf G 31] d (m_X11_copyRow_130_31  d) := by
  refine mt_of (own := RX11) (by decide) rfl (Nat.le_of_ble_eq_true rfl) h1 h2 [(0, rf G 130), (1, rf G 31)] rfl (fun X hX C => ?_)
  unfold m_X11_copyRow_130_31
  refine r_aload_n C 0 dX11_copyRow_0 rfl rfl ?_
  refine r_iconst C dX11_copyRow_1 ?_
  refine r_aload_n C 1 dX11_copyRow_2 rfl rfl ?_
  refine r_iconst C dX11_copyRow_3 ?_
  refine r_aload_n C 0 dX11_copyRow_4 rfl rfl ?_
  refine r_alen C dX11_copyRow_5 la_130 ly_130 ?_
  refine r_aload_n C 1 dX11_copyRow_6 rfl rfl ?_
  refine r_alen C dX11_copyRow_7 la_31 ly_31 ?_
  refine r_mmin C dX11_copyRow_8 mm_X11_465 ⟨Nat.le_of_ble_eq_true rfl, Nat.le_of_ble_eq_true rfl⟩ (by decide) (by decide) ?_
  refine r_acopy C dX11_copyRow_11 aw_X11_470 la_130 ly_130 la_31 ly_31 (by decide) (Nat.le_of_ble_eq_true rfl) (fun d1 => ?_)
  exact r_vret C dX11_copyRow_14 (by decide) (by decide)
theorem n_X11_copyRow_130_31 (d : D9) : NT9 (m_X11_copyRow_130_31  d) := by
  unfold m_X11_copyRow_130_31
  repeat (first | exact nt_rt | exact nt_none | apply nt_if | refine nt_cl ?_ (fun _ _ => ?_) | refine nt_cp9 (fun _ => ?_))
abbrev z_X11_copyRow_131_32 : Z9 := (none, 0, 0, 0, 2, 200)
def m_X11_copyRow_131_32 (d : D9) : Option R9 := cp9 d 131 400 32 400 (min9 400 400) (fun d1 => rt 0 d1)
set_option maxRecDepth 100000 in
theorem t_X11_copyRow_131_32 {G : G9} {l : Launch} (h1 : va_D (A9 G) (wl G (fun _ _ => 0))) (h2 : l.stackTraces = false) (d : D9) : MT G l yX11_copyRow cX11_copyRow 2 z_X11_copyRow_131_32 [rf G 131, rf G 32] d (m_X11_copyRow_131_32  d) := by
  refine mt_of (own := RX11) (by decide) rfl (Nat.le_of_ble_eq_true rfl) h1 h2 [(0, rf G 131), (1, rf G 32)] rfl (fun X hX C => ?_)
  unfold m_X11_copyRow_131_32
  refine r_aload_n C 0 dX11_copyRow_0 rfl rfl ?_
  refine r_iconst C dX11_copyRow_1 ?_
  refine r_aload_n C 1 dX11_copyRow_2 rfl rfl ?_
  refine r_iconst C dX11_copyRow_3 ?_
  refine r_aload_n C 0 dX11_copyRow_4 rfl rfl ?_
  refine r_alen C dX11_copyRow_5 la_131 ly_131 ?_
  refine r_aload_n C 1 dX11_copyRow_6 rfl rfl ?_
  refine r_alen C dX11_copyRow_7 la_32 ly_32 ?_
  refine r_mmin C dX11_copyRow_8 mm_X11_465 ⟨Nat.le_of_ble_eq_true rfl, Nat.le_of_ble_eq_true rfl⟩ (by decide) (by decide) ?_
  refine r_acopy C dX11_copyRow_11 aw_X11_470 la_131 ly_131 la_32 ly_32 (by decide) (Nat.le_of_ble_eq_true rfl) (fun d1 => ?_)
  exact r_vret C dX11_copyRow_14 (by decide) (by decide)
theorem n_X11_copyRow_131_32 (d : D9) : NT9 (m_X11_copyRow_131_32  d) := by
  unfold m_X11_copyRow_131_32
  repeat (first | exact nt_rt | exact nt_none | apply nt_if | refine nt_cl ?_ (fun _ _ => ?_) | refine nt_cp9 (fun _ => ?_))
abbrev z_X4_copyFrom_28_127 : Z9 := (none, 0, 0, 0, 3, 221)
def m_X4_copyFrom_28_127 (d : D9) : Option R9 := pf d 28 0 (d 127 0) (fun d1 => pf d1 28 1 (d1 127 1) (fun d2 => cl (m_X11_copyRow_128_29 d2) (fun r3 d4 => cl (m_X11_copyRow_129_30 d4) (fun r5 d6 => cl (m_X11_copyRow_130_31 d6) (fun r7 d8 => cl (m_X11_copyRow_131_32 d8) (fun r9 d10 => rt 0 d10))))))
set_option maxRecDepth 100000 in
theorem t_X4_copyFrom_28_127 {G : G9} {l : Launch} (h1 : va_D (A9 G) (wl G (fun _ _ => 0))) (h2 : l.stackTraces = false) (d : D9) : MT G l yX4_copyFrom cX4_copyFrom 2 z_X4_copyFrom_28_127 [rf G 28, rf G 127] d (m_X4_copyFrom_28_127  d) := by
  refine mt_of (own := RX4) (by decide) rfl (Nat.le_of_ble_eq_true rfl) h1 h2 [(0, rf G 28), (1, rf G 127)] rfl (fun X hX C => ?_)
  unfold m_X4_copyFrom_28_127
  refine r_aload_n C 0 dX4_copyFrom_0 rfl rfl ?_
  refine r_aload_n C 1 dX4_copyFrom_1 rfl rfl ?_
  refine r_getI C dX4_copyFrom_2 fl_X4_24 la_127 ly_127 rfl ?_
  refine r_putI C dX4_copyFrom_5 fp_X4_24 la_28 ly_28 rfl (fun d1 => ?_)
  refine r_aload_n C 0 dX4_copyFrom_8 rfl rfl ?_
  refine r_aload_n C 1 dX4_copyFrom_9 rfl rfl ?_
  refine r_getI C dX4_copyFrom_10 fl_X4_28 la_127 ly_127 rfl ?_
  refine r_putI C dX4_copyFrom_13 fp_X4_28 la_28 ly_28 rfl (fun d2 => ?_)
  refine r_aload_n C 1 dX4_copyFrom_16 rfl rfl ?_
  refine r_getR C 128 dX4_copyFrom_17 fl_X4_9 la_127 ly_127 rfl rfl ?_
  refine r_aload_n C 0 dX4_copyFrom_20 rfl rfl ?_
  refine r_getR C 29 dX4_copyFrom_21 fl_X4_9 la_28 ly_28 rfl rfl ?_
  refine r_callN C [rf G 29, rf G 128] dX4_copyFrom_24 (t_X11_copyRow_128_29 C.h1 C.h2 d2) (n_X11_copyRow_128_29 d2) mn_X4_31 ms_X11_copyRow (by decide) (by decide) (by decide) rfl rfl (Nat.le_of_ble_eq_true rfl) (fun r3 d4 => ?_)
  show SS G X 2 _ _ 27 [(0, rf G 28), (1, rf G 127)] [] d4 _
  refine r_aload_n C 1 dX4_copyFrom_27 rfl rfl ?_
  refine r_getR C 129 dX4_copyFrom_28 fl_X4_15 la_127 ly_127 rfl rfl ?_
  refine r_aload_n C 0 dX4_copyFrom_31 rfl rfl ?_
  refine r_getR C 30 dX4_copyFrom_32 fl_X4_15 la_28 ly_28 rfl rfl ?_
  refine r_callN C [rf G 30, rf G 129] dX4_copyFrom_35 (t_X11_copyRow_129_30 C.h1 C.h2 d4) (n_X11_copyRow_129_30 d4) mn_X4_31 ms_X11_copyRow (by decide) (by decide) (by decide) rfl rfl (Nat.le_of_ble_eq_true rfl) (fun r5 d6 => ?_)
  show SS G X 2 _ _ 38 [(0, rf G 28), (1, rf G 127)] [] d6 _
  refine r_aload_n C 1 dX4_copyFrom_38 rfl rfl ?_
  refine r_getR C 130 dX4_copyFrom_39 fl_X4_18 la_127 ly_127 rfl rfl ?_
  refine r_aload_n C 0 dX4_copyFrom_42 rfl rfl ?_
  refine r_getR C 31 dX4_copyFrom_43 fl_X4_18 la_28 ly_28 rfl rfl ?_
  refine r_callN C [rf G 31, rf G 130] dX4_copyFrom_46 (t_X11_copyRow_130_31 C.h1 C.h2 d6) (n_X11_copyRow_130_31 d6) mn_X4_31 ms_X11_copyRow (by decide) (by decide) (by decide) rfl rfl (Nat.le_of_ble_eq_true rfl) (fun r7 d8 => ?_)
  show SS G X 2 _ _ 49 [(0, rf G 28), (1, rf G 127)] [] d8 _
  refine r_aload_n C 1 dX4_copyFrom_49 rfl rfl ?_
  refine r_getR C 131 dX4_copyFrom_50 fl_X4_21 la_127 ly_127 rfl rfl ?_
  refine r_aload_n C 0 dX4_copyFrom_53 rfl rfl ?_
  refine r_getR C 32 dX4_copyFrom_54 fl_X4_21 la_28 ly_28 rfl rfl ?_
  refine r_callN C [rf G 32, rf G 131] dX4_copyFrom_57 (t_X11_copyRow_131_32 C.h1 C.h2 d8) (n_X11_copyRow_131_32 d8) mn_X4_31 ms_X11_copyRow (by decide) (by decide) (by decide) rfl rfl (Nat.le_of_ble_eq_true rfl) (fun r9 d10 => ?_)
  show SS G X 2 _ _ 60 [(0, rf G 28), (1, rf G 127)] [] d10 _
  exact r_vret C dX4_copyFrom_60 (by decide) (by decide)
abbrev z_X11_copyRow_133_34 : Z9 := (none, 0, 0, 0, 2, 200)
def m_X11_copyRow_133_34 (d : D9) : Option R9 := cp9 d 133 40 34 40 (min9 40 40) (fun d1 => rt 0 d1)
set_option maxRecDepth 100000 in
theorem t_X11_copyRow_133_34 {G : G9} {l : Launch} (h1 : va_D (A9 G) (wl G (fun _ _ => 0))) (h2 : l.stackTraces = false) (d : D9) : MT G l yX11_copyRow cX11_copyRow 2 z_X11_copyRow_133_34 [rf G 133, rf G 34] d (m_X11_copyRow_133_34  d) := by
  refine mt_of (own := RX11) (by decide) rfl (Nat.le_of_ble_eq_true rfl) h1 h2 [(0, rf G 133), (1, rf G 34)] rfl (fun X hX C => ?_)
  unfold m_X11_copyRow_133_34
  refine r_aload_n C 0 dX11_copyRow_0 rfl rfl ?_
  refine r_iconst C dX11_copyRow_1 ?_
  refine r_aload_n C 1 dX11_copyRow_2 rfl rfl ?_
  refine r_iconst C dX11_copyRow_3 ?_
  refine r_aload_n C 0 dX11_copyRow_4 rfl rfl ?_
  refine r_alen C dX11_copyRow_5 la_133 ly_133 ?_
  refine r_aload_n C 1 dX11_copyRow_6 rfl rfl ?_
  refine r_alen C dX11_copyRow_7 la_34 ly_34 ?_
  refine r_mmin C dX11_copyRow_8 mm_X11_465 ⟨Nat.le_of_ble_eq_true rfl, Nat.le_of_ble_eq_true rfl⟩ (by decide) (by decide) ?_
  refine r_acopy C dX11_copyRow_11 aw_X11_470 la_133 ly_133 la_34 ly_34 (by decide) (Nat.le_of_ble_eq_true rfl) (fun d1 => ?_)
  exact r_vret C dX11_copyRow_14 (by decide) (by decide)
theorem n_X11_copyRow_133_34 (d : D9) : NT9 (m_X11_copyRow_133_34  d) := by
  unfold m_X11_copyRow_133_34
  repeat (first | exact nt_rt | exact nt_none | apply nt_if | refine nt_cl ?_ (fun _ _ => ?_) | refine nt_cp9 (fun _ => ?_))
abbrev z_X11_copyRow_134_35 : Z9 := (none, 0, 0, 0, 2, 200)
def m_X11_copyRow_134_35 (d : D9) : Option R9 := cp9 d 134 200 35 200 (min9 200 200) (fun d1 => rt 0 d1)
set_option maxRecDepth 100000 in
theorem t_X11_copyRow_134_35 {G : G9} {l : Launch} (h1 : va_D (A9 G) (wl G (fun _ _ => 0))) (h2 : l.stackTraces = false) (d : D9) : MT G l yX11_copyRow cX11_copyRow 2 z_X11_copyRow_134_35 [rf G 134, rf G 35] d (m_X11_copyRow_134_35  d) := by
  refine mt_of (own := RX11) (by decide) rfl (Nat.le_of_ble_eq_true rfl) h1 h2 [(0, rf G 134), (1, rf G 35)] rfl (fun X hX C => ?_)
  unfold m_X11_copyRow_134_35
  refine r_aload_n C 0 dX11_copyRow_0 rfl rfl ?_
  refine r_iconst C dX11_copyRow_1 ?_
  refine r_aload_n C 1 dX11_copyRow_2 rfl rfl ?_
  refine r_iconst C dX11_copyRow_3 ?_
  refine r_aload_n C 0 dX11_copyRow_4 rfl rfl ?_
  refine r_alen C dX11_copyRow_5 la_134 ly_134 ?_
  refine r_aload_n C 1 dX11_copyRow_6 rfl rfl ?_
  refine r_alen C dX11_copyRow_7 la_35 ly_35 ?_
  refine r_mmin C dX11_copyRow_8 mm_X11_465 ⟨Nat.le_of_ble_eq_true rfl, Nat.le_of_ble_eq_true rfl⟩ (by decide) (by decide) ?_
  refine r_acopy C dX11_copyRow_11 aw_X11_470 la_134 ly_134 la_35 ly_35 (by decide) (Nat.le_of_ble_eq_true rfl) (fun d1 => ?_)
  exact r_vret C dX11_copyRow_14 (by decide) (by decide)
theorem n_X11_copyRow_134_35 (d : D9) : NT9 (m_X11_copyRow_134_35  d) := by
  unfold m_X11_copyRow_134_35
  repeat (first | exact nt_rt | exact nt_none | apply nt_if | refine nt_cl ?_ (fun _ _ => ?_) | refine nt_cp9 (fun _ => ?_))
abbrev z_X11_copyRow_135_36 : Z9 := (none, 0, 0, 0, 2, 200)
def m_X11_copyRow_135_36 (d : D9) : Option R9 := cp9 d 135 5 36 5 (min9 5 5) (fun d1 => rt 0 d1)
set_option maxRecDepth 100000 in
theorem t_X11_copyRow_135_36 {G : G9} {l : Launch} (h1 : va_D (A9 G) (wl G (fun _ _ => 0))) (h2 : l.stackTraces = false) (d : D9) : MT G l yX11_copyRow cX11_copyRow 2 z_X11_copyRow_135_36 [rf G 135, rf G 36] d (m_X11_copyRow_135_36  d) := by
  refine mt_of (own := RX11) (by decide) rfl (Nat.le_of_ble_eq_true rfl) h1 h2 [(0, rf G 135), (1, rf G 36)] rfl (fun X hX C => ?_)
  unfold m_X11_copyRow_135_36
  refine r_aload_n C 0 dX11_copyRow_0 rfl rfl ?_
  refine r_iconst C dX11_copyRow_1 ?_
  refine r_aload_n C 1 dX11_copyRow_2 rfl rfl ?_
  refine r_iconst C dX11_copyRow_3 ?_
  refine r_aload_n C 0 dX11_copyRow_4 rfl rfl ?_
  refine r_alen C dX11_copyRow_5 la_135 ly_135 ?_
  refine r_aload_n C 1 dX11_copyRow_6 rfl rfl ?_
  refine r_alen C dX11_copyRow_7 la_36 ly_36 ?_
  refine r_mmin C dX11_copyRow_8 mm_X11_465 ⟨Nat.le_of_ble_eq_true rfl, Nat.le_of_ble_eq_true rfl⟩ (by decide) (by decide) ?_
  refine r_acopy C dX11_copyRow_11 aw_X11_470 la_135 ly_135 la_36 ly_36 (by decide) (Nat.le_of_ble_eq_true rfl) (fun d1 => ?_)
  exact r_vret C dX11_copyRow_14 (by decide) (by decide)
theorem n_X11_copyRow_135_36 (d : D9) : NT9 (m_X11_copyRow_135_36  d) := by
  unfold m_X11_copyRow_135_36
  repeat (first | exact nt_rt | exact nt_none | apply nt_if | refine nt_cl ?_ (fun _ _ => ?_) | refine nt_cp9 (fun _ => ?_))
abbrev z_X11_copyRow_136_37 : Z9 := (none, 0, 0, 0, 2, 200)
def m_X11_copyRow_136_37 (d : D9) : Option R9 := cp9 d 136 5 37 5 (min9 5 5) (fun d1 => rt 0 d1)
set_option maxRecDepth 100000 in
theorem t_X11_copyRow_136_37 {G : G9} {l : Launch} (h1 : va_D (A9 G) (wl G (fun _ _ => 0))) (h2 : l.stackTraces = false) (d : D9) : MT G l yX11_copyRow cX11_copyRow 2 z_X11_copyRow_136_37 [rf G 136, rf G 37] d (m_X11_copyRow_136_37  d) := by
  refine mt_of (own := RX11) (by decide) rfl (Nat.le_of_ble_eq_true rfl) h1 h2 [(0, rf G 136), (1, rf G 37)] rfl (fun X hX C => ?_)
  unfold m_X11_copyRow_136_37
  refine r_aload_n C 0 dX11_copyRow_0 rfl rfl ?_
  refine r_iconst C dX11_copyRow_1 ?_
  refine r_aload_n C 1 dX11_copyRow_2 rfl rfl ?_
  refine r_iconst C dX11_copyRow_3 ?_
  refine r_aload_n C 0 dX11_copyRow_4 rfl rfl ?_
  refine r_alen C dX11_copyRow_5 la_136 ly_136 ?_
  refine r_aload_n C 1 dX11_copyRow_6 rfl rfl ?_
  refine r_alen C dX11_copyRow_7 la_37 ly_37 ?_
  refine r_mmin C dX11_copyRow_8 mm_X11_465 ⟨Nat.le_of_ble_eq_true rfl, Nat.le_of_ble_eq_true rfl⟩ (by decide) (by decide) ?_
  refine r_acopy C dX11_copyRow_11 aw_X11_470 la_136 ly_136 la_37 ly_37 (by decide) (Nat.le_of_ble_eq_true rfl) (fun d1 => ?_)
  exact r_vret C dX11_copyRow_14 (by decide) (by decide)
theorem n_X11_copyRow_136_37 (d : D9) : NT9 (m_X11_copyRow_136_37  d) := by
  unfold m_X11_copyRow_136_37
  repeat (first | exact nt_rt | exact nt_none | apply nt_if | refine nt_cl ?_ (fun _ _ => ?_) | refine nt_cp9 (fun _ => ?_))
abbrev z_X1_copyFrom_33_132 : Z9 := (none, 0, 0, 0, 3, 221)
def m_X1_copyFrom_33_132 (d : D9) : Option R9 := pf d 33 0 (d 132 0) (fun d1 => cl (m_X11_copyRow_133_34 d1) (fun r2 d3 => cl (m_X11_copyRow_134_35 d3) (fun r4 d5 => cl (m_X11_copyRow_135_36 d5) (fun r6 d7 => cl (m_X11_copyRow_136_37 d7) (fun r8 d9 => rt 0 d9)))))
set_option maxRecDepth 100000 in
theorem t_X1_copyFrom_33_132 {G : G9} {l : Launch} (h1 : va_D (A9 G) (wl G (fun _ _ => 0))) (h2 : l.stackTraces = false) (d : D9) : MT G l yX1_copyFrom cX1_copyFrom 2 z_X1_copyFrom_33_132 [rf G 33, rf G 132] d (m_X1_copyFrom_33_132  d) := by
  refine mt_of (own := RX1) (by decide) rfl (Nat.le_of_ble_eq_true rfl) h1 h2 [(0, rf G 33), (1, rf G 132)] rfl (fun X hX C => ?_)
  unfold m_X1_copyFrom_33_132
  refine r_aload_n C 0 dX1_copyFrom_0 rfl rfl ?_
  refine r_aload_n C 1 dX1_copyFrom_1 rfl rfl ?_
  refine r_getI C dX1_copyFrom_2 fl_X1_24 la_132 ly_132 rfl ?_
  refine r_putI C dX1_copyFrom_5 fp_X1_24 la_33 ly_33 rfl (fun d1 => ?_)
  refine r_aload_n C 1 dX1_copyFrom_8 rfl rfl ?_
  refine r_getR C 133 dX1_copyFrom_9 fl_X1_9 la_132 ly_132 rfl rfl ?_
  refine r_aload_n C 0 dX1_copyFrom_12 rfl rfl ?_
  refine r_getR C 34 dX1_copyFrom_13 fl_X1_9 la_33 ly_33 rfl rfl ?_
  refine r_callN C [rf G 34, rf G 133] dX1_copyFrom_16 (t_X11_copyRow_133_34 C.h1 C.h2 d1) (n_X11_copyRow_133_34 d1) mn_X1_28 ms_X11_copyRow (by decide) (by decide) (by decide) rfl rfl (Nat.le_of_ble_eq_true rfl) (fun r2 d3 => ?_)
  show SS G X 2 _ _ 19 [(0, rf G 33), (1, rf G 132)] [] d3 _
  refine r_aload_n C 1 dX1_copyFrom_19 rfl rfl ?_
  refine r_getR C 134 dX1_copyFrom_20 fl_X1_15 la_132 ly_132 rfl rfl ?_
  refine r_aload_n C 0 dX1_copyFrom_23 rfl rfl ?_
  refine r_getR C 35 dX1_copyFrom_24 fl_X1_15 la_33 ly_33 rfl rfl ?_
  refine r_callN C [rf G 35, rf G 134] dX1_copyFrom_27 (t_X11_copyRow_134_35 C.h1 C.h2 d3) (n_X11_copyRow_134_35 d3) mn_X1_28 ms_X11_copyRow (by decide) (by decide) (by decide) rfl rfl (Nat.le_of_ble_eq_true rfl) (fun r4 d5 => ?_)
  show SS G X 2 _ _ 30 [(0, rf G 33), (1, rf G 132)] [] d5 _
  refine r_aload_n C 1 dX1_copyFrom_30 rfl rfl ?_
  refine r_getR C 135 dX1_copyFrom_31 fl_X1_18 la_132 ly_132 rfl rfl ?_
  refine r_aload_n C 0 dX1_copyFrom_34 rfl rfl ?_
  refine r_getR C 36 dX1_copyFrom_35 fl_X1_18 la_33 ly_33 rfl rfl ?_
  refine r_callN C [rf G 36, rf G 135] dX1_copyFrom_38 (t_X11_copyRow_135_36 C.h1 C.h2 d5) (n_X11_copyRow_135_36 d5) mn_X1_28 ms_X11_copyRow (by decide) (by decide) (by decide) rfl rfl (Nat.le_of_ble_eq_true rfl) (fun r6 d7 => ?_)
  show SS G X 2 _ _ 41 [(0, rf G 33), (1, rf G 132)] [] d7 _
  refine r_aload_n C 1 dX1_copyFrom_41 rfl rfl ?_
  refine r_getR C 136 dX1_copyFrom_42 fl_X1_21 la_132 ly_132 rfl rfl ?_
  refine r_aload_n C 0 dX1_copyFrom_45 rfl rfl ?_
  refine r_getR C 37 dX1_copyFrom_46 fl_X1_21 la_33 ly_33 rfl rfl ?_
  refine r_callN C [rf G 37, rf G 136] dX1_copyFrom_49 (t_X11_copyRow_136_37 C.h1 C.h2 d7) (n_X11_copyRow_136_37 d7) mn_X1_28 ms_X11_copyRow (by decide) (by decide) (by decide) rfl rfl (Nat.le_of_ble_eq_true rfl) (fun r8 d9 => ?_)
  show SS G X 2 _ _ 52 [(0, rf G 33), (1, rf G 132)] [] d9 _
  exact r_vret C dX1_copyFrom_52 (by decide) (by decide)
abbrev z_X10_copyFrom_1_100 : Z9 := (none, 0, 0, 0, 4, 242)
def m_X10_copyFrom_1_100 (d : D9) : Option R9 := cl (m_X3_copyFrom_2_101 d) (fun r1 d2 => cl (m_X6_copyFrom_9_108 d2) (fun r3 d4 => cl (m_X2_copyFrom_22_121 d4) (fun r5 d6 => cl (m_X7_copyFrom_23_122 d6) (fun r7 d8 => cl (m_X4_copyFrom_28_127 d8) (fun r9 d10 => cl (m_X1_copyFrom_33_132 d10) (fun r11 d12 => rt 0 d12))))))
set_option maxRecDepth 100000 in
theorem t_X10_copyFrom_1_100 {G : G9} {l : Launch} (h1 : va_D (A9 G) (wl G (fun _ _ => 0))) (h2 : l.stackTraces = false) (d : D9) : MT G l yX10_copyFrom cX10_copyFrom 2 z_X10_copyFrom_1_100 [rf G 1, rf G 100] d (m_X10_copyFrom_1_100  d) := by
  refine mt_of (own := RX10) (by decide) rfl (Nat.le_of_ble_eq_true rfl) h1 h2 [(0, rf G 1), (1, rf G 100)] rfl (fun X hX C => ?_)
  unfold m_X10_copyFrom_1_100
  refine r_aload_n C 0 dX10_copyFrom_0 rfl rfl ?_
  refine r_getR C 2 dX10_copyFrom_1 fl_X10_12 la_1 ly_1 rfl rfl ?_
  refine r_aload_n C 1 dX10_copyFrom_4 rfl rfl ?_
  refine r_getR C 101 dX10_copyFrom_5 fl_X10_12 la_100 ly_100 rfl rfl ?_
  refine r_callV C [rf G 101, rf G 2] dX10_copyFrom_8 (t_X3_copyFrom_2_101 C.h1 C.h2 d) mw_X10_53 mv_X3_copyFrom la_2 ly_2 rfl (by decide) (by decide) (by decide) rfl rfl (Nat.le_of_ble_eq_true rfl) (fun r1 d2 => ?_)
  show SS G X 2 _ _ 11 [(0, rf G 1), (1, rf G 100)] [] d2 _
  refine r_aload_n C 0 dX10_copyFrom_11 rfl rfl ?_
  refine r_getR C 9 dX10_copyFrom_12 fl_X10_21 la_1 ly_1 rfl rfl ?_
  refine r_aload_n C 1 dX10_copyFrom_15 rfl rfl ?_
  refine r_getR C 108 dX10_copyFrom_16 fl_X10_21 la_100 ly_100 rfl rfl ?_
  refine r_callV C [rf G 108, rf G 9] dX10_copyFrom_19 (t_X6_copyFrom_9_108 C.h1 C.h2 d2) mw_X10_57 mv_X6_copyFrom la_9 ly_9 rfl (by decide) (by decide) (by decide) rfl rfl (Nat.le_of_ble_eq_true rfl) (fun r3 d4 => ?_)
  show SS G X 2 _ _ 22 [(0, rf G 1), (1, rf G 100)] [] d4 _
  refine r_aload_n C 0 dX10_copyFrom_22 rfl rfl ?_
  refine r_getR C 22 dX10_copyFrom_23 fl_X10_28 la_1 ly_1 rfl rfl ?_
  refine r_aload_n C 1 dX10_copyFrom_26 rfl rfl ?_
  refine r_getR C 121 dX10_copyFrom_27 fl_X10_28 la_100 ly_100 rfl rfl ?_
  refine r_callV C [rf G 121, rf G 22] dX10_copyFrom_30 (t_X2_copyFrom_22_121 C.h1 C.h2 d4) mw_X10_60 mv_X2_copyFrom la_22 ly_22 rfl (by decide) (by decide) (by decide) rfl rfl (Nat.le_of_ble_eq_true rfl) (fun r5 d6 => ?_)
  show SS G X 2 _ _ 33 [(0, rf G 1), (1, rf G 100)] [] d6 _
  refine r_aload_n C 0 dX10_copyFrom_33 rfl rfl ?_
  refine r_getR C 23 dX10_copyFrom_34 fl_X10_35 la_1 ly_1 rfl rfl ?_
  refine r_aload_n C 1 dX10_copyFrom_37 rfl rfl ?_
  refine r_getR C 122 dX10_copyFrom_38 fl_X10_35 la_100 ly_100 rfl rfl ?_
  refine r_callV C [rf G 122, rf G 23] dX10_copyFrom_41 (t_X7_copyFrom_23_122 C.h1 C.h2 d6) mw_X10_63 mv_X7_copyFrom la_23 ly_23 rfl (by decide) (by decide) (by decide) rfl rfl (Nat.le_of_ble_eq_true rfl) (fun r7 d8 => ?_)
  show SS G X 2 _ _ 44 [(0, rf G 1), (1, rf G 100)] [] d8 _
  refine r_aload_n C 0 dX10_copyFrom_44 rfl rfl ?_
  refine r_getR C 28 dX10_copyFrom_45 fl_X10_42 la_1 ly_1 rfl rfl ?_
  refine r_aload_n C 1 dX10_copyFrom_48 rfl rfl ?_
  refine r_getR C 127 dX10_copyFrom_49 fl_X10_42 la_100 ly_100 rfl rfl ?_
  refine r_callV C [rf G 127, rf G 28] dX10_copyFrom_52 (t_X4_copyFrom_28_127 C.h1 C.h2 d8) mw_X10_66 mv_X4_copyFrom la_28 ly_28 rfl (by decide) (by decide) (by decide) rfl rfl (Nat.le_of_ble_eq_true rfl) (fun r9 d10 => ?_)
  show SS G X 2 _ _ 55 [(0, rf G 1), (1, rf G 100)] [] d10 _
  refine r_aload_n C 0 dX10_copyFrom_55 rfl rfl ?_
  refine r_getR C 33 dX10_copyFrom_56 fl_X10_49 la_1 ly_1 rfl rfl ?_
  refine r_aload_n C 1 dX10_copyFrom_59 rfl rfl ?_
  refine r_getR C 132 dX10_copyFrom_60 fl_X10_49 la_100 ly_100 rfl rfl ?_
  refine r_callV C [rf G 132, rf G 33] dX10_copyFrom_63 (t_X1_copyFrom_33_132 C.h1 C.h2 d10) mw_X10_69 mv_X1_copyFrom la_33 ly_33 rfl (by decide) (by decide) (by decide) rfl rfl (Nat.le_of_ble_eq_true rfl) (fun r11 d12 => ?_)
  show SS G X 2 _ _ 66 [(0, rf G 1), (1, rf G 100)] [] d12 _
  exact r_vret C dX10_copyFrom_66 (by decide) (by decide)
abbrev z_X11_copyRow_139_3 : Z9 := (none, 0, 0, 0, 2, 200)
def m_X11_copyRow_139_3 (d : D9) : Option R9 := cp9 d 139 30 3 30 (min9 30 30) (fun d1 => rt 0 d1)
set_option maxRecDepth 100000 in
theorem t_X11_copyRow_139_3 {G : G9} {l : Launch} (h1 : va_D (A9 G) (wl G (fun _ _ => 0))) (h2 : l.stackTraces = false) (d : D9) : MT G l yX11_copyRow cX11_copyRow 2 z_X11_copyRow_139_3 [rf G 139, rf G 3] d (m_X11_copyRow_139_3  d) := by
  refine mt_of (own := RX11) (by decide) rfl (Nat.le_of_ble_eq_true rfl) h1 h2 [(0, rf G 139), (1, rf G 3)] rfl (fun X hX C => ?_)
  unfold m_X11_copyRow_139_3
  refine r_aload_n C 0 dX11_copyRow_0 rfl rfl ?_
  refine r_iconst C dX11_copyRow_1 ?_
  refine r_aload_n C 1 dX11_copyRow_2 rfl rfl ?_
  refine r_iconst C dX11_copyRow_3 ?_
  refine r_aload_n C 0 dX11_copyRow_4 rfl rfl ?_
  refine r_alen C dX11_copyRow_5 la_139 ly_139 ?_
  refine r_aload_n C 1 dX11_copyRow_6 rfl rfl ?_
  refine r_alen C dX11_copyRow_7 la_3 ly_3 ?_
  refine r_mmin C dX11_copyRow_8 mm_X11_465 ⟨Nat.le_of_ble_eq_true rfl, Nat.le_of_ble_eq_true rfl⟩ (by decide) (by decide) ?_
  refine r_acopy C dX11_copyRow_11 aw_X11_470 la_139 ly_139 la_3 ly_3 (by decide) (Nat.le_of_ble_eq_true rfl) (fun d1 => ?_)
  exact r_vret C dX11_copyRow_14 (by decide) (by decide)
theorem n_X11_copyRow_139_3 (d : D9) : NT9 (m_X11_copyRow_139_3  d) := by
  unfold m_X11_copyRow_139_3
  repeat (first | exact nt_rt | exact nt_none | apply nt_if | refine nt_cl ?_ (fun _ _ => ?_) | refine nt_cp9 (fun _ => ?_))
abbrev z_X11_copyRow_140_4 : Z9 := (none, 0, 0, 0, 2, 200)
def m_X11_copyRow_140_4 (d : D9) : Option R9 := cp9 d 140 30 4 30 (min9 30 30) (fun d1 => rt 0 d1)
set_option maxRecDepth 100000 in
theorem t_X11_copyRow_140_4 {G : G9} {l : Launch} (h1 : va_D (A9 G) (wl G (fun _ _ => 0))) (h2 : l.stackTraces = false) (d : D9) : MT G l yX11_copyRow cX11_copyRow 2 z_X11_copyRow_140_4 [rf G 140, rf G 4] d (m_X11_copyRow_140_4  d) := by
  refine mt_of (own := RX11) (by decide) rfl (Nat.le_of_ble_eq_true rfl) h1 h2 [(0, rf G 140), (1, rf G 4)] rfl (fun X hX C => ?_)
  unfold m_X11_copyRow_140_4
  refine r_aload_n C 0 dX11_copyRow_0 rfl rfl ?_
  refine r_iconst C dX11_copyRow_1 ?_
  refine r_aload_n C 1 dX11_copyRow_2 rfl rfl ?_
  refine r_iconst C dX11_copyRow_3 ?_
  refine r_aload_n C 0 dX11_copyRow_4 rfl rfl ?_
  refine r_alen C dX11_copyRow_5 la_140 ly_140 ?_
  refine r_aload_n C 1 dX11_copyRow_6 rfl rfl ?_
  refine r_alen C dX11_copyRow_7 la_4 ly_4 ?_
  refine r_mmin C dX11_copyRow_8 mm_X11_465 ⟨Nat.le_of_ble_eq_true rfl, Nat.le_of_ble_eq_true rfl⟩ (by decide) (by decide) ?_
  refine r_acopy C dX11_copyRow_11 aw_X11_470 la_140 ly_140 la_4 ly_4 (by decide) (Nat.le_of_ble_eq_true rfl) (fun d1 => ?_)
  exact r_vret C dX11_copyRow_14 (by decide) (by decide)
theorem n_X11_copyRow_140_4 (d : D9) : NT9 (m_X11_copyRow_140_4  d) := by
  unfold m_X11_copyRow_140_4
  repeat (first | exact nt_rt | exact nt_none | apply nt_if | refine nt_cl ?_ (fun _ _ => ?_) | refine nt_cp9 (fun _ => ?_))
abbrev z_X11_copyRow_141_5 : Z9 := (none, 0, 0, 0, 2, 200)
def m_X11_copyRow_141_5 (d : D9) : Option R9 := cp9 d 141 30 5 30 (min9 30 30) (fun d1 => rt 0 d1)
set_option maxRecDepth 100000 in
theorem t_X11_copyRow_141_5 {G : G9} {l : Launch} (h1 : va_D (A9 G) (wl G (fun _ _ => 0))) (h2 : l.stackTraces = false) (d : D9) : MT G l yX11_copyRow cX11_copyRow 2 z_X11_copyRow_141_5 [rf G 141, rf G 5] d (m_X11_copyRow_141_5  d) := by
  refine mt_of (own := RX11) (by decide) rfl (Nat.le_of_ble_eq_true rfl) h1 h2 [(0, rf G 141), (1, rf G 5)] rfl (fun X hX C => ?_)
  unfold m_X11_copyRow_141_5
  refine r_aload_n C 0 dX11_copyRow_0 rfl rfl ?_
  refine r_iconst C dX11_copyRow_1 ?_
  refine r_aload_n C 1 dX11_copyRow_2 rfl rfl ?_
  refine r_iconst C dX11_copyRow_3 ?_
  refine r_aload_n C 0 dX11_copyRow_4 rfl rfl ?_
  refine r_alen C dX11_copyRow_5 la_141 ly_141 ?_
  refine r_aload_n C 1 dX11_copyRow_6 rfl rfl ?_
  refine r_alen C dX11_copyRow_7 la_5 ly_5 ?_
  refine r_mmin C dX11_copyRow_8 mm_X11_465 ⟨Nat.le_of_ble_eq_true rfl, Nat.le_of_ble_eq_true rfl⟩ (by decide) (by decide) ?_
  refine r_acopy C dX11_copyRow_11 aw_X11_470 la_141 ly_141 la_5 ly_5 (by decide) (Nat.le_of_ble_eq_true rfl) (fun d1 => ?_)
  exact r_vret C dX11_copyRow_14 (by decide) (by decide)
theorem n_X11_copyRow_141_5 (d : D9) : NT9 (m_X11_copyRow_141_5  d) := by
  unfold m_X11_copyRow_141_5
  repeat (first | exact nt_rt | exact nt_none | apply nt_if | refine nt_cl ?_ (fun _ _ => ?_) | refine nt_cp9 (fun _ => ?_))
abbrev z_X11_copyRow_142_6 : Z9 := (none, 0, 0, 0, 2, 200)
def m_X11_copyRow_142_6 (d : D9) : Option R9 := cp9 d 142 150 6 150 (min9 150 150) (fun d1 => rt 0 d1)
set_option maxRecDepth 100000 in
theorem t_X11_copyRow_142_6 {G : G9} {l : Launch} (h1 : va_D (A9 G) (wl G (fun _ _ => 0))) (h2 : l.stackTraces = false) (d : D9) : MT G l yX11_copyRow cX11_copyRow 2 z_X11_copyRow_142_6 [rf G 142, rf G 6] d (m_X11_copyRow_142_6  d) := by
  refine mt_of (own := RX11) (by decide) rfl (Nat.le_of_ble_eq_true rfl) h1 h2 [(0, rf G 142), (1, rf G 6)] rfl (fun X hX C => ?_)
  unfold m_X11_copyRow_142_6
  refine r_aload_n C 0 dX11_copyRow_0 rfl rfl ?_
  refine r_iconst C dX11_copyRow_1 ?_
  refine r_aload_n C 1 dX11_copyRow_2 rfl rfl ?_
  refine r_iconst C dX11_copyRow_3 ?_
  refine r_aload_n C 0 dX11_copyRow_4 rfl rfl ?_
  refine r_alen C dX11_copyRow_5 la_142 ly_142 ?_
  refine r_aload_n C 1 dX11_copyRow_6 rfl rfl ?_
  refine r_alen C dX11_copyRow_7 la_6 ly_6 ?_
  refine r_mmin C dX11_copyRow_8 mm_X11_465 ⟨Nat.le_of_ble_eq_true rfl, Nat.le_of_ble_eq_true rfl⟩ (by decide) (by decide) ?_
  refine r_acopy C dX11_copyRow_11 aw_X11_470 la_142 ly_142 la_6 ly_6 (by decide) (Nat.le_of_ble_eq_true rfl) (fun d1 => ?_)
  exact r_vret C dX11_copyRow_14 (by decide) (by decide)
theorem n_X11_copyRow_142_6 (d : D9) : NT9 (m_X11_copyRow_142_6  d) := by
  unfold m_X11_copyRow_142_6
  repeat (first | exact nt_rt | exact nt_none | apply nt_if | refine nt_cl ?_ (fun _ _ => ?_) | refine nt_cp9 (fun _ => ?_))
abbrev z_X11_copyRow_143_7 : Z9 := (none, 0, 0, 0, 2, 200)
def m_X11_copyRow_143_7 (d : D9) : Option R9 := cp9 d 143 30 7 30 (min9 30 30) (fun d1 => rt 0 d1)
set_option maxRecDepth 100000 in
theorem t_X11_copyRow_143_7 {G : G9} {l : Launch} (h1 : va_D (A9 G) (wl G (fun _ _ => 0))) (h2 : l.stackTraces = false) (d : D9) : MT G l yX11_copyRow cX11_copyRow 2 z_X11_copyRow_143_7 [rf G 143, rf G 7] d (m_X11_copyRow_143_7  d) := by
  refine mt_of (own := RX11) (by decide) rfl (Nat.le_of_ble_eq_true rfl) h1 h2 [(0, rf G 143), (1, rf G 7)] rfl (fun X hX C => ?_)
  unfold m_X11_copyRow_143_7
  refine r_aload_n C 0 dX11_copyRow_0 rfl rfl ?_
  refine r_iconst C dX11_copyRow_1 ?_
  refine r_aload_n C 1 dX11_copyRow_2 rfl rfl ?_
  refine r_iconst C dX11_copyRow_3 ?_
  refine r_aload_n C 0 dX11_copyRow_4 rfl rfl ?_
  refine r_alen C dX11_copyRow_5 la_143 ly_143 ?_
  refine r_aload_n C 1 dX11_copyRow_6 rfl rfl ?_
  refine r_alen C dX11_copyRow_7 la_7 ly_7 ?_
  refine r_mmin C dX11_copyRow_8 mm_X11_465 ⟨Nat.le_of_ble_eq_true rfl, Nat.le_of_ble_eq_true rfl⟩ (by decide) (by decide) ?_
  refine r_acopy C dX11_copyRow_11 aw_X11_470 la_143 ly_143 la_7 ly_7 (by decide) (Nat.le_of_ble_eq_true rfl) (fun d1 => ?_)
  exact r_vret C dX11_copyRow_14 (by decide) (by decide)
theorem n_X11_copyRow_143_7 (d : D9) : NT9 (m_X11_copyRow_143_7  d) := by
  unfold m_X11_copyRow_143_7
  repeat (first | exact nt_rt | exact nt_none | apply nt_if | refine nt_cl ?_ (fun _ _ => ?_) | refine nt_cp9 (fun _ => ?_))
abbrev z_X11_copyRow_144_8 : Z9 := (none, 0, 0, 0, 2, 200)
def m_X11_copyRow_144_8 (d : D9) : Option R9 := cp9 d 144 30 8 30 (min9 30 30) (fun d1 => rt 0 d1)
set_option maxRecDepth 100000 in
theorem t_X11_copyRow_144_8 {G : G9} {l : Launch} (h1 : va_D (A9 G) (wl G (fun _ _ => 0))) (h2 : l.stackTraces = false) (d : D9) : MT G l yX11_copyRow cX11_copyRow 2 z_X11_copyRow_144_8 [rf G 144, rf G 8] d (m_X11_copyRow_144_8  d) := by
  refine mt_of (own := RX11) (by decide) rfl (Nat.le_of_ble_eq_true rfl) h1 h2 [(0, rf G 144), (1, rf G 8)] rfl (fun X hX C => ?_)
  unfold m_X11_copyRow_144_8
  refine r_aload_n C 0 dX11_copyRow_0 rfl rfl ?_
  refine r_iconst C dX11_copyRow_1 ?_
  refine r_aload_n C 1 dX11_copyRow_2 rfl rfl ?_
  refine r_iconst C dX11_copyRow_3 ?_
  refine r_aload_n C 0 dX11_copyRow_4 rfl rfl ?_
  refine r_alen C dX11_copyRow_5 la_144 ly_144 ?_
  refine r_aload_n C 1 dX11_copyRow_6 rfl rfl ?_
  refine r_alen C dX11_copyRow_7 la_8 ly_8 ?_
  refine r_mmin C dX11_copyRow_8 mm_X11_465 ⟨Nat.le_of_ble_eq_true rfl, Nat.le_of_ble_eq_true rfl⟩ (by decide) (by decide) ?_
  refine r_acopy C dX11_copyRow_11 aw_X11_470 la_144 ly_144 la_8 ly_8 (by decide) (Nat.le_of_ble_eq_true rfl) (fun d1 => ?_)
  exact r_vret C dX11_copyRow_14 (by decide) (by decide)
theorem n_X11_copyRow_144_8 (d : D9) : NT9 (m_X11_copyRow_144_8  d) := by
  unfold m_X11_copyRow_144_8
  repeat (first | exact nt_rt | exact nt_none | apply nt_if | refine nt_cl ?_ (fun _ _ => ?_) | refine nt_cp9 (fun _ => ?_))
abbrev z_X3_copyFrom_2_138 : Z9 := (none, 0, 0, 0, 3, 221)
def m_X3_copyFrom_2_138 (d : D9) : Option R9 := pf d 2 0 (d 138 0) (fun d1 => pf d1 2 1 (d1 138 1) (fun d2 => cl (m_X11_copyRow_139_3 d2) (fun r3 d4 => cl (m_X11_copyRow_140_4 d4) (fun r5 d6 => cl (m_X11_copyRow_141_5 d6) (fun r7 d8 => cl (m_X11_copyRow_142_6 d8) (fun r9 d10 => cl (m_X11_copyRow_143_7 d10) (fun r11 d12 => cl (m_X11_copyRow_144_8 d12) (fun r13 d14 => rt 0 d14))))))))
set_option maxRecDepth 100000 in
theorem t_X3_copyFrom_2_138 {G : G9} {l : Launch} (h1 : va_D (A9 G) (wl G (fun _ _ => 0))) (h2 : l.stackTraces = false) (d : D9) : MT G l yX3_copyFrom cX3_copyFrom 2 z_X3_copyFrom_2_138 [rf G 2, rf G 138] d (m_X3_copyFrom_2_138  d) := by
  refine mt_of (own := RX3) (by decide) rfl (Nat.le_of_ble_eq_true rfl) h1 h2 [(0, rf G 2), (1, rf G 138)] rfl (fun X hX C => ?_)
  unfold m_X3_copyFrom_2_138
  refine r_aload_n C 0 dX3_copyFrom_0 rfl rfl ?_
  refine r_aload_n C 1 dX3_copyFrom_1 rfl rfl ?_
  refine r_getI C dX3_copyFrom_2 fl_X3_30 la_138 ly_138 rfl ?_
  refine r_putI C dX3_copyFrom_5 fp_X3_30 la_2 ly_2 rfl (fun d1 => ?_)
  refine r_aload_n C 0 dX3_copyFrom_8 rfl rfl ?_
  refine r_aload_n C 1 dX3_copyFrom_9 rfl rfl ?_
  refine r_getI C dX3_copyFrom_10 fl_X3_34 la_138 ly_138 rfl ?_
  refine r_putI C dX3_copyFrom_13 fp_X3_34 la_2 ly_2 rfl (fun d2 => ?_)
  refine r_aload_n C 1 dX3_copyFrom_16 rfl rfl ?_
  refine r_getR C 139 dX3_copyFrom_17 fl_X3_9 la_138 ly_138 rfl rfl ?_
  refine r_aload_n C 0 dX3_copyFrom_20 rfl rfl ?_
  refine r_getR C 3 dX3_copyFrom_21 fl_X3_9 la_2 ly_2 rfl rfl ?_
  refine r_callN C [rf G 3, rf G 139] dX3_copyFrom_24 (t_X11_copyRow_139_3 C.h1 C.h2 d2) (n_X11_copyRow_139_3 d2) mn_X3_37 ms_X11_copyRow (by decide) (by decide) (by decide) rfl rfl (Nat.le_of_ble_eq_true rfl) (fun r3 d4 => ?_)
  show SS G X 2 _ _ 27 [(0, rf G 2), (1, rf G 138)] [] d4 _
  refine r_aload_n C 1 dX3_copyFrom_27 rfl rfl ?_
  refine r_getR C 140 dX3_copyFrom_28 fl_X3_15 la_138 ly_138 rfl rfl ?_
  refine r_aload_n C 0 dX3_copyFrom_31 rfl rfl ?_
  refine r_getR C 4 dX3_copyFrom_32 fl_X3_15 la_2 ly_2 rfl rfl ?_
  refine r_callN C [rf G 4, rf G 140] dX3_copyFrom_35 (t_X11_copyRow_140_4 C.h1 C.h2 d4) (n_X11_copyRow_140_4 d4) mn_X3_37 ms_X11_copyRow (by decide) (by decide) (by decide) rfl rfl (Nat.le_of_ble_eq_true rfl) (fun r5 d6 => ?_)
  show SS G X 2 _ _ 38 [(0, rf G 2), (1, rf G 138)] [] d6 _
  refine r_aload_n C 1 dX3_copyFrom_38 rfl rfl ?_
  refine r_getR C 141 dX3_copyFrom_39 fl_X3_18 la_138 ly_138 rfl rfl ?_
  refine r_aload_n C 0 dX3_copyFrom_42 rfl rfl ?_
  refine r_getR C 5 dX3_copyFrom_43 fl_X3_18 la_2 ly_2 rfl rfl ?_
  refine r_callN C [rf G 5, rf G 141] dX3_copyFrom_46 (t_X11_copyRow_141_5 C.h1 C.h2 d6) (n_X11_copyRow_141_5 d6) mn_X3_37 ms_X11_copyRow (by decide) (by decide) (by decide) rfl rfl (Nat.le_of_ble_eq_true rfl) (fun r7 d8 => ?_)
  show SS G X 2 _ _ 49 [(0, rf G 2), (1, rf G 138)] [] d8 _
  refine r_aload_n C 1 dX3_copyFrom_49 rfl rfl ?_
  refine r_getR C 142 dX3_copyFrom_50 fl_X3_21 la_138 ly_138 rfl rfl ?_
  refine r_aload_n C 0 dX3_copyFrom_53 rfl rfl ?_
  refine r_getR C 6 dX3_copyFrom_54 fl_X3_21 la_2 ly_2 rfl rfl ?_
  refine r_callN C [rf G 6, rf G 142] dX3_copyFrom_57 (t_X11_copyRow_142_6 C.h1 C.h2 d8) (n_X11_copyRow_142_6 d8) mn_X3_37 ms_X11_copyRow (by decide) (by decide) (by decide) rfl rfl (Nat.le_of_ble_eq_true rfl) (fun r9 d10 => ?_)
  show SS G X 2 _ _ 60 [(0, rf G 2), (1, rf G 138)] [] d10 _
  refine r_aload_n C 1 dX3_copyFrom_60 rfl rfl ?_
  refine r_getR C 143 dX3_copyFrom_61 fl_X3_24 la_138 ly_138 rfl rfl ?_
  refine r_aload_n C 0 dX3_copyFrom_64 rfl rfl ?_
  refine r_getR C 7 dX3_copyFrom_65 fl_X3_24 la_2 ly_2 rfl rfl ?_
  refine r_callN C [rf G 7, rf G 143] dX3_copyFrom_68 (t_X11_copyRow_143_7 C.h1 C.h2 d10) (n_X11_copyRow_143_7 d10) mn_X3_37 ms_X11_copyRow (by decide) (by decide) (by decide) rfl rfl (Nat.le_of_ble_eq_true rfl) (fun r11 d12 => ?_)
  show SS G X 2 _ _ 71 [(0, rf G 2), (1, rf G 138)] [] d12 _
  refine r_aload_n C 1 dX3_copyFrom_71 rfl rfl ?_
  refine r_getR C 144 dX3_copyFrom_72 fl_X3_27 la_138 ly_138 rfl rfl ?_
  refine r_aload_n C 0 dX3_copyFrom_75 rfl rfl ?_
  refine r_getR C 8 dX3_copyFrom_76 fl_X3_27 la_2 ly_2 rfl rfl ?_
  refine r_callN C [rf G 8, rf G 144] dX3_copyFrom_79 (t_X11_copyRow_144_8 C.h1 C.h2 d12) (n_X11_copyRow_144_8 d12) mn_X3_37 ms_X11_copyRow (by decide) (by decide) (by decide) rfl rfl (Nat.le_of_ble_eq_true rfl) (fun r13 d14 => ?_)
  show SS G X 2 _ _ 82 [(0, rf G 2), (1, rf G 138)] [] d14 _
  exact r_vret C dX3_copyFrom_82 (by decide) (by decide)
abbrev z_X11_copyRow_146_10 : Z9 := (none, 0, 0, 0, 2, 200)
def m_X11_copyRow_146_10 (d : D9) : Option R9 := cp9 d 146 30 10 30 (min9 30 30) (fun d1 => rt 0 d1)
set_option maxRecDepth 100000 in
theorem t_X11_copyRow_146_10 {G : G9} {l : Launch} (h1 : va_D (A9 G) (wl G (fun _ _ => 0))) (h2 : l.stackTraces = false) (d : D9) : MT G l yX11_copyRow cX11_copyRow 2 z_X11_copyRow_146_10 [rf G 146, rf G 10] d (m_X11_copyRow_146_10  d) := by
  refine mt_of (own := RX11) (by decide) rfl (Nat.le_of_ble_eq_true rfl) h1 h2 [(0, rf G 146), (1, rf G 10)] rfl (fun X hX C => ?_)
  unfold m_X11_copyRow_146_10
  refine r_aload_n C 0 dX11_copyRow_0 rfl rfl ?_
  refine r_iconst C dX11_copyRow_1 ?_
  refine r_aload_n C 1 dX11_copyRow_2 rfl rfl ?_
  refine r_iconst C dX11_copyRow_3 ?_
  refine r_aload_n C 0 dX11_copyRow_4 rfl rfl ?_
  refine r_alen C dX11_copyRow_5 la_146 ly_146 ?_
  refine r_aload_n C 1 dX11_copyRow_6 rfl rfl ?_
  refine r_alen C dX11_copyRow_7 la_10 ly_10 ?_
  refine r_mmin C dX11_copyRow_8 mm_X11_465 ⟨Nat.le_of_ble_eq_true rfl, Nat.le_of_ble_eq_true rfl⟩ (by decide) (by decide) ?_
  refine r_acopy C dX11_copyRow_11 aw_X11_470 la_146 ly_146 la_10 ly_10 (by decide) (Nat.le_of_ble_eq_true rfl) (fun d1 => ?_)
  exact r_vret C dX11_copyRow_14 (by decide) (by decide)
theorem n_X11_copyRow_146_10 (d : D9) : NT9 (m_X11_copyRow_146_10  d) := by
  unfold m_X11_copyRow_146_10
  repeat (first | exact nt_rt | exact nt_none | apply nt_if | refine nt_cl ?_ (fun _ _ => ?_) | refine nt_cp9 (fun _ => ?_))
abbrev z_X11_copyRow_147_11 : Z9 := (none, 0, 0, 0, 2, 200)
def m_X11_copyRow_147_11 (d : D9) : Option R9 := cp9 d 147 30 11 30 (min9 30 30) (fun d1 => rt 0 d1)
set_option maxRecDepth 100000 in
theorem t_X11_copyRow_147_11 {G : G9} {l : Launch} (h1 : va_D (A9 G) (wl G (fun _ _ => 0))) (h2 : l.stackTraces = false) (d : D9) : MT G l yX11_copyRow cX11_copyRow 2 z_X11_copyRow_147_11 [rf G 147, rf G 11] d (m_X11_copyRow_147_11  d) := by
  refine mt_of (own := RX11) (by decide) rfl (Nat.le_of_ble_eq_true rfl) h1 h2 [(0, rf G 147), (1, rf G 11)] rfl (fun X hX C => ?_)
  unfold m_X11_copyRow_147_11
  refine r_aload_n C 0 dX11_copyRow_0 rfl rfl ?_
  refine r_iconst C dX11_copyRow_1 ?_
  refine r_aload_n C 1 dX11_copyRow_2 rfl rfl ?_
  refine r_iconst C dX11_copyRow_3 ?_
  refine r_aload_n C 0 dX11_copyRow_4 rfl rfl ?_
  refine r_alen C dX11_copyRow_5 la_147 ly_147 ?_
  refine r_aload_n C 1 dX11_copyRow_6 rfl rfl ?_
  refine r_alen C dX11_copyRow_7 la_11 ly_11 ?_
  refine r_mmin C dX11_copyRow_8 mm_X11_465 ⟨Nat.le_of_ble_eq_true rfl, Nat.le_of_ble_eq_true rfl⟩ (by decide) (by decide) ?_
  refine r_acopy C dX11_copyRow_11 aw_X11_470 la_147 ly_147 la_11 ly_11 (by decide) (Nat.le_of_ble_eq_true rfl) (fun d1 => ?_)
  exact r_vret C dX11_copyRow_14 (by decide) (by decide)
theorem n_X11_copyRow_147_11 (d : D9) : NT9 (m_X11_copyRow_147_11  d) := by
  unfold m_X11_copyRow_147_11
  repeat (first | exact nt_rt | exact nt_none | apply nt_if | refine nt_cl ?_ (fun _ _ => ?_) | refine nt_cp9 (fun _ => ?_))
abbrev z_X11_copyRow_148_12 : Z9 := (none, 0, 0, 0, 2, 200)
def m_X11_copyRow_148_12 (d : D9) : Option R9 := cp9 d 148 30 12 30 (min9 30 30) (fun d1 => rt 0 d1)
set_option maxRecDepth 100000 in
theorem t_X11_copyRow_148_12 {G : G9} {l : Launch} (h1 : va_D (A9 G) (wl G (fun _ _ => 0))) (h2 : l.stackTraces = false) (d : D9) : MT G l yX11_copyRow cX11_copyRow 2 z_X11_copyRow_148_12 [rf G 148, rf G 12] d (m_X11_copyRow_148_12  d) := by
  refine mt_of (own := RX11) (by decide) rfl (Nat.le_of_ble_eq_true rfl) h1 h2 [(0, rf G 148), (1, rf G 12)] rfl (fun X hX C => ?_)
  unfold m_X11_copyRow_148_12
  refine r_aload_n C 0 dX11_copyRow_0 rfl rfl ?_
  refine r_iconst C dX11_copyRow_1 ?_
  refine r_aload_n C 1 dX11_copyRow_2 rfl rfl ?_
  refine r_iconst C dX11_copyRow_3 ?_
  refine r_aload_n C 0 dX11_copyRow_4 rfl rfl ?_
  refine r_alen C dX11_copyRow_5 la_148 ly_148 ?_
  refine r_aload_n C 1 dX11_copyRow_6 rfl rfl ?_
  refine r_alen C dX11_copyRow_7 la_12 ly_12 ?_
  refine r_mmin C dX11_copyRow_8 mm_X11_465 ⟨Nat.le_of_ble_eq_true rfl, Nat.le_of_ble_eq_true rfl⟩ (by decide) (by decide) ?_
  refine r_acopy C dX11_copyRow_11 aw_X11_470 la_148 ly_148 la_12 ly_12 (by decide) (Nat.le_of_ble_eq_true rfl) (fun d1 => ?_)
  exact r_vret C dX11_copyRow_14 (by decide) (by decide)
theorem n_X11_copyRow_148_12 (d : D9) : NT9 (m_X11_copyRow_148_12  d) := by
  unfold m_X11_copyRow_148_12
  repeat (first | exact nt_rt | exact nt_none | apply nt_if | refine nt_cl ?_ (fun _ _ => ?_) | refine nt_cp9 (fun _ => ?_))
abbrev z_X11_copyRow_149_13 : Z9 := (none, 0, 0, 0, 2, 200)
def m_X11_copyRow_149_13 (d : D9) : Option R9 := cp9 d 149 30 13 30 (min9 30 30) (fun d1 => rt 0 d1)
set_option maxRecDepth 100000 in
theorem t_X11_copyRow_149_13 {G : G9} {l : Launch} (h1 : va_D (A9 G) (wl G (fun _ _ => 0))) (h2 : l.stackTraces = false) (d : D9) : MT G l yX11_copyRow cX11_copyRow 2 z_X11_copyRow_149_13 [rf G 149, rf G 13] d (m_X11_copyRow_149_13  d) := by
  refine mt_of (own := RX11) (by decide) rfl (Nat.le_of_ble_eq_true rfl) h1 h2 [(0, rf G 149), (1, rf G 13)] rfl (fun X hX C => ?_)
  unfold m_X11_copyRow_149_13
  refine r_aload_n C 0 dX11_copyRow_0 rfl rfl ?_
  refine r_iconst C dX11_copyRow_1 ?_
  refine r_aload_n C 1 dX11_copyRow_2 rfl rfl ?_
  refine r_iconst C dX11_copyRow_3 ?_
  refine r_aload_n C 0 dX11_copyRow_4 rfl rfl ?_
  refine r_alen C dX11_copyRow_5 la_149 ly_149 ?_
  refine r_aload_n C 1 dX11_copyRow_6 rfl rfl ?_
  refine r_alen C dX11_copyRow_7 la_13 ly_13 ?_
  refine r_mmin C dX11_copyRow_8 mm_X11_465 ⟨Nat.le_of_ble_eq_true rfl, Nat.le_of_ble_eq_true rfl⟩ (by decide) (by decide) ?_
  refine r_acopy C dX11_copyRow_11 aw_X11_470 la_149 ly_149 la_13 ly_13 (by decide) (Nat.le_of_ble_eq_true rfl) (fun d1 => ?_)
  exact r_vret C dX11_copyRow_14 (by decide) (by decide)
theorem n_X11_copyRow_149_13 (d : D9) : NT9 (m_X11_copyRow_149_13  d) := by
  unfold m_X11_copyRow_149_13
  repeat (first | exact nt_rt | exact nt_none | apply nt_if | refine nt_cl ?_ (fun _ _ => ?_) | refine nt_cp9 (fun _ => ?_))
abbrev z_X11_copyRow_150_14 : Z9 := (none, 0, 0, 0, 2, 200)
def m_X11_copyRow_150_14 (d : D9) : Option R9 := cp9 d 150 30 14 30 (min9 30 30) (fun d1 => rt 0 d1)
set_option maxRecDepth 100000 in
theorem t_X11_copyRow_150_14 {G : G9} {l : Launch} (h1 : va_D (A9 G) (wl G (fun _ _ => 0))) (h2 : l.stackTraces = false) (d : D9) : MT G l yX11_copyRow cX11_copyRow 2 z_X11_copyRow_150_14 [rf G 150, rf G 14] d (m_X11_copyRow_150_14  d) := by
  refine mt_of (own := RX11) (by decide) rfl (Nat.le_of_ble_eq_true rfl) h1 h2 [(0, rf G 150), (1, rf G 14)] rfl (fun X hX C => ?_)
  unfold m_X11_copyRow_150_14
  refine r_aload_n C 0 dX11_copyRow_0 rfl rfl ?_
  refine r_iconst C dX11_copyRow_1 ?_
  refine r_aload_n C 1 dX11_copyRow_2 rfl rfl ?_
  refine r_iconst C dX11_copyRow_3 ?_
  refine r_aload_n C 0 dX11_copyRow_4 rfl rfl ?_
  refine r_alen C dX11_copyRow_5 la_150 ly_150 ?_
  refine r_aload_n C 1 dX11_copyRow_6 rfl rfl ?_
  refine r_alen C dX11_copyRow_7 la_14 ly_14 ?_
  refine r_mmin C dX11_copyRow_8 mm_X11_465 ⟨Nat.le_of_ble_eq_true rfl, Nat.le_of_ble_eq_true rfl⟩ (by decide) (by decide) ?_
  refine r_acopy C dX11_copyRow_11 aw_X11_470 la_150 ly_150 la_14 ly_14 (by decide) (Nat.le_of_ble_eq_true rfl) (fun d1 => ?_)
  exact r_vret C dX11_copyRow_14 (by decide) (by decide)
theorem n_X11_copyRow_150_14 (d : D9) : NT9 (m_X11_copyRow_150_14  d) := by
  unfold m_X11_copyRow_150_14
  repeat (first | exact nt_rt | exact nt_none | apply nt_if | refine nt_cl ?_ (fun _ _ => ?_) | refine nt_cp9 (fun _ => ?_))
abbrev z_X11_copyRow_151_15 : Z9 := (none, 0, 0, 0, 2, 200)
def m_X11_copyRow_151_15 (d : D9) : Option R9 := cp9 d 151 30 15 30 (min9 30 30) (fun d1 => rt 0 d1)
set_option maxRecDepth 100000 in
theorem t_X11_copyRow_151_15 {G : G9} {l : Launch} (h1 : va_D (A9 G) (wl G (fun _ _ => 0))) (h2 : l.stackTraces = false) (d : D9) : MT G l yX11_copyRow cX11_copyRow 2 z_X11_copyRow_151_15 [rf G 151, rf G 15] d (m_X11_copyRow_151_15  d) := by
  refine mt_of (own := RX11) (by decide) rfl (Nat.le_of_ble_eq_true rfl) h1 h2 [(0, rf G 151), (1, rf G 15)] rfl (fun X hX C => ?_)
  unfold m_X11_copyRow_151_15
  refine r_aload_n C 0 dX11_copyRow_0 rfl rfl ?_
  refine r_iconst C dX11_copyRow_1 ?_
  refine r_aload_n C 1 dX11_copyRow_2 rfl rfl ?_
  refine r_iconst C dX11_copyRow_3 ?_
  refine r_aload_n C 0 dX11_copyRow_4 rfl rfl ?_
  refine r_alen C dX11_copyRow_5 la_151 ly_151 ?_
  refine r_aload_n C 1 dX11_copyRow_6 rfl rfl ?_
  refine r_alen C dX11_copyRow_7 la_15 ly_15 ?_
  refine r_mmin C dX11_copyRow_8 mm_X11_465 ⟨Nat.le_of_ble_eq_true rfl, Nat.le_of_ble_eq_true rfl⟩ (by decide) (by decide) ?_
  refine r_acopy C dX11_copyRow_11 aw_X11_470 la_151 ly_151 la_15 ly_15 (by decide) (Nat.le_of_ble_eq_true rfl) (fun d1 => ?_)
  exact r_vret C dX11_copyRow_14 (by decide) (by decide)
theorem n_X11_copyRow_151_15 (d : D9) : NT9 (m_X11_copyRow_151_15  d) := by
  unfold m_X11_copyRow_151_15
  repeat (first | exact nt_rt | exact nt_none | apply nt_if | refine nt_cl ?_ (fun _ _ => ?_) | refine nt_cp9 (fun _ => ?_))
abbrev z_X11_copyRow_152_16 : Z9 := (none, 0, 0, 0, 2, 200)
def m_X11_copyRow_152_16 (d : D9) : Option R9 := cp9 d 152 30 16 30 (min9 30 30) (fun d1 => rt 0 d1)
set_option maxRecDepth 100000 in
theorem t_X11_copyRow_152_16 {G : G9} {l : Launch} (h1 : va_D (A9 G) (wl G (fun _ _ => 0))) (h2 : l.stackTraces = false) (d : D9) : MT G l yX11_copyRow cX11_copyRow 2 z_X11_copyRow_152_16 [rf G 152, rf G 16] d (m_X11_copyRow_152_16  d) := by
  refine mt_of (own := RX11) (by decide) rfl (Nat.le_of_ble_eq_true rfl) h1 h2 [(0, rf G 152), (1, rf G 16)] rfl (fun X hX C => ?_)
  unfold m_X11_copyRow_152_16
  refine r_aload_n C 0 dX11_copyRow_0 rfl rfl ?_
  refine r_iconst C dX11_copyRow_1 ?_
  refine r_aload_n C 1 dX11_copyRow_2 rfl rfl ?_
  refine r_iconst C dX11_copyRow_3 ?_
  refine r_aload_n C 0 dX11_copyRow_4 rfl rfl ?_
  refine r_alen C dX11_copyRow_5 la_152 ly_152 ?_
  refine r_aload_n C 1 dX11_copyRow_6 rfl rfl ?_
  refine r_alen C dX11_copyRow_7 la_16 ly_16 ?_
  refine r_mmin C dX11_copyRow_8 mm_X11_465 ⟨Nat.le_of_ble_eq_true rfl, Nat.le_of_ble_eq_true rfl⟩ (by decide) (by decide) ?_
  refine r_acopy C dX11_copyRow_11 aw_X11_470 la_152 ly_152 la_16 ly_16 (by decide) (Nat.le_of_ble_eq_true rfl) (fun d1 => ?_)
  exact r_vret C dX11_copyRow_14 (by decide) (by decide)
theorem n_X11_copyRow_152_16 (d : D9) : NT9 (m_X11_copyRow_152_16  d) := by
  unfold m_X11_copyRow_152_16
  repeat (first | exact nt_rt | exact nt_none | apply nt_if | refine nt_cl ?_ (fun _ _ => ?_) | refine nt_cp9 (fun _ => ?_))
abbrev z_X11_copyRow_153_17 : Z9 := (none, 0, 0, 0, 2, 200)
def m_X11_copyRow_153_17 (d : D9) : Option R9 := cp9 d 153 120 17 120 (min9 120 120) (fun d1 => rt 0 d1)
set_option maxRecDepth 100000 in
theorem t_X11_copyRow_153_17 {G : G9} {l : Launch} (h1 : va_D (A9 G) (wl G (fun _ _ => 0))) (h2 : l.stackTraces = false) (d : D9) : MT G l yX11_copyRow cX11_copyRow 2 z_X11_copyRow_153_17 [rf G 153, rf G 17] d (m_X11_copyRow_153_17  d) := by
  refine mt_of (own := RX11) (by decide) rfl (Nat.le_of_ble_eq_true rfl) h1 h2 [(0, rf G 153), (1, rf G 17)] rfl (fun X hX C => ?_)
  unfold m_X11_copyRow_153_17
  refine r_aload_n C 0 dX11_copyRow_0 rfl rfl ?_
  refine r_iconst C dX11_copyRow_1 ?_
  refine r_aload_n C 1 dX11_copyRow_2 rfl rfl ?_
  refine r_iconst C dX11_copyRow_3 ?_
  refine r_aload_n C 0 dX11_copyRow_4 rfl rfl ?_
  refine r_alen C dX11_copyRow_5 la_153 ly_153 ?_
  refine r_aload_n C 1 dX11_copyRow_6 rfl rfl ?_
  refine r_alen C dX11_copyRow_7 la_17 ly_17 ?_
  refine r_mmin C dX11_copyRow_8 mm_X11_465 ⟨Nat.le_of_ble_eq_true rfl, Nat.le_of_ble_eq_true rfl⟩ (by decide) (by decide) ?_
  refine r_acopy C dX11_copyRow_11 aw_X11_470 la_153 ly_153 la_17 ly_17 (by decide) (Nat.le_of_ble_eq_true rfl) (fun d1 => ?_)
  exact r_vret C dX11_copyRow_14 (by decide) (by decide)
theorem n_X11_copyRow_153_17 (d : D9) : NT9 (m_X11_copyRow_153_17  d) := by
  unfold m_X11_copyRow_153_17
  repeat (first | exact nt_rt | exact nt_none | apply nt_if | refine nt_cl ?_ (fun _ _ => ?_) | refine nt_cp9 (fun _ => ?_))
abbrev z_X11_copyRow_154_18 : Z9 := (none, 0, 0, 0, 2, 200)
def m_X11_copyRow_154_18 (d : D9) : Option R9 := cp9 d 154 120 18 120 (min9 120 120) (fun d1 => rt 0 d1)
set_option maxRecDepth 100000 in
theorem t_X11_copyRow_154_18 {G : G9} {l : Launch} (h1 : va_D (A9 G) (wl G (fun _ _ => 0))) (h2 : l.stackTraces = false) (d : D9) : MT G l yX11_copyRow cX11_copyRow 2 z_X11_copyRow_154_18 [rf G 154, rf G 18] d (m_X11_copyRow_154_18  d) := by
  refine mt_of (own := RX11) (by decide) rfl (Nat.le_of_ble_eq_true rfl) h1 h2 [(0, rf G 154), (1, rf G 18)] rfl (fun X hX C => ?_)
  unfold m_X11_copyRow_154_18
  refine r_aload_n C 0 dX11_copyRow_0 rfl rfl ?_
  refine r_iconst C dX11_copyRow_1 ?_
  refine r_aload_n C 1 dX11_copyRow_2 rfl rfl ?_
  refine r_iconst C dX11_copyRow_3 ?_
  refine r_aload_n C 0 dX11_copyRow_4 rfl rfl ?_
  refine r_alen C dX11_copyRow_5 la_154 ly_154 ?_
  refine r_aload_n C 1 dX11_copyRow_6 rfl rfl ?_
  refine r_alen C dX11_copyRow_7 la_18 ly_18 ?_
  refine r_mmin C dX11_copyRow_8 mm_X11_465 ⟨Nat.le_of_ble_eq_true rfl, Nat.le_of_ble_eq_true rfl⟩ (by decide) (by decide) ?_
  refine r_acopy C dX11_copyRow_11 aw_X11_470 la_154 ly_154 la_18 ly_18 (by decide) (Nat.le_of_ble_eq_true rfl) (fun d1 => ?_)
  exact r_vret C dX11_copyRow_14 (by decide) (by decide)
theorem n_X11_copyRow_154_18 (d : D9) : NT9 (m_X11_copyRow_154_18  d) := by
  unfold m_X11_copyRow_154_18
  repeat (first | exact nt_rt | exact nt_none | apply nt_if | refine nt_cl ?_ (fun _ _ => ?_) | refine nt_cp9 (fun _ => ?_))
abbrev z_X11_copyRow_155_19 : Z9 := (none, 0, 0, 0, 2, 200)
def m_X11_copyRow_155_19 (d : D9) : Option R9 := cp9 d 155 120 19 120 (min9 120 120) (fun d1 => rt 0 d1)
set_option maxRecDepth 100000 in
theorem t_X11_copyRow_155_19 {G : G9} {l : Launch} (h1 : va_D (A9 G) (wl G (fun _ _ => 0))) (h2 : l.stackTraces = false) (d : D9) : MT G l yX11_copyRow cX11_copyRow 2 z_X11_copyRow_155_19 [rf G 155, rf G 19] d (m_X11_copyRow_155_19  d) := by
  refine mt_of (own := RX11) (by decide) rfl (Nat.le_of_ble_eq_true rfl) h1 h2 [(0, rf G 155), (1, rf G 19)] rfl (fun X hX C => ?_)
  unfold m_X11_copyRow_155_19
  refine r_aload_n C 0 dX11_copyRow_0 rfl rfl ?_
  refine r_iconst C dX11_copyRow_1 ?_
  refine r_aload_n C 1 dX11_copyRow_2 rfl rfl ?_
  refine r_iconst C dX11_copyRow_3 ?_
  refine r_aload_n C 0 dX11_copyRow_4 rfl rfl ?_
  refine r_alen C dX11_copyRow_5 la_155 ly_155 ?_
  refine r_aload_n C 1 dX11_copyRow_6 rfl rfl ?_
  refine r_alen C dX11_copyRow_7 la_19 ly_19 ?_
  refine r_mmin C dX11_copyRow_8 mm_X11_465 ⟨Nat.le_of_ble_eq_true rfl, Nat.le_of_ble_eq_true rfl⟩ (by decide) (by decide) ?_
  refine r_acopy C dX11_copyRow_11 aw_X11_470 la_155 ly_155 la_19 ly_19 (by decide) (Nat.le_of_ble_eq_true rfl) (fun d1 => ?_)
  exact r_vret C dX11_copyRow_14 (by decide) (by decide)
theorem n_X11_copyRow_155_19 (d : D9) : NT9 (m_X11_copyRow_155_19  d) := by
  unfold m_X11_copyRow_155_19
  repeat (first | exact nt_rt | exact nt_none | apply nt_if | refine nt_cl ?_ (fun _ _ => ?_) | refine nt_cp9 (fun _ => ?_))
abbrev z_X11_copyRow_156_20 : Z9 := (none, 0, 0, 0, 2, 200)
def m_X11_copyRow_156_20 (d : D9) : Option R9 := cp9 d 156 120 20 120 (min9 120 120) (fun d1 => rt 0 d1)
set_option maxRecDepth 100000 in
theorem t_X11_copyRow_156_20 {G : G9} {l : Launch} (h1 : va_D (A9 G) (wl G (fun _ _ => 0))) (h2 : l.stackTraces = false) (d : D9) : MT G l yX11_copyRow cX11_copyRow 2 z_X11_copyRow_156_20 [rf G 156, rf G 20] d (m_X11_copyRow_156_20  d) := by
  refine mt_of (own := RX11) (by decide) rfl (Nat.le_of_ble_eq_true rfl) h1 h2 [(0, rf G 156), (1, rf G 20)] rfl (fun X hX C => ?_)
  unfold m_X11_copyRow_156_20
  refine r_aload_n C 0 dX11_copyRow_0 rfl rfl ?_
  refine r_iconst C dX11_copyRow_1 ?_
  refine r_aload_n C 1 dX11_copyRow_2 rfl rfl ?_
  refine r_iconst C dX11_copyRow_3 ?_
  refine r_aload_n C 0 dX11_copyRow_4 rfl rfl ?_
  refine r_alen C dX11_copyRow_5 la_156 ly_156 ?_
  refine r_aload_n C 1 dX11_copyRow_6 rfl rfl ?_
  refine r_alen C dX11_copyRow_7 la_20 ly_20 ?_
  refine r_mmin C dX11_copyRow_8 mm_X11_465 ⟨Nat.le_of_ble_eq_true rfl, Nat.le_of_ble_eq_true rfl⟩ (by decide) (by decide) ?_
  refine r_acopy C dX11_copyRow_11 aw_X11_470 la_156 ly_156 la_20 ly_20 (by decide) (Nat.le_of_ble_eq_true rfl) (fun d1 => ?_)
  exact r_vret C dX11_copyRow_14 (by decide) (by decide)
theorem n_X11_copyRow_156_20 (d : D9) : NT9 (m_X11_copyRow_156_20  d) := by
  unfold m_X11_copyRow_156_20
  repeat (first | exact nt_rt | exact nt_none | apply nt_if | refine nt_cl ?_ (fun _ _ => ?_) | refine nt_cp9 (fun _ => ?_))
abbrev z_X11_copyRow_157_21 : Z9 := (none, 0, 0, 0, 2, 200)
def m_X11_copyRow_157_21 (d : D9) : Option R9 := cp9 d 157 120 21 120 (min9 120 120) (fun d1 => rt 0 d1)
set_option maxRecDepth 100000 in
theorem t_X11_copyRow_157_21 {G : G9} {l : Launch} (h1 : va_D (A9 G) (wl G (fun _ _ => 0))) (h2 : l.stackTraces = false) (d : D9) : MT G l yX11_copyRow cX11_copyRow 2 z_X11_copyRow_157_21 [rf G 157, rf G 21] d (m_X11_copyRow_157_21  d) := by
  refine mt_of (own := RX11) (by decide) rfl (Nat.le_of_ble_eq_true rfl) h1 h2 [(0, rf G 157), (1, rf G 21)] rfl (fun X hX C => ?_)
  unfold m_X11_copyRow_157_21
  refine r_aload_n C 0 dX11_copyRow_0 rfl rfl ?_
  refine r_iconst C dX11_copyRow_1 ?_
  refine r_aload_n C 1 dX11_copyRow_2 rfl rfl ?_
  refine r_iconst C dX11_copyRow_3 ?_
  refine r_aload_n C 0 dX11_copyRow_4 rfl rfl ?_
  refine r_alen C dX11_copyRow_5 la_157 ly_157 ?_
  refine r_aload_n C 1 dX11_copyRow_6 rfl rfl ?_
  refine r_alen C dX11_copyRow_7 la_21 ly_21 ?_
  refine r_mmin C dX11_copyRow_8 mm_X11_465 ⟨Nat.le_of_ble_eq_true rfl, Nat.le_of_ble_eq_true rfl⟩ (by decide) (by decide) ?_
  refine r_acopy C dX11_copyRow_11 aw_X11_470 la_157 ly_157 la_21 ly_21 (by decide) (Nat.le_of_ble_eq_true rfl) (fun d1 => ?_)
  exact r_vret C dX11_copyRow_14 (by decide) (by decide)
theorem n_X11_copyRow_157_21 (d : D9) : NT9 (m_X11_copyRow_157_21  d) := by
  unfold m_X11_copyRow_157_21
  repeat (first | exact nt_rt | exact nt_none | apply nt_if | refine nt_cl ?_ (fun _ _ => ?_) | refine nt_cp9 (fun _ => ?_))
abbrev z_X6_copyFrom_9_145 : Z9 := (none, 0, 0, 0, 3, 221)
def m_X6_copyFrom_9_145 (d : D9) : Option R9 := pf d 9 0 (d 145 0) (fun d1 => cl (m_X11_copyRow_146_10 d1) (fun r2 d3 => cl (m_X11_copyRow_147_11 d3) (fun r4 d5 => cl (m_X11_copyRow_148_12 d5) (fun r6 d7 => cl (m_X11_copyRow_149_13 d7) (fun r8 d9 => cl (m_X11_copyRow_150_14 d9) (fun r10 d11 => cl (m_X11_copyRow_151_15 d11) (fun r12 d13 => cl (m_X11_copyRow_152_16 d13) (fun r14 d15 => cl (m_X11_copyRow_153_17 d15) (fun r16 d17 => cl (m_X11_copyRow_154_18 d17) (fun r18 d19 => cl (m_X11_copyRow_155_19 d19) (fun r20 d21 => cl (m_X11_copyRow_156_20 d21) (fun r22 d23 => cl (m_X11_copyRow_157_21 d23) (fun r24 d25 => rt 0 d25)))))))))))))
set_option maxRecDepth 100000 in
theorem t_X6_copyFrom_9_145 {G : G9} {l : Launch} (h1 : va_D (A9 G) (wl G (fun _ _ => 0))) (h2 : l.stackTraces = false) (d : D9) : MT G l yX6_copyFrom cX6_copyFrom 2 z_X6_copyFrom_9_145 [rf G 9, rf G 145] d (m_X6_copyFrom_9_145  d) := by
  refine mt_of (own := RX6) (by decide) rfl (Nat.le_of_ble_eq_true rfl) h1 h2 [(0, rf G 9), (1, rf G 145)] rfl (fun X hX C => ?_)
  unfold m_X6_copyFrom_9_145
  refine r_aload_n C 0 dX6_copyFrom_0 rfl rfl ?_
  refine r_aload_n C 1 dX6_copyFrom_1 rfl rfl ?_
  refine r_getI C dX6_copyFrom_2 fl_X6_48 la_145 ly_145 rfl ?_
  refine r_putI C dX6_copyFrom_5 fp_X6_48 la_9 ly_9 rfl (fun d1 => ?_)
  refine r_aload_n C 1 dX6_copyFrom_8 rfl rfl ?_
  refine r_getR C 146 dX6_copyFrom_9 fl_X6_9 la_145 ly_145 rfl rfl ?_
  refine r_aload_n C 0 dX6_copyFrom_12 rfl rfl ?_
  refine r_getR C 10 dX6_copyFrom_13 fl_X6_9 la_9 ly_9 rfl rfl ?_
  refine r_callN C [rf G 10, rf G 146] dX6_copyFrom_16 (t_X11_copyRow_146_10 C.h1 C.h2 d1) (n_X11_copyRow_146_10 d1) mn_X6_52 ms_X11_copyRow (by decide) (by decide) (by decide) rfl rfl (Nat.le_of_ble_eq_true rfl) (fun r2 d3 => ?_)
  show SS G X 2 _ _ 19 [(0, rf G 9), (1, rf G 145)] [] d3 _
  refine r_aload_n C 1 dX6_copyFrom_19 rfl rfl ?_
  refine r_getR C 147 dX6_copyFrom_20 fl_X6_15 la_145 ly_145 rfl rfl ?_
  refine r_aload_n C 0 dX6_copyFrom_23 rfl rfl ?_
  refine r_getR C 11 dX6_copyFrom_24 fl_X6_15 la_9 ly_9 rfl rfl ?_
  refine r_callN C [rf G 11, rf G 147] dX6_copyFrom_27 (t_X11_copyRow_147_11 C.h1 C.h2 d3) (n_X11_copyRow_147_11 d3) mn_X6_52 ms_X11_copyRow (by decide) (by decide) (by decide) rfl rfl (Nat.le_of_ble_eq_true rfl) (fun r4 d5 => ?_)
  show SS G X 2 _ _ 30 [(0, rf G 9), (1, rf G 145)] [] d5 _
  refine r_aload_n C 1 dX6_copyFrom_30 rfl rfl ?_
  refine r_getR C 148 dX6_copyFrom_31 fl_X6_18 la_145 ly_145 rfl rfl ?_
  refine r_aload_n C 0 dX6_copyFrom_34 rfl rfl ?_
  refine r_getR C 12 dX6_copyFrom_35 fl_X6_18 la_9 ly_9 rfl rfl ?_
  refine r_callN C [rf G 12, rf G 148] dX6_copyFrom_38 (t_X11_copyRow_148_12 C.h1 C.h2 d5) (n_X11_copyRow_148_12 d5) mn_X6_52 ms_X11_copyRow (by decide) (by decide) (by decide) rfl rfl (Nat.le_of_ble_eq_true rfl) (fun r6 d7 => ?_)
  show SS G X 2 _ _ 41 [(0, rf G 9), (1, rf G 145)] [] d7 _
  refine r_aload_n C 1 dX6_copyFrom_41 rfl rfl ?_
  refine r_getR C 149 dX6_copyFrom_42 fl_X6_21 la_145 ly_145 rfl rfl ?_
  refine r_aload_n C 0 dX6_copyFrom_45 rfl rfl ?_
  refine r_getR C 13 dX6_copyFrom_46 fl_X6_21 la_9 ly_9 rfl rfl ?_
  refine r_callN C [rf G 13, rf G 149] dX6_copyFrom_49 (t_X11_copyRow_149_13 C.h1 C.h2 d7) (n_X11_copyRow_149_13 d7) mn_X6_52 ms_X11_copyRow (by decide) (by decide) (by decide) rfl rfl (Nat.le_of_ble_eq_true rfl) (fun r8 d9 => ?_)
  show SS G X 2 _ _ 52 [(0, rf G 9), (1, rf G 145)] [] d9 _
  refine r_aload_n C 1 dX6_copyFrom_52 rfl rfl ?_
  refine r_getR C 150 dX6_copyFrom_53 fl_X6_24 la_145 ly_145 rfl rfl ?_
  refine r_aload_n C 0 dX6_copyFrom_56 rfl rfl ?_
  refine r_getR C 14 dX6_copyFrom_57 fl_X6_24 la_9 ly_9 rfl rfl ?_
  refine r_callN C [rf G 14, rf G 150] dX6_copyFrom_60 (t_X11_copyRow_150_14 C.h1 C.h2 d9) (n_X11_copyRow_150_14 d9) mn_X6_52 ms_X11_copyRow (by decide) (by decide) (by decide) rfl rfl (Nat.le_of_ble_eq_true rfl) (fun r10 d11 => ?_)
  show SS G X 2 _ _ 63 [(0, rf G 9), (1, rf G 145)] [] d11 _
  refine r_aload_n C 1 dX6_copyFrom_63 rfl rfl ?_
  refine r_getR C 151 dX6_copyFrom_64 fl_X6_27 la_145 ly_145 rfl rfl ?_
  refine r_aload_n C 0 dX6_copyFrom_67 rfl rfl ?_
  refine r_getR C 15 dX6_copyFrom_68 fl_X6_27 la_9 ly_9 rfl rfl ?_
  refine r_callN C [rf G 15, rf G 151] dX6_copyFrom_71 (t_X11_copyRow_151_15 C.h1 C.h2 d11) (n_X11_copyRow_151_15 d11) mn_X6_52 ms_X11_copyRow (by decide) (by decide) (by decide) rfl rfl (Nat.le_of_ble_eq_true rfl) (fun r12 d13 => ?_)
  show SS G X 2 _ _ 74 [(0, rf G 9), (1, rf G 145)] [] d13 _
  refine r_aload_n C 1 dX6_copyFrom_74 rfl rfl ?_
  refine r_getR C 152 dX6_copyFrom_75 fl_X6_30 la_145 ly_145 rfl rfl ?_
  refine r_aload_n C 0 dX6_copyFrom_78 rfl rfl ?_
  refine r_getR C 16 dX6_copyFrom_79 fl_X6_30 la_9 ly_9 rfl rfl ?_
  refine r_callN C [rf G 16, rf G 152] dX6_copyFrom_82 (t_X11_copyRow_152_16 C.h1 C.h2 d13) (n_X11_copyRow_152_16 d13) mn_X6_52 ms_X11_copyRow (by decide) (by decide) (by decide) rfl rfl (Nat.le_of_ble_eq_true rfl) (fun r14 d15 => ?_)
  show SS G X 2 _ _ 85 [(0, rf G 9), (1, rf G 145)] [] d15 _
  refine r_aload_n C 1 dX6_copyFrom_85 rfl rfl ?_
  refine r_getR C 153 dX6_copyFrom_86 fl_X6_33 la_145 ly_145 rfl rfl ?_
  refine r_aload_n C 0 dX6_copyFrom_89 rfl rfl ?_
  refine r_getR C 17 dX6_copyFrom_90 fl_X6_33 la_9 ly_9 rfl rfl ?_
  refine r_callN C [rf G 17, rf G 153] dX6_copyFrom_93 (t_X11_copyRow_153_17 C.h1 C.h2 d15) (n_X11_copyRow_153_17 d15) mn_X6_52 ms_X11_copyRow (by decide) (by decide) (by decide) rfl rfl (Nat.le_of_ble_eq_true rfl) (fun r16 d17 => ?_)
  show SS G X 2 _ _ 96 [(0, rf G 9), (1, rf G 145)] [] d17 _
  refine r_aload_n C 1 dX6_copyFrom_96 rfl rfl ?_
  refine r_getR C 154 dX6_copyFrom_97 fl_X6_36 la_145 ly_145 rfl rfl ?_
  refine r_aload_n C 0 dX6_copyFrom_100 rfl rfl ?_
  refine r_getR C 18 dX6_copyFrom_101 fl_X6_36 la_9 ly_9 rfl rfl ?_
  refine r_callN C [rf G 18, rf G 154] dX6_copyFrom_104 (t_X11_copyRow_154_18 C.h1 C.h2 d17) (n_X11_copyRow_154_18 d17) mn_X6_52 ms_X11_copyRow (by decide) (by decide) (by decide) rfl rfl (Nat.le_of_ble_eq_true rfl) (fun r18 d19 => ?_)
  show SS G X 2 _ _ 107 [(0, rf G 9), (1, rf G 145)] [] d19 _
  refine r_aload_n C 1 dX6_copyFrom_107 rfl rfl ?_
  refine r_getR C 155 dX6_copyFrom_108 fl_X6_39 la_145 ly_145 rfl rfl ?_
  refine r_aload_n C 0 dX6_copyFrom_111 rfl rfl ?_
  refine r_getR C 19 dX6_copyFrom_112 fl_X6_39 la_9 ly_9 rfl rfl ?_
  refine r_callN C [rf G 19, rf G 155] dX6_copyFrom_115 (t_X11_copyRow_155_19 C.h1 C.h2 d19) (n_X11_copyRow_155_19 d19) mn_X6_52 ms_X11_copyRow (by decide) (by decide) (by decide) rfl rfl (Nat.le_of_ble_eq_true rfl) (fun r20 d21 => ?_)
  show SS G X 2 _ _ 118 [(0, rf G 9), (1, rf G 145)] [] d21 _
  refine r_aload_n C 1 dX6_copyFrom_118 rfl rfl ?_
  refine r_getR C 156 dX6_copyFrom_119 fl_X6_42 la_145 ly_145 rfl rfl ?_
  refine r_aload_n C 0 dX6_copyFrom_122 rfl rfl ?_
  refine r_getR C 20 dX6_copyFrom_123 fl_X6_42 la_9 ly_9 rfl rfl ?_
  refine r_callN C [rf G 20, rf G 156] dX6_copyFrom_126 (t_X11_copyRow_156_20 C.h1 C.h2 d21) (n_X11_copyRow_156_20 d21) mn_X6_52 ms_X11_copyRow (by decide) (by decide) (by decide) rfl rfl (Nat.le_of_ble_eq_true rfl) (fun r22 d23 => ?_)
  show SS G X 2 _ _ 129 [(0, rf G 9), (1, rf G 145)] [] d23 _
  refine r_aload_n C 1 dX6_copyFrom_129 rfl rfl ?_
  refine r_getR C 157 dX6_copyFrom_130 fl_X6_45 la_145 ly_145 rfl rfl ?_
  refine r_aload_n C 0 dX6_copyFrom_133 rfl rfl ?_
  refine r_getR C 21 dX6_copyFrom_134 fl_X6_45 la_9 ly_9 rfl rfl ?_
  refine r_callN C [rf G 21, rf G 157] dX6_copyFrom_137 (t_X11_copyRow_157_21 C.h1 C.h2 d23) (n_X11_copyRow_157_21 d23) mn_X6_52 ms_X11_copyRow (by decide) (by decide) (by decide) rfl rfl (Nat.le_of_ble_eq_true rfl) (fun r24 d25 => ?_)
  show SS G X 2 _ _ 140 [(0, rf G 9), (1, rf G 145)] [] d25 _
  exact r_vret C dX6_copyFrom_140 (by decide) (by decide)
abbrev z_X2_copyFrom_22_158 : Z9 := (none, 0, 0, 0, 1, 0)
def m_X2_copyFrom_22_158 (d : D9) : Option R9 := pf d 22 0 (d 158 0) (fun d1 => pf d1 22 1 (d1 158 1) (fun d2 => pf d2 22 2 (d2 158 2) (fun d3 => pf d3 22 3 (d3 158 3) (fun d4 => pf d4 22 4 (d4 158 4) (fun d5 => pf d5 22 5 (d5 158 5) (fun d6 => pf d6 22 6 (d6 158 6) (fun d7 => pf d7 22 7 (d7 158 7) (fun d8 => rt 0 d8))))))))
set_option maxRecDepth 100000 in
theorem t_X2_copyFrom_22_158 {G : G9} {l : Launch} (h1 : va_D (A9 G) (wl G (fun _ _ => 0))) (h2 : l.stackTraces = false) (d : D9) : MT G l yX2_copyFrom cX2_copyFrom 2 z_X2_copyFrom_22_158 [rf G 22, rf G 158] d (m_X2_copyFrom_22_158  d) := by
  refine mt_of (own := RX2) (by decide) rfl (Nat.le_of_ble_eq_true rfl) h1 h2 [(0, rf G 22), (1, rf G 158)] rfl (fun X hX C => ?_)
  unfold m_X2_copyFrom_22_158
  refine r_aload_n C 0 dX2_copyFrom_0 rfl rfl ?_
  refine r_aload_n C 1 dX2_copyFrom_1 rfl rfl ?_
  refine r_getI C dX2_copyFrom_2 fl_X2_14 la_158 ly_158 rfl ?_
  refine r_putI C dX2_copyFrom_5 fp_X2_14 la_22 ly_22 rfl (fun d1 => ?_)
  refine r_aload_n C 0 dX2_copyFrom_8 rfl rfl ?_
  refine r_aload_n C 1 dX2_copyFrom_9 rfl rfl ?_
  refine r_getI C dX2_copyFrom_10 fl_X2_18 la_158 ly_158 rfl ?_
  refine r_putI C dX2_copyFrom_13 fp_X2_18 la_22 ly_22 rfl (fun d2 => ?_)
  refine r_aload_n C 0 dX2_copyFrom_16 rfl rfl ?_
  refine r_aload_n C 1 dX2_copyFrom_17 rfl rfl ?_
  refine r_getI C dX2_copyFrom_18 fl_X2_21 la_158 ly_158 rfl ?_
  refine r_putI C dX2_copyFrom_21 fp_X2_21 la_22 ly_22 rfl (fun d3 => ?_)
  refine r_aload_n C 0 dX2_copyFrom_24 rfl rfl ?_
  refine r_aload_n C 1 dX2_copyFrom_25 rfl rfl ?_
  refine r_getI C dX2_copyFrom_26 fl_X2_24 la_158 ly_158 rfl ?_
  refine r_putI C dX2_copyFrom_29 fp_X2_24 la_22 ly_22 rfl (fun d4 => ?_)
  refine r_aload_n C 0 dX2_copyFrom_32 rfl rfl ?_
  refine r_aload_n C 1 dX2_copyFrom_33 rfl rfl ?_
  refine r_getI C dX2_copyFrom_34 fl_X2_27 la_158 ly_158 rfl ?_
  refine r_putI C dX2_copyFrom_37 fp_X2_27 la_22 ly_22 rfl (fun d5 => ?_)
  refine r_aload_n C 0 dX2_copyFrom_40 rfl rfl ?_
  refine r_aload_n C 1 dX2_copyFrom_41 rfl rfl ?_
  refine r_getI C dX2_copyFrom_42 fl_X2_30 la_158 ly_158 rfl ?_
  refine r_putI C dX2_copyFrom_45 fp_X2_30 la_22 ly_22 rfl (fun d6 => ?_)
  refine r_aload_n C 0 dX2_copyFrom_48 rfl rfl ?_
  refine r_aload_n C 1 dX2_copyFrom_49 rfl rfl ?_
  refine r_getI C dX2_copyFrom_50 fl_X2_33 la_158 ly_158 rfl ?_
  refine r_putI C dX2_copyFrom_53 fp_X2_33 la_22 ly_22 rfl (fun d7 => ?_)
  refine r_aload_n C 0 dX2_copyFrom_56 rfl rfl ?_
  refine r_aload_n C 1 dX2_copyFrom_57 rfl rfl ?_
  refine r_getI C dX2_copyFrom_58 fl_X2_36 la_158 ly_158 rfl ?_
  refine r_putI C dX2_copyFrom_61 fp_X2_36 la_22 ly_22 rfl (fun d8 => ?_)
  exact r_vret C dX2_copyFrom_64 (by decide) (by decide)
abbrev z_X11_copyRow_160_24 : Z9 := (none, 0, 0, 0, 2, 200)
def m_X11_copyRow_160_24 (d : D9) : Option R9 := cp9 d 160 12 24 12 (min9 12 12) (fun d1 => rt 0 d1)
set_option maxRecDepth 100000 in
theorem t_X11_copyRow_160_24 {G : G9} {l : Launch} (h1 : va_D (A9 G) (wl G (fun _ _ => 0))) (h2 : l.stackTraces = false) (d : D9) : MT G l yX11_copyRow cX11_copyRow 2 z_X11_copyRow_160_24 [rf G 160, rf G 24] d (m_X11_copyRow_160_24  d) := by
  refine mt_of (own := RX11) (by decide) rfl (Nat.le_of_ble_eq_true rfl) h1 h2 [(0, rf G 160), (1, rf G 24)] rfl (fun X hX C => ?_)
  unfold m_X11_copyRow_160_24
  refine r_aload_n C 0 dX11_copyRow_0 rfl rfl ?_
  refine r_iconst C dX11_copyRow_1 ?_
  refine r_aload_n C 1 dX11_copyRow_2 rfl rfl ?_
  refine r_iconst C dX11_copyRow_3 ?_
  refine r_aload_n C 0 dX11_copyRow_4 rfl rfl ?_
  refine r_alen C dX11_copyRow_5 la_160 ly_160 ?_
  refine r_aload_n C 1 dX11_copyRow_6 rfl rfl ?_
  refine r_alen C dX11_copyRow_7 la_24 ly_24 ?_
  refine r_mmin C dX11_copyRow_8 mm_X11_465 ⟨Nat.le_of_ble_eq_true rfl, Nat.le_of_ble_eq_true rfl⟩ (by decide) (by decide) ?_
  refine r_acopy C dX11_copyRow_11 aw_X11_470 la_160 ly_160 la_24 ly_24 (by decide) (Nat.le_of_ble_eq_true rfl) (fun d1 => ?_)
  exact r_vret C dX11_copyRow_14 (by decide) (by decide)
theorem n_X11_copyRow_160_24 (d : D9) : NT9 (m_X11_copyRow_160_24  d) := by
  unfold m_X11_copyRow_160_24
  repeat (first | exact nt_rt | exact nt_none | apply nt_if | refine nt_cl ?_ (fun _ _ => ?_) | refine nt_cp9 (fun _ => ?_))
abbrev z_X11_copyRow_161_25 : Z9 := (none, 0, 0, 0, 2, 200)
def m_X11_copyRow_161_25 (d : D9) : Option R9 := cp9 d 161 12 25 12 (min9 12 12) (fun d1 => rt 0 d1)
set_option maxRecDepth 100000 in
theorem t_X11_copyRow_161_25 {G : G9} {l : Launch} (h1 : va_D (A9 G) (wl G (fun _ _ => 0))) (h2 : l.stackTraces = false) (d : D9) : MT G l yX11_copyRow cX11_copyRow 2 z_X11_copyRow_161_25 [rf G 161, rf G 25] d (m_X11_copyRow_161_25  d) := by
  refine mt_of (own := RX11) (by decide) rfl (Nat.le_of_ble_eq_true rfl) h1 h2 [(0, rf G 161), (1, rf G 25)] rfl (fun X hX C => ?_)
  unfold m_X11_copyRow_161_25
  refine r_aload_n C 0 dX11_copyRow_0 rfl rfl ?_
  refine r_iconst C dX11_copyRow_1 ?_
  refine r_aload_n C 1 dX11_copyRow_2 rfl rfl ?_
  refine r_iconst C dX11_copyRow_3 ?_
  refine r_aload_n C 0 dX11_copyRow_4 rfl rfl ?_
  refine r_alen C dX11_copyRow_5 la_161 ly_161 ?_
  refine r_aload_n C 1 dX11_copyRow_6 rfl rfl ?_
  refine r_alen C dX11_copyRow_7 la_25 ly_25 ?_
  refine r_mmin C dX11_copyRow_8 mm_X11_465 ⟨Nat.le_of_ble_eq_true rfl, Nat.le_of_ble_eq_true rfl⟩ (by decide) (by decide) ?_
  refine r_acopy C dX11_copyRow_11 aw_X11_470 la_161 ly_161 la_25 ly_25 (by decide) (Nat.le_of_ble_eq_true rfl) (fun d1 => ?_)
  exact r_vret C dX11_copyRow_14 (by decide) (by decide)
theorem n_X11_copyRow_161_25 (d : D9) : NT9 (m_X11_copyRow_161_25  d) := by
  unfold m_X11_copyRow_161_25
  repeat (first | exact nt_rt | exact nt_none | apply nt_if | refine nt_cl ?_ (fun _ _ => ?_) | refine nt_cp9 (fun _ => ?_))
abbrev z_X11_copyRow_162_26 : Z9 := (none, 0, 0, 0, 2, 200)
def m_X11_copyRow_162_26 (d : D9) : Option R9 := cp9 d 162 12 26 12 (min9 12 12) (fun d1 => rt 0 d1)
set_option maxRecDepth 100000 in
theorem t_X11_copyRow_162_26 {G : G9} {l : Launch} (h1 : va_D (A9 G) (wl G (fun _ _ => 0))) (h2 : l.stackTraces = false) (d : D9) : MT G l yX11_copyRow cX11_copyRow 2 z_X11_copyRow_162_26 [rf G 162, rf G 26] d (m_X11_copyRow_162_26  d) := by
  refine mt_of (own := RX11) (by decide) rfl (Nat.le_of_ble_eq_true rfl) h1 h2 [(0, rf G 162), (1, rf G 26)] rfl (fun X hX C => ?_)
  unfold m_X11_copyRow_162_26
  refine r_aload_n C 0 dX11_copyRow_0 rfl rfl ?_
  refine r_iconst C dX11_copyRow_1 ?_
  refine r_aload_n C 1 dX11_copyRow_2 rfl rfl ?_
  refine r_iconst C dX11_copyRow_3 ?_
  refine r_aload_n C 0 dX11_copyRow_4 rfl rfl ?_
  refine r_alen C dX11_copyRow_5 la_162 ly_162 ?_
  refine r_aload_n C 1 dX11_copyRow_6 rfl rfl ?_
  refine r_alen C dX11_copyRow_7 la_26 ly_26 ?_
  refine r_mmin C dX11_copyRow_8 mm_X11_465 ⟨Nat.le_of_ble_eq_true rfl, Nat.le_of_ble_eq_true rfl⟩ (by decide) (by decide) ?_
  refine r_acopy C dX11_copyRow_11 aw_X11_470 la_162 ly_162 la_26 ly_26 (by decide) (Nat.le_of_ble_eq_true rfl) (fun d1 => ?_)
  exact r_vret C dX11_copyRow_14 (by decide) (by decide)
theorem n_X11_copyRow_162_26 (d : D9) : NT9 (m_X11_copyRow_162_26  d) := by
  unfold m_X11_copyRow_162_26
  repeat (first | exact nt_rt | exact nt_none | apply nt_if | refine nt_cl ?_ (fun _ _ => ?_) | refine nt_cp9 (fun _ => ?_))
abbrev z_X11_copyRow_163_27 : Z9 := (none, 0, 0, 0, 2, 200)
def m_X11_copyRow_163_27 (d : D9) : Option R9 := cp9 d 163 12 27 12 (min9 12 12) (fun d1 => rt 0 d1)
set_option maxRecDepth 100000 in
theorem t_X11_copyRow_163_27 {G : G9} {l : Launch} (h1 : va_D (A9 G) (wl G (fun _ _ => 0))) (h2 : l.stackTraces = false) (d : D9) : MT G l yX11_copyRow cX11_copyRow 2 z_X11_copyRow_163_27 [rf G 163, rf G 27] d (m_X11_copyRow_163_27  d) := by
  refine mt_of (own := RX11) (by decide) rfl (Nat.le_of_ble_eq_true rfl) h1 h2 [(0, rf G 163), (1, rf G 27)] rfl (fun X hX C => ?_)
  unfold m_X11_copyRow_163_27
  refine r_aload_n C 0 dX11_copyRow_0 rfl rfl ?_
  refine r_iconst C dX11_copyRow_1 ?_
  refine r_aload_n C 1 dX11_copyRow_2 rfl rfl ?_
  refine r_iconst C dX11_copyRow_3 ?_
  refine r_aload_n C 0 dX11_copyRow_4 rfl rfl ?_
  refine r_alen C dX11_copyRow_5 la_163 ly_163 ?_
  refine r_aload_n C 1 dX11_copyRow_6 rfl rfl ?_
  refine r_alen C dX11_copyRow_7 la_27 ly_27 ?_
  refine r_mmin C dX11_copyRow_8 mm_X11_465 ⟨Nat.le_of_ble_eq_true rfl, Nat.le_of_ble_eq_true rfl⟩ (by decide) (by decide) ?_
  refine r_acopy C dX11_copyRow_11 aw_X11_470 la_163 ly_163 la_27 ly_27 (by decide) (Nat.le_of_ble_eq_true rfl) (fun d1 => ?_)
  exact r_vret C dX11_copyRow_14 (by decide) (by decide)
theorem n_X11_copyRow_163_27 (d : D9) : NT9 (m_X11_copyRow_163_27  d) := by
  unfold m_X11_copyRow_163_27
  repeat (first | exact nt_rt | exact nt_none | apply nt_if | refine nt_cl ?_ (fun _ _ => ?_) | refine nt_cp9 (fun _ => ?_))
abbrev z_X7_copyFrom_23_159 : Z9 := (none, 0, 0, 0, 3, 221)
def m_X7_copyFrom_23_159 (d : D9) : Option R9 := pf d 23 0 (d 159 0) (fun d1 => cl (m_X11_copyRow_160_24 d1) (fun r2 d3 => cl (m_X11_copyRow_161_25 d3) (fun r4 d5 => cl (m_X11_copyRow_162_26 d5) (fun r6 d7 => cl (m_X11_copyRow_163_27 d7) (fun r8 d9 => rt 0 d9)))))
set_option maxRecDepth 100000 in
theorem t_X7_copyFrom_23_159 {G : G9} {l : Launch} (h1 : va_D (A9 G) (wl G (fun _ _ => 0))) (h2 : l.stackTraces = false) (d : D9) : MT G l yX7_copyFrom cX7_copyFrom 2 z_X7_copyFrom_23_159 [rf G 23, rf G 159] d (m_X7_copyFrom_23_159  d) := by
  refine mt_of (own := RX7) (by decide) rfl (Nat.le_of_ble_eq_true rfl) h1 h2 [(0, rf G 23), (1, rf G 159)] rfl (fun X hX C => ?_)
  unfold m_X7_copyFrom_23_159
  refine r_aload_n C 0 dX7_copyFrom_0 rfl rfl ?_
  refine r_aload_n C 1 dX7_copyFrom_1 rfl rfl ?_
  refine r_getI C dX7_copyFrom_2 fl_X7_24 la_159 ly_159 rfl ?_
  refine r_putI C dX7_copyFrom_5 fp_X7_24 la_23 ly_23 rfl (fun d1 => ?_)
  refine r_aload_n C 1 dX7_copyFrom_8 rfl rfl ?_
  refine r_getR C 160 dX7_copyFrom_9 fl_X7_9 la_159 ly_159 rfl rfl ?_
  refine r_aload_n C 0 dX7_copyFrom_12 rfl rfl ?_
  refine r_getR C 24 dX7_copyFrom_13 fl_X7_9 la_23 ly_23 rfl rfl ?_
  refine r_callN C [rf G 24, rf G 160] dX7_copyFrom_16 (t_X11_copyRow_160_24 C.h1 C.h2 d1) (n_X11_copyRow_160_24 d1) mn_X7_28 ms_X11_copyRow (by decide) (by decide) (by decide) rfl rfl (Nat.le_of_ble_eq_true rfl) (fun r2 d3 => ?_)
  show SS G X 2 _ _ 19 [(0, rf G 23), (1, rf G 159)] [] d3 _
  refine r_aload_n C 1 dX7_copyFrom_19 rfl rfl ?_
  refine r_getR C 161 dX7_copyFrom_20 fl_X7_15 la_159 ly_159 rfl rfl ?_
  refine r_aload_n C 0 dX7_copyFrom_23 rfl rfl ?_
  refine r_getR C 25 dX7_copyFrom_24 fl_X7_15 la_23 ly_23 rfl rfl ?_
  refine r_callN C [rf G 25, rf G 161] dX7_copyFrom_27 (t_X11_copyRow_161_25 C.h1 C.h2 d3) (n_X11_copyRow_161_25 d3) mn_X7_28 ms_X11_copyRow (by decide) (by decide) (by decide) rfl rfl (Nat.le_of_ble_eq_true rfl) (fun r4 d5 => ?_)
  show SS G X 2 _ _ 30 [(0, rf G 23), (1, rf G 159)] [] d5 _
  refine r_aload_n C 1 dX7_copyFrom_30 rfl rfl ?_
  refine r_getR C 162 dX7_copyFrom_31 fl_X7_18 la_159 ly_159 rfl rfl ?_
  refine r_aload_n C 0 dX7_copyFrom_34 rfl rfl ?_
  refine r_getR C 26 dX7_copyFrom_35 fl_X7_18 la_23 ly_23 rfl rfl ?_
  refine r_callN C [rf G 26, rf G 162] dX7_copyFrom_38 (t_X11_copyRow_162_26 C.h1 C.h2 d5) (n_X11_copyRow_162_26 d5) mn_X7_28 ms_X11_copyRow (by decide) (by decide) (by decide) rfl rfl (Nat.le_of_ble_eq_true rfl) (fun r6 d7 => ?_)
  show SS G X 2 _ _ 41 [(0, rf G 23), (1, rf G 159)] [] d7 _
  refine r_aload_n C 1 dX7_copyFrom_41 rfl rfl ?_
  refine r_getR C 163 dX7_copyFrom_42 fl_X7_21 la_159 ly_159 rfl rfl ?_
  refine r_aload_n C 0 dX7_copyFrom_45 rfl rfl ?_
  refine r_getR C 27 dX7_copyFrom_46 fl_X7_21 la_23 ly_23 rfl rfl ?_
  refine r_callN C [rf G 27, rf G 163] dX7_copyFrom_49 (t_X11_copyRow_163_27 C.h1 C.h2 d7) (n_X11_copyRow_163_27 d7) mn_X7_28 ms_X11_copyRow (by decide) (by decide) (by decide) rfl rfl (Nat.le_of_ble_eq_true rfl) (fun r8 d9 => ?_)
  show SS G X 2 _ _ 52 [(0, rf G 23), (1, rf G 159)] [] d9 _
  exact r_vret C dX7_copyFrom_52 (by decide) (by decide)
abbrev z_X11_copyRow_165_29 : Z9 := (none, 0, 0, 0, 2, 200)
def m_X11_copyRow_165_29 (d : D9) : Option R9 := cp9 d 165 12 29 12 (min9 12 12) (fun d1 => rt 0 d1)
set_option maxRecDepth 100000 in
theorem t_X11_copyRow_165_29 {G : G9} {l : Launch} (h1 : va_D (A9 G) (wl G (fun _ _ => 0))) (h2 : l.stackTraces = false) (d : D9) : MT G l yX11_copyRow cX11_copyRow 2 z_X11_copyRow_165_29 [rf G 165, rf G 29] d (m_X11_copyRow_165_29  d) := by
  refine mt_of (own := RX11) (by decide) rfl (Nat.le_of_ble_eq_true rfl) h1 h2 [(0, rf G 165), (1, rf G 29)] rfl (fun X hX C => ?_)
  unfold m_X11_copyRow_165_29
  refine r_aload_n C 0 dX11_copyRow_0 rfl rfl ?_
  refine r_iconst C dX11_copyRow_1 ?_
  refine r_aload_n C 1 dX11_copyRow_2 rfl rfl ?_
  refine r_iconst C dX11_copyRow_3 ?_
  refine r_aload_n C 0 dX11_copyRow_4 rfl rfl ?_
  refine r_alen C dX11_copyRow_5 la_165 ly_165 ?_
  refine r_aload_n C 1 dX11_copyRow_6 rfl rfl ?_
  refine r_alen C dX11_copyRow_7 la_29 ly_29 ?_
  refine r_mmin C dX11_copyRow_8 mm_X11_465 ⟨Nat.le_of_ble_eq_true rfl, Nat.le_of_ble_eq_true rfl⟩ (by decide) (by decide) ?_
  refine r_acopy C dX11_copyRow_11 aw_X11_470 la_165 ly_165 la_29 ly_29 (by decide) (Nat.le_of_ble_eq_true rfl) (fun d1 => ?_)
  exact r_vret C dX11_copyRow_14 (by decide) (by decide)
theorem n_X11_copyRow_165_29 (d : D9) : NT9 (m_X11_copyRow_165_29  d) := by
  unfold m_X11_copyRow_165_29
  repeat (first | exact nt_rt | exact nt_none | apply nt_if | refine nt_cl ?_ (fun _ _ => ?_) | refine nt_cp9 (fun _ => ?_))
abbrev z_X11_copyRow_166_30 : Z9 := (none, 0, 0, 0, 2, 200)
def m_X11_copyRow_166_30 (d : D9) : Option R9 := cp9 d 166 12 30 12 (min9 12 12) (fun d1 => rt 0 d1)
set_option maxRecDepth 100000 in
theorem t_X11_copyRow_166_30 {G : G9} {l : Launch} (h1 : va_D (A9 G) (wl G (fun _ _ => 0))) (h2 : l.stackTraces = false) (d : D9) : MT G l yX11_copyRow cX11_copyRow 2 z_X11_copyRow_166_30 [rf G 166, rf G 30] d (m_X11_copyRow_166_30  d) := by
  refine mt_of (own := RX11) (by decide) rfl (Nat.le_of_ble_eq_true rfl) h1 h2 [(0, rf G 166), (1, rf G 30)] rfl (fun X hX C => ?_)
  unfold m_X11_copyRow_166_30
  refine r_aload_n C 0 dX11_copyRow_0 rfl rfl ?_
  refine r_iconst C dX11_copyRow_1 ?_
  refine r_aload_n C 1 dX11_copyRow_2 rfl rfl ?_
  refine r_iconst C dX11_copyRow_3 ?_
  refine r_aload_n C 0 dX11_copyRow_4 rfl rfl ?_
  refine r_alen C dX11_copyRow_5 la_166 ly_166 ?_
  refine r_aload_n C 1 dX11_copyRow_6 rfl rfl ?_
  refine r_alen C dX11_copyRow_7 la_30 ly_30 ?_
  refine r_mmin C dX11_copyRow_8 mm_X11_465 ⟨Nat.le_of_ble_eq_true rfl, Nat.le_of_ble_eq_true rfl⟩ (by decide) (by decide) ?_
  refine r_acopy C dX11_copyRow_11 aw_X11_470 la_166 ly_166 la_30 ly_30 (by decide) (Nat.le_of_ble_eq_true rfl) (fun d1 => ?_)
  exact r_vret C dX11_copyRow_14 (by decide) (by decide)
theorem n_X11_copyRow_166_30 (d : D9) : NT9 (m_X11_copyRow_166_30  d) := by
  unfold m_X11_copyRow_166_30
  repeat (first | exact nt_rt | exact nt_none | apply nt_if | refine nt_cl ?_ (fun _ _ => ?_) | refine nt_cp9 (fun _ => ?_))
abbrev z_X11_copyRow_167_31 : Z9 := (none, 0, 0, 0, 2, 200)
def m_X11_copyRow_167_31 (d : D9) : Option R9 := cp9 d 167 12 31 12 (min9 12 12) (fun d1 => rt 0 d1)
set_option maxRecDepth 100000 in
theorem t_X11_copyRow_167_31 {G : G9} {l : Launch} (h1 : va_D (A9 G) (wl G (fun _ _ => 0))) (h2 : l.stackTraces = false) (d : D9) : MT G l yX11_copyRow cX11_copyRow 2 z_X11_copyRow_167_31 [rf G 167, rf G 31] d (m_X11_copyRow_167_31  d) := by
  refine mt_of (own := RX11) (by decide) rfl (Nat.le_of_ble_eq_true rfl) h1 h2 [(0, rf G 167), (1, rf G 31)] rfl (fun X hX C => ?_)
  unfold m_X11_copyRow_167_31
  refine r_aload_n C 0 dX11_copyRow_0 rfl rfl ?_
  refine r_iconst C dX11_copyRow_1 ?_
  refine r_aload_n C 1 dX11_copyRow_2 rfl rfl ?_
  refine r_iconst C dX11_copyRow_3 ?_
  refine r_aload_n C 0 dX11_copyRow_4 rfl rfl ?_
  refine r_alen C dX11_copyRow_5 la_167 ly_167 ?_
  refine r_aload_n C 1 dX11_copyRow_6 rfl rfl ?_
  refine r_alen C dX11_copyRow_7 la_31 ly_31 ?_
  refine r_mmin C dX11_copyRow_8 mm_X11_465 ⟨Nat.le_of_ble_eq_true rfl, Nat.le_of_ble_eq_true rfl⟩ (by decide) (by decide) ?_
  refine r_acopy C dX11_copyRow_11 aw_X11_470 la_167 ly_167 la_31 ly_31 (by decide) (Nat.le_of_ble_eq_true rfl) (fun d1 => ?_)
  exact r_vret C dX11_copyRow_14 (by decide) (by decide)
theorem n_X11_copyRow_167_31 (d : D9) : NT9 (m_X11_copyRow_167_31  d) := by
  unfold m_X11_copyRow_167_31
  repeat (first | exact nt_rt | exact nt_none | apply nt_if | refine nt_cl ?_ (fun _ _ => ?_) | refine nt_cp9 (fun _ => ?_))
abbrev z_X11_copyRow_168_32 : Z9 := (none, 0, 0, 0, 2, 200)
def m_X11_copyRow_168_32 (d : D9) : Option R9 := cp9 d 168 400 32 400 (min9 400 400) (fun d1 => rt 0 d1)
set_option maxRecDepth 100000 in
theorem t_X11_copyRow_168_32 {G : G9} {l : Launch} (h1 : va_D (A9 G) (wl G (fun _ _ => 0))) (h2 : l.stackTraces = false) (d : D9) : MT G l yX11_copyRow cX11_copyRow 2 z_X11_copyRow_168_32 [rf G 168, rf G 32] d (m_X11_copyRow_168_32  d) := by
  refine mt_of (own := RX11) (by decide) rfl (Nat.le_of_ble_eq_true rfl) h1 h2 [(0, rf G 168), (1, rf G 32)] rfl (fun X hX C => ?_)
  unfold m_X11_copyRow_168_32
  refine r_aload_n C 0 dX11_copyRow_0 rfl rfl ?_
  refine r_iconst C dX11_copyRow_1 ?_
  refine r_aload_n C 1 dX11_copyRow_2 rfl rfl ?_
  refine r_iconst C dX11_copyRow_3 ?_
  refine r_aload_n C 0 dX11_copyRow_4 rfl rfl ?_
  refine r_alen C dX11_copyRow_5 la_168 ly_168 ?_
  refine r_aload_n C 1 dX11_copyRow_6 rfl rfl ?_
  refine r_alen C dX11_copyRow_7 la_32 ly_32 ?_
  refine r_mmin C dX11_copyRow_8 mm_X11_465 ⟨Nat.le_of_ble_eq_true rfl, Nat.le_of_ble_eq_true rfl⟩ (by decide) (by decide) ?_
  refine r_acopy C dX11_copyRow_11 aw_X11_470 la_168 ly_168 la_32 ly_32 (by decide) (Nat.le_of_ble_eq_true rfl) (fun d1 => ?_)
  exact r_vret C dX11_copyRow_14 (by decide) (by decide)
theorem n_X11_copyRow_168_32 (d : D9) : NT9 (m_X11_copyRow_168_32  d) := by
  unfold m_X11_copyRow_168_32
  repeat (first | exact nt_rt | exact nt_none | apply nt_if | refine nt_cl ?_ (fun _ _ => ?_) | refine nt_cp9 (fun _ => ?_))
abbrev z_X4_copyFrom_28_164 : Z9 := (none, 0, 0, 0, 3, 221)
def m_X4_copyFrom_28_164 (d : D9) : Option R9 := pf d 28 0 (d 164 0) (fun d1 => pf d1 28 1 (d1 164 1) (fun d2 => cl (m_X11_copyRow_165_29 d2) (fun r3 d4 => cl (m_X11_copyRow_166_30 d4) (fun r5 d6 => cl (m_X11_copyRow_167_31 d6) (fun r7 d8 => cl (m_X11_copyRow_168_32 d8) (fun r9 d10 => rt 0 d10))))))
set_option maxRecDepth 100000 in
theorem t_X4_copyFrom_28_164 {G : G9} {l : Launch} (h1 : va_D (A9 G) (wl G (fun _ _ => 0))) (h2 : l.stackTraces = false) (d : D9) : MT G l yX4_copyFrom cX4_copyFrom 2 z_X4_copyFrom_28_164 [rf G 28, rf G 164] d (m_X4_copyFrom_28_164  d) := by
  refine mt_of (own := RX4) (by decide) rfl (Nat.le_of_ble_eq_true rfl) h1 h2 [(0, rf G 28), (1, rf G 164)] rfl (fun X hX C => ?_)
  unfold m_X4_copyFrom_28_164
  refine r_aload_n C 0 dX4_copyFrom_0 rfl rfl ?_
  refine r_aload_n C 1 dX4_copyFrom_1 rfl rfl ?_
  refine r_getI C dX4_copyFrom_2 fl_X4_24 la_164 ly_164 rfl ?_
  refine r_putI C dX4_copyFrom_5 fp_X4_24 la_28 ly_28 rfl (fun d1 => ?_)
  refine r_aload_n C 0 dX4_copyFrom_8 rfl rfl ?_
  refine r_aload_n C 1 dX4_copyFrom_9 rfl rfl ?_
  refine r_getI C dX4_copyFrom_10 fl_X4_28 la_164 ly_164 rfl ?_
  refine r_putI C dX4_copyFrom_13 fp_X4_28 la_28 ly_28 rfl (fun d2 => ?_)
  refine r_aload_n C 1 dX4_copyFrom_16 rfl rfl ?_
  refine r_getR C 165 dX4_copyFrom_17 fl_X4_9 la_164 ly_164 rfl rfl ?_
  refine r_aload_n C 0 dX4_copyFrom_20 rfl rfl ?_
  refine r_getR C 29 dX4_copyFrom_21 fl_X4_9 la_28 ly_28 rfl rfl ?_
  refine r_callN C [rf G 29, rf G 165] dX4_copyFrom_24 (t_X11_copyRow_165_29 C.h1 C.h2 d2) (n_X11_copyRow_165_29 d2) mn_X4_31 ms_X11_copyRow (by decide) (by decide) (by decide) rfl rfl (Nat.le_of_ble_eq_true rfl) (fun r3 d4 => ?_)
  show SS G X 2 _ _ 27 [(0, rf G 28), (1, rf G 164)] [] d4 _
  refine r_aload_n C 1 dX4_copyFrom_27 rfl rfl ?_
  refine r_getR C 166 dX4_copyFrom_28 fl_X4_15 la_164 ly_164 rfl rfl ?_
  refine r_aload_n C 0 dX4_copyFrom_31 rfl rfl ?_
  refine r_getR C 30 dX4_copyFrom_32 fl_X4_15 la_28 ly_28 rfl rfl ?_
  refine r_callN C [rf G 30, rf G 166] dX4_copyFrom_35 (t_X11_copyRow_166_30 C.h1 C.h2 d4) (n_X11_copyRow_166_30 d4) mn_X4_31 ms_X11_copyRow (by decide) (by decide) (by decide) rfl rfl (Nat.le_of_ble_eq_true rfl) (fun r5 d6 => ?_)
  show SS G X 2 _ _ 38 [(0, rf G 28), (1, rf G 164)] [] d6 _
  refine r_aload_n C 1 dX4_copyFrom_38 rfl rfl ?_
  refine r_getR C 167 dX4_copyFrom_39 fl_X4_18 la_164 ly_164 rfl rfl ?_
  refine r_aload_n C 0 dX4_copyFrom_42 rfl rfl ?_
  refine r_getR C 31 dX4_copyFrom_43 fl_X4_18 la_28 ly_28 rfl rfl ?_
  refine r_callN C [rf G 31, rf G 167] dX4_copyFrom_46 (t_X11_copyRow_167_31 C.h1 C.h2 d6) (n_X11_copyRow_167_31 d6) mn_X4_31 ms_X11_copyRow (by decide) (by decide) (by decide) rfl rfl (Nat.le_of_ble_eq_true rfl) (fun r7 d8 => ?_)
  show SS G X 2 _ _ 49 [(0, rf G 28), (1, rf G 164)] [] d8 _
  refine r_aload_n C 1 dX4_copyFrom_49 rfl rfl ?_
  refine r_getR C 168 dX4_copyFrom_50 fl_X4_21 la_164 ly_164 rfl rfl ?_
  refine r_aload_n C 0 dX4_copyFrom_53 rfl rfl ?_
  refine r_getR C 32 dX4_copyFrom_54 fl_X4_21 la_28 ly_28 rfl rfl ?_
  refine r_callN C [rf G 32, rf G 168] dX4_copyFrom_57 (t_X11_copyRow_168_32 C.h1 C.h2 d8) (n_X11_copyRow_168_32 d8) mn_X4_31 ms_X11_copyRow (by decide) (by decide) (by decide) rfl rfl (Nat.le_of_ble_eq_true rfl) (fun r9 d10 => ?_)
  show SS G X 2 _ _ 60 [(0, rf G 28), (1, rf G 164)] [] d10 _
  exact r_vret C dX4_copyFrom_60 (by decide) (by decide)
abbrev z_X11_copyRow_170_34 : Z9 := (none, 0, 0, 0, 2, 200)
def m_X11_copyRow_170_34 (d : D9) : Option R9 := cp9 d 170 40 34 40 (min9 40 40) (fun d1 => rt 0 d1)
set_option maxRecDepth 100000 in
theorem t_X11_copyRow_170_34 {G : G9} {l : Launch} (h1 : va_D (A9 G) (wl G (fun _ _ => 0))) (h2 : l.stackTraces = false) (d : D9) : MT G l yX11_copyRow cX11_copyRow 2 z_X11_copyRow_170_34 [rf G 170, rf G 34] d (m_X11_copyRow_170_34  d) := by
  refine mt_of (own := RX11) (by decide) rfl (Nat.le_of_ble_eq_true rfl) h1 h2 [(0, rf G 170), (1, rf G 34)] rfl (fun X hX C => ?_)
  unfold m_X11_copyRow_170_34
  refine r_aload_n C 0 dX11_copyRow_0 rfl rfl ?_
  refine r_iconst C dX11_copyRow_1 ?_
  refine r_aload_n C 1 dX11_copyRow_2 rfl rfl ?_
  refine r_iconst C dX11_copyRow_3 ?_
  refine r_aload_n C 0 dX11_copyRow_4 rfl rfl ?_
  refine r_alen C dX11_copyRow_5 la_170 ly_170 ?_
  refine r_aload_n C 1 dX11_copyRow_6 rfl rfl ?_
  refine r_alen C dX11_copyRow_7 la_34 ly_34 ?_
  refine r_mmin C dX11_copyRow_8 mm_X11_465 ⟨Nat.le_of_ble_eq_true rfl, Nat.le_of_ble_eq_true rfl⟩ (by decide) (by decide) ?_
  refine r_acopy C dX11_copyRow_11 aw_X11_470 la_170 ly_170 la_34 ly_34 (by decide) (Nat.le_of_ble_eq_true rfl) (fun d1 => ?_)
  exact r_vret C dX11_copyRow_14 (by decide) (by decide)
theorem n_X11_copyRow_170_34 (d : D9) : NT9 (m_X11_copyRow_170_34  d) := by
  unfold m_X11_copyRow_170_34
  repeat (first | exact nt_rt | exact nt_none | apply nt_if | refine nt_cl ?_ (fun _ _ => ?_) | refine nt_cp9 (fun _ => ?_))
abbrev z_X11_copyRow_171_35 : Z9 := (none, 0, 0, 0, 2, 200)
def m_X11_copyRow_171_35 (d : D9) : Option R9 := cp9 d 171 200 35 200 (min9 200 200) (fun d1 => rt 0 d1)
set_option maxRecDepth 100000 in
theorem t_X11_copyRow_171_35 {G : G9} {l : Launch} (h1 : va_D (A9 G) (wl G (fun _ _ => 0))) (h2 : l.stackTraces = false) (d : D9) : MT G l yX11_copyRow cX11_copyRow 2 z_X11_copyRow_171_35 [rf G 171, rf G 35] d (m_X11_copyRow_171_35  d) := by
  refine mt_of (own := RX11) (by decide) rfl (Nat.le_of_ble_eq_true rfl) h1 h2 [(0, rf G 171), (1, rf G 35)] rfl (fun X hX C => ?_)
  unfold m_X11_copyRow_171_35
  refine r_aload_n C 0 dX11_copyRow_0 rfl rfl ?_
  refine r_iconst C dX11_copyRow_1 ?_
  refine r_aload_n C 1 dX11_copyRow_2 rfl rfl ?_
  refine r_iconst C dX11_copyRow_3 ?_
  refine r_aload_n C 0 dX11_copyRow_4 rfl rfl ?_
  refine r_alen C dX11_copyRow_5 la_171 ly_171 ?_
  refine r_aload_n C 1 dX11_copyRow_6 rfl rfl ?_
  refine r_alen C dX11_copyRow_7 la_35 ly_35 ?_
  refine r_mmin C dX11_copyRow_8 mm_X11_465 ⟨Nat.le_of_ble_eq_true rfl, Nat.le_of_ble_eq_true rfl⟩ (by decide) (by decide) ?_
  refine r_acopy C dX11_copyRow_11 aw_X11_470 la_171 ly_171 la_35 ly_35 (by decide) (Nat.le_of_ble_eq_true rfl) (fun d1 => ?_)
  exact r_vret C dX11_copyRow_14 (by decide) (by decide)
theorem n_X11_copyRow_171_35 (d : D9) : NT9 (m_X11_copyRow_171_35  d) := by
  unfold m_X11_copyRow_171_35
  repeat (first | exact nt_rt | exact nt_none | apply nt_if | refine nt_cl ?_ (fun _ _ => ?_) | refine nt_cp9 (fun _ => ?_))
abbrev z_X11_copyRow_172_36 : Z9 := (none, 0, 0, 0, 2, 200)
def m_X11_copyRow_172_36 (d : D9) : Option R9 := cp9 d 172 5 36 5 (min9 5 5) (fun d1 => rt 0 d1)
set_option maxRecDepth 100000 in
theorem t_X11_copyRow_172_36 {G : G9} {l : Launch} (h1 : va_D (A9 G) (wl G (fun _ _ => 0))) (h2 : l.stackTraces = false) (d : D9) : MT G l yX11_copyRow cX11_copyRow 2 z_X11_copyRow_172_36 [rf G 172, rf G 36] d (m_X11_copyRow_172_36  d) := by
  refine mt_of (own := RX11) (by decide) rfl (Nat.le_of_ble_eq_true rfl) h1 h2 [(0, rf G 172), (1, rf G 36)] rfl (fun X hX C => ?_)
  unfold m_X11_copyRow_172_36
  refine r_aload_n C 0 dX11_copyRow_0 rfl rfl ?_
  refine r_iconst C dX11_copyRow_1 ?_
  refine r_aload_n C 1 dX11_copyRow_2 rfl rfl ?_
  refine r_iconst C dX11_copyRow_3 ?_
  refine r_aload_n C 0 dX11_copyRow_4 rfl rfl ?_
  refine r_alen C dX11_copyRow_5 la_172 ly_172 ?_
  refine r_aload_n C 1 dX11_copyRow_6 rfl rfl ?_
  refine r_alen C dX11_copyRow_7 la_36 ly_36 ?_
  refine r_mmin C dX11_copyRow_8 mm_X11_465 ⟨Nat.le_of_ble_eq_true rfl, Nat.le_of_ble_eq_true rfl⟩ (by decide) (by decide) ?_
  refine r_acopy C dX11_copyRow_11 aw_X11_470 la_172 ly_172 la_36 ly_36 (by decide) (Nat.le_of_ble_eq_true rfl) (fun d1 => ?_)
  exact r_vret C dX11_copyRow_14 (by decide) (by decide)
theorem n_X11_copyRow_172_36 (d : D9) : NT9 (m_X11_copyRow_172_36  d) := by
  unfold m_X11_copyRow_172_36
  repeat (first | exact nt_rt | exact nt_none | apply nt_if | refine nt_cl ?_ (fun _ _ => ?_) | refine nt_cp9 (fun _ => ?_))
abbrev z_X11_copyRow_173_37 : Z9 := (none, 0, 0, 0, 2, 200)
def m_X11_copyRow_173_37 (d : D9) : Option R9 := cp9 d 173 5 37 5 (min9 5 5) (fun d1 => rt 0 d1)
set_option maxRecDepth 100000 in
theorem t_X11_copyRow_173_37 {G : G9} {l : Launch} (h1 : va_D (A9 G) (wl G (fun _ _ => 0))) (h2 : l.stackTraces = false) (d : D9) : MT G l yX11_copyRow cX11_copyRow 2 z_X11_copyRow_173_37 [rf G 173, rf G 37] d (m_X11_copyRow_173_37  d) := by
  refine mt_of (own := RX11) (by decide) rfl (Nat.le_of_ble_eq_true rfl) h1 h2 [(0, rf G 173), (1, rf G 37)] rfl (fun X hX C => ?_)
  unfold m_X11_copyRow_173_37
  refine r_aload_n C 0 dX11_copyRow_0 rfl rfl ?_
  refine r_iconst C dX11_copyRow_1 ?_
  refine r_aload_n C 1 dX11_copyRow_2 rfl rfl ?_
  refine r_iconst C dX11_copyRow_3 ?_
  refine r_aload_n C 0 dX11_copyRow_4 rfl rfl ?_
  refine r_alen C dX11_copyRow_5 la_173 ly_173 ?_
  refine r_aload_n C 1 dX11_copyRow_6 rfl rfl ?_
  refine r_alen C dX11_copyRow_7 la_37 ly_37 ?_
  refine r_mmin C dX11_copyRow_8 mm_X11_465 ⟨Nat.le_of_ble_eq_true rfl, Nat.le_of_ble_eq_true rfl⟩ (by decide) (by decide) ?_
  refine r_acopy C dX11_copyRow_11 aw_X11_470 la_173 ly_173 la_37 ly_37 (by decide) (Nat.le_of_ble_eq_true rfl) (fun d1 => ?_)
  exact r_vret C dX11_copyRow_14 (by decide) (by decide)
theorem n_X11_copyRow_173_37 (d : D9) : NT9 (m_X11_copyRow_173_37  d) := by
  unfold m_X11_copyRow_173_37
  repeat (first | exact nt_rt | exact nt_none | apply nt_if | refine nt_cl ?_ (fun _ _ => ?_) | refine nt_cp9 (fun _ => ?_))
abbrev z_X1_copyFrom_33_169 : Z9 := (none, 0, 0, 0, 3, 221)
def m_X1_copyFrom_33_169 (d : D9) : Option R9 := pf d 33 0 (d 169 0) (fun d1 => cl (m_X11_copyRow_170_34 d1) (fun r2 d3 => cl (m_X11_copyRow_171_35 d3) (fun r4 d5 => cl (m_X11_copyRow_172_36 d5) (fun r6 d7 => cl (m_X11_copyRow_173_37 d7) (fun r8 d9 => rt 0 d9)))))
set_option maxRecDepth 100000 in
theorem t_X1_copyFrom_33_169 {G : G9} {l : Launch} (h1 : va_D (A9 G) (wl G (fun _ _ => 0))) (h2 : l.stackTraces = false) (d : D9) : MT G l yX1_copyFrom cX1_copyFrom 2 z_X1_copyFrom_33_169 [rf G 33, rf G 169] d (m_X1_copyFrom_33_169  d) := by
  refine mt_of (own := RX1) (by decide) rfl (Nat.le_of_ble_eq_true rfl) h1 h2 [(0, rf G 33), (1, rf G 169)] rfl (fun X hX C => ?_)
  unfold m_X1_copyFrom_33_169
  refine r_aload_n C 0 dX1_copyFrom_0 rfl rfl ?_
  refine r_aload_n C 1 dX1_copyFrom_1 rfl rfl ?_
  refine r_getI C dX1_copyFrom_2 fl_X1_24 la_169 ly_169 rfl ?_
  refine r_putI C dX1_copyFrom_5 fp_X1_24 la_33 ly_33 rfl (fun d1 => ?_)
  refine r_aload_n C 1 dX1_copyFrom_8 rfl rfl ?_
  refine r_getR C 170 dX1_copyFrom_9 fl_X1_9 la_169 ly_169 rfl rfl ?_
  refine r_aload_n C 0 dX1_copyFrom_12 rfl rfl ?_
  refine r_getR C 34 dX1_copyFrom_13 fl_X1_9 la_33 ly_33 rfl rfl ?_
  refine r_callN C [rf G 34, rf G 170] dX1_copyFrom_16 (t_X11_copyRow_170_34 C.h1 C.h2 d1) (n_X11_copyRow_170_34 d1) mn_X1_28 ms_X11_copyRow (by decide) (by decide) (by decide) rfl rfl (Nat.le_of_ble_eq_true rfl) (fun r2 d3 => ?_)
  show SS G X 2 _ _ 19 [(0, rf G 33), (1, rf G 169)] [] d3 _
  refine r_aload_n C 1 dX1_copyFrom_19 rfl rfl ?_
  refine r_getR C 171 dX1_copyFrom_20 fl_X1_15 la_169 ly_169 rfl rfl ?_
  refine r_aload_n C 0 dX1_copyFrom_23 rfl rfl ?_
  refine r_getR C 35 dX1_copyFrom_24 fl_X1_15 la_33 ly_33 rfl rfl ?_
  refine r_callN C [rf G 35, rf G 171] dX1_copyFrom_27 (t_X11_copyRow_171_35 C.h1 C.h2 d3) (n_X11_copyRow_171_35 d3) mn_X1_28 ms_X11_copyRow (by decide) (by decide) (by decide) rfl rfl (Nat.le_of_ble_eq_true rfl) (fun r4 d5 => ?_)
  show SS G X 2 _ _ 30 [(0, rf G 33), (1, rf G 169)] [] d5 _
  refine r_aload_n C 1 dX1_copyFrom_30 rfl rfl ?_
  refine r_getR C 172 dX1_copyFrom_31 fl_X1_18 la_169 ly_169 rfl rfl ?_
  refine r_aload_n C 0 dX1_copyFrom_34 rfl rfl ?_
  refine r_getR C 36 dX1_copyFrom_35 fl_X1_18 la_33 ly_33 rfl rfl ?_
  refine r_callN C [rf G 36, rf G 172] dX1_copyFrom_38 (t_X11_copyRow_172_36 C.h1 C.h2 d5) (n_X11_copyRow_172_36 d5) mn_X1_28 ms_X11_copyRow (by decide) (by decide) (by decide) rfl rfl (Nat.le_of_ble_eq_true rfl) (fun r6 d7 => ?_)
  show SS G X 2 _ _ 41 [(0, rf G 33), (1, rf G 169)] [] d7 _
  refine r_aload_n C 1 dX1_copyFrom_41 rfl rfl ?_
  refine r_getR C 173 dX1_copyFrom_42 fl_X1_21 la_169 ly_169 rfl rfl ?_
  refine r_aload_n C 0 dX1_copyFrom_45 rfl rfl ?_
  refine r_getR C 37 dX1_copyFrom_46 fl_X1_21 la_33 ly_33 rfl rfl ?_
  refine r_callN C [rf G 37, rf G 173] dX1_copyFrom_49 (t_X11_copyRow_173_37 C.h1 C.h2 d7) (n_X11_copyRow_173_37 d7) mn_X1_28 ms_X11_copyRow (by decide) (by decide) (by decide) rfl rfl (Nat.le_of_ble_eq_true rfl) (fun r8 d9 => ?_)
  show SS G X 2 _ _ 52 [(0, rf G 33), (1, rf G 169)] [] d9 _
  exact r_vret C dX1_copyFrom_52 (by decide) (by decide)
abbrev z_X10_copyFrom_1_137 : Z9 := (none, 0, 0, 0, 4, 242)
def m_X10_copyFrom_1_137 (d : D9) : Option R9 := cl (m_X3_copyFrom_2_138 d) (fun r1 d2 => cl (m_X6_copyFrom_9_145 d2) (fun r3 d4 => cl (m_X2_copyFrom_22_158 d4) (fun r5 d6 => cl (m_X7_copyFrom_23_159 d6) (fun r7 d8 => cl (m_X4_copyFrom_28_164 d8) (fun r9 d10 => cl (m_X1_copyFrom_33_169 d10) (fun r11 d12 => rt 0 d12))))))
set_option maxRecDepth 100000 in
theorem t_X10_copyFrom_1_137 {G : G9} {l : Launch} (h1 : va_D (A9 G) (wl G (fun _ _ => 0))) (h2 : l.stackTraces = false) (d : D9) : MT G l yX10_copyFrom cX10_copyFrom 2 z_X10_copyFrom_1_137 [rf G 1, rf G 137] d (m_X10_copyFrom_1_137  d) := by
  refine mt_of (own := RX10) (by decide) rfl (Nat.le_of_ble_eq_true rfl) h1 h2 [(0, rf G 1), (1, rf G 137)] rfl (fun X hX C => ?_)
  unfold m_X10_copyFrom_1_137
  refine r_aload_n C 0 dX10_copyFrom_0 rfl rfl ?_
  refine r_getR C 2 dX10_copyFrom_1 fl_X10_12 la_1 ly_1 rfl rfl ?_
  refine r_aload_n C 1 dX10_copyFrom_4 rfl rfl ?_
  refine r_getR C 138 dX10_copyFrom_5 fl_X10_12 la_137 ly_137 rfl rfl ?_
  refine r_callV C [rf G 138, rf G 2] dX10_copyFrom_8 (t_X3_copyFrom_2_138 C.h1 C.h2 d) mw_X10_53 mv_X3_copyFrom la_2 ly_2 rfl (by decide) (by decide) (by decide) rfl rfl (Nat.le_of_ble_eq_true rfl) (fun r1 d2 => ?_)
  show SS G X 2 _ _ 11 [(0, rf G 1), (1, rf G 137)] [] d2 _
  refine r_aload_n C 0 dX10_copyFrom_11 rfl rfl ?_
  refine r_getR C 9 dX10_copyFrom_12 fl_X10_21 la_1 ly_1 rfl rfl ?_
  refine r_aload_n C 1 dX10_copyFrom_15 rfl rfl ?_
  refine r_getR C 145 dX10_copyFrom_16 fl_X10_21 la_137 ly_137 rfl rfl ?_
  refine r_callV C [rf G 145, rf G 9] dX10_copyFrom_19 (t_X6_copyFrom_9_145 C.h1 C.h2 d2) mw_X10_57 mv_X6_copyFrom la_9 ly_9 rfl (by decide) (by decide) (by decide) rfl rfl (Nat.le_of_ble_eq_true rfl) (fun r3 d4 => ?_)
  show SS G X 2 _ _ 22 [(0, rf G 1), (1, rf G 137)] [] d4 _
  refine r_aload_n C 0 dX10_copyFrom_22 rfl rfl ?_
  refine r_getR C 22 dX10_copyFrom_23 fl_X10_28 la_1 ly_1 rfl rfl ?_
  refine r_aload_n C 1 dX10_copyFrom_26 rfl rfl ?_
  refine r_getR C 158 dX10_copyFrom_27 fl_X10_28 la_137 ly_137 rfl rfl ?_
  refine r_callV C [rf G 158, rf G 22] dX10_copyFrom_30 (t_X2_copyFrom_22_158 C.h1 C.h2 d4) mw_X10_60 mv_X2_copyFrom la_22 ly_22 rfl (by decide) (by decide) (by decide) rfl rfl (Nat.le_of_ble_eq_true rfl) (fun r5 d6 => ?_)
  show SS G X 2 _ _ 33 [(0, rf G 1), (1, rf G 137)] [] d6 _
  refine r_aload_n C 0 dX10_copyFrom_33 rfl rfl ?_
  refine r_getR C 23 dX10_copyFrom_34 fl_X10_35 la_1 ly_1 rfl rfl ?_
  refine r_aload_n C 1 dX10_copyFrom_37 rfl rfl ?_
  refine r_getR C 159 dX10_copyFrom_38 fl_X10_35 la_137 ly_137 rfl rfl ?_
  refine r_callV C [rf G 159, rf G 23] dX10_copyFrom_41 (t_X7_copyFrom_23_159 C.h1 C.h2 d6) mw_X10_63 mv_X7_copyFrom la_23 ly_23 rfl (by decide) (by decide) (by decide) rfl rfl (Nat.le_of_ble_eq_true rfl) (fun r7 d8 => ?_)
  show SS G X 2 _ _ 44 [(0, rf G 1), (1, rf G 137)] [] d8 _
  refine r_aload_n C 0 dX10_copyFrom_44 rfl rfl ?_
  refine r_getR C 28 dX10_copyFrom_45 fl_X10_42 la_1 ly_1 rfl rfl ?_
  refine r_aload_n C 1 dX10_copyFrom_48 rfl rfl ?_
  refine r_getR C 164 dX10_copyFrom_49 fl_X10_42 la_137 ly_137 rfl rfl ?_
  refine r_callV C [rf G 164, rf G 28] dX10_copyFrom_52 (t_X4_copyFrom_28_164 C.h1 C.h2 d8) mw_X10_66 mv_X4_copyFrom la_28 ly_28 rfl (by decide) (by decide) (by decide) rfl rfl (Nat.le_of_ble_eq_true rfl) (fun r9 d10 => ?_)
  show SS G X 2 _ _ 55 [(0, rf G 1), (1, rf G 137)] [] d10 _
  refine r_aload_n C 0 dX10_copyFrom_55 rfl rfl ?_
  refine r_getR C 33 dX10_copyFrom_56 fl_X10_49 la_1 ly_1 rfl rfl ?_
  refine r_aload_n C 1 dX10_copyFrom_59 rfl rfl ?_
  refine r_getR C 169 dX10_copyFrom_60 fl_X10_49 la_137 ly_137 rfl rfl ?_
  refine r_callV C [rf G 169, rf G 33] dX10_copyFrom_63 (t_X1_copyFrom_33_169 C.h1 C.h2 d10) mw_X10_69 mv_X1_copyFrom la_33 ly_33 rfl (by decide) (by decide) (by decide) rfl rfl (Nat.le_of_ble_eq_true rfl) (fun r11 d12 => ?_)
  show SS G X 2 _ _ 66 [(0, rf G 1), (1, rf G 137)] [] d12 _
  exact r_vret C dX10_copyFrom_66 (by decide) (by decide)
theorem dX11_restore_0 : decode cX11_restore 0 = .ok (.iload_n 1, 1) := by decide +kernel
theorem dX11_restore_1 : decode cX11_restore 1 = .ok (.invokestatic 424, 3) := by decide +kernel
theorem dX11_restore_4 : decode cX11_restore 4 = .ok (.aload_n 0, 1) := by decide +kernel
theorem dX11_restore_5 : decode cX11_restore 5 = .ok (.getfield 16, 3) := by decide +kernel
theorem dX11_restore_8 : decode cX11_restore 8 = .ok (.iload_n 1, 1) := by decide +kernel
theorem dX11_restore_9 : decode cX11_restore 9 = .ok (.aaload, 1) := by decide +kernel
theorem dX11_restore_10 : decode cX11_restore 10 = .ok (.astore_n 2, 1) := by decide +kernel
theorem dX11_restore_11 : decode cX11_restore 11 = .ok (.aload_n 2, 1) := by decide +kernel
theorem dX11_restore_12 : decode cX11_restore 12 = .ok (.ifnull 12, 3) := by decide +kernel
theorem dX11_restore_15 : decode cX11_restore 15 = .ok (.aload_n 0, 1) := by decide +kernel
theorem dX11_restore_16 : decode cX11_restore 16 = .ok (.getfield 20, 3) := by decide +kernel
theorem dX11_restore_19 : decode cX11_restore 19 = .ok (.iload_n 1, 1) := by decide +kernel
theorem dX11_restore_20 : decode cX11_restore 20 = .ok (.baload, 1) := by decide +kernel
theorem dX11_restore_21 : decode cX11_restore 21 = .ok (.ifCond .ne 14, 3) := by decide +kernel
theorem dX11_restore_24 : decode cX11_restore 24 = .ok (.new 430, 3) := by decide +kernel
theorem dX11_restore_27 : decode cX11_restore 27 = .ok (.dup, 1) := by decide +kernel
theorem dX11_restore_28 : decode cX11_restore 28 = .ok (.ldc_w 432, 3) := by decide +kernel
theorem dX11_restore_31 : decode cX11_restore 31 = .ok (.invokespecial 434, 3) := by decide +kernel
theorem dX11_restore_34 : decode cX11_restore 34 = .ok (.athrow, 1) := by decide +kernel
theorem dX11_restore_35 : decode cX11_restore 35 = .ok (.aload_n 0, 1) := by decide +kernel
theorem dX11_restore_36 : decode cX11_restore 36 = .ok (.getfield 10, 3) := by decide +kernel
theorem dX11_restore_39 : decode cX11_restore 39 = .ok (.aload_n 2, 1) := by decide +kernel
theorem dX11_restore_40 : decode cX11_restore 40 = .ok (.invokevirtual 427, 3) := by decide +kernel
theorem dX11_restore_43 : decode cX11_restore 43 = .ok (.return_, 1) := by decide +kernel
abbrev z_X11_restore_0 : Z9 := (none, 0, 2, 12, 7, 263)
def m_X11_restore_0 (p1 : Int) (d : D9) : Option R9 := cl (m_X11_askImage p1 d) (fun r1 d2 => if w32 p1 = 0 then ld d2 39 3 p1 (fun t4 => if w32 t4 ≠ 0 then cl (m_X10_copyFrom_1_63 d2) (fun r5 d6 => rt 0 d6) else th 1 d2) else if w32 p1 = 1 then ld d2 39 3 p1 (fun t8 => if w32 t8 ≠ 0 then cl (m_X10_copyFrom_1_100 d2) (fun r9 d10 => rt 0 d10) else th 1 d2) else if w32 p1 = 2 then ld d2 39 3 p1 (fun t12 => if w32 t12 ≠ 0 then cl (m_X10_copyFrom_1_137 d2) (fun r13 d14 => rt 0 d14) else th 1 d2) else none)
set_option maxRecDepth 100000 in
theorem t_X11_restore_0 {G : G9} {l : Launch} (h1 : va_D (A9 G) (wl G (fun _ _ => 0))) (h2 : l.stackTraces = false) (p1 : Int) (d : D9) : MT G l yX11_restore cX11_restore 3 z_X11_restore_0 [rf G 0, i9 p1] d (m_X11_restore_0 p1 d) := by
  refine mt_of (own := RX11) (by decide) rfl (Nat.le_of_ble_eq_true rfl) h1 h2 [(0, rf G 0), (1, i9 p1)] rfl (fun X hX C => ?_)
  unfold m_X11_restore_0
  refine r_iload_n C 1 dX11_restore_0 rfl rfl ?_
  refine r_callS C [i9 p1] dX11_restore_1 (t_X11_askImage C.h1 C.h2 p1 d) mw_X11_424 ms_X11_askImage (by decide) (by decide) (by decide) rfl rfl (Nat.le_of_ble_eq_true rfl) (fun r1 d2 => ?_)
  show SS G X 3 _ _ 4 [(0, rf G 0), (1, i9 p1)] [] d2 _
  refine r_aload_n C 0 dX11_restore_4 rfl rfl ?_
  refine r_getR C 38 dX11_restore_5 fl_X11_16 la_0 ly_0 rfl rfl ?_
  refine r_iload_n C 1 dX11_restore_8 rfl rfl ?_
  refine ss_case (v := 0) (fun h3 => ?_) (fun _ => ?_)
  · refine r_aald C 63 0 dX11_restore_9 la_38 ly_38 (by decide) h3 rfl ?_
    refine r_astore_n C [(2, rf G 63), (0, rf G 0), (1, i9 p1)] dX11_restore_10 rfl (by decide) rfl ?_
    refine r_aload_n C 0 dX11_restore_11 rfl rfl ?_
    refine r_ifnull C dX11_restore_12 ?_
    refine r_aload_n C 1 dX11_restore_15 rfl rfl ?_
    refine r_getR C 39 dX11_restore_16 fl_X11_20 la_0 ly_0 rfl rfl ?_
    refine r_iload_n C 2 dX11_restore_19 rfl rfl ?_
    refine r_zald C dX11_restore_20 la_39 ly_39 (fun t4 => ?_)
    refine r_if_ne C (b := 0) 35 dX11_restore_21 (by decide) (fun _ => ?_) (fun _ => ?_)
    · refine r_aload_n C 1 dX11_restore_35 rfl rfl ?_
      refine r_getR C 1 dX11_restore_36 fl_X11_10 la_0 ly_0 rfl rfl ?_
      refine r_aload_n C 0 dX11_restore_39 rfl rfl ?_
      refine r_callV C [rf G 63, rf G 1] dX11_restore_40 (t_X10_copyFrom_1_63 C.h1 C.h2 d2) mw_X11_427 mv_X10_copyFrom la_1 ly_1 rfl (by decide) (by decide) (by decide) rfl rfl (Nat.le_of_ble_eq_true rfl) (fun r5 d6 => ?_)
      show SS G X 3 _ _ 43 [(2, rf G 63), (0, rf G 0), (1, i9 p1)] [] d6 _
      exact r_vret C dX11_restore_43 (by decide) (by decide)
    · exact r_throwW C (e := 1) 14 rfl tw_1_434 tc_1 dX11_restore_24 dX11_restore_27 dX11_restore_28 dX11_restore_31 dX11_restore_34 (by decide) (by decide) (by decide) (by decide)
  refine ss_case (v := 1) (fun h7 => ?_) (fun _ => ?_)
  · refine r_aald C 100 1 dX11_restore_9 la_38 ly_38 (by decide) h7 rfl ?_
    refine r_astore_n C [(2, rf G 100), (0, rf G 0), (1, i9 p1)] dX11_restore_10 rfl (by decide) rfl ?_
    refine r_aload_n C 0 dX11_restore_11 rfl rfl ?_
    refine r_ifnull C dX11_restore_12 ?_
    refine r_aload_n C 1 dX11_restore_15 rfl rfl ?_
    refine r_getR C 39 dX11_restore_16 fl_X11_20 la_0 ly_0 rfl rfl ?_
    refine r_iload_n C 2 dX11_restore_19 rfl rfl ?_
    refine r_zald C dX11_restore_20 la_39 ly_39 (fun t8 => ?_)
    refine r_if_ne C (b := 0) 35 dX11_restore_21 (by decide) (fun _ => ?_) (fun _ => ?_)
    · refine r_aload_n C 1 dX11_restore_35 rfl rfl ?_
      refine r_getR C 1 dX11_restore_36 fl_X11_10 la_0 ly_0 rfl rfl ?_
      refine r_aload_n C 0 dX11_restore_39 rfl rfl ?_
      refine r_callV C [rf G 100, rf G 1] dX11_restore_40 (t_X10_copyFrom_1_100 C.h1 C.h2 d2) mw_X11_427 mv_X10_copyFrom la_1 ly_1 rfl (by decide) (by decide) (by decide) rfl rfl (Nat.le_of_ble_eq_true rfl) (fun r9 d10 => ?_)
      show SS G X 3 _ _ 43 [(2, rf G 100), (0, rf G 0), (1, i9 p1)] [] d10 _
      exact r_vret C dX11_restore_43 (by decide) (by decide)
    · exact r_throwW C (e := 1) 14 rfl tw_1_434 tc_1 dX11_restore_24 dX11_restore_27 dX11_restore_28 dX11_restore_31 dX11_restore_34 (by decide) (by decide) (by decide) (by decide)
  refine ss_case (v := 2) (fun h11 => ?_) (fun _ => ?_)
  · refine r_aald C 137 2 dX11_restore_9 la_38 ly_38 (by decide) h11 rfl ?_
    refine r_astore_n C [(2, rf G 137), (0, rf G 0), (1, i9 p1)] dX11_restore_10 rfl (by decide) rfl ?_
    refine r_aload_n C 0 dX11_restore_11 rfl rfl ?_
    refine r_ifnull C dX11_restore_12 ?_
    refine r_aload_n C 1 dX11_restore_15 rfl rfl ?_
    refine r_getR C 39 dX11_restore_16 fl_X11_20 la_0 ly_0 rfl rfl ?_
    refine r_iload_n C 2 dX11_restore_19 rfl rfl ?_
    refine r_zald C dX11_restore_20 la_39 ly_39 (fun t12 => ?_)
    refine r_if_ne C (b := 0) 35 dX11_restore_21 (by decide) (fun _ => ?_) (fun _ => ?_)
    · refine r_aload_n C 1 dX11_restore_35 rfl rfl ?_
      refine r_getR C 1 dX11_restore_36 fl_X11_10 la_0 ly_0 rfl rfl ?_
      refine r_aload_n C 0 dX11_restore_39 rfl rfl ?_
      refine r_callV C [rf G 137, rf G 1] dX11_restore_40 (t_X10_copyFrom_1_137 C.h1 C.h2 d2) mw_X11_427 mv_X10_copyFrom la_1 ly_1 rfl (by decide) (by decide) (by decide) rfl rfl (Nat.le_of_ble_eq_true rfl) (fun r13 d14 => ?_)
      show SS G X 3 _ _ 43 [(2, rf G 137), (0, rf G 0), (1, i9 p1)] [] d14 _
      exact r_vret C dX11_restore_43 (by decide) (by decide)
    · exact r_throwW C (e := 1) 14 rfl tw_1_434 tc_1 dX11_restore_24 dX11_restore_27 dX11_restore_28 dX11_restore_31 dX11_restore_34 (by decide) (by decide) (by decide) (by decide)
  exact ss_none
theorem dX10_restsOf_0 : decode cX10_restsOf 0 = .ok (.aload_n 0, 1) := by decide +kernel
theorem dX10_restsOf_1 : decode cX10_restsOf 1 = .ok (.getfield 12, 3) := by decide +kernel
theorem dX10_restsOf_4 : decode cX10_restsOf 4 = .ok (.iload_n 1, 1) := by decide +kernel
theorem dX10_restsOf_5 : decode cX10_restsOf 5 = .ok (.invokevirtual 72, 3) := by decide +kernel
theorem dX10_restsOf_8 : decode cX10_restsOf 8 = .ok (.istore_n 2, 1) := by decide +kernel
theorem dX10_restsOf_9 : decode cX10_restsOf 9 = .ok (.aload_n 0, 1) := by decide +kernel
theorem dX10_restsOf_10 : decode cX10_restsOf 10 = .ok (.getfield 12, 3) := by decide +kernel
theorem dX10_restsOf_13 : decode cX10_restsOf 13 = .ok (.iload_n 1, 1) := by decide +kernel
theorem dX10_restsOf_14 : decode cX10_restsOf 14 = .ok (.invokevirtual 80, 3) := by decide +kernel
theorem dX10_restsOf_17 : decode cX10_restsOf 17 = .ok (.istore_n 3, 1) := by decide +kernel
theorem dX10_restsOf_18 : decode cX10_restsOf 18 = .ok (.aload_n 0, 1) := by decide +kernel
theorem dX10_restsOf_19 : decode cX10_restsOf 19 = .ok (.getfield 21, 3) := by decide +kernel
theorem dX10_restsOf_22 : decode cX10_restsOf 22 = .ok (.iload_n 2, 1) := by decide +kernel
theorem dX10_restsOf_23 : decode cX10_restsOf 23 = .ok (.iconst (-1), 1) := by decide +kernel
theorem dX10_restsOf_24 : decode cX10_restsOf 24 = .ok (.invokevirtual 76, 3) := by decide +kernel
theorem dX10_restsOf_27 : decode cX10_restsOf 27 = .ok (.istore 4, 2) := by decide +kernel
theorem dX10_restsOf_29 : decode cX10_restsOf 29 = .ok (.aload_n 0, 1) := by decide +kernel
theorem dX10_restsOf_30 : decode cX10_restsOf 30 = .ok (.getfield 21, 3) := by decide +kernel
theorem dX10_restsOf_33 : decode cX10_restsOf 33 = .ok (.iload_n 3, 1) := by decide +kernel
theorem dX10_restsOf_34 : decode cX10_restsOf 34 = .ok (.iconst (-1), 1) := by decide +kernel
theorem dX10_restsOf_35 : decode cX10_restsOf 35 = .ok (.invokevirtual 83, 3) := by decide +kernel
theorem dX10_restsOf_38 : decode cX10_restsOf 38 = .ok (.istore 5, 2) := by decide +kernel
theorem dX10_restsOf_40 : decode cX10_restsOf 40 = .ok (.iconst 0, 1) := by decide +kernel
theorem dX10_restsOf_41 : decode cX10_restsOf 41 = .ok (.istore 6, 2) := by decide +kernel
theorem dX10_restsOf_43 : decode cX10_restsOf 43 = .ok (.iconst 0, 1) := by decide +kernel
theorem dX10_restsOf_44 : decode cX10_restsOf 44 = .ok (.istore 7, 2) := by decide +kernel
theorem dX10_restsOf_46 : decode cX10_restsOf 46 = .ok (.iload 7, 2) := by decide +kernel
theorem dX10_restsOf_48 : decode cX10_restsOf 48 = .ok (.aload_n 0, 1) := by decide +kernel
theorem dX10_restsOf_49 : decode cX10_restsOf 49 = .ok (.getfield 21, 3) := by decide +kernel
theorem dX10_restsOf_52 : decode cX10_restsOf 52 = .ok (.getfield 104, 3) := by decide +kernel
theorem dX10_restsOf_55 : decode cX10_restsOf 55 = .ok (.if_icmp .ge 42, 3) := by decide +kernel
theorem dX10_restsOf_58 : decode cX10_restsOf 58 = .ok (.aload_n 0, 1) := by decide +kernel
theorem dX10_restsOf_59 : decode cX10_restsOf 59 = .ok (.getfield 21, 3) := by decide +kernel
theorem dX10_restsOf_62 : decode cX10_restsOf 62 = .ok (.iload_n 2, 1) := by decide +kernel
theorem dX10_restsOf_63 : decode cX10_restsOf 63 = .ok (.iload 7, 2) := by decide +kernel
theorem dX10_restsOf_65 : decode cX10_restsOf 65 = .ok (.invokevirtual 76, 3) := by decide +kernel
theorem dX10_restsOf_68 : decode cX10_restsOf 68 = .ok (.iload 4, 2) := by decide +kernel
theorem dX10_restsOf_70 : decode cX10_restsOf 70 = .ok (.if_icmp .ne 18, 3) := by decide +kernel
theorem dX10_restsOf_73 : decode cX10_restsOf 73 = .ok (.aload_n 0, 1) := by decide +kernel
theorem dX10_restsOf_74 : decode cX10_restsOf 74 = .ok (.getfield 21, 3) := by decide +kernel
theorem dX10_restsOf_77 : decode cX10_restsOf 77 = .ok (.iload_n 3, 1) := by decide +kernel
theorem dX10_restsOf_78 : decode cX10_restsOf 78 = .ok (.iload 7, 2) := by decide +kernel
theorem dX10_restsOf_80 : decode cX10_restsOf 80 = .ok (.invokevirtual 83, 3) := by decide +kernel
theorem dX10_restsOf_83 : decode cX10_restsOf 83 = .ok (.iload 5, 2) := by decide +kernel
theorem dX10_restsOf_85 : decode cX10_restsOf 85 = .ok (.if_icmp .eq 6, 3) := by decide +kernel
theorem dX10_restsOf_88 : decode cX10_restsOf 88 = .ok (.iinc 6 1, 3) := by decide +kernel
theorem dX10_restsOf_91 : decode cX10_restsOf 91 = .ok (.iinc 7 1, 3) := by decide +kernel
theorem dX10_restsOf_94 : decode cX10_restsOf 94 = .ok (.goto (-48), 3) := by decide +kernel
theorem dX10_restsOf_97 : decode cX10_restsOf 97 = .ok (.iload 6, 2) := by decide +kernel
theorem dX10_restsOf_99 : decode cX10_restsOf 99 = .ok (.ireturn, 1) := by decide +kernel
abbrev z_X10_restsOf_1 : Z9 := (some .int, 1, 0, 0, 4, 84)
def b_X10_restsOf_1_c46 (k_X10_restsOf_1_c46 : Int → Int → Int → Int → Int → Int → D9 → Option R9) (v2 v3 v4 v5 v6 v7 : Int) (d : D9) : Option R9 := if w32 (d 9 0) ≤ w32 v7 then rt v6 d else cl (m_X6_leastSaid_9 v2 v7 d) (fun r1 d2 => if w32 r1 ≠ w32 v4 then k_X10_restsOf_1_c46 v2 v3 v4 v5 (v6 + 1) (v7 + 1) d2 else cl (m_X6_mostSaid_9 v3 v7 d2) (fun r3 d4 => if w32 r3 = w32 v5 then k_X10_restsOf_1_c46 v2 v3 v4 v5 v6 (v7 + 1) d4 else k_X10_restsOf_1_c46 v2 v3 v4 v5 (v6 + 1) (v7 + 1) d4))
def m_X10_restsOf_1_c46 : Int → Int → Int → Int → Int → Int → D9 → Option R9 := fix9 (fun _ _ _ _ _ _ _ => none) (fun k => b_X10_restsOf_1_c46 k) FU
def m_X10_restsOf_1 (p1 : Int) (d : D9) : Option R9 := cl (m_X3_withAbove_2 p1 d) (fun r1 d2 => cl (m_X3_withBelow_2 p1 d2) (fun r3 d4 => cl (m_X6_leastSaid_9 r1 (-1) d4) (fun r5 d6 => cl (m_X6_mostSaid_9 r3 (-1) d6) (fun r7 d8 => m_X10_restsOf_1_c46  r1 r3 r5 r7 0 0 d8))))
set_option maxRecDepth 100000 in
theorem sb_X10_restsOf_1_c46 {G : G9} {X : X9} (C : CX G X cX10_restsOf 8 RX10 [] z_X10_restsOf_1) (k_X10_restsOf_1_c46 : Int → Int → Int → Int → Int → Int → D9 → Option R9) (hk_X10_restsOf_1_c46 : ∀ (v2 v3 v4 v5 v6 v7 : Int) (d : D9), SS G X 8 0 0 46 [(0, rf G 1), (2, i9 v2), (3, i9 v3), (4, i9 v4), (5, i9 v5), (6, i9 v6), (7, i9 v7)] [] d (k_X10_restsOf_1_c46 v2 v3 v4 v5 v6 v7 d)) : ∀ (v2 v3 v4 v5 v6 v7 : Int) (d : D9), SS G X 8 0 0 46 [(0, rf G 1), (2, i9 v2), (3, i9 v3), (4, i9 v4), (5, i9 v5), (6, i9 v6), (7, i9 v7)] [] d (b_X10_restsOf_1_c46 k_X10_restsOf_1_c46 v2 v3 v4 v5 v6 v7 d) := by
  intro v2 v3 v4 v5 v6 v7 d
  unfold b_X10_restsOf_1_c46
  refine r_iload C 6 dX10_restsOf_46 rfl ?_
  refine r_aload_n C 0 dX10_restsOf_48 rfl rfl ?_
  refine r_getR C 9 dX10_restsOf_49 fl_X10_21 la_1 ly_1 rfl rfl ?_
  refine r_getI C dX10_restsOf_52 fl_X10_104 la_9 ly_9 rfl ?_
  refine r_icmp_ge C 97 dX10_restsOf_55 (by decide) (fun _ => ?_) (fun _ => ?_)
  · refine r_iload C 5 dX10_restsOf_97 rfl ?_
    exact r_iret C dX10_restsOf_99 (by decide) (by decide)
  · refine r_aload_n C 0 dX10_restsOf_58 rfl rfl ?_
    refine r_getR C 9 dX10_restsOf_59 fl_X10_21 la_1 ly_1 rfl rfl ?_
    refine r_iload_n C 1 dX10_restsOf_62 rfl rfl ?_
    refine r_iload C 6 dX10_restsOf_63 rfl ?_
    refine r_callV C [i9 v7, i9 v2, rf G 9] dX10_restsOf_65 (t_X6_leastSaid_9 C.h1 C.h2 v2 v7 d) mw_X10_76 mv_X6_leastSaid la_9 ly_9 rfl (by decide) (by decide) (by decide) rfl rfl (Nat.le_of_ble_eq_true rfl) (fun r1 d2 => ?_)
    show SS G X 8 _ _ 68 [(0, rf G 1), (2, i9 v2), (3, i9 v3), (4, i9 v4), (5, i9 v5), (6, i9 v6), (7, i9 v7)] [i9 r1] d2 _
    refine r_iload C 3 dX10_restsOf_68 rfl ?_
    refine r_icmp_ne C 88 dX10_restsOf_70 (by decide) (fun _ => ?_) (fun _ => ?_)
    · refine r_iinc C 5 [(6, i9 (v6 + 1)), (0, rf G 1), (2, i9 v2), (3, i9 v3), (4, i9 v4), (5, i9 v5), (7, i9 v7)] dX10_restsOf_88 rfl (by decide) rfl ?_
      refine r_iinc C 6 [(7, i9 (v7 + 1)), (6, i9 (v6 + 1)), (0, rf G 1), (2, i9 v2), (3, i9 v3), (4, i9 v4), (5, i9 v5)] dX10_restsOf_91 rfl (by decide) rfl ?_
      refine r_goto C 46 dX10_restsOf_94 (by decide) ?_
      refine ss_wide (k' := 0) (n' := 0) (by decide) (by decide) ?_
      refine ss_ls [(0, rf G 1), (2, i9 v2), (3, i9 v3), (4, i9 v4), (5, i9 v5), (6, i9 (v6 + 1)), (7, i9 (v7 + 1))] [2, 3, 4, 5, 6, 1, 0] rfl ?_
      exact hk_X10_restsOf_1_c46 v2 v3 v4 v5 (v6 + 1) (v7 + 1) d2
    · refine r_aload_n C 0 dX10_restsOf_73 rfl rfl ?_
      refine r_getR C 9 dX10_restsOf_74 fl_X10_21 la_1 ly_1 rfl rfl ?_
      refine r_iload_n C 2 dX10_restsOf_77 rfl rfl ?_
      refine r_iload C 6 dX10_restsOf_78 rfl ?_
      refine r_callV C [i9 v7, i9 v3, rf G 9] dX10_restsOf_80 (t_X6_mostSaid_9 C.h1 C.h2 v3 v7 d2) mw_X10_83 mv_X6_mostSaid la_9 ly_9 rfl (by decide) (by decide) (by decide) rfl rfl (Nat.le_of_ble_eq_true rfl) (fun r3 d4 => ?_)
      show SS G X 8 _ _ 83 [(0, rf G 1), (2, i9 v2), (3, i9 v3), (4, i9 v4), (5, i9 v5), (6, i9 v6), (7, i9 v7)] [i9 r3] d4 _
      refine r_iload C 4 dX10_restsOf_83 rfl ?_
      refine r_icmp_eq C 91 dX10_restsOf_85 (by decide) (fun _ => ?_) (fun _ => ?_)
      · refine r_iinc C 6 [(7, i9 (v7 + 1)), (0, rf G 1), (2, i9 v2), (3, i9 v3), (4, i9 v4), (5, i9 v5), (6, i9 v6)] dX10_restsOf_91 rfl (by decide) rfl ?_
        refine r_goto C 46 dX10_restsOf_94 (by decide) ?_
        refine ss_wide (k' := 0) (n' := 0) (by decide) (by decide) ?_
        refine ss_ls [(0, rf G 1), (2, i9 v2), (3, i9 v3), (4, i9 v4), (5, i9 v5), (6, i9 v6), (7, i9 (v7 + 1))] [1, 2, 3, 4, 5, 6, 0] rfl ?_
        exact hk_X10_restsOf_1_c46 v2 v3 v4 v5 v6 (v7 + 1) d4
      · refine r_iinc C 5 [(6, i9 (v6 + 1)), (0, rf G 1), (2, i9 v2), (3, i9 v3), (4, i9 v4), (5, i9 v5), (7, i9 v7)] dX10_restsOf_88 rfl (by decide) rfl ?_
        refine r_iinc C 6 [(7, i9 (v7 + 1)), (6, i9 (v6 + 1)), (0, rf G 1), (2, i9 v2), (3, i9 v3), (4, i9 v4), (5, i9 v5)] dX10_restsOf_91 rfl (by decide) rfl ?_
        refine r_goto C 46 dX10_restsOf_94 (by decide) ?_
        refine ss_wide (k' := 0) (n' := 0) (by decide) (by decide) ?_
        refine ss_ls [(0, rf G 1), (2, i9 v2), (3, i9 v3), (4, i9 v4), (5, i9 v5), (6, i9 (v6 + 1)), (7, i9 (v7 + 1))] [2, 3, 4, 5, 6, 1, 0] rfl ?_
        exact hk_X10_restsOf_1_c46 v2 v3 v4 v5 (v6 + 1) (v7 + 1) d4
theorem s_X10_restsOf_1_c46 {G : G9} {X : X9} (C : CX G X cX10_restsOf 8 RX10 [] z_X10_restsOf_1) : ∀ (v2 v3 v4 v5 v6 v7 : Int) (d : D9), SS G X 8 0 0 46 [(0, rf G 1), (2, i9 v2), (3, i9 v3), (4, i9 v4), (5, i9 v5), (6, i9 v6), (7, i9 v7)] [] d (m_X10_restsOf_1_c46  v2 v3 v4 v5 v6 v7 d) :=
  fix9_ind (P := fun k => ∀ (v2 v3 v4 v5 v6 v7 : Int) (d : D9), SS G X 8 0 0 46 [(0, rf G 1), (2, i9 v2), (3, i9 v3), (4, i9 v4), (5, i9 v5), (6, i9 v6), (7, i9 v7)] [] d (k v2 v3 v4 v5 v6 v7 d)) (fun _ _ _ _ _ _ _ => ss_none) (fun k hk => sb_X10_restsOf_1_c46 C k hk) FU
set_option maxRecDepth 100000 in
theorem t_X10_restsOf_1 {G : G9} {l : Launch} (h1 : va_D (A9 G) (wl G (fun _ _ => 0))) (h2 : l.stackTraces = false) (p1 : Int) (d : D9) : MT G l yX10_restsOf cX10_restsOf 8 z_X10_restsOf_1 [rf G 1, i9 p1] d (m_X10_restsOf_1 p1 d) := by
  refine mt_of (own := RX10) (by decide) rfl (Nat.le_of_ble_eq_true rfl) h1 h2 [(0, rf G 1), (1, i9 p1)] rfl (fun X hX C => ?_)
  unfold m_X10_restsOf_1
  refine r_aload_n C 0 dX10_restsOf_0 rfl rfl ?_
  refine r_getR C 2 dX10_restsOf_1 fl_X10_12 la_1 ly_1 rfl rfl ?_
  refine r_iload_n C 1 dX10_restsOf_4 rfl rfl ?_
  refine r_callV C [i9 p1, rf G 2] dX10_restsOf_5 (t_X3_withAbove_2 C.h1 C.h2 p1 d) mw_X10_72 mv_X3_withAbove la_2 ly_2 rfl (by decide) (by decide) (by decide) rfl rfl (Nat.le_of_ble_eq_true rfl) (fun r1 d2 => ?_)
  show SS G X 8 _ _ 8 [(0, rf G 1), (1, i9 p1)] [i9 r1] d2 _
  refine r_istore_n C [(2, i9 r1), (0, rf G 1), (1, i9 p1)] dX10_restsOf_8 rfl (by decide) rfl ?_
  refine r_aload_n C 1 dX10_restsOf_9 rfl rfl ?_
  refine r_getR C 2 dX10_restsOf_10 fl_X10_12 la_1 ly_1 rfl rfl ?_
  refine r_iload_n C 2 dX10_restsOf_13 rfl rfl ?_
  refine r_callV C [i9 p1, rf G 2] dX10_restsOf_14 (t_X3_withBelow_2 C.h1 C.h2 p1 d2) mw_X10_80 mv_X3_withBelow la_2 ly_2 rfl (by decide) (by decide) (by decide) rfl rfl (Nat.le_of_ble_eq_true rfl) (fun r3 d4 => ?_)
  show SS G X 8 _ _ 17 [(2, i9 r1), (0, rf G 1), (1, i9 p1)] [i9 r3] d4 _
  refine r_istore_n C [(3, i9 r3), (2, i9 r1), (0, rf G 1), (1, i9 p1)] dX10_restsOf_17 rfl (by decide) rfl ?_
  refine r_aload_n C 2 dX10_restsOf_18 rfl rfl ?_
  refine r_getR C 9 dX10_restsOf_19 fl_X10_21 la_1 ly_1 rfl rfl ?_
  refine r_iload_n C 1 dX10_restsOf_22 rfl rfl ?_
  refine r_iconst C dX10_restsOf_23 ?_
  refine r_callV C [i9 (-1), i9 r1, rf G 9] dX10_restsOf_24 (t_X6_leastSaid_9 C.h1 C.h2 r1 (-1) d4) mw_X10_76 mv_X6_leastSaid la_9 ly_9 rfl (by decide) (by decide) (by decide) rfl rfl (Nat.le_of_ble_eq_true rfl) (fun r5 d6 => ?_)
  show SS G X 8 _ _ 27 [(3, i9 r3), (2, i9 r1), (0, rf G 1), (1, i9 p1)] [i9 r5] d6 _
  refine r_istore C [(4, i9 r5), (3, i9 r3), (2, i9 r1), (0, rf G 1), (1, i9 p1)] dX10_restsOf_27 (by decide) rfl ?_
  refine r_aload_n C 3 dX10_restsOf_29 rfl rfl ?_
  refine r_getR C 9 dX10_restsOf_30 fl_X10_21 la_1 ly_1 rfl rfl ?_
  refine r_iload_n C 1 dX10_restsOf_33 rfl rfl ?_
  refine r_iconst C dX10_restsOf_34 ?_
  refine r_callV C [i9 (-1), i9 r3, rf G 9] dX10_restsOf_35 (t_X6_mostSaid_9 C.h1 C.h2 r3 (-1) d6) mw_X10_83 mv_X6_mostSaid la_9 ly_9 rfl (by decide) (by decide) (by decide) rfl rfl (Nat.le_of_ble_eq_true rfl) (fun r7 d8 => ?_)
  show SS G X 8 _ _ 38 [(4, i9 r5), (3, i9 r3), (2, i9 r1), (0, rf G 1), (1, i9 p1)] [i9 r7] d8 _
  refine r_istore C [(5, i9 r7), (4, i9 r5), (3, i9 r3), (2, i9 r1), (0, rf G 1), (1, i9 p1)] dX10_restsOf_38 (by decide) rfl ?_
  refine r_iconst C dX10_restsOf_40 ?_
  refine r_istore C [(6, i9 0), (5, i9 r7), (4, i9 r5), (3, i9 r3), (2, i9 r1), (0, rf G 1), (1, i9 p1)] dX10_restsOf_41 (by decide) rfl ?_
  refine r_iconst C dX10_restsOf_43 ?_
  refine r_istore C [(7, i9 0), (6, i9 0), (5, i9 r7), (4, i9 r5), (3, i9 r3), (2, i9 r1), (0, rf G 1), (1, i9 p1)] dX10_restsOf_44 (by decide) rfl ?_
  refine ss_wide (k' := 0) (n' := 0) (by decide) (by decide) ?_
  refine ss_ls [(0, rf G 1), (2, i9 r1), (3, i9 r3), (4, i9 r5), (5, i9 r7), (6, i9 0), (7, i9 0)] [6, 5, 4, 3, 2, 1, 0] rfl ?_
  exact s_X10_restsOf_1_c46 C  r1 r3 r5 r7 0 0 d8
theorem dX11_rests_0 : decode cX11_rests 0 = .ok (.aload_n 0, 1) := by decide +kernel
theorem dX11_rests_1 : decode cX11_rests 1 = .ok (.iload_n 1, 1) := by decide +kernel
theorem dX11_rests_2 : decode cX11_rests 2 = .ok (.invokevirtual 103, 3) := by decide +kernel
theorem dX11_rests_5 : decode cX11_rests 5 = .ok (.aload_n 0, 1) := by decide +kernel
theorem dX11_rests_6 : decode cX11_rests 6 = .ok (.getfield 10, 3) := by decide +kernel
theorem dX11_rests_9 : decode cX11_rests 9 = .ok (.iload_n 1, 1) := by decide +kernel
theorem dX11_rests_10 : decode cX11_rests 10 = .ok (.invokevirtual 294, 3) := by decide +kernel
theorem dX11_rests_13 : decode cX11_rests 13 = .ok (.ireturn, 1) := by decide +kernel
abbrev z_X11_rests_0 : Z9 := (some .int, 1, 1, 6, 7, 121)
def m_X11_rests_0 (p1 : Int) (d : D9) : Option R9 := cl (m_X11_askPaint_0 p1 d) (fun r1 d2 => cl (m_X10_restsOf_1 p1 d2) (fun r3 d4 => rt r3 d4))
set_option maxRecDepth 100000 in
theorem t_X11_rests_0 {G : G9} {l : Launch} (h1 : va_D (A9 G) (wl G (fun _ _ => 0))) (h2 : l.stackTraces = false) (p1 : Int) (d : D9) : MT G l yX11_rests cX11_rests 2 z_X11_rests_0 [rf G 0, i9 p1] d (m_X11_rests_0 p1 d) := by
  refine mt_of (own := RX11) (by decide) rfl (Nat.le_of_ble_eq_true rfl) h1 h2 [(0, rf G 0), (1, i9 p1)] rfl (fun X hX C => ?_)
  unfold m_X11_rests_0
  refine r_aload_n C 0 dX11_rests_0 rfl rfl ?_
  refine r_iload_n C 1 dX11_rests_1 rfl rfl ?_
  refine r_callV C [i9 p1, rf G 0] dX11_rests_2 (t_X11_askPaint_0 C.h1 C.h2 p1 d) mw_X11_103 mv_X11_askPaint la_0 ly_0 rfl (by decide) (by decide) (by decide) rfl rfl (Nat.le_of_ble_eq_true rfl) (fun r1 d2 => ?_)
  show SS G X 2 _ _ 5 [(0, rf G 0), (1, i9 p1)] [] d2 _
  refine r_aload_n C 0 dX11_rests_5 rfl rfl ?_
  refine r_getR C 1 dX11_rests_6 fl_X11_10 la_0 ly_0 rfl rfl ?_
  refine r_iload_n C 1 dX11_rests_9 rfl rfl ?_
  refine r_callV C [i9 p1, rf G 1] dX11_rests_10 (t_X10_restsOf_1 C.h1 C.h2 p1 d2) mw_X11_294 mv_X10_restsOf la_1 ly_1 rfl (by decide) (by decide) (by decide) rfl rfl (Nat.le_of_ble_eq_true rfl) (fun r3 d4 => ?_)
  show SS G X 2 _ _ 13 [(0, rf G 0), (1, i9 p1)] [i9 r3] d4 _
  exact r_iret C dX11_rests_13 (by decide) (by decide)
theorem dX10_isRing_0 : decode cX10_isRing 0 = .ok (.aload_n 0, 1) := by decide +kernel
theorem dX10_isRing_1 : decode cX10_isRing 1 = .ok (.getfield 12, 3) := by decide +kernel
theorem dX10_isRing_4 : decode cX10_isRing 4 = .ok (.iload_n 1, 1) := by decide +kernel
theorem dX10_isRing_5 : decode cX10_isRing 5 = .ok (.aload_n 0, 1) := by decide +kernel
theorem dX10_isRing_6 : decode cX10_isRing 6 = .ok (.getfield 12, 3) := by decide +kernel
theorem dX10_isRing_9 : decode cX10_isRing 9 = .ok (.getfield 92, 3) := by decide +kernel
theorem dX10_isRing_12 : decode cX10_isRing 12 = .ok (.invokevirtual 96, 3) := by decide +kernel
theorem dX10_isRing_15 : decode cX10_isRing 15 = .ok (.iload_n 1, 1) := by decide +kernel
theorem dX10_isRing_16 : decode cX10_isRing 16 = .ok (.invokestatic 100, 3) := by decide +kernel
theorem dX10_isRing_19 : decode cX10_isRing 19 = .ok (.ireturn, 1) := by decide +kernel
abbrev z_X10_isRing_1 : Z9 := (some .boolean, 1, 0, 0, 3, 47)
def m_X10_isRing_1 (p1 : Int) (d : D9) : Option R9 := cl (m_X3_reach_2_7 p1 d) (fun r1 d2 => cl (m_X11_isIn r1 p1 d2) (fun r3 d4 => rt (r3 % 2) d4))
set_option maxRecDepth 100000 in
theorem t_X10_isRing_1 {G : G9} {l : Launch} (h1 : va_D (A9 G) (wl G (fun _ _ => 0))) (h2 : l.stackTraces = false) (p1 : Int) (d : D9) : MT G l yX10_isRing cX10_isRing 2 z_X10_isRing_1 [rf G 1, i9 p1] d (m_X10_isRing_1 p1 d) := by
  refine mt_of (own := RX10) (by decide) rfl (Nat.le_of_ble_eq_true rfl) h1 h2 [(0, rf G 1), (1, i9 p1)] rfl (fun X hX C => ?_)
  unfold m_X10_isRing_1
  refine r_aload_n C 0 dX10_isRing_0 rfl rfl ?_
  refine r_getR C 2 dX10_isRing_1 fl_X10_12 la_1 ly_1 rfl rfl ?_
  refine r_iload_n C 1 dX10_isRing_4 rfl rfl ?_
  refine r_aload_n C 0 dX10_isRing_5 rfl rfl ?_
  refine r_getR C 2 dX10_isRing_6 fl_X10_12 la_1 ly_1 rfl rfl ?_
  refine r_getR C 7 dX10_isRing_9 fl_X10_92 la_2 ly_2 rfl rfl ?_
  refine r_callV C [rf G 7, i9 p1, rf G 2] dX10_isRing_12 (t_X3_reach_2_7 C.h1 C.h2 p1 d) mw_X10_96 mv_X3_reach la_2 ly_2 rfl (by decide) (by decide) (by decide) rfl rfl (Nat.le_of_ble_eq_true rfl) (fun r1 d2 => ?_)
  show SS G X 2 _ _ 15 [(0, rf G 1), (1, i9 p1)] [i9 r1] d2 _
  refine r_iload_n C 1 dX10_isRing_15 rfl rfl ?_
  refine r_callN C [i9 p1, i9 r1] dX10_isRing_16 (t_X11_isIn C.h1 C.h2 r1 p1 d2) (n_X11_isIn r1 p1 d2) mn_X10_100 ms_X11_isIn (by decide) (by decide) (by decide) rfl rfl (Nat.le_of_ble_eq_true rfl) (fun r3 d4 => ?_)
  show SS G X 2 _ _ 19 [(0, rf G 1), (1, i9 p1)] [i9 r3] d4 _
  exact r_zret C dX10_isRing_19 (by decide) (by decide)

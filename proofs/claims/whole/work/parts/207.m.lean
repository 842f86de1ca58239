abbrev z_X11_copyRow_67_5 : Z9 := (none, 0, 0, 0, 2, 200)
def m_X11_copyRow_67_5 (d : D9) : Option R9 := cp9 d 67 30 5 30 (min9 30 30) (fun d1 => rt 0 d1)
set_option maxRecDepth 100000 in
theorem t_X11_copyRow_67_5 {G : G9} {l : Launch} (h1 : va_D (A9 G) (wl G (fun _ _ => 0))) (h2 : l.stackTraces = false) (d : D9) : MT G l yX11_copyRow cX11_copyRow 2 z_X11_copyRow_67_5 [rf G 67, rf G 5] d (m_X11_copyRow_67_5  d) := by
  refine mt_of (own := RX11) (by decide) rfl (Nat.le_of_ble_eq_true rfl) h1 h2 [(0, rf G 67), (1, rf G 5)] rfl (fun X hX C => ?_)
  unfold m_X11_copyRow_67_5
  refine r_aload_n C 0 dX11_copyRow_0 rfl rfl ?_
  refine r_iconst C dX11_copyRow_1 ?_
  refine r_aload_n C 1 dX11_copyRow_2 rfl rfl ?_
  refine r_iconst C dX11_copyRow_3 ?_
  refine r_aload_n C 0 dX11_copyRow_4 rfl rfl ?_
  refine r_alen C dX11_copyRow_5 la_67 ly_67 ?_
  refine r_aload_n C 1 dX11_copyRow_6 rfl rfl ?_
  refine r_alen C dX11_copyRow_7 la_5 ly_5 ?_
  refine r_mmin C dX11_copyRow_8 mm_X11_465 ⟨Nat.le_of_ble_eq_true rfl, Nat.le_of_ble_eq_true rfl⟩ (by decide) (by decide) ?_
  refine r_acopy C dX11_copyRow_11 aw_X11_470 la_67 ly_67 la_5 ly_5 (by decide) (Nat.le_of_ble_eq_true rfl) (fun d1 => ?_)
  exact r_vret C dX11_copyRow_14 (by decide) (by decide)
theorem n_X11_copyRow_67_5 (d : D9) : NT9 (m_X11_copyRow_67_5  d) := by
  unfold m_X11_copyRow_67_5
  repeat (first | exact nt_rt | exact nt_none | apply nt_if | refine nt_cl ?_ (fun _ _ => ?_) | refine nt_cp9 (fun _ => ?_))
abbrev z_X11_copyRow_68_6 : Z9 := (none, 0, 0, 0, 2, 200)
def m_X11_copyRow_68_6 (d : D9) : Option R9 := cp9 d 68 150 6 150 (min9 150 150) (fun d1 => rt 0 d1)
set_option maxRecDepth 100000 in
theorem t_X11_copyRow_68_6 {G : G9} {l : Launch} (h1 : va_D (A9 G) (wl G (fun _ _ => 0))) (h2 : l.stackTraces = false) (d : D9) : MT G l yX11_copyRow cX11_copyRow 2 z_X11_copyRow_68_6 [rf G 68, rf G 6] d (m_X11_copyRow_68_6  d) := by
  refine mt_of (own := RX11) (by decide) rfl (Nat.le_of_ble_eq_true rfl) h1 h2 [(0, rf G 68), (1, rf G 6)] rfl (fun X hX C => ?_)
  unfold m_X11_copyRow_68_6
  refine r_aload_n C 0 dX11_copyRow_0 rfl rfl ?_
  refine r_iconst C dX11_copyRow_1 ?_
  refine r_aload_n C 1 dX11_copyRow_2 rfl rfl ?_
  refine r_iconst C dX11_copyRow_3 ?_
  refine r_aload_n C 0 dX11_copyRow_4 rfl rfl ?_
  refine r_alen C dX11_copyRow_5 la_68 ly_68 ?_
  refine r_aload_n C 1 dX11_copyRow_6 rfl rfl ?_
  refine r_alen C dX11_copyRow_7 la_6 ly_6 ?_
  refine r_mmin C dX11_copyRow_8 mm_X11_465 ⟨Nat.le_of_ble_eq_true rfl, Nat.le_of_ble_eq_true rfl⟩ (by decide) (by decide) ?_
  refine r_acopy C dX11_copyRow_11 aw_X11_470 la_68 ly_68 la_6 ly_6 (by decide) (Nat.le_of_ble_eq_true rfl) (fun d1 => ?_)
  exact r_vret C dX11_copyRow_14 (by decide) (by decide)
theorem n_X11_copyRow_68_6 (d : D9) : NT9 (m_X11_copyRow_68_6  d) := by
  unfold m_X11_copyRow_68_6
  repeat (first | exact nt_rt | exact nt_none | apply nt_if | refine nt_cl ?_ (fun _ _ => ?_) | refine nt_cp9 (fun _ => ?_))
abbrev z_X11_copyRow_69_7 : Z9 := (none, 0, 0, 0, 2, 200)
def m_X11_copyRow_69_7 (d : D9) : Option R9 := cp9 d 69 30 7 30 (min9 30 30) (fun d1 => rt 0 d1)
set_option maxRecDepth 100000 in
theorem t_X11_copyRow_69_7 {G : G9} {l : Launch} (h1 : va_D (A9 G) (wl G (fun _ _ => 0))) (h2 : l.stackTraces = false) (d : D9) : MT G l yX11_copyRow cX11_copyRow 2 z_X11_copyRow_69_7 [rf G 69, rf G 7] d (m_X11_copyRow_69_7  d) := by
  refine mt_of (own := RX11) (by decide) rfl (Nat.le_of_ble_eq_true rfl) h1 h2 [(0, rf G 69), (1, rf G 7)] rfl (fun X hX C => ?_)
  unfold m_X11_copyRow_69_7
  refine r_aload_n C 0 dX11_copyRow_0 rfl rfl ?_
  refine r_iconst C dX11_copyRow_1 ?_
  refine r_aload_n C 1 dX11_copyRow_2 rfl rfl ?_
  refine r_iconst C dX11_copyRow_3 ?_
  refine r_aload_n C 0 dX11_copyRow_4 rfl rfl ?_
  refine r_alen C dX11_copyRow_5 la_69 ly_69 ?_
  refine r_aload_n C 1 dX11_copyRow_6 rfl rfl ?_
  refine r_alen C dX11_copyRow_7 la_7 ly_7 ?_
  refine r_mmin C dX11_copyRow_8 mm_X11_465 ⟨Nat.le_of_ble_eq_true rfl, Nat.le_of_ble_eq_true rfl⟩ (by decide) (by decide) ?_
  refine r_acopy C dX11_copyRow_11 aw_X11_470 la_69 ly_69 la_7 ly_7 (by decide) (Nat.le_of_ble_eq_true rfl) (fun d1 => ?_)
  exact r_vret C dX11_copyRow_14 (by decide) (by decide)
theorem n_X11_copyRow_69_7 (d : D9) : NT9 (m_X11_copyRow_69_7  d) := by
  unfold m_X11_copyRow_69_7
  repeat (first | exact nt_rt | exact nt_none | apply nt_if | refine nt_cl ?_ (fun _ _ => ?_) | refine nt_cp9 (fun _ => ?_))
abbrev z_X11_copyRow_70_8 : Z9 := (none, 0, 0, 0, 2, 200)
def m_X11_copyRow_70_8 (d : D9) : Option R9 := cp9 d 70 30 8 30 (min9 30 30) (fun d1 => rt 0 d1)
set_option maxRecDepth 100000 in
theorem t_X11_copyRow_70_8 {G : G9} {l : Launch} (h1 : va_D (A9 G) (wl G (fun _ _ => 0))) (h2 : l.stackTraces = false) (d : D9) : MT G l yX11_copyRow cX11_copyRow 2 z_X11_copyRow_70_8 [rf G 70, rf G 8] d (m_X11_copyRow_70_8  d) := by
  refine mt_of (own := RX11) (by decide) rfl (Nat.le_of_ble_eq_true rfl) h1 h2 [(0, rf G 70), (1, rf G 8)] rfl (fun X hX C => ?_)
  unfold m_X11_copyRow_70_8
  refine r_aload_n C 0 dX11_copyRow_0 rfl rfl ?_
  refine r_iconst C dX11_copyRow_1 ?_
  refine r_aload_n C 1 dX11_copyRow_2 rfl rfl ?_
  refine r_iconst C dX11_copyRow_3 ?_
  refine r_aload_n C 0 dX11_copyRow_4 rfl rfl ?_
  refine r_alen C dX11_copyRow_5 la_70 ly_70 ?_
  refine r_aload_n C 1 dX11_copyRow_6 rfl rfl ?_
  refine r_alen C dX11_copyRow_7 la_8 ly_8 ?_
  refine r_mmin C dX11_copyRow_8 mm_X11_465 ⟨Nat.le_of_ble_eq_true rfl, Nat.le_of_ble_eq_true rfl⟩ (by decide) (by decide) ?_
  refine r_acopy C dX11_copyRow_11 aw_X11_470 la_70 ly_70 la_8 ly_8 (by decide) (Nat.le_of_ble_eq_true rfl) (fun d1 => ?_)
  exact r_vret C dX11_copyRow_14 (by decide) (by decide)
theorem n_X11_copyRow_70_8 (d : D9) : NT9 (m_X11_copyRow_70_8  d) := by
  unfold m_X11_copyRow_70_8
  repeat (first | exact nt_rt | exact nt_none | apply nt_if | refine nt_cl ?_ (fun _ _ => ?_) | refine nt_cp9 (fun _ => ?_))
abbrev z_X3_copyFrom_2_64 : Z9 := (none, 0, 0, 0, 3, 221)
def m_X3_copyFrom_2_64 (d : D9) : Option R9 := pf d 2 0 (d 64 0) (fun d1 => pf d1 2 1 (d1 64 1) (fun d2 => cl (m_X11_copyRow_65_3 d2) (fun r3 d4 => cl (m_X11_copyRow_66_4 d4) (fun r5 d6 => cl (m_X11_copyRow_67_5 d6) (fun r7 d8 => cl (m_X11_copyRow_68_6 d8) (fun r9 d10 => cl (m_X11_copyRow_69_7 d10) (fun r11 d12 => cl (m_X11_copyRow_70_8 d12) (fun r13 d14 => rt 0 d14))))))))
set_option maxRecDepth 100000 in
theorem t_X3_copyFrom_2_64 {G : G9} {l : Launch} (h1 : va_D (A9 G) (wl G (fun _ _ => 0))) (h2 : l.stackTraces = false) (d : D9) : MT G l yX3_copyFrom cX3_copyFrom 2 z_X3_copyFrom_2_64 [rf G 2, rf G 64] d (m_X3_copyFrom_2_64  d) := by
  refine mt_of (own := RX3) (by decide) rfl (Nat.le_of_ble_eq_true rfl) h1 h2 [(0, rf G 2), (1, rf G 64)] rfl (fun X hX C => ?_)
  unfold m_X3_copyFrom_2_64
  refine r_aload_n C 0 dX3_copyFrom_0 rfl rfl ?_
  refine r_aload_n C 1 dX3_copyFrom_1 rfl rfl ?_
  refine r_getI C dX3_copyFrom_2 fl_X3_30 la_64 ly_64 rfl ?_
  refine r_putI C dX3_copyFrom_5 fp_X3_30 la_2 ly_2 rfl (fun d1 => ?_)
  refine r_aload_n C 0 dX3_copyFrom_8 rfl rfl ?_
  refine r_aload_n C 1 dX3_copyFrom_9 rfl rfl ?_
  refine r_getI C dX3_copyFrom_10 fl_X3_34 la_64 ly_64 rfl ?_
  refine r_putI C dX3_copyFrom_13 fp_X3_34 la_2 ly_2 rfl (fun d2 => ?_)
  refine r_aload_n C 1 dX3_copyFrom_16 rfl rfl ?_
  refine r_getR C 65 dX3_copyFrom_17 fl_X3_9 la_64 ly_64 rfl rfl ?_
  refine r_aload_n C 0 dX3_copyFrom_20 rfl rfl ?_
  refine r_getR C 3 dX3_copyFrom_21 fl_X3_9 la_2 ly_2 rfl rfl ?_
  refine r_callN C [rf G 3, rf G 65] dX3_copyFrom_24 (t_X11_copyRow_65_3 C.h1 C.h2 d2) (n_X11_copyRow_65_3 d2) mn_X3_37 ms_X11_copyRow (by decide) (by decide) (by decide) rfl rfl (Nat.le_of_ble_eq_true rfl) (fun r3 d4 => ?_)
  show SS G X 2 _ _ 27 [(0, rf G 2), (1, rf G 64)] [] d4 _
  refine r_aload_n C 1 dX3_copyFrom_27 rfl rfl ?_
  refine r_getR C 66 dX3_copyFrom_28 fl_X3_15 la_64 ly_64 rfl rfl ?_
  refine r_aload_n C 0 dX3_copyFrom_31 rfl rfl ?_
  refine r_getR C 4 dX3_copyFrom_32 fl_X3_15 la_2 ly_2 rfl rfl ?_
  refine r_callN C [rf G 4, rf G 66] dX3_copyFrom_35 (t_X11_copyRow_66_4 C.h1 C.h2 d4) (n_X11_copyRow_66_4 d4) mn_X3_37 ms_X11_copyRow (by decide) (by decide) (by decide) rfl rfl (Nat.le_of_ble_eq_true rfl) (fun r5 d6 => ?_)
  show SS G X 2 _ _ 38 [(0, rf G 2), (1, rf G 64)] [] d6 _
  refine r_aload_n C 1 dX3_copyFrom_38 rfl rfl ?_
  refine r_getR C 67 dX3_copyFrom_39 fl_X3_18 la_64 ly_64 rfl rfl ?_
  refine r_aload_n C 0 dX3_copyFrom_42 rfl rfl ?_
  refine r_getR C 5 dX3_copyFrom_43 fl_X3_18 la_2 ly_2 rfl rfl ?_
  refine r_callN C [rf G 5, rf G 67] dX3_copyFrom_46 (t_X11_copyRow_67_5 C.h1 C.h2 d6) (n_X11_copyRow_67_5 d6) mn_X3_37 ms_X11_copyRow (by decide) (by decide) (by decide) rfl rfl (Nat.le_of_ble_eq_true rfl) (fun r7 d8 => ?_)
  show SS G X 2 _ _ 49 [(0, rf G 2), (1, rf G 64)] [] d8 _
  refine r_aload_n C 1 dX3_copyFrom_49 rfl rfl ?_
  refine r_getR C 68 dX3_copyFrom_50 fl_X3_21 la_64 ly_64 rfl rfl ?_
  refine r_aload_n C 0 dX3_copyFrom_53 rfl rfl ?_
  refine r_getR C 6 dX3_copyFrom_54 fl_X3_21 la_2 ly_2 rfl rfl ?_
  refine r_callN C [rf G 6, rf G 68] dX3_copyFrom_57 (t_X11_copyRow_68_6 C.h1 C.h2 d8) (n_X11_copyRow_68_6 d8) mn_X3_37 ms_X11_copyRow (by decide) (by decide) (by decide) rfl rfl (Nat.le_of_ble_eq_true rfl) (fun r9 d10 => ?_)
  show SS G X 2 _ _ 60 [(0, rf G 2), (1, rf G 64)] [] d10 _
  refine r_aload_n C 1 dX3_copyFrom_60 rfl rfl ?_
  refine r_getR C 69 dX3_copyFrom_61 fl_X3_24 la_64 ly_64 rfl rfl ?_
  refine r_aload_n C 0 dX3_copyFrom_64 rfl rfl ?_
  refine r_getR C 7 dX3_copyFrom_65 fl_X3_24 la_2 ly_2 rfl rfl ?_
  refine r_callN C [rf G 7, rf G 69] dX3_copyFrom_68 (t_X11_copyRow_69_7 C.h1 C.h2 d10) (n_X11_copyRow_69_7 d10) mn_X3_37 ms_X11_copyRow (by decide) (by decide) (by decide) rfl rfl (Nat.le_of_ble_eq_true rfl) (fun r11 d12 => ?_)
  show SS G X 2 _ _ 71 [(0, rf G 2), (1, rf G 64)] [] d12 _
  refine r_aload_n C 1 dX3_copyFrom_71 rfl rfl ?_
  refine r_getR C 70 dX3_copyFrom_72 fl_X3_27 la_64 ly_64 rfl rfl ?_
  refine r_aload_n C 0 dX3_copyFrom_75 rfl rfl ?_
  refine r_getR C 8 dX3_copyFrom_76 fl_X3_27 la_2 ly_2 rfl rfl ?_
  refine r_callN C [rf G 8, rf G 70] dX3_copyFrom_79 (t_X11_copyRow_70_8 C.h1 C.h2 d12) (n_X11_copyRow_70_8 d12) mn_X3_37 ms_X11_copyRow (by decide) (by decide) (by decide) rfl rfl (Nat.le_of_ble_eq_true rfl) (fun r13 d14 => ?_)
  show SS G X 2 _ _ 82 [(0, rf G 2), (1, rf G 64)] [] d14 _
  exact r_vret C dX3_copyFrom_82 (by decide) (by decide)
abbrev z_X11_copyRow_72_10 : Z9 := (none, 0, 0, 0, 2, 200)
def m_X11_copyRow_72_10 (d : D9) : Option R9 := cp9 d 72 30 10 30 (min9 30 30) (fun d1 => rt 0 d1)
set_option maxRecDepth 100000 in
theorem t_X11_copyRow_72_10 {G : G9} {l : Launch} (h1 : va_D (A9 G) (wl G (fun _ _ => 0))) (h2 : l.stackTraces = false) (d : D9) : MT G l yX11_copyRow cX11_copyRow 2 z_X11_copyRow_72_10 [rf G 72, rf G 10] d (m_X11_copyRow_72_10  d) := by
  refine mt_of (own := RX11) (by decide) rfl (Nat.le_of_ble_eq_true rfl) h1 h2 [(0, rf G 72), (1, rf G 10)] rfl (fun X hX C => ?_)
  unfold m_X11_copyRow_72_10
  refine r_aload_n C 0 dX11_copyRow_0 rfl rfl ?_
  refine r_iconst C dX11_copyRow_1 ?_
  refine r_aload_n C 1 dX11_copyRow_2 rfl rfl ?_
  refine r_iconst C dX11_copyRow_3 ?_
  refine r_aload_n C 0 dX11_copyRow_4 rfl rfl ?_
  refine r_alen C dX11_copyRow_5 la_72 ly_72 ?_
  refine r_aload_n C 1 dX11_copyRow_6 rfl rfl ?_
  refine r_alen C dX11_copyRow_7 la_10 ly_10 ?_
  refine r_mmin C dX11_copyRow_8 mm_X11_465 ⟨Nat.le_of_ble_eq_true rfl, Nat.le_of_ble_eq_true rfl⟩ (by decide) (by decide) ?_
  refine r_acopy C dX11_copyRow_11 aw_X11_470 la_72 ly_72 la_10 ly_10 (by decide) (Nat.le_of_ble_eq_true rfl) (fun d1 => ?_)
  exact r_vret C dX11_copyRow_14 (by decide) (by decide)
theorem n_X11_copyRow_72_10 (d : D9) : NT9 (m_X11_copyRow_72_10  d) := by
  unfold m_X11_copyRow_72_10
  repeat (first | exact nt_rt | exact nt_none | apply nt_if | refine nt_cl ?_ (fun _ _ => ?_) | refine nt_cp9 (fun _ => ?_))
abbrev z_X11_copyRow_73_11 : Z9 := (none, 0, 0, 0, 2, 200)
def m_X11_copyRow_73_11 (d : D9) : Option R9 := cp9 d 73 30 11 30 (min9 30 30) (fun d1 => rt 0 d1)
set_option maxRecDepth 100000 in
theorem t_X11_copyRow_73_11 {G : G9} {l : Launch} (h1 : va_D (A9 G) (wl G (fun _ _ => 0))) (h2 : l.stackTraces = false) (d : D9) : MT G l yX11_copyRow cX11_copyRow 2 z_X11_copyRow_73_11 [rf G 73, rf G 11] d (m_X11_copyRow_73_11  d) := by
  refine mt_of (own := RX11) (by decide) rfl (Nat.le_of_ble_eq_true rfl) h1 h2 [(0, rf G 73), (1, rf G 11)] rfl (fun X hX C => ?_)
  unfold m_X11_copyRow_73_11
  refine r_aload_n C 0 dX11_copyRow_0 rfl rfl ?_
  refine r_iconst C dX11_copyRow_1 ?_
  refine r_aload_n C 1 dX11_copyRow_2 rfl rfl ?_
  refine r_iconst C dX11_copyRow_3 ?_
  refine r_aload_n C 0 dX11_copyRow_4 rfl rfl ?_
  refine r_alen C dX11_copyRow_5 la_73 ly_73 ?_
  refine r_aload_n C 1 dX11_copyRow_6 rfl rfl ?_
  refine r_alen C dX11_copyRow_7 la_11 ly_11 ?_
  refine r_mmin C dX11_copyRow_8 mm_X11_465 ⟨Nat.le_of_ble_eq_true rfl, Nat.le_of_ble_eq_true rfl⟩ (by decide) (by decide) ?_
  refine r_acopy C dX11_copyRow_11 aw_X11_470 la_73 ly_73 la_11 ly_11 (by decide) (Nat.le_of_ble_eq_true rfl) (fun d1 => ?_)
  exact r_vret C dX11_copyRow_14 (by decide) (by decide)
theorem n_X11_copyRow_73_11 (d : D9) : NT9 (m_X11_copyRow_73_11  d) := by
  unfold m_X11_copyRow_73_11
  repeat (first | exact nt_rt | exact nt_none | apply nt_if | refine nt_cl ?_ (fun _ _ => ?_) | refine nt_cp9 (fun _ => ?_))
abbrev z_X11_copyRow_74_12 : Z9 := (none, 0, 0, 0, 2, 200)
def m_X11_copyRow_74_12 (d : D9) : Option R9 := cp9 d 74 30 12 30 (min9 30 30) (fun d1 => rt 0 d1)
set_option maxRecDepth 100000 in
theorem t_X11_copyRow_74_12 {G : G9} {l : Launch} (h1 : va_D (A9 G) (wl G (fun _ _ => 0))) (h2 : l.stackTraces = false) (d : D9) : MT G l yX11_copyRow cX11_copyRow 2 z_X11_copyRow_74_12 [rf G 74, rf G 12] d (m_X11_copyRow_74_12  d) := by
  refine mt_of (own := RX11) (by decide) rfl (Nat.le_of_ble_eq_true rfl) h1 h2 [(0, rf G 74), (1, rf G 12)] rfl (fun X hX C => ?_)
  unfold m_X11_copyRow_74_12
  refine r_aload_n C 0 dX11_copyRow_0 rfl rfl ?_
  refine r_iconst C dX11_copyRow_1 ?_
  refine r_aload_n C 1 dX11_copyRow_2 rfl rfl ?_
  refine r_iconst C dX11_copyRow_3 ?_
  refine r_aload_n C 0 dX11_copyRow_4 rfl rfl ?_
  refine r_alen C dX11_copyRow_5 la_74 ly_74 ?_
  refine r_aload_n C 1 dX11_copyRow_6 rfl rfl ?_
  refine r_alen C dX11_copyRow_7 la_12 ly_12 ?_
  refine r_mmin C dX11_copyRow_8 mm_X11_465 ⟨Nat.le_of_ble_eq_true rfl, Nat.le_of_ble_eq_true rfl⟩ (by decide) (by decide) ?_
  refine r_acopy C dX11_copyRow_11 aw_X11_470 la_74 ly_74 la_12 ly_12 (by decide) (Nat.le_of_ble_eq_true rfl) (fun d1 => ?_)
  exact r_vret C dX11_copyRow_14 (by decide) (by decide)
theorem n_X11_copyRow_74_12 (d : D9) : NT9 (m_X11_copyRow_74_12  d) := by
  unfold m_X11_copyRow_74_12
  repeat (first | exact nt_rt | exact nt_none | apply nt_if | refine nt_cl ?_ (fun _ _ => ?_) | refine nt_cp9 (fun _ => ?_))
abbrev z_X11_copyRow_75_13 : Z9 := (none, 0, 0, 0, 2, 200)
def m_X11_copyRow_75_13 (d : D9) : Option R9 := cp9 d 75 30 13 30 (min9 30 30) (fun d1 => rt 0 d1)
set_option maxRecDepth 100000 in
theorem t_X11_copyRow_75_13 {G : G9} {l : Launch} (h1 : va_D (A9 G) (wl G (fun _ _ => 0))) (h2 : l.stackTraces = false) (d : D9) : MT G l yX11_copyRow cX11_copyRow 2 z_X11_copyRow_75_13 [rf G 75, rf G 13] d (m_X11_copyRow_75_13  d) := by
  refine mt_of (own := RX11) (by decide) rfl (Nat.le_of_ble_eq_true rfl) h1 h2 [(0, rf G 75), (1, rf G 13)] rfl (fun X hX C => ?_)
  unfold m_X11_copyRow_75_13
  refine r_aload_n C 0 dX11_copyRow_0 rfl rfl ?_
  refine r_iconst C dX11_copyRow_1 ?_
  refine r_aload_n C 1 dX11_copyRow_2 rfl rfl ?_
  refine r_iconst C dX11_copyRow_3 ?_
  refine r_aload_n C 0 dX11_copyRow_4 rfl rfl ?_
  refine r_alen C dX11_copyRow_5 la_75 ly_75 ?_
  refine r_aload_n C 1 dX11_copyRow_6 rfl rfl ?_
  refine r_alen C dX11_copyRow_7 la_13 ly_13 ?_
  refine r_mmin C dX11_copyRow_8 mm_X11_465 ⟨Nat.le_of_ble_eq_true rfl, Nat.le_of_ble_eq_true rfl⟩ (by decide) (by decide) ?_
  refine r_acopy C dX11_copyRow_11 aw_X11_470 la_75 ly_75 la_13 ly_13 (by decide) (Nat.le_of_ble_eq_true rfl) (fun d1 => ?_)
  exact r_vret C dX11_copyRow_14 (by decide) (by decide)
theorem n_X11_copyRow_75_13 (d : D9) : NT9 (m_X11_copyRow_75_13  d) := by
  unfold m_X11_copyRow_75_13
  repeat (first | exact nt_rt | exact nt_none | apply nt_if | refine nt_cl ?_ (fun _ _ => ?_) | refine nt_cp9 (fun _ => ?_))
abbrev z_X11_copyRow_76_14 : Z9 := (none, 0, 0, 0, 2, 200)
def m_X11_copyRow_76_14 (d : D9) : Option R9 := cp9 d 76 30 14 30 (min9 30 30) (fun d1 => rt 0 d1)
set_option maxRecDepth 100000 in
theorem t_X11_copyRow_76_14 {G : G9} {l : Launch} (h1 : va_D (A9 G) (wl G (fun _ _ => 0))) (h2 : l.stackTraces = false) (d : D9) : MT G l yX11_copyRow cX11_copyRow 2 z_X11_copyRow_76_14 [rf G 76, rf G 14] d (m_X11_copyRow_76_14  d) := by
  refine mt_of (own := RX11) (by decide) rfl (Nat.le_of_ble_eq_true rfl) h1 h2 [(0, rf G 76), (1, rf G 14)] rfl (fun X hX C => ?_)
  unfold m_X11_copyRow_76_14
  refine r_aload_n C 0 dX11_copyRow_0 rfl rfl ?_
  refine r_iconst C dX11_copyRow_1 ?_
  refine r_aload_n C 1 dX11_copyRow_2 rfl rfl ?_
  refine r_iconst C dX11_copyRow_3 ?_
  refine r_aload_n C 0 dX11_copyRow_4 rfl rfl ?_
  refine r_alen C dX11_copyRow_5 la_76 ly_76 ?_
  refine r_aload_n C 1 dX11_copyRow_6 rfl rfl ?_
  refine r_alen C dX11_copyRow_7 la_14 ly_14 ?_
  refine r_mmin C dX11_copyRow_8 mm_X11_465 ⟨Nat.le_of_ble_eq_true rfl, Nat.le_of_ble_eq_true rfl⟩ (by decide) (by decide) ?_
  refine r_acopy C dX11_copyRow_11 aw_X11_470 la_76 ly_76 la_14 ly_14 (by decide) (Nat.le_of_ble_eq_true rfl) (fun d1 => ?_)
  exact r_vret C dX11_copyRow_14 (by decide) (by decide)
theorem n_X11_copyRow_76_14 (d : D9) : NT9 (m_X11_copyRow_76_14  d) := by
  unfold m_X11_copyRow_76_14
  repeat (first | exact nt_rt | exact nt_none | apply nt_if | refine nt_cl ?_ (fun _ _ => ?_) | refine nt_cp9 (fun _ => ?_))
abbrev z_X11_copyRow_77_15 : Z9 := (none, 0, 0, 0, 2, 200)
def m_X11_copyRow_77_15 (d : D9) : Option R9 := cp9 d 77 30 15 30 (min9 30 30) (fun d1 => rt 0 d1)
set_option maxRecDepth 100000 in
theorem t_X11_copyRow_77_15 {G : G9} {l : Launch} (h1 : va_D (A9 G) (wl G (fun _ _ => 0))) (h2 : l.stackTraces = false) (d : D9) : MT G l yX11_copyRow cX11_copyRow 2 z_X11_copyRow_77_15 [rf G 77, rf G 15] d (m_X11_copyRow_77_15  d) := by
  refine mt_of (own := RX11) (by decide) rfl (Nat.le_of_ble_eq_true rfl) h1 h2 [(0, rf G 77), (1, rf G 15)] rfl (fun X hX C => ?_)
  unfold m_X11_copyRow_77_15
  refine r_aload_n C 0 dX11_copyRow_0 rfl rfl ?_
  refine r_iconst C dX11_copyRow_1 ?_
  refine r_aload_n C 1 dX11_copyRow_2 rfl rfl ?_
  refine r_iconst C dX11_copyRow_3 ?_
  refine r_aload_n C 0 dX11_copyRow_4 rfl rfl ?_
  refine r_alen C dX11_copyRow_5 la_77 ly_77 ?_
  refine r_aload_n C 1 dX11_copyRow_6 rfl rfl ?_
  refine r_alen C dX11_copyRow_7 la_15 ly_15 ?_
  refine r_mmin C dX11_copyRow_8 mm_X11_465 ⟨Nat.le_of_ble_eq_true rfl, Nat.le_of_ble_eq_true rfl⟩ (by decide) (by decide) ?_
  refine r_acopy C dX11_copyRow_11 aw_X11_470 la_77 ly_77 la_15 ly_15 (by decide) (Nat.le_of_ble_eq_true rfl) (fun d1 => ?_)
  exact r_vret C dX11_copyRow_14 (by decide) (by decide)
theorem n_X11_copyRow_77_15 (d : D9) : NT9 (m_X11_copyRow_77_15  d) := by
  unfold m_X11_copyRow_77_15
  repeat (first | exact nt_rt | exact nt_none | apply nt_if | refine nt_cl ?_ (fun _ _ => ?_) | refine nt_cp9 (fun _ => ?_))
abbrev z_X11_copyRow_78_16 : Z9 := (none, 0, 0, 0, 2, 200)
def m_X11_copyRow_78_16 (d : D9) : Option R9 := cp9 d 78 30 16 30 (min9 30 30) (fun d1 => rt 0 d1)
set_option maxRecDepth 100000 in
theorem t_X11_copyRow_78_16 {G : G9} {l : Launch} (h1 : va_D (A9 G) (wl G (fun _ _ => 0))) (h2 : l.stackTraces = false) (d : D9) : MT G l yX11_copyRow cX11_copyRow 2 z_X11_copyRow_78_16 [rf G 78, rf G 16] d (m_X11_copyRow_78_16  d) := by
  refine mt_of (own := RX11) (by decide) rfl (Nat.le_of_ble_eq_true rfl) h1 h2 [(0, rf G 78), (1, rf G 16)] rfl (fun X hX C => ?_)
  unfold m_X11_copyRow_78_16
  refine r_aload_n C 0 dX11_copyRow_0 rfl rfl ?_
  refine r_iconst C dX11_copyRow_1 ?_
  refine r_aload_n C 1 dX11_copyRow_2 rfl rfl ?_
  refine r_iconst C dX11_copyRow_3 ?_
  refine r_aload_n C 0 dX11_copyRow_4 rfl rfl ?_
  refine r_alen C dX11_copyRow_5 la_78 ly_78 ?_
  refine r_aload_n C 1 dX11_copyRow_6 rfl rfl ?_
  refine r_alen C dX11_copyRow_7 la_16 ly_16 ?_
  refine r_mmin C dX11_copyRow_8 mm_X11_465 ⟨Nat.le_of_ble_eq_true rfl, Nat.le_of_ble_eq_true rfl⟩ (by decide) (by decide) ?_
  refine r_acopy C dX11_copyRow_11 aw_X11_470 la_78 ly_78 la_16 ly_16 (by decide) (Nat.le_of_ble_eq_true rfl) (fun d1 => ?_)
  exact r_vret C dX11_copyRow_14 (by decide) (by decide)
theorem n_X11_copyRow_78_16 (d : D9) : NT9 (m_X11_copyRow_78_16  d) := by
  unfold m_X11_copyRow_78_16
  repeat (first | exact nt_rt | exact nt_none | apply nt_if | refine nt_cl ?_ (fun _ _ => ?_) | refine nt_cp9 (fun _ => ?_))
abbrev z_X11_copyRow_79_17 : Z9 := (none, 0, 0, 0, 2, 200)
def m_X11_copyRow_79_17 (d : D9) : Option R9 := cp9 d 79 120 17 120 (min9 120 120) (fun d1 => rt 0 d1)
set_option maxRecDepth 100000 in
theorem t_X11_copyRow_79_17 {G : G9} {l : Launch} (h1 : va_D (A9 G) (wl G (fun _ _ => 0))) (h2 : l.stackTraces = false) (d : D9) : MT G l yX11_copyRow cX11_copyRow 2 z_X11_copyRow_79_17 [rf G 79, rf G 17] d (m_X11_copyRow_79_17  d) := by
  refine mt_of (own := RX11) (by decide) rfl (Nat.le_of_ble_eq_true rfl) h1 h2 [(0, rf G 79), (1, rf G 17)] rfl (fun X hX C => ?_)
  unfold m_X11_copyRow_79_17
  refine r_aload_n C 0 dX11_copyRow_0 rfl rfl ?_
  refine r_iconst C dX11_copyRow_1 ?_
  refine r_aload_n C 1 dX11_copyRow_2 rfl rfl ?_
  refine r_iconst C dX11_copyRow_3 ?_
  refine r_aload_n C 0 dX11_copyRow_4 rfl rfl ?_
  refine r_alen C dX11_copyRow_5 la_79 ly_79 ?_
  refine r_aload_n C 1 dX11_copyRow_6 rfl rfl ?_
  refine r_alen C dX11_copyRow_7 la_17 ly_17 ?_
  refine r_mmin C dX11_copyRow_8 mm_X11_465 ⟨Nat.le_of_ble_eq_true rfl, Nat.le_of_ble_eq_true rfl⟩ (by decide) (by decide) ?_
  refine r_acopy C dX11_copyRow_11 aw_X11_470 la_79 ly_79 la_17 ly_17 (by decide) (Nat.le_of_ble_eq_true rfl) (fun d1 => ?_)
  exact r_vret C dX11_copyRow_14 (by decide) (by decide)
theorem n_X11_copyRow_79_17 (d : D9) : NT9 (m_X11_copyRow_79_17  d) := by
  unfold m_X11_copyRow_79_17
  repeat (first | exact nt_rt | exact nt_none | apply nt_if | refine nt_cl ?_ (fun _ _ => ?_) | refine nt_cp9 (fun _ => ?_))
abbrev z_X11_copyRow_80_18 : Z9 := (none, 0, 0, 0, 2, 200)
def m_X11_copyRow_80_18 (d : D9) : Option R9 := cp9 d 80 120 18 120 (min9 120 120) (fun d1 => rt 0 d1)
set_option maxRecDepth 100000 in
theorem t_X11_copyRow_80_18 {G : G9} {l : Launch} (h1 : va_D (A9 G) (wl G (fun _ _ => 0))) (h2 : l.stackTraces = false) (d : D9) : MT G l yX11_copyRow cX11_copyRow 2 z_X11_copyRow_80_18 [rf G 80, rf G 18] d (m_X11_copyRow_80_18  d) := by
  refine mt_of (own := RX11) (by decide) rfl (Nat.le_of_ble_eq_true rfl) h1 h2 [(0, rf G 80), (1, rf G 18)] rfl (fun X hX C => ?_)
  unfold m_X11_copyRow_80_18
  refine r_aload_n C 0 dX11_copyRow_0 rfl rfl ?_
  refine r_iconst C dX11_copyRow_1 ?_
  refine r_aload_n C 1 dX11_copyRow_2 rfl rfl ?_
  refine r_iconst C dX11_copyRow_3 ?_
  refine r_aload_n C 0 dX11_copyRow_4 rfl rfl ?_
  refine r_alen C dX11_copyRow_5 la_80 ly_80 ?_
  refine r_aload_n C 1 dX11_copyRow_6 rfl rfl ?_
  refine r_alen C dX11_copyRow_7 la_18 ly_18 ?_
  refine r_mmin C dX11_copyRow_8 mm_X11_465 ⟨Nat.le_of_ble_eq_true rfl, Nat.le_of_ble_eq_true rfl⟩ (by decide) (by decide) ?_
  refine r_acopy C dX11_copyRow_11 aw_X11_470 la_80 ly_80 la_18 ly_18 (by decide) (Nat.le_of_ble_eq_true rfl) (fun d1 => ?_)
  exact r_vret C dX11_copyRow_14 (by decide) (by decide)
theorem n_X11_copyRow_80_18 (d : D9) : NT9 (m_X11_copyRow_80_18  d) := by
  unfold m_X11_copyRow_80_18
  repeat (first | exact nt_rt | exact nt_none | apply nt_if | refine nt_cl ?_ (fun _ _ => ?_) | refine nt_cp9 (fun _ => ?_))
abbrev z_X11_copyRow_81_19 : Z9 := (none, 0, 0, 0, 2, 200)
def m_X11_copyRow_81_19 (d : D9) : Option R9 := cp9 d 81 120 19 120 (min9 120 120) (fun d1 => rt 0 d1)
set_option maxRecDepth 100000 in
theorem t_X11_copyRow_81_19 {G : G9} {l : Launch} (h1 : va_D (A9 G) (wl G (fun _ _ => 0))) (h2 : l.stackTraces = false) (d : D9) : MT G l yX11_copyRow cX11_copyRow 2 z_X11_copyRow_81_19 [rf G 81, rf G 19] d (m_X11_copyRow_81_19  d) := by
  refine mt_of (own := RX11) (by decide) rfl (Nat.le_of_ble_eq_true rfl) h1 h2 [(0, rf G 81), (1, rf G 19)] rfl (fun X hX C => ?_)
  unfold m_X11_copyRow_81_19
  refine r_aload_n C 0 dX11_copyRow_0 rfl rfl ?_
  refine r_iconst C dX11_copyRow_1 ?_
  refine r_aload_n C 1 dX11_copyRow_2 rfl rfl ?_
  refine r_iconst C dX11_copyRow_3 ?_
  refine r_aload_n C 0 dX11_copyRow_4 rfl rfl ?_
  refine r_alen C dX11_copyRow_5 la_81 ly_81 ?_
  refine r_aload_n C 1 dX11_copyRow_6 rfl rfl ?_
  refine r_alen C dX11_copyRow_7 la_19 ly_19 ?_
  refine r_mmin C dX11_copyRow_8 mm_X11_465 ⟨Nat.le_of_ble_eq_true rfl, Nat.le_of_ble_eq_true rfl⟩ (by decide) (by decide) ?_
  refine r_acopy C dX11_copyRow_11 aw_X11_470 la_81 ly_81 la_19 ly_19 (by decide) (Nat.le_of_ble_eq_true rfl) (fun d1 => ?_)
  exact r_vret C dX11_copyRow_14 (by decide) (by decide)
theorem n_X11_copyRow_81_19 (d : D9) : NT9 (m_X11_copyRow_81_19  d) := by
  unfold m_X11_copyRow_81_19
  repeat (first | exact nt_rt | exact nt_none | apply nt_if | refine nt_cl ?_ (fun _ _ => ?_) | refine nt_cp9 (fun _ => ?_))
abbrev z_X11_copyRow_82_20 : Z9 := (none, 0, 0, 0, 2, 200)
def m_X11_copyRow_82_20 (d : D9) : Option R9 := cp9 d 82 120 20 120 (min9 120 120) (fun d1 => rt 0 d1)
set_option maxRecDepth 100000 in
theorem t_X11_copyRow_82_20 {G : G9} {l : Launch} (h1 : va_D (A9 G) (wl G (fun _ _ => 0))) (h2 : l.stackTraces = false) (d : D9) : MT G l yX11_copyRow cX11_copyRow 2 z_X11_copyRow_82_20 [rf G 82, rf G 20] d (m_X11_copyRow_82_20  d) := by
  refine mt_of (own := RX11) (by decide) rfl (Nat.le_of_ble_eq_true rfl) h1 h2 [(0, rf G 82), (1, rf G 20)] rfl (fun X hX C => ?_)
  unfold m_X11_copyRow_82_20
  refine r_aload_n C 0 dX11_copyRow_0 rfl rfl ?_
  refine r_iconst C dX11_copyRow_1 ?_
  refine r_aload_n C 1 dX11_copyRow_2 rfl rfl ?_
  refine r_iconst C dX11_copyRow_3 ?_
  refine r_aload_n C 0 dX11_copyRow_4 rfl rfl ?_
  refine r_alen C dX11_copyRow_5 la_82 ly_82 ?_
  refine r_aload_n C 1 dX11_copyRow_6 rfl rfl ?_
  refine r_alen C dX11_copyRow_7 la_20 ly_20 ?_
  refine r_mmin C dX11_copyRow_8 mm_X11_465 ⟨Nat.le_of_ble_eq_true rfl, Nat.le_of_ble_eq_true rfl⟩ (by decide) (by decide) ?_
  refine r_acopy C dX11_copyRow_11 aw_X11_470 la_82 ly_82 la_20 ly_20 (by decide) (Nat.le_of_ble_eq_true rfl) (fun d1 => ?_)
  exact r_vret C dX11_copyRow_14 (by decide) (by decide)
theorem n_X11_copyRow_82_20 (d : D9) : NT9 (m_X11_copyRow_82_20  d) := by
  unfold m_X11_copyRow_82_20
  repeat (first | exact nt_rt | exact nt_none | apply nt_if | refine nt_cl ?_ (fun _ _ => ?_) | refine nt_cp9 (fun _ => ?_))
abbrev z_X11_copyRow_83_21 : Z9 := (none, 0, 0, 0, 2, 200)
def m_X11_copyRow_83_21 (d : D9) : Option R9 := cp9 d 83 120 21 120 (min9 120 120) (fun d1 => rt 0 d1)
set_option maxRecDepth 100000 in
theorem t_X11_copyRow_83_21 {G : G9} {l : Launch} (h1 : va_D (A9 G) (wl G (fun _ _ => 0))) (h2 : l.stackTraces = false) (d : D9) : MT G l yX11_copyRow cX11_copyRow 2 z_X11_copyRow_83_21 [rf G 83, rf G 21] d (m_X11_copyRow_83_21  d) := by
  refine mt_of (own := RX11) (by decide) rfl (Nat.le_of_ble_eq_true rfl) h1 h2 [(0, rf G 83), (1, rf G 21)] rfl (fun X hX C => ?_)
  unfold m_X11_copyRow_83_21
  refine r_aload_n C 0 dX11_copyRow_0 rfl rfl ?_
  refine r_iconst C dX11_copyRow_1 ?_
  refine r_aload_n C 1 dX11_copyRow_2 rfl rfl ?_
  refine r_iconst C dX11_copyRow_3 ?_
  refine r_aload_n C 0 dX11_copyRow_4 rfl rfl ?_
  refine r_alen C dX11_copyRow_5 la_83 ly_83 ?_
  refine r_aload_n C 1 dX11_copyRow_6 rfl rfl ?_
  refine r_alen C dX11_copyRow_7 la_21 ly_21 ?_
  refine r_mmin C dX11_copyRow_8 mm_X11_465 ⟨Nat.le_of_ble_eq_true rfl, Nat.le_of_ble_eq_true rfl⟩ (by decide) (by decide) ?_
  refine r_acopy C dX11_copyRow_11 aw_X11_470 la_83 ly_83 la_21 ly_21 (by decide) (Nat.le_of_ble_eq_true rfl) (fun d1 => ?_)
  exact r_vret C dX11_copyRow_14 (by decide) (by decide)
theorem n_X11_copyRow_83_21 (d : D9) : NT9 (m_X11_copyRow_83_21  d) := by
  unfold m_X11_copyRow_83_21
  repeat (first | exact nt_rt | exact nt_none | apply nt_if | refine nt_cl ?_ (fun _ _ => ?_) | refine nt_cp9 (fun _ => ?_))
abbrev z_X6_copyFrom_9_71 : Z9 := (none, 0, 0, 0, 3, 221)
def m_X6_copyFrom_9_71 (d : D9) : Option R9 := pf d 9 0 (d 71 0) (fun d1 => cl (m_X11_copyRow_72_10 d1) (fun r2 d3 => cl (m_X11_copyRow_73_11 d3) (fun r4 d5 => cl (m_X11_copyRow_74_12 d5) (fun r6 d7 => cl (m_X11_copyRow_75_13 d7) (fun r8 d9 => cl (m_X11_copyRow_76_14 d9) (fun r10 d11 => cl (m_X11_copyRow_77_15 d11) (fun r12 d13 => cl (m_X11_copyRow_78_16 d13) (fun r14 d15 => cl (m_X11_copyRow_79_17 d15) (fun r16 d17 => cl (m_X11_copyRow_80_18 d17) (fun r18 d19 => cl (m_X11_copyRow_81_19 d19) (fun r20 d21 => cl (m_X11_copyRow_82_20 d21) (fun r22 d23 => cl (m_X11_copyRow_83_21 d23) (fun r24 d25 => rt 0 d25)))))))))))))
set_option maxRecDepth 100000 in
theorem t_X6_copyFrom_9_71 {G : G9} {l : Launch} (h1 : va_D (A9 G) (wl G (fun _ _ => 0))) (h2 : l.stackTraces = false) (d : D9) : MT G l yX6_copyFrom cX6_copyFrom 2 z_X6_copyFrom_9_71 [rf G 9, rf G 71] d (m_X6_copyFrom_9_71  d) := by
  refine mt_of (own := RX6) (by decide) rfl (Nat.le_of_ble_eq_true rfl) h1 h2 [(0, rf G 9), (1, rf G 71)] rfl (fun X hX C => ?_)
  unfold m_X6_copyFrom_9_71
  refine r_aload_n C 0 dX6_copyFrom_0 rfl rfl ?_
  refine r_aload_n C 1 dX6_copyFrom_1 rfl rfl ?_
  refine r_getI C dX6_copyFrom_2 fl_X6_48 la_71 ly_71 rfl ?_
  refine r_putI C dX6_copyFrom_5 fp_X6_48 la_9 ly_9 rfl (fun d1 => ?_)
  refine r_aload_n C 1 dX6_copyFrom_8 rfl rfl ?_
  refine r_getR C 72 dX6_copyFrom_9 fl_X6_9 la_71 ly_71 rfl rfl ?_
  refine r_aload_n C 0 dX6_copyFrom_12 rfl rfl ?_
  refine r_getR C 10 dX6_copyFrom_13 fl_X6_9 la_9 ly_9 rfl rfl ?_
  refine r_callN C [rf G 10, rf G 72] dX6_copyFrom_16 (t_X11_copyRow_72_10 C.h1 C.h2 d1) (n_X11_copyRow_72_10 d1) mn_X6_52 ms_X11_copyRow (by decide) (by decide) (by decide) rfl rfl (Nat.le_of_ble_eq_true rfl) (fun r2 d3 => ?_)
  show SS G X 2 _ _ 19 [(0, rf G 9), (1, rf G 71)] [] d3 _
  refine r_aload_n C 1 dX6_copyFrom_19 rfl rfl ?_
  refine r_getR C 73 dX6_copyFrom_20 fl_X6_15 la_71 ly_71 rfl rfl ?_
  refine r_aload_n C 0 dX6_copyFrom_23 rfl rfl ?_
  refine r_getR C 11 dX6_copyFrom_24 fl_X6_15 la_9 ly_9 rfl rfl ?_
  refine r_callN C [rf G 11, rf G 73] dX6_copyFrom_27 (t_X11_copyRow_73_11 C.h1 C.h2 d3) (n_X11_copyRow_73_11 d3) mn_X6_52 ms_X11_copyRow (by decide) (by decide) (by decide) rfl rfl (Nat.le_of_ble_eq_true rfl) (fun r4 d5 => ?_)
  show SS G X 2 _ _ 30 [(0, rf G 9), (1, rf G 71)] [] d5 _
  refine r_aload_n C 1 dX6_copyFrom_30 rfl rfl ?_
  refine r_getR C 74 dX6_copyFrom_31 fl_X6_18 la_71 ly_71 rfl rfl ?_
  refine r_aload_n C 0 dX6_copyFrom_34 rfl rfl ?_
  refine r_getR C 12 dX6_copyFrom_35 fl_X6_18 la_9 ly_9 rfl rfl ?_
  refine r_callN C [rf G 12, rf G 74] dX6_copyFrom_38 (t_X11_copyRow_74_12 C.h1 C.h2 d5) (n_X11_copyRow_74_12 d5) mn_X6_52 ms_X11_copyRow (by decide) (by decide) (by decide) rfl rfl (Nat.le_of_ble_eq_true rfl) (fun r6 d7 => ?_)
  show SS G X 2 _ _ 41 [(0, rf G 9), (1, rf G 71)] [] d7 _
  refine r_aload_n C 1 dX6_copyFrom_41 rfl rfl ?_
  refine r_getR C 75 dX6_copyFrom_42 fl_X6_21 la_71 ly_71 rfl rfl ?_
  refine r_aload_n C 0 dX6_copyFrom_45 rfl rfl ?_
  refine r_getR C 13 dX6_copyFrom_46 fl_X6_21 la_9 ly_9 rfl rfl ?_
  refine r_callN C [rf G 13, rf G 75] dX6_copyFrom_49 (t_X11_copyRow_75_13 C.h1 C.h2 d7) (n_X11_copyRow_75_13 d7) mn_X6_52 ms_X11_copyRow (by decide) (by decide) (by decide) rfl rfl (Nat.le_of_ble_eq_true rfl) (fun r8 d9 => ?_)
  show SS G X 2 _ _ 52 [(0, rf G 9), (1, rf G 71)] [] d9 _
  refine r_aload_n C 1 dX6_copyFrom_52 rfl rfl ?_
  refine r_getR C 76 dX6_copyFrom_53 fl_X6_24 la_71 ly_71 rfl rfl ?_
  refine r_aload_n C 0 dX6_copyFrom_56 rfl rfl ?_
  refine r_getR C 14 dX6_copyFrom_57 fl_X6_24 la_9 ly_9 rfl rfl ?_
  refine r_callN C [rf G 14, rf G 76] dX6_copyFrom_60 (t_X11_copyRow_76_14 C.h1 C.h2 d9) (n_X11_copyRow_76_14 d9) mn_X6_52 ms_X11_copyRow (by decide) (by decide) (by decide) rfl rfl (Nat.le_of_ble_eq_true rfl) (fun r10 d11 => ?_)
  show SS G X 2 _ _ 63 [(0, rf G 9), (1, rf G 71)] [] d11 _
  refine r_aload_n C 1 dX6_copyFrom_63 rfl rfl ?_
  refine r_getR C 77 dX6_copyFrom_64 fl_X6_27 la_71 ly_71 rfl rfl ?_
  refine r_aload_n C 0 dX6_copyFrom_67 rfl rfl ?_
  refine r_getR C 15 dX6_copyFrom_68 fl_X6_27 la_9 ly_9 rfl rfl ?_
  refine r_callN C [rf G 15, rf G 77] dX6_copyFrom_71 (t_X11_copyRow_77_15 C.h1 C.h2 d11) (n_X11_copyRow_77_15 d11) mn_X6_52 ms_X11_copyRow (by decide) (by decide) (by decide) rfl rfl (Nat.le_of_ble_eq_true rfl) (fun r12 d13 => ?_)
  show SS G X 2 _ _ 74 [(0, rf G 9), (1, rf G 71)] [] d13 _
  refine r_aload_n C 1 dX6_copyFrom_74 rfl rfl ?_
  refine r_getR C 78 dX6_copyFrom_75 fl_X6_30 la_71 ly_71 rfl rfl ?_
  refine r_aload_n C 0 dX6_copyFrom_78 rfl rfl ?_
  refine r_getR C 16 dX6_copyFrom_79 fl_X6_30 la_9 ly_9 rfl rfl ?_
  refine r_callN C [rf G 16, rf G 78] dX6_copyFrom_82 (t_X11_copyRow_78_16 C.h1 C.h2 d13) (n_X11_copyRow_78_16 d13) mn_X6_52 ms_X11_copyRow (by decide) (by decide) (by decide) rfl rfl (Nat.le_of_ble_eq_true rfl) (fun r14 d15 => ?_)
  show SS G X 2 _ _ 85 [(0, rf G 9), (1, rf G 71)] [] d15 _
  refine r_aload_n C 1 dX6_copyFrom_85 rfl rfl ?_
  refine r_getR C 79 dX6_copyFrom_86 fl_X6_33 la_71 ly_71 rfl rfl ?_
  refine r_aload_n C 0 dX6_copyFrom_89 rfl rfl ?_
  refine r_getR C 17 dX6_copyFrom_90 fl_X6_33 la_9 ly_9 rfl rfl ?_
  refine r_callN C [rf G 17, rf G 79] dX6_copyFrom_93 (t_X11_copyRow_79_17 C.h1 C.h2 d15) (n_X11_copyRow_79_17 d15) mn_X6_52 ms_X11_copyRow (by decide) (by decide) (by decide) rfl rfl (Nat.le_of_ble_eq_true rfl) (fun r16 d17 => ?_)
  show SS G X 2 _ _ 96 [(0, rf G 9), (1, rf G 71)] [] d17 _
  refine r_aload_n C 1 dX6_copyFrom_96 rfl rfl ?_
  refine r_getR C 80 dX6_copyFrom_97 fl_X6_36 la_71 ly_71 rfl rfl ?_
  refine r_aload_n C 0 dX6_copyFrom_100 rfl rfl ?_
  refine r_getR C 18 dX6_copyFrom_101 fl_X6_36 la_9 ly_9 rfl rfl ?_
  refine r_callN C [rf G 18, rf G 80] dX6_copyFrom_104 (t_X11_copyRow_80_18 C.h1 C.h2 d17) (n_X11_copyRow_80_18 d17) mn_X6_52 ms_X11_copyRow (by decide) (by decide) (by decide) rfl rfl (Nat.le_of_ble_eq_true rfl) (fun r18 d19 => ?_)
  show SS G X 2 _ _ 107 [(0, rf G 9), (1, rf G 71)] [] d19 _
  refine r_aload_n C 1 dX6_copyFrom_107 rfl rfl ?_
  refine r_getR C 81 dX6_copyFrom_108 fl_X6_39 la_71 ly_71 rfl rfl ?_
  refine r_aload_n C 0 dX6_copyFrom_111 rfl rfl ?_
  refine r_getR C 19 dX6_copyFrom_112 fl_X6_39 la_9 ly_9 rfl rfl ?_
  refine r_callN C [rf G 19, rf G 81] dX6_copyFrom_115 (t_X11_copyRow_81_19 C.h1 C.h2 d19) (n_X11_copyRow_81_19 d19) mn_X6_52 ms_X11_copyRow (by decide) (by decide) (by decide) rfl rfl (Nat.le_of_ble_eq_true rfl) (fun r20 d21 => ?_)
  show SS G X 2 _ _ 118 [(0, rf G 9), (1, rf G 71)] [] d21 _
  refine r_aload_n C 1 dX6_copyFrom_118 rfl rfl ?_
  refine r_getR C 82 dX6_copyFrom_119 fl_X6_42 la_71 ly_71 rfl rfl ?_
  refine r_aload_n C 0 dX6_copyFrom_122 rfl rfl ?_
  refine r_getR C 20 dX6_copyFrom_123 fl_X6_42 la_9 ly_9 rfl rfl ?_
  refine r_callN C [rf G 20, rf G 82] dX6_copyFrom_126 (t_X11_copyRow_82_20 C.h1 C.h2 d21) (n_X11_copyRow_82_20 d21) mn_X6_52 ms_X11_copyRow (by decide) (by decide) (by decide) rfl rfl (Nat.le_of_ble_eq_true rfl) (fun r22 d23 => ?_)
  show SS G X 2 _ _ 129 [(0, rf G 9), (1, rf G 71)] [] d23 _
  refine r_aload_n C 1 dX6_copyFrom_129 rfl rfl ?_
  refine r_getR C 83 dX6_copyFrom_130 fl_X6_45 la_71 ly_71 rfl rfl ?_
  refine r_aload_n C 0 dX6_copyFrom_133 rfl rfl ?_
  refine r_getR C 21 dX6_copyFrom_134 fl_X6_45 la_9 ly_9 rfl rfl ?_
  refine r_callN C [rf G 21, rf G 83] dX6_copyFrom_137 (t_X11_copyRow_83_21 C.h1 C.h2 d23) (n_X11_copyRow_83_21 d23) mn_X6_52 ms_X11_copyRow (by decide) (by decide) (by decide) rfl rfl (Nat.le_of_ble_eq_true rfl) (fun r24 d25 => ?_)
  show SS G X 2 _ _ 140 [(0, rf G 9), (1, rf G 71)] [] d25 _
  exact r_vret C dX6_copyFrom_140 (by decide) (by decide)
abbrev z_X2_copyFrom_22_84 : Z9 := (none, 0, 0, 0, 1, 0)
def m_X2_copyFrom_22_84 (d : D9) : Option R9 := pf d 22 0 (d 84 0) (fun d1 => pf d1 22 1 (d1 84 1) (fun d2 => pf d2 22 2 (d2 84 2) (fun d3 => pf d3 22 3 (d3 84 3) (fun d4 => pf d4 22 4 (d4 84 4) (fun d5 => pf d5 22 5 (d5 84 5) (fun d6 => pf d6 22 6 (d6 84 6) (fun d7 => pf d7 22 7 (d7 84 7) (fun d8 => rt 0 d8))))))))
set_option maxRecDepth 100000 in
theorem t_X2_copyFrom_22_84 {G : G9} {l : Launch} (h1 : va_D (A9 G) (wl G (fun _ _ => 0))) (h2 : l.stackTraces = false) (d : D9) : MT G l yX2_copyFrom cX2_copyFrom 2 z_X2_copyFrom_22_84 [rf G 22, rf G 84] d (m_X2_copyFrom_22_84  d) := by
  refine mt_of (own := RX2) (by decide) rfl (Nat.le_of_ble_eq_true rfl) h1 h2 [(0, rf G 22), (1, rf G 84)] rfl (fun X hX C => ?_)
  unfold m_X2_copyFrom_22_84
  refine r_aload_n C 0 dX2_copyFrom_0 rfl rfl ?_
  refine r_aload_n C 1 dX2_copyFrom_1 rfl rfl ?_
  refine r_getI C dX2_copyFrom_2 fl_X2_14 la_84 ly_84 rfl ?_
  refine r_putI C dX2_copyFrom_5 fp_X2_14 la_22 ly_22 rfl (fun d1 => ?_)
  refine r_aload_n C 0 dX2_copyFrom_8 rfl rfl ?_
  refine r_aload_n C 1 dX2_copyFrom_9 rfl rfl ?_
  refine r_getI C dX2_copyFrom_10 fl_X2_18 la_84 ly_84 rfl ?_
  refine r_putI C dX2_copyFrom_13 fp_X2_18 la_22 ly_22 rfl (fun d2 => ?_)
  refine r_aload_n C 0 dX2_copyFrom_16 rfl rfl ?_
  refine r_aload_n C 1 dX2_copyFrom_17 rfl rfl ?_
  refine r_getI C dX2_copyFrom_18 fl_X2_21 la_84 ly_84 rfl ?_
  refine r_putI C dX2_copyFrom_21 fp_X2_21 la_22 ly_22 rfl (fun d3 => ?_)
  refine r_aload_n C 0 dX2_copyFrom_24 rfl rfl ?_
  refine r_aload_n C 1 dX2_copyFrom_25 rfl rfl ?_
  refine r_getI C dX2_copyFrom_26 fl_X2_24 la_84 ly_84 rfl ?_
  refine r_putI C dX2_copyFrom_29 fp_X2_24 la_22 ly_22 rfl (fun d4 => ?_)
  refine r_aload_n C 0 dX2_copyFrom_32 rfl rfl ?_
  refine r_aload_n C 1 dX2_copyFrom_33 rfl rfl ?_
  refine r_getI C dX2_copyFrom_34 fl_X2_27 la_84 ly_84 rfl ?_
  refine r_putI C dX2_copyFrom_37 fp_X2_27 la_22 ly_22 rfl (fun d5 => ?_)
  refine r_aload_n C 0 dX2_copyFrom_40 rfl rfl ?_
  refine r_aload_n C 1 dX2_copyFrom_41 rfl rfl ?_
  refine r_getI C dX2_copyFrom_42 fl_X2_30 la_84 ly_84 rfl ?_
  refine r_putI C dX2_copyFrom_45 fp_X2_30 la_22 ly_22 rfl (fun d6 => ?_)
  refine r_aload_n C 0 dX2_copyFrom_48 rfl rfl ?_
  refine r_aload_n C 1 dX2_copyFrom_49 rfl rfl ?_
  refine r_getI C dX2_copyFrom_50 fl_X2_33 la_84 ly_84 rfl ?_
  refine r_putI C dX2_copyFrom_53 fp_X2_33 la_22 ly_22 rfl (fun d7 => ?_)
  refine r_aload_n C 0 dX2_copyFrom_56 rfl rfl ?_
  refine r_aload_n C 1 dX2_copyFrom_57 rfl rfl ?_
  refine r_getI C dX2_copyFrom_58 fl_X2_36 la_84 ly_84 rfl ?_
  refine r_putI C dX2_copyFrom_61 fp_X2_36 la_22 ly_22 rfl (fun d8 => ?_)
  exact r_vret C dX2_copyFrom_64 (by decide) (by decide)
abbrev z_X11_copyRow_86_24 : Z9 := (none, 0, 0, 0, 2, 200)
def m_X11_copyRow_86_24 (d : D9) : Option R9 := cp9 d 86 12 24 12 (min9 12 12) (fun d1 => rt 0 d1)
set_option maxRecDepth 100000 in
theorem t_X11_copyRow_86_24 {G : G9} {l : Launch} (h1 : va_D (A9 G) (wl G (fun _ _ => 0))) (h2 : l.stackTraces = false) (d : D9) : MT G l yX11_copyRow cX11_copyRow 2 z_X11_copyRow_86_24 [rf G 86, rf G 24] d (m_X11_copyRow_86_24  d) := by
  refine mt_of (own := RX11) (by decide) rfl (Nat.le_of_ble_eq_true rfl) h1 h2 [(0, rf G 86), (1, rf G 24)] rfl (fun X hX C => ?_)
  unfold m_X11_copyRow_86_24
  refine r_aload_n C 0 dX11_copyRow_0 rfl rfl ?_
  refine r_iconst C dX11_copyRow_1 ?_
  refine r_aload_n C 1 dX11_copyRow_2 rfl rfl ?_
  refine r_iconst C dX11_copyRow_3 ?_
  refine r_aload_n C 0 dX11_copyRow_4 rfl rfl ?_
  refine r_alen C dX11_copyRow_5 la_86 ly_86 ?_
  refine r_aload_n C 1 dX11_copyRow_6 rfl rfl ?_
  refine r_alen C dX11_copyRow_7 la_24 ly_24 ?_
  refine r_mmin C dX11_copyRow_8 mm_X11_465 ⟨Nat.le_of_ble_eq_true rfl, Nat.le_of_ble_eq_true rfl⟩ (by decide) (by decide) ?_
  refine r_acopy C dX11_copyRow_11 aw_X11_470 la_86 ly_86 la_24 ly_24 (by decide) (Nat.le_of_ble_eq_true rfl) (fun d1 => ?_)
  exact r_vret C dX11_copyRow_14 (by decide) (by decide)
theorem n_X11_copyRow_86_24 (d : D9) : NT9 (m_X11_copyRow_86_24  d) := by
  unfold m_X11_copyRow_86_24
  repeat (first | exact nt_rt | exact nt_none | apply nt_if | refine nt_cl ?_ (fun _ _ => ?_) | refine nt_cp9 (fun _ => ?_))
abbrev z_X11_copyRow_87_25 : Z9 := (none, 0, 0, 0, 2, 200)
def m_X11_copyRow_87_25 (d : D9) : Option R9 := cp9 d 87 12 25 12 (min9 12 12) (fun d1 => rt 0 d1)
set_option maxRecDepth 100000 in
theorem t_X11_copyRow_87_25 {G : G9} {l : Launch} (h1 : va_D (A9 G) (wl G (fun _ _ => 0))) (h2 : l.stackTraces = false) (d : D9) : MT G l yX11_copyRow cX11_copyRow 2 z_X11_copyRow_87_25 [rf G 87, rf G 25] d (m_X11_copyRow_87_25  d) := by
  refine mt_of (own := RX11) (by decide) rfl (Nat.le_of_ble_eq_true rfl) h1 h2 [(0, rf G 87), (1, rf G 25)] rfl (fun X hX C => ?_)
  unfold m_X11_copyRow_87_25
  refine r_aload_n C 0 dX11_copyRow_0 rfl rfl ?_
  refine r_iconst C dX11_copyRow_1 ?_
  refine r_aload_n C 1 dX11_copyRow_2 rfl rfl ?_
  refine r_iconst C dX11_copyRow_3 ?_
  refine r_aload_n C 0 dX11_copyRow_4 rfl rfl ?_
  refine r_alen C dX11_copyRow_5 la_87 ly_87 ?_
  refine r_aload_n C 1 dX11_copyRow_6 rfl rfl ?_
  refine r_alen C dX11_copyRow_7 la_25 ly_25 ?_
  refine r_mmin C dX11_copyRow_8 mm_X11_465 ⟨Nat.le_of_ble_eq_true rfl, Nat.le_of_ble_eq_true rfl⟩ (by decide) (by decide) ?_
  refine r_acopy C dX11_copyRow_11 aw_X11_470 la_87 ly_87 la_25 ly_25 (by decide) (Nat.le_of_ble_eq_true rfl) (fun d1 => ?_)
  exact r_vret C dX11_copyRow_14 (by decide) (by decide)
theorem n_X11_copyRow_87_25 (d : D9) : NT9 (m_X11_copyRow_87_25  d) := by
  unfold m_X11_copyRow_87_25
  repeat (first | exact nt_rt | exact nt_none | apply nt_if | refine nt_cl ?_ (fun _ _ => ?_) | refine nt_cp9 (fun _ => ?_))
abbrev z_X11_copyRow_88_26 : Z9 := (none, 0, 0, 0, 2, 200)
def m_X11_copyRow_88_26 (d : D9) : Option R9 := cp9 d 88 12 26 12 (min9 12 12) (fun d1 => rt 0 d1)
set_option maxRecDepth 100000 in
theorem t_X11_copyRow_88_26 {G : G9} {l : Launch} (h1 : va_D (A9 G) (wl G (fun _ _ => 0))) (h2 : l.stackTraces = false) (d : D9) : MT G l yX11_copyRow cX11_copyRow 2 z_X11_copyRow_88_26 [rf G 88, rf G 26] d (m_X11_copyRow_88_26  d) := by
  refine mt_of (own := RX11) (by decide) rfl (Nat.le_of_ble_eq_true rfl) h1 h2 [(0, rf G 88), (1, rf G 26)] rfl (fun X hX C => ?_)
  unfold m_X11_copyRow_88_26
  refine r_aload_n C 0 dX11_copyRow_0 rfl rfl ?_
  refine r_iconst C dX11_copyRow_1 ?_
  refine r_aload_n C 1 dX11_copyRow_2 rfl rfl ?_
  refine r_iconst C dX11_copyRow_3 ?_
  refine r_aload_n C 0 dX11_copyRow_4 rfl rfl ?_
  refine r_alen C dX11_copyRow_5 la_88 ly_88 ?_
  refine r_aload_n C 1 dX11_copyRow_6 rfl rfl ?_
  refine r_alen C dX11_copyRow_7 la_26 ly_26 ?_
  refine r_mmin C dX11_copyRow_8 mm_X11_465 ⟨Nat.le_of_ble_eq_true rfl, Nat.le_of_ble_eq_true rfl⟩ (by decide) (by decide) ?_
  refine r_acopy C dX11_copyRow_11 aw_X11_470 la_88 ly_88 la_26 ly_26 (by decide) (Nat.le_of_ble_eq_true rfl) (fun d1 => ?_)
  exact r_vret C dX11_copyRow_14 (by decide) (by decide)
theorem n_X11_copyRow_88_26 (d : D9) : NT9 (m_X11_copyRow_88_26  d) := by
  unfold m_X11_copyRow_88_26
  repeat (first | exact nt_rt | exact nt_none | apply nt_if | refine nt_cl ?_ (fun _ _ => ?_) | refine nt_cp9 (fun _ => ?_))
abbrev z_X11_copyRow_89_27 : Z9 := (none, 0, 0, 0, 2, 200)
def m_X11_copyRow_89_27 (d : D9) : Option R9 := cp9 d 89 12 27 12 (min9 12 12) (fun d1 => rt 0 d1)
set_option maxRecDepth 100000 in
theorem t_X11_copyRow_89_27 {G : G9} {l : Launch} (h1 : va_D (A9 G) (wl G (fun _ _ => 0))) (h2 : l.stackTraces = false) (d : D9) : MT G l yX11_copyRow cX11_copyRow 2 z_X11_copyRow_89_27 [rf G 89, rf G 27] d (m_X11_copyRow_89_27  d) := by
  refine mt_of (own := RX11) (by decide) rfl (Nat.le_of_ble_eq_true rfl) h1 h2 [(0, rf G 89), (1, rf G 27)] rfl (fun X hX C => ?_)
  unfold m_X11_copyRow_89_27
  refine r_aload_n C 0 dX11_copyRow_0 rfl rfl ?_
  refine r_iconst C dX11_copyRow_1 ?_
  refine r_aload_n C 1 dX11_copyRow_2 rfl rfl ?_
  refine r_iconst C dX11_copyRow_3 ?_
  refine r_aload_n C 0 dX11_copyRow_4 rfl rfl ?_
  refine r_alen C dX11_copyRow_5 la_89 ly_89 ?_
  refine r_aload_n C 1 dX11_copyRow_6 rfl rfl ?_
  refine r_alen C dX11_copyRow_7 la_27 ly_27 ?_
  refine r_mmin C dX11_copyRow_8 mm_X11_465 ⟨Nat.le_of_ble_eq_true rfl, Nat.le_of_ble_eq_true rfl⟩ (by decide) (by decide) ?_
  refine r_acopy C dX11_copyRow_11 aw_X11_470 la_89 ly_89 la_27 ly_27 (by decide) (Nat.le_of_ble_eq_true rfl) (fun d1 => ?_)
  exact r_vret C dX11_copyRow_14 (by decide) (by decide)
theorem n_X11_copyRow_89_27 (d : D9) : NT9 (m_X11_copyRow_89_27  d) := by
  unfold m_X11_copyRow_89_27
  repeat (first | exact nt_rt | exact nt_none | apply nt_if | refine nt_cl ?_ (fun _ _ => ?_) | refine nt_cp9 (fun _ => ?_))
abbrev z_X7_copyFrom_23_85 : Z9 := (none, 0, 0, 0, 3, 221)
def m_X7_copyFrom_23_85 (d : D9) : Option R9 := pf d 23 0 (d 85 0) (fun d1 => cl (m_X11_copyRow_86_24 d1) (fun r2 d3 => cl (m_X11_copyRow_87_25 d3) (fun r4 d5 => cl (m_X11_copyRow_88_26 d5) (fun r6 d7 => cl (m_X11_copyRow_89_27 d7) (fun r8 d9 => rt 0 d9)))))
set_option maxRecDepth 100000 in
theorem t_X7_copyFrom_23_85 {G : G9} {l : Launch} (h1 : va_D (A9 G) (wl G (fun _ _ => 0))) (h2 : l.stackTraces = false) (d : D9) : MT G l yX7_copyFrom cX7_copyFrom 2 z_X7_copyFrom_23_85 [rf G 23, rf G 85] d (m_X7_copyFrom_23_85  d) := by
  refine mt_of (own := RX7) (by decide) rfl (Nat.le_of_ble_eq_true rfl) h1 h2 [(0, rf G 23), (1, rf G 85)] rfl (fun X hX C => ?_)
  unfold m_X7_copyFrom_23_85
  refine r_aload_n C 0 dX7_copyFrom_0 rfl rfl ?_
  refine r_aload_n C 1 dX7_copyFrom_1 rfl rfl ?_
  refine r_getI C dX7_copyFrom_2 fl_X7_24 la_85 ly_85 rfl ?_
  refine r_putI C dX7_copyFrom_5 fp_X7_24 la_23 ly_23 rfl (fun d1 => ?_)
  refine r_aload_n C 1 dX7_copyFrom_8 rfl rfl ?_
  refine r_getR C 86 dX7_copyFrom_9 fl_X7_9 la_85 ly_85 rfl rfl ?_
  refine r_aload_n C 0 dX7_copyFrom_12 rfl rfl ?_
  refine r_getR C 24 dX7_copyFrom_13 fl_X7_9 la_23 ly_23 rfl rfl ?_
  refine r_callN C [rf G 24, rf G 86] dX7_copyFrom_16 (t_X11_copyRow_86_24 C.h1 C.h2 d1) (n_X11_copyRow_86_24 d1) mn_X7_28 ms_X11_copyRow (by decide) (by decide) (by decide) rfl rfl (Nat.le_of_ble_eq_true rfl) (fun r2 d3 => ?_)
  show SS G X 2 _ _ 19 [(0, rf G 23), (1, rf G 85)] [] d3 _
  refine r_aload_n C 1 dX7_copyFrom_19 rfl rfl ?_
  refine r_getR C 87 dX7_copyFrom_20 fl_X7_15 la_85 ly_85 rfl rfl ?_
  refine r_aload_n C 0 dX7_copyFrom_23 rfl rfl ?_
  refine r_getR C 25 dX7_copyFrom_24 fl_X7_15 la_23 ly_23 rfl rfl ?_
  refine r_callN C [rf G 25, rf G 87] dX7_copyFrom_27 (t_X11_copyRow_87_25 C.h1 C.h2 d3) (n_X11_copyRow_87_25 d3) mn_X7_28 ms_X11_copyRow (by decide) (by decide) (by decide) rfl rfl (Nat.le_of_ble_eq_true rfl) (fun r4 d5 => ?_)
  show SS G X 2 _ _ 30 [(0, rf G 23), (1, rf G 85)] [] d5 _
  refine r_aload_n C 1 dX7_copyFrom_30 rfl rfl ?_
  refine r_getR C 88 dX7_copyFrom_31 fl_X7_18 la_85 ly_85 rfl rfl ?_
  refine r_aload_n C 0 dX7_copyFrom_34 rfl rfl ?_
  refine r_getR C 26 dX7_copyFrom_35 fl_X7_18 la_23 ly_23 rfl rfl ?_
  refine r_callN C [rf G 26, rf G 88] dX7_copyFrom_38 (t_X11_copyRow_88_26 C.h1 C.h2 d5) (n_X11_copyRow_88_26 d5) mn_X7_28 ms_X11_copyRow (by decide) (by decide) (by decide) rfl rfl (Nat.le_of_ble_eq_true rfl) (fun r6 d7 => ?_)
  show SS G X 2 _ _ 41 [(0, rf G 23), (1, rf G 85)] [] d7 _
  refine r_aload_n C 1 dX7_copyFrom_41 rfl rfl ?_
  refine r_getR C 89 dX7_copyFrom_42 fl_X7_21 la_85 ly_85 rfl rfl ?_
  refine r_aload_n C 0 dX7_copyFrom_45 rfl rfl ?_
  refine r_getR C 27 dX7_copyFrom_46 fl_X7_21 la_23 ly_23 rfl rfl ?_
  refine r_callN C [rf G 27, rf G 89] dX7_copyFrom_49 (t_X11_copyRow_89_27 C.h1 C.h2 d7) (n_X11_copyRow_89_27 d7) mn_X7_28 ms_X11_copyRow (by decide) (by decide) (by decide) rfl rfl (Nat.le_of_ble_eq_true rfl) (fun r8 d9 => ?_)
  show SS G X 2 _ _ 52 [(0, rf G 23), (1, rf G 85)] [] d9 _
  exact r_vret C dX7_copyFrom_52 (by decide) (by decide)
abbrev z_X11_copyRow_91_29 : Z9 := (none, 0, 0, 0, 2, 200)
def m_X11_copyRow_91_29 (d : D9) : Option R9 := cp9 d 91 12 29 12 (min9 12 12) (fun d1 => rt 0 d1)
set_option maxRecDepth 100000 in
theorem t_X11_copyRow_91_29 {G : G9} {l : Launch} (h1 : va_D (A9 G) (wl G (fun _ _ => 0))) (h2 : l.stackTraces = false) (d : D9) : MT G l yX11_copyRow cX11_copyRow 2 z_X11_copyRow_91_29 [rf G 91, rf G 29] d (m_X11_copyRow_91_29  d) := by
  refine mt_of (own := RX11) (by decide) rfl (Nat.le_of_ble_eq_true rfl) h1 h2 [(0, rf G 91), (1, rf G 29)] rfl (fun X hX C => ?_)
  unfold m_X11_copyRow_91_29
  refine r_aload_n C 0 dX11_copyRow_0 rfl rfl ?_
  refine r_iconst C dX11_copyRow_1 ?_
  refine r_aload_n C 1 dX11_copyRow_2 rfl rfl ?_
  refine r_iconst C dX11_copyRow_3 ?_
  refine r_aload_n C 0 dX11_copyRow_4 rfl rfl ?_
  refine r_alen C dX11_copyRow_5 la_91 ly_91 ?_
  refine r_aload_n C 1 dX11_copyRow_6 rfl rfl ?_
  refine r_alen C dX11_copyRow_7 la_29 ly_29 ?_
  refine r_mmin C dX11_copyRow_8 mm_X11_465 ⟨Nat.le_of_ble_eq_true rfl, Nat.le_of_ble_eq_true rfl⟩ (by decide) (by decide) ?_
  refine r_acopy C dX11_copyRow_11 aw_X11_470 la_91 ly_91 la_29 ly_29 (by decide) (Nat.le_of_ble_eq_true rfl) (fun d1 => ?_)
  exact r_vret C dX11_copyRow_14 (by decide) (by decide)
theorem n_X11_copyRow_91_29 (d : D9) : NT9 (m_X11_copyRow_91_29  d) := by
  unfold m_X11_copyRow_91_29
  repeat (first | exact nt_rt | exact nt_none | apply nt_if | refine nt_cl ?_ (fun _ _ => ?_) | refine nt_cp9 (fun _ => ?_))
abbrev z_X11_copyRow_92_30 : Z9 := (none, 0, 0, 0, 2, 200)
def m_X11_copyRow_92_30 (d : D9) : Option R9 := cp9 d 92 12 30 12 (min9 12 12) (fun d1 => rt 0 d1)
set_option maxRecDepth 100000 in
theorem t_X11_copyRow_92_30 {G : G9} {l : Launch} (h1 : va_D (A9 G) (wl G (fun _ _ => 0))) (h2 : l.stackTraces = false) (d : D9) : MT G l yX11_copyRow cX11_copyRow 2 z_X11_copyRow_92_30 [rf G 92, rf G 30] d (m_X11_copyRow_92_30  d) := by
  refine mt_of (own := RX11) (by decide) rfl (Nat.le_of_ble_eq_true rfl) h1 h2 [(0, rf G 92), (1, rf G 30)] rfl (fun X hX C => ?_)
  unfold m_X11_copyRow_92_30
  refine r_aload_n C 0 dX11_copyRow_0 rfl rfl ?_
  refine r_iconst C dX11_copyRow_1 ?_
  refine r_aload_n C 1 dX11_copyRow_2 rfl rfl ?_
  refine r_iconst C dX11_copyRow_3 ?_
  refine r_aload_n C 0 dX11_copyRow_4 rfl rfl ?_
  refine r_alen C dX11_copyRow_5 la_92 ly_92 ?_
  refine r_aload_n C 1 dX11_copyRow_6 rfl rfl ?_
  refine r_alen C dX11_copyRow_7 la_30 ly_30 ?_
  refine r_mmin C dX11_copyRow_8 mm_X11_465 ⟨Nat.le_of_ble_eq_true rfl, Nat.le_of_ble_eq_true rfl⟩ (by decide) (by decide) ?_
  refine r_acopy C dX11_copyRow_11 aw_X11_470 la_92 ly_92 la_30 ly_30 (by decide) (Nat.le_of_ble_eq_true rfl) (fun d1 => ?_)
  exact r_vret C dX11_copyRow_14 (by decide) (by decide)
theorem n_X11_copyRow_92_30 (d : D9) : NT9 (m_X11_copyRow_92_30  d) := by
  unfold m_X11_copyRow_92_30
  repeat (first | exact nt_rt | exact nt_none | apply nt_if | refine nt_cl ?_ (fun _ _ => ?_) | refine nt_cp9 (fun _ => ?_))
abbrev z_X11_copyRow_93_31 : Z9 := (none, 0, 0, 0, 2, 200)
def m_X11_copyRow_93_31 (d : D9) : Option R9 := cp9 d 93 12 31 12 (min9 12 12) (fun d1 => rt 0 d1)
set_option maxRecDepth 100000 in
theorem t_X11_copyRow_93_31 {G : G9} {l : Launch} (h1 : va_D (A9 G) (wl G (fun _ _ => 0))) (h2 : l.stackTraces = false) (d : D9) : MT G l yX11_copyRow cX11_copyRow 2 z_X11_copyRow_93_31 [rf G 93, rf G 31] d (m_X11_copyRow_93_31  d) := by
  refine mt_of (own := RX11) (by decide) rfl (Nat.le_of_ble_eq_true rfl) h1 h2 [(0, rf G 93), (1, rf G 31)] rfl (fun X hX C => ?_)
  unfold m_X11_copyRow_93_31
  refine r_aload_n C 0 dX11_copyRow_0 rfl rfl ?_
  refine r_iconst C dX11_copyRow_1 ?_
  refine r_aload_n C 1 dX11_copyRow_2 rfl rfl ?_
  refine r_iconst C dX11_copyRow_3 ?_
  refine r_aload_n C 0 dX11_copyRow_4 rfl rfl ?_
  refine r_alen C dX11_copyRow_5 la_93 ly_93 ?_
  refine r_aload_n C 1 dX11_copyRow_6 rfl rfl ?_
  refine r_alen C dX11_copyRow_7 la_31 ly_31 ?_
  refine r_mmin C dX11_copyRow_8 mm_X11_465 ⟨Nat.le_of_ble_eq_true rfl, Nat.le_of_ble_eq_true rfl⟩ (by decide) (by decide) ?_
  refine r_acopy C dX11_copyRow_11 aw_X11_470 la_93 ly_93 la_31 ly_31 (by decide) (Nat.le_of_ble_eq_true rfl) (fun d1 => ?_)
  exact r_vret C dX11_copyRow_14 (by decide) (by decide)
theorem n_X11_copyRow_93_31 (d : D9) : NT9 (m_X11_copyRow_93_31  d) := by
  unfold m_X11_copyRow_93_31
  repeat (first | exact nt_rt | exact nt_none | apply nt_if | refine nt_cl ?_ (fun _ _ => ?_) | refine nt_cp9 (fun _ => ?_))
abbrev z_X11_copyRow_94_32 : Z9 := (none, 0, 0, 0, 2, 200)
def m_X11_copyRow_94_32 (d : D9) : Option R9 := cp9 d 94 400 32 400 (min9 400 400) (fun d1 => rt 0 d1)
set_option maxRecDepth 100000 in
theorem t_X11_copyRow_94_32 {G : G9} {l : Launch} (h1 : va_D (A9 G) (wl G (fun _ _ => 0))) (h2 : l.stackTraces = false) (d : D9) : MT G l yX11_copyRow cX11_copyRow 2 z_X11_copyRow_94_32 [rf G 94, rf G 32] d (m_X11_copyRow_94_32  d) := by
  refine mt_of (own := RX11) (by decide) rfl (Nat.le_of_ble_eq_true rfl) h1 h2 [(0, rf G 94), (1, rf G 32)] rfl (fun X hX C => ?_)
  unfold m_X11_copyRow_94_32
  refine r_aload_n C 0 dX11_copyRow_0 rfl rfl ?_
  refine r_iconst C dX11_copyRow_1 ?_
  refine r_aload_n C 1 dX11_copyRow_2 rfl rfl ?_
  refine r_iconst C dX11_copyRow_3 ?_
  refine r_aload_n C 0 dX11_copyRow_4 rfl rfl ?_
  refine r_alen C dX11_copyRow_5 la_94 ly_94 ?_
  refine r_aload_n C 1 dX11_copyRow_6 rfl rfl ?_
  refine r_alen C dX11_copyRow_7 la_32 ly_32 ?_
  refine r_mmin C dX11_copyRow_8 mm_X11_465 ⟨Nat.le_of_ble_eq_true rfl, Nat.le_of_ble_eq_true rfl⟩ (by decide) (by decide) ?_
  refine r_acopy C dX11_copyRow_11 aw_X11_470 la_94 ly_94 la_32 ly_32 (by decide) (Nat.le_of_ble_eq_true rfl) (fun d1 => ?_)
  exact r_vret C dX11_copyRow_14 (by decide) (by decide)
theorem n_X11_copyRow_94_32 (d : D9) : NT9 (m_X11_copyRow_94_32  d) := by
  unfold m_X11_copyRow_94_32
  repeat (first | exact nt_rt | exact nt_none | apply nt_if | refine nt_cl ?_ (fun _ _ => ?_) | refine nt_cp9 (fun _ => ?_))
abbrev z_X4_copyFrom_28_90 : Z9 := (none, 0, 0, 0, 3, 221)
def m_X4_copyFrom_28_90 (d : D9) : Option R9 := pf d 28 0 (d 90 0) (fun d1 => pf d1 28 1 (d1 90 1) (fun d2 => cl (m_X11_copyRow_91_29 d2) (fun r3 d4 => cl (m_X11_copyRow_92_30 d4) (fun r5 d6 => cl (m_X11_copyRow_93_31 d6) (fun r7 d8 => cl (m_X11_copyRow_94_32 d8) (fun r9 d10 => rt 0 d10))))))
set_option maxRecDepth 100000 in
theorem t_X4_copyFrom_28_90 {G : G9} {l : Launch} (h1 : va_D (A9 G) (wl G (fun _ _ => 0))) (h2 : l.stackTraces = false) (d : D9) : MT G l yX4_copyFrom cX4_copyFrom 2 z_X4_copyFrom_28_90 [rf G 28, rf G 90] d (m_X4_copyFrom_28_90  d) := by
  refine mt_of (own := RX4) (by decide) rfl (Nat.le_of_ble_eq_true rfl) h1 h2 [(0, rf G 28), (1, rf G 90)] rfl (fun X hX C => ?_)
  unfold m_X4_copyFrom_28_90
  refine r_aload_n C 0 dX4_copyFrom_0 rfl rfl ?_
  refine r_aload_n C 1 dX4_copyFrom_1 rfl rfl ?_
  refine r_getI C dX4_copyFrom_2 fl_X4_24 la_90 ly_90 rfl ?_
  refine r_putI C dX4_copyFrom_5 fp_X4_24 la_28 ly_28 rfl (fun d1 => ?_)
  refine r_aload_n C 0 dX4_copyFrom_8 rfl rfl ?_
  refine r_aload_n C 1 dX4_copyFrom_9 rfl rfl ?_
  refine r_getI C dX4_copyFrom_10 fl_X4_28 la_90 ly_90 rfl ?_
  refine r_putI C dX4_copyFrom_13 fp_X4_28 la_28 ly_28 rfl (fun d2 => ?_)
  refine r_aload_n C 1 dX4_copyFrom_16 rfl rfl ?_
  refine r_getR C 91 dX4_copyFrom_17 fl_X4_9 la_90 ly_90 rfl rfl ?_
  refine r_aload_n C 0 dX4_copyFrom_20 rfl rfl ?_
  refine r_getR C 29 dX4_copyFrom_21 fl_X4_9 la_28 ly_28 rfl rfl ?_
  refine r_callN C [rf G 29, rf G 91] dX4_copyFrom_24 (t_X11_copyRow_91_29 C.h1 C.h2 d2) (n_X11_copyRow_91_29 d2) mn_X4_31 ms_X11_copyRow (by decide) (by decide) (by decide) rfl rfl (Nat.le_of_ble_eq_true rfl) (fun r3 d4 => ?_)
  show SS G X 2 _ _ 27 [(0, rf G 28), (1, rf G 90)] [] d4 _
  refine r_aload_n C 1 dX4_copyFrom_27 rfl rfl ?_
  refine r_getR C 92 dX4_copyFrom_28 fl_X4_15 la_90 ly_90 rfl rfl ?_
  refine r_aload_n C 0 dX4_copyFrom_31 rfl rfl ?_
  refine r_getR C 30 dX4_copyFrom_32 fl_X4_15 la_28 ly_28 rfl rfl ?_
  refine r_callN C [rf G 30, rf G 92] dX4_copyFrom_35 (t_X11_copyRow_92_30 C.h1 C.h2 d4) (n_X11_copyRow_92_30 d4) mn_X4_31 ms_X11_copyRow (by decide) (by decide) (by decide) rfl rfl (Nat.le_of_ble_eq_true rfl) (fun r5 d6 => ?_)
  show SS G X 2 _ _ 38 [(0, rf G 28), (1, rf G 90)] [] d6 _
  refine r_aload_n C 1 dX4_copyFrom_38 rfl rfl ?_
  refine r_getR C 93 dX4_copyFrom_39 fl_X4_18 la_90 ly_90 rfl rfl ?_
  refine r_aload_n C 0 dX4_copyFrom_42 rfl rfl ?_
  refine r_getR C 31 dX4_copyFrom_43 fl_X4_18 la_28 ly_28 rfl rfl ?_
  refine r_callN C [rf G 31, rf G 93] dX4_copyFrom_46 (t_X11_copyRow_93_31 C.h1 C.h2 d6) (n_X11_copyRow_93_31 d6) mn_X4_31 ms_X11_copyRow (by decide) (by decide) (by decide) rfl rfl (Nat.le_of_ble_eq_true rfl) (fun r7 d8 => ?_)
  show SS G X 2 _ _ 49 [(0, rf G 28), (1, rf G 90)] [] d8 _
  refine r_aload_n C 1 dX4_copyFrom_49 rfl rfl ?_
  refine r_getR C 94 dX4_copyFrom_50 fl_X4_21 la_90 ly_90 rfl rfl ?_
  refine r_aload_n C 0 dX4_copyFrom_53 rfl rfl ?_
  refine r_getR C 32 dX4_copyFrom_54 fl_X4_21 la_28 ly_28 rfl rfl ?_
  refine r_callN C [rf G 32, rf G 94] dX4_copyFrom_57 (t_X11_copyRow_94_32 C.h1 C.h2 d8) (n_X11_copyRow_94_32 d8) mn_X4_31 ms_X11_copyRow (by decide) (by decide) (by decide) rfl rfl (Nat.le_of_ble_eq_true rfl) (fun r9 d10 => ?_)
  show SS G X 2 _ _ 60 [(0, rf G 28), (1, rf G 90)] [] d10 _
  exact r_vret C dX4_copyFrom_60 (by decide) (by decide)
abbrev z_X11_copyRow_96_34 : Z9 := (none, 0, 0, 0, 2, 200)
def m_X11_copyRow_96_34 (d : D9) : Option R9 := cp9 d 96 40 34 40 (min9 40 40) (fun d1 => rt 0 d1)
set_option maxRecDepth 100000 in
theorem t_X11_copyRow_96_34 {G : G9} {l : Launch} (h1 : va_D (A9 G) (wl G (fun _ _ => 0))) (h2 : l.stackTraces = false) (d : D9) : MT G l yX11_copyRow cX11_copyRow 2 z_X11_copyRow_96_34 [rf G 96, rf G 34] d (m_X11_copyRow_96_34  d) := by
  refine mt_of (own := RX11) (by decide) rfl (Nat.le_of_ble_eq_true rfl) h1 h2 [(0, rf G 96), (1, rf G 34)] rfl (fun X hX C => ?_)
  unfold m_X11_copyRow_96_34
  refine r_aload_n C 0 dX11_copyRow_0 rfl rfl ?_
  refine r_iconst C dX11_copyRow_1 ?_
  refine r_aload_n C 1 dX11_copyRow_2 rfl rfl ?_
  refine r_iconst C dX11_copyRow_3 ?_
  refine r_aload_n C 0 dX11_copyRow_4 rfl rfl ?_
  refine r_alen C dX11_copyRow_5 la_96 ly_96 ?_
  refine r_aload_n C 1 dX11_copyRow_6 rfl rfl ?_
  refine r_alen C dX11_copyRow_7 la_34 ly_34 ?_
  refine r_mmin C dX11_copyRow_8 mm_X11_465 ⟨Nat.le_of_ble_eq_true rfl, Nat.le_of_ble_eq_true rfl⟩ (by decide) (by decide) ?_
  refine r_acopy C dX11_copyRow_11 aw_X11_470 la_96 ly_96 la_34 ly_34 (by decide) (Nat.le_of_ble_eq_true rfl) (fun d1 => ?_)
  exact r_vret C dX11_copyRow_14 (by decide) (by decide)
theorem n_X11_copyRow_96_34 (d : D9) : NT9 (m_X11_copyRow_96_34  d) := by
  unfold m_X11_copyRow_96_34
  repeat (first | exact nt_rt | exact nt_none | apply nt_if | refine nt_cl ?_ (fun _ _ => ?_) | refine nt_cp9 (fun _ => ?_))
abbrev z_X11_copyRow_97_35 : Z9 := (none, 0, 0, 0, 2, 200)
def m_X11_copyRow_97_35 (d : D9) : Option R9 := cp9 d 97 200 35 200 (min9 200 200) (fun d1 => rt 0 d1)
set_option maxRecDepth 100000 in
theorem t_X11_copyRow_97_35 {G : G9} {l : Launch} (h1 : va_D (A9 G) (wl G (fun _ _ => 0))) (h2 : l.stackTraces = false) (d : D9) : MT G l yX11_copyRow cX11_copyRow 2 z_X11_copyRow_97_35 [rf G 97, rf G 35] d (m_X11_copyRow_97_35  d) := by
  refine mt_of (own := RX11) (by decide) rfl (Nat.le_of_ble_eq_true rfl) h1 h2 [(0, rf G 97), (1, rf G 35)] rfl (fun X hX C => ?_)
  unfold m_X11_copyRow_97_35
  refine r_aload_n C 0 dX11_copyRow_0 rfl rfl ?_
  refine r_iconst C dX11_copyRow_1 ?_
  refine r_aload_n C 1 dX11_copyRow_2 rfl rfl ?_
  refine r_iconst C dX11_copyRow_3 ?_
  refine r_aload_n C 0 dX11_copyRow_4 rfl rfl ?_
  refine r_alen C dX11_copyRow_5 la_97 ly_97 ?_
  refine r_aload_n C 1 dX11_copyRow_6 rfl rfl ?_
  refine r_alen C dX11_copyRow_7 la_35 ly_35 ?_
  refine r_mmin C dX11_copyRow_8 mm_X11_465 ⟨Nat.le_of_ble_eq_true rfl, Nat.le_of_ble_eq_true rfl⟩ (by decide) (by decide) ?_
  refine r_acopy C dX11_copyRow_11 aw_X11_470 la_97 ly_97 la_35 ly_35 (by decide) (Nat.le_of_ble_eq_true rfl) (fun d1 => ?_)
  exact r_vret C dX11_copyRow_14 (by decide) (by decide)
theorem n_X11_copyRow_97_35 (d : D9) : NT9 (m_X11_copyRow_97_35  d) := by
  unfold m_X11_copyRow_97_35
  repeat (first | exact nt_rt | exact nt_none | apply nt_if | refine nt_cl ?_ (fun _ _ => ?_) | refine nt_cp9 (fun _ => ?_))
abbrev z_X11_copyRow_98_36 : Z9 := (none, 0, 0, 0, 2, 200)
def m_X11_copyRow_98_36 (d : D9) : Option R9 := cp9 d 98 5 36 5 (min9 5 5) (fun d1 => rt 0 d1)
set_option maxRecDepth 100000 in
theorem t_X11_copyRow_98_36 {G : G9} {l : Launch} (h1 : va_D (A9 G) (wl G (fun _ _ => 0))) (h2 : l.stackTraces = false) (d : D9) : MT G l yX11_copyRow cX11_copyRow 2 z_X11_copyRow_98_36 [rf G 98, rf G 36] d (m_X11_copyRow_98_36  d) := by
  refine mt_of (own := RX11) (by decide) rfl (Nat.le_of_ble_eq_true rfl) h1 h2 [(0, rf G 98), (1, rf G 36)] rfl (fun X hX C => ?_)
  unfold m_X11_copyRow_98_36
  refine r_aload_n C 0 dX11_copyRow_0 rfl rfl ?_
  refine r_iconst C dX11_copyRow_1 ?_
  refine r_aload_n C 1 dX11_copyRow_2 rfl rfl ?_
  refine r_iconst C dX11_copyRow_3 ?_
  refine r_aload_n C 0 dX11_copyRow_4 rfl rfl ?_
  refine r_alen C dX11_copyRow_5 la_98 ly_98 ?_
  refine r_aload_n C 1 dX11_copyRow_6 rfl rfl ?_
  refine r_alen C dX11_copyRow_7 la_36 ly_36 ?_
  refine r_mmin C dX11_copyRow_8 mm_X11_465 ⟨Nat.le_of_ble_eq_true rfl, Nat.le_of_ble_eq_true rfl⟩ (by decide) (by decide) ?_
  refine r_acopy C dX11_copyRow_11 aw_X11_470 la_98 ly_98 la_36 ly_36 (by decide) (Nat.le_of_ble_eq_true rfl) (fun d1 => ?_)
  exact r_vret C dX11_copyRow_14 (by decide) (by decide)
theorem n_X11_copyRow_98_36 (d : D9) : NT9 (m_X11_copyRow_98_36  d) := by
  unfold m_X11_copyRow_98_36
  repeat (first | exact nt_rt | exact nt_none | apply nt_if | refine nt_cl ?_ (fun _ _ => ?_) | refine nt_cp9 (fun _ => ?_))
abbrev z_X11_copyRow_99_37 : Z9 := (none, 0, 0, 0, 2, 200)
def m_X11_copyRow_99_37 (d : D9) : Option R9 := cp9 d 99 5 37 5 (min9 5 5) (fun d1 => rt 0 d1)
set_option maxRecDepth 100000 in
theorem t_X11_copyRow_99_37 {G : G9} {l : Launch} (h1 : va_D (A9 G) (wl G (fun _ _ => 0))) (h2 : l.stackTraces = false) (d : D9) : MT G l yX11_copyRow cX11_copyRow 2 z_X11_copyRow_99_37 [rf G 99, rf G 37] d (m_X11_copyRow_99_37  d) := by
  refine mt_of (own := RX11) (by decide) rfl (Nat.le_of_ble_eq_true rfl) h1 h2 [(0, rf G 99), (1, rf G 37)] rfl (fun X hX C => ?_)
  unfold m_X11_copyRow_99_37
  refine r_aload_n C 0 dX11_copyRow_0 rfl rfl ?_
  refine r_iconst C dX11_copyRow_1 ?_
  refine r_aload_n C 1 dX11_copyRow_2 rfl rfl ?_
  refine r_iconst C dX11_copyRow_3 ?_
  refine r_aload_n C 0 dX11_copyRow_4 rfl rfl ?_
  refine r_alen C dX11_copyRow_5 la_99 ly_99 ?_
  refine r_aload_n C 1 dX11_copyRow_6 rfl rfl ?_
  refine r_alen C dX11_copyRow_7 la_37 ly_37 ?_
  refine r_mmin C dX11_copyRow_8 mm_X11_465 ⟨Nat.le_of_ble_eq_true rfl, Nat.le_of_ble_eq_true rfl⟩ (by decide) (by decide) ?_
  refine r_acopy C dX11_copyRow_11 aw_X11_470 la_99 ly_99 la_37 ly_37 (by decide) (Nat.le_of_ble_eq_true rfl) (fun d1 => ?_)
  exact r_vret C dX11_copyRow_14 (by decide) (by decide)
theorem n_X11_copyRow_99_37 (d : D9) : NT9 (m_X11_copyRow_99_37  d) := by
  unfold m_X11_copyRow_99_37
  repeat (first | exact nt_rt | exact nt_none | apply nt_if | refine nt_cl ?_ (fun _ _ => ?_) | refine nt_cp9 (fun _ => ?_))
abbrev z_X1_copyFrom_33_95 : Z9 := (none, 0, 0, 0, 3, 221)
def m_X1_copyFrom_33_95 (d : D9) : Option R9 := pf d 33 0 (d 95 0) (fun d1 => cl (m_X11_copyRow_96_34 d1) (fun r2 d3 => cl (m_X11_copyRow_97_35 d3) (fun r4 d5 => cl (m_X11_copyRow_98_36 d5) (fun r6 d7 => cl (m_X11_copyRow_99_37 d7) (fun r8 d9 => rt 0 d9)))))
set_option maxRecDepth 100000 in
theorem t_X1_copyFrom_33_95 {G : G9} {l : Launch} (h1 : va_D (A9 G) (wl G (fun _ _ => 0))) (h2 : l.stackTraces = false) (d : D9) : MT G l yX1_copyFrom cX1_copyFrom 2 z_X1_copyFrom_33_95 [rf G 33, rf G 95] d (m_X1_copyFrom_33_95  d) := by
  refine mt_of (own := RX1) (by decide) rfl (Nat.le_of_ble_eq_true rfl) h1 h2 [(0, rf G 33), (1, rf G 95)] rfl (fun X hX C => ?_)
  unfold m_X1_copyFrom_33_95
  refine r_aload_n C 0 dX1_copyFrom_0 rfl rfl ?_
  refine r_aload_n C 1 dX1_copyFrom_1 rfl rfl ?_
  refine r_getI C dX1_copyFrom_2 fl_X1_24 la_95 ly_95 rfl ?_
  refine r_putI C dX1_copyFrom_5 fp_X1_24 la_33 ly_33 rfl (fun d1 => ?_)
  refine r_aload_n C 1 dX1_copyFrom_8 rfl rfl ?_
  refine r_getR C 96 dX1_copyFrom_9 fl_X1_9 la_95 ly_95 rfl rfl ?_
  refine r_aload_n C 0 dX1_copyFrom_12 rfl rfl ?_
  refine r_getR C 34 dX1_copyFrom_13 fl_X1_9 la_33 ly_33 rfl rfl ?_
  refine r_callN C [rf G 34, rf G 96] dX1_copyFrom_16 (t_X11_copyRow_96_34 C.h1 C.h2 d1) (n_X11_copyRow_96_34 d1) mn_X1_28 ms_X11_copyRow (by decide) (by decide) (by decide) rfl rfl (Nat.le_of_ble_eq_true rfl) (fun r2 d3 => ?_)
  show SS G X 2 _ _ 19 [(0, rf G 33), (1, rf G 95)] [] d3 _
  refine r_aload_n C 1 dX1_copyFrom_19 rfl rfl ?_
  refine r_getR C 97 dX1_copyFrom_20 fl_X1_15 la_95 ly_95 rfl rfl ?_
  refine r_aload_n C 0 dX1_copyFrom_23 rfl rfl ?_
  refine r_getR C 35 dX1_copyFrom_24 fl_X1_15 la_33 ly_33 rfl rfl ?_
  refine r_callN C [rf G 35, rf G 97] dX1_copyFrom_27 (t_X11_copyRow_97_35 C.h1 C.h2 d3) (n_X11_copyRow_97_35 d3) mn_X1_28 ms_X11_copyRow (by decide) (by decide) (by decide) rfl rfl (Nat.le_of_ble_eq_true rfl) (fun r4 d5 => ?_)
  show SS G X 2 _ _ 30 [(0, rf G 33), (1, rf G 95)] [] d5 _
  refine r_aload_n C 1 dX1_copyFrom_30 rfl rfl ?_
  refine r_getR C 98 dX1_copyFrom_31 fl_X1_18 la_95 ly_95 rfl rfl ?_
  refine r_aload_n C 0 dX1_copyFrom_34 rfl rfl ?_
  refine r_getR C 36 dX1_copyFrom_35 fl_X1_18 la_33 ly_33 rfl rfl ?_
  refine r_callN C [rf G 36, rf G 98] dX1_copyFrom_38 (t_X11_copyRow_98_36 C.h1 C.h2 d5) (n_X11_copyRow_98_36 d5) mn_X1_28 ms_X11_copyRow (by decide) (by decide) (by decide) rfl rfl (Nat.le_of_ble_eq_true rfl) (fun r6 d7 => ?_)
  show SS G X 2 _ _ 41 [(0, rf G 33), (1, rf G 95)] [] d7 _
  refine r_aload_n C 1 dX1_copyFrom_41 rfl rfl ?_
  refine r_getR C 99 dX1_copyFrom_42 fl_X1_21 la_95 ly_95 rfl rfl ?_
  refine r_aload_n C 0 dX1_copyFrom_45 rfl rfl ?_
  refine r_getR C 37 dX1_copyFrom_46 fl_X1_21 la_33 ly_33 rfl rfl ?_
  refine r_callN C [rf G 37, rf G 99] dX1_copyFrom_49 (t_X11_copyRow_99_37 C.h1 C.h2 d7) (n_X11_copyRow_99_37 d7) mn_X1_28 ms_X11_copyRow (by decide) (by decide) (by decide) rfl rfl (Nat.le_of_ble_eq_true rfl) (fun r8 d9 => ?_)
  show SS G X 2 _ _ 52 [(0, rf G 33), (1, rf G 95)] [] d9 _
  exact r_vret C dX1_copyFrom_52 (by decide) (by decide)
abbrev z_X10_copyFrom_1_63 : Z9 := (none, 0, 0, 0, 4, 242)
def m_X10_copyFrom_1_63 (d : D9) : Option R9 := cl (m_X3_copyFrom_2_64 d) (fun r1 d2 => cl (m_X6_copyFrom_9_71 d2) (fun r3 d4 => cl (m_X2_copyFrom_22_84 d4) (fun r5 d6 => cl (m_X7_copyFrom_23_85 d6) (fun r7 d8 => cl (m_X4_copyFrom_28_90 d8) (fun r9 d10 => cl (m_X1_copyFrom_33_95 d10) (fun r11 d12 => rt 0 d12))))))
set_option maxRecDepth 100000 in
theorem t_X10_copyFrom_1_63 {G : G9} {l : Launch} (h1 : va_D (A9 G) (wl G (fun _ _ => 0))) (h2 : l.stackTraces = false) (d : D9) : MT G l yX10_copyFrom cX10_copyFrom 2 z_X10_copyFrom_1_63 [rf G 1, rf G 63] d (m_X10_copyFrom_1_63  d) := by
  refine mt_of (own := RX10) (by decide) rfl (Nat.le_of_ble_eq_true rfl) h1 h2 [(0, rf G 1), (1, rf G 63)] rfl (fun X hX C => ?_)
  unfold m_X10_copyFrom_1_63
  refine r_aload_n C 0 dX10_copyFrom_0 rfl rfl ?_
  refine r_getR C 2 dX10_copyFrom_1 fl_X10_12 la_1 ly_1 rfl rfl ?_
  refine r_aload_n C 1 dX10_copyFrom_4 rfl rfl ?_
  refine r_getR C 64 dX10_copyFrom_5 fl_X10_12 la_63 ly_63 rfl rfl ?_
  refine r_callV C [rf G 64, rf G 2] dX10_copyFrom_8 (t_X3_copyFrom_2_64 C.h1 C.h2 d) mw_X10_53 mv_X3_copyFrom la_2 ly_2 rfl (by decide) (by decide) (by decide) rfl rfl (Nat.le_of_ble_eq_true rfl) (fun r1 d2 => ?_)
  show SS G X 2 _ _ 11 [(0, rf G 1), (1, rf G 63)] [] d2 _
  refine r_aload_n C 0 dX10_copyFrom_11 rfl rfl ?_
  refine r_getR C 9 dX10_copyFrom_12 fl_X10_21 la_1 ly_1 rfl rfl ?_
  refine r_aload_n C 1 dX10_copyFrom_15 rfl rfl ?_
  refine r_getR C 71 dX10_copyFrom_16 fl_X10_21 la_63 ly_63 rfl rfl ?_
  refine r_callV C [rf G 71, rf G 9] dX10_copyFrom_19 (t_X6_copyFrom_9_71 C.h1 C.h2 d2) mw_X10_57 mv_X6_copyFrom la_9 ly_9 rfl (by decide) (by decide) (by decide) rfl rfl (Nat.le_of_ble_eq_true rfl) (fun r3 d4 => ?_)
  show SS G X 2 _ _ 22 [(0, rf G 1), (1, rf G 63)] [] d4 _
  refine r_aload_n C 0 dX10_copyFrom_22 rfl rfl ?_
  refine r_getR C 22 dX10_copyFrom_23 fl_X10_28 la_1 ly_1 rfl rfl ?_
  refine r_aload_n C 1 dX10_copyFrom_26 rfl rfl ?_
  refine r_getR C 84 dX10_copyFrom_27 fl_X10_28 la_63 ly_63 rfl rfl ?_
  refine r_callV C [rf G 84, rf G 22] dX10_copyFrom_30 (t_X2_copyFrom_22_84 C.h1 C.h2 d4) mw_X10_60 mv_X2_copyFrom la_22 ly_22 rfl (by decide) (by decide) (by decide) rfl rfl (Nat.le_of_ble_eq_true rfl) (fun r5 d6 => ?_)
  show SS G X 2 _ _ 33 [(0, rf G 1), (1, rf G 63)] [] d6 _
  refine r_aload_n C 0 dX10_copyFrom_33 rfl rfl ?_
  refine r_getR C 23 dX10_copyFrom_34 fl_X10_35 la_1 ly_1 rfl rfl ?_
  refine r_aload_n C 1 dX10_copyFrom_37 rfl rfl ?_
  refine r_getR C 85 dX10_copyFrom_38 fl_X10_35 la_63 ly_63 rfl rfl ?_
  refine r_callV C [rf G 85, rf G 23] dX10_copyFrom_41 (t_X7_copyFrom_23_85 C.h1 C.h2 d6) mw_X10_63 mv_X7_copyFrom la_23 ly_23 rfl (by decide) (by decide) (by decide) rfl rfl (Nat.le_of_ble_eq_true rfl) (fun r7 d8 => ?_)
  show SS G X 2 _ _ 44 [(0, rf G 1), (1, rf G 63)] [] d8 _
  refine r_aload_n C 0 dX10_copyFrom_44 rfl rfl ?_
  refine r_getR C 28 dX10_copyFrom_45 fl_X10_42 la_1 ly_1 rfl rfl ?_
  refine r_aload_n C 1 dX10_copyFrom_48 rfl rfl ?_
  refine r_getR C 90 dX10_copyFrom_49 fl_X10_42 la_63 ly_63 rfl rfl ?_
  refine r_callV C [rf G 90, rf G 28] dX10_copyFrom_52 (t_X4_copyFrom_28_90 C.h1 C.h2 d8) mw_X10_66 mv_X4_copyFrom la_28 ly_28 rfl (by decide) (by decide) (by decide) rfl rfl (Nat.le_of_ble_eq_true rfl) (fun r9 d10 => ?_)
  show SS G X 2 _ _ 55 [(0, rf G 1), (1, rf G 63)] [] d10 _
  refine r_aload_n C 0 dX10_copyFrom_55 rfl rfl ?_
  refine r_getR C 33 dX10_copyFrom_56 fl_X10_49 la_1 ly_1 rfl rfl ?_
  refine r_aload_n C 1 dX10_copyFrom_59 rfl rfl ?_
  refine r_getR C 95 dX10_copyFrom_60 fl_X10_49 la_63 ly_63 rfl rfl ?_
  refine r_callV C [rf G 95, rf G 33] dX10_copyFrom_63 (t_X1_copyFrom_33_95 C.h1 C.h2 d10) mw_X10_69 mv_X1_copyFrom la_33 ly_33 rfl (by decide) (by decide) (by decide) rfl rfl (Nat.le_of_ble_eq_true rfl) (fun r11 d12 => ?_)
  show SS G X 2 _ _ 66 [(0, rf G 1), (1, rf G 63)] [] d12 _
  exact r_vret C dX10_copyFrom_66 (by decide) (by decide)
abbrev z_X11_copyRow_102_3 : Z9 := (none, 0, 0, 0, 2, 200)
def m_X11_copyRow_102_3 (d : D9) : Option R9 := cp9 d 102 30 3 30 (min9 30 30) (fun d1 => rt 0 d1)
set_option maxRecDepth 100000 in
theorem t_X11_copyRow_102_3 {G : G9} {l : Launch} (h1 : va_D (A9 G) (wl G (fun _ _ => 0))) (h2 : l.stackTraces = false) (d : D9) : MT G l yX11_copyRow cX11_copyRow 2 z_X11_copyRow_102_3 [rf G 102, rf G 3] d (m_X11_copyRow_102_3  d) := by
  refine mt_of (own := RX11) (by decide) rfl (Nat.le_of_ble_eq_true rfl) h1 h2 [(0, rf G 102), (1, rf G 3)] rfl (fun X hX C => ?_)
  unfold m_X11_copyRow_102_3
  refine r_aload_n C 0 dX11_copyRow_0 rfl rfl ?_
  refine r_iconst C dX11_copyRow_1 ?_
  refine r_aload_n C 1 dX11_copyRow_2 rfl rfl ?_
  refine r_iconst C dX11_copyRow_3 ?_
  refine r_aload_n C 0 dX11_copyRow_4 rfl rfl ?_
  refine r_alen C dX11_copyRow_5 la_102 ly_102 ?_
  refine r_aload_n C 1 dX11_copyRow_6 rfl rfl ?_
  refine r_alen C dX11_copyRow_7 la_3 ly_3 ?_
  refine r_mmin C dX11_copyRow_8 mm_X11_465 ⟨Nat.le_of_ble_eq_true rfl, Nat.le_of_ble_eq_true rfl⟩ (by decide) (by decide) ?_
  refine r_acopy C dX11_copyRow_11 aw_X11_470 la_102 ly_102 la_3 ly_3 (by decide) (Nat.le_of_ble_eq_true rfl) (fun d1 => ?_)
  exact r_vret C dX11_copyRow_14 (by decide) (by decide)
theorem n_X11_copyRow_102_3 (d : D9) : NT9 (m_X11_copyRow_102_3  d) := by
  unfold m_X11_copyRow_102_3
  repeat (first | exact nt_rt | exact nt_none | apply nt_if | refine nt_cl ?_ (fun _ _ => ?_) | refine nt_cp9 (fun _ => ?_))
abbrev z_X11_copyRow_103_4 : Z9 := (none, 0, 0, 0, 2, 200)
def m_X11_copyRow_103_4 (d : D9) : Option R9 := cp9 d 103 30 4 30 (min9 30 30) (fun d1 => rt 0 d1)
set_option maxRecDepth 100000 in
theorem t_X11_copyRow_103_4 {G : G9} {l : Launch} (h1 : va_D (A9 G) (wl G (fun _ _ => 0))) (h2 : l.stackTraces = false) (d : D9) : MT G l yX11_copyRow cX11_copyRow 2 z_X11_copyRow_103_4 [rf G 103, rf G 4] d (m_X11_copyRow_103_4  d) := by
  refine mt_of (own := RX11) (by decide) rfl (Nat.le_of_ble_eq_true rfl) h1 h2 [(0, rf G 103), (1, rf G 4)] rfl (fun X hX C => ?_)
  unfold m_X11_copyRow_103_4
  refine r_aload_n C 0 dX11_copyRow_0 rfl rfl ?_
  refine r_iconst C dX11_copyRow_1 ?_
  refine r_aload_n C 1 dX11_copyRow_2 rfl rfl ?_
  refine r_iconst C dX11_copyRow_3 ?_
  refine r_aload_n C 0 dX11_copyRow_4 rfl rfl ?_
  refine r_alen C dX11_copyRow_5 la_103 ly_103 ?_
  refine r_aload_n C 1 dX11_copyRow_6 rfl rfl ?_
  refine r_alen C dX11_copyRow_7 la_4 ly_4 ?_
  refine r_mmin C dX11_copyRow_8 mm_X11_465 ⟨Nat.le_of_ble_eq_true rfl, Nat.le_of_ble_eq_true rfl⟩ (by decide) (by decide) ?_
  refine r_acopy C dX11_copyRow_11 aw_X11_470 la_103 ly_103 la_4 ly_4 (by decide) (Nat.le_of_ble_eq_true rfl) (fun d1 => ?_)
  exact r_vret C dX11_copyRow_14 (by decide) (by decide)
theorem n_X11_copyRow_103_4 (d : D9) : NT9 (m_X11_copyRow_103_4  d) := by
  unfold m_X11_copyRow_103_4
  repeat (first | exact nt_rt | exact nt_none | apply nt_if | refine nt_cl ?_ (fun _ _ => ?_) | refine nt_cp9 (fun _ => ?_))
abbrev z_X11_copyRow_104_5 : Z9 := (none, 0, 0, 0, 2, 200)
def m_X11_copyRow_104_5 (d : D9) : Option R9 := cp9 d 104 30 5 30 (min9 30 30) (fun d1 => rt 0 d1)
set_option maxRecDepth 100000 in
theorem t_X11_copyRow_104_5 {G : G9} {l : Launch} (h1 : va_D (A9 G) (wl G (fun _ _ => 0))) (h2 : l.stackTraces = false) (d : D9) : MT G l yX11_copyRow cX11_copyRow 2 z_X11_copyRow_104_5 [rf G 104, rf G 5] d (m_X11_copyRow_104_5  d) := by
  refine mt_of (own := RX11) (by decide) rfl (Nat.le_of_ble_eq_true rfl) h1 h2 [(0, rf G 104), (1, rf G 5)] rfl (fun X hX C => ?_)
  unfold m_X11_copyRow_104_5
  refine r_aload_n C 0 dX11_copyRow_0 rfl rfl ?_
  refine r_iconst C dX11_copyRow_1 ?_
  refine r_aload_n C 1 dX11_copyRow_2 rfl rfl ?_
  refine r_iconst C dX11_copyRow_3 ?_
  refine r_aload_n C 0 dX11_copyRow_4 rfl rfl ?_
  refine r_alen C dX11_copyRow_5 la_104 ly_104 ?_
  refine r_aload_n C 1 dX11_copyRow_6 rfl rfl ?_
  refine r_alen C dX11_copyRow_7 la_5 ly_5 ?_
  refine r_mmin C dX11_copyRow_8 mm_X11_465 ⟨Nat.le_of_ble_eq_true rfl, Nat.le_of_ble_eq_true rfl⟩ (by decide) (by decide) ?_
  refine r_acopy C dX11_copyRow_11 aw_X11_470 la_104 ly_104 la_5 ly_5 (by decide) (Nat.le_of_ble_eq_true rfl) (fun d1 => ?_)
  exact r_vret C dX11_copyRow_14 (by decide) (by decide)
theorem n_X11_copyRow_104_5 (d : D9) : NT9 (m_X11_copyRow_104_5  d) := by
  unfold m_X11_copyRow_104_5
  repeat (first | exact nt_rt | exact nt_none | apply nt_if | refine nt_cl ?_ (fun _ _ => ?_) | refine nt_cp9 (fun _ => ?_))
abbrev z_X11_copyRow_105_6 : Z9 := (none, 0, 0, 0, 2, 200)
def m_X11_copyRow_105_6 (d : D9) : Option R9 := cp9 d 105 150 6 150 (min9 150 150) (fun d1 => rt 0 d1)
set_option maxRecDepth 100000 in
theorem t_X11_copyRow_105_6 {G : G9} {l : Launch} (h1 : va_D (A9 G) (wl G (fun _ _ => 0))) (h2 : l.stackTraces = false) (d : D9) : MT G l yX11_copyRow cX11_copyRow 2 z_X11_copyRow_105_6 [rf G 105, rf G 6] d (m_X11_copyRow_105_6  d) := by
  refine mt_of (own := RX11) (by decide) rfl (Nat.le_of_ble_eq_true rfl) h1 h2 [(0, rf G 105), (1, rf G 6)] rfl (fun X hX C => ?_)
  unfold m_X11_copyRow_105_6
  refine r_aload_n C 0 dX11_copyRow_0 rfl rfl ?_
  refine r_iconst C dX11_copyRow_1 ?_
  refine r_aload_n C 1 dX11_copyRow_2 rfl rfl ?_
  refine r_iconst C dX11_copyRow_3 ?_
  refine r_aload_n C 0 dX11_copyRow_4 rfl rfl ?_
  refine r_alen C dX11_copyRow_5 la_105 ly_105 ?_
  refine r_aload_n C 1 dX11_copyRow_6 rfl rfl ?_
  refine r_alen C dX11_copyRow_7 la_6 ly_6 ?_
  refine r_mmin C dX11_copyRow_8 mm_X11_465 ⟨Nat.le_of_ble_eq_true rfl, Nat.le_of_ble_eq_true rfl⟩ (by decide) (by decide) ?_
  refine r_acopy C dX11_copyRow_11 aw_X11_470 la_105 ly_105 la_6 ly_6 (by decide) (Nat.le_of_ble_eq_true rfl) (fun d1 => ?_)
  exact r_vret C dX11_copyRow_14 (by decide) (by decide)
theorem n_X11_copyRow_105_6 (d : D9) : NT9 (m_X11_copyRow_105_6  d) := by
  unfold m_X11_copyRow_105_6
  repeat (first | exact nt_rt | exact nt_none | apply nt_if | refine nt_cl ?_ (fun _ _ => ?_) | refine nt_cp9 (fun _ => ?_))
abbrev z_X11_copyRow_106_7 : Z9 := (none, 0, 0, 0, 2, 200)
def m_X11_copyRow_106_7 (d : D9) : Option R9 := cp9 d 106 30 7 30 (min9 30 30) (fun d1 => rt 0 d1)
set_option maxRecDepth 100000 in
theorem t_X11_copyRow_106_7 {G : G9} {l : Launch} (h1 : va_D (A9 G) (wl G (fun _ _ => 0))) (h2 : l.stackTraces = false) (d : D9) : MT G l yX11_copyRow cX11_copyRow 2 z_X11_copyRow_106_7 [rf G 106, rf G 7] d (m_X11_copyRow_106_7  d) := by
  refine mt_of (own := RX11) (by decide) rfl (Nat.le_of_ble_eq_true rfl) h1 h2 [(0, rf G 106), (1, rf G 7)] rfl (fun X hX C => ?_)
  unfold m_X11_copyRow_106_7
  refine r_aload_n C 0 dX11_copyRow_0 rfl rfl ?_
  refine r_iconst C dX11_copyRow_1 ?_
  refine r_aload_n C 1 dX11_copyRow_2 rfl rfl ?_
  refine r_iconst C dX11_copyRow_3 ?_
  refine r_aload_n C 0 dX11_copyRow_4 rfl rfl ?_
  refine r_alen C dX11_copyRow_5 la_106 ly_106 ?_
  refine r_aload_n C 1 dX11_copyRow_6 rfl rfl ?_
  refine r_alen C dX11_copyRow_7 la_7 ly_7 ?_
  refine r_mmin C dX11_copyRow_8 mm_X11_465 ⟨Nat.le_of_ble_eq_true rfl, Nat.le_of_ble_eq_true rfl⟩ (by decide) (by decide) ?_
  refine r_acopy C dX11_copyRow_11 aw_X11_470 la_106 ly_106 la_7 ly_7 (by decide) (Nat.le_of_ble_eq_true rfl) (fun d1 => ?_)
  exact r_vret C dX11_copyRow_14 (by decide) (by decide)
theorem n_X11_copyRow_106_7 (d : D9) : NT9 (m_X11_copyRow_106_7  d) := by
  unfold m_X11_copyRow_106_7
  repeat (first | exact nt_rt | exact nt_none | apply nt_if | refine nt_cl ?_ (fun _ _ => ?_) | refine nt_cp9 (fun _ => ?_))
abbrev z_X11_copyRow_107_8 : Z9 := (none, 0, 0, 0, 2, 200)
def m_X11_copyRow_107_8 (d : D9) : Option R9 := cp9 d 107 30 8 30 (min9 30 30) (fun d1 => rt 0 d1)
set_option maxRecDepth 100000 in
theorem t_X11_copyRow_107_8 {G : G9} {l : Launch} (h1 : va_D (A9 G) (wl G (fun _ _ => 0))) (h2 : l.stackTraces = false) (d : D9) : MT G l yX11_copyRow cX11_copyRow 2 z_X11_copyRow_107_8 [rf G 107, rf G 8] d (m_X11_copyRow_107_8  d) := by
  refine mt_of (own := RX11) (by decide) rfl (Nat.le_of_ble_eq_true rfl) h1 h2 [(0, rf G 107), (1, rf G 8)] rfl (fun X hX C => ?_)
  unfold m_X11_copyRow_107_8
  refine r_aload_n C 0 dX11_copyRow_0 rfl rfl ?_
  refine r_iconst C dX11_copyRow_1 ?_
  refine r_aload_n C 1 dX11_copyRow_2 rfl rfl ?_
  refine r_iconst C dX11_copyRow_3 ?_
  refine r_aload_n C 0 dX11_copyRow_4 rfl rfl ?_
  refine r_alen C dX11_copyRow_5 la_107 ly_107 ?_
  refine r_aload_n C 1 dX11_copyRow_6 rfl rfl ?_
  refine r_alen C dX11_copyRow_7 la_8 ly_8 ?_
  refine r_mmin C dX11_copyRow_8 mm_X11_465 ⟨Nat.le_of_ble_eq_true rfl, Nat.le_of_ble_eq_true rfl⟩ (by decide) (by decide) ?_
  refine r_acopy C dX11_copyRow_11 aw_X11_470 la_107 ly_107 la_8 ly_8 (by decide) (Nat.le_of_ble_eq_true rfl) (fun d1 => ?_)
  exact r_vret C dX11_copyRow_14 (by decide) (by decide)
theorem n_X11_copyRow_107_8 (d : D9) : NT9 (m_X11_copyRow_107_8  d) := by
  unfold m_X11_copyRow_107_8
  repeat (first | exact nt_rt | exact nt_none | apply nt_if | refine nt_cl ?_ (fun _ _ => ?_) | refine nt_cp9 (fun _ => ?_))
abbrev z_X3_copyFrom_2_101 : Z9 := (none, 0, 0, 0, 3, 221)
def m_X3_copyFrom_2_101 (d : D9) : Option R9 := pf d 2 0 (d 101 0) (fun d1 => pf d1 2 1 (d1 101 1) (fun d2 => cl (m_X11_copyRow_102_3 d2) (fun r3 d4 => cl (m_X11_copyRow_103_4 d4) (fun r5 d6 => cl (m_X11_copyRow_104_5 d6) (fun r7 d8 => cl (m_X11_copyRow_105_6 d8) (fun r9 d10 => cl (m_X11_copyRow_106_7 d10) (fun r11 d12 => cl (m_X11_copyRow_107_8 d12) (fun r13 d14 => rt 0 d14))))))))
set_option maxRecDepth 100000 in
theorem t_X3_copyFrom_2_101 {G : G9} {l : Launch} (h1 : va_D (A9 G) (wl G (fun _ _ => 0))) (h2 : l.stackTraces = false) (d : D9) : MT G l yX3_copyFrom cX3_copyFrom 2 z_X3_copyFrom_2_101 [rf G 2, rf G 101] d (m_X3_copyFrom_2_101  d) := by
  refine mt_of (own := RX3) (by decide) rfl (Nat.le_of_ble_eq_true rfl) h1 h2 [(0, rf G 2), (1, rf G 101)] rfl (fun X hX C => ?_)
  unfold m_X3_copyFrom_2_101
  refine r_aload_n C 0 dX3_copyFrom_0 rfl rfl ?_
  refine r_aload_n C 1 dX3_copyFrom_1 rfl rfl ?_
  refine r_getI C dX3_copyFrom_2 fl_X3_30 la_101 ly_101 rfl ?_
  refine r_putI C dX3_copyFrom_5 fp_X3_30 la_2 ly_2 rfl (fun d1 => ?_)
  refine r_aload_n C 0 dX3_copyFrom_8 rfl rfl ?_
  refine r_aload_n C 1 dX3_copyFrom_9 rfl rfl ?_
  refine r_getI C dX3_copyFrom_10 fl_X3_34 la_101 ly_101 rfl ?_
  refine r_putI C dX3_copyFrom_13 fp_X3_34 la_2 ly_2 rfl (fun d2 => ?_)
  refine r_aload_n C 1 dX3_copyFrom_16 rfl rfl ?_
  refine r_getR C 102 dX3_copyFrom_17 fl_X3_9 la_101 ly_101 rfl rfl ?_
  refine r_aload_n C 0 dX3_copyFrom_20 rfl rfl ?_
  refine r_getR C 3 dX3_copyFrom_21 fl_X3_9 la_2 ly_2 rfl rfl ?_
  refine r_callN C [rf G 3, rf G 102] dX3_copyFrom_24 (t_X11_copyRow_102_3 C.h1 C.h2 d2) (n_X11_copyRow_102_3 d2) mn_X3_37 ms_X11_copyRow (by decide) (by decide) (by decide) rfl rfl (Nat.le_of_ble_eq_true rfl) (fun r3 d4 => ?_)
  show SS G X 2 _ _ 27 [(0, rf G 2), (1, rf G 101)] [] d4 _
  refine r_aload_n C 1 dX3_copyFrom_27 rfl rfl ?_
  refine r_getR C 103 dX3_copyFrom_28 fl_X3_15 la_101 ly_101 rfl rfl ?_
  refine r_aload_n C 0 dX3_copyFrom_31 rfl rfl ?_
  refine r_getR C 4 dX3_copyFrom_32 fl_X3_15 la_2 ly_2 rfl rfl ?_
  refine r_callN C [rf G 4, rf G 103] dX3_copyFrom_35 (t_X11_copyRow_103_4 C.h1 C.h2 d4) (n_X11_copyRow_103_4 d4) mn_X3_37 ms_X11_copyRow (by decide) (by decide) (by decide) rfl rfl (Nat.le_of_ble_eq_true rfl) (fun r5 d6 => ?_)
  show SS G X 2 _ _ 38 [(0, rf G 2), (1, rf G 101)] [] d6 _
  refine r_aload_n C 1 dX3_copyFrom_38 rfl rfl ?_
  refine r_getR C 104 dX3_copyFrom_39 fl_X3_18 la_101 ly_101 rfl rfl ?_
  refine r_aload_n C 0 dX3_copyFrom_42 rfl rfl ?_
  refine r_getR C 5 dX3_copyFrom_43 fl_X3_18 la_2 ly_2 rfl rfl ?_
  refine r_callN C [rf G 5, rf G 104] dX3_copyFrom_46 (t_X11_copyRow_104_5 C.h1 C.h2 d6) (n_X11_copyRow_104_5 d6) mn_X3_37 ms_X11_copyRow (by decide) (by decide) (by decide) rfl rfl (Nat.le_of_ble_eq_true rfl) (fun r7 d8 => ?_)
  show SS G X 2 _ _ 49 [(0, rf G 2), (1, rf G 101)] [] d8 _
  refine r_aload_n C 1 dX3_copyFrom_49 rfl rfl ?_
  refine r_getR C 105 dX3_copyFrom_50 fl_X3_21 la_101 ly_101 rfl rfl ?_
  refine r_aload_n C 0 dX3_copyFrom_53 rfl rfl ?_
  refine r_getR C 6 dX3_copyFrom_54 fl_X3_21 la_2 ly_2 rfl rfl ?_
  refine r_callN C [rf G 6, rf G 105] dX3_copyFrom_57 (t_X11_copyRow_105_6 C.h1 C.h2 d8) (n_X11_copyRow_105_6 d8) mn_X3_37 ms_X11_copyRow (by decide) (by decide) (by decide) rfl rfl (Nat.le_of_ble_eq_true rfl) (fun r9 d10 => ?_)
  show SS G X 2 _ _ 60 [(0, rf G 2), (1, rf G 101)] [] d10 _
  refine r_aload_n C 1 dX3_copyFrom_60 rfl rfl ?_
  refine r_getR C 106 dX3_copyFrom_61 fl_X3_24 la_101 ly_101 rfl rfl ?_
  refine r_aload_n C 0 dX3_copyFrom_64 rfl rfl ?_
  refine r_getR C 7 dX3_copyFrom_65 fl_X3_24 la_2 ly_2 rfl rfl ?_
  refine r_callN C [rf G 7, rf G 106] dX3_copyFrom_68 (t_X11_copyRow_106_7 C.h1 C.h2 d10) (n_X11_copyRow_106_7 d10) mn_X3_37 ms_X11_copyRow (by decide) (by decide) (by decide) rfl rfl (Nat.le_of_ble_eq_true rfl) (fun r11 d12 => ?_)
  show SS G X 2 _ _ 71 [(0, rf G 2), (1, rf G 101)] [] d12 _
  refine r_aload_n C 1 dX3_copyFrom_71 rfl rfl ?_
  refine r_getR C 107 dX3_copyFrom_72 fl_X3_27 la_101 ly_101 rfl rfl ?_
  refine r_aload_n C 0 dX3_copyFrom_75 rfl rfl ?_
  refine r_getR C 8 dX3_copyFrom_76 fl_X3_27 la_2 ly_2 rfl rfl ?_
  refine r_callN C [rf G 8, rf G 107] dX3_copyFrom_79 (t_X11_copyRow_107_8 C.h1 C.h2 d12) (n_X11_copyRow_107_8 d12) mn_X3_37 ms_X11_copyRow (by decide) (by decide) (by decide) rfl rfl (Nat.le_of_ble_eq_true rfl) (fun r13 d14 => ?_)
  show SS G X 2 _ _ 82 [(0, rf G 2), (1, rf G 101)] [] d14 _
  exact r_vret C dX3_copyFrom_82 (by decide) (by decide)
abbrev z_X11_copyRow_109_10 : Z9 := (none, 0, 0, 0, 2, 200)
def m_X11_copyRow_109_10 (d : D9) : Option R9 := cp9 d 109 30 10 30 (min9 30 30) (fun d1 => rt 0 d1)
set_option maxRecDepth 100000 in
theorem t_X11_copyRow_109_10 {G : G9} {l : Launch} (h1 : va_D (A9 G) (wl G (fun _ _ => 0))) (h2 : l.stackTraces = false) (d : D9) : MT G l yX11_copyRow cX11_copyRow 2 z_X11_copyRow_109_10 [rf G 109, rf G 10] d (m_X11_copyRow_109_10  d) := by
  refine mt_of (own := RX11) (by decide) rfl (Nat.le_of_ble_eq_true rfl) h1 h2 [(0, rf G 109), (1, rf G 10)] rfl (fun X hX C => ?_)
  unfold m_X11_copyRow_109_10
  refine r_aload_n C 0 dX11_copyRow_0 rfl rfl ?_
  refine r_iconst C dX11_copyRow_1 ?_
  refine r_aload_n C 1 dX11_copyRow_2 rfl rfl ?_
  refine r_iconst C dX11_copyRow_3 ?_
  refine r_aload_n C 0 dX11_copyRow_4 rfl rfl ?_
  refine r_alen C dX11_copyRow_5 la_109 ly_109 ?_
  refine r_aload_n C 1 dX11_copyRow_6 rfl rfl ?_
  refine r_alen C dX11_copyRow_7 la_10 ly_10 ?_
  refine r_mmin C dX11_copyRow_8 mm_X11_465 ⟨Nat.le_of_ble_eq_true rfl, Nat.le_of_ble_eq_true rfl⟩ (by decide) (by decide) ?_
  refine r_acopy C dX11_copyRow_11 aw_X11_470 la_109 ly_109 la_10 ly_10 (by decide) (Nat.le_of_ble_eq_true rfl) (fun d1 => ?_)
  exact r_vret C dX11_copyRow_14 (by decide) (by decide)
theorem n_X11_copyRow_109_10 (d : D9) : NT9 (m_X11_copyRow_109_10  d) := by
  unfold m_X11_copyRow_109_10
  repeat (first | exact nt_rt | exact nt_none | apply nt_if | refine nt_cl ?_ (fun _ _ => ?_) | refine nt_cp9 (fun _ => ?_))
abbrev z_X11_copyRow_110_11 : Z9 := (none, 0, 0, 0, 2, 200)
def m_X11_copyRow_110_11 (d : D9) : Option R9 := cp9 d 110 30 11 30 (min9 30 30) (fun d1 => rt 0 d1)
set_option maxRecDepth 100000 in
theorem t_X11_copyRow_110_11 {G : G9} {l : Launch} (h1 : va_D (A9 G) (wl G (fun _ _ => 0))) (h2 : l.stackTraces = false) (d : D9) : MT G l yX11_copyRow cX11_copyRow 2 z_X11_copyRow_110_11 [rf G 110, rf G 11] d (m_X11_copyRow_110_11  d) := by
  refine mt_of (own := RX11) (by decide) rfl (Nat.le_of_ble_eq_true rfl) h1 h2 [(0, rf G 110), (1, rf G 11)] rfl (fun X hX C => ?_)
  unfold m_X11_copyRow_110_11
  refine r_aload_n C 0 dX11_copyRow_0 rfl rfl ?_
  refine r_iconst C dX11_copyRow_1 ?_
  refine r_aload_n C 1 dX11_copyRow_2 rfl rfl ?_
  refine r_iconst C dX11_copyRow_3 ?_
  refine r_aload_n C 0 dX11_copyRow_4 rfl rfl ?_
  refine r_alen C dX11_copyRow_5 la_110 ly_110 ?_
  refine r_aload_n C 1 dX11_copyRow_6 rfl rfl ?_
  refine r_alen C dX11_copyRow_7 la_11 ly_11 ?_
  refine r_mmin C dX11_copyRow_8 mm_X11_465 ⟨Nat.le_of_ble_eq_true rfl, Nat.le_of_ble_eq_true rfl⟩ (by decide) (by decide) ?_
  refine r_acopy C dX11_copyRow_11 aw_X11_470 la_110 ly_110 la_11 ly_11 (by decide) (Nat.le_of_ble_eq_true rfl) (fun d1 => ?_)
  exact r_vret C dX11_copyRow_14 (by decide) (by decide)
theorem n_X11_copyRow_110_11 (d : D9) : NT9 (m_X11_copyRow_110_11  d) := by
  unfold m_X11_copyRow_110_11
  repeat (first | exact nt_rt | exact nt_none | apply nt_if | refine nt_cl ?_ (fun _ _ => ?_) | refine nt_cp9 (fun _ => ?_))
abbrev z_X11_copyRow_111_12 : Z9 := (none, 0, 0, 0, 2, 200)
def m_X11_copyRow_111_12 (d : D9) : Option R9 := cp9 d 111 30 12 30 (min9 30 30) (fun d1 => rt 0 d1)
set_option maxRecDepth 100000 in
theorem t_X11_copyRow_111_12 {G : G9} {l : Launch} (h1 : va_D (A9 G) (wl G (fun _ _ => 0))) (h2 : l.stackTraces = false) (d : D9) : MT G l yX11_copyRow cX11_copyRow 2 z_X11_copyRow_111_12 [rf G 111, rf G 12] d (m_X11_copyRow_111_12  d) := by
  refine mt_of (own := RX11) (by decide) rfl (Nat.le_of_ble_eq_true rfl) h1 h2 [(0, rf G 111), (1, rf G 12)] rfl (fun X hX C => ?_)
  unfold m_X11_copyRow_111_12
  refine r_aload_n C 0 dX11_copyRow_0 rfl rfl ?_
  refine r_iconst C dX11_copyRow_1 ?_
  refine r_aload_n C 1 dX11_copyRow_2 rfl rfl ?_
  refine r_iconst C dX11_copyRow_3 ?_
  refine r_aload_n C 0 dX11_copyRow_4 rfl rfl ?_
  refine r_alen C dX11_copyRow_5 la_111 ly_111 ?_
  refine r_aload_n C 1 dX11_copyRow_6 rfl rfl ?_
  refine r_alen C dX11_copyRow_7 la_12 ly_12 ?_
  refine r_mmin C dX11_copyRow_8 mm_X11_465 ⟨Nat.le_of_ble_eq_true rfl, Nat.le_of_ble_eq_true rfl⟩ (by decide) (by decide) ?_
  refine r_acopy C dX11_copyRow_11 aw_X11_470 la_111 ly_111 la_12 ly_12 (by decide) (Nat.le_of_ble_eq_true rfl) (fun d1 => ?_)
  exact r_vret C dX11_copyRow_14 (by decide) (by decide)
theorem n_X11_copyRow_111_12 (d : D9) : NT9 (m_X11_copyRow_111_12  d) := by
  unfold m_X11_copyRow_111_12
  repeat (first | exact nt_rt | exact nt_none | apply nt_if | refine nt_cl ?_ (fun _ _ => ?_) | refine nt_cp9 (fun _ => ?_))
abbrev z_X11_copyRow_112_13 : Z9 := (none, 0, 0, 0, 2, 200)
def m_X11_copyRow_112_13 (d : D9) : Option R9 := cp9 d 112 30 13 30 (min9 30 30) (fun d1 => rt 0 d1)
set_option maxRecDepth 100000 in
theorem t_X11_copyRow_112_13 {G : G9} {l : Launch} (h1 : va_D (A9 G) (wl G (fun _ _ => 0))) (h2 : l.stackTraces = false) (d : D9) : MT G l yX11_copyRow cX11_copyRow 2 z_X11_copyRow_112_13 [rf G 112, rf G 13] d (m_X11_copyRow_112_13  d) := by
  refine mt_of (own := RX11) (by decide) rfl (Nat.le_of_ble_eq_true rfl) h1 h2 [(0, rf G 112), (1, rf G 13)] rfl (fun X hX C => ?_)
  unfold m_X11_copyRow_112_13
  refine r_aload_n C 0 dX11_copyRow_0 rfl rfl ?_
  refine r_iconst C dX11_copyRow_1 ?_
  refine r_aload_n C 1 dX11_copyRow_2 rfl rfl ?_
  refine r_iconst C dX11_copyRow_3 ?_
  refine r_aload_n C 0 dX11_copyRow_4 rfl rfl ?_
  refine r_alen C dX11_copyRow_5 la_112 ly_112 ?_
  refine r_aload_n C 1 dX11_copyRow_6 rfl rfl ?_
  refine r_alen C dX11_copyRow_7 la_13 ly_13 ?_
  refine r_mmin C dX11_copyRow_8 mm_X11_465 ⟨Nat.le_of_ble_eq_true rfl, Nat.le_of_ble_eq_true rfl⟩ (by decide) (by decide) ?_
  refine r_acopy C dX11_copyRow_11 aw_X11_470 la_112 ly_112 la_13 ly_13 (by decide) (Nat.le_of_ble_eq_true rfl) (fun d1 => ?_)
  exact r_vret C dX11_copyRow_14 (by decide) (by decide)
theorem n_X11_copyRow_112_13 (d : D9) : NT9 (m_X11_copyRow_112_13  d) := by
  unfold m_X11_copyRow_112_13
  repeat (first | exact nt_rt | exact nt_none | apply nt_if | refine nt_cl ?_ (fun _ _ => ?_) | refine nt_cp9 (fun _ => ?_))
abbrev z_X11_copyRow_113_14 : Z9 := (none, 0, 0, 0, 2, 200)
def m_X11_copyRow_113_14 (d : D9) : Option R9 := cp9 d 113 30 14 30 (min9 30 30) (fun d1 => rt 0 d1)
set_option maxRecDepth 100000 in
theorem t_X11_copyRow_113_14 {G : G9} {l : Launch} (h1 : va_D (A9 G) (wl G (fun _ _ => 0))) (h2 : l.stackTraces = false) (d : D9) : MT G l yX11_copyRow cX11_copyRow 2 z_X11_copyRow_113_14 [rf G 113, rf G 14] d (m_X11_copyRow_113_14  d) := by
  refine mt_of (own := RX11) (by decide) rfl (Nat.le_of_ble_eq_true rfl) h1 h2 [(0, rf G 113), (1, rf G 14)] rfl (fun X hX C => ?_)
  unfold m_X11_copyRow_113_14
  refine r_aload_n C 0 dX11_copyRow_0 rfl rfl ?_
  refine r_iconst C dX11_copyRow_1 ?_
  refine r_aload_n C 1 dX11_copyRow_2 rfl rfl ?_
  refine r_iconst C dX11_copyRow_3 ?_
  refine r_aload_n C 0 dX11_copyRow_4 rfl rfl ?_
  refine r_alen C dX11_copyRow_5 la_113 ly_113 ?_
  refine r_aload_n C 1 dX11_copyRow_6 rfl rfl ?_
  refine r_alen C dX11_copyRow_7 la_14 ly_14 ?_
  refine r_mmin C dX11_copyRow_8 mm_X11_465 ⟨Nat.le_of_ble_eq_true rfl, Nat.le_of_ble_eq_true rfl⟩ (by decide) (by decide) ?_
  refine r_acopy C dX11_copyRow_11 aw_X11_470 la_113 ly_113 la_14 ly_14 (by decide) (Nat.le_of_ble_eq_true rfl) (fun d1 => ?_)
  exact r_vret C dX11_copyRow_14 (by decide) (by decide)
theorem n_X11_copyRow_113_14 (d : D9) : NT9 (m_X11_copyRow_113_14  d) := by
  unfold m_X11_copyRow_113_14
  repeat (first | exact nt_rt | exact nt_none | apply nt_if | refine nt_cl ?_ (fun _ _ => ?_) | refine nt_cp9 (fun _ => ?_))
abbrev z_X11_copyRow_114_15 : Z9 := (none, 0, 0, 0, 2, 200)
def m_X11_copyRow_114_15 (d : D9) : Option R9 := cp9 d 114 30 15 30 (min9 30 30) (fun d1 => rt 0 d1)
set_option maxRecDepth 100000 in
theorem t_X11_copyRow_114_15 {G : G9} {l : Launch} (h1 : va_D (A9 G) (wl G (fun _ _ => 0))) (h2 : l.stackTraces = false) (d : D9) : MT G l yX11_copyRow cX11_copyRow 2 z_X11_copyRow_114_15 [rf G 114, rf G 15] d (m_X11_copyRow_114_15  d) := by
  refine mt_of (own := RX11) (by decide) rfl (Nat.le_of_ble_eq_true rfl) h1 h2 [(0, rf G 114), (1, rf G 15)] rfl (fun X hX C => ?_)
  unfold m_X11_copyRow_114_15
  refine r_aload_n C 0 dX11_copyRow_0 rfl rfl ?_
  refine r_iconst C dX11_copyRow_1 ?_
  refine r_aload_n C 1 dX11_copyRow_2 rfl rfl ?_
  refine r_iconst C dX11_copyRow_3 ?_
  refine r_aload_n C 0 dX11_copyRow_4 rfl rfl ?_
  refine r_alen C dX11_copyRow_5 la_114 ly_114 ?_
  refine r_aload_n C 1 dX11_copyRow_6 rfl rfl ?_
  refine r_alen C dX11_copyRow_7 la_15 ly_15 ?_
  refine r_mmin C dX11_copyRow_8 mm_X11_465 ⟨Nat.le_of_ble_eq_true rfl, Nat.le_of_ble_eq_true rfl⟩ (by decide) (by decide) ?_
  refine r_acopy C dX11_copyRow_11 aw_X11_470 la_114 ly_114 la_15 ly_15 (by decide) (Nat.le_of_ble_eq_true rfl) (fun d1 => ?_)
  exact r_vret C dX11_copyRow_14 (by decide) (by decide)
theorem n_X11_copyRow_114_15 (d : D9) : NT9 (m_X11_copyRow_114_15  d) := by
  unfold m_X11_copyRow_114_15
  repeat (first | exact nt_rt | exact nt_none | apply nt_if | refine nt_cl ?_ (fun _ _ => ?_) | refine nt_cp9 (fun _ => ?_))
abbrev z_X11_copyRow_115_16 : Z9 := (none, 0, 0, 0, 2, 200)
def m_X11_copyRow_115_16 (d : D9) : Option R9 := cp9 d 115 30 16 30 (min9 30 30) (fun d1 => rt 0 d1)
set_option maxRecDepth 100000 in
theorem t_X11_copyRow_115_16 {G : G9} {l : Launch} (h1 : va_D (A9 G) (wl G (fun _ _ => 0))) (h2 : l.stackTraces = false) (d : D9) : MT G l yX11_copyRow cX11_copyRow 2 z_X11_copyRow_115_16 [rf G 115, rf G 16] d (m_X11_copyRow_115_16  d) := by
  refine mt_of (own := RX11) (by decide) rfl (Nat.le_of_ble_eq_true rfl) h1 h2 [(0, rf G 115), (1, rf G 16)] rfl (fun X hX C => ?_)
  unfold m_X11_copyRow_115_16
  refine r_aload_n C 0 dX11_copyRow_0 rfl rfl ?_
  refine r_iconst C dX11_copyRow_1 ?_
  refine r_aload_n C 1 dX11_copyRow_2 rfl rfl ?_
  refine r_iconst C dX11_copyRow_3 ?_
  refine r_aload_n C 0 dX11_copyRow_4 rfl rfl ?_
  refine r_alen C dX11_copyRow_5 la_115 ly_115 ?_
  refine r_aload_n C 1 dX11_copyRow_6 rfl rfl ?_
  refine r_alen C dX11_copyRow_7 la_16 ly_16 ?_
  refine r_mmin C dX11_copyRow_8 mm_X11_465 ⟨Nat.le_of_ble_eq_true rfl, Nat.le_of_ble_eq_true rfl⟩ (by decide) (by decide) ?_
  refine r_acopy C dX11_copyRow_11 aw_X11_470 la_115 ly_115 la_16 ly_16 (by decide) (Nat.le_of_ble_eq_true rfl) (fun d1 => ?_)
  exact r_vret C dX11_copyRow_14 (by decide) (by decide)
theorem n_X11_copyRow_115_16 (d : D9) : NT9 (m_X11_copyRow_115_16  d) := by
  unfold m_X11_copyRow_115_16
  repeat (first | exact nt_rt | exact nt_none | apply nt_if | refine nt_cl ?_ (fun _ _ => ?_) | refine nt_cp9 (fun _ => ?_))
abbrev z_X11_copyRow_116_17 : Z9 := (none, 0, 0, 0, 2, 200)
def m_X11_copyRow_116_17 (d : D9) : Option R9 := cp9 d 116 120 17 120 (min9 120 120) (fun d1 => rt 0 d1)
set_option maxRecDepth 100000 in
theorem t_X11_copyRow_116_17 {G : G9} {l : Launch} (h1 : va_D (A9 G) (wl G (fun _ _ => 0))) (h2 : l.stackTraces = false) (d : D9) : MT G l yX11_copyRow cX11_copyRow 2 z_X11_copyRow_116_17 [rf G 116, rf G 17] d (m_X11_copyRow_116_17  d) := by
  refine mt_of (own := RX11) (by decide) rfl (Nat.le_of_ble_eq_true rfl) h1 h2 [(0, rf G 116), (1, rf G 17)] rfl (fun X hX C => ?_)
  unfold m_X11_copyRow_116_17
  refine r_aload_n C 0 dX11_copyRow_0 rfl rfl ?_
  refine r_iconst C dX11_copyRow_1 ?_
  refine r_aload_n C 1 dX11_copyRow_2 rfl rfl ?_
  refine r_iconst C dX11_copyRow_3 ?_
  refine r_aload_n C 0 dX11_copyRow_4 rfl rfl ?_
  refine r_alen C dX11_copyRow_5 la_116 ly_116 ?_
  refine r_aload_n C 1 dX11_copyRow_6 rfl rfl ?_
  refine r_alen C dX11_copyRow_7 la_17 ly_17 ?_
  refine r_mmin C dX11_copyRow_8 mm_X11_465 ⟨Nat.le_of_ble_eq_true rfl, Nat.le_of_ble_eq_true rfl⟩ (by decide) (by decide) ?_
  refine r_acopy C dX11_copyRow_11 aw_X11_470 la_116 ly_116 la_17 ly_17 (by decide) (Nat.le_of_ble_eq_true rfl) (fun d1 => ?_)
  exact r_vret C dX11_copyRow_14 (by decide) (by decide)
theorem n_X11_copyRow_116_17 (d : D9) : NT9 (m_X11_copyRow_116_17  d) := by
  unfold m_X11_copyRow_116_17
  repeat (first | exact nt_rt | exact nt_none | apply nt_if | refine nt_cl ?_ (fun _ _ => ?_) | refine nt_cp9 (fun _ => ?_))
abbrev z_X11_copyRow_117_18 : Z9 := (none, 0, 0, 0, 2, 200)
def m_X11_copyRow_117_18 (d : D9) : Option R9 := cp9 d 117 120 18 120 (min9 120 120) (fun d1 => rt 0 d1)
set_option maxRecDepth 100000 in
theorem t_X11_copyRow_117_18 {G : G9} {l : Launch} (h1 : va_D (A9 G) (wl G (fun _ _ => 0))) (h2 : l.stackTraces = false) (d : D9) : MT G l yX11_copyRow cX11_copyRow 2 z_X11_copyRow_117_18 [rf G 117, rf G 18] d (m_X11_copyRow_117_18  d) := by
  refine mt_of (own := RX11) (by decide) rfl (Nat.le_of_ble_eq_true rfl) h1 h2 [(0, rf G 117), (1, rf G 18)] rfl (fun X hX C => ?_)
  unfold m_X11_copyRow_117_18
  refine r_aload_n C 0 dX11_copyRow_0 rfl rfl ?_
  refine r_iconst C dX11_copyRow_1 ?_
  refine r_aload_n C 1 dX11_copyRow_2 rfl rfl ?_
  refine r_iconst C dX11_copyRow_3 ?_
  refine r_aload_n C 0 dX11_copyRow_4 rfl rfl ?_
  refine r_alen C dX11_copyRow_5 la_117 ly_117 ?_
  refine r_aload_n C 1 dX11_copyRow_6 rfl rfl ?_
  refine r_alen C dX11_copyRow_7 la_18 ly_18 ?_
  refine r_mmin C dX11_copyRow_8 mm_X11_465 ⟨Nat.le_of_ble_eq_true rfl, Nat.le_of_ble_eq_true rfl⟩ (by decide) (by decide) ?_
  refine r_acopy C dX11_copyRow_11 aw_X11_470 la_117 ly_117 la_18 ly_18 (by decide) (Nat.le_of_ble_eq_true rfl) (fun d1 => ?_)
  exact r_vret C dX11_copyRow_14 (by decide) (by decide)
theorem n_X11_copyRow_117_18 (d : D9) : NT9 (m_X11_copyRow_117_18  d) := by
  unfold m_X11_copyRow_117_18
  repeat (first | exact nt_rt | exact nt_none | apply nt_if | refine nt_cl ?_ (fun _ _ => ?_) | refine nt_cp9 (fun _ => ?_))
abbrev z_X11_copyRow_118_19 : Z9 := (none, 0, 0, 0, 2, 200)
def m_X11_copyRow_118_19 (d : D9) : Option R9 := cp9 d 118 120 19 120 (min9 120 120) (fun d1 => rt 0 d1)
set_option maxRecDepth 100000 in
theorem t_X11_copyRow_118_19 {G : G9} {l : Launch} (h1 : va_D (A9 G) (wl G (fun _ _ => 0))) (h2 : l.stackTraces = false) (d : D9) : MT G l yX11_copyRow cX11_copyRow 2 z_X11_copyRow_118_19 [rf G 118, rf G 19] d (m_X11_copyRow_118_19  d) := by
  refine mt_of (own := RX11) (by decide) rfl (Nat.le_of_ble_eq_true rfl) h1 h2 [(0, rf G 118), (1, rf G 19)] rfl (fun X hX C => ?_)
  unfold m_X11_copyRow_118_19
  refine r_aload_n C 0 dX11_copyRow_0 rfl rfl ?_
  refine r_iconst C dX11_copyRow_1 ?_
  refine r_aload_n C 1 dX11_copyRow_2 rfl rfl ?_
  refine r_iconst C dX11_copyRow_3 ?_
  refine r_aload_n C 0 dX11_copyRow_4 rfl rfl ?_
  refine r_alen C dX11_copyRow_5 la_118 ly_118 ?_
  refine r_aload_n C 1 dX11_copyRow_6 rfl rfl ?_
  refine r_alen C dX11_copyRow_7 la_19 ly_19 ?_
  refine r_mmin C dX11_copyRow_8 mm_X11_465 ⟨Nat.le_of_ble_eq_true rfl, Nat.le_of_ble_eq_true rfl⟩ (by decide) (by decide) ?_
  refine r_acopy C dX11_copyRow_11 aw_X11_470 la_118 ly_118 la_19 ly_19 (by decide) (Nat.le_of_ble_eq_true rfl) (fun d1 => ?_)
  exact r_vret C dX11_copyRow_14 (by decide) (by decide)
theorem n_X11_copyRow_118_19 (d : D9) : NT9 (m_X11_copyRow_118_19  d) := by
  unfold m_X11_copyRow_118_19
  repeat (first | exact nt_rt | exact nt_none | apply nt_if | refine nt_cl ?_ (fun _ _ => ?_) | refine nt_cp9 (fun _ => ?_))
abbrev z_X11_copyRow_119_20 : Z9 := (none, 0, 0, 0, 2, 200)
def m_X11_copyRow_119_20 (d : D9) : Option R9 := cp9 d 119 120 20 120 (min9 120 120) (fun d1 => rt 0 d1)
set_option maxRecDepth 100000 in
theorem t_X11_copyRow_119_20 {G : G9} {l : Launch} (h1 : va_D (A9 G) (wl G (fun _ _ => 0))) (h2 : l.stackTraces = false) (d : D9) : MT G l yX11_copyRow cX11_copyRow 2 z_X11_copyRow_119_20 [rf G 119, rf G 20] d (m_X11_copyRow_119_20  d) := by
  refine mt_of (own := RX11) (by decide) rfl (Nat.le_of_ble_eq_true rfl) h1 h2 [(0, rf G 119), (1, rf G 20)] rfl (fun X hX C => ?_)
  unfold m_X11_copyRow_119_20
  refine r_aload_n C 0 dX11_copyRow_0 rfl rfl ?_
  refine r_iconst C dX11_copyRow_1 ?_
  refine r_aload_n C 1 dX11_copyRow_2 rfl rfl ?_
  refine r_iconst C dX11_copyRow_3 ?_
  refine r_aload_n C 0 dX11_copyRow_4 rfl rfl ?_
  refine r_alen C dX11_copyRow_5 la_119 ly_119 ?_
  refine r_aload_n C 1 dX11_copyRow_6 rfl rfl ?_
  refine r_alen C dX11_copyRow_7 la_20 ly_20 ?_
  refine r_mmin C dX11_copyRow_8 mm_X11_465 ⟨Nat.le_of_ble_eq_true rfl, Nat.le_of_ble_eq_true rfl⟩ (by decide) (by decide) ?_
  refine r_acopy C dX11_copyRow_11 aw_X11_470 la_119 ly_119 la_20 ly_20 (by decide) (Nat.le_of_ble_eq_true rfl) (fun d1 => ?_)
  exact r_vret C dX11_copyRow_14 (by decide) (by decide)
theorem n_X11_copyRow_119_20 (d : D9) : NT9 (m_X11_copyRow_119_20  d) := by
  unfold m_X11_copyRow_119_20
  repeat (first | exact nt_rt | exact nt_none | apply nt_if | refine nt_cl ?_ (fun _ _ => ?_) | refine nt_cp9 (fun _ => ?_))
abbrev z_X11_copyRow_120_21 : Z9 := (none, 0, 0, 0, 2, 200)
def m_X11_copyRow_120_21 (d : D9) : Option R9 := cp9 d 120 120 21 120 (min9 120 120) (fun d1 => rt 0 d1)
set_option maxRecDepth 100000 in
theorem t_X11_copyRow_120_21 {G : G9} {l : Launch} (h1 : va_D (A9 G) (wl G (fun _ _ => 0))) (h2 : l.stackTraces = false) (d : D9) : MT G l yX11_copyRow cX11_copyRow 2 z_X11_copyRow_120_21 [rf G 120, rf G 21] d (m_X11_copyRow_120_21  d) := by
  refine mt_of (own := RX11) (by decide) rfl (Nat.le_of_ble_eq_true rfl) h1 h2 [(0, rf G 120), (1, rf G 21)] rfl (fun X hX C => ?_)
  unfold m_X11_copyRow_120_21
  refine r_aload_n C 0 dX11_copyRow_0 rfl rfl ?_
  refine r_iconst C dX11_copyRow_1 ?_
  refine r_aload_n C 1 dX11_copyRow_2 rfl rfl ?_
  refine r_iconst C dX11_copyRow_3 ?_
  refine r_aload_n C 0 dX11_copyRow_4 rfl rfl ?_
  refine r_alen C dX11_copyRow_5 la_120 ly_120 ?_
  refine r_aload_n C 1 dX11_copyRow_6 rfl rfl ?_
  refine r_alen C dX11_copyRow_7 la_21 ly_21 ?_
  refine r_mmin C dX11_copyRow_8 mm_X11_465 ⟨Nat.le_of_ble_eq_true rfl, Nat.le_of_ble_eq_true rfl⟩ (by decide) (by decide) ?_
  refine r_acopy C dX11_copyRow_11 aw_X11_470 la_120 ly_120 la_21 ly_21 (by decide) (Nat.le_of_ble_eq_true rfl) (fun d1 => ?_)
  exact r_vret C dX11_copyRow_14 (by decide) (by decide)
theorem n_X11_copyRow_120_21 (d : D9) : NT9 (m_X11_copyRow_120_21  d) := by
  unfold m_X11_copyRow_120_21
  repeat (first | exact nt_rt | exact nt_none | apply nt_if | refine nt_cl ?_ (fun _ _ => ?_) | refine nt_cp9 (fun _ => ?_))
abbrev z_X6_copyFrom_9_108 : Z9 := (none, 0, 0, 0, 3, 221)
def m_X6_copyFrom_9_108 (d : D9) : Option R9 := pf d 9 0 (d 108 0) (fun d1 => cl (m_X11_copyRow_109_10 d1) (fun r2 d3 => cl (m_X11_copyRow_110_11 d3) (fun r4 d5 => cl (m_X11_copyRow_111_12 d5) (fun r6 d7 => cl (m_X11_copyRow_112_13 d7) (fun r8 d9 => cl (m_X11_copyRow_113_14 d9) (fun r10 d11 => cl (m_X11_copyRow_114_15 d11) (fun r12 d13 => cl (m_X11_copyRow_115_16 d13) (fun r14 d15 => cl (m_X11_copyRow_116_17 d15) (fun r16 d17 => cl (m_X11_copyRow_117_18 d17) (fun r18 d19 => cl (m_X11_copyRow_118_19 d19) (fun r20 d21 => cl (m_X11_copyRow_119_20 d21) (fun r22 d23 => cl (m_X11_copyRow_120_21 d23) (fun r24 d25 => rt 0 d25)))))))))))))
set_option maxRecDepth 100000 in
theorem t_X6_copyFrom_9_108 {G : G9} {l : Launch} (h1 : va_D (A9 G) (wl G (fun _ _ => 0))) (h2 : l.stackTraces = false) (d : D9) : MT G l yX6_copyFrom cX6_copyFrom 2 z_X6_copyFrom_9_108 [rf G 9, rf G 108] d (m_X6_copyFrom_9_108  d) := by
  refine mt_of (own := RX6) (by decide) rfl (Nat.le_of_ble_eq_true rfl) h1 h2 [(0, rf G 9), (1, rf G 108)] rfl (fun X hX C => ?_)
  unfold m_X6_copyFrom_9_108
  refine r_aload_n C 0 dX6_copyFrom_0 rfl rfl ?_
  refine r_aload_n C 1 dX6_copyFrom_1 rfl rfl ?_
  refine r_getI C dX6_copyFrom_2 fl_X6_48 la_108 ly_108 rfl ?_
  refine r_putI C dX6_copyFrom_5 fp_X6_48 la_9 ly_9 rfl (fun d1 => ?_)
  refine r_aload_n C 1 dX6_copyFrom_8 rfl rfl ?_
  refine r_getR C 109 dX6_copyFrom_9 fl_X6_9 la_108 ly_108 rfl rfl ?_
  refine r_aload_n C 0 dX6_copyFrom_12 rfl rfl ?_
  refine r_getR C 10 dX6_copyFrom_13 fl_X6_9 la_9 ly_9 rfl rfl ?_
  refine r_callN C [rf G 10, rf G 109] dX6_copyFrom_16 (t_X11_copyRow_109_10 C.h1 C.h2 d1) (n_X11_copyRow_109_10 d1) mn_X6_52 ms_X11_copyRow (by decide) (by decide) (by decide) rfl rfl (Nat.le_of_ble_eq_true rfl) (fun r2 d3 => ?_)
  show SS G X 2 _ _ 19 [(0, rf G 9), (1, rf G 108)] [] d3 _
  refine r_aload_n C 1 dX6_copyFrom_19 rfl rfl ?_
  refine r_getR C 110 dX6_copyFrom_20 fl_X6_15 la_108 ly_108 rfl rfl ?_
  refine r_aload_n C 0 dX6_copyFrom_23 rfl rfl ?_
  refine r_getR C 11 dX6_copyFrom_24 fl_X6_15 la_9 ly_9 rfl rfl ?_
  refine r_callN C [rf G 11, rf G 110] dX6_copyFrom_27 (t_X11_copyRow_110_11 C.h1 C.h2 d3) (n_X11_copyRow_110_11 d3) mn_X6_52 ms_X11_copyRow (by decide) (by decide) (by decide) rfl rfl (Nat.le_of_ble_eq_true rfl) (fun r4 d5 => ?_)
  show SS G X 2 _ _ 30 [(0, rf G 9), (1, rf G 108)] [] d5 _
  refine r_aload_n C 1 dX6_copyFrom_30 rfl rfl ?_
  refine r_getR C 111 dX6_copyFrom_31 fl_X6_18 la_108 ly_108 rfl rfl ?_
  refine r_aload_n C 0 dX6_copyFrom_34 rfl rfl ?_
  refine r_getR C 12 dX6_copyFrom_35 fl_X6_18 la_9 ly_9 rfl rfl ?_
  refine r_callN C [rf G 12, rf G 111] dX6_copyFrom_38 (t_X11_copyRow_111_12 C.h1 C.h2 d5) (n_X11_copyRow_111_12 d5) mn_X6_52 ms_X11_copyRow (by decide) (by decide) (by decide) rfl rfl (Nat.le_of_ble_eq_true rfl) (fun r6 d7 => ?_)
  show SS G X 2 _ _ 41 [(0, rf G 9), (1, rf G 108)] [] d7 _
  refine r_aload_n C 1 dX6_copyFrom_41 rfl rfl ?_
  refine r_getR C 112 dX6_copyFrom_42 fl_X6_21 la_108 ly_108 rfl rfl ?_
  refine r_aload_n C 0 dX6_copyFrom_45 rfl rfl ?_
  refine r_getR C 13 dX6_copyFrom_46 fl_X6_21 la_9 ly_9 rfl rfl ?_
  refine r_callN C [rf G 13, rf G 112] dX6_copyFrom_49 (t_X11_copyRow_112_13 C.h1 C.h2 d7) (n_X11_copyRow_112_13 d7) mn_X6_52 ms_X11_copyRow (by decide) (by decide) (by decide) rfl rfl (Nat.le_of_ble_eq_true rfl) (fun r8 d9 => ?_)
  show SS G X 2 _ _ 52 [(0, rf G 9), (1, rf G 108)] [] d9 _
  refine r_aload_n C 1 dX6_copyFrom_52 rfl rfl ?_
  refine r_getR C 113 dX6_copyFrom_53 fl_X6_24 la_108 ly_108 rfl rfl ?_
  refine r_aload_n C 0 dX6_copyFrom_56 rfl rfl ?_
  refine r_getR C 14 dX6_copyFrom_57 fl_X6_24 la_9 ly_9 rfl rfl ?_
  refine r_callN C [rf G 14, rf G 113] dX6_copyFrom_60 (t_X11_copyRow_113_14 C.h1 C.h2 d9) (n_X11_copyRow_113_14 d9) mn_X6_52 ms_X11_copyRow (by decide) (by decide) (by decide) rfl rfl (Nat.le_of_ble_eq_true rfl) (fun r10 d11 => ?_)
  show SS G X 2 _ _ 63 [(0, rf G 9), (1, rf G 108)] [] d11 _
  refine r_aload_n C 1 dX6_copyFrom_63 rfl rfl ?_
  refine r_getR C 114 dX6_copyFrom_64 fl_X6_27 la_108 ly_108 rfl rfl ?_
  refine r_aload_n C 0 dX6_copyFrom_67 rfl rfl ?_
  refine r_getR C 15 dX6_copyFrom_68 fl_X6_27 la_9 ly_9 rfl rfl ?_
  refine r_callN C [rf G 15, rf G 114] dX6_copyFrom_71 (t_X11_copyRow_114_15 C.h1 C.h2 d11) (n_X11_copyRow_114_15 d11) mn_X6_52 ms_X11_copyRow (by decide) (by decide) (by decide) rfl rfl (Nat.le_of_ble_eq_true rfl) (fun r12 d13 => ?_)
  show SS G X 2 _ _ 74 [(0, rf G 9), (1, rf G 108)] [] d13 _
  refine r_aload_n C 1 dX6_copyFrom_74 rfl rfl ?_
  refine r_getR C 115 dX6_copyFrom_75 fl_X6_30 la_108 ly_108 rfl rfl ?_
  refine r_aload_n C 0 dX6_copyFrom_78 rfl rfl ?_
  refine r_getR C 16 dX6_copyFrom_79 fl_X6_30 la_9 ly_9 rfl rfl ?_
  refine r_callN C [rf G 16, rf G 115] dX6_copyFrom_82 (t_X11_copyRow_115_16 C.h1 C.h2 d13) (n_X11_copyRow_115_16 d13) mn_X6_52 ms_X11_copyRow (by decide) (by decide) (by decide) rfl rfl (Nat.le_of_ble_eq_true rfl) (fun r14 d15 => ?_)
  show SS G X 2 _ _ 85 [(0, rf G 9), (1, rf G 108)] [] d15 _
  refine r_aload_n C 1 dX6_copyFrom_85 rfl rfl ?_
  refine r_getR C 116 dX6_copyFrom_86 fl_X6_33 la_108 ly_108 rfl rfl ?_
  refine r_aload_n C 0 dX6_copyFrom_89 rfl rfl ?_
  refine r_getR C 17 dX6_copyFrom_90 fl_X6_33 la_9 ly_9 rfl rfl ?_
  refine r_callN C [rf G 17, rf G 116] dX6_copyFrom_93 (t_X11_copyRow_116_17 C.h1 C.h2 d15) (n_X11_copyRow_116_17 d15) mn_X6_52 ms_X11_copyRow (by decide) (by decide) (by decide) rfl rfl (Nat.le_of_ble_eq_true rfl) (fun r16 d17 => ?_)
  show SS G X 2 _ _ 96 [(0, rf G 9), (1, rf G 108)] [] d17 _
  refine r_aload_n C 1 dX6_copyFrom_96 rfl rfl ?_
  refine r_getR C 117 dX6_copyFrom_97 fl_X6_36 la_108 ly_108 rfl rfl ?_
  refine r_aload_n C 0 dX6_copyFrom_100 rfl rfl ?_
  refine r_getR C 18 dX6_copyFrom_101 fl_X6_36 la_9 ly_9 rfl rfl ?_
  refine r_callN C [rf G 18, rf G 117] dX6_copyFrom_104 (t_X11_copyRow_117_18 C.h1 C.h2 d17) (n_X11_copyRow_117_18 d17) mn_X6_52 ms_X11_copyRow (by decide) (by decide) (by decide) rfl rfl (Nat.le_of_ble_eq_true rfl) (fun r18 d19 => ?_)
  show SS G X 2 _ _ 107 [(0, rf G 9), (1, rf G 108)] [] d19 _
  refine r_aload_n C 1 dX6_copyFrom_107 rfl rfl ?_
  refine r_getR C 118 dX6_copyFrom_108 fl_X6_39 la_108 ly_108 rfl rfl ?_
  refine r_aload_n C 0 dX6_copyFrom_111 rfl rfl ?_
  refine r_getR C 19 dX6_copyFrom_112 fl_X6_39 la_9 ly_9 rfl rfl ?_
  refine r_callN C [rf G 19, rf G 118] dX6_copyFrom_115 (t_X11_copyRow_118_19 C.h1 C.h2 d19) (n_X11_copyRow_118_19 d19) mn_X6_52 ms_X11_copyRow (by decide) (by decide) (by decide) rfl rfl (Nat.le_of_ble_eq_true rfl) (fun r20 d21 => ?_)
  show SS G X 2 _ _ 118 [(0, rf G 9), (1, rf G 108)] [] d21 _
  refine r_aload_n C 1 dX6_copyFrom_118 rfl rfl ?_
  refine r_getR C 119 dX6_copyFrom_119 fl_X6_42 la_108 ly_108 rfl rfl ?_
  refine r_aload_n C 0 dX6_copyFrom_122 rfl rfl ?_
  refine r_getR C 20 dX6_copyFrom_123 fl_X6_42 la_9 ly_9 rfl rfl ?_
  refine r_callN C [rf G 20, rf G 119] dX6_copyFrom_126 (t_X11_copyRow_119_20 C.h1 C.h2 d21) (n_X11_copyRow_119_20 d21) mn_X6_52 ms_X11_copyRow (by decide) (by decide) (by decide) rfl rfl (Nat.le_of_ble_eq_true rfl) (fun r22 d23 => ?_)
  show SS G X 2 _ _ 129 [(0, rf G 9), (1, rf G 108)] [] d23 _
  refine r_aload_n C 1 dX6_copyFrom_129 rfl rfl ?_
  refine r_getR C 120 dX6_copyFrom_130 fl_X6_45 la_108 ly_108 rfl rfl ?_
  refine r_aload_n C 0 dX6_copyFrom_133 rfl rfl ?_
  refine r_getR C 21 dX6_copyFrom_134 fl_X6_45 la_9 ly_9 rfl rfl ?_
  refine r_callN C [rf G 21, rf G 120] dX6_copyFrom_137 (t_X11_copyRow_120_21 C.h1 C.h2 d23) (n_X11_copyRow_120_21 d23) mn_X6_52 ms_X11_copyRow (by decide) (by decide) (by decide) rfl rfl (Nat.le_of_ble_eq_true rfl) (fun r24 d25 => ?_)
  show SS G X 2 _ _ 140 [(0, rf G 9), (1, rf G 108)] [] d25 _
  exact r_vret C dX6_copyFrom_140 (by decide) (by decide)
abbrev z_X2_copyFrom_22_121 : Z9 := (none, 0, 0, 0, 1, 0)
def m_X2_copyFrom_22_121 (d : D9) : Option R9 := pf d 22 0 (d 121 0) (fun d1 => pf d1 22 1 (d1 121 1) (fun d2 => pf d2 22 2 (d2 121 2) (fun d3 => pf d3 22 3 (d3 121 3) (fun d4 => pf d4 22 4 (d4 121 4) (fun d5 => pf d5 22 5 (d5 121 5) (fun d6 => pf d6 22 6 (d6 121 6) (fun d7 => pf d7 22 7 (d7 121 7) (fun d8 => rt 0 d8))))))))
set_option maxRecDepth 100000 in
theorem t_X2_copyFrom_22_121 {G : G9} {l : Launch} (h1 : va_D (A9 G) (wl G (fun _ _ => 0))) (h2 : l.stackTraces = false) (d : D9) : MT G l yX2_copyFrom cX2_copyFrom 2 z_X2_copyFrom_22_121 [rf G 22, rf G 121] d (m_X2_copyFrom_22_121  d) := by
  refine mt_of (own := RX2) (by decide) rfl (Nat.le_of_ble_eq_true rfl) h1 h2 [(0, rf G 22), (1, rf G 121)] rfl (fun X hX C => ?_)
  unfold m_X2_copyFrom_22_121
  refine r_aload_n C 0 dX2_copyFrom_0 rfl rfl ?_
  refine r_aload_n C 1 dX2_copyFrom_1 rfl rfl ?_
  refine r_getI C dX2_copyFrom_2 fl_X2_14 la_121 ly_121 rfl ?_
  refine r_putI C dX2_copyFrom_5 fp_X2_14 la_22 ly_22 rfl (fun d1 => ?_)
  refine r_aload_n C 0 dX2_copyFrom_8 rfl rfl ?_
  refine r_aload_n C 1 dX2_copyFrom_9 rfl rfl ?_
  refine r_getI C dX2_copyFrom_10 fl_X2_18 la_121 ly_121 rfl ?_
  refine r_putI C dX2_copyFrom_13 fp_X2_18 la_22 ly_22 rfl (fun d2 => ?_)
  refine r_aload_n C 0 dX2_copyFrom_16 rfl rfl ?_
  refine r_aload_n C 1 dX2_copyFrom_17 rfl rfl ?_
  refine r_getI C dX2_copyFrom_18 fl_X2_21 la_121 ly_121 rfl ?_
  refine r_putI C dX2_copyFrom_21 fp_X2_21 la_22 ly_22 rfl (fun d3 => ?_)
  refine r_aload_n C 0 dX2_copyFrom_24 rfl rfl ?_
  refine r_aload_n C 1 dX2_copyFrom_25 rfl rfl ?_
  refine r_getI C dX2_copyFrom_26 fl_X2_24 la_121 ly_121 rfl ?_
  refine r_putI C dX2_copyFrom_29 fp_X2_24 la_22 ly_22 rfl (fun d4 => ?_)
  refine r_aload_n C 0 dX2_copyFrom_32 rfl rfl ?_
  refine r_aload_n C 1 dX2_copyFrom_33 rfl rfl ?_
  refine r_getI C dX2_copyFrom_34 fl_X2_27 la_121 ly_121 rfl ?_
  refine r_putI C dX2_copyFrom_37 fp_X2_27 la_22 ly_22 rfl (fun d5 => ?_)
  refine r_aload_n C 0 dX2_copyFrom_40 rfl rfl ?_
  refine r_aload_n C 1 dX2_copyFrom_41 rfl rfl ?_
  refine r_getI C dX2_copyFrom_42 fl_X2_30 la_121 ly_121 rfl ?_
  refine r_putI C dX2_copyFrom_45 fp_X2_30 la_22 ly_22 rfl (fun d6 => ?_)
  refine r_aload_n C 0 dX2_copyFrom_48 rfl rfl ?_
  refine r_aload_n C 1 dX2_copyFrom_49 rfl rfl ?_
  refine r_getI C dX2_copyFrom_50 fl_X2_33 la_121 ly_121 rfl ?_
  refine r_putI C dX2_copyFrom_53 fp_X2_33 la_22 ly_22 rfl (fun d7 => ?_)
  refine r_aload_n C 0 dX2_copyFrom_56 rfl rfl ?_
  refine r_aload_n C 1 dX2_copyFrom_57 rfl rfl ?_
  refine r_getI C dX2_copyFrom_58 fl_X2_36 la_121 ly_121 rfl ?_
  refine r_putI C dX2_copyFrom_61 fp_X2_36 la_22 ly_22 rfl (fun d8 => ?_)
  exact r_vret C dX2_copyFrom_64 (by decide) (by decide)
abbrev z_X11_copyRow_123_24 : Z9 := (none, 0, 0, 0, 2, 200)
def m_X11_copyRow_123_24 (d : D9) : Option R9 := cp9 d 123 12 24 12 (min9 12 12) (fun d1 => rt 0 d1)
set_option maxRecDepth 100000 in
theorem t_X11_copyRow_123_24 {G : G9} {l : Launch} (h1 : va_D (A9 G) (wl G (fun _ _ => 0))) (h2 : l.stackTraces = false) (d : D9) : MT G l yX11_copyRow cX11_copyRow 2 z_X11_copyRow_123_24 [rf G 123, rf G 24] d (m_X11_copyRow_123_24  d) := by
  refine mt_of (own := RX11) (by decide) rfl (Nat.le_of_ble_eq_true rfl) h1 h2 [(0, rf G 123), (1, rf G 24)] rfl (fun X hX C => ?_)
  unfold m_X11_copyRow_123_24
  refine r_aload_n C 0 dX11_copyRow_0 rfl rfl ?_
  refine r_iconst C dX11_copyRow_1 ?_
  refine r_aload_n C 1 dX11_copyRow_2 rfl rfl ?_
  refine r_iconst C dX11_copyRow_3 ?_
  refine r_aload_n C 0 dX11_copyRow_4 rfl rfl ?_
  refine r_alen C dX11_copyRow_5 la_123 ly_123 ?_
  refine r_aload_n C 1 dX11_copyRow_6 rfl rfl ?_
  refine r_alen C dX11_copyRow_7 la_24 ly_24 ?_
  refine r_mmin C dX11_copyRow_8 mm_X11_465 ⟨Nat.le_of_ble_eq_true rfl, Nat.le_of_ble_eq_true rfl⟩ (by decide) (by decide) ?_
  refine r_acopy C dX11_copyRow_11 aw_X11_470 la_123 ly_123 la_24 ly_24 (by decide) (Nat.le_of_ble_eq_true rfl) (fun d1 => ?_)
  exact r_vret C dX11_copyRow_14 (by decide) (by decide)
theorem n_X11_copyRow_123_24 (d : D9) : NT9 (m_X11_copyRow_123_24  d) := by
  unfold m_X11_copyRow_123_24
  repeat (first | exact nt_rt | exact nt_none | apply nt_if | refine nt_cl ?_ (fun _ _ => ?_) | refine nt_cp9 (fun _ => ?_))

abbrev z_X11_copyRow_29_91 : Z9 := (none, 0, 0, 0, 2, 200)
def m_X11_copyRow_29_91 (d : D9) : Option R9 := cp9 d 29 12 91 12 (min9 12 12) (fun d1 => rt 0 d1)
set_option maxRecDepth 100000 in
theorem t_X11_copyRow_29_91 {G : G9} {l : Launch} (h1 : va_D (A9 G) (wl G (fun _ _ => 0))) (h2 : l.stackTraces = false) (d : D9) : MT G l yX11_copyRow cX11_copyRow 2 z_X11_copyRow_29_91 [rf G 29, rf G 91] d (m_X11_copyRow_29_91  d) := by
  refine mt_of (own := RX11) (by decide) rfl (Nat.le_of_ble_eq_true rfl) h1 h2 [(0, rf G 29), (1, rf G 91)] rfl (fun X hX C => ?_)
  unfold m_X11_copyRow_29_91
  refine r_aload_n C 0 dX11_copyRow_0 rfl rfl ?_
  refine r_iconst C dX11_copyRow_1 ?_
  refine r_aload_n C 1 dX11_copyRow_2 rfl rfl ?_
  refine r_iconst C dX11_copyRow_3 ?_
  refine r_aload_n C 0 dX11_copyRow_4 rfl rfl ?_
  refine r_alen C dX11_copyRow_5 la_29 ly_29 ?_
  refine r_aload_n C 1 dX11_copyRow_6 rfl rfl ?_
  refine r_alen C dX11_copyRow_7 la_91 ly_91 ?_
  refine r_mmin C dX11_copyRow_8 mm_X11_465 ⟨Nat.le_of_ble_eq_true rfl, Nat.le_of_ble_eq_true rfl⟩ (by decide) (by decide) ?_
  refine r_acopy C dX11_copyRow_11 aw_X11_470 la_29 ly_29 la_91 ly_91 (by decide) (Nat.le_of_ble_eq_true rfl) (fun d1 => ?_)
  exact r_vret C dX11_copyRow_14 (by decide) (by decide)
theorem n_X11_copyRow_29_91 (d : D9) : NT9 (m_X11_copyRow_29_91  d) := by
  unfold m_X11_copyRow_29_91
  repeat (first | exact nt_rt | exact nt_none | apply nt_if | refine nt_cl ?_ (fun _ _ => ?_) | refine nt_cp9 (fun _ => ?_))
abbrev z_X11_copyRow_30_92 : Z9 := (none, 0, 0, 0, 2, 200)
def m_X11_copyRow_30_92 (d : D9) : Option R9 := cp9 d 30 12 92 12 (min9 12 12) (fun d1 => rt 0 d1)
set_option maxRecDepth 100000 in
theorem t_X11_copyRow_30_92 {G : G9} {l : Launch} (h1 : va_D (A9 G) (wl G (fun _ _ => 0))) (h2 : l.stackTraces = false) (d : D9) : MT G l yX11_copyRow cX11_copyRow 2 z_X11_copyRow_30_92 [rf G 30, rf G 92] d (m_X11_copyRow_30_92  d) := by
  refine mt_of (own := RX11) (by decide) rfl (Nat.le_of_ble_eq_true rfl) h1 h2 [(0, rf G 30), (1, rf G 92)] rfl (fun X hX C => ?_)
  unfold m_X11_copyRow_30_92
  refine r_aload_n C 0 dX11_copyRow_0 rfl rfl ?_
  refine r_iconst C dX11_copyRow_1 ?_
  refine r_aload_n C 1 dX11_copyRow_2 rfl rfl ?_
  refine r_iconst C dX11_copyRow_3 ?_
  refine r_aload_n C 0 dX11_copyRow_4 rfl rfl ?_
  refine r_alen C dX11_copyRow_5 la_30 ly_30 ?_
  refine r_aload_n C 1 dX11_copyRow_6 rfl rfl ?_
  refine r_alen C dX11_copyRow_7 la_92 ly_92 ?_
  refine r_mmin C dX11_copyRow_8 mm_X11_465 ⟨Nat.le_of_ble_eq_true rfl, Nat.le_of_ble_eq_true rfl⟩ (by decide) (by decide) ?_
  refine r_acopy C dX11_copyRow_11 aw_X11_470 la_30 ly_30 la_92 ly_92 (by decide) (Nat.le_of_ble_eq_true rfl) (fun d1 => ?_)
  exact r_vret C dX11_copyRow_14 (by decide) (by decide)
theorem n_X11_copyRow_30_92 (d : D9) : NT9 (m_X11_copyRow_30_92  d) := by
  unfold m_X11_copyRow_30_92
  repeat (first | exact nt_rt | exact nt_none | apply nt_if | refine nt_cl ?_ (fun _ _ => ?_) | refine nt_cp9 (fun _ => ?_))
abbrev z_X11_copyRow_31_93 : Z9 := (none, 0, 0, 0, 2, 200)
def m_X11_copyRow_31_93 (d : D9) : Option R9 := cp9 d 31 12 93 12 (min9 12 12) (fun d1 => rt 0 d1)
set_option maxRecDepth 100000 in
theorem t_X11_copyRow_31_93 {G : G9} {l : Launch} (h1 : va_D (A9 G) (wl G (fun _ _ => 0))) (h2 : l.stackTraces = false) (d : D9) : MT G l yX11_copyRow cX11_copyRow 2 z_X11_copyRow_31_93 [rf G 31, rf G 93] d (m_X11_copyRow_31_93  d) := by
  refine mt_of (own := RX11) (by decide) rfl (Nat.le_of_ble_eq_true rfl) h1 h2 [(0, rf G 31), (1, rf G 93)] rfl (fun X hX C => ?_)
  unfold m_X11_copyRow_31_93
  refine r_aload_n C 0 dX11_copyRow_0 rfl rfl ?_
  refine r_iconst C dX11_copyRow_1 ?_
  refine r_aload_n C 1 dX11_copyRow_2 rfl rfl ?_
  refine r_iconst C dX11_copyRow_3 ?_
  refine r_aload_n C 0 dX11_copyRow_4 rfl rfl ?_
  refine r_alen C dX11_copyRow_5 la_31 ly_31 ?_
  refine r_aload_n C 1 dX11_copyRow_6 rfl rfl ?_
  refine r_alen C dX11_copyRow_7 la_93 ly_93 ?_
  refine r_mmin C dX11_copyRow_8 mm_X11_465 ⟨Nat.le_of_ble_eq_true rfl, Nat.le_of_ble_eq_true rfl⟩ (by decide) (by decide) ?_
  refine r_acopy C dX11_copyRow_11 aw_X11_470 la_31 ly_31 la_93 ly_93 (by decide) (Nat.le_of_ble_eq_true rfl) (fun d1 => ?_)
  exact r_vret C dX11_copyRow_14 (by decide) (by decide)
theorem n_X11_copyRow_31_93 (d : D9) : NT9 (m_X11_copyRow_31_93  d) := by
  unfold m_X11_copyRow_31_93
  repeat (first | exact nt_rt | exact nt_none | apply nt_if | refine nt_cl ?_ (fun _ _ => ?_) | refine nt_cp9 (fun _ => ?_))
abbrev z_X11_copyRow_32_94 : Z9 := (none, 0, 0, 0, 2, 200)
def m_X11_copyRow_32_94 (d : D9) : Option R9 := cp9 d 32 400 94 400 (min9 400 400) (fun d1 => rt 0 d1)
set_option maxRecDepth 100000 in
theorem t_X11_copyRow_32_94 {G : G9} {l : Launch} (h1 : va_D (A9 G) (wl G (fun _ _ => 0))) (h2 : l.stackTraces = false) (d : D9) : MT G l yX11_copyRow cX11_copyRow 2 z_X11_copyRow_32_94 [rf G 32, rf G 94] d (m_X11_copyRow_32_94  d) := by
  refine mt_of (own := RX11) (by decide) rfl (Nat.le_of_ble_eq_true rfl) h1 h2 [(0, rf G 32), (1, rf G 94)] rfl (fun X hX C => ?_)
  unfold m_X11_copyRow_32_94
  refine r_aload_n C 0 dX11_copyRow_0 rfl rfl ?_
  refine r_iconst C dX11_copyRow_1 ?_
  refine r_aload_n C 1 dX11_copyRow_2 rfl rfl ?_
  refine r_iconst C dX11_copyRow_3 ?_
  refine r_aload_n C 0 dX11_copyRow_4 rfl rfl ?_
  refine r_alen C dX11_copyRow_5 la_32 ly_32 ?_
  refine r_aload_n C 1 dX11_copyRow_6 rfl rfl ?_
  refine r_alen C dX11_copyRow_7 la_94 ly_94 ?_
  refine r_mmin C dX11_copyRow_8 mm_X11_465 ⟨Nat.le_of_ble_eq_true rfl, Nat.le_of_ble_eq_true rfl⟩ (by decide) (by decide) ?_
  refine r_acopy C dX11_copyRow_11 aw_X11_470 la_32 ly_32 la_94 ly_94 (by decide) (Nat.le_of_ble_eq_true rfl) (fun d1 => ?_)
  exact r_vret C dX11_copyRow_14 (by decide) (by decide)
theorem n_X11_copyRow_32_94 (d : D9) : NT9 (m_X11_copyRow_32_94  d) := by
  unfold m_X11_copyRow_32_94
  repeat (first | exact nt_rt | exact nt_none | apply nt_if | refine nt_cl ?_ (fun _ _ => ?_) | refine nt_cp9 (fun _ => ?_))
theorem dX4_copyFrom_0 : decode cX4_copyFrom 0 = .ok (.aload_n 0, 1) := by decide +kernel
theorem dX4_copyFrom_1 : decode cX4_copyFrom 1 = .ok (.aload_n 1, 1) := by decide +kernel
theorem dX4_copyFrom_2 : decode cX4_copyFrom 2 = .ok (.getfield 24, 3) := by decide +kernel
theorem dX4_copyFrom_5 : decode cX4_copyFrom 5 = .ok (.putfield 24, 3) := by decide +kernel
theorem dX4_copyFrom_8 : decode cX4_copyFrom 8 = .ok (.aload_n 0, 1) := by decide +kernel
theorem dX4_copyFrom_9 : decode cX4_copyFrom 9 = .ok (.aload_n 1, 1) := by decide +kernel
theorem dX4_copyFrom_10 : decode cX4_copyFrom 10 = .ok (.getfield 28, 3) := by decide +kernel
theorem dX4_copyFrom_13 : decode cX4_copyFrom 13 = .ok (.putfield 28, 3) := by decide +kernel
theorem dX4_copyFrom_16 : decode cX4_copyFrom 16 = .ok (.aload_n 1, 1) := by decide +kernel
theorem dX4_copyFrom_17 : decode cX4_copyFrom 17 = .ok (.getfield 9, 3) := by decide +kernel
theorem dX4_copyFrom_20 : decode cX4_copyFrom 20 = .ok (.aload_n 0, 1) := by decide +kernel
theorem dX4_copyFrom_21 : decode cX4_copyFrom 21 = .ok (.getfield 9, 3) := by decide +kernel
theorem dX4_copyFrom_24 : decode cX4_copyFrom 24 = .ok (.invokestatic 31, 3) := by decide +kernel
theorem dX4_copyFrom_27 : decode cX4_copyFrom 27 = .ok (.aload_n 1, 1) := by decide +kernel
theorem dX4_copyFrom_28 : decode cX4_copyFrom 28 = .ok (.getfield 15, 3) := by decide +kernel
theorem dX4_copyFrom_31 : decode cX4_copyFrom 31 = .ok (.aload_n 0, 1) := by decide +kernel
theorem dX4_copyFrom_32 : decode cX4_copyFrom 32 = .ok (.getfield 15, 3) := by decide +kernel
theorem dX4_copyFrom_35 : decode cX4_copyFrom 35 = .ok (.invokestatic 31, 3) := by decide +kernel
theorem dX4_copyFrom_38 : decode cX4_copyFrom 38 = .ok (.aload_n 1, 1) := by decide +kernel
theorem dX4_copyFrom_39 : decode cX4_copyFrom 39 = .ok (.getfield 18, 3) := by decide +kernel
theorem dX4_copyFrom_42 : decode cX4_copyFrom 42 = .ok (.aload_n 0, 1) := by decide +kernel
theorem dX4_copyFrom_43 : decode cX4_copyFrom 43 = .ok (.getfield 18, 3) := by decide +kernel
theorem dX4_copyFrom_46 : decode cX4_copyFrom 46 = .ok (.invokestatic 31, 3) := by decide +kernel
theorem dX4_copyFrom_49 : decode cX4_copyFrom 49 = .ok (.aload_n 1, 1) := by decide +kernel
theorem dX4_copyFrom_50 : decode cX4_copyFrom 50 = .ok (.getfield 21, 3) := by decide +kernel
theorem dX4_copyFrom_53 : decode cX4_copyFrom 53 = .ok (.aload_n 0, 1) := by decide +kernel
theorem dX4_copyFrom_54 : decode cX4_copyFrom 54 = .ok (.getfield 21, 3) := by decide +kernel
theorem dX4_copyFrom_57 : decode cX4_copyFrom 57 = .ok (.invokestatic 31, 3) := by decide +kernel
theorem dX4_copyFrom_60 : decode cX4_copyFrom 60 = .ok (.return_, 1) := by decide +kernel
abbrev z_X4_copyFrom_90_28 : Z9 := (none, 0, 0, 0, 3, 221)
def m_X4_copyFrom_90_28 (d : D9) : Option R9 := pf d 90 0 (d 28 0) (fun d1 => pf d1 90 1 (d1 28 1) (fun d2 => cl (m_X11_copyRow_29_91 d2) (fun r3 d4 => cl (m_X11_copyRow_30_92 d4) (fun r5 d6 => cl (m_X11_copyRow_31_93 d6) (fun r7 d8 => cl (m_X11_copyRow_32_94 d8) (fun r9 d10 => rt 0 d10))))))
set_option maxRecDepth 100000 in
theorem t_X4_copyFrom_90_28 {G : G9} {l : Launch} (h1 : va_D (A9 G) (wl G (fun _ _ => 0))) (h2 : l.stackTraces = false) (d : D9) : MT G l yX4_copyFrom cX4_copyFrom 2 z_X4_copyFrom_90_28 [rf G 90, rf G 28] d (m_X4_copyFrom_90_28  d) := by
  refine mt_of (own := RX4) (by decide) rfl (Nat.le_of_ble_eq_true rfl) h1 h2 [(0, rf G 90), (1, rf G 28)] rfl (fun X hX C => ?_)
  unfold m_X4_copyFrom_90_28
  refine r_aload_n C 0 dX4_copyFrom_0 rfl rfl ?_
  refine r_aload_n C 1 dX4_copyFrom_1 rfl rfl ?_
  refine r_getI C dX4_copyFrom_2 fl_X4_24 la_28 ly_28 rfl ?_
  refine r_putI C dX4_copyFrom_5 fp_X4_24 la_90 ly_90 rfl (fun d1 => ?_)
  refine r_aload_n C 0 dX4_copyFrom_8 rfl rfl ?_
  refine r_aload_n C 1 dX4_copyFrom_9 rfl rfl ?_
  refine r_getI C dX4_copyFrom_10 fl_X4_28 la_28 ly_28 rfl ?_
  refine r_putI C dX4_copyFrom_13 fp_X4_28 la_90 ly_90 rfl (fun d2 => ?_)
  refine r_aload_n C 1 dX4_copyFrom_16 rfl rfl ?_
  refine r_getR C 29 dX4_copyFrom_17 fl_X4_9 la_28 ly_28 rfl rfl ?_
  refine r_aload_n C 0 dX4_copyFrom_20 rfl rfl ?_
  refine r_getR C 91 dX4_copyFrom_21 fl_X4_9 la_90 ly_90 rfl rfl ?_
  refine r_callN C [rf G 91, rf G 29] dX4_copyFrom_24 (t_X11_copyRow_29_91 C.h1 C.h2 d2) (n_X11_copyRow_29_91 d2) mn_X4_31 ms_X11_copyRow (by decide) (by decide) (by decide) rfl rfl (Nat.le_of_ble_eq_true rfl) (fun r3 d4 => ?_)
  show SS G X 2 _ _ 27 [(0, rf G 90), (1, rf G 28)] [] d4 _
  refine r_aload_n C 1 dX4_copyFrom_27 rfl rfl ?_
  refine r_getR C 30 dX4_copyFrom_28 fl_X4_15 la_28 ly_28 rfl rfl ?_
  refine r_aload_n C 0 dX4_copyFrom_31 rfl rfl ?_
  refine r_getR C 92 dX4_copyFrom_32 fl_X4_15 la_90 ly_90 rfl rfl ?_
  refine r_callN C [rf G 92, rf G 30] dX4_copyFrom_35 (t_X11_copyRow_30_92 C.h1 C.h2 d4) (n_X11_copyRow_30_92 d4) mn_X4_31 ms_X11_copyRow (by decide) (by decide) (by decide) rfl rfl (Nat.le_of_ble_eq_true rfl) (fun r5 d6 => ?_)
  show SS G X 2 _ _ 38 [(0, rf G 90), (1, rf G 28)] [] d6 _
  refine r_aload_n C 1 dX4_copyFrom_38 rfl rfl ?_
  refine r_getR C 31 dX4_copyFrom_39 fl_X4_18 la_28 ly_28 rfl rfl ?_
  refine r_aload_n C 0 dX4_copyFrom_42 rfl rfl ?_
  refine r_getR C 93 dX4_copyFrom_43 fl_X4_18 la_90 ly_90 rfl rfl ?_
  refine r_callN C [rf G 93, rf G 31] dX4_copyFrom_46 (t_X11_copyRow_31_93 C.h1 C.h2 d6) (n_X11_copyRow_31_93 d6) mn_X4_31 ms_X11_copyRow (by decide) (by decide) (by decide) rfl rfl (Nat.le_of_ble_eq_true rfl) (fun r7 d8 => ?_)
  show SS G X 2 _ _ 49 [(0, rf G 90), (1, rf G 28)] [] d8 _
  refine r_aload_n C 1 dX4_copyFrom_49 rfl rfl ?_
  refine r_getR C 32 dX4_copyFrom_50 fl_X4_21 la_28 ly_28 rfl rfl ?_
  refine r_aload_n C 0 dX4_copyFrom_53 rfl rfl ?_
  refine r_getR C 94 dX4_copyFrom_54 fl_X4_21 la_90 ly_90 rfl rfl ?_
  refine r_callN C [rf G 94, rf G 32] dX4_copyFrom_57 (t_X11_copyRow_32_94 C.h1 C.h2 d8) (n_X11_copyRow_32_94 d8) mn_X4_31 ms_X11_copyRow (by decide) (by decide) (by decide) rfl rfl (Nat.le_of_ble_eq_true rfl) (fun r9 d10 => ?_)
  show SS G X 2 _ _ 60 [(0, rf G 90), (1, rf G 28)] [] d10 _
  exact r_vret C dX4_copyFrom_60 (by decide) (by decide)
abbrev z_X11_copyRow_34_96 : Z9 := (none, 0, 0, 0, 2, 200)
def m_X11_copyRow_34_96 (d : D9) : Option R9 := cp9 d 34 40 96 40 (min9 40 40) (fun d1 => rt 0 d1)
set_option maxRecDepth 100000 in
theorem t_X11_copyRow_34_96 {G : G9} {l : Launch} (h1 : va_D (A9 G) (wl G (fun _ _ => 0))) (h2 : l.stackTraces = false) (d : D9) : MT G l yX11_copyRow cX11_copyRow 2 z_X11_copyRow_34_96 [rf G 34, rf G 96] d (m_X11_copyRow_34_96  d) := by
  refine mt_of (own := RX11) (by decide) rfl (Nat.le_of_ble_eq_true rfl) h1 h2 [(0, rf G 34), (1, rf G 96)] rfl (fun X hX C => ?_)
  unfold m_X11_copyRow_34_96
  refine r_aload_n C 0 dX11_copyRow_0 rfl rfl ?_
  refine r_iconst C dX11_copyRow_1 ?_
  refine r_aload_n C 1 dX11_copyRow_2 rfl rfl ?_
  refine r_iconst C dX11_copyRow_3 ?_
  refine r_aload_n C 0 dX11_copyRow_4 rfl rfl ?_
  refine r_alen C dX11_copyRow_5 la_34 ly_34 ?_
  refine r_aload_n C 1 dX11_copyRow_6 rfl rfl ?_
  refine r_alen C dX11_copyRow_7 la_96 ly_96 ?_
  refine r_mmin C dX11_copyRow_8 mm_X11_465 ⟨Nat.le_of_ble_eq_true rfl, Nat.le_of_ble_eq_true rfl⟩ (by decide) (by decide) ?_
  refine r_acopy C dX11_copyRow_11 aw_X11_470 la_34 ly_34 la_96 ly_96 (by decide) (Nat.le_of_ble_eq_true rfl) (fun d1 => ?_)
  exact r_vret C dX11_copyRow_14 (by decide) (by decide)
theorem n_X11_copyRow_34_96 (d : D9) : NT9 (m_X11_copyRow_34_96  d) := by
  unfold m_X11_copyRow_34_96
  repeat (first | exact nt_rt | exact nt_none | apply nt_if | refine nt_cl ?_ (fun _ _ => ?_) | refine nt_cp9 (fun _ => ?_))
abbrev z_X11_copyRow_35_97 : Z9 := (none, 0, 0, 0, 2, 200)
def m_X11_copyRow_35_97 (d : D9) : Option R9 := cp9 d 35 200 97 200 (min9 200 200) (fun d1 => rt 0 d1)
set_option maxRecDepth 100000 in
theorem t_X11_copyRow_35_97 {G : G9} {l : Launch} (h1 : va_D (A9 G) (wl G (fun _ _ => 0))) (h2 : l.stackTraces = false) (d : D9) : MT G l yX11_copyRow cX11_copyRow 2 z_X11_copyRow_35_97 [rf G 35, rf G 97] d (m_X11_copyRow_35_97  d) := by
  refine mt_of (own := RX11) (by decide) rfl (Nat.le_of_ble_eq_true rfl) h1 h2 [(0, rf G 35), (1, rf G 97)] rfl (fun X hX C => ?_)
  unfold m_X11_copyRow_35_97
  refine r_aload_n C 0 dX11_copyRow_0 rfl rfl ?_
  refine r_iconst C dX11_copyRow_1 ?_
  refine r_aload_n C 1 dX11_copyRow_2 rfl rfl ?_
  refine r_iconst C dX11_copyRow_3 ?_
  refine r_aload_n C 0 dX11_copyRow_4 rfl rfl ?_
  refine r_alen C dX11_copyRow_5 la_35 ly_35 ?_
  refine r_aload_n C 1 dX11_copyRow_6 rfl rfl ?_
  refine r_alen C dX11_copyRow_7 la_97 ly_97 ?_
  refine r_mmin C dX11_copyRow_8 mm_X11_465 ⟨Nat.le_of_ble_eq_true rfl, Nat.le_of_ble_eq_true rfl⟩ (by decide) (by decide) ?_
  refine r_acopy C dX11_copyRow_11 aw_X11_470 la_35 ly_35 la_97 ly_97 (by decide) (Nat.le_of_ble_eq_true rfl) (fun d1 => ?_)
  exact r_vret C dX11_copyRow_14 (by decide) (by decide)
theorem n_X11_copyRow_35_97 (d : D9) : NT9 (m_X11_copyRow_35_97  d) := by
  unfold m_X11_copyRow_35_97
  repeat (first | exact nt_rt | exact nt_none | apply nt_if | refine nt_cl ?_ (fun _ _ => ?_) | refine nt_cp9 (fun _ => ?_))
abbrev z_X11_copyRow_36_98 : Z9 := (none, 0, 0, 0, 2, 200)
def m_X11_copyRow_36_98 (d : D9) : Option R9 := cp9 d 36 5 98 5 (min9 5 5) (fun d1 => rt 0 d1)
set_option maxRecDepth 100000 in
theorem t_X11_copyRow_36_98 {G : G9} {l : Launch} (h1 : va_D (A9 G) (wl G (fun _ _ => 0))) (h2 : l.stackTraces = false) (d : D9) : MT G l yX11_copyRow cX11_copyRow 2 z_X11_copyRow_36_98 [rf G 36, rf G 98] d (m_X11_copyRow_36_98  d) := by
  refine mt_of (own := RX11) (by decide) rfl (Nat.le_of_ble_eq_true rfl) h1 h2 [(0, rf G 36), (1, rf G 98)] rfl (fun X hX C => ?_)
  unfold m_X11_copyRow_36_98
  refine r_aload_n C 0 dX11_copyRow_0 rfl rfl ?_
  refine r_iconst C dX11_copyRow_1 ?_
  refine r_aload_n C 1 dX11_copyRow_2 rfl rfl ?_
  refine r_iconst C dX11_copyRow_3 ?_
  refine r_aload_n C 0 dX11_copyRow_4 rfl rfl ?_
  refine r_alen C dX11_copyRow_5 la_36 ly_36 ?_
  refine r_aload_n C 1 dX11_copyRow_6 rfl rfl ?_
  refine r_alen C dX11_copyRow_7 la_98 ly_98 ?_
  refine r_mmin C dX11_copyRow_8 mm_X11_465 ⟨Nat.le_of_ble_eq_true rfl, Nat.le_of_ble_eq_true rfl⟩ (by decide) (by decide) ?_
  refine r_acopy C dX11_copyRow_11 aw_X11_470 la_36 ly_36 la_98 ly_98 (by decide) (Nat.le_of_ble_eq_true rfl) (fun d1 => ?_)
  exact r_vret C dX11_copyRow_14 (by decide) (by decide)
theorem n_X11_copyRow_36_98 (d : D9) : NT9 (m_X11_copyRow_36_98  d) := by
  unfold m_X11_copyRow_36_98
  repeat (first | exact nt_rt | exact nt_none | apply nt_if | refine nt_cl ?_ (fun _ _ => ?_) | refine nt_cp9 (fun _ => ?_))
abbrev z_X11_copyRow_37_99 : Z9 := (none, 0, 0, 0, 2, 200)
def m_X11_copyRow_37_99 (d : D9) : Option R9 := cp9 d 37 5 99 5 (min9 5 5) (fun d1 => rt 0 d1)
set_option maxRecDepth 100000 in
theorem t_X11_copyRow_37_99 {G : G9} {l : Launch} (h1 : va_D (A9 G) (wl G (fun _ _ => 0))) (h2 : l.stackTraces = false) (d : D9) : MT G l yX11_copyRow cX11_copyRow 2 z_X11_copyRow_37_99 [rf G 37, rf G 99] d (m_X11_copyRow_37_99  d) := by
  refine mt_of (own := RX11) (by decide) rfl (Nat.le_of_ble_eq_true rfl) h1 h2 [(0, rf G 37), (1, rf G 99)] rfl (fun X hX C => ?_)
  unfold m_X11_copyRow_37_99
  refine r_aload_n C 0 dX11_copyRow_0 rfl rfl ?_
  refine r_iconst C dX11_copyRow_1 ?_
  refine r_aload_n C 1 dX11_copyRow_2 rfl rfl ?_
  refine r_iconst C dX11_copyRow_3 ?_
  refine r_aload_n C 0 dX11_copyRow_4 rfl rfl ?_
  refine r_alen C dX11_copyRow_5 la_37 ly_37 ?_
  refine r_aload_n C 1 dX11_copyRow_6 rfl rfl ?_
  refine r_alen C dX11_copyRow_7 la_99 ly_99 ?_
  refine r_mmin C dX11_copyRow_8 mm_X11_465 ⟨Nat.le_of_ble_eq_true rfl, Nat.le_of_ble_eq_true rfl⟩ (by decide) (by decide) ?_
  refine r_acopy C dX11_copyRow_11 aw_X11_470 la_37 ly_37 la_99 ly_99 (by decide) (Nat.le_of_ble_eq_true rfl) (fun d1 => ?_)
  exact r_vret C dX11_copyRow_14 (by decide) (by decide)
theorem n_X11_copyRow_37_99 (d : D9) : NT9 (m_X11_copyRow_37_99  d) := by
  unfold m_X11_copyRow_37_99
  repeat (first | exact nt_rt | exact nt_none | apply nt_if | refine nt_cl ?_ (fun _ _ => ?_) | refine nt_cp9 (fun _ => ?_))
theorem dX1_copyFrom_0 : decode cX1_copyFrom 0 = .ok (.aload_n 0, 1) := by decide +kernel
theorem dX1_copyFrom_1 : decode cX1_copyFrom 1 = .ok (.aload_n 1, 1) := by decide +kernel
theorem dX1_copyFrom_2 : decode cX1_copyFrom 2 = .ok (.getfield 24, 3) := by decide +kernel
theorem dX1_copyFrom_5 : decode cX1_copyFrom 5 = .ok (.putfield 24, 3) := by decide +kernel
theorem dX1_copyFrom_8 : decode cX1_copyFrom 8 = .ok (.aload_n 1, 1) := by decide +kernel
theorem dX1_copyFrom_9 : decode cX1_copyFrom 9 = .ok (.getfield 9, 3) := by decide +kernel
theorem dX1_copyFrom_12 : decode cX1_copyFrom 12 = .ok (.aload_n 0, 1) := by decide +kernel
theorem dX1_copyFrom_13 : decode cX1_copyFrom 13 = .ok (.getfield 9, 3) := by decide +kernel
theorem dX1_copyFrom_16 : decode cX1_copyFrom 16 = .ok (.invokestatic 28, 3) := by decide +kernel
theorem dX1_copyFrom_19 : decode cX1_copyFrom 19 = .ok (.aload_n 1, 1) := by decide +kernel
theorem dX1_copyFrom_20 : decode cX1_copyFrom 20 = .ok (.getfield 15, 3) := by decide +kernel
theorem dX1_copyFrom_23 : decode cX1_copyFrom 23 = .ok (.aload_n 0, 1) := by decide +kernel
theorem dX1_copyFrom_24 : decode cX1_copyFrom 24 = .ok (.getfield 15, 3) := by decide +kernel
theorem dX1_copyFrom_27 : decode cX1_copyFrom 27 = .ok (.invokestatic 28, 3) := by decide +kernel
theorem dX1_copyFrom_30 : decode cX1_copyFrom 30 = .ok (.aload_n 1, 1) := by decide +kernel
theorem dX1_copyFrom_31 : decode cX1_copyFrom 31 = .ok (.getfield 18, 3) := by decide +kernel
theorem dX1_copyFrom_34 : decode cX1_copyFrom 34 = .ok (.aload_n 0, 1) := by decide +kernel
theorem dX1_copyFrom_35 : decode cX1_copyFrom 35 = .ok (.getfield 18, 3) := by decide +kernel
theorem dX1_copyFrom_38 : decode cX1_copyFrom 38 = .ok (.invokestatic 28, 3) := by decide +kernel
theorem dX1_copyFrom_41 : decode cX1_copyFrom 41 = .ok (.aload_n 1, 1) := by decide +kernel
theorem dX1_copyFrom_42 : decode cX1_copyFrom 42 = .ok (.getfield 21, 3) := by decide +kernel
theorem dX1_copyFrom_45 : decode cX1_copyFrom 45 = .ok (.aload_n 0, 1) := by decide +kernel
theorem dX1_copyFrom_46 : decode cX1_copyFrom 46 = .ok (.getfield 21, 3) := by decide +kernel
theorem dX1_copyFrom_49 : decode cX1_copyFrom 49 = .ok (.invokestatic 28, 3) := by decide +kernel
theorem dX1_copyFrom_52 : decode cX1_copyFrom 52 = .ok (.return_, 1) := by decide +kernel
abbrev z_X1_copyFrom_95_33 : Z9 := (none, 0, 0, 0, 3, 221)
def m_X1_copyFrom_95_33 (d : D9) : Option R9 := pf d 95 0 (d 33 0) (fun d1 => cl (m_X11_copyRow_34_96 d1) (fun r2 d3 => cl (m_X11_copyRow_35_97 d3) (fun r4 d5 => cl (m_X11_copyRow_36_98 d5) (fun r6 d7 => cl (m_X11_copyRow_37_99 d7) (fun r8 d9 => rt 0 d9)))))
set_option maxRecDepth 100000 in
theorem t_X1_copyFrom_95_33 {G : G9} {l : Launch} (h1 : va_D (A9 G) (wl G (fun _ _ => 0))) (h2 : l.stackTraces = false) (d : D9) : MT G l yX1_copyFrom cX1_copyFrom 2 z_X1_copyFrom_95_33 [rf G 95, rf G 33] d (m_X1_copyFrom_95_33  d) := by
  refine mt_of (own := RX1) (by decide) rfl (Nat.le_of_ble_eq_true rfl) h1 h2 [(0, rf G 95), (1, rf G 33)] rfl (fun X hX C => ?_)
  unfold m_X1_copyFrom_95_33
  refine r_aload_n C 0 dX1_copyFrom_0 rfl rfl ?_
  refine r_aload_n C 1 dX1_copyFrom_1 rfl rfl ?_
  refine r_getI C dX1_copyFrom_2 fl_X1_24 la_33 ly_33 rfl ?_
  refine r_putI C dX1_copyFrom_5 fp_X1_24 la_95 ly_95 rfl (fun d1 => ?_)
  refine r_aload_n C 1 dX1_copyFrom_8 rfl rfl ?_
  refine r_getR C 34 dX1_copyFrom_9 fl_X1_9 la_33 ly_33 rfl rfl ?_
  refine r_aload_n C 0 dX1_copyFrom_12 rfl rfl ?_
  refine r_getR C 96 dX1_copyFrom_13 fl_X1_9 la_95 ly_95 rfl rfl ?_
  refine r_callN C [rf G 96, rf G 34] dX1_copyFrom_16 (t_X11_copyRow_34_96 C.h1 C.h2 d1) (n_X11_copyRow_34_96 d1) mn_X1_28 ms_X11_copyRow (by decide) (by decide) (by decide) rfl rfl (Nat.le_of_ble_eq_true rfl) (fun r2 d3 => ?_)
  show SS G X 2 _ _ 19 [(0, rf G 95), (1, rf G 33)] [] d3 _
  refine r_aload_n C 1 dX1_copyFrom_19 rfl rfl ?_
  refine r_getR C 35 dX1_copyFrom_20 fl_X1_15 la_33 ly_33 rfl rfl ?_
  refine r_aload_n C 0 dX1_copyFrom_23 rfl rfl ?_
  refine r_getR C 97 dX1_copyFrom_24 fl_X1_15 la_95 ly_95 rfl rfl ?_
  refine r_callN C [rf G 97, rf G 35] dX1_copyFrom_27 (t_X11_copyRow_35_97 C.h1 C.h2 d3) (n_X11_copyRow_35_97 d3) mn_X1_28 ms_X11_copyRow (by decide) (by decide) (by decide) rfl rfl (Nat.le_of_ble_eq_true rfl) (fun r4 d5 => ?_)
  show SS G X 2 _ _ 30 [(0, rf G 95), (1, rf G 33)] [] d5 _
  refine r_aload_n C 1 dX1_copyFrom_30 rfl rfl ?_
  refine r_getR C 36 dX1_copyFrom_31 fl_X1_18 la_33 ly_33 rfl rfl ?_
  refine r_aload_n C 0 dX1_copyFrom_34 rfl rfl ?_
  refine r_getR C 98 dX1_copyFrom_35 fl_X1_18 la_95 ly_95 rfl rfl ?_
  refine r_callN C [rf G 98, rf G 36] dX1_copyFrom_38 (t_X11_copyRow_36_98 C.h1 C.h2 d5) (n_X11_copyRow_36_98 d5) mn_X1_28 ms_X11_copyRow (by decide) (by decide) (by decide) rfl rfl (Nat.le_of_ble_eq_true rfl) (fun r6 d7 => ?_)
  show SS G X 2 _ _ 41 [(0, rf G 95), (1, rf G 33)] [] d7 _
  refine r_aload_n C 1 dX1_copyFrom_41 rfl rfl ?_
  refine r_getR C 37 dX1_copyFrom_42 fl_X1_21 la_33 ly_33 rfl rfl ?_
  refine r_aload_n C 0 dX1_copyFrom_45 rfl rfl ?_
  refine r_getR C 99 dX1_copyFrom_46 fl_X1_21 la_95 ly_95 rfl rfl ?_
  refine r_callN C [rf G 99, rf G 37] dX1_copyFrom_49 (t_X11_copyRow_37_99 C.h1 C.h2 d7) (n_X11_copyRow_37_99 d7) mn_X1_28 ms_X11_copyRow (by decide) (by decide) (by decide) rfl rfl (Nat.le_of_ble_eq_true rfl) (fun r8 d9 => ?_)
  show SS G X 2 _ _ 52 [(0, rf G 95), (1, rf G 33)] [] d9 _
  exact r_vret C dX1_copyFrom_52 (by decide) (by decide)
theorem dX10_copyFrom_0 : decode cX10_copyFrom 0 = .ok (.aload_n 0, 1) := by decide +kernel
theorem dX10_copyFrom_1 : decode cX10_copyFrom 1 = .ok (.getfield 12, 3) := by decide +kernel
theorem dX10_copyFrom_4 : decode cX10_copyFrom 4 = .ok (.aload_n 1, 1) := by decide +kernel
theorem dX10_copyFrom_5 : decode cX10_copyFrom 5 = .ok (.getfield 12, 3) := by decide +kernel
theorem dX10_copyFrom_8 : decode cX10_copyFrom 8 = .ok (.invokevirtual 53, 3) := by decide +kernel
theorem dX10_copyFrom_11 : decode cX10_copyFrom 11 = .ok (.aload_n 0, 1) := by decide +kernel
theorem dX10_copyFrom_12 : decode cX10_copyFrom 12 = .ok (.getfield 21, 3) := by decide +kernel
theorem dX10_copyFrom_15 : decode cX10_copyFrom 15 = .ok (.aload_n 1, 1) := by decide +kernel
theorem dX10_copyFrom_16 : decode cX10_copyFrom 16 = .ok (.getfield 21, 3) := by decide +kernel
theorem dX10_copyFrom_19 : decode cX10_copyFrom 19 = .ok (.invokevirtual 57, 3) := by decide +kernel
theorem dX10_copyFrom_22 : decode cX10_copyFrom 22 = .ok (.aload_n 0, 1) := by decide +kernel
theorem dX10_copyFrom_23 : decode cX10_copyFrom 23 = .ok (.getfield 28, 3) := by decide +kernel
theorem dX10_copyFrom_26 : decode cX10_copyFrom 26 = .ok (.aload_n 1, 1) := by decide +kernel
theorem dX10_copyFrom_27 : decode cX10_copyFrom 27 = .ok (.getfield 28, 3) := by decide +kernel
theorem dX10_copyFrom_30 : decode cX10_copyFrom 30 = .ok (.invokevirtual 60, 3) := by decide +kernel
theorem dX10_copyFrom_33 : decode cX10_copyFrom 33 = .ok (.aload_n 0, 1) := by decide +kernel
theorem dX10_copyFrom_34 : decode cX10_copyFrom 34 = .ok (.getfield 35, 3) := by decide +kernel
theorem dX10_copyFrom_37 : decode cX10_copyFrom 37 = .ok (.aload_n 1, 1) := by decide +kernel
theorem dX10_copyFrom_38 : decode cX10_copyFrom 38 = .ok (.getfield 35, 3) := by decide +kernel
theorem dX10_copyFrom_41 : decode cX10_copyFrom 41 = .ok (.invokevirtual 63, 3) := by decide +kernel
theorem dX10_copyFrom_44 : decode cX10_copyFrom 44 = .ok (.aload_n 0, 1) := by decide +kernel
theorem dX10_copyFrom_45 : decode cX10_copyFrom 45 = .ok (.getfield 42, 3) := by decide +kernel
theorem dX10_copyFrom_48 : decode cX10_copyFrom 48 = .ok (.aload_n 1, 1) := by decide +kernel
theorem dX10_copyFrom_49 : decode cX10_copyFrom 49 = .ok (.getfield 42, 3) := by decide +kernel
theorem dX10_copyFrom_52 : decode cX10_copyFrom 52 = .ok (.invokevirtual 66, 3) := by decide +kernel
theorem dX10_copyFrom_55 : decode cX10_copyFrom 55 = .ok (.aload_n 0, 1) := by decide +kernel
theorem dX10_copyFrom_56 : decode cX10_copyFrom 56 = .ok (.getfield 49, 3) := by decide +kernel
theorem dX10_copyFrom_59 : decode cX10_copyFrom 59 = .ok (.aload_n 1, 1) := by decide +kernel
theorem dX10_copyFrom_60 : decode cX10_copyFrom 60 = .ok (.getfield 49, 3) := by decide +kernel
theorem dX10_copyFrom_63 : decode cX10_copyFrom 63 = .ok (.invokevirtual 69, 3) := by decide +kernel
theorem dX10_copyFrom_66 : decode cX10_copyFrom 66 = .ok (.return_, 1) := by decide +kernel
abbrev z_X10_copyFrom_63_1 : Z9 := (none, 0, 0, 0, 4, 242)
def m_X10_copyFrom_63_1 (d : D9) : Option R9 := cl (m_X3_copyFrom_64_2 d) (fun r1 d2 => cl (m_X6_copyFrom_71_9 d2) (fun r3 d4 => cl (m_X2_copyFrom_84_22 d4) (fun r5 d6 => cl (m_X7_copyFrom_85_23 d6) (fun r7 d8 => cl (m_X4_copyFrom_90_28 d8) (fun r9 d10 => cl (m_X1_copyFrom_95_33 d10) (fun r11 d12 => rt 0 d12))))))
set_option maxRecDepth 100000 in
theorem t_X10_copyFrom_63_1 {G : G9} {l : Launch} (h1 : va_D (A9 G) (wl G (fun _ _ => 0))) (h2 : l.stackTraces = false) (d : D9) : MT G l yX10_copyFrom cX10_copyFrom 2 z_X10_copyFrom_63_1 [rf G 63, rf G 1] d (m_X10_copyFrom_63_1  d) := by
  refine mt_of (own := RX10) (by decide) rfl (Nat.le_of_ble_eq_true rfl) h1 h2 [(0, rf G 63), (1, rf G 1)] rfl (fun X hX C => ?_)
  unfold m_X10_copyFrom_63_1
  refine r_aload_n C 0 dX10_copyFrom_0 rfl rfl ?_
  refine r_getR C 64 dX10_copyFrom_1 fl_X10_12 la_63 ly_63 rfl rfl ?_
  refine r_aload_n C 1 dX10_copyFrom_4 rfl rfl ?_
  refine r_getR C 2 dX10_copyFrom_5 fl_X10_12 la_1 ly_1 rfl rfl ?_
  refine r_callV C [rf G 2, rf G 64] dX10_copyFrom_8 (t_X3_copyFrom_64_2 C.h1 C.h2 d) mw_X10_53 mv_X3_copyFrom la_64 ly_64 rfl (by decide) (by decide) (by decide) rfl rfl (Nat.le_of_ble_eq_true rfl) (fun r1 d2 => ?_)
  show SS G X 2 _ _ 11 [(0, rf G 63), (1, rf G 1)] [] d2 _
  refine r_aload_n C 0 dX10_copyFrom_11 rfl rfl ?_
  refine r_getR C 71 dX10_copyFrom_12 fl_X10_21 la_63 ly_63 rfl rfl ?_
  refine r_aload_n C 1 dX10_copyFrom_15 rfl rfl ?_
  refine r_getR C 9 dX10_copyFrom_16 fl_X10_21 la_1 ly_1 rfl rfl ?_
  refine r_callV C [rf G 9, rf G 71] dX10_copyFrom_19 (t_X6_copyFrom_71_9 C.h1 C.h2 d2) mw_X10_57 mv_X6_copyFrom la_71 ly_71 rfl (by decide) (by decide) (by decide) rfl rfl (Nat.le_of_ble_eq_true rfl) (fun r3 d4 => ?_)
  show SS G X 2 _ _ 22 [(0, rf G 63), (1, rf G 1)] [] d4 _
  refine r_aload_n C 0 dX10_copyFrom_22 rfl rfl ?_
  refine r_getR C 84 dX10_copyFrom_23 fl_X10_28 la_63 ly_63 rfl rfl ?_
  refine r_aload_n C 1 dX10_copyFrom_26 rfl rfl ?_
  refine r_getR C 22 dX10_copyFrom_27 fl_X10_28 la_1 ly_1 rfl rfl ?_
  refine r_callV C [rf G 22, rf G 84] dX10_copyFrom_30 (t_X2_copyFrom_84_22 C.h1 C.h2 d4) mw_X10_60 mv_X2_copyFrom la_84 ly_84 rfl (by decide) (by decide) (by decide) rfl rfl (Nat.le_of_ble_eq_true rfl) (fun r5 d6 => ?_)
  show SS G X 2 _ _ 33 [(0, rf G 63), (1, rf G 1)] [] d6 _
  refine r_aload_n C 0 dX10_copyFrom_33 rfl rfl ?_
  refine r_getR C 85 dX10_copyFrom_34 fl_X10_35 la_63 ly_63 rfl rfl ?_
  refine r_aload_n C 1 dX10_copyFrom_37 rfl rfl ?_
  refine r_getR C 23 dX10_copyFrom_38 fl_X10_35 la_1 ly_1 rfl rfl ?_
  refine r_callV C [rf G 23, rf G 85] dX10_copyFrom_41 (t_X7_copyFrom_85_23 C.h1 C.h2 d6) mw_X10_63 mv_X7_copyFrom la_85 ly_85 rfl (by decide) (by decide) (by decide) rfl rfl (Nat.le_of_ble_eq_true rfl) (fun r7 d8 => ?_)
  show SS G X 2 _ _ 44 [(0, rf G 63), (1, rf G 1)] [] d8 _
  refine r_aload_n C 0 dX10_copyFrom_44 rfl rfl ?_
  refine r_getR C 90 dX10_copyFrom_45 fl_X10_42 la_63 ly_63 rfl rfl ?_
  refine r_aload_n C 1 dX10_copyFrom_48 rfl rfl ?_
  refine r_getR C 28 dX10_copyFrom_49 fl_X10_42 la_1 ly_1 rfl rfl ?_
  refine r_callV C [rf G 28, rf G 90] dX10_copyFrom_52 (t_X4_copyFrom_90_28 C.h1 C.h2 d8) mw_X10_66 mv_X4_copyFrom la_90 ly_90 rfl (by decide) (by decide) (by decide) rfl rfl (Nat.le_of_ble_eq_true rfl) (fun r9 d10 => ?_)
  show SS G X 2 _ _ 55 [(0, rf G 63), (1, rf G 1)] [] d10 _
  refine r_aload_n C 0 dX10_copyFrom_55 rfl rfl ?_
  refine r_getR C 95 dX10_copyFrom_56 fl_X10_49 la_63 ly_63 rfl rfl ?_
  refine r_aload_n C 1 dX10_copyFrom_59 rfl rfl ?_
  refine r_getR C 33 dX10_copyFrom_60 fl_X10_49 la_1 ly_1 rfl rfl ?_
  refine r_callV C [rf G 33, rf G 95] dX10_copyFrom_63 (t_X1_copyFrom_95_33 C.h1 C.h2 d10) mw_X10_69 mv_X1_copyFrom la_95 ly_95 rfl (by decide) (by decide) (by decide) rfl rfl (Nat.le_of_ble_eq_true rfl) (fun r11 d12 => ?_)
  show SS G X 2 _ _ 66 [(0, rf G 63), (1, rf G 1)] [] d12 _
  exact r_vret C dX10_copyFrom_66 (by decide) (by decide)
abbrev z_X11_copyRow_3_102 : Z9 := (none, 0, 0, 0, 2, 200)
def m_X11_copyRow_3_102 (d : D9) : Option R9 := cp9 d 3 30 102 30 (min9 30 30) (fun d1 => rt 0 d1)
set_option maxRecDepth 100000 in
theorem t_X11_copyRow_3_102 {G : G9} {l : Launch} (h1 : va_D (A9 G) (wl G (fun _ _ => 0))) (h2 : l.stackTraces = false) (d : D9) : MT G l yX11_copyRow cX11_copyRow 2 z_X11_copyRow_3_102 [rf G 3, rf G 102] d (m_X11_copyRow_3_102  d) := by
  refine mt_of (own := RX11) (by decide) rfl (Nat.le_of_ble_eq_true rfl) h1 h2 [(0, rf G 3), (1, rf G 102)] rfl (fun X hX C => ?_)
  unfold m_X11_copyRow_3_102
  refine r_aload_n C 0 dX11_copyRow_0 rfl rfl ?_
  refine r_iconst C dX11_copyRow_1 ?_
  refine r_aload_n C 1 dX11_copyRow_2 rfl rfl ?_
  refine r_iconst C dX11_copyRow_3 ?_
  refine r_aload_n C 0 dX11_copyRow_4 rfl rfl ?_
  refine r_alen C dX11_copyRow_5 la_3 ly_3 ?_
  refine r_aload_n C 1 dX11_copyRow_6 rfl rfl ?_
  refine r_alen C dX11_copyRow_7 la_102 ly_102 ?_
  refine r_mmin C dX11_copyRow_8 mm_X11_465 ⟨Nat.le_of_ble_eq_true rfl, Nat.le_of_ble_eq_true rfl⟩ (by decide) (by decide) ?_
  refine r_acopy C dX11_copyRow_11 aw_X11_470 la_3 ly_3 la_102 ly_102 (by decide) (Nat.le_of_ble_eq_true rfl) (fun d1 => ?_)
  exact r_vret C dX11_copyRow_14 (by decide) (by decide)
theorem n_X11_copyRow_3_102 (d : D9) : NT9 (m_X11_copyRow_3_102  d) := by
  unfold m_X11_copyRow_3_102
  repeat (first | exact nt_rt | exact nt_none | apply nt_if | refine nt_cl ?_ (fun _ _ => ?_) | refine nt_cp9 (fun _ => ?_))
abbrev z_X11_copyRow_4_103 : Z9 := (none, 0, 0, 0, 2, 200)
def m_X11_copyRow_4_103 (d : D9) : Option R9 := cp9 d 4 30 103 30 (min9 30 30) (fun d1 => rt 0 d1)
set_option maxRecDepth 100000 in
theorem t_X11_copyRow_4_103 {G : G9} {l : Launch} (h1 : va_D (A9 G) (wl G (fun _ _ => 0))) (h2 : l.stackTraces = false) (d : D9) : MT G l yX11_copyRow cX11_copyRow 2 z_X11_copyRow_4_103 [rf G 4, rf G 103] d (m_X11_copyRow_4_103  d) := by
  refine mt_of (own := RX11) (by decide) rfl (Nat.le_of_ble_eq_true rfl) h1 h2 [(0, rf G 4), (1, rf G 103)] rfl (fun X hX C => ?_)
  unfold m_X11_copyRow_4_103
  refine r_aload_n C 0 dX11_copyRow_0 rfl rfl ?_
  refine r_iconst C dX11_copyRow_1 ?_
  refine r_aload_n C 1 dX11_copyRow_2 rfl rfl ?_
  refine r_iconst C dX11_copyRow_3 ?_
  refine r_aload_n C 0 dX11_copyRow_4 rfl rfl ?_
  refine r_alen C dX11_copyRow_5 la_4 ly_4 ?_
  refine r_aload_n C 1 dX11_copyRow_6 rfl rfl ?_
  refine r_alen C dX11_copyRow_7 la_103 ly_103 ?_
  refine r_mmin C dX11_copyRow_8 mm_X11_465 ⟨Nat.le_of_ble_eq_true rfl, Nat.le_of_ble_eq_true rfl⟩ (by decide) (by decide) ?_
  refine r_acopy C dX11_copyRow_11 aw_X11_470 la_4 ly_4 la_103 ly_103 (by decide) (Nat.le_of_ble_eq_true rfl) (fun d1 => ?_)
  exact r_vret C dX11_copyRow_14 (by decide) (by decide)
theorem n_X11_copyRow_4_103 (d : D9) : NT9 (m_X11_copyRow_4_103  d) := by
  unfold m_X11_copyRow_4_103
  repeat (first | exact nt_rt | exact nt_none | apply nt_if | refine nt_cl ?_ (fun _ _ => ?_) | refine nt_cp9 (fun _ => ?_))
abbrev z_X11_copyRow_5_104 : Z9 := (none, 0, 0, 0, 2, 200)
def m_X11_copyRow_5_104 (d : D9) : Option R9 := cp9 d 5 30 104 30 (min9 30 30) (fun d1 => rt 0 d1)
set_option maxRecDepth 100000 in
theorem t_X11_copyRow_5_104 {G : G9} {l : Launch} (h1 : va_D (A9 G) (wl G (fun _ _ => 0))) (h2 : l.stackTraces = false) (d : D9) : MT G l yX11_copyRow cX11_copyRow 2 z_X11_copyRow_5_104 [rf G 5, rf G 104] d (m_X11_copyRow_5_104  d) := by
  refine mt_of (own := RX11) (by decide) rfl (Nat.le_of_ble_eq_true rfl) h1 h2 [(0, rf G 5), (1, rf G 104)] rfl (fun X hX C => ?_)
  unfold m_X11_copyRow_5_104
  refine r_aload_n C 0 dX11_copyRow_0 rfl rfl ?_
  refine r_iconst C dX11_copyRow_1 ?_
  refine r_aload_n C 1 dX11_copyRow_2 rfl rfl ?_
  refine r_iconst C dX11_copyRow_3 ?_
  refine r_aload_n C 0 dX11_copyRow_4 rfl rfl ?_
  refine r_alen C dX11_copyRow_5 la_5 ly_5 ?_
  refine r_aload_n C 1 dX11_copyRow_6 rfl rfl ?_
  refine r_alen C dX11_copyRow_7 la_104 ly_104 ?_
  refine r_mmin C dX11_copyRow_8 mm_X11_465 ⟨Nat.le_of_ble_eq_true rfl, Nat.le_of_ble_eq_true rfl⟩ (by decide) (by decide) ?_
  refine r_acopy C dX11_copyRow_11 aw_X11_470 la_5 ly_5 la_104 ly_104 (by decide) (Nat.le_of_ble_eq_true rfl) (fun d1 => ?_)
  exact r_vret C dX11_copyRow_14 (by decide) (by decide)
theorem n_X11_copyRow_5_104 (d : D9) : NT9 (m_X11_copyRow_5_104  d) := by
  unfold m_X11_copyRow_5_104
  repeat (first | exact nt_rt | exact nt_none | apply nt_if | refine nt_cl ?_ (fun _ _ => ?_) | refine nt_cp9 (fun _ => ?_))
abbrev z_X11_copyRow_6_105 : Z9 := (none, 0, 0, 0, 2, 200)
def m_X11_copyRow_6_105 (d : D9) : Option R9 := cp9 d 6 150 105 150 (min9 150 150) (fun d1 => rt 0 d1)
set_option maxRecDepth 100000 in
theorem t_X11_copyRow_6_105 {G : G9} {l : Launch} (h1 : va_D (A9 G) (wl G (fun _ _ => 0))) (h2 : l.stackTraces = false) (d : D9) : MT G l yX11_copyRow cX11_copyRow 2 z_X11_copyRow_6_105 [rf G 6, rf G 105] d (m_X11_copyRow_6_105  d) := by
  refine mt_of (own := RX11) (by decide) rfl (Nat.le_of_ble_eq_true rfl) h1 h2 [(0, rf G 6), (1, rf G 105)] rfl (fun X hX C => ?_)
  unfold m_X11_copyRow_6_105
  refine r_aload_n C 0 dX11_copyRow_0 rfl rfl ?_
  refine r_iconst C dX11_copyRow_1 ?_
  refine r_aload_n C 1 dX11_copyRow_2 rfl rfl ?_
  refine r_iconst C dX11_copyRow_3 ?_
  refine r_aload_n C 0 dX11_copyRow_4 rfl rfl ?_
  refine r_alen C dX11_copyRow_5 la_6 ly_6 ?_
  refine r_aload_n C 1 dX11_copyRow_6 rfl rfl ?_
  refine r_alen C dX11_copyRow_7 la_105 ly_105 ?_
  refine r_mmin C dX11_copyRow_8 mm_X11_465 ⟨Nat.le_of_ble_eq_true rfl, Nat.le_of_ble_eq_true rfl⟩ (by decide) (by decide) ?_
  refine r_acopy C dX11_copyRow_11 aw_X11_470 la_6 ly_6 la_105 ly_105 (by decide) (Nat.le_of_ble_eq_true rfl) (fun d1 => ?_)
  exact r_vret C dX11_copyRow_14 (by decide) (by decide)
theorem n_X11_copyRow_6_105 (d : D9) : NT9 (m_X11_copyRow_6_105  d) := by
  unfold m_X11_copyRow_6_105
  repeat (first | exact nt_rt | exact nt_none | apply nt_if | refine nt_cl ?_ (fun _ _ => ?_) | refine nt_cp9 (fun _ => ?_))
abbrev z_X11_copyRow_7_106 : Z9 := (none, 0, 0, 0, 2, 200)
def m_X11_copyRow_7_106 (d : D9) : Option R9 := cp9 d 7 30 106 30 (min9 30 30) (fun d1 => rt 0 d1)
set_option maxRecDepth 100000 in
theorem t_X11_copyRow_7_106 {G : G9} {l : Launch} (h1 : va_D (A9 G) (wl G (fun _ _ => 0))) (h2 : l.stackTraces = false) (d : D9) : MT G l yX11_copyRow cX11_copyRow 2 z_X11_copyRow_7_106 [rf G 7, rf G 106] d (m_X11_copyRow_7_106  d) := by
  refine mt_of (own := RX11) (by decide) rfl (Nat.le_of_ble_eq_true rfl) h1 h2 [(0, rf G 7), (1, rf G 106)] rfl (fun X hX C => ?_)
  unfold m_X11_copyRow_7_106
  refine r_aload_n C 0 dX11_copyRow_0 rfl rfl ?_
  refine r_iconst C dX11_copyRow_1 ?_
  refine r_aload_n C 1 dX11_copyRow_2 rfl rfl ?_
  refine r_iconst C dX11_copyRow_3 ?_
  refine r_aload_n C 0 dX11_copyRow_4 rfl rfl ?_
  refine r_alen C dX11_copyRow_5 la_7 ly_7 ?_
  refine r_aload_n C 1 dX11_copyRow_6 rfl rfl ?_
  refine r_alen C dX11_copyRow_7 la_106 ly_106 ?_
  refine r_mmin C dX11_copyRow_8 mm_X11_465 ⟨Nat.le_of_ble_eq_true rfl, Nat.le_of_ble_eq_true rfl⟩ (by decide) (by decide) ?_
  refine r_acopy C dX11_copyRow_11 aw_X11_470 la_7 ly_7 la_106 ly_106 (by decide) (Nat.le_of_ble_eq_true rfl) (fun d1 => ?_)
  exact r_vret C dX11_copyRow_14 (by decide) (by decide)
theorem n_X11_copyRow_7_106 (d : D9) : NT9 (m_X11_copyRow_7_106  d) := by
  unfold m_X11_copyRow_7_106
  repeat (first | exact nt_rt | exact nt_none | apply nt_if | refine nt_cl ?_ (fun _ _ => ?_) | refine nt_cp9 (fun _ => ?_))
abbrev z_X11_copyRow_8_107 : Z9 := (none, 0, 0, 0, 2, 200)
def m_X11_copyRow_8_107 (d : D9) : Option R9 := cp9 d 8 30 107 30 (min9 30 30) (fun d1 => rt 0 d1)
set_option maxRecDepth 100000 in
theorem t_X11_copyRow_8_107 {G : G9} {l : Launch} (h1 : va_D (A9 G) (wl G (fun _ _ => 0))) (h2 : l.stackTraces = false) (d : D9) : MT G l yX11_copyRow cX11_copyRow 2 z_X11_copyRow_8_107 [rf G 8, rf G 107] d (m_X11_copyRow_8_107  d) := by
  refine mt_of (own := RX11) (by decide) rfl (Nat.le_of_ble_eq_true rfl) h1 h2 [(0, rf G 8), (1, rf G 107)] rfl (fun X hX C => ?_)
  unfold m_X11_copyRow_8_107
  refine r_aload_n C 0 dX11_copyRow_0 rfl rfl ?_
  refine r_iconst C dX11_copyRow_1 ?_
  refine r_aload_n C 1 dX11_copyRow_2 rfl rfl ?_
  refine r_iconst C dX11_copyRow_3 ?_
  refine r_aload_n C 0 dX11_copyRow_4 rfl rfl ?_
  refine r_alen C dX11_copyRow_5 la_8 ly_8 ?_
  refine r_aload_n C 1 dX11_copyRow_6 rfl rfl ?_
  refine r_alen C dX11_copyRow_7 la_107 ly_107 ?_
  refine r_mmin C dX11_copyRow_8 mm_X11_465 ⟨Nat.le_of_ble_eq_true rfl, Nat.le_of_ble_eq_true rfl⟩ (by decide) (by decide) ?_
  refine r_acopy C dX11_copyRow_11 aw_X11_470 la_8 ly_8 la_107 ly_107 (by decide) (Nat.le_of_ble_eq_true rfl) (fun d1 => ?_)
  exact r_vret C dX11_copyRow_14 (by decide) (by decide)
theorem n_X11_copyRow_8_107 (d : D9) : NT9 (m_X11_copyRow_8_107  d) := by
  unfold m_X11_copyRow_8_107
  repeat (first | exact nt_rt | exact nt_none | apply nt_if | refine nt_cl ?_ (fun _ _ => ?_) | refine nt_cp9 (fun _ => ?_))
abbrev z_X3_copyFrom_101_2 : Z9 := (none, 0, 0, 0, 3, 221)
def m_X3_copyFrom_101_2 (d : D9) : Option R9 := pf d 101 0 (d 2 0) (fun d1 => pf d1 101 1 (d1 2 1) (fun d2 => cl (m_X11_copyRow_3_102 d2) (fun r3 d4 => cl (m_X11_copyRow_4_103 d4) (fun r5 d6 => cl (m_X11_copyRow_5_104 d6) (fun r7 d8 => cl (m_X11_copyRow_6_105 d8) (fun r9 d10 => cl (m_X11_copyRow_7_106 d10) (fun r11 d12 => cl (m_X11_copyRow_8_107 d12) (fun r13 d14 => rt 0 d14))))))))
set_option maxRecDepth 100000 in
theorem t_X3_copyFrom_101_2 {G : G9} {l : Launch} (h1 : va_D (A9 G) (wl G (fun _ _ => 0))) (h2 : l.stackTraces = false) (d : D9) : MT G l yX3_copyFrom cX3_copyFrom 2 z_X3_copyFrom_101_2 [rf G 101, rf G 2] d (m_X3_copyFrom_101_2  d) := by
  refine mt_of (own := RX3) (by decide) rfl (Nat.le_of_ble_eq_true rfl) h1 h2 [(0, rf G 101), (1, rf G 2)] rfl (fun X hX C => ?_)
  unfold m_X3_copyFrom_101_2
  refine r_aload_n C 0 dX3_copyFrom_0 rfl rfl ?_
  refine r_aload_n C 1 dX3_copyFrom_1 rfl rfl ?_
  refine r_getI C dX3_copyFrom_2 fl_X3_30 la_2 ly_2 rfl ?_
  refine r_putI C dX3_copyFrom_5 fp_X3_30 la_101 ly_101 rfl (fun d1 => ?_)
  refine r_aload_n C 0 dX3_copyFrom_8 rfl rfl ?_
  refine r_aload_n C 1 dX3_copyFrom_9 rfl rfl ?_
  refine r_getI C dX3_copyFrom_10 fl_X3_34 la_2 ly_2 rfl ?_
  refine r_putI C dX3_copyFrom_13 fp_X3_34 la_101 ly_101 rfl (fun d2 => ?_)
  refine r_aload_n C 1 dX3_copyFrom_16 rfl rfl ?_
  refine r_getR C 3 dX3_copyFrom_17 fl_X3_9 la_2 ly_2 rfl rfl ?_
  refine r_aload_n C 0 dX3_copyFrom_20 rfl rfl ?_
  refine r_getR C 102 dX3_copyFrom_21 fl_X3_9 la_101 ly_101 rfl rfl ?_
  refine r_callN C [rf G 102, rf G 3] dX3_copyFrom_24 (t_X11_copyRow_3_102 C.h1 C.h2 d2) (n_X11_copyRow_3_102 d2) mn_X3_37 ms_X11_copyRow (by decide) (by decide) (by decide) rfl rfl (Nat.le_of_ble_eq_true rfl) (fun r3 d4 => ?_)
  show SS G X 2 _ _ 27 [(0, rf G 101), (1, rf G 2)] [] d4 _
  refine r_aload_n C 1 dX3_copyFrom_27 rfl rfl ?_
  refine r_getR C 4 dX3_copyFrom_28 fl_X3_15 la_2 ly_2 rfl rfl ?_
  refine r_aload_n C 0 dX3_copyFrom_31 rfl rfl ?_
  refine r_getR C 103 dX3_copyFrom_32 fl_X3_15 la_101 ly_101 rfl rfl ?_
  refine r_callN C [rf G 103, rf G 4] dX3_copyFrom_35 (t_X11_copyRow_4_103 C.h1 C.h2 d4) (n_X11_copyRow_4_103 d4) mn_X3_37 ms_X11_copyRow (by decide) (by decide) (by decide) rfl rfl (Nat.le_of_ble_eq_true rfl) (fun r5 d6 => ?_)
  show SS G X 2 _ _ 38 [(0, rf G 101), (1, rf G 2)] [] d6 _
  refine r_aload_n C 1 dX3_copyFrom_38 rfl rfl ?_
  refine r_getR C 5 dX3_copyFrom_39 fl_X3_18 la_2 ly_2 rfl rfl ?_
  refine r_aload_n C 0 dX3_copyFrom_42 rfl rfl ?_
  refine r_getR C 104 dX3_copyFrom_43 fl_X3_18 la_101 ly_101 rfl rfl ?_
  refine r_callN C [rf G 104, rf G 5] dX3_copyFrom_46 (t_X11_copyRow_5_104 C.h1 C.h2 d6) (n_X11_copyRow_5_104 d6) mn_X3_37 ms_X11_copyRow (by decide) (by decide) (by decide) rfl rfl (Nat.le_of_ble_eq_true rfl) (fun r7 d8 => ?_)
  show SS G X 2 _ _ 49 [(0, rf G 101), (1, rf G 2)] [] d8 _
  refine r_aload_n C 1 dX3_copyFrom_49 rfl rfl ?_
  refine r_getR C 6 dX3_copyFrom_50 fl_X3_21 la_2 ly_2 rfl rfl ?_
  refine r_aload_n C 0 dX3_copyFrom_53 rfl rfl ?_
  refine r_getR C 105 dX3_copyFrom_54 fl_X3_21 la_101 ly_101 rfl rfl ?_
  refine r_callN C [rf G 105, rf G 6] dX3_copyFrom_57 (t_X11_copyRow_6_105 C.h1 C.h2 d8) (n_X11_copyRow_6_105 d8) mn_X3_37 ms_X11_copyRow (by decide) (by decide) (by decide) rfl rfl (Nat.le_of_ble_eq_true rfl) (fun r9 d10 => ?_)
  show SS G X 2 _ _ 60 [(0, rf G 101), (1, rf G 2)] [] d10 _
  refine r_aload_n C 1 dX3_copyFrom_60 rfl rfl ?_
  refine r_getR C 7 dX3_copyFrom_61 fl_X3_24 la_2 ly_2 rfl rfl ?_
  refine r_aload_n C 0 dX3_copyFrom_64 rfl rfl ?_
  refine r_getR C 106 dX3_copyFrom_65 fl_X3_24 la_101 ly_101 rfl rfl ?_
  refine r_callN C [rf G 106, rf G 7] dX3_copyFrom_68 (t_X11_copyRow_7_106 C.h1 C.h2 d10) (n_X11_copyRow_7_106 d10) mn_X3_37 ms_X11_copyRow (by decide) (by decide) (by decide) rfl rfl (Nat.le_of_ble_eq_true rfl) (fun r11 d12 => ?_)
  show SS G X 2 _ _ 71 [(0, rf G 101), (1, rf G 2)] [] d12 _
  refine r_aload_n C 1 dX3_copyFrom_71 rfl rfl ?_
  refine r_getR C 8 dX3_copyFrom_72 fl_X3_27 la_2 ly_2 rfl rfl ?_
  refine r_aload_n C 0 dX3_copyFrom_75 rfl rfl ?_
  refine r_getR C 107 dX3_copyFrom_76 fl_X3_27 la_101 ly_101 rfl rfl ?_
  refine r_callN C [rf G 107, rf G 8] dX3_copyFrom_79 (t_X11_copyRow_8_107 C.h1 C.h2 d12) (n_X11_copyRow_8_107 d12) mn_X3_37 ms_X11_copyRow (by decide) (by decide) (by decide) rfl rfl (Nat.le_of_ble_eq_true rfl) (fun r13 d14 => ?_)
  show SS G X 2 _ _ 82 [(0, rf G 101), (1, rf G 2)] [] d14 _
  exact r_vret C dX3_copyFrom_82 (by decide) (by decide)
abbrev z_X11_copyRow_10_109 : Z9 := (none, 0, 0, 0, 2, 200)
def m_X11_copyRow_10_109 (d : D9) : Option R9 := cp9 d 10 30 109 30 (min9 30 30) (fun d1 => rt 0 d1)
set_option maxRecDepth 100000 in
theorem t_X11_copyRow_10_109 {G : G9} {l : Launch} (h1 : va_D (A9 G) (wl G (fun _ _ => 0))) (h2 : l.stackTraces = false) (d : D9) : MT G l yX11_copyRow cX11_copyRow 2 z_X11_copyRow_10_109 [rf G 10, rf G 109] d (m_X11_copyRow_10_109  d) := by
  refine mt_of (own := RX11) (by decide) rfl (Nat.le_of_ble_eq_true rfl) h1 h2 [(0, rf G 10), (1, rf G 109)] rfl (fun X hX C => ?_)
  unfold m_X11_copyRow_10_109
  refine r_aload_n C 0 dX11_copyRow_0 rfl rfl ?_
  refine r_iconst C dX11_copyRow_1 ?_
  refine r_aload_n C 1 dX11_copyRow_2 rfl rfl ?_
  refine r_iconst C dX11_copyRow_3 ?_
  refine r_aload_n C 0 dX11_copyRow_4 rfl rfl ?_
  refine r_alen C dX11_copyRow_5 la_10 ly_10 ?_
  refine r_aload_n C 1 dX11_copyRow_6 rfl rfl ?_
  refine r_alen C dX11_copyRow_7 la_109 ly_109 ?_
  refine r_mmin C dX11_copyRow_8 mm_X11_465 ⟨Nat.le_of_ble_eq_true rfl, Nat.le_of_ble_eq_true rfl⟩ (by decide) (by decide) ?_
  refine r_acopy C dX11_copyRow_11 aw_X11_470 la_10 ly_10 la_109 ly_109 (by decide) (Nat.le_of_ble_eq_true rfl) (fun d1 => ?_)
  exact r_vret C dX11_copyRow_14 (by decide) (by decide)
theorem n_X11_copyRow_10_109 (d : D9) : NT9 (m_X11_copyRow_10_109  d) := by
  unfold m_X11_copyRow_10_109
  repeat (first | exact nt_rt | exact nt_none | apply nt_if | refine nt_cl ?_ (fun _ _ => ?_) | refine nt_cp9 (fun _ => ?_))
abbrev z_X11_copyRow_11_110 : Z9 := (none, 0, 0, 0, 2, 200)
def m_X11_copyRow_11_110 (d : D9) : Option R9 := cp9 d 11 30 110 30 (min9 30 30) (fun d1 => rt 0 d1)
set_option maxRecDepth 100000 in
theorem t_X11_copyRow_11_110 {G : G9} {l : Launch} (h1 : va_D (A9 G) (wl G (fun _ _ => 0))) (h2 : l.stackTraces = false) (d : D9) : MT G l yX11_copyRow cX11_copyRow 2 z_X11_copyRow_11_110 [rf G 11, rf G 110] d (m_X11_copyRow_11_110  d) := by
  refine mt_of (own := RX11) (by decide) rfl (Nat.le_of_ble_eq_true rfl) h1 h2 [(0, rf G 11), (1, rf G 110)] rfl (fun X hX C => ?_)
  unfold m_X11_copyRow_11_110
  refine r_aload_n C 0 dX11_copyRow_0 rfl rfl ?_
  refine r_iconst C dX11_copyRow_1 ?_
  refine r_aload_n C 1 dX11_copyRow_2 rfl rfl ?_
  refine r_iconst C dX11_copyRow_3 ?_
  refine r_aload_n C 0 dX11_copyRow_4 rfl rfl ?_
  refine r_alen C dX11_copyRow_5 la_11 ly_11 ?_
  refine r_aload_n C 1 dX11_copyRow_6 rfl rfl ?_
  refine r_alen C dX11_copyRow_7 la_110 ly_110 ?_
  refine r_mmin C dX11_copyRow_8 mm_X11_465 ⟨Nat.le_of_ble_eq_true rfl, Nat.le_of_ble_eq_true rfl⟩ (by decide) (by decide) ?_
  refine r_acopy C dX11_copyRow_11 aw_X11_470 la_11 ly_11 la_110 ly_110 (by decide) (Nat.le_of_ble_eq_true rfl) (fun d1 => ?_)
  exact r_vret C dX11_copyRow_14 (by decide) (by decide)
theorem n_X11_copyRow_11_110 (d : D9) : NT9 (m_X11_copyRow_11_110  d) := by
  unfold m_X11_copyRow_11_110
  repeat (first | exact nt_rt | exact nt_none | apply nt_if | refine nt_cl ?_ (fun _ _ => ?_) | refine nt_cp9 (fun _ => ?_))
abbrev z_X11_copyRow_12_111 : Z9 := (none, 0, 0, 0, 2, 200)
def m_X11_copyRow_12_111 (d : D9) : Option R9 := cp9 d 12 30 111 30 (min9 30 30) (fun d1 => rt 0 d1)
set_option maxRecDepth 100000 in
theorem t_X11_copyRow_12_111 {G : G9} {l : Launch} (h1 : va_D (A9 G) (wl G (fun _ _ => 0))) (h2 : l.stackTraces = false) (d : D9) : MT G l yX11_copyRow cX11_copyRow 2 z_X11_copyRow_12_111 [rf G 12, rf G 111] d (m_X11_copyRow_12_111  d) := by
  refine mt_of (own := RX11) (by decide) rfl (Nat.le_of_ble_eq_true rfl) h1 h2 [(0, rf G 12), (1, rf G 111)] rfl (fun X hX C => ?_)
  unfold m_X11_copyRow_12_111
  refine r_aload_n C 0 dX11_copyRow_0 rfl rfl ?_
  refine r_iconst C dX11_copyRow_1 ?_
  refine r_aload_n C 1 dX11_copyRow_2 rfl rfl ?_
  refine r_iconst C dX11_copyRow_3 ?_
  refine r_aload_n C 0 dX11_copyRow_4 rfl rfl ?_
  refine r_alen C dX11_copyRow_5 la_12 ly_12 ?_
  refine r_aload_n C 1 dX11_copyRow_6 rfl rfl ?_
  refine r_alen C dX11_copyRow_7 la_111 ly_111 ?_
  refine r_mmin C dX11_copyRow_8 mm_X11_465 ⟨Nat.le_of_ble_eq_true rfl, Nat.le_of_ble_eq_true rfl⟩ (by decide) (by decide) ?_
  refine r_acopy C dX11_copyRow_11 aw_X11_470 la_12 ly_12 la_111 ly_111 (by decide) (Nat.le_of_ble_eq_true rfl) (fun d1 => ?_)
  exact r_vret C dX11_copyRow_14 (by decide) (by decide)
theorem n_X11_copyRow_12_111 (d : D9) : NT9 (m_X11_copyRow_12_111  d) := by
  unfold m_X11_copyRow_12_111
  repeat (first | exact nt_rt | exact nt_none | apply nt_if | refine nt_cl ?_ (fun _ _ => ?_) | refine nt_cp9 (fun _ => ?_))
abbrev z_X11_copyRow_13_112 : Z9 := (none, 0, 0, 0, 2, 200)
def m_X11_copyRow_13_112 (d : D9) : Option R9 := cp9 d 13 30 112 30 (min9 30 30) (fun d1 => rt 0 d1)
set_option maxRecDepth 100000 in
theorem t_X11_copyRow_13_112 {G : G9} {l : Launch} (h1 : va_D (A9 G) (wl G (fun _ _ => 0))) (h2 : l.stackTraces = false) (d : D9) : MT G l yX11_copyRow cX11_copyRow 2 z_X11_copyRow_13_112 [rf G 13, rf G 112] d (m_X11_copyRow_13_112  d) := by
  refine mt_of (own := RX11) (by decide) rfl (Nat.le_of_ble_eq_true rfl) h1 h2 [(0, rf G 13), (1, rf G 112)] rfl (fun X hX C => ?_)
  unfold m_X11_copyRow_13_112
  refine r_aload_n C 0 dX11_copyRow_0 rfl rfl ?_
  refine r_iconst C dX11_copyRow_1 ?_
  refine r_aload_n C 1 dX11_copyRow_2 rfl rfl ?_
  refine r_iconst C dX11_copyRow_3 ?_
  refine r_aload_n C 0 dX11_copyRow_4 rfl rfl ?_
  refine r_alen C dX11_copyRow_5 la_13 ly_13 ?_
  refine r_aload_n C 1 dX11_copyRow_6 rfl rfl ?_
  refine r_alen C dX11_copyRow_7 la_112 ly_112 ?_
  refine r_mmin C dX11_copyRow_8 mm_X11_465 ⟨Nat.le_of_ble_eq_true rfl, Nat.le_of_ble_eq_true rfl⟩ (by decide) (by decide) ?_
  refine r_acopy C dX11_copyRow_11 aw_X11_470 la_13 ly_13 la_112 ly_112 (by decide) (Nat.le_of_ble_eq_true rfl) (fun d1 => ?_)
  exact r_vret C dX11_copyRow_14 (by decide) (by decide)
theorem n_X11_copyRow_13_112 (d : D9) : NT9 (m_X11_copyRow_13_112  d) := by
  unfold m_X11_copyRow_13_112
  repeat (first | exact nt_rt | exact nt_none | apply nt_if | refine nt_cl ?_ (fun _ _ => ?_) | refine nt_cp9 (fun _ => ?_))
abbrev z_X11_copyRow_14_113 : Z9 := (none, 0, 0, 0, 2, 200)
def m_X11_copyRow_14_113 (d : D9) : Option R9 := cp9 d 14 30 113 30 (min9 30 30) (fun d1 => rt 0 d1)
set_option maxRecDepth 100000 in
theorem t_X11_copyRow_14_113 {G : G9} {l : Launch} (h1 : va_D (A9 G) (wl G (fun _ _ => 0))) (h2 : l.stackTraces = false) (d : D9) : MT G l yX11_copyRow cX11_copyRow 2 z_X11_copyRow_14_113 [rf G 14, rf G 113] d (m_X11_copyRow_14_113  d) := by
  refine mt_of (own := RX11) (by decide) rfl (Nat.le_of_ble_eq_true rfl) h1 h2 [(0, rf G 14), (1, rf G 113)] rfl (fun X hX C => ?_)
  unfold m_X11_copyRow_14_113
  refine r_aload_n C 0 dX11_copyRow_0 rfl rfl ?_
  refine r_iconst C dX11_copyRow_1 ?_
  refine r_aload_n C 1 dX11_copyRow_2 rfl rfl ?_
  refine r_iconst C dX11_copyRow_3 ?_
  refine r_aload_n C 0 dX11_copyRow_4 rfl rfl ?_
  refine r_alen C dX11_copyRow_5 la_14 ly_14 ?_
  refine r_aload_n C 1 dX11_copyRow_6 rfl rfl ?_
  refine r_alen C dX11_copyRow_7 la_113 ly_113 ?_
  refine r_mmin C dX11_copyRow_8 mm_X11_465 ⟨Nat.le_of_ble_eq_true rfl, Nat.le_of_ble_eq_true rfl⟩ (by decide) (by decide) ?_
  refine r_acopy C dX11_copyRow_11 aw_X11_470 la_14 ly_14 la_113 ly_113 (by decide) (Nat.le_of_ble_eq_true rfl) (fun d1 => ?_)
  exact r_vret C dX11_copyRow_14 (by decide) (by decide)
theorem n_X11_copyRow_14_113 (d : D9) : NT9 (m_X11_copyRow_14_113  d) := by
  unfold m_X11_copyRow_14_113
  repeat (first | exact nt_rt | exact nt_none | apply nt_if | refine nt_cl ?_ (fun _ _ => ?_) | refine nt_cp9 (fun _ => ?_))
abbrev z_X11_copyRow_15_114 : Z9 := (none, 0, 0, 0, 2, 200)
def m_X11_copyRow_15_114 (d : D9) : Option R9 := cp9 d 15 30 114 30 (min9 30 30) (fun d1 => rt 0 d1)
set_option maxRecDepth 100000 in
theorem t_X11_copyRow_15_114 {G : G9} {l : Launch} (h1 : va_D (A9 G) (wl G (fun _ _ => 0))) (h2 : l.stackTraces = false) (d : D9) : MT G l yX11_copyRow cX11_copyRow 2 z_X11_copyRow_15_114 [rf G 15, rf G 114] d (m_X11_copyRow_15_114  d) := by
  refine mt_of (own := RX11) (by decide) rfl (Nat.le_of_ble_eq_true rfl) h1 h2 [(0, rf G 15), (1, rf G 114)] rfl (fun X hX C => ?_)
  unfold m_X11_copyRow_15_114
  refine r_aload_n C 0 dX11_copyRow_0 rfl rfl ?_
  refine r_iconst C dX11_copyRow_1 ?_
  refine r_aload_n C 1 dX11_copyRow_2 rfl rfl ?_
  refine r_iconst C dX11_copyRow_3 ?_
  refine r_aload_n C 0 dX11_copyRow_4 rfl rfl ?_
  refine r_alen C dX11_copyRow_5 la_15 ly_15 ?_
  refine r_aload_n C 1 dX11_copyRow_6 rfl rfl ?_
  refine r_alen C dX11_copyRow_7 la_114 ly_114 ?_
  refine r_mmin C dX11_copyRow_8 mm_X11_465 ⟨Nat.le_of_ble_eq_true rfl, Nat.le_of_ble_eq_true rfl⟩ (by decide) (by decide) ?_
  refine r_acopy C dX11_copyRow_11 aw_X11_470 la_15 ly_15 la_114 ly_114 (by decide) (Nat.le_of_ble_eq_true rfl) (fun d1 => ?_)
  exact r_vret C dX11_copyRow_14 (by decide) (by decide)
theorem n_X11_copyRow_15_114 (d : D9) : NT9 (m_X11_copyRow_15_114  d) := by
  unfold m_X11_copyRow_15_114
  repeat (first | exact nt_rt | exact nt_none | apply nt_if | refine nt_cl ?_ (fun _ _ => ?_) | refine nt_cp9 (fun _ => ?_))
abbrev z_X11_copyRow_16_115 : Z9 := (none, 0, 0, 0, 2, 200)
def m_X11_copyRow_16_115 (d : D9) : Option R9 := cp9 d 16 30 115 30 (min9 30 30) (fun d1 => rt 0 d1)
set_option maxRecDepth 100000 in
theorem t_X11_copyRow_16_115 {G : G9} {l : Launch} (h1 : va_D (A9 G) (wl G (fun _ _ => 0))) (h2 : l.stackTraces = false) (d : D9) : MT G l yX11_copyRow cX11_copyRow 2 z_X11_copyRow_16_115 [rf G 16, rf G 115] d (m_X11_copyRow_16_115  d) := by
  refine mt_of (own := RX11) (by decide) rfl (Nat.le_of_ble_eq_true rfl) h1 h2 [(0, rf G 16), (1, rf G 115)] rfl (fun X hX C => ?_)
  unfold m_X11_copyRow_16_115
  refine r_aload_n C 0 dX11_copyRow_0 rfl rfl ?_
  refine r_iconst C dX11_copyRow_1 ?_
  refine r_aload_n C 1 dX11_copyRow_2 rfl rfl ?_
  refine r_iconst C dX11_copyRow_3 ?_
  refine r_aload_n C 0 dX11_copyRow_4 rfl rfl ?_
  refine r_alen C dX11_copyRow_5 la_16 ly_16 ?_
  refine r_aload_n C 1 dX11_copyRow_6 rfl rfl ?_
  refine r_alen C dX11_copyRow_7 la_115 ly_115 ?_
  refine r_mmin C dX11_copyRow_8 mm_X11_465 ⟨Nat.le_of_ble_eq_true rfl, Nat.le_of_ble_eq_true rfl⟩ (by decide) (by decide) ?_
  refine r_acopy C dX11_copyRow_11 aw_X11_470 la_16 ly_16 la_115 ly_115 (by decide) (Nat.le_of_ble_eq_true rfl) (fun d1 => ?_)
  exact r_vret C dX11_copyRow_14 (by decide) (by decide)
theorem n_X11_copyRow_16_115 (d : D9) : NT9 (m_X11_copyRow_16_115  d) := by
  unfold m_X11_copyRow_16_115
  repeat (first | exact nt_rt | exact nt_none | apply nt_if | refine nt_cl ?_ (fun _ _ => ?_) | refine nt_cp9 (fun _ => ?_))
abbrev z_X11_copyRow_17_116 : Z9 := (none, 0, 0, 0, 2, 200)
def m_X11_copyRow_17_116 (d : D9) : Option R9 := cp9 d 17 120 116 120 (min9 120 120) (fun d1 => rt 0 d1)
set_option maxRecDepth 100000 in
theorem t_X11_copyRow_17_116 {G : G9} {l : Launch} (h1 : va_D (A9 G) (wl G (fun _ _ => 0))) (h2 : l.stackTraces = false) (d : D9) : MT G l yX11_copyRow cX11_copyRow 2 z_X11_copyRow_17_116 [rf G 17, rf G 116] d (m_X11_copyRow_17_116  d) := by
  refine mt_of (own := RX11) (by decide) rfl (Nat.le_of_ble_eq_true rfl) h1 h2 [(0, rf G 17), (1, rf G 116)] rfl (fun X hX C => ?_)
  unfold m_X11_copyRow_17_116
  refine r_aload_n C 0 dX11_copyRow_0 rfl rfl ?_
  refine r_iconst C dX11_copyRow_1 ?_
  refine r_aload_n C 1 dX11_copyRow_2 rfl rfl ?_
  refine r_iconst C dX11_copyRow_3 ?_
  refine r_aload_n C 0 dX11_copyRow_4 rfl rfl ?_
  refine r_alen C dX11_copyRow_5 la_17 ly_17 ?_
  refine r_aload_n C 1 dX11_copyRow_6 rfl rfl ?_
  refine r_alen C dX11_copyRow_7 la_116 ly_116 ?_
  refine r_mmin C dX11_copyRow_8 mm_X11_465 ⟨Nat.le_of_ble_eq_true rfl, Nat.le_of_ble_eq_true rfl⟩ (by decide) (by decide) ?_
  refine r_acopy C dX11_copyRow_11 aw_X11_470 la_17 ly_17 la_116 ly_116 (by decide) (Nat.le_of_ble_eq_true rfl) (fun d1 => ?_)
  exact r_vret C dX11_copyRow_14 (by decide) (by decide)
theorem n_X11_copyRow_17_116 (d : D9) : NT9 (m_X11_copyRow_17_116  d) := by
  unfold m_X11_copyRow_17_116
  repeat (first | exact nt_rt | exact nt_none | apply nt_if | refine nt_cl ?_ (fun _ _ => ?_) | refine nt_cp9 (fun _ => ?_))
abbrev z_X11_copyRow_18_117 : Z9 := (none, 0, 0, 0, 2, 200)
def m_X11_copyRow_18_117 (d : D9) : Option R9 := cp9 d 18 120 117 120 (min9 120 120) (fun d1 => rt 0 d1)
set_option maxRecDepth 100000 in
theorem t_X11_copyRow_18_117 {G : G9} {l : Launch} (h1 : va_D (A9 G) (wl G (fun _ _ => 0))) (h2 : l.stackTraces = false) (d : D9) : MT G l yX11_copyRow cX11_copyRow 2 z_X11_copyRow_18_117 [rf G 18, rf G 117] d (m_X11_copyRow_18_117  d) := by
  refine mt_of (own := RX11) (by decide) rfl (Nat.le_of_ble_eq_true rfl) h1 h2 [(0, rf G 18), (1, rf G 117)] rfl (fun X hX C => ?_)
  unfold m_X11_copyRow_18_117
  refine r_aload_n C 0 dX11_copyRow_0 rfl rfl ?_
  refine r_iconst C dX11_copyRow_1 ?_
  refine r_aload_n C 1 dX11_copyRow_2 rfl rfl ?_
  refine r_iconst C dX11_copyRow_3 ?_
  refine r_aload_n C 0 dX11_copyRow_4 rfl rfl ?_
  refine r_alen C dX11_copyRow_5 la_18 ly_18 ?_
  refine r_aload_n C 1 dX11_copyRow_6 rfl rfl ?_
  refine r_alen C dX11_copyRow_7 la_117 ly_117 ?_
  refine r_mmin C dX11_copyRow_8 mm_X11_465 ⟨Nat.le_of_ble_eq_true rfl, Nat.le_of_ble_eq_true rfl⟩ (by decide) (by decide) ?_
  refine r_acopy C dX11_copyRow_11 aw_X11_470 la_18 ly_18 la_117 ly_117 (by decide) (Nat.le_of_ble_eq_true rfl) (fun d1 => ?_)
  exact r_vret C dX11_copyRow_14 (by decide) (by decide)
theorem n_X11_copyRow_18_117 (d : D9) : NT9 (m_X11_copyRow_18_117  d) := by
  unfold m_X11_copyRow_18_117
  repeat (first | exact nt_rt | exact nt_none | apply nt_if | refine nt_cl ?_ (fun _ _ => ?_) | refine nt_cp9 (fun _ => ?_))
abbrev z_X11_copyRow_19_118 : Z9 := (none, 0, 0, 0, 2, 200)
def m_X11_copyRow_19_118 (d : D9) : Option R9 := cp9 d 19 120 118 120 (min9 120 120) (fun d1 => rt 0 d1)
set_option maxRecDepth 100000 in
theorem t_X11_copyRow_19_118 {G : G9} {l : Launch} (h1 : va_D (A9 G) (wl G (fun _ _ => 0))) (h2 : l.stackTraces = false) (d : D9) : MT G l yX11_copyRow cX11_copyRow 2 z_X11_copyRow_19_118 [rf G 19, rf G 118] d (m_X11_copyRow_19_118  d) := by
  refine mt_of (own := RX11) (by decide) rfl (Nat.le_of_ble_eq_true rfl) h1 h2 [(0, rf G 19), (1, rf G 118)] rfl (fun X hX C => ?_)
  unfold m_X11_copyRow_19_118
  refine r_aload_n C 0 dX11_copyRow_0 rfl rfl ?_
  refine r_iconst C dX11_copyRow_1 ?_
  refine r_aload_n C 1 dX11_copyRow_2 rfl rfl ?_
  refine r_iconst C dX11_copyRow_3 ?_
  refine r_aload_n C 0 dX11_copyRow_4 rfl rfl ?_
  refine r_alen C dX11_copyRow_5 la_19 ly_19 ?_
  refine r_aload_n C 1 dX11_copyRow_6 rfl rfl ?_
  refine r_alen C dX11_copyRow_7 la_118 ly_118 ?_
  refine r_mmin C dX11_copyRow_8 mm_X11_465 ⟨Nat.le_of_ble_eq_true rfl, Nat.le_of_ble_eq_true rfl⟩ (by decide) (by decide) ?_
  refine r_acopy C dX11_copyRow_11 aw_X11_470 la_19 ly_19 la_118 ly_118 (by decide) (Nat.le_of_ble_eq_true rfl) (fun d1 => ?_)
  exact r_vret C dX11_copyRow_14 (by decide) (by decide)
theorem n_X11_copyRow_19_118 (d : D9) : NT9 (m_X11_copyRow_19_118  d) := by
  unfold m_X11_copyRow_19_118
  repeat (first | exact nt_rt | exact nt_none | apply nt_if | refine nt_cl ?_ (fun _ _ => ?_) | refine nt_cp9 (fun _ => ?_))
abbrev z_X11_copyRow_20_119 : Z9 := (none, 0, 0, 0, 2, 200)
def m_X11_copyRow_20_119 (d : D9) : Option R9 := cp9 d 20 120 119 120 (min9 120 120) (fun d1 => rt 0 d1)
set_option maxRecDepth 100000 in
theorem t_X11_copyRow_20_119 {G : G9} {l : Launch} (h1 : va_D (A9 G) (wl G (fun _ _ => 0))) (h2 : l.stackTraces = false) (d : D9) : MT G l yX11_copyRow cX11_copyRow 2 z_X11_copyRow_20_119 [rf G 20, rf G 119] d (m_X11_copyRow_20_119  d) := by
  refine mt_of (own := RX11) (by decide) rfl (Nat.le_of_ble_eq_true rfl) h1 h2 [(0, rf G 20), (1, rf G 119)] rfl (fun X hX C => ?_)
  unfold m_X11_copyRow_20_119
  refine r_aload_n C 0 dX11_copyRow_0 rfl rfl ?_
  refine r_iconst C dX11_copyRow_1 ?_
  refine r_aload_n C 1 dX11_copyRow_2 rfl rfl ?_
  refine r_iconst C dX11_copyRow_3 ?_
  refine r_aload_n C 0 dX11_copyRow_4 rfl rfl ?_
  refine r_alen C dX11_copyRow_5 la_20 ly_20 ?_
  refine r_aload_n C 1 dX11_copyRow_6 rfl rfl ?_
  refine r_alen C dX11_copyRow_7 la_119 ly_119 ?_
  refine r_mmin C dX11_copyRow_8 mm_X11_465 ⟨Nat.le_of_ble_eq_true rfl, Nat.le_of_ble_eq_true rfl⟩ (by decide) (by decide) ?_
  refine r_acopy C dX11_copyRow_11 aw_X11_470 la_20 ly_20 la_119 ly_119 (by decide) (Nat.le_of_ble_eq_true rfl) (fun d1 => ?_)
  exact r_vret C dX11_copyRow_14 (by decide) (by decide)
theorem n_X11_copyRow_20_119 (d : D9) : NT9 (m_X11_copyRow_20_119  d) := by
  unfold m_X11_copyRow_20_119
  repeat (first | exact nt_rt | exact nt_none | apply nt_if | refine nt_cl ?_ (fun _ _ => ?_) | refine nt_cp9 (fun _ => ?_))
abbrev z_X11_copyRow_21_120 : Z9 := (none, 0, 0, 0, 2, 200)
def m_X11_copyRow_21_120 (d : D9) : Option R9 := cp9 d 21 120 120 120 (min9 120 120) (fun d1 => rt 0 d1)
set_option maxRecDepth 100000 in
theorem t_X11_copyRow_21_120 {G : G9} {l : Launch} (h1 : va_D (A9 G) (wl G (fun _ _ => 0))) (h2 : l.stackTraces = false) (d : D9) : MT G l yX11_copyRow cX11_copyRow 2 z_X11_copyRow_21_120 [rf G 21, rf G 120] d (m_X11_copyRow_21_120  d) := by
  refine mt_of (own := RX11) (by decide) rfl (Nat.le_of_ble_eq_true rfl) h1 h2 [(0, rf G 21), (1, rf G 120)] rfl (fun X hX C => ?_)
  unfold m_X11_copyRow_21_120
  refine r_aload_n C 0 dX11_copyRow_0 rfl rfl ?_
  refine r_iconst C dX11_copyRow_1 ?_
  refine r_aload_n C 1 dX11_copyRow_2 rfl rfl ?_
  refine r_iconst C dX11_copyRow_3 ?_
  refine r_aload_n C 0 dX11_copyRow_4 rfl rfl ?_
  refine r_alen C dX11_copyRow_5 la_21 ly_21 ?_
  refine r_aload_n C 1 dX11_copyRow_6 rfl rfl ?_
  refine r_alen C dX11_copyRow_7 la_120 ly_120 ?_
  refine r_mmin C dX11_copyRow_8 mm_X11_465 ⟨Nat.le_of_ble_eq_true rfl, Nat.le_of_ble_eq_true rfl⟩ (by decide) (by decide) ?_
  refine r_acopy C dX11_copyRow_11 aw_X11_470 la_21 ly_21 la_120 ly_120 (by decide) (Nat.le_of_ble_eq_true rfl) (fun d1 => ?_)
  exact r_vret C dX11_copyRow_14 (by decide) (by decide)
theorem n_X11_copyRow_21_120 (d : D9) : NT9 (m_X11_copyRow_21_120  d) := by
  unfold m_X11_copyRow_21_120
  repeat (first | exact nt_rt | exact nt_none | apply nt_if | refine nt_cl ?_ (fun _ _ => ?_) | refine nt_cp9 (fun _ => ?_))
abbrev z_X6_copyFrom_108_9 : Z9 := (none, 0, 0, 0, 3, 221)
def m_X6_copyFrom_108_9 (d : D9) : Option R9 := pf d 108 0 (d 9 0) (fun d1 => cl (m_X11_copyRow_10_109 d1) (fun r2 d3 => cl (m_X11_copyRow_11_110 d3) (fun r4 d5 => cl (m_X11_copyRow_12_111 d5) (fun r6 d7 => cl (m_X11_copyRow_13_112 d7) (fun r8 d9 => cl (m_X11_copyRow_14_113 d9) (fun r10 d11 => cl (m_X11_copyRow_15_114 d11) (fun r12 d13 => cl (m_X11_copyRow_16_115 d13) (fun r14 d15 => cl (m_X11_copyRow_17_116 d15) (fun r16 d17 => cl (m_X11_copyRow_18_117 d17) (fun r18 d19 => cl (m_X11_copyRow_19_118 d19) (fun r20 d21 => cl (m_X11_copyRow_20_119 d21) (fun r22 d23 => cl (m_X11_copyRow_21_120 d23) (fun r24 d25 => rt 0 d25)))))))))))))
set_option maxRecDepth 100000 in
theorem t_X6_copyFrom_108_9 {G : G9} {l : Launch} (h1 : va_D (A9 G) (wl G (fun _ _ => 0))) (h2 : l.stackTraces = false) (d : D9) : MT G l yX6_copyFrom cX6_copyFrom 2 z_X6_copyFrom_108_9 [rf G 108, rf G 9] d (m_X6_copyFrom_108_9  d) := by
  refine mt_of (own := RX6) (by decide) rfl (Nat.le_of_ble_eq_true rfl) h1 h2 [(0, rf G 108), (1, rf G 9)] rfl (fun X hX C => ?_)
  unfold m_X6_copyFrom_108_9
  refine r_aload_n C 0 dX6_copyFrom_0 rfl rfl ?_
  refine r_aload_n C 1 dX6_copyFrom_1 rfl rfl ?_
  refine r_getI C dX6_copyFrom_2 fl_X6_48 la_9 ly_9 rfl ?_
  refine r_putI C dX6_copyFrom_5 fp_X6_48 la_108 ly_108 rfl (fun d1 => ?_)
  refine r_aload_n C 1 dX6_copyFrom_8 rfl rfl ?_
  refine r_getR C 10 dX6_copyFrom_9 fl_X6_9 la_9 ly_9 rfl rfl ?_
  refine r_aload_n C 0 dX6_copyFrom_12 rfl rfl ?_
  refine r_getR C 109 dX6_copyFrom_13 fl_X6_9 la_108 ly_108 rfl rfl ?_
  refine r_callN C [rf G 109, rf G 10] dX6_copyFrom_16 (t_X11_copyRow_10_109 C.h1 C.h2 d1) (n_X11_copyRow_10_109 d1) mn_X6_52 ms_X11_copyRow (by decide) (by decide) (by decide) rfl rfl (Nat.le_of_ble_eq_true rfl) (fun r2 d3 => ?_)
  show SS G X 2 _ _ 19 [(0, rf G 108), (1, rf G 9)] [] d3 _
  refine r_aload_n C 1 dX6_copyFrom_19 rfl rfl ?_
  refine r_getR C 11 dX6_copyFrom_20 fl_X6_15 la_9 ly_9 rfl rfl ?_
  refine r_aload_n C 0 dX6_copyFrom_23 rfl rfl ?_
  refine r_getR C 110 dX6_copyFrom_24 fl_X6_15 la_108 ly_108 rfl rfl ?_
  refine r_callN C [rf G 110, rf G 11] dX6_copyFrom_27 (t_X11_copyRow_11_110 C.h1 C.h2 d3) (n_X11_copyRow_11_110 d3) mn_X6_52 ms_X11_copyRow (by decide) (by decide) (by decide) rfl rfl (Nat.le_of_ble_eq_true rfl) (fun r4 d5 => ?_)
  show SS G X 2 _ _ 30 [(0, rf G 108), (1, rf G 9)] [] d5 _
  refine r_aload_n C 1 dX6_copyFrom_30 rfl rfl ?_
  refine r_getR C 12 dX6_copyFrom_31 fl_X6_18 la_9 ly_9 rfl rfl ?_
  refine r_aload_n C 0 dX6_copyFrom_34 rfl rfl ?_
  refine r_getR C 111 dX6_copyFrom_35 fl_X6_18 la_108 ly_108 rfl rfl ?_
  refine r_callN C [rf G 111, rf G 12] dX6_copyFrom_38 (t_X11_copyRow_12_111 C.h1 C.h2 d5) (n_X11_copyRow_12_111 d5) mn_X6_52 ms_X11_copyRow (by decide) (by decide) (by decide) rfl rfl (Nat.le_of_ble_eq_true rfl) (fun r6 d7 => ?_)
  show SS G X 2 _ _ 41 [(0, rf G 108), (1, rf G 9)] [] d7 _
  refine r_aload_n C 1 dX6_copyFrom_41 rfl rfl ?_
  refine r_getR C 13 dX6_copyFrom_42 fl_X6_21 la_9 ly_9 rfl rfl ?_
  refine r_aload_n C 0 dX6_copyFrom_45 rfl rfl ?_
  refine r_getR C 112 dX6_copyFrom_46 fl_X6_21 la_108 ly_108 rfl rfl ?_
  refine r_callN C [rf G 112, rf G 13] dX6_copyFrom_49 (t_X11_copyRow_13_112 C.h1 C.h2 d7) (n_X11_copyRow_13_112 d7) mn_X6_52 ms_X11_copyRow (by decide) (by decide) (by decide) rfl rfl (Nat.le_of_ble_eq_true rfl) (fun r8 d9 => ?_)
  show SS G X 2 _ _ 52 [(0, rf G 108), (1, rf G 9)] [] d9 _
  refine r_aload_n C 1 dX6_copyFrom_52 rfl rfl ?_
  refine r_getR C 14 dX6_copyFrom_53 fl_X6_24 la_9 ly_9 rfl rfl ?_
  refine r_aload_n C 0 dX6_copyFrom_56 rfl rfl ?_
  refine r_getR C 113 dX6_copyFrom_57 fl_X6_24 la_108 ly_108 rfl rfl ?_
  refine r_callN C [rf G 113, rf G 14] dX6_copyFrom_60 (t_X11_copyRow_14_113 C.h1 C.h2 d9) (n_X11_copyRow_14_113 d9) mn_X6_52 ms_X11_copyRow (by decide) (by decide) (by decide) rfl rfl (Nat.le_of_ble_eq_true rfl) (fun r10 d11 => ?_)
  show SS G X 2 _ _ 63 [(0, rf G 108), (1, rf G 9)] [] d11 _
  refine r_aload_n C 1 dX6_copyFrom_63 rfl rfl ?_
  refine r_getR C 15 dX6_copyFrom_64 fl_X6_27 la_9 ly_9 rfl rfl ?_
  refine r_aload_n C 0 dX6_copyFrom_67 rfl rfl ?_
  refine r_getR C 114 dX6_copyFrom_68 fl_X6_27 la_108 ly_108 rfl rfl ?_
  refine r_callN C [rf G 114, rf G 15] dX6_copyFrom_71 (t_X11_copyRow_15_114 C.h1 C.h2 d11) (n_X11_copyRow_15_114 d11) mn_X6_52 ms_X11_copyRow (by decide) (by decide) (by decide) rfl rfl (Nat.le_of_ble_eq_true rfl) (fun r12 d13 => ?_)
  show SS G X 2 _ _ 74 [(0, rf G 108), (1, rf G 9)] [] d13 _
  refine r_aload_n C 1 dX6_copyFrom_74 rfl rfl ?_
  refine r_getR C 16 dX6_copyFrom_75 fl_X6_30 la_9 ly_9 rfl rfl ?_
  refine r_aload_n C 0 dX6_copyFrom_78 rfl rfl ?_
  refine r_getR C 115 dX6_copyFrom_79 fl_X6_30 la_108 ly_108 rfl rfl ?_
  refine r_callN C [rf G 115, rf G 16] dX6_copyFrom_82 (t_X11_copyRow_16_115 C.h1 C.h2 d13) (n_X11_copyRow_16_115 d13) mn_X6_52 ms_X11_copyRow (by decide) (by decide) (by decide) rfl rfl (Nat.le_of_ble_eq_true rfl) (fun r14 d15 => ?_)
  show SS G X 2 _ _ 85 [(0, rf G 108), (1, rf G 9)] [] d15 _
  refine r_aload_n C 1 dX6_copyFrom_85 rfl rfl ?_
  refine r_getR C 17 dX6_copyFrom_86 fl_X6_33 la_9 ly_9 rfl rfl ?_
  refine r_aload_n C 0 dX6_copyFrom_89 rfl rfl ?_
  refine r_getR C 116 dX6_copyFrom_90 fl_X6_33 la_108 ly_108 rfl rfl ?_
  refine r_callN C [rf G 116, rf G 17] dX6_copyFrom_93 (t_X11_copyRow_17_116 C.h1 C.h2 d15) (n_X11_copyRow_17_116 d15) mn_X6_52 ms_X11_copyRow (by decide) (by decide) (by decide) rfl rfl (Nat.le_of_ble_eq_true rfl) (fun r16 d17 => ?_)
  show SS G X 2 _ _ 96 [(0, rf G 108), (1, rf G 9)] [] d17 _
  refine r_aload_n C 1 dX6_copyFrom_96 rfl rfl ?_
  refine r_getR C 18 dX6_copyFrom_97 fl_X6_36 la_9 ly_9 rfl rfl ?_
  refine r_aload_n C 0 dX6_copyFrom_100 rfl rfl ?_
  refine r_getR C 117 dX6_copyFrom_101 fl_X6_36 la_108 ly_108 rfl rfl ?_
  refine r_callN C [rf G 117, rf G 18] dX6_copyFrom_104 (t_X11_copyRow_18_117 C.h1 C.h2 d17) (n_X11_copyRow_18_117 d17) mn_X6_52 ms_X11_copyRow (by decide) (by decide) (by decide) rfl rfl (Nat.le_of_ble_eq_true rfl) (fun r18 d19 => ?_)
  show SS G X 2 _ _ 107 [(0, rf G 108), (1, rf G 9)] [] d19 _
  refine r_aload_n C 1 dX6_copyFrom_107 rfl rfl ?_
  refine r_getR C 19 dX6_copyFrom_108 fl_X6_39 la_9 ly_9 rfl rfl ?_
  refine r_aload_n C 0 dX6_copyFrom_111 rfl rfl ?_
  refine r_getR C 118 dX6_copyFrom_112 fl_X6_39 la_108 ly_108 rfl rfl ?_
  refine r_callN C [rf G 118, rf G 19] dX6_copyFrom_115 (t_X11_copyRow_19_118 C.h1 C.h2 d19) (n_X11_copyRow_19_118 d19) mn_X6_52 ms_X11_copyRow (by decide) (by decide) (by decide) rfl rfl (Nat.le_of_ble_eq_true rfl) (fun r20 d21 => ?_)
  show SS G X 2 _ _ 118 [(0, rf G 108), (1, rf G 9)] [] d21 _
  refine r_aload_n C 1 dX6_copyFrom_118 rfl rfl ?_
  refine r_getR C 20 dX6_copyFrom_119 fl_X6_42 la_9 ly_9 rfl rfl ?_
  refine r_aload_n C 0 dX6_copyFrom_122 rfl rfl ?_
  refine r_getR C 119 dX6_copyFrom_123 fl_X6_42 la_108 ly_108 rfl rfl ?_
  refine r_callN C [rf G 119, rf G 20] dX6_copyFrom_126 (t_X11_copyRow_20_119 C.h1 C.h2 d21) (n_X11_copyRow_20_119 d21) mn_X6_52 ms_X11_copyRow (by decide) (by decide) (by decide) rfl rfl (Nat.le_of_ble_eq_true rfl) (fun r22 d23 => ?_)
  show SS G X 2 _ _ 129 [(0, rf G 108), (1, rf G 9)] [] d23 _
  refine r_aload_n C 1 dX6_copyFrom_129 rfl rfl ?_
  refine r_getR C 21 dX6_copyFrom_130 fl_X6_45 la_9 ly_9 rfl rfl ?_
  refine r_aload_n C 0 dX6_copyFrom_133 rfl rfl ?_
  refine r_getR C 120 dX6_copyFrom_134 fl_X6_45 la_108 ly_108 rfl rfl ?_
  refine r_callN C [rf G 120, rf G 21] dX6_copyFrom_137 (t_X11_copyRow_21_120 C.h1 C.h2 d23) (n_X11_copyRow_21_120 d23) mn_X6_52 ms_X11_copyRow (by decide) (by decide) (by decide) rfl rfl (Nat.le_of_ble_eq_true rfl) (fun r24 d25 => ?_)
  show SS G X 2 _ _ 140 [(0, rf G 108), (1, rf G 9)] [] d25 _
  exact r_vret C dX6_copyFrom_140 (by decide) (by decide)
abbrev z_X2_copyFrom_121_22 : Z9 := (none, 0, 0, 0, 1, 0)
def m_X2_copyFrom_121_22 (d : D9) : Option R9 := pf d 121 0 (d 22 0) (fun d1 => pf d1 121 1 (d1 22 1) (fun d2 => pf d2 121 2 (d2 22 2) (fun d3 => pf d3 121 3 (d3 22 3) (fun d4 => pf d4 121 4 (d4 22 4) (fun d5 => pf d5 121 5 (d5 22 5) (fun d6 => pf d6 121 6 (d6 22 6) (fun d7 => pf d7 121 7 (d7 22 7) (fun d8 => rt 0 d8))))))))
set_option maxRecDepth 100000 in
theorem t_X2_copyFrom_121_22 {G : G9} {l : Launch} (h1 : va_D (A9 G) (wl G (fun _ _ => 0))) (h2 : l.stackTraces = false) (d : D9) : MT G l yX2_copyFrom cX2_copyFrom 2 z_X2_copyFrom_121_22 [rf G 121, rf G 22] d (m_X2_copyFrom_121_22  d) := by
  refine mt_of (own := RX2) (by decide) rfl (Nat.le_of_ble_eq_true rfl) h1 h2 [(0, rf G 121), (1, rf G 22)] rfl (fun X hX C => ?_)
  unfold m_X2_copyFrom_121_22
  refine r_aload_n C 0 dX2_copyFrom_0 rfl rfl ?_
  refine r_aload_n C 1 dX2_copyFrom_1 rfl rfl ?_
  refine r_getI C dX2_copyFrom_2 fl_X2_14 la_22 ly_22 rfl ?_
  refine r_putI C dX2_copyFrom_5 fp_X2_14 la_121 ly_121 rfl (fun d1 => ?_)
  refine r_aload_n C 0 dX2_copyFrom_8 rfl rfl ?_
  refine r_aload_n C 1 dX2_copyFrom_9 rfl rfl ?_
  refine r_getI C dX2_copyFrom_10 fl_X2_18 la_22 ly_22 rfl ?_
  refine r_putI C dX2_copyFrom_13 fp_X2_18 la_121 ly_121 rfl (fun d2 => ?_)
  refine r_aload_n C 0 dX2_copyFrom_16 rfl rfl ?_
  refine r_aload_n C 1 dX2_copyFrom_17 rfl rfl ?_
  refine r_getI C dX2_copyFrom_18 fl_X2_21 la_22 ly_22 rfl ?_
  refine r_putI C dX2_copyFrom_21 fp_X2_21 la_121 ly_121 rfl (fun d3 => ?_)
  refine r_aload_n C 0 dX2_copyFrom_24 rfl rfl ?_
  refine r_aload_n C 1 dX2_copyFrom_25 rfl rfl ?_
  refine r_getI C dX2_copyFrom_26 fl_X2_24 la_22 ly_22 rfl ?_
  refine r_putI C dX2_copyFrom_29 fp_X2_24 la_121 ly_121 rfl (fun d4 => ?_)
  refine r_aload_n C 0 dX2_copyFrom_32 rfl rfl ?_
  refine r_aload_n C 1 dX2_copyFrom_33 rfl rfl ?_
  refine r_getI C dX2_copyFrom_34 fl_X2_27 la_22 ly_22 rfl ?_
  refine r_putI C dX2_copyFrom_37 fp_X2_27 la_121 ly_121 rfl (fun d5 => ?_)
  refine r_aload_n C 0 dX2_copyFrom_40 rfl rfl ?_
  refine r_aload_n C 1 dX2_copyFrom_41 rfl rfl ?_
  refine r_getI C dX2_copyFrom_42 fl_X2_30 la_22 ly_22 rfl ?_
  refine r_putI C dX2_copyFrom_45 fp_X2_30 la_121 ly_121 rfl (fun d6 => ?_)
  refine r_aload_n C 0 dX2_copyFrom_48 rfl rfl ?_
  refine r_aload_n C 1 dX2_copyFrom_49 rfl rfl ?_
  refine r_getI C dX2_copyFrom_50 fl_X2_33 la_22 ly_22 rfl ?_
  refine r_putI C dX2_copyFrom_53 fp_X2_33 la_121 ly_121 rfl (fun d7 => ?_)
  refine r_aload_n C 0 dX2_copyFrom_56 rfl rfl ?_
  refine r_aload_n C 1 dX2_copyFrom_57 rfl rfl ?_
  refine r_getI C dX2_copyFrom_58 fl_X2_36 la_22 ly_22 rfl ?_
  refine r_putI C dX2_copyFrom_61 fp_X2_36 la_121 ly_121 rfl (fun d8 => ?_)
  exact r_vret C dX2_copyFrom_64 (by decide) (by decide)
abbrev z_X11_copyRow_24_123 : Z9 := (none, 0, 0, 0, 2, 200)
def m_X11_copyRow_24_123 (d : D9) : Option R9 := cp9 d 24 12 123 12 (min9 12 12) (fun d1 => rt 0 d1)
set_option maxRecDepth 100000 in
theorem t_X11_copyRow_24_123 {G : G9} {l : Launch} (h1 : va_D (A9 G) (wl G (fun _ _ => 0))) (h2 : l.stackTraces = false) (d : D9) : MT G l yX11_copyRow cX11_copyRow 2 z_X11_copyRow_24_123 [rf G 24, rf G 123] d (m_X11_copyRow_24_123  d) := by
  refine mt_of (own := RX11) (by decide) rfl (Nat.le_of_ble_eq_true rfl) h1 h2 [(0, rf G 24), (1, rf G 123)] rfl (fun X hX C => ?_)
  unfold m_X11_copyRow_24_123
  refine r_aload_n C 0 dX11_copyRow_0 rfl rfl ?_
  refine r_iconst C dX11_copyRow_1 ?_
  refine r_aload_n C 1 dX11_copyRow_2 rfl rfl ?_
  refine r_iconst C dX11_copyRow_3 ?_
  refine r_aload_n C 0 dX11_copyRow_4 rfl rfl ?_
  refine r_alen C dX11_copyRow_5 la_24 ly_24 ?_
  refine r_aload_n C 1 dX11_copyRow_6 rfl rfl ?_
  refine r_alen C dX11_copyRow_7 la_123 ly_123 ?_
  refine r_mmin C dX11_copyRow_8 mm_X11_465 ⟨Nat.le_of_ble_eq_true rfl, Nat.le_of_ble_eq_true rfl⟩ (by decide) (by decide) ?_
  refine r_acopy C dX11_copyRow_11 aw_X11_470 la_24 ly_24 la_123 ly_123 (by decide) (Nat.le_of_ble_eq_true rfl) (fun d1 => ?_)
  exact r_vret C dX11_copyRow_14 (by decide) (by decide)
theorem n_X11_copyRow_24_123 (d : D9) : NT9 (m_X11_copyRow_24_123  d) := by
  unfold m_X11_copyRow_24_123
  repeat (first | exact nt_rt | exact nt_none | apply nt_if | refine nt_cl ?_ (fun _ _ => ?_) | refine nt_cp9 (fun _ => ?_))
abbrev z_X11_copyRow_25_124 : Z9 := (none, 0, 0, 0, 2, 200)
def m_X11_copyRow_25_124 (d : D9) : Option R9 := cp9 d 25 12 124 12 (min9 12 12) (fun d1 => rt 0 d1)
set_option maxRecDepth 100000 in
theorem t_X11_copyRow_25_124 {G : G9} {l : Launch} (h1 : va_D (A9 G) (wl G (fun _ _ => 0))) (h2 : l.stackTraces = false) (d : D9) : MT G l yX11_copyRow cX11_copyRow 2 z_X11_copyRow_25_124 [rf G 25, rf G 124] d (m_X11_copyRow_25_124  d) := by
  refine mt_of (own := RX11) (by decide) rfl (Nat.le_of_ble_eq_true rfl) h1 h2 [(0, rf G 25), (1, rf G 124)] rfl (fun X hX C => ?_)
  unfold m_X11_copyRow_25_124
  refine r_aload_n C 0 dX11_copyRow_0 rfl rfl ?_
  refine r_iconst C dX11_copyRow_1 ?_
  refine r_aload_n C 1 dX11_copyRow_2 rfl rfl ?_
  refine r_iconst C dX11_copyRow_3 ?_
  refine r_aload_n C 0 dX11_copyRow_4 rfl rfl ?_
  refine r_alen C dX11_copyRow_5 la_25 ly_25 ?_
  refine r_aload_n C 1 dX11_copyRow_6 rfl rfl ?_
  refine r_alen C dX11_copyRow_7 la_124 ly_124 ?_
  refine r_mmin C dX11_copyRow_8 mm_X11_465 ⟨Nat.le_of_ble_eq_true rfl, Nat.le_of_ble_eq_true rfl⟩ (by decide) (by decide) ?_
  refine r_acopy C dX11_copyRow_11 aw_X11_470 la_25 ly_25 la_124 ly_124 (by decide) (Nat.le_of_ble_eq_true rfl) (fun d1 => ?_)
  exact r_vret C dX11_copyRow_14 (by decide) (by decide)
theorem n_X11_copyRow_25_124 (d : D9) : NT9 (m_X11_copyRow_25_124  d) := by
  unfold m_X11_copyRow_25_124
  repeat (first | exact nt_rt | exact nt_none | apply nt_if | refine nt_cl ?_ (fun _ _ => ?_) | refine nt_cp9 (fun _ => ?_))
abbrev z_X11_copyRow_26_125 : Z9 := (none, 0, 0, 0, 2, 200)
def m_X11_copyRow_26_125 (d : D9) : Option R9 := cp9 d 26 12 125 12 (min9 12 12) (fun d1 => rt 0 d1)
set_option maxRecDepth 100000 in
theorem t_X11_copyRow_26_125 {G : G9} {l : Launch} (h1 : va_D (A9 G) (wl G (fun _ _ => 0))) (h2 : l.stackTraces = false) (d : D9) : MT G l yX11_copyRow cX11_copyRow 2 z_X11_copyRow_26_125 [rf G 26, rf G 125] d (m_X11_copyRow_26_125  d) := by
  refine mt_of (own := RX11) (by decide) rfl (Nat.le_of_ble_eq_true rfl) h1 h2 [(0, rf G 26), (1, rf G 125)] rfl (fun X hX C => ?_)
  unfold m_X11_copyRow_26_125
  refine r_aload_n C 0 dX11_copyRow_0 rfl rfl ?_
  refine r_iconst C dX11_copyRow_1 ?_
  refine r_aload_n C 1 dX11_copyRow_2 rfl rfl ?_
  refine r_iconst C dX11_copyRow_3 ?_
  refine r_aload_n C 0 dX11_copyRow_4 rfl rfl ?_
  refine r_alen C dX11_copyRow_5 la_26 ly_26 ?_
  refine r_aload_n C 1 dX11_copyRow_6 rfl rfl ?_
  refine r_alen C dX11_copyRow_7 la_125 ly_125 ?_
  refine r_mmin C dX11_copyRow_8 mm_X11_465 ⟨Nat.le_of_ble_eq_true rfl, Nat.le_of_ble_eq_true rfl⟩ (by decide) (by decide) ?_
  refine r_acopy C dX11_copyRow_11 aw_X11_470 la_26 ly_26 la_125 ly_125 (by decide) (Nat.le_of_ble_eq_true rfl) (fun d1 => ?_)
  exact r_vret C dX11_copyRow_14 (by decide) (by decide)
theorem n_X11_copyRow_26_125 (d : D9) : NT9 (m_X11_copyRow_26_125  d) := by
  unfold m_X11_copyRow_26_125
  repeat (first | exact nt_rt | exact nt_none | apply nt_if | refine nt_cl ?_ (fun _ _ => ?_) | refine nt_cp9 (fun _ => ?_))
abbrev z_X11_copyRow_27_126 : Z9 := (none, 0, 0, 0, 2, 200)
def m_X11_copyRow_27_126 (d : D9) : Option R9 := cp9 d 27 12 126 12 (min9 12 12) (fun d1 => rt 0 d1)
set_option maxRecDepth 100000 in
theorem t_X11_copyRow_27_126 {G : G9} {l : Launch} (h1 : va_D (A9 G) (wl G (fun _ _ => 0))) (h2 : l.stackTraces = false) (d : D9) : MT G l yX11_copyRow cX11_copyRow 2 z_X11_copyRow_27_126 [rf G 27, rf G 126] d (m_X11_copyRow_27_126  d) := by
  refine mt_of (own := RX11) (by decide) rfl (Nat.le_of_ble_eq_true rfl) h1 h2 [(0, rf G 27), (1, rf G 126)] rfl (fun X hX C => ?_)
  unfold m_X11_copyRow_27_126
  refine r_aload_n C 0 dX11_copyRow_0 rfl rfl ?_
  refine r_iconst C dX11_copyRow_1 ?_
  refine r_aload_n C 1 dX11_copyRow_2 rfl rfl ?_
  refine r_iconst C dX11_copyRow_3 ?_
  refine r_aload_n C 0 dX11_copyRow_4 rfl rfl ?_
  refine r_alen C dX11_copyRow_5 la_27 ly_27 ?_
  refine r_aload_n C 1 dX11_copyRow_6 rfl rfl ?_
  refine r_alen C dX11_copyRow_7 la_126 ly_126 ?_
  refine r_mmin C dX11_copyRow_8 mm_X11_465 ⟨Nat.le_of_ble_eq_true rfl, Nat.le_of_ble_eq_true rfl⟩ (by decide) (by decide) ?_
  refine r_acopy C dX11_copyRow_11 aw_X11_470 la_27 ly_27 la_126 ly_126 (by decide) (Nat.le_of_ble_eq_true rfl) (fun d1 => ?_)
  exact r_vret C dX11_copyRow_14 (by decide) (by decide)
theorem n_X11_copyRow_27_126 (d : D9) : NT9 (m_X11_copyRow_27_126  d) := by
  unfold m_X11_copyRow_27_126
  repeat (first | exact nt_rt | exact nt_none | apply nt_if | refine nt_cl ?_ (fun _ _ => ?_) | refine nt_cp9 (fun _ => ?_))
abbrev z_X7_copyFrom_122_23 : Z9 := (none, 0, 0, 0, 3, 221)
def m_X7_copyFrom_122_23 (d : D9) : Option R9 := pf d 122 0 (d 23 0) (fun d1 => cl (m_X11_copyRow_24_123 d1) (fun r2 d3 => cl (m_X11_copyRow_25_124 d3) (fun r4 d5 => cl (m_X11_copyRow_26_125 d5) (fun r6 d7 => cl (m_X11_copyRow_27_126 d7) (fun r8 d9 => rt 0 d9)))))
set_option maxRecDepth 100000 in
theorem t_X7_copyFrom_122_23 {G : G9} {l : Launch} (h1 : va_D (A9 G) (wl G (fun _ _ => 0))) (h2 : l.stackTraces = false) (d : D9) : MT G l yX7_copyFrom cX7_copyFrom 2 z_X7_copyFrom_122_23 [rf G 122, rf G 23] d (m_X7_copyFrom_122_23  d) := by
  refine mt_of (own := RX7) (by decide) rfl (Nat.le_of_ble_eq_true rfl) h1 h2 [(0, rf G 122), (1, rf G 23)] rfl (fun X hX C => ?_)
  unfold m_X7_copyFrom_122_23
  refine r_aload_n C 0 dX7_copyFrom_0 rfl rfl ?_
  refine r_aload_n C 1 dX7_copyFrom_1 rfl rfl ?_
  refine r_getI C dX7_copyFrom_2 fl_X7_24 la_23 ly_23 rfl ?_
  refine r_putI C dX7_copyFrom_5 fp_X7_24 la_122 ly_122 rfl (fun d1 => ?_)
  refine r_aload_n C 1 dX7_copyFrom_8 rfl rfl ?_
  refine r_getR C 24 dX7_copyFrom_9 fl_X7_9 la_23 ly_23 rfl rfl ?_
  refine r_aload_n C 0 dX7_copyFrom_12 rfl rfl ?_
  refine r_getR C 123 dX7_copyFrom_13 fl_X7_9 la_122 ly_122 rfl rfl ?_
  refine r_callN C [rf G 123, rf G 24] dX7_copyFrom_16 (t_X11_copyRow_24_123 C.h1 C.h2 d1) (n_X11_copyRow_24_123 d1) mn_X7_28 ms_X11_copyRow (by decide) (by decide) (by decide) rfl rfl (Nat.le_of_ble_eq_true rfl) (fun r2 d3 => ?_)
  show SS G X 2 _ _ 19 [(0, rf G 122), (1, rf G 23)] [] d3 _
  refine r_aload_n C 1 dX7_copyFrom_19 rfl rfl ?_
  refine r_getR C 25 dX7_copyFrom_20 fl_X7_15 la_23 ly_23 rfl rfl ?_
  refine r_aload_n C 0 dX7_copyFrom_23 rfl rfl ?_
  refine r_getR C 124 dX7_copyFrom_24 fl_X7_15 la_122 ly_122 rfl rfl ?_
  refine r_callN C [rf G 124, rf G 25] dX7_copyFrom_27 (t_X11_copyRow_25_124 C.h1 C.h2 d3) (n_X11_copyRow_25_124 d3) mn_X7_28 ms_X11_copyRow (by decide) (by decide) (by decide) rfl rfl (Nat.le_of_ble_eq_true rfl) (fun r4 d5 => ?_)
  show SS G X 2 _ _ 30 [(0, rf G 122), (1, rf G 23)] [] d5 _
  refine r_aload_n C 1 dX7_copyFrom_30 rfl rfl ?_
  refine r_getR C 26 dX7_copyFrom_31 fl_X7_18 la_23 ly_23 rfl rfl ?_
  refine r_aload_n C 0 dX7_copyFrom_34 rfl rfl ?_
  refine r_getR C 125 dX7_copyFrom_35 fl_X7_18 la_122 ly_122 rfl rfl ?_
  refine r_callN C [rf G 125, rf G 26] dX7_copyFrom_38 (t_X11_copyRow_26_125 C.h1 C.h2 d5) (n_X11_copyRow_26_125 d5) mn_X7_28 ms_X11_copyRow (by decide) (by decide) (by decide) rfl rfl (Nat.le_of_ble_eq_true rfl) (fun r6 d7 => ?_)
  show SS G X 2 _ _ 41 [(0, rf G 122), (1, rf G 23)] [] d7 _
  refine r_aload_n C 1 dX7_copyFrom_41 rfl rfl ?_
  refine r_getR C 27 dX7_copyFrom_42 fl_X7_21 la_23 ly_23 rfl rfl ?_
  refine r_aload_n C 0 dX7_copyFrom_45 rfl rfl ?_
  refine r_getR C 126 dX7_copyFrom_46 fl_X7_21 la_122 ly_122 rfl rfl ?_
  refine r_callN C [rf G 126, rf G 27] dX7_copyFrom_49 (t_X11_copyRow_27_126 C.h1 C.h2 d7) (n_X11_copyRow_27_126 d7) mn_X7_28 ms_X11_copyRow (by decide) (by decide) (by decide) rfl rfl (Nat.le_of_ble_eq_true rfl) (fun r8 d9 => ?_)
  show SS G X 2 _ _ 52 [(0, rf G 122), (1, rf G 23)] [] d9 _
  exact r_vret C dX7_copyFrom_52 (by decide) (by decide)
abbrev z_X11_copyRow_29_128 : Z9 := (none, 0, 0, 0, 2, 200)
def m_X11_copyRow_29_128 (d : D9) : Option R9 := cp9 d 29 12 128 12 (min9 12 12) (fun d1 => rt 0 d1)
set_option maxRecDepth 100000 in
theorem t_X11_copyRow_29_128 {G : G9} {l : Launch} (h1 : va_D (A9 G) (wl G (fun _ _ => 0))) (h2 : l.stackTraces = false) (d : D9) : MT G l yX11_copyRow cX11_copyRow 2 z_X11_copyRow_29_128 [rf G 29, rf G 128] d (m_X11_copyRow_29_128  d) := by
  refine mt_of (own := RX11) (by decide) rfl (Nat.le_of_ble_eq_true rfl) h1 h2 [(0, rf G 29), (1, rf G 128)] rfl (fun X hX C => ?_)
  unfold m_X11_copyRow_29_128
  refine r_aload_n C 0 dX11_copyRow_0 rfl rfl ?_
  refine r_iconst C dX11_copyRow_1 ?_
  refine r_aload_n C 1 dX11_copyRow_2 rfl rfl ?_
  refine r_iconst C dX11_copyRow_3 ?_
  refine r_aload_n C 0 dX11_copyRow_4 rfl rfl ?_
  refine r_alen C dX11_copyRow_5 la_29 ly_29 ?_
  refine r_aload_n C 1 dX11_copyRow_6 rfl rfl ?_
  refine r_alen C dX11_copyRow_7 la_128 ly_128 ?_
  refine r_mmin C dX11_copyRow_8 mm_X11_465 ⟨Nat.le_of_ble_eq_true rfl, Nat.le_of_ble_eq_true rfl⟩ (by decide) (by decide) ?_
  refine r_acopy C dX11_copyRow_11 aw_X11_470 la_29 ly_29 la_128 ly_128 (by decide) (Nat.le_of_ble_eq_true rfl) (fun d1 => ?_)
  exact r_vret C dX11_copyRow_14 (by decide) (by decide)
theorem n_X11_copyRow_29_128 (d : D9) : NT9 (m_X11_copyRow_29_128  d) := by
  unfold m_X11_copyRow_29_128
  repeat (first | exact nt_rt | exact nt_none | apply nt_if | refine nt_cl ?_ (fun _ _ => ?_) | refine nt_cp9 (fun _ => ?_))
abbrev z_X11_copyRow_30_129 : Z9 := (none, 0, 0, 0, 2, 200)
def m_X11_copyRow_30_129 (d : D9) : Option R9 := cp9 d 30 12 129 12 (min9 12 12) (fun d1 => rt 0 d1)
set_option maxRecDepth 100000 in
theorem t_X11_copyRow_30_129 {G : G9} {l : Launch} (h1 : va_D (A9 G) (wl G (fun _ _ => 0))) (h2 : l.stackTraces = false) (d : D9) : MT G l yX11_copyRow cX11_copyRow 2 z_X11_copyRow_30_129 [rf G 30, rf G 129] d (m_X11_copyRow_30_129  d) := by
  refine mt_of (own := RX11) (by decide) rfl (Nat.le_of_ble_eq_true rfl) h1 h2 [(0, rf G 30), (1, rf G 129)] rfl (fun X hX C => ?_)
  unfold m_X11_copyRow_30_129
  refine r_aload_n C 0 dX11_copyRow_0 rfl rfl ?_
  refine r_iconst C dX11_copyRow_1 ?_
  refine r_aload_n C 1 dX11_copyRow_2 rfl rfl ?_
  refine r_iconst C dX11_copyRow_3 ?_
  refine r_aload_n C 0 dX11_copyRow_4 rfl rfl ?_
  refine r_alen C dX11_copyRow_5 la_30 ly_30 ?_
  refine r_aload_n C 1 dX11_copyRow_6 rfl rfl ?_
  refine r_alen C dX11_copyRow_7 la_129 ly_129 ?_
  refine r_mmin C dX11_copyRow_8 mm_X11_465 ⟨Nat.le_of_ble_eq_true rfl, Nat.le_of_ble_eq_true rfl⟩ (by decide) (by decide) ?_
  refine r_acopy C dX11_copyRow_11 aw_X11_470 la_30 ly_30 la_129 ly_129 (by decide) (Nat.le_of_ble_eq_true rfl) (fun d1 => ?_)
  exact r_vret C dX11_copyRow_14 (by decide) (by decide)
theorem n_X11_copyRow_30_129 (d : D9) : NT9 (m_X11_copyRow_30_129  d) := by
  unfold m_X11_copyRow_30_129
  repeat (first | exact nt_rt | exact nt_none | apply nt_if | refine nt_cl ?_ (fun _ _ => ?_) | refine nt_cp9 (fun _ => ?_))
abbrev z_X11_copyRow_31_130 : Z9 := (none, 0, 0, 0, 2, 200)
def m_X11_copyRow_31_130 (d : D9) : Option R9 := cp9 d 31 12 130 12 (min9 12 12) (fun d1 => rt 0 d1)
set_option maxRecDepth 100000 in
theorem t_X11_copyRow_31_130 {G : G9} {l : Launch} (h1 : va_D (A9 G) (wl G (fun _ _ => 0))) (h2 : l.stackTraces = false) (d : D9) : MT G l yX11_copyRow cX11_copyRow 2 z_X11_copyRow_31_130 [rf G 31, rf G 130] d (m_X11_copyRow_31_130  d) := by
  refine mt_of (own := RX11) (by decide) rfl (Nat.le_of_ble_eq_true rfl) h1 h2 [(0, rf G 31), (1, rf G 130)] rfl (fun X hX C => ?_)
  unfold m_X11_copyRow_31_130
  refine r_aload_n C 0 dX11_copyRow_0 rfl rfl ?_
  refine r_iconst C dX11_copyRow_1 ?_
  refine r_aload_n C 1 dX11_copyRow_2 rfl rfl ?_
  refine r_iconst C dX11_copyRow_3 ?_
  refine r_aload_n C 0 dX11_copyRow_4 rfl rfl ?_
  refine r_alen C dX11_copyRow_5 la_31 ly_31 ?_
  refine r_aload_n C 1 dX11_copyRow_6 rfl rfl ?_
  refine r_alen C dX11_copyRow_7 la_130 ly_130 ?_
  refine r_mmin C dX11_copyRow_8 mm_X11_465 ⟨Nat.le_of_ble_eq_true rfl, Nat.le_of_ble_eq_true rfl⟩ (by decide) (by decide) ?_
  refine r_acopy C dX11_copyRow_11 aw_X11_470 la_31 ly_31 la_130 ly_130 (by decide) (Nat.le_of_ble_eq_true rfl) (fun d1 => ?_)
  exact r_vret C dX11_copyRow_14 (by decide) (by decide)
theorem n_X11_copyRow_31_130 (d : D9) : NT9 (m_X11_copyRow_31_130  d) := by
  unfold m_X11_copyRow_31_130
  repeat (first | exact nt_rt | exact nt_none | apply nt_if | refine nt_cl ?_ (fun _ _ => ?_) | refine nt_cp9 (fun _ => ?_))
abbrev z_X11_copyRow_32_131 : Z9 := (none, 0, 0, 0, 2, 200)
def m_X11_copyRow_32_131 (d : D9) : Option R9 := cp9 d 32 400 131 400 (min9 400 400) (fun d1 => rt 0 d1)
set_option maxRecDepth 100000 in
theorem t_X11_copyRow_32_131 {G : G9} {l : Launch} (h1 : va_D (A9 G) (wl G (fun _ _ => 0))) (h2 : l.stackTraces = false) (d : D9) : MT G l yX11_copyRow cX11_copyRow 2 z_X11_copyRow_32_131 [rf G 32, rf G 131] d (m_X11_copyRow_32_131  d) := by
  refine mt_of (own := RX11) (by decide) rfl (Nat.le_of_ble_eq_true rfl) h1 h2 [(0, rf G 32), (1, rf G 131)] rfl (fun X hX C => ?_)
  unfold m_X11_copyRow_32_131
  refine r_aload_n C 0 dX11_copyRow_0 rfl rfl ?_
  refine r_iconst C dX11_copyRow_1 ?_
  refine r_aload_n C 1 dX11_copyRow_2 rfl rfl ?_
  refine r_iconst C dX11_copyRow_3 ?_
  refine r_aload_n C 0 dX11_copyRow_4 rfl rfl ?_
  refine r_alen C dX11_copyRow_5 la_32 ly_32 ?_
  refine r_aload_n C 1 dX11_copyRow_6 rfl rfl ?_
  refine r_alen C dX11_copyRow_7 la_131 ly_131 ?_
  refine r_mmin C dX11_copyRow_8 mm_X11_465 ⟨Nat.le_of_ble_eq_true rfl, Nat.le_of_ble_eq_true rfl⟩ (by decide) (by decide) ?_
  refine r_acopy C dX11_copyRow_11 aw_X11_470 la_32 ly_32 la_131 ly_131 (by decide) (Nat.le_of_ble_eq_true rfl) (fun d1 => ?_)
  exact r_vret C dX11_copyRow_14 (by decide) (by decide)
theorem n_X11_copyRow_32_131 (d : D9) : NT9 (m_X11_copyRow_32_131  d) := by
  unfold m_X11_copyRow_32_131
  repeat (first | exact nt_rt | exact nt_none | apply nt_if | refine nt_cl ?_ (fun _ _ => ?_) | refine nt_cp9 (fun _ => ?_))
abbrev z_X4_copyFrom_127_28 : Z9 := (none, 0, 0, 0, 3, 221)
def m_X4_copyFrom_127_28 (d : D9) : Option R9 := pf d 127 0 (d 28 0) (fun d1 => pf d1 127 1 (d1 28 1) (fun d2 => cl (m_X11_copyRow_29_128 d2) (fun r3 d4 => cl (m_X11_copyRow_30_129 d4) (fun r5 d6 => cl (m_X11_copyRow_31_130 d6) (fun r7 d8 => cl (m_X11_copyRow_32_131 d8) (fun r9 d10 => rt 0 d10))))))
set_option maxRecDepth 100000 in
theorem t_X4_copyFrom_127_28 {G : G9} {l : Launch} (h1 : va_D (A9 G) (wl G (fun _ _ => 0))) (h2 : l.stackTraces = false) (d : D9) : MT G l yX4_copyFrom cX4_copyFrom 2 z_X4_copyFrom_127_28 [rf G 127, rf G 28] d (m_X4_copyFrom_127_28  d) := by
  refine mt_of (own := RX4) (by decide) rfl (Nat.le_of_ble_eq_true rfl) h1 h2 [(0, rf G 127), (1, rf G 28)] rfl (fun X hX C => ?_)
  unfold m_X4_copyFrom_127_28
  refine r_aload_n C 0 dX4_copyFrom_0 rfl rfl ?_
  refine r_aload_n C 1 dX4_copyFrom_1 rfl rfl ?_
  refine r_getI C dX4_copyFrom_2 fl_X4_24 la_28 ly_28 rfl ?_
  refine r_putI C dX4_copyFrom_5 fp_X4_24 la_127 ly_127 rfl (fun d1 => ?_)
  refine r_aload_n C 0 dX4_copyFrom_8 rfl rfl ?_
  refine r_aload_n C 1 dX4_copyFrom_9 rfl rfl ?_
  refine r_getI C dX4_copyFrom_10 fl_X4_28 la_28 ly_28 rfl ?_
  refine r_putI C dX4_copyFrom_13 fp_X4_28 la_127 ly_127 rfl (fun d2 => ?_)
  refine r_aload_n C 1 dX4_copyFrom_16 rfl rfl ?_
  refine r_getR C 29 dX4_copyFrom_17 fl_X4_9 la_28 ly_28 rfl rfl ?_
  refine r_aload_n C 0 dX4_copyFrom_20 rfl rfl ?_
  refine r_getR C 128 dX4_copyFrom_21 fl_X4_9 la_127 ly_127 rfl rfl ?_
  refine r_callN C [rf G 128, rf G 29] dX4_copyFrom_24 (t_X11_copyRow_29_128 C.h1 C.h2 d2) (n_X11_copyRow_29_128 d2) mn_X4_31 ms_X11_copyRow (by decide) (by decide) (by decide) rfl rfl (Nat.le_of_ble_eq_true rfl) (fun r3 d4 => ?_)
  show SS G X 2 _ _ 27 [(0, rf G 127), (1, rf G 28)] [] d4 _
  refine r_aload_n C 1 dX4_copyFrom_27 rfl rfl ?_
  refine r_getR C 30 dX4_copyFrom_28 fl_X4_15 la_28 ly_28 rfl rfl ?_
  refine r_aload_n C 0 dX4_copyFrom_31 rfl rfl ?_
  refine r_getR C 129 dX4_copyFrom_32 fl_X4_15 la_127 ly_127 rfl rfl ?_
  refine r_callN C [rf G 129, rf G 30] dX4_copyFrom_35 (t_X11_copyRow_30_129 C.h1 C.h2 d4) (n_X11_copyRow_30_129 d4) mn_X4_31 ms_X11_copyRow (by decide) (by decide) (by decide) rfl rfl (Nat.le_of_ble_eq_true rfl) (fun r5 d6 => ?_)
  show SS G X 2 _ _ 38 [(0, rf G 127), (1, rf G 28)] [] d6 _
  refine r_aload_n C 1 dX4_copyFrom_38 rfl rfl ?_
  refine r_getR C 31 dX4_copyFrom_39 fl_X4_18 la_28 ly_28 rfl rfl ?_
  refine r_aload_n C 0 dX4_copyFrom_42 rfl rfl ?_
  refine r_getR C 130 dX4_copyFrom_43 fl_X4_18 la_127 ly_127 rfl rfl ?_
  refine r_callN C [rf G 130, rf G 31] dX4_copyFrom_46 (t_X11_copyRow_31_130 C.h1 C.h2 d6) (n_X11_copyRow_31_130 d6) mn_X4_31 ms_X11_copyRow (by decide) (by decide) (by decide) rfl rfl (Nat.le_of_ble_eq_true rfl) (fun r7 d8 => ?_)
  show SS G X 2 _ _ 49 [(0, rf G 127), (1, rf G 28)] [] d8 _
  refine r_aload_n C 1 dX4_copyFrom_49 rfl rfl ?_
  refine r_getR C 32 dX4_copyFrom_50 fl_X4_21 la_28 ly_28 rfl rfl ?_
  refine r_aload_n C 0 dX4_copyFrom_53 rfl rfl ?_
  refine r_getR C 131 dX4_copyFrom_54 fl_X4_21 la_127 ly_127 rfl rfl ?_
  refine r_callN C [rf G 131, rf G 32] dX4_copyFrom_57 (t_X11_copyRow_32_131 C.h1 C.h2 d8) (n_X11_copyRow_32_131 d8) mn_X4_31 ms_X11_copyRow (by decide) (by decide) (by decide) rfl rfl (Nat.le_of_ble_eq_true rfl) (fun r9 d10 => ?_)
  show SS G X 2 _ _ 60 [(0, rf G 127), (1, rf G 28)] [] d10 _
  exact r_vret C dX4_copyFrom_60 (by decide) (by decide)
abbrev z_X11_copyRow_34_133 : Z9 := (none, 0, 0, 0, 2, 200)
def m_X11_copyRow_34_133 (d : D9) : Option R9 := cp9 d 34 40 133 40 (min9 40 40) (fun d1 => rt 0 d1)
set_option maxRecDepth 100000 in
theorem t_X11_copyRow_34_133 {G : G9} {l : Launch} (h1 : va_D (A9 G) (wl G (fun _ _ => 0))) (h2 : l.stackTraces = false) (d : D9) : MT G l yX11_copyRow cX11_copyRow 2 z_X11_copyRow_34_133 [rf G 34, rf G 133] d (m_X11_copyRow_34_133  d) := by
  refine mt_of (own := RX11) (by decide) rfl (Nat.le_of_ble_eq_true rfl) h1 h2 [(0, rf G 34), (1, rf G 133)] rfl (fun X hX C => ?_)
  unfold m_X11_copyRow_34_133
  refine r_aload_n C 0 dX11_copyRow_0 rfl rfl ?_
  refine r_iconst C dX11_copyRow_1 ?_
  refine r_aload_n C 1 dX11_copyRow_2 rfl rfl ?_
  refine r_iconst C dX11_copyRow_3 ?_
  refine r_aload_n C 0 dX11_copyRow_4 rfl rfl ?_
  refine r_alen C dX11_copyRow_5 la_34 ly_34 ?_
  refine r_aload_n C 1 dX11_copyRow_6 rfl rfl ?_
  refine r_alen C dX11_copyRow_7 la_133 ly_133 ?_
  refine r_mmin C dX11_copyRow_8 mm_X11_465 ⟨Nat.le_of_ble_eq_true rfl, Nat.le_of_ble_eq_true rfl⟩ (by decide) (by decide) ?_
  refine r_acopy C dX11_copyRow_11 aw_X11_470 la_34 ly_34 la_133 ly_133 (by decide) (Nat.le_of_ble_eq_true rfl) (fun d1 => ?_)
  exact r_vret C dX11_copyRow_14 (by decide) (by decide)
theorem n_X11_copyRow_34_133 (d : D9) : NT9 (m_X11_copyRow_34_133  d) := by
  unfold m_X11_copyRow_34_133
  repeat (first | exact nt_rt | exact nt_none | apply nt_if | refine nt_cl ?_ (fun _ _ => ?_) | refine nt_cp9 (fun _ => ?_))
abbrev z_X11_copyRow_35_134 : Z9 := (none, 0, 0, 0, 2, 200)
def m_X11_copyRow_35_134 (d : D9) : Option R9 := cp9 d 35 200 134 200 (min9 200 200) (fun d1 => rt 0 d1)
set_option maxRecDepth 100000 in
theorem t_X11_copyRow_35_134 {G : G9} {l : Launch} (h1 : va_D (A9 G) (wl G (fun _ _ => 0))) (h2 : l.stackTraces = false) (d : D9) : MT G l yX11_copyRow cX11_copyRow 2 z_X11_copyRow_35_134 [rf G 35, rf G 134] d (m_X11_copyRow_35_134  d) := by
  refine mt_of (own := RX11) (by decide) rfl (Nat.le_of_ble_eq_true rfl) h1 h2 [(0, rf G 35), (1, rf G 134)] rfl (fun X hX C => ?_)
  unfold m_X11_copyRow_35_134
  refine r_aload_n C 0 dX11_copyRow_0 rfl rfl ?_
  refine r_iconst C dX11_copyRow_1 ?_
  refine r_aload_n C 1 dX11_copyRow_2 rfl rfl ?_
  refine r_iconst C dX11_copyRow_3 ?_
  refine r_aload_n C 0 dX11_copyRow_4 rfl rfl ?_
  refine r_alen C dX11_copyRow_5 la_35 ly_35 ?_
  refine r_aload_n C 1 dX11_copyRow_6 rfl rfl ?_
  refine r_alen C dX11_copyRow_7 la_134 ly_134 ?_
  refine r_mmin C dX11_copyRow_8 mm_X11_465 ⟨Nat.le_of_ble_eq_true rfl, Nat.le_of_ble_eq_true rfl⟩ (by decide) (by decide) ?_
  refine r_acopy C dX11_copyRow_11 aw_X11_470 la_35 ly_35 la_134 ly_134 (by decide) (Nat.le_of_ble_eq_true rfl) (fun d1 => ?_)
  exact r_vret C dX11_copyRow_14 (by decide) (by decide)
theorem n_X11_copyRow_35_134 (d : D9) : NT9 (m_X11_copyRow_35_134  d) := by
  unfold m_X11_copyRow_35_134
  repeat (first | exact nt_rt | exact nt_none | apply nt_if | refine nt_cl ?_ (fun _ _ => ?_) | refine nt_cp9 (fun _ => ?_))
abbrev z_X11_copyRow_36_135 : Z9 := (none, 0, 0, 0, 2, 200)
def m_X11_copyRow_36_135 (d : D9) : Option R9 := cp9 d 36 5 135 5 (min9 5 5) (fun d1 => rt 0 d1)
set_option maxRecDepth 100000 in
theorem t_X11_copyRow_36_135 {G : G9} {l : Launch} (h1 : va_D (A9 G) (wl G (fun _ _ => 0))) (h2 : l.stackTraces = false) (d : D9) : MT G l yX11_copyRow cX11_copyRow 2 z_X11_copyRow_36_135 [rf G 36, rf G 135] d (m_X11_copyRow_36_135  d) := by
  refine mt_of (own := RX11) (by decide) rfl (Nat.le_of_ble_eq_true rfl) h1 h2 [(0, rf G 36), (1, rf G 135)] rfl (fun X hX C => ?_)
  unfold m_X11_copyRow_36_135
  refine r_aload_n C 0 dX11_copyRow_0 rfl rfl ?_
  refine r_iconst C dX11_copyRow_1 ?_
  refine r_aload_n C 1 dX11_copyRow_2 rfl rfl ?_
  refine r_iconst C dX11_copyRow_3 ?_
  refine r_aload_n C 0 dX11_copyRow_4 rfl rfl ?_
  refine r_alen C dX11_copyRow_5 la_36 ly_36 ?_
  refine r_aload_n C 1 dX11_copyRow_6 rfl rfl ?_
  refine r_alen C dX11_copyRow_7 la_135 ly_135 ?_
  refine r_mmin C dX11_copyRow_8 mm_X11_465 ⟨Nat.le_of_ble_eq_true rfl, Nat.le_of_ble_eq_true rfl⟩ (by decide) (by decide) ?_
  refine r_acopy C dX11_copyRow_11 aw_X11_470 la_36 ly_36 la_135 ly_135 (by decide) (Nat.le_of_ble_eq_true rfl) (fun d1 => ?_)
  exact r_vret C dX11_copyRow_14 (by decide) (by decide)
theorem n_X11_copyRow_36_135 (d : D9) : NT9 (m_X11_copyRow_36_135  d) := by
  unfold m_X11_copyRow_36_135
  repeat (first | exact nt_rt | exact nt_none | apply nt_if | refine nt_cl ?_ (fun _ _ => ?_) | refine nt_cp9 (fun _ => ?_))
abbrev z_X11_copyRow_37_136 : Z9 := (none, 0, 0, 0, 2, 200)
def m_X11_copyRow_37_136 (d : D9) : Option R9 := cp9 d 37 5 136 5 (min9 5 5) (fun d1 => rt 0 d1)
set_option maxRecDepth 100000 in
theorem t_X11_copyRow_37_136 {G : G9} {l : Launch} (h1 : va_D (A9 G) (wl G (fun _ _ => 0))) (h2 : l.stackTraces = false) (d : D9) : MT G l yX11_copyRow cX11_copyRow 2 z_X11_copyRow_37_136 [rf G 37, rf G 136] d (m_X11_copyRow_37_136  d) := by
  refine mt_of (own := RX11) (by decide) rfl (Nat.le_of_ble_eq_true rfl) h1 h2 [(0, rf G 37), (1, rf G 136)] rfl (fun X hX C => ?_)
  unfold m_X11_copyRow_37_136
  refine r_aload_n C 0 dX11_copyRow_0 rfl rfl ?_
  refine r_iconst C dX11_copyRow_1 ?_
  refine r_aload_n C 1 dX11_copyRow_2 rfl rfl ?_
  refine r_iconst C dX11_copyRow_3 ?_
  refine r_aload_n C 0 dX11_copyRow_4 rfl rfl ?_
  refine r_alen C dX11_copyRow_5 la_37 ly_37 ?_
  refine r_aload_n C 1 dX11_copyRow_6 rfl rfl ?_
  refine r_alen C dX11_copyRow_7 la_136 ly_136 ?_
  refine r_mmin C dX11_copyRow_8 mm_X11_465 ⟨Nat.le_of_ble_eq_true rfl, Nat.le_of_ble_eq_true rfl⟩ (by decide) (by decide) ?_
  refine r_acopy C dX11_copyRow_11 aw_X11_470 la_37 ly_37 la_136 ly_136 (by decide) (Nat.le_of_ble_eq_true rfl) (fun d1 => ?_)
  exact r_vret C dX11_copyRow_14 (by decide) (by decide)
theorem n_X11_copyRow_37_136 (d : D9) : NT9 (m_X11_copyRow_37_136  d) := by
  unfold m_X11_copyRow_37_136
  repeat (first | exact nt_rt | exact nt_none | apply nt_if | refine nt_cl ?_ (fun _ _ => ?_) | refine nt_cp9 (fun _ => ?_))
abbrev z_X1_copyFrom_132_33 : Z9 := (none, 0, 0, 0, 3, 221)
def m_X1_copyFrom_132_33 (d : D9) : Option R9 := pf d 132 0 (d 33 0) (fun d1 => cl (m_X11_copyRow_34_133 d1) (fun r2 d3 => cl (m_X11_copyRow_35_134 d3) (fun r4 d5 => cl (m_X11_copyRow_36_135 d5) (fun r6 d7 => cl (m_X11_copyRow_37_136 d7) (fun r8 d9 => rt 0 d9)))))
set_option maxRecDepth 100000 in
theorem t_X1_copyFrom_132_33 {G : G9} {l : Launch} (h1 : va_D (A9 G) (wl G (fun _ _ => 0))) (h2 : l.stackTraces = false) (d : D9) : MT G l yX1_copyFrom cX1_copyFrom 2 z_X1_copyFrom_132_33 [rf G 132, rf G 33] d (m_X1_copyFrom_132_33  d) := by
  refine mt_of (own := RX1) (by decide) rfl (Nat.le_of_ble_eq_true rfl) h1 h2 [(0, rf G 132), (1, rf G 33)] rfl (fun X hX C => ?_)
  unfold m_X1_copyFrom_132_33
  refine r_aload_n C 0 dX1_copyFrom_0 rfl rfl ?_
  refine r_aload_n C 1 dX1_copyFrom_1 rfl rfl ?_
  refine r_getI C dX1_copyFrom_2 fl_X1_24 la_33 ly_33 rfl ?_
  refine r_putI C dX1_copyFrom_5 fp_X1_24 la_132 ly_132 rfl (fun d1 => ?_)
  refine r_aload_n C 1 dX1_copyFrom_8 rfl rfl ?_
  refine r_getR C 34 dX1_copyFrom_9 fl_X1_9 la_33 ly_33 rfl rfl ?_
  refine r_aload_n C 0 dX1_copyFrom_12 rfl rfl ?_
  refine r_getR C 133 dX1_copyFrom_13 fl_X1_9 la_132 ly_132 rfl rfl ?_
  refine r_callN C [rf G 133, rf G 34] dX1_copyFrom_16 (t_X11_copyRow_34_133 C.h1 C.h2 d1) (n_X11_copyRow_34_133 d1) mn_X1_28 ms_X11_copyRow (by decide) (by decide) (by decide) rfl rfl (Nat.le_of_ble_eq_true rfl) (fun r2 d3 => ?_)
  show SS G X 2 _ _ 19 [(0, rf G 132), (1, rf G 33)] [] d3 _
  refine r_aload_n C 1 dX1_copyFrom_19 rfl rfl ?_
  refine r_getR C 35 dX1_copyFrom_20 fl_X1_15 la_33 ly_33 rfl rfl ?_
  refine r_aload_n C 0 dX1_copyFrom_23 rfl rfl ?_
  refine r_getR C 134 dX1_copyFrom_24 fl_X1_15 la_132 ly_132 rfl rfl ?_
  refine r_callN C [rf G 134, rf G 35] dX1_copyFrom_27 (t_X11_copyRow_35_134 C.h1 C.h2 d3) (n_X11_copyRow_35_134 d3) mn_X1_28 ms_X11_copyRow (by decide) (by decide) (by decide) rfl rfl (Nat.le_of_ble_eq_true rfl) (fun r4 d5 => ?_)
  show SS G X 2 _ _ 30 [(0, rf G 132), (1, rf G 33)] [] d5 _
  refine r_aload_n C 1 dX1_copyFrom_30 rfl rfl ?_
  refine r_getR C 36 dX1_copyFrom_31 fl_X1_18 la_33 ly_33 rfl rfl ?_
  refine r_aload_n C 0 dX1_copyFrom_34 rfl rfl ?_
  refine r_getR C 135 dX1_copyFrom_35 fl_X1_18 la_132 ly_132 rfl rfl ?_
  refine r_callN C [rf G 135, rf G 36] dX1_copyFrom_38 (t_X11_copyRow_36_135 C.h1 C.h2 d5) (n_X11_copyRow_36_135 d5) mn_X1_28 ms_X11_copyRow (by decide) (by decide) (by decide) rfl rfl (Nat.le_of_ble_eq_true rfl) (fun r6 d7 => ?_)
  show SS G X 2 _ _ 41 [(0, rf G 132), (1, rf G 33)] [] d7 _
  refine r_aload_n C 1 dX1_copyFrom_41 rfl rfl ?_
  refine r_getR C 37 dX1_copyFrom_42 fl_X1_21 la_33 ly_33 rfl rfl ?_
  refine r_aload_n C 0 dX1_copyFrom_45 rfl rfl ?_
  refine r_getR C 136 dX1_copyFrom_46 fl_X1_21 la_132 ly_132 rfl rfl ?_
  refine r_callN C [rf G 136, rf G 37] dX1_copyFrom_49 (t_X11_copyRow_37_136 C.h1 C.h2 d7) (n_X11_copyRow_37_136 d7) mn_X1_28 ms_X11_copyRow (by decide) (by decide) (by decide) rfl rfl (Nat.le_of_ble_eq_true rfl) (fun r8 d9 => ?_)
  show SS G X 2 _ _ 52 [(0, rf G 132), (1, rf G 33)] [] d9 _
  exact r_vret C dX1_copyFrom_52 (by decide) (by decide)
abbrev z_X10_copyFrom_100_1 : Z9 := (none, 0, 0, 0, 4, 242)
def m_X10_copyFrom_100_1 (d : D9) : Option R9 := cl (m_X3_copyFrom_101_2 d) (fun r1 d2 => cl (m_X6_copyFrom_108_9 d2) (fun r3 d4 => cl (m_X2_copyFrom_121_22 d4) (fun r5 d6 => cl (m_X7_copyFrom_122_23 d6) (fun r7 d8 => cl (m_X4_copyFrom_127_28 d8) (fun r9 d10 => cl (m_X1_copyFrom_132_33 d10) (fun r11 d12 => rt 0 d12))))))
set_option maxRecDepth 100000 in
theorem t_X10_copyFrom_100_1 {G : G9} {l : Launch} (h1 : va_D (A9 G) (wl G (fun _ _ => 0))) (h2 : l.stackTraces = false) (d : D9) : MT G l yX10_copyFrom cX10_copyFrom 2 z_X10_copyFrom_100_1 [rf G 100, rf G 1] d (m_X10_copyFrom_100_1  d) := by
  refine mt_of (own := RX10) (by decide) rfl (Nat.le_of_ble_eq_true rfl) h1 h2 [(0, rf G 100), (1, rf G 1)] rfl (fun X hX C => ?_)
  unfold m_X10_copyFrom_100_1
  refine r_aload_n C 0 dX10_copyFrom_0 rfl rfl ?_
  refine r_getR C 101 dX10_copyFrom_1 fl_X10_12 la_100 ly_100 rfl rfl ?_
  refine r_aload_n C 1 dX10_copyFrom_4 rfl rfl ?_
  refine r_getR C 2 dX10_copyFrom_5 fl_X10_12 la_1 ly_1 rfl rfl ?_
  refine r_callV C [rf G 2, rf G 101] dX10_copyFrom_8 (t_X3_copyFrom_101_2 C.h1 C.h2 d) mw_X10_53 mv_X3_copyFrom la_101 ly_101 rfl (by decide) (by decide) (by decide) rfl rfl (Nat.le_of_ble_eq_true rfl) (fun r1 d2 => ?_)
  show SS G X 2 _ _ 11 [(0, rf G 100), (1, rf G 1)] [] d2 _
  refine r_aload_n C 0 dX10_copyFrom_11 rfl rfl ?_
  refine r_getR C 108 dX10_copyFrom_12 fl_X10_21 la_100 ly_100 rfl rfl ?_
  refine r_aload_n C 1 dX10_copyFrom_15 rfl rfl ?_
  refine r_getR C 9 dX10_copyFrom_16 fl_X10_21 la_1 ly_1 rfl rfl ?_
  refine r_callV C [rf G 9, rf G 108] dX10_copyFrom_19 (t_X6_copyFrom_108_9 C.h1 C.h2 d2) mw_X10_57 mv_X6_copyFrom la_108 ly_108 rfl (by decide) (by decide) (by decide) rfl rfl (Nat.le_of_ble_eq_true rfl) (fun r3 d4 => ?_)
  show SS G X 2 _ _ 22 [(0, rf G 100), (1, rf G 1)] [] d4 _
  refine r_aload_n C 0 dX10_copyFrom_22 rfl rfl ?_
  refine r_getR C 121 dX10_copyFrom_23 fl_X10_28 la_100 ly_100 rfl rfl ?_
  refine r_aload_n C 1 dX10_copyFrom_26 rfl rfl ?_
  refine r_getR C 22 dX10_copyFrom_27 fl_X10_28 la_1 ly_1 rfl rfl ?_
  refine r_callV C [rf G 22, rf G 121] dX10_copyFrom_30 (t_X2_copyFrom_121_22 C.h1 C.h2 d4) mw_X10_60 mv_X2_copyFrom la_121 ly_121 rfl (by decide) (by decide) (by decide) rfl rfl (Nat.le_of_ble_eq_true rfl) (fun r5 d6 => ?_)
  show SS G X 2 _ _ 33 [(0, rf G 100), (1, rf G 1)] [] d6 _
  refine r_aload_n C 0 dX10_copyFrom_33 rfl rfl ?_
  refine r_getR C 122 dX10_copyFrom_34 fl_X10_35 la_100 ly_100 rfl rfl ?_
  refine r_aload_n C 1 dX10_copyFrom_37 rfl rfl ?_
  refine r_getR C 23 dX10_copyFrom_38 fl_X10_35 la_1 ly_1 rfl rfl ?_
  refine r_callV C [rf G 23, rf G 122] dX10_copyFrom_41 (t_X7_copyFrom_122_23 C.h1 C.h2 d6) mw_X10_63 mv_X7_copyFrom la_122 ly_122 rfl (by decide) (by decide) (by decide) rfl rfl (Nat.le_of_ble_eq_true rfl) (fun r7 d8 => ?_)
  show SS G X 2 _ _ 44 [(0, rf G 100), (1, rf G 1)] [] d8 _
  refine r_aload_n C 0 dX10_copyFrom_44 rfl rfl ?_
  refine r_getR C 127 dX10_copyFrom_45 fl_X10_42 la_100 ly_100 rfl rfl ?_
  refine r_aload_n C 1 dX10_copyFrom_48 rfl rfl ?_
  refine r_getR C 28 dX10_copyFrom_49 fl_X10_42 la_1 ly_1 rfl rfl ?_
  refine r_callV C [rf G 28, rf G 127] dX10_copyFrom_52 (t_X4_copyFrom_127_28 C.h1 C.h2 d8) mw_X10_66 mv_X4_copyFrom la_127 ly_127 rfl (by decide) (by decide) (by decide) rfl rfl (Nat.le_of_ble_eq_true rfl) (fun r9 d10 => ?_)
  show SS G X 2 _ _ 55 [(0, rf G 100), (1, rf G 1)] [] d10 _
  refine r_aload_n C 0 dX10_copyFrom_55 rfl rfl ?_
  refine r_getR C 132 dX10_copyFrom_56 fl_X10_49 la_100 ly_100 rfl rfl ?_
  refine r_aload_n C 1 dX10_copyFrom_59 rfl rfl ?_
  refine r_getR C 33 dX10_copyFrom_60 fl_X10_49 la_1 ly_1 rfl rfl ?_
  refine r_callV C [rf G 33, rf G 132] dX10_copyFrom_63 (t_X1_copyFrom_132_33 C.h1 C.h2 d10) mw_X10_69 mv_X1_copyFrom la_132 ly_132 rfl (by decide) (by decide) (by decide) rfl rfl (Nat.le_of_ble_eq_true rfl) (fun r11 d12 => ?_)
  show SS G X 2 _ _ 66 [(0, rf G 100), (1, rf G 1)] [] d12 _
  exact r_vret C dX10_copyFrom_66 (by decide) (by decide)
abbrev z_X11_copyRow_3_139 : Z9 := (none, 0, 0, 0, 2, 200)
def m_X11_copyRow_3_139 (d : D9) : Option R9 := cp9 d 3 30 139 30 (min9 30 30) (fun d1 => rt 0 d1)
set_option maxRecDepth 100000 in
theorem t_X11_copyRow_3_139 {G : G9} {l : Launch} (h1 : va_D (A9 G) (wl G (fun _ _ => 0))) (h2 : l.stackTraces = false) (d : D9) : MT G l yX11_copyRow cX11_copyRow 2 z_X11_copyRow_3_139 [rf G 3, rf G 139] d (m_X11_copyRow_3_139  d) := by
  refine mt_of (own := RX11) (by decide) rfl (Nat.le_of_ble_eq_true rfl) h1 h2 [(0, rf G 3), (1, rf G 139)] rfl (fun X hX C => ?_)
  unfold m_X11_copyRow_3_139
  refine r_aload_n C 0 dX11_copyRow_0 rfl rfl ?_
  refine r_iconst C dX11_copyRow_1 ?_
  refine r_aload_n C 1 dX11_copyRow_2 rfl rfl ?_
  refine r_iconst C dX11_copyRow_3 ?_
  refine r_aload_n C 0 dX11_copyRow_4 rfl rfl ?_
  refine r_alen C dX11_copyRow_5 la_3 ly_3 ?_
  refine r_aload_n C 1 dX11_copyRow_6 rfl rfl ?_
  refine r_alen C dX11_copyRow_7 la_139 ly_139 ?_
  refine r_mmin C dX11_copyRow_8 mm_X11_465 ⟨Nat.le_of_ble_eq_true rfl, Nat.le_of_ble_eq_true rfl⟩ (by decide) (by decide) ?_
  refine r_acopy C dX11_copyRow_11 aw_X11_470 la_3 ly_3 la_139 ly_139 (by decide) (Nat.le_of_ble_eq_true rfl) (fun d1 => ?_)
  exact r_vret C dX11_copyRow_14 (by decide) (by decide)
theorem n_X11_copyRow_3_139 (d : D9) : NT9 (m_X11_copyRow_3_139  d) := by
  unfold m_X11_copyRow_3_139
  repeat (first | exact nt_rt | exact nt_none | apply nt_if | refine nt_cl ?_ (fun _ _ => ?_) | refine nt_cp9 (fun _ => ?_))
abbrev z_X11_copyRow_4_140 : Z9 := (none, 0, 0, 0, 2, 200)
def m_X11_copyRow_4_140 (d : D9) : Option R9 := cp9 d 4 30 140 30 (min9 30 30) (fun d1 => rt 0 d1)
set_option maxRecDepth 100000 in
theorem t_X11_copyRow_4_140 {G : G9} {l : Launch} (h1 : va_D (A9 G) (wl G (fun _ _ => 0))) (h2 : l.stackTraces = false) (d : D9) : MT G l yX11_copyRow cX11_copyRow 2 z_X11_copyRow_4_140 [rf G 4, rf G 140] d (m_X11_copyRow_4_140  d) := by
  refine mt_of (own := RX11) (by decide) rfl (Nat.le_of_ble_eq_true rfl) h1 h2 [(0, rf G 4), (1, rf G 140)] rfl (fun X hX C => ?_)
  unfold m_X11_copyRow_4_140
  refine r_aload_n C 0 dX11_copyRow_0 rfl rfl ?_
  refine r_iconst C dX11_copyRow_1 ?_
  refine r_aload_n C 1 dX11_copyRow_2 rfl rfl ?_
  refine r_iconst C dX11_copyRow_3 ?_
  refine r_aload_n C 0 dX11_copyRow_4 rfl rfl ?_
  refine r_alen C dX11_copyRow_5 la_4 ly_4 ?_
  refine r_aload_n C 1 dX11_copyRow_6 rfl rfl ?_
  refine r_alen C dX11_copyRow_7 la_140 ly_140 ?_
  refine r_mmin C dX11_copyRow_8 mm_X11_465 ⟨Nat.le_of_ble_eq_true rfl, Nat.le_of_ble_eq_true rfl⟩ (by decide) (by decide) ?_
  refine r_acopy C dX11_copyRow_11 aw_X11_470 la_4 ly_4 la_140 ly_140 (by decide) (Nat.le_of_ble_eq_true rfl) (fun d1 => ?_)
  exact r_vret C dX11_copyRow_14 (by decide) (by decide)
theorem n_X11_copyRow_4_140 (d : D9) : NT9 (m_X11_copyRow_4_140  d) := by
  unfold m_X11_copyRow_4_140
  repeat (first | exact nt_rt | exact nt_none | apply nt_if | refine nt_cl ?_ (fun _ _ => ?_) | refine nt_cp9 (fun _ => ?_))
abbrev z_X11_copyRow_5_141 : Z9 := (none, 0, 0, 0, 2, 200)
def m_X11_copyRow_5_141 (d : D9) : Option R9 := cp9 d 5 30 141 30 (min9 30 30) (fun d1 => rt 0 d1)
set_option maxRecDepth 100000 in
theorem t_X11_copyRow_5_141 {G : G9} {l : Launch} (h1 : va_D (A9 G) (wl G (fun _ _ => 0))) (h2 : l.stackTraces = false) (d : D9) : MT G l yX11_copyRow cX11_copyRow 2 z_X11_copyRow_5_141 [rf G 5, rf G 141] d (m_X11_copyRow_5_141  d) := by
  refine mt_of (own := RX11) (by decide) rfl (Nat.le_of_ble_eq_true rfl) h1 h2 [(0, rf G 5), (1, rf G 141)] rfl (fun X hX C => ?_)
  unfold m_X11_copyRow_5_141
  refine r_aload_n C 0 dX11_copyRow_0 rfl rfl ?_
  refine r_iconst C dX11_copyRow_1 ?_
  refine r_aload_n C 1 dX11_copyRow_2 rfl rfl ?_
  refine r_iconst C dX11_copyRow_3 ?_
  refine r_aload_n C 0 dX11_copyRow_4 rfl rfl ?_
  refine r_alen C dX11_copyRow_5 la_5 ly_5 ?_
  refine r_aload_n C 1 dX11_copyRow_6 rfl rfl ?_
  refine r_alen C dX11_copyRow_7 la_141 ly_141 ?_
  refine r_mmin C dX11_copyRow_8 mm_X11_465 ⟨Nat.le_of_ble_eq_true rfl, Nat.le_of_ble_eq_true rfl⟩ (by decide) (by decide) ?_
  refine r_acopy C dX11_copyRow_11 aw_X11_470 la_5 ly_5 la_141 ly_141 (by decide) (Nat.le_of_ble_eq_true rfl) (fun d1 => ?_)
  exact r_vret C dX11_copyRow_14 (by decide) (by decide)
theorem n_X11_copyRow_5_141 (d : D9) : NT9 (m_X11_copyRow_5_141  d) := by
  unfold m_X11_copyRow_5_141
  repeat (first | exact nt_rt | exact nt_none | apply nt_if | refine nt_cl ?_ (fun _ _ => ?_) | refine nt_cp9 (fun _ => ?_))
abbrev z_X11_copyRow_6_142 : Z9 := (none, 0, 0, 0, 2, 200)
def m_X11_copyRow_6_142 (d : D9) : Option R9 := cp9 d 6 150 142 150 (min9 150 150) (fun d1 => rt 0 d1)
set_option maxRecDepth 100000 in
theorem t_X11_copyRow_6_142 {G : G9} {l : Launch} (h1 : va_D (A9 G) (wl G (fun _ _ => 0))) (h2 : l.stackTraces = false) (d : D9) : MT G l yX11_copyRow cX11_copyRow 2 z_X11_copyRow_6_142 [rf G 6, rf G 142] d (m_X11_copyRow_6_142  d) := by
  refine mt_of (own := RX11) (by decide) rfl (Nat.le_of_ble_eq_true rfl) h1 h2 [(0, rf G 6), (1, rf G 142)] rfl (fun X hX C => ?_)
  unfold m_X11_copyRow_6_142
  refine r_aload_n C 0 dX11_copyRow_0 rfl rfl ?_
  refine r_iconst C dX11_copyRow_1 ?_
  refine r_aload_n C 1 dX11_copyRow_2 rfl rfl ?_
  refine r_iconst C dX11_copyRow_3 ?_
  refine r_aload_n C 0 dX11_copyRow_4 rfl rfl ?_
  refine r_alen C dX11_copyRow_5 la_6 ly_6 ?_
  refine r_aload_n C 1 dX11_copyRow_6 rfl rfl ?_
  refine r_alen C dX11_copyRow_7 la_142 ly_142 ?_
  refine r_mmin C dX11_copyRow_8 mm_X11_465 ⟨Nat.le_of_ble_eq_true rfl, Nat.le_of_ble_eq_true rfl⟩ (by decide) (by decide) ?_
  refine r_acopy C dX11_copyRow_11 aw_X11_470 la_6 ly_6 la_142 ly_142 (by decide) (Nat.le_of_ble_eq_true rfl) (fun d1 => ?_)
  exact r_vret C dX11_copyRow_14 (by decide) (by decide)
theorem n_X11_copyRow_6_142 (d : D9) : NT9 (m_X11_copyRow_6_142  d) := by
  unfold m_X11_copyRow_6_142
  repeat (first | exact nt_rt | exact nt_none | apply nt_if | refine nt_cl ?_ (fun _ _ => ?_) | refine nt_cp9 (fun _ => ?_))
abbrev z_X11_copyRow_7_143 : Z9 := (none, 0, 0, 0, 2, 200)
def m_X11_copyRow_7_143 (d : D9) : Option R9 := cp9 d 7 30 143 30 (min9 30 30) (fun d1 => rt 0 d1)
set_option maxRecDepth 100000 in
theorem t_X11_copyRow_7_143 {G : G9} {l : Launch} (h1 : va_D (A9 G) (wl G (fun _ _ => 0))) (h2 : l.stackTraces = false) (d : D9) : MT G l yX11_copyRow cX11_copyRow 2 z_X11_copyRow_7_143 [rf G 7, rf G 143] d (m_X11_copyRow_7_143  d) := by
  refine mt_of (own := RX11) (by decide) rfl (Nat.le_of_ble_eq_true rfl) h1 h2 [(0, rf G 7), (1, rf G 143)] rfl (fun X hX C => ?_)
  unfold m_X11_copyRow_7_143
  refine r_aload_n C 0 dX11_copyRow_0 rfl rfl ?_
  refine r_iconst C dX11_copyRow_1 ?_
  refine r_aload_n C 1 dX11_copyRow_2 rfl rfl ?_
  refine r_iconst C dX11_copyRow_3 ?_
  refine r_aload_n C 0 dX11_copyRow_4 rfl rfl ?_
  refine r_alen C dX11_copyRow_5 la_7 ly_7 ?_
  refine r_aload_n C 1 dX11_copyRow_6 rfl rfl ?_
  refine r_alen C dX11_copyRow_7 la_143 ly_143 ?_
  refine r_mmin C dX11_copyRow_8 mm_X11_465 ⟨Nat.le_of_ble_eq_true rfl, Nat.le_of_ble_eq_true rfl⟩ (by decide) (by decide) ?_
  refine r_acopy C dX11_copyRow_11 aw_X11_470 la_7 ly_7 la_143 ly_143 (by decide) (Nat.le_of_ble_eq_true rfl) (fun d1 => ?_)
  exact r_vret C dX11_copyRow_14 (by decide) (by decide)
theorem n_X11_copyRow_7_143 (d : D9) : NT9 (m_X11_copyRow_7_143  d) := by
  unfold m_X11_copyRow_7_143
  repeat (first | exact nt_rt | exact nt_none | apply nt_if | refine nt_cl ?_ (fun _ _ => ?_) | refine nt_cp9 (fun _ => ?_))
abbrev z_X11_copyRow_8_144 : Z9 := (none, 0, 0, 0, 2, 200)
def m_X11_copyRow_8_144 (d : D9) : Option R9 := cp9 d 8 30 144 30 (min9 30 30) (fun d1 => rt 0 d1)
set_option maxRecDepth 100000 in
theorem t_X11_copyRow_8_144 {G : G9} {l : Launch} (h1 : va_D (A9 G) (wl G (fun _ _ => 0))) (h2 : l.stackTraces = false) (d : D9) : MT G l yX11_copyRow cX11_copyRow 2 z_X11_copyRow_8_144 [rf G 8, rf G 144] d (m_X11_copyRow_8_144  d) := by
  refine mt_of (own := RX11) (by decide) rfl (Nat.le_of_ble_eq_true rfl) h1 h2 [(0, rf G 8), (1, rf G 144)] rfl (fun X hX C => ?_)
  unfold m_X11_copyRow_8_144
  refine r_aload_n C 0 dX11_copyRow_0 rfl rfl ?_
  refine r_iconst C dX11_copyRow_1 ?_
  refine r_aload_n C 1 dX11_copyRow_2 rfl rfl ?_
  refine r_iconst C dX11_copyRow_3 ?_
  refine r_aload_n C 0 dX11_copyRow_4 rfl rfl ?_
  refine r_alen C dX11_copyRow_5 la_8 ly_8 ?_
  refine r_aload_n C 1 dX11_copyRow_6 rfl rfl ?_
  refine r_alen C dX11_copyRow_7 la_144 ly_144 ?_
  refine r_mmin C dX11_copyRow_8 mm_X11_465 ⟨Nat.le_of_ble_eq_true rfl, Nat.le_of_ble_eq_true rfl⟩ (by decide) (by decide) ?_
  refine r_acopy C dX11_copyRow_11 aw_X11_470 la_8 ly_8 la_144 ly_144 (by decide) (Nat.le_of_ble_eq_true rfl) (fun d1 => ?_)
  exact r_vret C dX11_copyRow_14 (by decide) (by decide)
theorem n_X11_copyRow_8_144 (d : D9) : NT9 (m_X11_copyRow_8_144  d) := by
  unfold m_X11_copyRow_8_144
  repeat (first | exact nt_rt | exact nt_none | apply nt_if | refine nt_cl ?_ (fun _ _ => ?_) | refine nt_cp9 (fun _ => ?_))
abbrev z_X3_copyFrom_138_2 : Z9 := (none, 0, 0, 0, 3, 221)
def m_X3_copyFrom_138_2 (d : D9) : Option R9 := pf d 138 0 (d 2 0) (fun d1 => pf d1 138 1 (d1 2 1) (fun d2 => cl (m_X11_copyRow_3_139 d2) (fun r3 d4 => cl (m_X11_copyRow_4_140 d4) (fun r5 d6 => cl (m_X11_copyRow_5_141 d6) (fun r7 d8 => cl (m_X11_copyRow_6_142 d8) (fun r9 d10 => cl (m_X11_copyRow_7_143 d10) (fun r11 d12 => cl (m_X11_copyRow_8_144 d12) (fun r13 d14 => rt 0 d14))))))))
set_option maxRecDepth 100000 in
theorem t_X3_copyFrom_138_2 {G : G9} {l : Launch} (h1 : va_D (A9 G) (wl G (fun _ _ => 0))) (h2 : l.stackTraces = false) (d : D9) : MT G l yX3_copyFrom cX3_copyFrom 2 z_X3_copyFrom_138_2 [rf G 138, rf G 2] d (m_X3_copyFrom_138_2  d) := by
  refine mt_of (own := RX3) (by decide) rfl (Nat.le_of_ble_eq_true rfl) h1 h2 [(0, rf G 138), (1, rf G 2)] rfl (fun X hX C => ?_)
  unfold m_X3_copyFrom_138_2
  refine r_aload_n C 0 dX3_copyFrom_0 rfl rfl ?_
  refine r_aload_n C 1 dX3_copyFrom_1 rfl rfl ?_
  refine r_getI C dX3_copyFrom_2 fl_X3_30 la_2 ly_2 rfl ?_
  refine r_putI C dX3_copyFrom_5 fp_X3_30 la_138 ly_138 rfl (fun d1 => ?_)
  refine r_aload_n C 0 dX3_copyFrom_8 rfl rfl ?_
  refine r_aload_n C 1 dX3_copyFrom_9 rfl rfl ?_
  refine r_getI C dX3_copyFrom_10 fl_X3_34 la_2 ly_2 rfl ?_
  refine r_putI C dX3_copyFrom_13 fp_X3_34 la_138 ly_138 rfl (fun d2 => ?_)
  refine r_aload_n C 1 dX3_copyFrom_16 rfl rfl ?_
  refine r_getR C 3 dX3_copyFrom_17 fl_X3_9 la_2 ly_2 rfl rfl ?_
  refine r_aload_n C 0 dX3_copyFrom_20 rfl rfl ?_
  refine r_getR C 139 dX3_copyFrom_21 fl_X3_9 la_138 ly_138 rfl rfl ?_
  refine r_callN C [rf G 139, rf G 3] dX3_copyFrom_24 (t_X11_copyRow_3_139 C.h1 C.h2 d2) (n_X11_copyRow_3_139 d2) mn_X3_37 ms_X11_copyRow (by decide) (by decide) (by decide) rfl rfl (Nat.le_of_ble_eq_true rfl) (fun r3 d4 => ?_)
  show SS G X 2 _ _ 27 [(0, rf G 138), (1, rf G 2)] [] d4 _
  refine r_aload_n C 1 dX3_copyFrom_27 rfl rfl ?_
  refine r_getR C 4 dX3_copyFrom_28 fl_X3_15 la_2 ly_2 rfl rfl ?_
  refine r_aload_n C 0 dX3_copyFrom_31 rfl rfl ?_
  refine r_getR C 140 dX3_copyFrom_32 fl_X3_15 la_138 ly_138 rfl rfl ?_
  refine r_callN C [rf G 140, rf G 4] dX3_copyFrom_35 (t_X11_copyRow_4_140 C.h1 C.h2 d4) (n_X11_copyRow_4_140 d4) mn_X3_37 ms_X11_copyRow (by decide) (by decide) (by decide) rfl rfl (Nat.le_of_ble_eq_true rfl) (fun r5 d6 => ?_)
  show SS G X 2 _ _ 38 [(0, rf G 138), (1, rf G 2)] [] d6 _
  refine r_aload_n C 1 dX3_copyFrom_38 rfl rfl ?_
  refine r_getR C 5 dX3_copyFrom_39 fl_X3_18 la_2 ly_2 rfl rfl ?_
  refine r_aload_n C 0 dX3_copyFrom_42 rfl rfl ?_
  refine r_getR C 141 dX3_copyFrom_43 fl_X3_18 la_138 ly_138 rfl rfl ?_
  refine r_callN C [rf G 141, rf G 5] dX3_copyFrom_46 (t_X11_copyRow_5_141 C.h1 C.h2 d6) (n_X11_copyRow_5_141 d6) mn_X3_37 ms_X11_copyRow (by decide) (by decide) (by decide) rfl rfl (Nat.le_of_ble_eq_true rfl) (fun r7 d8 => ?_)
  show SS G X 2 _ _ 49 [(0, rf G 138), (1, rf G 2)] [] d8 _
  refine r_aload_n C 1 dX3_copyFrom_49 rfl rfl ?_
  refine r_getR C 6 dX3_copyFrom_50 fl_X3_21 la_2 ly_2 rfl rfl ?_
  refine r_aload_n C 0 dX3_copyFrom_53 rfl rfl ?_
  refine r_getR C 142 dX3_copyFrom_54 fl_X3_21 la_138 ly_138 rfl rfl ?_
  refine r_callN C [rf G 142, rf G 6] dX3_copyFrom_57 (t_X11_copyRow_6_142 C.h1 C.h2 d8) (n_X11_copyRow_6_142 d8) mn_X3_37 ms_X11_copyRow (by decide) (by decide) (by decide) rfl rfl (Nat.le_of_ble_eq_true rfl) (fun r9 d10 => ?_)
  show SS G X 2 _ _ 60 [(0, rf G 138), (1, rf G 2)] [] d10 _
  refine r_aload_n C 1 dX3_copyFrom_60 rfl rfl ?_
  refine r_getR C 7 dX3_copyFrom_61 fl_X3_24 la_2 ly_2 rfl rfl ?_
  refine r_aload_n C 0 dX3_copyFrom_64 rfl rfl ?_
  refine r_getR C 143 dX3_copyFrom_65 fl_X3_24 la_138 ly_138 rfl rfl ?_
  refine r_callN C [rf G 143, rf G 7] dX3_copyFrom_68 (t_X11_copyRow_7_143 C.h1 C.h2 d10) (n_X11_copyRow_7_143 d10) mn_X3_37 ms_X11_copyRow (by decide) (by decide) (by decide) rfl rfl (Nat.le_of_ble_eq_true rfl) (fun r11 d12 => ?_)
  show SS G X 2 _ _ 71 [(0, rf G 138), (1, rf G 2)] [] d12 _
  refine r_aload_n C 1 dX3_copyFrom_71 rfl rfl ?_
  refine r_getR C 8 dX3_copyFrom_72 fl_X3_27 la_2 ly_2 rfl rfl ?_
  refine r_aload_n C 0 dX3_copyFrom_75 rfl rfl ?_
  refine r_getR C 144 dX3_copyFrom_76 fl_X3_27 la_138 ly_138 rfl rfl ?_
  refine r_callN C [rf G 144, rf G 8] dX3_copyFrom_79 (t_X11_copyRow_8_144 C.h1 C.h2 d12) (n_X11_copyRow_8_144 d12) mn_X3_37 ms_X11_copyRow (by decide) (by decide) (by decide) rfl rfl (Nat.le_of_ble_eq_true rfl) (fun r13 d14 => ?_)
  show SS G X 2 _ _ 82 [(0, rf G 138), (1, rf G 2)] [] d14 _
  exact r_vret C dX3_copyFrom_82 (by decide) (by decide)
abbrev z_X11_copyRow_10_146 : Z9 := (none, 0, 0, 0, 2, 200)
def m_X11_copyRow_10_146 (d : D9) : Option R9 := cp9 d 10 30 146 30 (min9 30 30) (fun d1 => rt 0 d1)
set_option maxRecDepth 100000 in
theorem t_X11_copyRow_10_146 {G : G9} {l : Launch} (h1 : va_D (A9 G) (wl G (fun _ _ => 0))) (h2 : l.stackTraces = false) (d : D9) : MT G l yX11_copyRow cX11_copyRow 2 z_X11_copyRow_10_146 [rf G 10, rf G 146] d (m_X11_copyRow_10_146  d) := by
  refine mt_of (own := RX11) (by decide) rfl (Nat.le_of_ble_eq_true rfl) h1 h2 [(0, rf G 10), (1, rf G 146)] rfl (fun X hX C => ?_)
  unfold m_X11_copyRow_10_146
  refine r_aload_n C 0 dX11_copyRow_0 rfl rfl ?_
  refine r_iconst C dX11_copyRow_1 ?_
  refine r_aload_n C 1 dX11_copyRow_2 rfl rfl ?_
  refine r_iconst C dX11_copyRow_3 ?_
  refine r_aload_n C 0 dX11_copyRow_4 rfl rfl ?_
  refine r_alen C dX11_copyRow_5 la_10 ly_10 ?_
  refine r_aload_n C 1 dX11_copyRow_6 rfl rfl ?_
  refine r_alen C dX11_copyRow_7 la_146 ly_146 ?_
  refine r_mmin C dX11_copyRow_8 mm_X11_465 ⟨Nat.le_of_ble_eq_true rfl, Nat.le_of_ble_eq_true rfl⟩ (by decide) (by decide) ?_
  refine r_acopy C dX11_copyRow_11 aw_X11_470 la_10 ly_10 la_146 ly_146 (by decide) (Nat.le_of_ble_eq_true rfl) (fun d1 => ?_)
  exact r_vret C dX11_copyRow_14 (by decide) (by decide)
theorem n_X11_copyRow_10_146 (d : D9) : NT9 (m_X11_copyRow_10_146  d) := by
  unfold m_X11_copyRow_10_146
  repeat (first | exact nt_rt | exact nt_none | apply nt_if | refine nt_cl ?_ (fun _ _ => ?_) | refine nt_cp9 (fun _ => ?_))
abbrev z_X11_copyRow_11_147 : Z9 := (none, 0, 0, 0, 2, 200)
def m_X11_copyRow_11_147 (d : D9) : Option R9 := cp9 d 11 30 147 30 (min9 30 30) (fun d1 => rt 0 d1)
set_option maxRecDepth 100000 in
theorem t_X11_copyRow_11_147 {G : G9} {l : Launch} (h1 : va_D (A9 G) (wl G (fun _ _ => 0))) (h2 : l.stackTraces = false) (d : D9) : MT G l yX11_copyRow cX11_copyRow 2 z_X11_copyRow_11_147 [rf G 11, rf G 147] d (m_X11_copyRow_11_147  d) := by
  refine mt_of (own := RX11) (by decide) rfl (Nat.le_of_ble_eq_true rfl) h1 h2 [(0, rf G 11), (1, rf G 147)] rfl (fun X hX C => ?_)
  unfold m_X11_copyRow_11_147
  refine r_aload_n C 0 dX11_copyRow_0 rfl rfl ?_
  refine r_iconst C dX11_copyRow_1 ?_
  refine r_aload_n C 1 dX11_copyRow_2 rfl rfl ?_
  refine r_iconst C dX11_copyRow_3 ?_
  refine r_aload_n C 0 dX11_copyRow_4 rfl rfl ?_
  refine r_alen C dX11_copyRow_5 la_11 ly_11 ?_
  refine r_aload_n C 1 dX11_copyRow_6 rfl rfl ?_
  refine r_alen C dX11_copyRow_7 la_147 ly_147 ?_
  refine r_mmin C dX11_copyRow_8 mm_X11_465 ⟨Nat.le_of_ble_eq_true rfl, Nat.le_of_ble_eq_true rfl⟩ (by decide) (by decide) ?_
  refine r_acopy C dX11_copyRow_11 aw_X11_470 la_11 ly_11 la_147 ly_147 (by decide) (Nat.le_of_ble_eq_true rfl) (fun d1 => ?_)
  exact r_vret C dX11_copyRow_14 (by decide) (by decide)
theorem n_X11_copyRow_11_147 (d : D9) : NT9 (m_X11_copyRow_11_147  d) := by
  unfold m_X11_copyRow_11_147
  repeat (first | exact nt_rt | exact nt_none | apply nt_if | refine nt_cl ?_ (fun _ _ => ?_) | refine nt_cp9 (fun _ => ?_))
abbrev z_X11_copyRow_12_148 : Z9 := (none, 0, 0, 0, 2, 200)
def m_X11_copyRow_12_148 (d : D9) : Option R9 := cp9 d 12 30 148 30 (min9 30 30) (fun d1 => rt 0 d1)
set_option maxRecDepth 100000 in
theorem t_X11_copyRow_12_148 {G : G9} {l : Launch} (h1 : va_D (A9 G) (wl G (fun _ _ => 0))) (h2 : l.stackTraces = false) (d : D9) : MT G l yX11_copyRow cX11_copyRow 2 z_X11_copyRow_12_148 [rf G 12, rf G 148] d (m_X11_copyRow_12_148  d) := by
  refine mt_of (own := RX11) (by decide) rfl (Nat.le_of_ble_eq_true rfl) h1 h2 [(0, rf G 12), (1, rf G 148)] rfl (fun X hX C => ?_)
  unfold m_X11_copyRow_12_148
  refine r_aload_n C 0 dX11_copyRow_0 rfl rfl ?_
  refine r_iconst C dX11_copyRow_1 ?_
  refine r_aload_n C 1 dX11_copyRow_2 rfl rfl ?_
  refine r_iconst C dX11_copyRow_3 ?_
  refine r_aload_n C 0 dX11_copyRow_4 rfl rfl ?_
  refine r_alen C dX11_copyRow_5 la_12 ly_12 ?_
  refine r_aload_n C 1 dX11_copyRow_6 rfl rfl ?_
  refine r_alen C dX11_copyRow_7 la_148 ly_148 ?_
  refine r_mmin C dX11_copyRow_8 mm_X11_465 ⟨Nat.le_of_ble_eq_true rfl, Nat.le_of_ble_eq_true rfl⟩ (by decide) (by decide) ?_
  refine r_acopy C dX11_copyRow_11 aw_X11_470 la_12 ly_12 la_148 ly_148 (by decide) (Nat.le_of_ble_eq_true rfl) (fun d1 => ?_)
  exact r_vret C dX11_copyRow_14 (by decide) (by decide)
theorem n_X11_copyRow_12_148 (d : D9) : NT9 (m_X11_copyRow_12_148  d) := by
  unfold m_X11_copyRow_12_148
  repeat (first | exact nt_rt | exact nt_none | apply nt_if | refine nt_cl ?_ (fun _ _ => ?_) | refine nt_cp9 (fun _ => ?_))
abbrev z_X11_copyRow_13_149 : Z9 := (none, 0, 0, 0, 2, 200)
def m_X11_copyRow_13_149 (d : D9) : Option R9 := cp9 d 13 30 149 30 (min9 30 30) (fun d1 => rt 0 d1)
set_option maxRecDepth 100000 in
theorem t_X11_copyRow_13_149 {G : G9} {l : Launch} (h1 : va_D (A9 G) (wl G (fun _ _ => 0))) (h2 : l.stackTraces = false) (d : D9) : MT G l yX11_copyRow cX11_copyRow 2 z_X11_copyRow_13_149 [rf G 13, rf G 149] d (m_X11_copyRow_13_149  d) := by
  refine mt_of (own := RX11) (by decide) rfl (Nat.le_of_ble_eq_true rfl) h1 h2 [(0, rf G 13), (1, rf G 149)] rfl (fun X hX C => ?_)
  unfold m_X11_copyRow_13_149
  refine r_aload_n C 0 dX11_copyRow_0 rfl rfl ?_
  refine r_iconst C dX11_copyRow_1 ?_
  refine r_aload_n C 1 dX11_copyRow_2 rfl rfl ?_
  refine r_iconst C dX11_copyRow_3 ?_
  refine r_aload_n C 0 dX11_copyRow_4 rfl rfl ?_
  refine r_alen C dX11_copyRow_5 la_13 ly_13 ?_
  refine r_aload_n C 1 dX11_copyRow_6 rfl rfl ?_
  refine r_alen C dX11_copyRow_7 la_149 ly_149 ?_
  refine r_mmin C dX11_copyRow_8 mm_X11_465 ⟨Nat.le_of_ble_eq_true rfl, Nat.le_of_ble_eq_true rfl⟩ (by decide) (by decide) ?_
  refine r_acopy C dX11_copyRow_11 aw_X11_470 la_13 ly_13 la_149 ly_149 (by decide) (Nat.le_of_ble_eq_true rfl) (fun d1 => ?_)
  exact r_vret C dX11_copyRow_14 (by decide) (by decide)
theorem n_X11_copyRow_13_149 (d : D9) : NT9 (m_X11_copyRow_13_149  d) := by
  unfold m_X11_copyRow_13_149
  repeat (first | exact nt_rt | exact nt_none | apply nt_if | refine nt_cl ?_ (fun _ _ => ?_) | refine nt_cp9 (fun _ => ?_))
abbrev z_X11_copyRow_14_150 : Z9 := (none, 0, 0, 0, 2, 200)
def m_X11_copyRow_14_150 (d : D9) : Option R9 := cp9 d 14 30 150 30 (min9 30 30) (fun d1 => rt 0 d1)
set_option maxRecDepth 100000 in
theorem t_X11_copyRow_14_150 {G : G9} {l : Launch} (h1 : va_D (A9 G) (wl G (fun _ _ => 0))) (h2 : l.stackTraces = false) (d : D9) : MT G l yX11_copyRow cX11_copyRow 2 z_X11_copyRow_14_150 [rf G 14, rf G 150] d (m_X11_copyRow_14_150  d) := by
  refine mt_of (own := RX11) (by decide) rfl (Nat.le_of_ble_eq_true rfl) h1 h2 [(0, rf G 14), (1, rf G 150)] rfl (fun X hX C => ?_)
  unfold m_X11_copyRow_14_150
  refine r_aload_n C 0 dX11_copyRow_0 rfl rfl ?_
  refine r_iconst C dX11_copyRow_1 ?_
  refine r_aload_n C 1 dX11_copyRow_2 rfl rfl ?_
  refine r_iconst C dX11_copyRow_3 ?_
  refine r_aload_n C 0 dX11_copyRow_4 rfl rfl ?_
  refine r_alen C dX11_copyRow_5 la_14 ly_14 ?_
  refine r_aload_n C 1 dX11_copyRow_6 rfl rfl ?_
  refine r_alen C dX11_copyRow_7 la_150 ly_150 ?_
  refine r_mmin C dX11_copyRow_8 mm_X11_465 ⟨Nat.le_of_ble_eq_true rfl, Nat.le_of_ble_eq_true rfl⟩ (by decide) (by decide) ?_
  refine r_acopy C dX11_copyRow_11 aw_X11_470 la_14 ly_14 la_150 ly_150 (by decide) (Nat.le_of_ble_eq_true rfl) (fun d1 => ?_)
  exact r_vret C dX11_copyRow_14 (by decide) (by decide)
theorem n_X11_copyRow_14_150 (d : D9) : NT9 (m_X11_copyRow_14_150  d) := by
  unfold m_X11_copyRow_14_150
  repeat (first | exact nt_rt | exact nt_none | apply nt_if | refine nt_cl ?_ (fun _ _ => ?_) | refine nt_cp9 (fun _ => ?_))

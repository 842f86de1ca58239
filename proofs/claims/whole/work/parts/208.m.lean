abbrev z_X11_copyRow_120_21 : Z9 := (none, 0, 0, 0, 2, 200)
def m_X11_copyRow_120_21 (d : D9) : Option R9 := cl (m_J9_min_7cf53 120 120 d) (fun r1 d2 => cp9 d2 120 120 21 120 r1 (fun d3 => rt 0 d3))
set_option maxRecDepth 100000 in
theorem t_X11_copyRow_120_21 {G : G9} {l : Launch} (h1 : va_D (A9 G) (wl G (fun _ _ => 0))) (h2 : l.stackTraces = false) (d : D9) : MT G l yX11_copyRow cX11_copyRow 2 z_X11_copyRow_120_21 [rf G 120, rf G 21] d (m_X11_copyRow_120_21  d) := by
  refine mt_of (own := RX11) (by decide) rfl (Nat.le_of_ble_eq_true rfl) h1 h2 [(0, rf G 120), (1, rf G 21)] rfl (fun X hX C => ?_)
  unfold m_X11_copyRow_120_21
  refine r_aload_n C 0 dX11_copyRow_0 rfl rfl ?_
  refine r_iconst C dX11_copyRow_1 ?_
  refine r_aload_n C 1 dX11_copyRow_2 rfl rfl ?_
  refine r_iconst C dX11_copyRow_3 ?_
  refine r_aload_n C 0 dX11_copyRow_4 rfl rfl ?_
  refine r_alen C dX11_copyRow_5 la_120 ly_120 ?_
  refine r_aload_n C 1 dX11_copyRow_6 rfl rfl ?_
  refine r_alen C dX11_copyRow_7 la_21 ly_21 ?_
  refine r_callS C [i9 120, i9 120, i9 0, rf G 21, i9 0, rf G 120] dX11_copyRow_8 (t_J9_min_7cf53 C.h1 C.h2 120 120 d) mw_X11_465 ms_J9_min_7cf53 (by decide) (by decide) (by decide) rfl rfl (Nat.le_of_ble_eq_true rfl) (fun r1 d2 => ?_)
  show SS G X 2 _ _ 11 [(0, rf G 120), (1, rf G 21)] [i9 r1, i9 0, rf G 21, i9 0, rf G 120] d2 _
  refine r_acopy C dX11_copyRow_11 aw_X11_470 la_120 ly_120 la_21 ly_21 (by decide) (Nat.le_of_ble_eq_true rfl) (fun d3 => ?_)
  exact r_vret C dX11_copyRow_14 (by decide) (by decide)
theorem n_X11_copyRow_120_21 (d : D9) : NT9 (m_X11_copyRow_120_21  d) := by
  unfold m_X11_copyRow_120_21
  repeat (first | exact nt_rt | exact nt_none | exact n_J9_min_7cf53 _ _ _ | apply nt_if | refine nt_cl ?_ (fun _ _ => ?_) | refine nt_cp9 (fun _ => ?_))
abbrev z_X6_copyFrom_9_108 : Z9 := (none, 0, 0, 0, 3, 221)
def m_X6_copyFrom_9_108 (d : D9) : Option R9 := pf d 9 0 (d 108 0) (fun d1 => cl (m_X11_copyRow_109_10 d1) (fun r2 d3 => cl (m_X11_copyRow_110_11 d3) (fun r4 d5 => cl (m_X11_copyRow_111_12 d5) (fun r6 d7 => cl (m_X11_copyRow_112_13 d7) (fun r8 d9 => cl (m_X11_copyRow_113_14 d9) (fun r10 d11 => cl (m_X11_copyRow_114_15 d11) (fun r12 d13 => cl (m_X11_copyRow_115_16 d13) (fun r14 d15 => cl (m_X11_copyRow_116_17 d15) (fun r16 d17 => cl (m_X11_copyRow_117_18 d17) (fun r18 d19 => cl (m_X11_copyRow_118_19 d19) (fun r20 d21 => cl (m_X11_copyRow_119_20 d21) (fun r22 d23 => cl (m_X11_copyRow_120_21 d23) (fun r24 d25 => rt 0 d25)))))))))))))
set_option maxRecDepth 100000 in
theorem t_X6_copyFrom_9_108 {G : G9} {l : Launch} (h1 : va_D (A9 G) (wl G (fun _ _ => 0))) (h2 : l.stackTraces = false) (d : D9) : MT G l yX6_copyFrom cX6_copyFrom 2 z_X6_copyFrom_9_108 [rf G 9, rf G 108] d (m_X6_copyFrom_9_108  d) := by
  refine mt_of (own := RX6) (by decide) rfl (Nat.le_of_ble_eq_true rfl) h1 h2 [(0, rf G 9), (1, rf G 108)] rfl (fun X hX C => ?_)
  unfold m_X6_copyFrom_9_108
  refine r_aload_n C 0 dX6_copyFrom_0 rfl rfl ?_
  refine r_aload_n C 1 dX6_copyFrom_1 rfl rfl ?_
  refine r_getI C dX6_copyFrom_2 fl_X6_48 la_108 ly_108 rfl ?_
  refine r_putI C dX6_copyFrom_5 fp_X6_48 la_9 ly_9 rfl (fun d1 => ?_)
  refine r_aload_n C 1 dX6_copyFrom_8 rfl rfl ?_
  refine r_getR C 109 dX6_copyFrom_9 fl_X6_9 la_108 ly_108 rfl rfl ?_
  refine r_aload_n C 0 dX6_copyFrom_12 rfl rfl ?_
  refine r_getR C 10 dX6_copyFrom_13 fl_X6_9 la_9 ly_9 rfl rfl ?_
  refine r_callN C [rf G 10, rf G 109] dX6_copyFrom_16 (t_X11_copyRow_109_10 C.h1 C.h2 d1) (n_X11_copyRow_109_10 d1) mn_X6_52 ms_X11_copyRow (by decide) (by decide) (by decide) rfl rfl (Nat.le_of_ble_eq_true rfl) (fun r2 d3 => ?_)
  show SS G X 2 _ _ 19 [(0, rf G 9), (1, rf G 108)] [] d3 _
  refine r_aload_n C 1 dX6_copyFrom_19 rfl rfl ?_
  refine r_getR C 110 dX6_copyFrom_20 fl_X6_15 la_108 ly_108 rfl rfl ?_
  refine r_aload_n C 0 dX6_copyFrom_23 rfl rfl ?_
  refine r_getR C 11 dX6_copyFrom_24 fl_X6_15 la_9 ly_9 rfl rfl ?_
  refine r_callN C [rf G 11, rf G 110] dX6_copyFrom_27 (t_X11_copyRow_110_11 C.h1 C.h2 d3) (n_X11_copyRow_110_11 d3) mn_X6_52 ms_X11_copyRow (by decide) (by decide) (by decide) rfl rfl (Nat.le_of_ble_eq_true rfl) (fun r4 d5 => ?_)
  show SS G X 2 _ _ 30 [(0, rf G 9), (1, rf G 108)] [] d5 _
  refine r_aload_n C 1 dX6_copyFrom_30 rfl rfl ?_
  refine r_getR C 111 dX6_copyFrom_31 fl_X6_18 la_108 ly_108 rfl rfl ?_
  refine r_aload_n C 0 dX6_copyFrom_34 rfl rfl ?_
  refine r_getR C 12 dX6_copyFrom_35 fl_X6_18 la_9 ly_9 rfl rfl ?_
  refine r_callN C [rf G 12, rf G 111] dX6_copyFrom_38 (t_X11_copyRow_111_12 C.h1 C.h2 d5) (n_X11_copyRow_111_12 d5) mn_X6_52 ms_X11_copyRow (by decide) (by decide) (by decide) rfl rfl (Nat.le_of_ble_eq_true rfl) (fun r6 d7 => ?_)
  show SS G X 2 _ _ 41 [(0, rf G 9), (1, rf G 108)] [] d7 _
  refine r_aload_n C 1 dX6_copyFrom_41 rfl rfl ?_
  refine r_getR C 112 dX6_copyFrom_42 fl_X6_21 la_108 ly_108 rfl rfl ?_
  refine r_aload_n C 0 dX6_copyFrom_45 rfl rfl ?_
  refine r_getR C 13 dX6_copyFrom_46 fl_X6_21 la_9 ly_9 rfl rfl ?_
  refine r_callN C [rf G 13, rf G 112] dX6_copyFrom_49 (t_X11_copyRow_112_13 C.h1 C.h2 d7) (n_X11_copyRow_112_13 d7) mn_X6_52 ms_X11_copyRow (by decide) (by decide) (by decide) rfl rfl (Nat.le_of_ble_eq_true rfl) (fun r8 d9 => ?_)
  show SS G X 2 _ _ 52 [(0, rf G 9), (1, rf G 108)] [] d9 _
  refine r_aload_n C 1 dX6_copyFrom_52 rfl rfl ?_
  refine r_getR C 113 dX6_copyFrom_53 fl_X6_24 la_108 ly_108 rfl rfl ?_
  refine r_aload_n C 0 dX6_copyFrom_56 rfl rfl ?_
  refine r_getR C 14 dX6_copyFrom_57 fl_X6_24 la_9 ly_9 rfl rfl ?_
  refine r_callN C [rf G 14, rf G 113] dX6_copyFrom_60 (t_X11_copyRow_113_14 C.h1 C.h2 d9) (n_X11_copyRow_113_14 d9) mn_X6_52 ms_X11_copyRow (by decide) (by decide) (by decide) rfl rfl (Nat.le_of_ble_eq_true rfl) (fun r10 d11 => ?_)
  show SS G X 2 _ _ 63 [(0, rf G 9), (1, rf G 108)] [] d11 _
  refine r_aload_n C 1 dX6_copyFrom_63 rfl rfl ?_
  refine r_getR C 114 dX6_copyFrom_64 fl_X6_27 la_108 ly_108 rfl rfl ?_
  refine r_aload_n C 0 dX6_copyFrom_67 rfl rfl ?_
  refine r_getR C 15 dX6_copyFrom_68 fl_X6_27 la_9 ly_9 rfl rfl ?_
  refine r_callN C [rf G 15, rf G 114] dX6_copyFrom_71 (t_X11_copyRow_114_15 C.h1 C.h2 d11) (n_X11_copyRow_114_15 d11) mn_X6_52 ms_X11_copyRow (by decide) (by decide) (by decide) rfl rfl (Nat.le_of_ble_eq_true rfl) (fun r12 d13 => ?_)
  show SS G X 2 _ _ 74 [(0, rf G 9), (1, rf G 108)] [] d13 _
  refine r_aload_n C 1 dX6_copyFrom_74 rfl rfl ?_
  refine r_getR C 115 dX6_copyFrom_75 fl_X6_30 la_108 ly_108 rfl rfl ?_
  refine r_aload_n C 0 dX6_copyFrom_78 rfl rfl ?_
  refine r_getR C 16 dX6_copyFrom_79 fl_X6_30 la_9 ly_9 rfl rfl ?_
  refine r_callN C [rf G 16, rf G 115] dX6_copyFrom_82 (t_X11_copyRow_115_16 C.h1 C.h2 d13) (n_X11_copyRow_115_16 d13) mn_X6_52 ms_X11_copyRow (by decide) (by decide) (by decide) rfl rfl (Nat.le_of_ble_eq_true rfl) (fun r14 d15 => ?_)
  show SS G X 2 _ _ 85 [(0, rf G 9), (1, rf G 108)] [] d15 _
  refine r_aload_n C 1 dX6_copyFrom_85 rfl rfl ?_
  refine r_getR C 116 dX6_copyFrom_86 fl_X6_33 la_108 ly_108 rfl rfl ?_
  refine r_aload_n C 0 dX6_copyFrom_89 rfl rfl ?_
  refine r_getR C 17 dX6_copyFrom_90 fl_X6_33 la_9 ly_9 rfl rfl ?_
  refine r_callN C [rf G 17, rf G 116] dX6_copyFrom_93 (t_X11_copyRow_116_17 C.h1 C.h2 d15) (n_X11_copyRow_116_17 d15) mn_X6_52 ms_X11_copyRow (by decide) (by decide) (by decide) rfl rfl (Nat.le_of_ble_eq_true rfl) (fun r16 d17 => ?_)
  show SS G X 2 _ _ 96 [(0, rf G 9), (1, rf G 108)] [] d17 _
  refine r_aload_n C 1 dX6_copyFrom_96 rfl rfl ?_
  refine r_getR C 117 dX6_copyFrom_97 fl_X6_36 la_108 ly_108 rfl rfl ?_
  refine r_aload_n C 0 dX6_copyFrom_100 rfl rfl ?_
  refine r_getR C 18 dX6_copyFrom_101 fl_X6_36 la_9 ly_9 rfl rfl ?_
  refine r_callN C [rf G 18, rf G 117] dX6_copyFrom_104 (t_X11_copyRow_117_18 C.h1 C.h2 d17) (n_X11_copyRow_117_18 d17) mn_X6_52 ms_X11_copyRow (by decide) (by decide) (by decide) rfl rfl (Nat.le_of_ble_eq_true rfl) (fun r18 d19 => ?_)
  show SS G X 2 _ _ 107 [(0, rf G 9), (1, rf G 108)] [] d19 _
  refine r_aload_n C 1 dX6_copyFrom_107 rfl rfl ?_
  refine r_getR C 118 dX6_copyFrom_108 fl_X6_39 la_108 ly_108 rfl rfl ?_
  refine r_aload_n C 0 dX6_copyFrom_111 rfl rfl ?_
  refine r_getR C 19 dX6_copyFrom_112 fl_X6_39 la_9 ly_9 rfl rfl ?_
  refine r_callN C [rf G 19, rf G 118] dX6_copyFrom_115 (t_X11_copyRow_118_19 C.h1 C.h2 d19) (n_X11_copyRow_118_19 d19) mn_X6_52 ms_X11_copyRow (by decide) (by decide) (by decide) rfl rfl (Nat.le_of_ble_eq_true rfl) (fun r20 d21 => ?_)
  show SS G X 2 _ _ 118 [(0, rf G 9), (1, rf G 108)] [] d21 _
  refine r_aload_n C 1 dX6_copyFrom_118 rfl rfl ?_
  refine r_getR C 119 dX6_copyFrom_119 fl_X6_42 la_108 ly_108 rfl rfl ?_
  refine r_aload_n C 0 dX6_copyFrom_122 rfl rfl ?_
  refine r_getR C 20 dX6_copyFrom_123 fl_X6_42 la_9 ly_9 rfl rfl ?_
  refine r_callN C [rf G 20, rf G 119] dX6_copyFrom_126 (t_X11_copyRow_119_20 C.h1 C.h2 d21) (n_X11_copyRow_119_20 d21) mn_X6_52 ms_X11_copyRow (by decide) (by decide) (by decide) rfl rfl (Nat.le_of_ble_eq_true rfl) (fun r22 d23 => ?_)
  show SS G X 2 _ _ 129 [(0, rf G 9), (1, rf G 108)] [] d23 _
  refine r_aload_n C 1 dX6_copyFrom_129 rfl rfl ?_
  refine r_getR C 120 dX6_copyFrom_130 fl_X6_45 la_108 ly_108 rfl rfl ?_
  refine r_aload_n C 0 dX6_copyFrom_133 rfl rfl ?_
  refine r_getR C 21 dX6_copyFrom_134 fl_X6_45 la_9 ly_9 rfl rfl ?_
  refine r_callN C [rf G 21, rf G 120] dX6_copyFrom_137 (t_X11_copyRow_120_21 C.h1 C.h2 d23) (n_X11_copyRow_120_21 d23) mn_X6_52 ms_X11_copyRow (by decide) (by decide) (by decide) rfl rfl (Nat.le_of_ble_eq_true rfl) (fun r24 d25 => ?_)
  show SS G X 2 _ _ 140 [(0, rf G 9), (1, rf G 108)] [] d25 _
  exact r_vret C dX6_copyFrom_140 (by decide) (by decide)
abbrev z_X2_copyFrom_22_121 : Z9 := (none, 0, 0, 0, 1, 0)
def m_X2_copyFrom_22_121 (d : D9) : Option R9 := pf d 22 0 (d 121 0) (fun d1 => pf d1 22 1 (d1 121 1) (fun d2 => pf d2 22 2 (d2 121 2) (fun d3 => pf d3 22 3 (d3 121 3) (fun d4 => pf d4 22 4 (d4 121 4) (fun d5 => pf d5 22 5 (d5 121 5) (fun d6 => pf d6 22 6 (d6 121 6) (fun d7 => pf d7 22 7 (d7 121 7) (fun d8 => rt 0 d8))))))))
set_option maxRecDepth 100000 in
theorem t_X2_copyFrom_22_121 {G : G9} {l : Launch} (h1 : va_D (A9 G) (wl G (fun _ _ => 0))) (h2 : l.stackTraces = false) (d : D9) : MT G l yX2_copyFrom cX2_copyFrom 2 z_X2_copyFrom_22_121 [rf G 22, rf G 121] d (m_X2_copyFrom_22_121  d) := by
  refine mt_of (own := RX2) (by decide) rfl (Nat.le_of_ble_eq_true rfl) h1 h2 [(0, rf G 22), (1, rf G 121)] rfl (fun X hX C => ?_)
  unfold m_X2_copyFrom_22_121
  refine r_aload_n C 0 dX2_copyFrom_0 rfl rfl ?_
  refine r_aload_n C 1 dX2_copyFrom_1 rfl rfl ?_
  refine r_getI C dX2_copyFrom_2 fl_X2_14 la_121 ly_121 rfl ?_
  refine r_putI C dX2_copyFrom_5 fp_X2_14 la_22 ly_22 rfl (fun d1 => ?_)
  refine r_aload_n C 0 dX2_copyFrom_8 rfl rfl ?_
  refine r_aload_n C 1 dX2_copyFrom_9 rfl rfl ?_
  refine r_getI C dX2_copyFrom_10 fl_X2_18 la_121 ly_121 rfl ?_
  refine r_putI C dX2_copyFrom_13 fp_X2_18 la_22 ly_22 rfl (fun d2 => ?_)
  refine r_aload_n C 0 dX2_copyFrom_16 rfl rfl ?_
  refine r_aload_n C 1 dX2_copyFrom_17 rfl rfl ?_
  refine r_getI C dX2_copyFrom_18 fl_X2_21 la_121 ly_121 rfl ?_
  refine r_putI C dX2_copyFrom_21 fp_X2_21 la_22 ly_22 rfl (fun d3 => ?_)
  refine r_aload_n C 0 dX2_copyFrom_24 rfl rfl ?_
  refine r_aload_n C 1 dX2_copyFrom_25 rfl rfl ?_
  refine r_getI C dX2_copyFrom_26 fl_X2_24 la_121 ly_121 rfl ?_
  refine r_putI C dX2_copyFrom_29 fp_X2_24 la_22 ly_22 rfl (fun d4 => ?_)
  refine r_aload_n C 0 dX2_copyFrom_32 rfl rfl ?_
  refine r_aload_n C 1 dX2_copyFrom_33 rfl rfl ?_
  refine r_getI C dX2_copyFrom_34 fl_X2_27 la_121 ly_121 rfl ?_
  refine r_putI C dX2_copyFrom_37 fp_X2_27 la_22 ly_22 rfl (fun d5 => ?_)
  refine r_aload_n C 0 dX2_copyFrom_40 rfl rfl ?_
  refine r_aload_n C 1 dX2_copyFrom_41 rfl rfl ?_
  refine r_getI C dX2_copyFrom_42 fl_X2_30 la_121 ly_121 rfl ?_
  refine r_putI C dX2_copyFrom_45 fp_X2_30 la_22 ly_22 rfl (fun d6 => ?_)
  refine r_aload_n C 0 dX2_copyFrom_48 rfl rfl ?_
  refine r_aload_n C 1 dX2_copyFrom_49 rfl rfl ?_
  refine r_getI C dX2_copyFrom_50 fl_X2_33 la_121 ly_121 rfl ?_
  refine r_putI C dX2_copyFrom_53 fp_X2_33 la_22 ly_22 rfl (fun d7 => ?_)
  refine r_aload_n C 0 dX2_copyFrom_56 rfl rfl ?_
  refine r_aload_n C 1 dX2_copyFrom_57 rfl rfl ?_
  refine r_getI C dX2_copyFrom_58 fl_X2_36 la_121 ly_121 rfl ?_
  refine r_putI C dX2_copyFrom_61 fp_X2_36 la_22 ly_22 rfl (fun d8 => ?_)
  exact r_vret C dX2_copyFrom_64 (by decide) (by decide)
abbrev z_X11_copyRow_123_24 : Z9 := (none, 0, 0, 0, 2, 200)
def m_X11_copyRow_123_24 (d : D9) : Option R9 := cl (m_J9_min_7cf53 12 12 d) (fun r1 d2 => cp9 d2 123 12 24 12 r1 (fun d3 => rt 0 d3))
set_option maxRecDepth 100000 in
theorem t_X11_copyRow_123_24 {G : G9} {l : Launch} (h1 : va_D (A9 G) (wl G (fun _ _ => 0))) (h2 : l.stackTraces = false) (d : D9) : MT G l yX11_copyRow cX11_copyRow 2 z_X11_copyRow_123_24 [rf G 123, rf G 24] d (m_X11_copyRow_123_24  d) := by
  refine mt_of (own := RX11) (by decide) rfl (Nat.le_of_ble_eq_true rfl) h1 h2 [(0, rf G 123), (1, rf G 24)] rfl (fun X hX C => ?_)
  unfold m_X11_copyRow_123_24
  refine r_aload_n C 0 dX11_copyRow_0 rfl rfl ?_
  refine r_iconst C dX11_copyRow_1 ?_
  refine r_aload_n C 1 dX11_copyRow_2 rfl rfl ?_
  refine r_iconst C dX11_copyRow_3 ?_
  refine r_aload_n C 0 dX11_copyRow_4 rfl rfl ?_
  refine r_alen C dX11_copyRow_5 la_123 ly_123 ?_
  refine r_aload_n C 1 dX11_copyRow_6 rfl rfl ?_
  refine r_alen C dX11_copyRow_7 la_24 ly_24 ?_
  refine r_callS C [i9 12, i9 12, i9 0, rf G 24, i9 0, rf G 123] dX11_copyRow_8 (t_J9_min_7cf53 C.h1 C.h2 12 12 d) mw_X11_465 ms_J9_min_7cf53 (by decide) (by decide) (by decide) rfl rfl (Nat.le_of_ble_eq_true rfl) (fun r1 d2 => ?_)
  show SS G X 2 _ _ 11 [(0, rf G 123), (1, rf G 24)] [i9 r1, i9 0, rf G 24, i9 0, rf G 123] d2 _
  refine r_acopy C dX11_copyRow_11 aw_X11_470 la_123 ly_123 la_24 ly_24 (by decide) (Nat.le_of_ble_eq_true rfl) (fun d3 => ?_)
  exact r_vret C dX11_copyRow_14 (by decide) (by decide)
theorem n_X11_copyRow_123_24 (d : D9) : NT9 (m_X11_copyRow_123_24  d) := by
  unfold m_X11_copyRow_123_24
  repeat (first | exact nt_rt | exact nt_none | exact n_J9_min_7cf53 _ _ _ | apply nt_if | refine nt_cl ?_ (fun _ _ => ?_) | refine nt_cp9 (fun _ => ?_))
abbrev z_X11_copyRow_124_25 : Z9 := (none, 0, 0, 0, 2, 200)
def m_X11_copyRow_124_25 (d : D9) : Option R9 := cl (m_J9_min_7cf53 12 12 d) (fun r1 d2 => cp9 d2 124 12 25 12 r1 (fun d3 => rt 0 d3))
set_option maxRecDepth 100000 in
theorem t_X11_copyRow_124_25 {G : G9} {l : Launch} (h1 : va_D (A9 G) (wl G (fun _ _ => 0))) (h2 : l.stackTraces = false) (d : D9) : MT G l yX11_copyRow cX11_copyRow 2 z_X11_copyRow_124_25 [rf G 124, rf G 25] d (m_X11_copyRow_124_25  d) := by
  refine mt_of (own := RX11) (by decide) rfl (Nat.le_of_ble_eq_true rfl) h1 h2 [(0, rf G 124), (1, rf G 25)] rfl (fun X hX C => ?_)
  unfold m_X11_copyRow_124_25
  refine r_aload_n C 0 dX11_copyRow_0 rfl rfl ?_
  refine r_iconst C dX11_copyRow_1 ?_
  refine r_aload_n C 1 dX11_copyRow_2 rfl rfl ?_
  refine r_iconst C dX11_copyRow_3 ?_
  refine r_aload_n C 0 dX11_copyRow_4 rfl rfl ?_
  refine r_alen C dX11_copyRow_5 la_124 ly_124 ?_
  refine r_aload_n C 1 dX11_copyRow_6 rfl rfl ?_
  refine r_alen C dX11_copyRow_7 la_25 ly_25 ?_
  refine r_callS C [i9 12, i9 12, i9 0, rf G 25, i9 0, rf G 124] dX11_copyRow_8 (t_J9_min_7cf53 C.h1 C.h2 12 12 d) mw_X11_465 ms_J9_min_7cf53 (by decide) (by decide) (by decide) rfl rfl (Nat.le_of_ble_eq_true rfl) (fun r1 d2 => ?_)
  show SS G X 2 _ _ 11 [(0, rf G 124), (1, rf G 25)] [i9 r1, i9 0, rf G 25, i9 0, rf G 124] d2 _
  refine r_acopy C dX11_copyRow_11 aw_X11_470 la_124 ly_124 la_25 ly_25 (by decide) (Nat.le_of_ble_eq_true rfl) (fun d3 => ?_)
  exact r_vret C dX11_copyRow_14 (by decide) (by decide)
theorem n_X11_copyRow_124_25 (d : D9) : NT9 (m_X11_copyRow_124_25  d) := by
  unfold m_X11_copyRow_124_25
  repeat (first | exact nt_rt | exact nt_none | exact n_J9_min_7cf53 _ _ _ | apply nt_if | refine nt_cl ?_ (fun _ _ => ?_) | refine nt_cp9 (fun _ => ?_))
abbrev z_X11_copyRow_125_26 : Z9 := (none, 0, 0, 0, 2, 200)
def m_X11_copyRow_125_26 (d : D9) : Option R9 := cl (m_J9_min_7cf53 12 12 d) (fun r1 d2 => cp9 d2 125 12 26 12 r1 (fun d3 => rt 0 d3))
set_option maxRecDepth 100000 in
theorem t_X11_copyRow_125_26 {G : G9} {l : Launch} (h1 : va_D (A9 G) (wl G (fun _ _ => 0))) (h2 : l.stackTraces = false) (d : D9) : MT G l yX11_copyRow cX11_copyRow 2 z_X11_copyRow_125_26 [rf G 125, rf G 26] d (m_X11_copyRow_125_26  d) := by
  refine mt_of (own := RX11) (by decide) rfl (Nat.le_of_ble_eq_true rfl) h1 h2 [(0, rf G 125), (1, rf G 26)] rfl (fun X hX C => ?_)
  unfold m_X11_copyRow_125_26
  refine r_aload_n C 0 dX11_copyRow_0 rfl rfl ?_
  refine r_iconst C dX11_copyRow_1 ?_
  refine r_aload_n C 1 dX11_copyRow_2 rfl rfl ?_
  refine r_iconst C dX11_copyRow_3 ?_
  refine r_aload_n C 0 dX11_copyRow_4 rfl rfl ?_
  refine r_alen C dX11_copyRow_5 la_125 ly_125 ?_
  refine r_aload_n C 1 dX11_copyRow_6 rfl rfl ?_
  refine r_alen C dX11_copyRow_7 la_26 ly_26 ?_
  refine r_callS C [i9 12, i9 12, i9 0, rf G 26, i9 0, rf G 125] dX11_copyRow_8 (t_J9_min_7cf53 C.h1 C.h2 12 12 d) mw_X11_465 ms_J9_min_7cf53 (by decide) (by decide) (by decide) rfl rfl (Nat.le_of_ble_eq_true rfl) (fun r1 d2 => ?_)
  show SS G X 2 _ _ 11 [(0, rf G 125), (1, rf G 26)] [i9 r1, i9 0, rf G 26, i9 0, rf G 125] d2 _
  refine r_acopy C dX11_copyRow_11 aw_X11_470 la_125 ly_125 la_26 ly_26 (by decide) (Nat.le_of_ble_eq_true rfl) (fun d3 => ?_)
  exact r_vret C dX11_copyRow_14 (by decide) (by decide)
theorem n_X11_copyRow_125_26 (d : D9) : NT9 (m_X11_copyRow_125_26  d) := by
  unfold m_X11_copyRow_125_26
  repeat (first | exact nt_rt | exact nt_none | exact n_J9_min_7cf53 _ _ _ | apply nt_if | refine nt_cl ?_ (fun _ _ => ?_) | refine nt_cp9 (fun _ => ?_))
abbrev z_X11_copyRow_126_27 : Z9 := (none, 0, 0, 0, 2, 200)
def m_X11_copyRow_126_27 (d : D9) : Option R9 := cl (m_J9_min_7cf53 12 12 d) (fun r1 d2 => cp9 d2 126 12 27 12 r1 (fun d3 => rt 0 d3))
set_option maxRecDepth 100000 in
theorem t_X11_copyRow_126_27 {G : G9} {l : Launch} (h1 : va_D (A9 G) (wl G (fun _ _ => 0))) (h2 : l.stackTraces = false) (d : D9) : MT G l yX11_copyRow cX11_copyRow 2 z_X11_copyRow_126_27 [rf G 126, rf G 27] d (m_X11_copyRow_126_27  d) := by
  refine mt_of (own := RX11) (by decide) rfl (Nat.le_of_ble_eq_true rfl) h1 h2 [(0, rf G 126), (1, rf G 27)] rfl (fun X hX C => ?_)
  unfold m_X11_copyRow_126_27
  refine r_aload_n C 0 dX11_copyRow_0 rfl rfl ?_
  refine r_iconst C dX11_copyRow_1 ?_
  refine r_aload_n C 1 dX11_copyRow_2 rfl rfl ?_
  refine r_iconst C dX11_copyRow_3 ?_
  refine r_aload_n C 0 dX11_copyRow_4 rfl rfl ?_
  refine r_alen C dX11_copyRow_5 la_126 ly_126 ?_
  refine r_aload_n C 1 dX11_copyRow_6 rfl rfl ?_
  refine r_alen C dX11_copyRow_7 la_27 ly_27 ?_
  refine r_callS C [i9 12, i9 12, i9 0, rf G 27, i9 0, rf G 126] dX11_copyRow_8 (t_J9_min_7cf53 C.h1 C.h2 12 12 d) mw_X11_465 ms_J9_min_7cf53 (by decide) (by decide) (by decide) rfl rfl (Nat.le_of_ble_eq_true rfl) (fun r1 d2 => ?_)
  show SS G X 2 _ _ 11 [(0, rf G 126), (1, rf G 27)] [i9 r1, i9 0, rf G 27, i9 0, rf G 126] d2 _
  refine r_acopy C dX11_copyRow_11 aw_X11_470 la_126 ly_126 la_27 ly_27 (by decide) (Nat.le_of_ble_eq_true rfl) (fun d3 => ?_)
  exact r_vret C dX11_copyRow_14 (by decide) (by decide)
theorem n_X11_copyRow_126_27 (d : D9) : NT9 (m_X11_copyRow_126_27  d) := by
  unfold m_X11_copyRow_126_27
  repeat (first | exact nt_rt | exact nt_none | exact n_J9_min_7cf53 _ _ _ | apply nt_if | refine nt_cl ?_ (fun _ _ => ?_) | refine nt_cp9 (fun _ => ?_))
abbrev z_X7_copyFrom_23_122 : Z9 := (none, 0, 0, 0, 3, 221)
def m_X7_copyFrom_23_122 (d : D9) : Option R9 := pf d 23 0 (d 122 0) (fun d1 => cl (m_X11_copyRow_123_24 d1) (fun r2 d3 => cl (m_X11_copyRow_124_25 d3) (fun r4 d5 => cl (m_X11_copyRow_125_26 d5) (fun r6 d7 => cl (m_X11_copyRow_126_27 d7) (fun r8 d9 => rt 0 d9)))))
set_option maxRecDepth 100000 in
theorem t_X7_copyFrom_23_122 {G : G9} {l : Launch} (h1 : va_D (A9 G) (wl G (fun _ _ => 0))) (h2 : l.stackTraces = false) (d : D9) : MT G l yX7_copyFrom cX7_copyFrom 2 z_X7_copyFrom_23_122 [rf G 23, rf G 122] d (m_X7_copyFrom_23_122  d) := by
  refine mt_of (own := RX7) (by decide) rfl (Nat.le_of_ble_eq_true rfl) h1 h2 [(0, rf G 23), (1, rf G 122)] rfl (fun X hX C => ?_)
  unfold m_X7_copyFrom_23_122
  refine r_aload_n C 0 dX7_copyFrom_0 rfl rfl ?_
  refine r_aload_n C 1 dX7_copyFrom_1 rfl rfl ?_
  refine r_getI C dX7_copyFrom_2 fl_X7_24 la_122 ly_122 rfl ?_
  refine r_putI C dX7_copyFrom_5 fp_X7_24 la_23 ly_23 rfl (fun d1 => ?_)
  refine r_aload_n C 1 dX7_copyFrom_8 rfl rfl ?_
  refine r_getR C 123 dX7_copyFrom_9 fl_X7_9 la_122 ly_122 rfl rfl ?_
  refine r_aload_n C 0 dX7_copyFrom_12 rfl rfl ?_
  refine r_getR C 24 dX7_copyFrom_13 fl_X7_9 la_23 ly_23 rfl rfl ?_
  refine r_callN C [rf G 24, rf G 123] dX7_copyFrom_16 (t_X11_copyRow_123_24 C.h1 C.h2 d1) (n_X11_copyRow_123_24 d1) mn_X7_28 ms_X11_copyRow (by decide) (by decide) (by decide) rfl rfl (Nat.le_of_ble_eq_true rfl) (fun r2 d3 => ?_)
  show SS G X 2 _ _ 19 [(0, rf G 23), (1, rf G 122)] [] d3 _
  refine r_aload_n C 1 dX7_copyFrom_19 rfl rfl ?_
  refine r_getR C 124 dX7_copyFrom_20 fl_X7_15 la_122 ly_122 rfl rfl ?_
  refine r_aload_n C 0 dX7_copyFrom_23 rfl rfl ?_
  refine r_getR C 25 dX7_copyFrom_24 fl_X7_15 la_23 ly_23 rfl rfl ?_
  refine r_callN C [rf G 25, rf G 124] dX7_copyFrom_27 (t_X11_copyRow_124_25 C.h1 C.h2 d3) (n_X11_copyRow_124_25 d3) mn_X7_28 ms_X11_copyRow (by decide) (by decide) (by decide) rfl rfl (Nat.le_of_ble_eq_true rfl) (fun r4 d5 => ?_)
  show SS G X 2 _ _ 30 [(0, rf G 23), (1, rf G 122)] [] d5 _
  refine r_aload_n C 1 dX7_copyFrom_30 rfl rfl ?_
  refine r_getR C 125 dX7_copyFrom_31 fl_X7_18 la_122 ly_122 rfl rfl ?_
  refine r_aload_n C 0 dX7_copyFrom_34 rfl rfl ?_
  refine r_getR C 26 dX7_copyFrom_35 fl_X7_18 la_23 ly_23 rfl rfl ?_
  refine r_callN C [rf G 26, rf G 125] dX7_copyFrom_38 (t_X11_copyRow_125_26 C.h1 C.h2 d5) (n_X11_copyRow_125_26 d5) mn_X7_28 ms_X11_copyRow (by decide) (by decide) (by decide) rfl rfl (Nat.le_of_ble_eq_true rfl) (fun r6 d7 => ?_)
  show SS G X 2 _ _ 41 [(0, rf G 23), (1, rf G 122)] [] d7 _
  refine r_aload_n C 1 dX7_copyFrom_41 rfl rfl ?_
  refine r_getR C 126 dX7_copyFrom_42 fl_X7_21 la_122 ly_122 rfl rfl ?_
  refine r_aload_n C 0 dX7_copyFrom_45 rfl rfl ?_
  refine r_getR C 27 dX7_copyFrom_46 fl_X7_21 la_23 ly_23 rfl rfl ?_
  refine r_callN C [rf G 27, rf G 126] dX7_copyFrom_49 (t_X11_copyRow_126_27 C.h1 C.h2 d7) (n_X11_copyRow_126_27 d7) mn_X7_28 ms_X11_copyRow (by decide) (by decide) (by decide) rfl rfl (Nat.le_of_ble_eq_true rfl) (fun r8 d9 => ?_)
  show SS G X 2 _ _ 52 [(0, rf G 23), (1, rf G 122)] [] d9 _
  exact r_vret C dX7_copyFrom_52 (by decide) (by decide)
abbrev z_X11_copyRow_128_29 : Z9 := (none, 0, 0, 0, 2, 200)
def m_X11_copyRow_128_29 (d : D9) : Option R9 := cl (m_J9_min_7cf53 12 12 d) (fun r1 d2 => cp9 d2 128 12 29 12 r1 (fun d3 => rt 0 d3))
set_option maxRecDepth 100000 in
theorem t_X11_copyRow_128_29 {G : G9} {l : Launch} (h1 : va_D (A9 G) (wl G (fun _ _ => 0))) (h2 : l.stackTraces = false) (d : D9) : MT G l yX11_copyRow cX11_copyRow 2 z_X11_copyRow_128_29 [rf G 128, rf G 29] d (m_X11_copyRow_128_29  d) := by
  refine mt_of (own := RX11) (by decide) rfl (Nat.le_of_ble_eq_true rfl) h1 h2 [(0, rf G 128), (1, rf G 29)] rfl (fun X hX C => ?_)
  unfold m_X11_copyRow_128_29
  refine r_aload_n C 0 dX11_copyRow_0 rfl rfl ?_
  refine r_iconst C dX11_copyRow_1 ?_
  refine r_aload_n C 1 dX11_copyRow_2 rfl rfl ?_
  refine r_iconst C dX11_copyRow_3 ?_
  refine r_aload_n C 0 dX11_copyRow_4 rfl rfl ?_
  refine r_alen C dX11_copyRow_5 la_128 ly_128 ?_
  refine r_aload_n C 1 dX11_copyRow_6 rfl rfl ?_
  refine r_alen C dX11_copyRow_7 la_29 ly_29 ?_
  refine r_callS C [i9 12, i9 12, i9 0, rf G 29, i9 0, rf G 128] dX11_copyRow_8 (t_J9_min_7cf53 C.h1 C.h2 12 12 d) mw_X11_465 ms_J9_min_7cf53 (by decide) (by decide) (by decide) rfl rfl (Nat.le_of_ble_eq_true rfl) (fun r1 d2 => ?_)
  show SS G X 2 _ _ 11 [(0, rf G 128), (1, rf G 29)] [i9 r1, i9 0, rf G 29, i9 0, rf G 128] d2 _
  refine r_acopy C dX11_copyRow_11 aw_X11_470 la_128 ly_128 la_29 ly_29 (by decide) (Nat.le_of_ble_eq_true rfl) (fun d3 => ?_)
  exact r_vret C dX11_copyRow_14 (by decide) (by decide)
theorem n_X11_copyRow_128_29 (d : D9) : NT9 (m_X11_copyRow_128_29  d) := by
  unfold m_X11_copyRow_128_29
  repeat (first | exact nt_rt | exact nt_none | exact n_J9_min_7cf53 _ _ _ | apply nt_if | refine nt_cl ?_ (fun _ _ => ?_) | refine nt_cp9 (fun _ => ?_))
abbrev z_X11_copyRow_129_30 : Z9 := (none, 0, 0, 0, 2, 200)
def m_X11_copyRow_129_30 (d : D9) : Option R9 := cl (m_J9_min_7cf53 12 12 d) (fun r1 d2 => cp9 d2 129 12 30 12 r1 (fun d3 => rt 0 d3))
set_option maxRecDepth 100000 in
theorem t_X11_copyRow_129_30 {G : G9} {l : Launch} (h1 : va_D (A9 G) (wl G (fun _ _ => 0))) (h2 : l.stackTraces = false) (d : D9) : MT G l yX11_copyRow cX11_copyRow 2 z_X11_copyRow_129_30 [rf G 129, rf G 30] d (m_X11_copyRow_129_30  d) := by
  refine mt_of (own := RX11) (by decide) rfl (Nat.le_of_ble_eq_true rfl) h1 h2 [(0, rf G 129), (1, rf G 30)] rfl (fun X hX C => ?_)
  unfold m_X11_copyRow_129_30
  refine r_aload_n C 0 dX11_copyRow_0 rfl rfl ?_
  refine r_iconst C dX11_copyRow_1 ?_
  refine r_aload_n C 1 dX11_copyRow_2 rfl rfl ?_
  refine r_iconst C dX11_copyRow_3 ?_
  refine r_aload_n C 0 dX11_copyRow_4 rfl rfl ?_
  refine r_alen C dX11_copyRow_5 la_129 ly_129 ?_
  refine r_aload_n C 1 dX11_copyRow_6 rfl rfl ?_
  refine r_alen C dX11_copyRow_7 la_30 ly_30 ?_
  refine r_callS C [i9 12, i9 12, i9 0, rf G 30, i9 0, rf G 129] dX11_copyRow_8 (t_J9_min_7cf53 C.h1 C.h2 12 12 d) mw_X11_465 ms_J9_min_7cf53 (by decide) (by decide) (by decide) rfl rfl (Nat.le_of_ble_eq_true rfl) (fun r1 d2 => ?_)
  show SS G X 2 _ _ 11 [(0, rf G 129), (1, rf G 30)] [i9 r1, i9 0, rf G 30, i9 0, rf G 129] d2 _
  refine r_acopy C dX11_copyRow_11 aw_X11_470 la_129 ly_129 la_30 ly_30 (by decide) (Nat.le_of_ble_eq_true rfl) (fun d3 => ?_)
  exact r_vret C dX11_copyRow_14 (by decide) (by decide)
theorem n_X11_copyRow_129_30 (d : D9) : NT9 (m_X11_copyRow_129_30  d) := by
  unfold m_X11_copyRow_129_30
  repeat (first | exact nt_rt | exact nt_none | exact n_J9_min_7cf53 _ _ _ | apply nt_if | refine nt_cl ?_ (fun _ _ => ?_) | refine nt_cp9 (fun _ => ?_))
abbrev z_X11_copyRow_130_31 : Z9 := (none, 0, 0, 0, 2, 200)
def m_X11_copyRow_130_31 (d : D9) : Option R9 := cl (m_J9_min_7cf53 12 12 d) (fun r1 d2 => cp9 d2 130 12 31 12 r1 (fun d3 => rt 0 d3))
set_option maxRecDepth 100000 in
theorem t_X11_copyRow_130_31 {G : G9} {l : Launch} (h1 : va_D (A9 G) (wl G (fun _ _ => 0))) (h2 : l.stackTraces = false) (d : D9) : MT G l yX11_copyRow cX11_copyRow 2 z_X11_copyRow_130_31 [rf G 130, rf G 31] d (m_X11_copyRow_130_31  d) := by
  refine mt_of (own := RX11) (by decide) rfl (Nat.le_of_ble_eq_true rfl) h1 h2 [(0, rf G 130), (1, rf G 31)] rfl (fun X hX C => ?_)
  unfold m_X11_copyRow_130_31
  refine r_aload_n C 0 dX11_copyRow_0 rfl rfl ?_
  refine r_iconst C dX11_copyRow_1 ?_
  refine r_aload_n C 1 dX11_copyRow_2 rfl rfl ?_
  refine r_iconst C dX11_copyRow_3 ?_
  refine r_aload_n C 0 dX11_copyRow_4 rfl rfl ?_
  refine r_alen C dX11_copyRow_5 la_130 ly_130 ?_
  refine r_aload_n C 1 dX11_copyRow_6 rfl rfl ?_
  refine r_alen C dX11_copyRow_7 la_31 ly_31 ?_
  refine r_callS C [i9 12, i9 12, i9 0, rf G 31, i9 0, rf G 130] dX11_copyRow_8 (t_J9_min_7cf53 C.h1 C.h2 12 12 d) mw_X11_465 ms_J9_min_7cf53 (by decide) (by decide) (by decide) rfl rfl (Nat.le_of_ble_eq_true rfl) (fun r1 d2 => ?_)
  show SS G X 2 _ _ 11 [(0, rf G 130), (1, rf G 31)] [i9 r1, i9 0, rf G 31, i9 0, rf G 130] d2 _
  refine r_acopy C dX11_copyRow_11 aw_X11_470 la_130 ly_130 la_31 ly_31 (by decide) (Nat.le_of_ble_eq_true rfl) (fun d3 => ?_)
  exact r_vret C dX11_copyRow_14 (by decide) (by decide)
theorem n_X11_copyRow_130_31 (d : D9) : NT9 (m_X11_copyRow_130_31  d) := by
  unfold m_X11_copyRow_130_31
  repeat (first | exact nt_rt | exact nt_none | exact n_J9_min_7cf53 _ _ _ | apply nt_if | refine nt_cl ?_ (fun _ _ => ?_) | refine nt_cp9 (fun _ => ?_))
abbrev z_X11_copyRow_131_32 : Z9 := (none, 0, 0, 0, 2, 200)
def m_X11_copyRow_131_32 (d : D9) : Option R9 := cl (m_J9_min_7cf53 400 400 d) (fun r1 d2 => cp9 d2 131 400 32 400 r1 (fun d3 => rt 0 d3))
set_option maxRecDepth 100000 in
theorem t_X11_copyRow_131_32 {G : G9} {l : Launch} (h1 : va_D (A9 G) (wl G (fun _ _ => 0))) (h2 : l.stackTraces = false) (d : D9) : MT G l yX11_copyRow cX11_copyRow 2 z_X11_copyRow_131_32 [rf G 131, rf G 32] d (m_X11_copyRow_131_32  d) := by
  refine mt_of (own := RX11) (by decide) rfl (Nat.le_of_ble_eq_true rfl) h1 h2 [(0, rf G 131), (1, rf G 32)] rfl (fun X hX C => ?_)
  unfold m_X11_copyRow_131_32
  refine r_aload_n C 0 dX11_copyRow_0 rfl rfl ?_
  refine r_iconst C dX11_copyRow_1 ?_
  refine r_aload_n C 1 dX11_copyRow_2 rfl rfl ?_
  refine r_iconst C dX11_copyRow_3 ?_
  refine r_aload_n C 0 dX11_copyRow_4 rfl rfl ?_
  refine r_alen C dX11_copyRow_5 la_131 ly_131 ?_
  refine r_aload_n C 1 dX11_copyRow_6 rfl rfl ?_
  refine r_alen C dX11_copyRow_7 la_32 ly_32 ?_
  refine r_callS C [i9 400, i9 400, i9 0, rf G 32, i9 0, rf G 131] dX11_copyRow_8 (t_J9_min_7cf53 C.h1 C.h2 400 400 d) mw_X11_465 ms_J9_min_7cf53 (by decide) (by decide) (by decide) rfl rfl (Nat.le_of_ble_eq_true rfl) (fun r1 d2 => ?_)
  show SS G X 2 _ _ 11 [(0, rf G 131), (1, rf G 32)] [i9 r1, i9 0, rf G 32, i9 0, rf G 131] d2 _
  refine r_acopy C dX11_copyRow_11 aw_X11_470 la_131 ly_131 la_32 ly_32 (by decide) (Nat.le_of_ble_eq_true rfl) (fun d3 => ?_)
  exact r_vret C dX11_copyRow_14 (by decide) (by decide)
theorem n_X11_copyRow_131_32 (d : D9) : NT9 (m_X11_copyRow_131_32  d) := by
  unfold m_X11_copyRow_131_32
  repeat (first | exact nt_rt | exact nt_none | exact n_J9_min_7cf53 _ _ _ | apply nt_if | refine nt_cl ?_ (fun _ _ => ?_) | refine nt_cp9 (fun _ => ?_))
abbrev z_X4_copyFrom_28_127 : Z9 := (none, 0, 0, 0, 3, 221)
def m_X4_copyFrom_28_127 (d : D9) : Option R9 := pf d 28 0 (d 127 0) (fun d1 => pf d1 28 1 (d1 127 1) (fun d2 => cl (m_X11_copyRow_128_29 d2) (fun r3 d4 => cl (m_X11_copyRow_129_30 d4) (fun r5 d6 => cl (m_X11_copyRow_130_31 d6) (fun r7 d8 => cl (m_X11_copyRow_131_32 d8) (fun r9 d10 => rt 0 d10))))))
set_option maxRecDepth 100000 in
theorem t_X4_copyFrom_28_127 {G : G9} {l : Launch} (h1 : va_D (A9 G) (wl G (fun _ _ => 0))) (h2 : l.stackTraces = false) (d : D9) : MT G l yX4_copyFrom cX4_copyFrom 2 z_X4_copyFrom_28_127 [rf G 28, rf G 127] d (m_X4_copyFrom_28_127  d) := by
  refine mt_of (own := RX4) (by decide) rfl (Nat.le_of_ble_eq_true rfl) h1 h2 [(0, rf G 28), (1, rf G 127)] rfl (fun X hX C => ?_)
  unfold m_X4_copyFrom_28_127
  refine r_aload_n C 0 dX4_copyFrom_0 rfl rfl ?_
  refine r_aload_n C 1 dX4_copyFrom_1 rfl rfl ?_
  refine r_getI C dX4_copyFrom_2 fl_X4_24 la_127 ly_127 rfl ?_
  refine r_putI C dX4_copyFrom_5 fp_X4_24 la_28 ly_28 rfl (fun d1 => ?_)
  refine r_aload_n C 0 dX4_copyFrom_8 rfl rfl ?_
  refine r_aload_n C 1 dX4_copyFrom_9 rfl rfl ?_
  refine r_getI C dX4_copyFrom_10 fl_X4_28 la_127 ly_127 rfl ?_
  refine r_putI C dX4_copyFrom_13 fp_X4_28 la_28 ly_28 rfl (fun d2 => ?_)
  refine r_aload_n C 1 dX4_copyFrom_16 rfl rfl ?_
  refine r_getR C 128 dX4_copyFrom_17 fl_X4_9 la_127 ly_127 rfl rfl ?_
  refine r_aload_n C 0 dX4_copyFrom_20 rfl rfl ?_
  refine r_getR C 29 dX4_copyFrom_21 fl_X4_9 la_28 ly_28 rfl rfl ?_
  refine r_callN C [rf G 29, rf G 128] dX4_copyFrom_24 (t_X11_copyRow_128_29 C.h1 C.h2 d2) (n_X11_copyRow_128_29 d2) mn_X4_31 ms_X11_copyRow (by decide) (by decide) (by decide) rfl rfl (Nat.le_of_ble_eq_true rfl) (fun r3 d4 => ?_)
  show SS G X 2 _ _ 27 [(0, rf G 28), (1, rf G 127)] [] d4 _
  refine r_aload_n C 1 dX4_copyFrom_27 rfl rfl ?_
  refine r_getR C 129 dX4_copyFrom_28 fl_X4_15 la_127 ly_127 rfl rfl ?_
  refine r_aload_n C 0 dX4_copyFrom_31 rfl rfl ?_
  refine r_getR C 30 dX4_copyFrom_32 fl_X4_15 la_28 ly_28 rfl rfl ?_
  refine r_callN C [rf G 30, rf G 129] dX4_copyFrom_35 (t_X11_copyRow_129_30 C.h1 C.h2 d4) (n_X11_copyRow_129_30 d4) mn_X4_31 ms_X11_copyRow (by decide) (by decide) (by decide) rfl rfl (Nat.le_of_ble_eq_true rfl) (fun r5 d6 => ?_)
  show SS G X 2 _ _ 38 [(0, rf G 28), (1, rf G 127)] [] d6 _
  refine r_aload_n C 1 dX4_copyFrom_38 rfl rfl ?_
  refine r_getR C 130 dX4_copyFrom_39 fl_X4_18 la_127 ly_127 rfl rfl ?_
  refine r_aload_n C 0 dX4_copyFrom_42 rfl rfl ?_
  refine r_getR C 31 dX4_copyFrom_43 fl_X4_18 la_28 ly_28 rfl rfl ?_
  refine r_callN C [rf G 31, rf G 130] dX4_copyFrom_46 (t_X11_copyRow_130_31 C.h1 C.h2 d6) (n_X11_copyRow_130_31 d6) mn_X4_31 ms_X11_copyRow (by decide) (by decide) (by decide) rfl rfl (Nat.le_of_ble_eq_true rfl) (fun r7 d8 => ?_)
  show SS G X 2 _ _ 49 [(0, rf G 28), (1, rf G 127)] [] d8 _
  refine r_aload_n C 1 dX4_copyFrom_49 rfl rfl ?_
  refine r_getR C 131 dX4_copyFrom_50 fl_X4_21 la_127 ly_127 rfl rfl ?_
  refine r_aload_n C 0 dX4_copyFrom_53 rfl rfl ?_
  refine r_getR C 32 dX4_copyFrom_54 fl_X4_21 la_28 ly_28 rfl rfl ?_
  refine r_callN C [rf G 32, rf G 131] dX4_copyFrom_57 (t_X11_copyRow_131_32 C.h1 C.h2 d8) (n_X11_copyRow_131_32 d8) mn_X4_31 ms_X11_copyRow (by decide) (by decide) (by decide) rfl rfl (Nat.le_of_ble_eq_true rfl) (fun r9 d10 => ?_)
  show SS G X 2 _ _ 60 [(0, rf G 28), (1, rf G 127)] [] d10 _
  exact r_vret C dX4_copyFrom_60 (by decide) (by decide)
abbrev z_X11_copyRow_133_34 : Z9 := (none, 0, 0, 0, 2, 200)
def m_X11_copyRow_133_34 (d : D9) : Option R9 := cl (m_J9_min_7cf53 40 40 d) (fun r1 d2 => cp9 d2 133 40 34 40 r1 (fun d3 => rt 0 d3))
set_option maxRecDepth 100000 in
theorem t_X11_copyRow_133_34 {G : G9} {l : Launch} (h1 : va_D (A9 G) (wl G (fun _ _ => 0))) (h2 : l.stackTraces = false) (d : D9) : MT G l yX11_copyRow cX11_copyRow 2 z_X11_copyRow_133_34 [rf G 133, rf G 34] d (m_X11_copyRow_133_34  d) := by
  refine mt_of (own := RX11) (by decide) rfl (Nat.le_of_ble_eq_true rfl) h1 h2 [(0, rf G 133), (1, rf G 34)] rfl (fun X hX C => ?_)
  unfold m_X11_copyRow_133_34
  refine r_aload_n C 0 dX11_copyRow_0 rfl rfl ?_
  refine r_iconst C dX11_copyRow_1 ?_
  refine r_aload_n C 1 dX11_copyRow_2 rfl rfl ?_
  refine r_iconst C dX11_copyRow_3 ?_
  refine r_aload_n C 0 dX11_copyRow_4 rfl rfl ?_
  refine r_alen C dX11_copyRow_5 la_133 ly_133 ?_
  refine r_aload_n C 1 dX11_copyRow_6 rfl rfl ?_
  refine r_alen C dX11_copyRow_7 la_34 ly_34 ?_
  refine r_callS C [i9 40, i9 40, i9 0, rf G 34, i9 0, rf G 133] dX11_copyRow_8 (t_J9_min_7cf53 C.h1 C.h2 40 40 d) mw_X11_465 ms_J9_min_7cf53 (by decide) (by decide) (by decide) rfl rfl (Nat.le_of_ble_eq_true rfl) (fun r1 d2 => ?_)
  show SS G X 2 _ _ 11 [(0, rf G 133), (1, rf G 34)] [i9 r1, i9 0, rf G 34, i9 0, rf G 133] d2 _
  refine r_acopy C dX11_copyRow_11 aw_X11_470 la_133 ly_133 la_34 ly_34 (by decide) (Nat.le_of_ble_eq_true rfl) (fun d3 => ?_)
  exact r_vret C dX11_copyRow_14 (by decide) (by decide)
theorem n_X11_copyRow_133_34 (d : D9) : NT9 (m_X11_copyRow_133_34  d) := by
  unfold m_X11_copyRow_133_34
  repeat (first | exact nt_rt | exact nt_none | exact n_J9_min_7cf53 _ _ _ | apply nt_if | refine nt_cl ?_ (fun _ _ => ?_) | refine nt_cp9 (fun _ => ?_))
abbrev z_X11_copyRow_134_35 : Z9 := (none, 0, 0, 0, 2, 200)
def m_X11_copyRow_134_35 (d : D9) : Option R9 := cl (m_J9_min_7cf53 200 200 d) (fun r1 d2 => cp9 d2 134 200 35 200 r1 (fun d3 => rt 0 d3))
set_option maxRecDepth 100000 in
theorem t_X11_copyRow_134_35 {G : G9} {l : Launch} (h1 : va_D (A9 G) (wl G (fun _ _ => 0))) (h2 : l.stackTraces = false) (d : D9) : MT G l yX11_copyRow cX11_copyRow 2 z_X11_copyRow_134_35 [rf G 134, rf G 35] d (m_X11_copyRow_134_35  d) := by
  refine mt_of (own := RX11) (by decide) rfl (Nat.le_of_ble_eq_true rfl) h1 h2 [(0, rf G 134), (1, rf G 35)] rfl (fun X hX C => ?_)
  unfold m_X11_copyRow_134_35
  refine r_aload_n C 0 dX11_copyRow_0 rfl rfl ?_
  refine r_iconst C dX11_copyRow_1 ?_
  refine r_aload_n C 1 dX11_copyRow_2 rfl rfl ?_
  refine r_iconst C dX11_copyRow_3 ?_
  refine r_aload_n C 0 dX11_copyRow_4 rfl rfl ?_
  refine r_alen C dX11_copyRow_5 la_134 ly_134 ?_
  refine r_aload_n C 1 dX11_copyRow_6 rfl rfl ?_
  refine r_alen C dX11_copyRow_7 la_35 ly_35 ?_
  refine r_callS C [i9 200, i9 200, i9 0, rf G 35, i9 0, rf G 134] dX11_copyRow_8 (t_J9_min_7cf53 C.h1 C.h2 200 200 d) mw_X11_465 ms_J9_min_7cf53 (by decide) (by decide) (by decide) rfl rfl (Nat.le_of_ble_eq_true rfl) (fun r1 d2 => ?_)
  show SS G X 2 _ _ 11 [(0, rf G 134), (1, rf G 35)] [i9 r1, i9 0, rf G 35, i9 0, rf G 134] d2 _
  refine r_acopy C dX11_copyRow_11 aw_X11_470 la_134 ly_134 la_35 ly_35 (by decide) (Nat.le_of_ble_eq_true rfl) (fun d3 => ?_)
  exact r_vret C dX11_copyRow_14 (by decide) (by decide)
theorem n_X11_copyRow_134_35 (d : D9) : NT9 (m_X11_copyRow_134_35  d) := by
  unfold m_X11_copyRow_134_35
  repeat (first | exact nt_rt | exact nt_none | exact n_J9_min_7cf53 _ _ _ | apply nt_if | refine nt_cl ?_ (fun _ _ => ?_) | refine nt_cp9 (fun _ => ?_))
abbrev z_X11_copyRow_135_36 : Z9 := (none, 0, 0, 0, 2, 200)
def m_X11_copyRow_135_36 (d : D9) : Option R9 := cl (m_J9_min_7cf53 5 5 d) (fun r1 d2 => cp9 d2 135 5 36 5 r1 (fun d3 => rt 0 d3))
set_option maxRecDepth 100000 in
theorem t_X11_copyRow_135_36 {G : G9} {l : Launch} (h1 : va_D (A9 G) (wl G (fun _ _ => 0))) (h2 : l.stackTraces = false) (d : D9) : MT G l yX11_copyRow cX11_copyRow 2 z_X11_copyRow_135_36 [rf G 135, rf G 36] d (m_X11_copyRow_135_36  d) := by
  refine mt_of (own := RX11) (by decide) rfl (Nat.le_of_ble_eq_true rfl) h1 h2 [(0, rf G 135), (1, rf G 36)] rfl (fun X hX C => ?_)
  unfold m_X11_copyRow_135_36
  refine r_aload_n C 0 dX11_copyRow_0 rfl rfl ?_
  refine r_iconst C dX11_copyRow_1 ?_
  refine r_aload_n C 1 dX11_copyRow_2 rfl rfl ?_
  refine r_iconst C dX11_copyRow_3 ?_
  refine r_aload_n C 0 dX11_copyRow_4 rfl rfl ?_
  refine r_alen C dX11_copyRow_5 la_135 ly_135 ?_
  refine r_aload_n C 1 dX11_copyRow_6 rfl rfl ?_
  refine r_alen C dX11_copyRow_7 la_36 ly_36 ?_
  refine r_callS C [i9 5, i9 5, i9 0, rf G 36, i9 0, rf G 135] dX11_copyRow_8 (t_J9_min_7cf53 C.h1 C.h2 5 5 d) mw_X11_465 ms_J9_min_7cf53 (by decide) (by decide) (by decide) rfl rfl (Nat.le_of_ble_eq_true rfl) (fun r1 d2 => ?_)
  show SS G X 2 _ _ 11 [(0, rf G 135), (1, rf G 36)] [i9 r1, i9 0, rf G 36, i9 0, rf G 135] d2 _
  refine r_acopy C dX11_copyRow_11 aw_X11_470 la_135 ly_135 la_36 ly_36 (by decide) (Nat.le_of_ble_eq_true rfl) (fun d3 => ?_)
  exact r_vret C dX11_copyRow_14 (by decide) (by decide)
theorem n_X11_copyRow_135_36 (d : D9) : NT9 (m_X11_copyRow_135_36  d) := by
  unfold m_X11_copyRow_135_36
  repeat (first | exact nt_rt | exact nt_none | exact n_J9_min_7cf53 _ _ _ | apply nt_if | refine nt_cl ?_ (fun _ _ => ?_) | refine nt_cp9 (fun _ => ?_))
abbrev z_X11_copyRow_136_37 : Z9 := (none, 0, 0, 0, 2, 200)
def m_X11_copyRow_136_37 (d : D9) : Option R9 := cl (m_J9_min_7cf53 5 5 d) (fun r1 d2 => cp9 d2 136 5 37 5 r1 (fun d3 => rt 0 d3))
set_option maxRecDepth 100000 in
theorem t_X11_copyRow_136_37 {G : G9} {l : Launch} (h1 : va_D (A9 G) (wl G (fun _ _ => 0))) (h2 : l.stackTraces = false) (d : D9) : MT G l yX11_copyRow cX11_copyRow 2 z_X11_copyRow_136_37 [rf G 136, rf G 37] d (m_X11_copyRow_136_37  d) := by
  refine mt_of (own := RX11) (by decide) rfl (Nat.le_of_ble_eq_true rfl) h1 h2 [(0, rf G 136), (1, rf G 37)] rfl (fun X hX C => ?_)
  unfold m_X11_copyRow_136_37
  refine r_aload_n C 0 dX11_copyRow_0 rfl rfl ?_
  refine r_iconst C dX11_copyRow_1 ?_
  refine r_aload_n C 1 dX11_copyRow_2 rfl rfl ?_
  refine r_iconst C dX11_copyRow_3 ?_
  refine r_aload_n C 0 dX11_copyRow_4 rfl rfl ?_
  refine r_alen C dX11_copyRow_5 la_136 ly_136 ?_
  refine r_aload_n C 1 dX11_copyRow_6 rfl rfl ?_
  refine r_alen C dX11_copyRow_7 la_37 ly_37 ?_
  refine r_callS C [i9 5, i9 5, i9 0, rf G 37, i9 0, rf G 136] dX11_copyRow_8 (t_J9_min_7cf53 C.h1 C.h2 5 5 d) mw_X11_465 ms_J9_min_7cf53 (by decide) (by decide) (by decide) rfl rfl (Nat.le_of_ble_eq_true rfl) (fun r1 d2 => ?_)
  show SS G X 2 _ _ 11 [(0, rf G 136), (1, rf G 37)] [i9 r1, i9 0, rf G 37, i9 0, rf G 136] d2 _
  refine r_acopy C dX11_copyRow_11 aw_X11_470 la_136 ly_136 la_37 ly_37 (by decide) (Nat.le_of_ble_eq_true rfl) (fun d3 => ?_)
  exact r_vret C dX11_copyRow_14 (by decide) (by decide)
theorem n_X11_copyRow_136_37 (d : D9) : NT9 (m_X11_copyRow_136_37  d) := by
  unfold m_X11_copyRow_136_37
  repeat (first | exact nt_rt | exact nt_none | exact n_J9_min_7cf53 _ _ _ | apply nt_if | refine nt_cl ?_ (fun _ _ => ?_) | refine nt_cp9 (fun _ => ?_))
abbrev z_X1_copyFrom_33_132 : Z9 := (none, 0, 0, 0, 3, 221)
def m_X1_copyFrom_33_132 (d : D9) : Option R9 := pf d 33 0 (d 132 0) (fun d1 => cl (m_X11_copyRow_133_34 d1) (fun r2 d3 => cl (m_X11_copyRow_134_35 d3) (fun r4 d5 => cl (m_X11_copyRow_135_36 d5) (fun r6 d7 => cl (m_X11_copyRow_136_37 d7) (fun r8 d9 => rt 0 d9)))))
set_option maxRecDepth 100000 in
theorem t_X1_copyFrom_33_132 {G : G9} {l : Launch} (h1 : va_D (A9 G) (wl G (fun _ _ => 0))) (h2 : l.stackTraces = false) (d : D9) : MT G l yX1_copyFrom cX1_copyFrom 2 z_X1_copyFrom_33_132 [rf G 33, rf G 132] d (m_X1_copyFrom_33_132  d) := by
  refine mt_of (own := RX1) (by decide) rfl (Nat.le_of_ble_eq_true rfl) h1 h2 [(0, rf G 33), (1, rf G 132)] rfl (fun X hX C => ?_)
  unfold m_X1_copyFrom_33_132
  refine r_aload_n C 0 dX1_copyFrom_0 rfl rfl ?_
  refine r_aload_n C 1 dX1_copyFrom_1 rfl rfl ?_
  refine r_getI C dX1_copyFrom_2 fl_X1_24 la_132 ly_132 rfl ?_
  refine r_putI C dX1_copyFrom_5 fp_X1_24 la_33 ly_33 rfl (fun d1 => ?_)
  refine r_aload_n C 1 dX1_copyFrom_8 rfl rfl ?_
  refine r_getR C 133 dX1_copyFrom_9 fl_X1_9 la_132 ly_132 rfl rfl ?_
  refine r_aload_n C 0 dX1_copyFrom_12 rfl rfl ?_
  refine r_getR C 34 dX1_copyFrom_13 fl_X1_9 la_33 ly_33 rfl rfl ?_
  refine r_callN C [rf G 34, rf G 133] dX1_copyFrom_16 (t_X11_copyRow_133_34 C.h1 C.h2 d1) (n_X11_copyRow_133_34 d1) mn_X1_28 ms_X11_copyRow (by decide) (by decide) (by decide) rfl rfl (Nat.le_of_ble_eq_true rfl) (fun r2 d3 => ?_)
  show SS G X 2 _ _ 19 [(0, rf G 33), (1, rf G 132)] [] d3 _
  refine r_aload_n C 1 dX1_copyFrom_19 rfl rfl ?_
  refine r_getR C 134 dX1_copyFrom_20 fl_X1_15 la_132 ly_132 rfl rfl ?_
  refine r_aload_n C 0 dX1_copyFrom_23 rfl rfl ?_
  refine r_getR C 35 dX1_copyFrom_24 fl_X1_15 la_33 ly_33 rfl rfl ?_
  refine r_callN C [rf G 35, rf G 134] dX1_copyFrom_27 (t_X11_copyRow_134_35 C.h1 C.h2 d3) (n_X11_copyRow_134_35 d3) mn_X1_28 ms_X11_copyRow (by decide) (by decide) (by decide) rfl rfl (Nat.le_of_ble_eq_true rfl) (fun r4 d5 => ?_)
  show SS G X 2 _ _ 30 [(0, rf G 33), (1, rf G 132)] [] d5 _
  refine r_aload_n C 1 dX1_copyFrom_30 rfl rfl ?_
  refine r_getR C 135 dX1_copyFrom_31 fl_X1_18 la_132 ly_132 rfl rfl ?_
  refine r_aload_n C 0 dX1_copyFrom_34 rfl rfl ?_
  refine r_getR C 36 dX1_copyFrom_35 fl_X1_18 la_33 ly_33 rfl rfl ?_
  refine r_callN C [rf G 36, rf G 135] dX1_copyFrom_38 (t_X11_copyRow_135_36 C.h1 C.h2 d5) (n_X11_copyRow_135_36 d5) mn_X1_28 ms_X11_copyRow (by decide) (by decide) (by decide) rfl rfl (Nat.le_of_ble_eq_true rfl) (fun r6 d7 => ?_)
  show SS G X 2 _ _ 41 [(0, rf G 33), (1, rf G 132)] [] d7 _
  refine r_aload_n C 1 dX1_copyFrom_41 rfl rfl ?_
  refine r_getR C 136 dX1_copyFrom_42 fl_X1_21 la_132 ly_132 rfl rfl ?_
  refine r_aload_n C 0 dX1_copyFrom_45 rfl rfl ?_
  refine r_getR C 37 dX1_copyFrom_46 fl_X1_21 la_33 ly_33 rfl rfl ?_
  refine r_callN C [rf G 37, rf G 136] dX1_copyFrom_49 (t_X11_copyRow_136_37 C.h1 C.h2 d7) (n_X11_copyRow_136_37 d7) mn_X1_28 ms_X11_copyRow (by decide) (by decide) (by decide) rfl rfl (Nat.le_of_ble_eq_true rfl) (fun r8 d9 => ?_)
  show SS G X 2 _ _ 52 [(0, rf G 33), (1, rf G 132)] [] d9 _
  exact r_vret C dX1_copyFrom_52 (by decide) (by decide)
abbrev z_X10_copyFrom_1_100 : Z9 := (none, 0, 0, 0, 4, 242)
def m_X10_copyFrom_1_100 (d : D9) : Option R9 := cl (m_X3_copyFrom_2_101 d) (fun r1 d2 => cl (m_X6_copyFrom_9_108 d2) (fun r3 d4 => cl (m_X2_copyFrom_22_121 d4) (fun r5 d6 => cl (m_X7_copyFrom_23_122 d6) (fun r7 d8 => cl (m_X4_copyFrom_28_127 d8) (fun r9 d10 => cl (m_X1_copyFrom_33_132 d10) (fun r11 d12 => rt 0 d12))))))
set_option maxRecDepth 100000 in
theorem t_X10_copyFrom_1_100 {G : G9} {l : Launch} (h1 : va_D (A9 G) (wl G (fun _ _ => 0))) (h2 : l.stackTraces = false) (d : D9) : MT G l yX10_copyFrom cX10_copyFrom 2 z_X10_copyFrom_1_100 [rf G 1, rf G 100] d (m_X10_copyFrom_1_100  d) := by
  refine mt_of (own := RX10) (by decide) rfl (Nat.le_of_ble_eq_true rfl) h1 h2 [(0, rf G 1), (1, rf G 100)] rfl (fun X hX C => ?_)
  unfold m_X10_copyFrom_1_100
  refine r_aload_n C 0 dX10_copyFrom_0 rfl rfl ?_
  refine r_getR C 2 dX10_copyFrom_1 fl_X10_12 la_1 ly_1 rfl rfl ?_
  refine r_aload_n C 1 dX10_copyFrom_4 rfl rfl ?_
  refine r_getR C 101 dX10_copyFrom_5 fl_X10_12 la_100 ly_100 rfl rfl ?_
  refine r_callV C [rf G 101, rf G 2] dX10_copyFrom_8 (t_X3_copyFrom_2_101 C.h1 C.h2 d) mw_X10_53 mv_X3_copyFrom la_2 ly_2 rfl (by decide) (by decide) (by decide) rfl rfl (Nat.le_of_ble_eq_true rfl) (fun r1 d2 => ?_)
  show SS G X 2 _ _ 11 [(0, rf G 1), (1, rf G 100)] [] d2 _
  refine r_aload_n C 0 dX10_copyFrom_11 rfl rfl ?_
  refine r_getR C 9 dX10_copyFrom_12 fl_X10_21 la_1 ly_1 rfl rfl ?_
  refine r_aload_n C 1 dX10_copyFrom_15 rfl rfl ?_
  refine r_getR C 108 dX10_copyFrom_16 fl_X10_21 la_100 ly_100 rfl rfl ?_
  refine r_callV C [rf G 108, rf G 9] dX10_copyFrom_19 (t_X6_copyFrom_9_108 C.h1 C.h2 d2) mw_X10_57 mv_X6_copyFrom la_9 ly_9 rfl (by decide) (by decide) (by decide) rfl rfl (Nat.le_of_ble_eq_true rfl) (fun r3 d4 => ?_)
  show SS G X 2 _ _ 22 [(0, rf G 1), (1, rf G 100)] [] d4 _
  refine r_aload_n C 0 dX10_copyFrom_22 rfl rfl ?_
  refine r_getR C 22 dX10_copyFrom_23 fl_X10_28 la_1 ly_1 rfl rfl ?_
  refine r_aload_n C 1 dX10_copyFrom_26 rfl rfl ?_
  refine r_getR C 121 dX10_copyFrom_27 fl_X10_28 la_100 ly_100 rfl rfl ?_
  refine r_callV C [rf G 121, rf G 22] dX10_copyFrom_30 (t_X2_copyFrom_22_121 C.h1 C.h2 d4) mw_X10_60 mv_X2_copyFrom la_22 ly_22 rfl (by decide) (by decide) (by decide) rfl rfl (Nat.le_of_ble_eq_true rfl) (fun r5 d6 => ?_)
  show SS G X 2 _ _ 33 [(0, rf G 1), (1, rf G 100)] [] d6 _
  refine r_aload_n C 0 dX10_copyFrom_33 rfl rfl ?_
  refine r_getR C 23 dX10_copyFrom_34 fl_X10_35 la_1 ly_1 rfl rfl ?_
  refine r_aload_n C 1 dX10_copyFrom_37 rfl rfl ?_
  refine r_getR C 122 dX10_copyFrom_38 fl_X10_35 la_100 ly_100 rfl rfl ?_
  refine r_callV C [rf G 122, rf G 23] dX10_copyFrom_41 (t_X7_copyFrom_23_122 C.h1 C.h2 d6) mw_X10_63 mv_X7_copyFrom la_23 ly_23 rfl (by decide) (by decide) (by decide) rfl rfl (Nat.le_of_ble_eq_true rfl) (fun r7 d8 => ?_)
  show SS G X 2 _ _ 44 [(0, rf G 1), (1, rf G 100)] [] d8 _
  refine r_aload_n C 0 dX10_copyFrom_44 rfl rfl ?_
  refine r_getR C 28 dX10_copyFrom_45 fl_X10_42 la_1 ly_1 rfl rfl ?_
  refine r_aload_n C 1 dX10_copyFrom_48 rfl rfl ?_
  refine r_getR C 127 dX10_copyFrom_49 fl_X10_42 la_100 ly_100 rfl rfl ?_
  refine r_callV C [rf G 127, rf G 28] dX10_copyFrom_52 (t_X4_copyFrom_28_127 C.h1 C.h2 d8) mw_X10_66 mv_X4_copyFrom la_28 ly_28 rfl (by decide) (by decide) (by decide) rfl rfl (Nat.le_of_ble_eq_true rfl) (fun r9 d10 => ?_)
  show SS G X 2 _ _ 55 [(0, rf G 1), (1, rf G 100)] [] d10 _
  refine r_aload_n C 0 dX10_copyFrom_55 rfl rfl ?_
  refine r_getR C 33 dX10_copyFrom_56 fl_X10_49 la_1 ly_1 rfl rfl ?_
  refine r_aload_n C 1 dX10_copyFrom_59 rfl rfl ?_
  refine r_getR C 132 dX10_copyFrom_60 fl_X10_49 la_100 ly_100 rfl rfl ?_
  refine r_callV C [rf G 132, rf G 33] dX10_copyFrom_63 (t_X1_copyFrom_33_132 C.h1 C.h2 d10) mw_X10_69 mv_X1_copyFrom la_33 ly_33 rfl (by decide) (by decide) (by decide) rfl rfl (Nat.le_of_ble_eq_true rfl) (fun r11 d12 => ?_)
  show SS G X 2 _ _ 66 [(0, rf G 1), (1, rf G 100)] [] d12 _
  exact r_vret C dX10_copyFrom_66 (by decide) (by decide)
abbrev z_X11_copyRow_139_3 : Z9 := (none, 0, 0, 0, 2, 200)
def m_X11_copyRow_139_3 (d : D9) : Option R9 := cl (m_J9_min_7cf53 30 30 d) (fun r1 d2 => cp9 d2 139 30 3 30 r1 (fun d3 => rt 0 d3))
set_option maxRecDepth 100000 in
theorem t_X11_copyRow_139_3 {G : G9} {l : Launch} (h1 : va_D (A9 G) (wl G (fun _ _ => 0))) (h2 : l.stackTraces = false) (d : D9) : MT G l yX11_copyRow cX11_copyRow 2 z_X11_copyRow_139_3 [rf G 139, rf G 3] d (m_X11_copyRow_139_3  d) := by
  refine mt_of (own := RX11) (by decide) rfl (Nat.le_of_ble_eq_true rfl) h1 h2 [(0, rf G 139), (1, rf G 3)] rfl (fun X hX C => ?_)
  unfold m_X11_copyRow_139_3
  refine r_aload_n C 0 dX11_copyRow_0 rfl rfl ?_
  refine r_iconst C dX11_copyRow_1 ?_
  refine r_aload_n C 1 dX11_copyRow_2 rfl rfl ?_
  refine r_iconst C dX11_copyRow_3 ?_
  refine r_aload_n C 0 dX11_copyRow_4 rfl rfl ?_
  refine r_alen C dX11_copyRow_5 la_139 ly_139 ?_
  refine r_aload_n C 1 dX11_copyRow_6 rfl rfl ?_
  refine r_alen C dX11_copyRow_7 la_3 ly_3 ?_
  refine r_callS C [i9 30, i9 30, i9 0, rf G 3, i9 0, rf G 139] dX11_copyRow_8 (t_J9_min_7cf53 C.h1 C.h2 30 30 d) mw_X11_465 ms_J9_min_7cf53 (by decide) (by decide) (by decide) rfl rfl (Nat.le_of_ble_eq_true rfl) (fun r1 d2 => ?_)
  show SS G X 2 _ _ 11 [(0, rf G 139), (1, rf G 3)] [i9 r1, i9 0, rf G 3, i9 0, rf G 139] d2 _
  refine r_acopy C dX11_copyRow_11 aw_X11_470 la_139 ly_139 la_3 ly_3 (by decide) (Nat.le_of_ble_eq_true rfl) (fun d3 => ?_)
  exact r_vret C dX11_copyRow_14 (by decide) (by decide)
theorem n_X11_copyRow_139_3 (d : D9) : NT9 (m_X11_copyRow_139_3  d) := by
  unfold m_X11_copyRow_139_3
  repeat (first | exact nt_rt | exact nt_none | exact n_J9_min_7cf53 _ _ _ | apply nt_if | refine nt_cl ?_ (fun _ _ => ?_) | refine nt_cp9 (fun _ => ?_))
abbrev z_X11_copyRow_140_4 : Z9 := (none, 0, 0, 0, 2, 200)
def m_X11_copyRow_140_4 (d : D9) : Option R9 := cl (m_J9_min_7cf53 30 30 d) (fun r1 d2 => cp9 d2 140 30 4 30 r1 (fun d3 => rt 0 d3))
set_option maxRecDepth 100000 in
theorem t_X11_copyRow_140_4 {G : G9} {l : Launch} (h1 : va_D (A9 G) (wl G (fun _ _ => 0))) (h2 : l.stackTraces = false) (d : D9) : MT G l yX11_copyRow cX11_copyRow 2 z_X11_copyRow_140_4 [rf G 140, rf G 4] d (m_X11_copyRow_140_4  d) := by
  refine mt_of (own := RX11) (by decide) rfl (Nat.le_of_ble_eq_true rfl) h1 h2 [(0, rf G 140), (1, rf G 4)] rfl (fun X hX C => ?_)
  unfold m_X11_copyRow_140_4
  refine r_aload_n C 0 dX11_copyRow_0 rfl rfl ?_
  refine r_iconst C dX11_copyRow_1 ?_
  refine r_aload_n C 1 dX11_copyRow_2 rfl rfl ?_
  refine r_iconst C dX11_copyRow_3 ?_
  refine r_aload_n C 0 dX11_copyRow_4 rfl rfl ?_
  refine r_alen C dX11_copyRow_5 la_140 ly_140 ?_
  refine r_aload_n C 1 dX11_copyRow_6 rfl rfl ?_
  refine r_alen C dX11_copyRow_7 la_4 ly_4 ?_
  refine r_callS C [i9 30, i9 30, i9 0, rf G 4, i9 0, rf G 140] dX11_copyRow_8 (t_J9_min_7cf53 C.h1 C.h2 30 30 d) mw_X11_465 ms_J9_min_7cf53 (by decide) (by decide) (by decide) rfl rfl (Nat.le_of_ble_eq_true rfl) (fun r1 d2 => ?_)
  show SS G X 2 _ _ 11 [(0, rf G 140), (1, rf G 4)] [i9 r1, i9 0, rf G 4, i9 0, rf G 140] d2 _
  refine r_acopy C dX11_copyRow_11 aw_X11_470 la_140 ly_140 la_4 ly_4 (by decide) (Nat.le_of_ble_eq_true rfl) (fun d3 => ?_)
  exact r_vret C dX11_copyRow_14 (by decide) (by decide)
theorem n_X11_copyRow_140_4 (d : D9) : NT9 (m_X11_copyRow_140_4  d) := by
  unfold m_X11_copyRow_140_4
  repeat (first | exact nt_rt | exact nt_none | exact n_J9_min_7cf53 _ _ _ | apply nt_if | refine nt_cl ?_ (fun _ _ => ?_) | refine nt_cp9 (fun _ => ?_))
abbrev z_X11_copyRow_141_5 : Z9 := (none, 0, 0, 0, 2, 200)
def m_X11_copyRow_141_5 (d : D9) : Option R9 := cl (m_J9_min_7cf53 30 30 d) (fun r1 d2 => cp9 d2 141 30 5 30 r1 (fun d3 => rt 0 d3))
set_option maxRecDepth 100000 in
theorem t_X11_copyRow_141_5 {G : G9} {l : Launch} (h1 : va_D (A9 G) (wl G (fun _ _ => 0))) (h2 : l.stackTraces = false) (d : D9) : MT G l yX11_copyRow cX11_copyRow 2 z_X11_copyRow_141_5 [rf G 141, rf G 5] d (m_X11_copyRow_141_5  d) := by
  refine mt_of (own := RX11) (by decide) rfl (Nat.le_of_ble_eq_true rfl) h1 h2 [(0, rf G 141), (1, rf G 5)] rfl (fun X hX C => ?_)
  unfold m_X11_copyRow_141_5
  refine r_aload_n C 0 dX11_copyRow_0 rfl rfl ?_
  refine r_iconst C dX11_copyRow_1 ?_
  refine r_aload_n C 1 dX11_copyRow_2 rfl rfl ?_
  refine r_iconst C dX11_copyRow_3 ?_
  refine r_aload_n C 0 dX11_copyRow_4 rfl rfl ?_
  refine r_alen C dX11_copyRow_5 la_141 ly_141 ?_
  refine r_aload_n C 1 dX11_copyRow_6 rfl rfl ?_
  refine r_alen C dX11_copyRow_7 la_5 ly_5 ?_
  refine r_callS C [i9 30, i9 30, i9 0, rf G 5, i9 0, rf G 141] dX11_copyRow_8 (t_J9_min_7cf53 C.h1 C.h2 30 30 d) mw_X11_465 ms_J9_min_7cf53 (by decide) (by decide) (by decide) rfl rfl (Nat.le_of_ble_eq_true rfl) (fun r1 d2 => ?_)
  show SS G X 2 _ _ 11 [(0, rf G 141), (1, rf G 5)] [i9 r1, i9 0, rf G 5, i9 0, rf G 141] d2 _
  refine r_acopy C dX11_copyRow_11 aw_X11_470 la_141 ly_141 la_5 ly_5 (by decide) (Nat.le_of_ble_eq_true rfl) (fun d3 => ?_)
  exact r_vret C dX11_copyRow_14 (by decide) (by decide)
theorem n_X11_copyRow_141_5 (d : D9) : NT9 (m_X11_copyRow_141_5  d) := by
  unfold m_X11_copyRow_141_5
  repeat (first | exact nt_rt | exact nt_none | exact n_J9_min_7cf53 _ _ _ | apply nt_if | refine nt_cl ?_ (fun _ _ => ?_) | refine nt_cp9 (fun _ => ?_))
abbrev z_X11_copyRow_142_6 : Z9 := (none, 0, 0, 0, 2, 200)
def m_X11_copyRow_142_6 (d : D9) : Option R9 := cl (m_J9_min_7cf53 150 150 d) (fun r1 d2 => cp9 d2 142 150 6 150 r1 (fun d3 => rt 0 d3))
set_option maxRecDepth 100000 in
theorem t_X11_copyRow_142_6 {G : G9} {l : Launch} (h1 : va_D (A9 G) (wl G (fun _ _ => 0))) (h2 : l.stackTraces = false) (d : D9) : MT G l yX11_copyRow cX11_copyRow 2 z_X11_copyRow_142_6 [rf G 142, rf G 6] d (m_X11_copyRow_142_6  d) := by
  refine mt_of (own := RX11) (by decide) rfl (Nat.le_of_ble_eq_true rfl) h1 h2 [(0, rf G 142), (1, rf G 6)] rfl (fun X hX C => ?_)
  unfold m_X11_copyRow_142_6
  refine r_aload_n C 0 dX11_copyRow_0 rfl rfl ?_
  refine r_iconst C dX11_copyRow_1 ?_
  refine r_aload_n C 1 dX11_copyRow_2 rfl rfl ?_
  refine r_iconst C dX11_copyRow_3 ?_
  refine r_aload_n C 0 dX11_copyRow_4 rfl rfl ?_
  refine r_alen C dX11_copyRow_5 la_142 ly_142 ?_
  refine r_aload_n C 1 dX11_copyRow_6 rfl rfl ?_
  refine r_alen C dX11_copyRow_7 la_6 ly_6 ?_
  refine r_callS C [i9 150, i9 150, i9 0, rf G 6, i9 0, rf G 142] dX11_copyRow_8 (t_J9_min_7cf53 C.h1 C.h2 150 150 d) mw_X11_465 ms_J9_min_7cf53 (by decide) (by decide) (by decide) rfl rfl (Nat.le_of_ble_eq_true rfl) (fun r1 d2 => ?_)
  show SS G X 2 _ _ 11 [(0, rf G 142), (1, rf G 6)] [i9 r1, i9 0, rf G 6, i9 0, rf G 142] d2 _
  refine r_acopy C dX11_copyRow_11 aw_X11_470 la_142 ly_142 la_6 ly_6 (by decide) (Nat.le_of_ble_eq_true rfl) (fun d3 => ?_)
  exact r_vret C dX11_copyRow_14 (by decide) (by decide)
theorem n_X11_copyRow_142_6 (d : D9) : NT9 (m_X11_copyRow_142_6  d) := by
  unfold m_X11_copyRow_142_6
  repeat (first | exact nt_rt | exact nt_none | exact n_J9_min_7cf53 _ _ _ | apply nt_if | refine nt_cl ?_ (fun _ _ => ?_) | refine nt_cp9 (fun _ => ?_))
abbrev z_X11_copyRow_143_7 : Z9 := (none, 0, 0, 0, 2, 200)
def m_X11_copyRow_143_7 (d : D9) : Option R9 := cl (m_J9_min_7cf53 30 30 d) (fun r1 d2 => cp9 d2 143 30 7 30 r1 (fun d3 => rt 0 d3))
set_option maxRecDepth 100000 in
theorem t_X11_copyRow_143_7 {G : G9} {l : Launch} (h1 : va_D (A9 G) (wl G (fun _ _ => 0))) (h2 : l.stackTraces = false) (d : D9) : MT G l yX11_copyRow cX11_copyRow 2 z_X11_copyRow_143_7 [rf G 143, rf G 7] d (m_X11_copyRow_143_7  d) := by
  refine mt_of (own := RX11) (by decide) rfl (Nat.le_of_ble_eq_true rfl) h1 h2 [(0, rf G 143), (1, rf G 7)] rfl (fun X hX C => ?_)
  unfold m_X11_copyRow_143_7
  refine r_aload_n C 0 dX11_copyRow_0 rfl rfl ?_
  refine r_iconst C dX11_copyRow_1 ?_
  refine r_aload_n C 1 dX11_copyRow_2 rfl rfl ?_
  refine r_iconst C dX11_copyRow_3 ?_
  refine r_aload_n C 0 dX11_copyRow_4 rfl rfl ?_
  refine r_alen C dX11_copyRow_5 la_143 ly_143 ?_
  refine r_aload_n C 1 dX11_copyRow_6 rfl rfl ?_
  refine r_alen C dX11_copyRow_7 la_7 ly_7 ?_
  refine r_callS C [i9 30, i9 30, i9 0, rf G 7, i9 0, rf G 143] dX11_copyRow_8 (t_J9_min_7cf53 C.h1 C.h2 30 30 d) mw_X11_465 ms_J9_min_7cf53 (by decide) (by decide) (by decide) rfl rfl (Nat.le_of_ble_eq_true rfl) (fun r1 d2 => ?_)
  show SS G X 2 _ _ 11 [(0, rf G 143), (1, rf G 7)] [i9 r1, i9 0, rf G 7, i9 0, rf G 143] d2 _
  refine r_acopy C dX11_copyRow_11 aw_X11_470 la_143 ly_143 la_7 ly_7 (by decide) (Nat.le_of_ble_eq_true rfl) (fun d3 => ?_)
  exact r_vret C dX11_copyRow_14 (by decide) (by decide)
theorem n_X11_copyRow_143_7 (d : D9) : NT9 (m_X11_copyRow_143_7  d) := by
  unfold m_X11_copyRow_143_7
  repeat (first | exact nt_rt | exact nt_none | exact n_J9_min_7cf53 _ _ _ | apply nt_if | refine nt_cl ?_ (fun _ _ => ?_) | refine nt_cp9 (fun _ => ?_))
abbrev z_X11_copyRow_144_8 : Z9 := (none, 0, 0, 0, 2, 200)
def m_X11_copyRow_144_8 (d : D9) : Option R9 := cl (m_J9_min_7cf53 30 30 d) (fun r1 d2 => cp9 d2 144 30 8 30 r1 (fun d3 => rt 0 d3))
set_option maxRecDepth 100000 in
theorem t_X11_copyRow_144_8 {G : G9} {l : Launch} (h1 : va_D (A9 G) (wl G (fun _ _ => 0))) (h2 : l.stackTraces = false) (d : D9) : MT G l yX11_copyRow cX11_copyRow 2 z_X11_copyRow_144_8 [rf G 144, rf G 8] d (m_X11_copyRow_144_8  d) := by
  refine mt_of (own := RX11) (by decide) rfl (Nat.le_of_ble_eq_true rfl) h1 h2 [(0, rf G 144), (1, rf G 8)] rfl (fun X hX C => ?_)
  unfold m_X11_copyRow_144_8
  refine r_aload_n C 0 dX11_copyRow_0 rfl rfl ?_
  refine r_iconst C dX11_copyRow_1 ?_
  refine r_aload_n C 1 dX11_copyRow_2 rfl rfl ?_
  refine r_iconst C dX11_copyRow_3 ?_
  refine r_aload_n C 0 dX11_copyRow_4 rfl rfl ?_
  refine r_alen C dX11_copyRow_5 la_144 ly_144 ?_
  refine r_aload_n C 1 dX11_copyRow_6 rfl rfl ?_
  refine r_alen C dX11_copyRow_7 la_8 ly_8 ?_
  refine r_callS C [i9 30, i9 30, i9 0, rf G 8, i9 0, rf G 144] dX11_copyRow_8 (t_J9_min_7cf53 C.h1 C.h2 30 30 d) mw_X11_465 ms_J9_min_7cf53 (by decide) (by decide) (by decide) rfl rfl (Nat.le_of_ble_eq_true rfl) (fun r1 d2 => ?_)
  show SS G X 2 _ _ 11 [(0, rf G 144), (1, rf G 8)] [i9 r1, i9 0, rf G 8, i9 0, rf G 144] d2 _
  refine r_acopy C dX11_copyRow_11 aw_X11_470 la_144 ly_144 la_8 ly_8 (by decide) (Nat.le_of_ble_eq_true rfl) (fun d3 => ?_)
  exact r_vret C dX11_copyRow_14 (by decide) (by decide)
theorem n_X11_copyRow_144_8 (d : D9) : NT9 (m_X11_copyRow_144_8  d) := by
  unfold m_X11_copyRow_144_8
  repeat (first | exact nt_rt | exact nt_none | exact n_J9_min_7cf53 _ _ _ | apply nt_if | refine nt_cl ?_ (fun _ _ => ?_) | refine nt_cp9 (fun _ => ?_))
abbrev z_X3_copyFrom_2_138 : Z9 := (none, 0, 0, 0, 3, 221)
def m_X3_copyFrom_2_138 (d : D9) : Option R9 := pf d 2 0 (d 138 0) (fun d1 => pf d1 2 1 (d1 138 1) (fun d2 => cl (m_X11_copyRow_139_3 d2) (fun r3 d4 => cl (m_X11_copyRow_140_4 d4) (fun r5 d6 => cl (m_X11_copyRow_141_5 d6) (fun r7 d8 => cl (m_X11_copyRow_142_6 d8) (fun r9 d10 => cl (m_X11_copyRow_143_7 d10) (fun r11 d12 => cl (m_X11_copyRow_144_8 d12) (fun r13 d14 => rt 0 d14))))))))
set_option maxRecDepth 100000 in
theorem t_X3_copyFrom_2_138 {G : G9} {l : Launch} (h1 : va_D (A9 G) (wl G (fun _ _ => 0))) (h2 : l.stackTraces = false) (d : D9) : MT G l yX3_copyFrom cX3_copyFrom 2 z_X3_copyFrom_2_138 [rf G 2, rf G 138] d (m_X3_copyFrom_2_138  d) := by
  refine mt_of (own := RX3) (by decide) rfl (Nat.le_of_ble_eq_true rfl) h1 h2 [(0, rf G 2), (1, rf G 138)] rfl (fun X hX C => ?_)
  unfold m_X3_copyFrom_2_138
  refine r_aload_n C 0 dX3_copyFrom_0 rfl rfl ?_
  refine r_aload_n C 1 dX3_copyFrom_1 rfl rfl ?_
  refine r_getI C dX3_copyFrom_2 fl_X3_30 la_138 ly_138 rfl ?_
  refine r_putI C dX3_copyFrom_5 fp_X3_30 la_2 ly_2 rfl (fun d1 => ?_)
  refine r_aload_n C 0 dX3_copyFrom_8 rfl rfl ?_
  refine r_aload_n C 1 dX3_copyFrom_9 rfl rfl ?_
  refine r_getI C dX3_copyFrom_10 fl_X3_34 la_138 ly_138 rfl ?_
  refine r_putI C dX3_copyFrom_13 fp_X3_34 la_2 ly_2 rfl (fun d2 => ?_)
  refine r_aload_n C 1 dX3_copyFrom_16 rfl rfl ?_
  refine r_getR C 139 dX3_copyFrom_17 fl_X3_9 la_138 ly_138 rfl rfl ?_
  refine r_aload_n C 0 dX3_copyFrom_20 rfl rfl ?_
  refine r_getR C 3 dX3_copyFrom_21 fl_X3_9 la_2 ly_2 rfl rfl ?_
  refine r_callN C [rf G 3, rf G 139] dX3_copyFrom_24 (t_X11_copyRow_139_3 C.h1 C.h2 d2) (n_X11_copyRow_139_3 d2) mn_X3_37 ms_X11_copyRow (by decide) (by decide) (by decide) rfl rfl (Nat.le_of_ble_eq_true rfl) (fun r3 d4 => ?_)
  show SS G X 2 _ _ 27 [(0, rf G 2), (1, rf G 138)] [] d4 _
  refine r_aload_n C 1 dX3_copyFrom_27 rfl rfl ?_
  refine r_getR C 140 dX3_copyFrom_28 fl_X3_15 la_138 ly_138 rfl rfl ?_
  refine r_aload_n C 0 dX3_copyFrom_31 rfl rfl ?_
  refine r_getR C 4 dX3_copyFrom_32 fl_X3_15 la_2 ly_2 rfl rfl ?_
  refine r_callN C [rf G 4, rf G 140] dX3_copyFrom_35 (t_X11_copyRow_140_4 C.h1 C.h2 d4) (n_X11_copyRow_140_4 d4) mn_X3_37 ms_X11_copyRow (by decide) (by decide) (by decide) rfl rfl (Nat.le_of_ble_eq_true rfl) (fun r5 d6 => ?_)
  show SS G X 2 _ _ 38 [(0, rf G 2), (1, rf G 138)] [] d6 _
  refine r_aload_n C 1 dX3_copyFrom_38 rfl rfl ?_
  refine r_getR C 141 dX3_copyFrom_39 fl_X3_18 la_138 ly_138 rfl rfl ?_
  refine r_aload_n C 0 dX3_copyFrom_42 rfl rfl ?_
  refine r_getR C 5 dX3_copyFrom_43 fl_X3_18 la_2 ly_2 rfl rfl ?_
  refine r_callN C [rf G 5, rf G 141] dX3_copyFrom_46 (t_X11_copyRow_141_5 C.h1 C.h2 d6) (n_X11_copyRow_141_5 d6) mn_X3_37 ms_X11_copyRow (by decide) (by decide) (by decide) rfl rfl (Nat.le_of_ble_eq_true rfl) (fun r7 d8 => ?_)
  show SS G X 2 _ _ 49 [(0, rf G 2), (1, rf G 138)] [] d8 _
  refine r_aload_n C 1 dX3_copyFrom_49 rfl rfl ?_
  refine r_getR C 142 dX3_copyFrom_50 fl_X3_21 la_138 ly_138 rfl rfl ?_
  refine r_aload_n C 0 dX3_copyFrom_53 rfl rfl ?_
  refine r_getR C 6 dX3_copyFrom_54 fl_X3_21 la_2 ly_2 rfl rfl ?_
  refine r_callN C [rf G 6, rf G 142] dX3_copyFrom_57 (t_X11_copyRow_142_6 C.h1 C.h2 d8) (n_X11_copyRow_142_6 d8) mn_X3_37 ms_X11_copyRow (by decide) (by decide) (by decide) rfl rfl (Nat.le_of_ble_eq_true rfl) (fun r9 d10 => ?_)
  show SS G X 2 _ _ 60 [(0, rf G 2), (1, rf G 138)] [] d10 _
  refine r_aload_n C 1 dX3_copyFrom_60 rfl rfl ?_
  refine r_getR C 143 dX3_copyFrom_61 fl_X3_24 la_138 ly_138 rfl rfl ?_
  refine r_aload_n C 0 dX3_copyFrom_64 rfl rfl ?_
  refine r_getR C 7 dX3_copyFrom_65 fl_X3_24 la_2 ly_2 rfl rfl ?_
  refine r_callN C [rf G 7, rf G 143] dX3_copyFrom_68 (t_X11_copyRow_143_7 C.h1 C.h2 d10) (n_X11_copyRow_143_7 d10) mn_X3_37 ms_X11_copyRow (by decide) (by decide) (by decide) rfl rfl (Nat.le_of_ble_eq_true rfl) (fun r11 d12 => ?_)
  show SS G X 2 _ _ 71 [(0, rf G 2), (1, rf G 138)] [] d12 _
  refine r_aload_n C 1 dX3_copyFrom_71 rfl rfl ?_
  refine r_getR C 144 dX3_copyFrom_72 fl_X3_27 la_138 ly_138 rfl rfl ?_
  refine r_aload_n C 0 dX3_copyFrom_75 rfl rfl ?_
  refine r_getR C 8 dX3_copyFrom_76 fl_X3_27 la_2 ly_2 rfl rfl ?_
  refine r_callN C [rf G 8, rf G 144] dX3_copyFrom_79 (t_X11_copyRow_144_8 C.h1 C.h2 d12) (n_X11_copyRow_144_8 d12) mn_X3_37 ms_X11_copyRow (by decide) (by decide) (by decide) rfl rfl (Nat.le_of_ble_eq_true rfl) (fun r13 d14 => ?_)
  show SS G X 2 _ _ 82 [(0, rf G 2), (1, rf G 138)] [] d14 _
  exact r_vret C dX3_copyFrom_82 (by decide) (by decide)
abbrev z_X11_copyRow_146_10 : Z9 := (none, 0, 0, 0, 2, 200)
def m_X11_copyRow_146_10 (d : D9) : Option R9 := cl (m_J9_min_7cf53 30 30 d) (fun r1 d2 => cp9 d2 146 30 10 30 r1 (fun d3 => rt 0 d3))
set_option maxRecDepth 100000 in
theorem t_X11_copyRow_146_10 {G : G9} {l : Launch} (h1 : va_D (A9 G) (wl G (fun _ _ => 0))) (h2 : l.stackTraces = false) (d : D9) : MT G l yX11_copyRow cX11_copyRow 2 z_X11_copyRow_146_10 [rf G 146, rf G 10] d (m_X11_copyRow_146_10  d) := by
  refine mt_of (own := RX11) (by decide) rfl (Nat.le_of_ble_eq_true rfl) h1 h2 [(0, rf G 146), (1, rf G 10)] rfl (fun X hX C => ?_)
  unfold m_X11_copyRow_146_10
  refine r_aload_n C 0 dX11_copyRow_0 rfl rfl ?_
  refine r_iconst C dX11_copyRow_1 ?_
  refine r_aload_n C 1 dX11_copyRow_2 rfl rfl ?_
  refine r_iconst C dX11_copyRow_3 ?_
  refine r_aload_n C 0 dX11_copyRow_4 rfl rfl ?_
  refine r_alen C dX11_copyRow_5 la_146 ly_146 ?_
  refine r_aload_n C 1 dX11_copyRow_6 rfl rfl ?_
  refine r_alen C dX11_copyRow_7 la_10 ly_10 ?_
  refine r_callS C [i9 30, i9 30, i9 0, rf G 10, i9 0, rf G 146] dX11_copyRow_8 (t_J9_min_7cf53 C.h1 C.h2 30 30 d) mw_X11_465 ms_J9_min_7cf53 (by decide) (by decide) (by decide) rfl rfl (Nat.le_of_ble_eq_true rfl) (fun r1 d2 => ?_)
  show SS G X 2 _ _ 11 [(0, rf G 146), (1, rf G 10)] [i9 r1, i9 0, rf G 10, i9 0, rf G 146] d2 _
  refine r_acopy C dX11_copyRow_11 aw_X11_470 la_146 ly_146 la_10 ly_10 (by decide) (Nat.le_of_ble_eq_true rfl) (fun d3 => ?_)
  exact r_vret C dX11_copyRow_14 (by decide) (by decide)
theorem n_X11_copyRow_146_10 (d : D9) : NT9 (m_X11_copyRow_146_10  d) := by
  unfold m_X11_copyRow_146_10
  repeat (first | exact nt_rt | exact nt_none | exact n_J9_min_7cf53 _ _ _ | apply nt_if | refine nt_cl ?_ (fun _ _ => ?_) | refine nt_cp9 (fun _ => ?_))
abbrev z_X11_copyRow_147_11 : Z9 := (none, 0, 0, 0, 2, 200)
def m_X11_copyRow_147_11 (d : D9) : Option R9 := cl (m_J9_min_7cf53 30 30 d) (fun r1 d2 => cp9 d2 147 30 11 30 r1 (fun d3 => rt 0 d3))
set_option maxRecDepth 100000 in
theorem t_X11_copyRow_147_11 {G : G9} {l : Launch} (h1 : va_D (A9 G) (wl G (fun _ _ => 0))) (h2 : l.stackTraces = false) (d : D9) : MT G l yX11_copyRow cX11_copyRow 2 z_X11_copyRow_147_11 [rf G 147, rf G 11] d (m_X11_copyRow_147_11  d) := by
  refine mt_of (own := RX11) (by decide) rfl (Nat.le_of_ble_eq_true rfl) h1 h2 [(0, rf G 147), (1, rf G 11)] rfl (fun X hX C => ?_)
  unfold m_X11_copyRow_147_11
  refine r_aload_n C 0 dX11_copyRow_0 rfl rfl ?_
  refine r_iconst C dX11_copyRow_1 ?_
  refine r_aload_n C 1 dX11_copyRow_2 rfl rfl ?_
  refine r_iconst C dX11_copyRow_3 ?_
  refine r_aload_n C 0 dX11_copyRow_4 rfl rfl ?_
  refine r_alen C dX11_copyRow_5 la_147 ly_147 ?_
  refine r_aload_n C 1 dX11_copyRow_6 rfl rfl ?_
  refine r_alen C dX11_copyRow_7 la_11 ly_11 ?_
  refine r_callS C [i9 30, i9 30, i9 0, rf G 11, i9 0, rf G 147] dX11_copyRow_8 (t_J9_min_7cf53 C.h1 C.h2 30 30 d) mw_X11_465 ms_J9_min_7cf53 (by decide) (by decide) (by decide) rfl rfl (Nat.le_of_ble_eq_true rfl) (fun r1 d2 => ?_)
  show SS G X 2 _ _ 11 [(0, rf G 147), (1, rf G 11)] [i9 r1, i9 0, rf G 11, i9 0, rf G 147] d2 _
  refine r_acopy C dX11_copyRow_11 aw_X11_470 la_147 ly_147 la_11 ly_11 (by decide) (Nat.le_of_ble_eq_true rfl) (fun d3 => ?_)
  exact r_vret C dX11_copyRow_14 (by decide) (by decide)
theorem n_X11_copyRow_147_11 (d : D9) : NT9 (m_X11_copyRow_147_11  d) := by
  unfold m_X11_copyRow_147_11
  repeat (first | exact nt_rt | exact nt_none | exact n_J9_min_7cf53 _ _ _ | apply nt_if | refine nt_cl ?_ (fun _ _ => ?_) | refine nt_cp9 (fun _ => ?_))
abbrev z_X11_copyRow_148_12 : Z9 := (none, 0, 0, 0, 2, 200)
def m_X11_copyRow_148_12 (d : D9) : Option R9 := cl (m_J9_min_7cf53 30 30 d) (fun r1 d2 => cp9 d2 148 30 12 30 r1 (fun d3 => rt 0 d3))
set_option maxRecDepth 100000 in
theorem t_X11_copyRow_148_12 {G : G9} {l : Launch} (h1 : va_D (A9 G) (wl G (fun _ _ => 0))) (h2 : l.stackTraces = false) (d : D9) : MT G l yX11_copyRow cX11_copyRow 2 z_X11_copyRow_148_12 [rf G 148, rf G 12] d (m_X11_copyRow_148_12  d) := by
  refine mt_of (own := RX11) (by decide) rfl (Nat.le_of_ble_eq_true rfl) h1 h2 [(0, rf G 148), (1, rf G 12)] rfl (fun X hX C => ?_)
  unfold m_X11_copyRow_148_12
  refine r_aload_n C 0 dX11_copyRow_0 rfl rfl ?_
  refine r_iconst C dX11_copyRow_1 ?_
  refine r_aload_n C 1 dX11_copyRow_2 rfl rfl ?_
  refine r_iconst C dX11_copyRow_3 ?_
  refine r_aload_n C 0 dX11_copyRow_4 rfl rfl ?_
  refine r_alen C dX11_copyRow_5 la_148 ly_148 ?_
  refine r_aload_n C 1 dX11_copyRow_6 rfl rfl ?_
  refine r_alen C dX11_copyRow_7 la_12 ly_12 ?_
  refine r_callS C [i9 30, i9 30, i9 0, rf G 12, i9 0, rf G 148] dX11_copyRow_8 (t_J9_min_7cf53 C.h1 C.h2 30 30 d) mw_X11_465 ms_J9_min_7cf53 (by decide) (by decide) (by decide) rfl rfl (Nat.le_of_ble_eq_true rfl) (fun r1 d2 => ?_)
  show SS G X 2 _ _ 11 [(0, rf G 148), (1, rf G 12)] [i9 r1, i9 0, rf G 12, i9 0, rf G 148] d2 _
  refine r_acopy C dX11_copyRow_11 aw_X11_470 la_148 ly_148 la_12 ly_12 (by decide) (Nat.le_of_ble_eq_true rfl) (fun d3 => ?_)
  exact r_vret C dX11_copyRow_14 (by decide) (by decide)
theorem n_X11_copyRow_148_12 (d : D9) : NT9 (m_X11_copyRow_148_12  d) := by
  unfold m_X11_copyRow_148_12
  repeat (first | exact nt_rt | exact nt_none | exact n_J9_min_7cf53 _ _ _ | apply nt_if | refine nt_cl ?_ (fun _ _ => ?_) | refine nt_cp9 (fun _ => ?_))
abbrev z_X11_copyRow_149_13 : Z9 := (none, 0, 0, 0, 2, 200)
def m_X11_copyRow_149_13 (d : D9) : Option R9 := cl (m_J9_min_7cf53 30 30 d) (fun r1 d2 => cp9 d2 149 30 13 30 r1 (fun d3 => rt 0 d3))
set_option maxRecDepth 100000 in
theorem t_X11_copyRow_149_13 {G : G9} {l : Launch} (h1 : va_D (A9 G) (wl G (fun _ _ => 0))) (h2 : l.stackTraces = false) (d : D9) : MT G l yX11_copyRow cX11_copyRow 2 z_X11_copyRow_149_13 [rf G 149, rf G 13] d (m_X11_copyRow_149_13  d) := by
  refine mt_of (own := RX11) (by decide) rfl (Nat.le_of_ble_eq_true rfl) h1 h2 [(0, rf G 149), (1, rf G 13)] rfl (fun X hX C => ?_)
  unfold m_X11_copyRow_149_13
  refine r_aload_n C 0 dX11_copyRow_0 rfl rfl ?_
  refine r_iconst C dX11_copyRow_1 ?_
  refine r_aload_n C 1 dX11_copyRow_2 rfl rfl ?_
  refine r_iconst C dX11_copyRow_3 ?_
  refine r_aload_n C 0 dX11_copyRow_4 rfl rfl ?_
  refine r_alen C dX11_copyRow_5 la_149 ly_149 ?_
  refine r_aload_n C 1 dX11_copyRow_6 rfl rfl ?_
  refine r_alen C dX11_copyRow_7 la_13 ly_13 ?_
  refine r_callS C [i9 30, i9 30, i9 0, rf G 13, i9 0, rf G 149] dX11_copyRow_8 (t_J9_min_7cf53 C.h1 C.h2 30 30 d) mw_X11_465 ms_J9_min_7cf53 (by decide) (by decide) (by decide) rfl rfl (Nat.le_of_ble_eq_true rfl) (fun r1 d2 => ?_)
  show SS G X 2 _ _ 11 [(0, rf G 149), (1, rf G 13)] [i9 r1, i9 0, rf G 13, i9 0, rf G 149] d2 _
  refine r_acopy C dX11_copyRow_11 aw_X11_470 la_149 ly_149 la_13 ly_13 (by decide) (Nat.le_of_ble_eq_true rfl) (fun d3 => ?_)
  exact r_vret C dX11_copyRow_14 (by decide) (by decide)
theorem n_X11_copyRow_149_13 (d : D9) : NT9 (m_X11_copyRow_149_13  d) := by
  unfold m_X11_copyRow_149_13
  repeat (first | exact nt_rt | exact nt_none | exact n_J9_min_7cf53 _ _ _ | apply nt_if | refine nt_cl ?_ (fun _ _ => ?_) | refine nt_cp9 (fun _ => ?_))
abbrev z_X11_copyRow_150_14 : Z9 := (none, 0, 0, 0, 2, 200)
def m_X11_copyRow_150_14 (d : D9) : Option R9 := cl (m_J9_min_7cf53 30 30 d) (fun r1 d2 => cp9 d2 150 30 14 30 r1 (fun d3 => rt 0 d3))
set_option maxRecDepth 100000 in
theorem t_X11_copyRow_150_14 {G : G9} {l : Launch} (h1 : va_D (A9 G) (wl G (fun _ _ => 0))) (h2 : l.stackTraces = false) (d : D9) : MT G l yX11_copyRow cX11_copyRow 2 z_X11_copyRow_150_14 [rf G 150, rf G 14] d (m_X11_copyRow_150_14  d) := by
  refine mt_of (own := RX11) (by decide) rfl (Nat.le_of_ble_eq_true rfl) h1 h2 [(0, rf G 150), (1, rf G 14)] rfl (fun X hX C => ?_)
  unfold m_X11_copyRow_150_14
  refine r_aload_n C 0 dX11_copyRow_0 rfl rfl ?_
  refine r_iconst C dX11_copyRow_1 ?_
  refine r_aload_n C 1 dX11_copyRow_2 rfl rfl ?_
  refine r_iconst C dX11_copyRow_3 ?_
  refine r_aload_n C 0 dX11_copyRow_4 rfl rfl ?_
  refine r_alen C dX11_copyRow_5 la_150 ly_150 ?_
  refine r_aload_n C 1 dX11_copyRow_6 rfl rfl ?_
  refine r_alen C dX11_copyRow_7 la_14 ly_14 ?_
  refine r_callS C [i9 30, i9 30, i9 0, rf G 14, i9 0, rf G 150] dX11_copyRow_8 (t_J9_min_7cf53 C.h1 C.h2 30 30 d) mw_X11_465 ms_J9_min_7cf53 (by decide) (by decide) (by decide) rfl rfl (Nat.le_of_ble_eq_true rfl) (fun r1 d2 => ?_)
  show SS G X 2 _ _ 11 [(0, rf G 150), (1, rf G 14)] [i9 r1, i9 0, rf G 14, i9 0, rf G 150] d2 _
  refine r_acopy C dX11_copyRow_11 aw_X11_470 la_150 ly_150 la_14 ly_14 (by decide) (Nat.le_of_ble_eq_true rfl) (fun d3 => ?_)
  exact r_vret C dX11_copyRow_14 (by decide) (by decide)
theorem n_X11_copyRow_150_14 (d : D9) : NT9 (m_X11_copyRow_150_14  d) := by
  unfold m_X11_copyRow_150_14
  repeat (first | exact nt_rt | exact nt_none | exact n_J9_min_7cf53 _ _ _ | apply nt_if | refine nt_cl ?_ (fun _ _ => ?_) | refine nt_cp9 (fun _ => ?_))
abbrev z_X11_copyRow_151_15 : Z9 := (none, 0, 0, 0, 2, 200)
def m_X11_copyRow_151_15 (d : D9) : Option R9 := cl (m_J9_min_7cf53 30 30 d) (fun r1 d2 => cp9 d2 151 30 15 30 r1 (fun d3 => rt 0 d3))
set_option maxRecDepth 100000 in
theorem t_X11_copyRow_151_15 {G : G9} {l : Launch} (h1 : va_D (A9 G) (wl G (fun _ _ => 0))) (h2 : l.stackTraces = false) (d : D9) : MT G l yX11_copyRow cX11_copyRow 2 z_X11_copyRow_151_15 [rf G 151, rf G 15] d (m_X11_copyRow_151_15  d) := by
  refine mt_of (own := RX11) (by decide) rfl (Nat.le_of_ble_eq_true rfl) h1 h2 [(0, rf G 151), (1, rf G 15)] rfl (fun X hX C => ?_)
  unfold m_X11_copyRow_151_15
  refine r_aload_n C 0 dX11_copyRow_0 rfl rfl ?_
  refine r_iconst C dX11_copyRow_1 ?_
  refine r_aload_n C 1 dX11_copyRow_2 rfl rfl ?_
  refine r_iconst C dX11_copyRow_3 ?_
  refine r_aload_n C 0 dX11_copyRow_4 rfl rfl ?_
  refine r_alen C dX11_copyRow_5 la_151 ly_151 ?_
  refine r_aload_n C 1 dX11_copyRow_6 rfl rfl ?_
  refine r_alen C dX11_copyRow_7 la_15 ly_15 ?_
  refine r_callS C [i9 30, i9 30, i9 0, rf G 15, i9 0, rf G 151] dX11_copyRow_8 (t_J9_min_7cf53 C.h1 C.h2 30 30 d) mw_X11_465 ms_J9_min_7cf53 (by decide) (by decide) (by decide) rfl rfl (Nat.le_of_ble_eq_true rfl) (fun r1 d2 => ?_)
  show SS G X 2 _ _ 11 [(0, rf G 151), (1, rf G 15)] [i9 r1, i9 0, rf G 15, i9 0, rf G 151] d2 _
  refine r_acopy C dX11_copyRow_11 aw_X11_470 la_151 ly_151 la_15 ly_15 (by decide) (Nat.le_of_ble_eq_true rfl) (fun d3 => ?_)
  exact r_vret C dX11_copyRow_14 (by decide) (by decide)
theorem n_X11_copyRow_151_15 (d : D9) : NT9 (m_X11_copyRow_151_15  d) := by
  unfold m_X11_copyRow_151_15
  repeat (first | exact nt_rt | exact nt_none | exact n_J9_min_7cf53 _ _ _ | apply nt_if | refine nt_cl ?_ (fun _ _ => ?_) | refine nt_cp9 (fun _ => ?_))
abbrev z_X11_copyRow_152_16 : Z9 := (none, 0, 0, 0, 2, 200)
def m_X11_copyRow_152_16 (d : D9) : Option R9 := cl (m_J9_min_7cf53 30 30 d) (fun r1 d2 => cp9 d2 152 30 16 30 r1 (fun d3 => rt 0 d3))
set_option maxRecDepth 100000 in
theorem t_X11_copyRow_152_16 {G : G9} {l : Launch} (h1 : va_D (A9 G) (wl G (fun _ _ => 0))) (h2 : l.stackTraces = false) (d : D9) : MT G l yX11_copyRow cX11_copyRow 2 z_X11_copyRow_152_16 [rf G 152, rf G 16] d (m_X11_copyRow_152_16  d) := by
  refine mt_of (own := RX11) (by decide) rfl (Nat.le_of_ble_eq_true rfl) h1 h2 [(0, rf G 152), (1, rf G 16)] rfl (fun X hX C => ?_)
  unfold m_X11_copyRow_152_16
  refine r_aload_n C 0 dX11_copyRow_0 rfl rfl ?_
  refine r_iconst C dX11_copyRow_1 ?_
  refine r_aload_n C 1 dX11_copyRow_2 rfl rfl ?_
  refine r_iconst C dX11_copyRow_3 ?_
  refine r_aload_n C 0 dX11_copyRow_4 rfl rfl ?_
  refine r_alen C dX11_copyRow_5 la_152 ly_152 ?_
  refine r_aload_n C 1 dX11_copyRow_6 rfl rfl ?_
  refine r_alen C dX11_copyRow_7 la_16 ly_16 ?_
  refine r_callS C [i9 30, i9 30, i9 0, rf G 16, i9 0, rf G 152] dX11_copyRow_8 (t_J9_min_7cf53 C.h1 C.h2 30 30 d) mw_X11_465 ms_J9_min_7cf53 (by decide) (by decide) (by decide) rfl rfl (Nat.le_of_ble_eq_true rfl) (fun r1 d2 => ?_)
  show SS G X 2 _ _ 11 [(0, rf G 152), (1, rf G 16)] [i9 r1, i9 0, rf G 16, i9 0, rf G 152] d2 _
  refine r_acopy C dX11_copyRow_11 aw_X11_470 la_152 ly_152 la_16 ly_16 (by decide) (Nat.le_of_ble_eq_true rfl) (fun d3 => ?_)
  exact r_vret C dX11_copyRow_14 (by decide) (by decide)
theorem n_X11_copyRow_152_16 (d : D9) : NT9 (m_X11_copyRow_152_16  d) := by
  unfold m_X11_copyRow_152_16
  repeat (first | exact nt_rt | exact nt_none | exact n_J9_min_7cf53 _ _ _ | apply nt_if | refine nt_cl ?_ (fun _ _ => ?_) | refine nt_cp9 (fun _ => ?_))
abbrev z_X11_copyRow_153_17 : Z9 := (none, 0, 0, 0, 2, 200)
def m_X11_copyRow_153_17 (d : D9) : Option R9 := cl (m_J9_min_7cf53 120 120 d) (fun r1 d2 => cp9 d2 153 120 17 120 r1 (fun d3 => rt 0 d3))
set_option maxRecDepth 100000 in
theorem t_X11_copyRow_153_17 {G : G9} {l : Launch} (h1 : va_D (A9 G) (wl G (fun _ _ => 0))) (h2 : l.stackTraces = false) (d : D9) : MT G l yX11_copyRow cX11_copyRow 2 z_X11_copyRow_153_17 [rf G 153, rf G 17] d (m_X11_copyRow_153_17  d) := by
  refine mt_of (own := RX11) (by decide) rfl (Nat.le_of_ble_eq_true rfl) h1 h2 [(0, rf G 153), (1, rf G 17)] rfl (fun X hX C => ?_)
  unfold m_X11_copyRow_153_17
  refine r_aload_n C 0 dX11_copyRow_0 rfl rfl ?_
  refine r_iconst C dX11_copyRow_1 ?_
  refine r_aload_n C 1 dX11_copyRow_2 rfl rfl ?_
  refine r_iconst C dX11_copyRow_3 ?_
  refine r_aload_n C 0 dX11_copyRow_4 rfl rfl ?_
  refine r_alen C dX11_copyRow_5 la_153 ly_153 ?_
  refine r_aload_n C 1 dX11_copyRow_6 rfl rfl ?_
  refine r_alen C dX11_copyRow_7 la_17 ly_17 ?_
  refine r_callS C [i9 120, i9 120, i9 0, rf G 17, i9 0, rf G 153] dX11_copyRow_8 (t_J9_min_7cf53 C.h1 C.h2 120 120 d) mw_X11_465 ms_J9_min_7cf53 (by decide) (by decide) (by decide) rfl rfl (Nat.le_of_ble_eq_true rfl) (fun r1 d2 => ?_)
  show SS G X 2 _ _ 11 [(0, rf G 153), (1, rf G 17)] [i9 r1, i9 0, rf G 17, i9 0, rf G 153] d2 _
  refine r_acopy C dX11_copyRow_11 aw_X11_470 la_153 ly_153 la_17 ly_17 (by decide) (Nat.le_of_ble_eq_true rfl) (fun d3 => ?_)
  exact r_vret C dX11_copyRow_14 (by decide) (by decide)
theorem n_X11_copyRow_153_17 (d : D9) : NT9 (m_X11_copyRow_153_17  d) := by
  unfold m_X11_copyRow_153_17
  repeat (first | exact nt_rt | exact nt_none | exact n_J9_min_7cf53 _ _ _ | apply nt_if | refine nt_cl ?_ (fun _ _ => ?_) | refine nt_cp9 (fun _ => ?_))
abbrev z_X11_copyRow_154_18 : Z9 := (none, 0, 0, 0, 2, 200)
def m_X11_copyRow_154_18 (d : D9) : Option R9 := cl (m_J9_min_7cf53 120 120 d) (fun r1 d2 => cp9 d2 154 120 18 120 r1 (fun d3 => rt 0 d3))
set_option maxRecDepth 100000 in
theorem t_X11_copyRow_154_18 {G : G9} {l : Launch} (h1 : va_D (A9 G) (wl G (fun _ _ => 0))) (h2 : l.stackTraces = false) (d : D9) : MT G l yX11_copyRow cX11_copyRow 2 z_X11_copyRow_154_18 [rf G 154, rf G 18] d (m_X11_copyRow_154_18  d) := by
  refine mt_of (own := RX11) (by decide) rfl (Nat.le_of_ble_eq_true rfl) h1 h2 [(0, rf G 154), (1, rf G 18)] rfl (fun X hX C => ?_)
  unfold m_X11_copyRow_154_18
  refine r_aload_n C 0 dX11_copyRow_0 rfl rfl ?_
  refine r_iconst C dX11_copyRow_1 ?_
  refine r_aload_n C 1 dX11_copyRow_2 rfl rfl ?_
  refine r_iconst C dX11_copyRow_3 ?_
  refine r_aload_n C 0 dX11_copyRow_4 rfl rfl ?_
  refine r_alen C dX11_copyRow_5 la_154 ly_154 ?_
  refine r_aload_n C 1 dX11_copyRow_6 rfl rfl ?_
  refine r_alen C dX11_copyRow_7 la_18 ly_18 ?_
  refine r_callS C [i9 120, i9 120, i9 0, rf G 18, i9 0, rf G 154] dX11_copyRow_8 (t_J9_min_7cf53 C.h1 C.h2 120 120 d) mw_X11_465 ms_J9_min_7cf53 (by decide) (by decide) (by decide) rfl rfl (Nat.le_of_ble_eq_true rfl) (fun r1 d2 => ?_)
  show SS G X 2 _ _ 11 [(0, rf G 154), (1, rf G 18)] [i9 r1, i9 0, rf G 18, i9 0, rf G 154] d2 _
  refine r_acopy C dX11_copyRow_11 aw_X11_470 la_154 ly_154 la_18 ly_18 (by decide) (Nat.le_of_ble_eq_true rfl) (fun d3 => ?_)
  exact r_vret C dX11_copyRow_14 (by decide) (by decide)
theorem n_X11_copyRow_154_18 (d : D9) : NT9 (m_X11_copyRow_154_18  d) := by
  unfold m_X11_copyRow_154_18
  repeat (first | exact nt_rt | exact nt_none | exact n_J9_min_7cf53 _ _ _ | apply nt_if | refine nt_cl ?_ (fun _ _ => ?_) | refine nt_cp9 (fun _ => ?_))
abbrev z_X11_copyRow_155_19 : Z9 := (none, 0, 0, 0, 2, 200)
def m_X11_copyRow_155_19 (d : D9) : Option R9 := cl (m_J9_min_7cf53 120 120 d) (fun r1 d2 => cp9 d2 155 120 19 120 r1 (fun d3 => rt 0 d3))
set_option maxRecDepth 100000 in
theorem t_X11_copyRow_155_19 {G : G9} {l : Launch} (h1 : va_D (A9 G) (wl G (fun _ _ => 0))) (h2 : l.stackTraces = false) (d : D9) : MT G l yX11_copyRow cX11_copyRow 2 z_X11_copyRow_155_19 [rf G 155, rf G 19] d (m_X11_copyRow_155_19  d) := by
  refine mt_of (own := RX11) (by decide) rfl (Nat.le_of_ble_eq_true rfl) h1 h2 [(0, rf G 155), (1, rf G 19)] rfl (fun X hX C => ?_)
  unfold m_X11_copyRow_155_19
  refine r_aload_n C 0 dX11_copyRow_0 rfl rfl ?_
  refine r_iconst C dX11_copyRow_1 ?_
  refine r_aload_n C 1 dX11_copyRow_2 rfl rfl ?_
  refine r_iconst C dX11_copyRow_3 ?_
  refine r_aload_n C 0 dX11_copyRow_4 rfl rfl ?_
  refine r_alen C dX11_copyRow_5 la_155 ly_155 ?_
  refine r_aload_n C 1 dX11_copyRow_6 rfl rfl ?_
  refine r_alen C dX11_copyRow_7 la_19 ly_19 ?_
  refine r_callS C [i9 120, i9 120, i9 0, rf G 19, i9 0, rf G 155] dX11_copyRow_8 (t_J9_min_7cf53 C.h1 C.h2 120 120 d) mw_X11_465 ms_J9_min_7cf53 (by decide) (by decide) (by decide) rfl rfl (Nat.le_of_ble_eq_true rfl) (fun r1 d2 => ?_)
  show SS G X 2 _ _ 11 [(0, rf G 155), (1, rf G 19)] [i9 r1, i9 0, rf G 19, i9 0, rf G 155] d2 _
  refine r_acopy C dX11_copyRow_11 aw_X11_470 la_155 ly_155 la_19 ly_19 (by decide) (Nat.le_of_ble_eq_true rfl) (fun d3 => ?_)
  exact r_vret C dX11_copyRow_14 (by decide) (by decide)
theorem n_X11_copyRow_155_19 (d : D9) : NT9 (m_X11_copyRow_155_19  d) := by
  unfold m_X11_copyRow_155_19
  repeat (first | exact nt_rt | exact nt_none | exact n_J9_min_7cf53 _ _ _ | apply nt_if | refine nt_cl ?_ (fun _ _ => ?_) | refine nt_cp9 (fun _ => ?_))
abbrev z_X11_copyRow_156_20 : Z9 := (none, 0, 0, 0, 2, 200)
def m_X11_copyRow_156_20 (d : D9) : Option R9 := cl (m_J9_min_7cf53 120 120 d) (fun r1 d2 => cp9 d2 156 120 20 120 r1 (fun d3 => rt 0 d3))
set_option maxRecDepth 100000 in
theorem t_X11_copyRow_156_20 {G : G9} {l : Launch} (h1 : va_D (A9 G) (wl G (fun _ _ => 0))) (h2 : l.stackTraces = false) (d : D9) : MT G l yX11_copyRow cX11_copyRow 2 z_X11_copyRow_156_20 [rf G 156, rf G 20] d (m_X11_copyRow_156_20  d) := by
  refine mt_of (own := RX11) (by decide) rfl (Nat.le_of_ble_eq_true rfl) h1 h2 [(0, rf G 156), (1, rf G 20)] rfl (fun X hX C => ?_)
  unfold m_X11_copyRow_156_20
  refine r_aload_n C 0 dX11_copyRow_0 rfl rfl ?_
  refine r_iconst C dX11_copyRow_1 ?_
  refine r_aload_n C 1 dX11_copyRow_2 rfl rfl ?_
  refine r_iconst C dX11_copyRow_3 ?_
  refine r_aload_n C 0 dX11_copyRow_4 rfl rfl ?_
  refine r_alen C dX11_copyRow_5 la_156 ly_156 ?_
  refine r_aload_n C 1 dX11_copyRow_6 rfl rfl ?_
  refine r_alen C dX11_copyRow_7 la_20 ly_20 ?_
  refine r_callS C [i9 120, i9 120, i9 0, rf G 20, i9 0, rf G 156] dX11_copyRow_8 (t_J9_min_7cf53 C.h1 C.h2 120 120 d) mw_X11_465 ms_J9_min_7cf53 (by decide) (by decide) (by decide) rfl rfl (Nat.le_of_ble_eq_true rfl) (fun r1 d2 => ?_)
  show SS G X 2 _ _ 11 [(0, rf G 156), (1, rf G 20)] [i9 r1, i9 0, rf G 20, i9 0, rf G 156] d2 _
  refine r_acopy C dX11_copyRow_11 aw_X11_470 la_156 ly_156 la_20 ly_20 (by decide) (Nat.le_of_ble_eq_true rfl) (fun d3 => ?_)
  exact r_vret C dX11_copyRow_14 (by decide) (by decide)
theorem n_X11_copyRow_156_20 (d : D9) : NT9 (m_X11_copyRow_156_20  d) := by
  unfold m_X11_copyRow_156_20
  repeat (first | exact nt_rt | exact nt_none | exact n_J9_min_7cf53 _ _ _ | apply nt_if | refine nt_cl ?_ (fun _ _ => ?_) | refine nt_cp9 (fun _ => ?_))
abbrev z_X11_copyRow_157_21 : Z9 := (none, 0, 0, 0, 2, 200)
def m_X11_copyRow_157_21 (d : D9) : Option R9 := cl (m_J9_min_7cf53 120 120 d) (fun r1 d2 => cp9 d2 157 120 21 120 r1 (fun d3 => rt 0 d3))
set_option maxRecDepth 100000 in
theorem t_X11_copyRow_157_21 {G : G9} {l : Launch} (h1 : va_D (A9 G) (wl G (fun _ _ => 0))) (h2 : l.stackTraces = false) (d : D9) : MT G l yX11_copyRow cX11_copyRow 2 z_X11_copyRow_157_21 [rf G 157, rf G 21] d (m_X11_copyRow_157_21  d) := by
  refine mt_of (own := RX11) (by decide) rfl (Nat.le_of_ble_eq_true rfl) h1 h2 [(0, rf G 157), (1, rf G 21)] rfl (fun X hX C => ?_)
  unfold m_X11_copyRow_157_21
  refine r_aload_n C 0 dX11_copyRow_0 rfl rfl ?_
  refine r_iconst C dX11_copyRow_1 ?_
  refine r_aload_n C 1 dX11_copyRow_2 rfl rfl ?_
  refine r_iconst C dX11_copyRow_3 ?_
  refine r_aload_n C 0 dX11_copyRow_4 rfl rfl ?_
  refine r_alen C dX11_copyRow_5 la_157 ly_157 ?_
  refine r_aload_n C 1 dX11_copyRow_6 rfl rfl ?_
  refine r_alen C dX11_copyRow_7 la_21 ly_21 ?_
  refine r_callS C [i9 120, i9 120, i9 0, rf G 21, i9 0, rf G 157] dX11_copyRow_8 (t_J9_min_7cf53 C.h1 C.h2 120 120 d) mw_X11_465 ms_J9_min_7cf53 (by decide) (by decide) (by decide) rfl rfl (Nat.le_of_ble_eq_true rfl) (fun r1 d2 => ?_)
  show SS G X 2 _ _ 11 [(0, rf G 157), (1, rf G 21)] [i9 r1, i9 0, rf G 21, i9 0, rf G 157] d2 _
  refine r_acopy C dX11_copyRow_11 aw_X11_470 la_157 ly_157 la_21 ly_21 (by decide) (Nat.le_of_ble_eq_true rfl) (fun d3 => ?_)
  exact r_vret C dX11_copyRow_14 (by decide) (by decide)
theorem n_X11_copyRow_157_21 (d : D9) : NT9 (m_X11_copyRow_157_21  d) := by
  unfold m_X11_copyRow_157_21
  repeat (first | exact nt_rt | exact nt_none | exact n_J9_min_7cf53 _ _ _ | apply nt_if | refine nt_cl ?_ (fun _ _ => ?_) | refine nt_cp9 (fun _ => ?_))
abbrev z_X6_copyFrom_9_145 : Z9 := (none, 0, 0, 0, 3, 221)
def m_X6_copyFrom_9_145 (d : D9) : Option R9 := pf d 9 0 (d 145 0) (fun d1 => cl (m_X11_copyRow_146_10 d1) (fun r2 d3 => cl (m_X11_copyRow_147_11 d3) (fun r4 d5 => cl (m_X11_copyRow_148_12 d5) (fun r6 d7 => cl (m_X11_copyRow_149_13 d7) (fun r8 d9 => cl (m_X11_copyRow_150_14 d9) (fun r10 d11 => cl (m_X11_copyRow_151_15 d11) (fun r12 d13 => cl (m_X11_copyRow_152_16 d13) (fun r14 d15 => cl (m_X11_copyRow_153_17 d15) (fun r16 d17 => cl (m_X11_copyRow_154_18 d17) (fun r18 d19 => cl (m_X11_copyRow_155_19 d19) (fun r20 d21 => cl (m_X11_copyRow_156_20 d21) (fun r22 d23 => cl (m_X11_copyRow_157_21 d23) (fun r24 d25 => rt 0 d25)))))))))))))
set_option maxRecDepth 100000 in
theorem t_X6_copyFrom_9_145 {G : G9} {l : Launch} (h1 : va_D (A9 G) (wl G (fun _ _ => 0))) (h2 : l.stackTraces = false) (d : D9) : MT G l yX6_copyFrom cX6_copyFrom 2 z_X6_copyFrom_9_145 [rf G 9, rf G 145] d (m_X6_copyFrom_9_145  d) := by
  refine mt_of (own := RX6) (by decide) rfl (Nat.le_of_ble_eq_true rfl) h1 h2 [(0, rf G 9), (1, rf G 145)] rfl (fun X hX C => ?_)
  unfold m_X6_copyFrom_9_145
  refine r_aload_n C 0 dX6_copyFrom_0 rfl rfl ?_
  refine r_aload_n C 1 dX6_copyFrom_1 rfl rfl ?_
  refine r_getI C dX6_copyFrom_2 fl_X6_48 la_145 ly_145 rfl ?_
  refine r_putI C dX6_copyFrom_5 fp_X6_48 la_9 ly_9 rfl (fun d1 => ?_)
  refine r_aload_n C 1 dX6_copyFrom_8 rfl rfl ?_
  refine r_getR C 146 dX6_copyFrom_9 fl_X6_9 la_145 ly_145 rfl rfl ?_
  refine r_aload_n C 0 dX6_copyFrom_12 rfl rfl ?_
  refine r_getR C 10 dX6_copyFrom_13 fl_X6_9 la_9 ly_9 rfl rfl ?_
  refine r_callN C [rf G 10, rf G 146] dX6_copyFrom_16 (t_X11_copyRow_146_10 C.h1 C.h2 d1) (n_X11_copyRow_146_10 d1) mn_X6_52 ms_X11_copyRow (by decide) (by decide) (by decide) rfl rfl (Nat.le_of_ble_eq_true rfl) (fun r2 d3 => ?_)
  show SS G X 2 _ _ 19 [(0, rf G 9), (1, rf G 145)] [] d3 _
  refine r_aload_n C 1 dX6_copyFrom_19 rfl rfl ?_
  refine r_getR C 147 dX6_copyFrom_20 fl_X6_15 la_145 ly_145 rfl rfl ?_
  refine r_aload_n C 0 dX6_copyFrom_23 rfl rfl ?_
  refine r_getR C 11 dX6_copyFrom_24 fl_X6_15 la_9 ly_9 rfl rfl ?_
  refine r_callN C [rf G 11, rf G 147] dX6_copyFrom_27 (t_X11_copyRow_147_11 C.h1 C.h2 d3) (n_X11_copyRow_147_11 d3) mn_X6_52 ms_X11_copyRow (by decide) (by decide) (by decide) rfl rfl (Nat.le_of_ble_eq_true rfl) (fun r4 d5 => ?_)
  show SS G X 2 _ _ 30 [(0, rf G 9), (1, rf G 145)] [] d5 _
  refine r_aload_n C 1 dX6_copyFrom_30 rfl rfl ?_
  refine r_getR C 148 dX6_copyFrom_31 fl_X6_18 la_145 ly_145 rfl rfl ?_
  refine r_aload_n C 0 dX6_copyFrom_34 rfl rfl ?_
  refine r_getR C 12 dX6_copyFrom_35 fl_X6_18 la_9 ly_9 rfl rfl ?_
  refine r_callN C [rf G 12, rf G 148] dX6_copyFrom_38 (t_X11_copyRow_148_12 C.h1 C.h2 d5) (n_X11_copyRow_148_12 d5) mn_X6_52 ms_X11_copyRow (by decide) (by decide) (by decide) rfl rfl (Nat.le_of_ble_eq_true rfl) (fun r6 d7 => ?_)
  show SS G X 2 _ _ 41 [(0, rf G 9), (1, rf G 145)] [] d7 _
  refine r_aload_n C 1 dX6_copyFrom_41 rfl rfl ?_
  refine r_getR C 149 dX6_copyFrom_42 fl_X6_21 la_145 ly_145 rfl rfl ?_
  refine r_aload_n C 0 dX6_copyFrom_45 rfl rfl ?_
  refine r_getR C 13 dX6_copyFrom_46 fl_X6_21 la_9 ly_9 rfl rfl ?_
  refine r_callN C [rf G 13, rf G 149] dX6_copyFrom_49 (t_X11_copyRow_149_13 C.h1 C.h2 d7) (n_X11_copyRow_149_13 d7) mn_X6_52 ms_X11_copyRow (by decide) (by decide) (by decide) rfl rfl (Nat.le_of_ble_eq_true rfl) (fun r8 d9 => ?_)
  show SS G X 2 _ _ 52 [(0, rf G 9), (1, rf G 145)] [] d9 _
  refine r_aload_n C 1 dX6_copyFrom_52 rfl rfl ?_
  refine r_getR C 150 dX6_copyFrom_53 fl_X6_24 la_145 ly_145 rfl rfl ?_
  refine r_aload_n C 0 dX6_copyFrom_56 rfl rfl ?_
  refine r_getR C 14 dX6_copyFrom_57 fl_X6_24 la_9 ly_9 rfl rfl ?_
  refine r_callN C [rf G 14, rf G 150] dX6_copyFrom_60 (t_X11_copyRow_150_14 C.h1 C.h2 d9) (n_X11_copyRow_150_14 d9) mn_X6_52 ms_X11_copyRow (by decide) (by decide) (by decide) rfl rfl (Nat.le_of_ble_eq_true rfl) (fun r10 d11 => ?_)
  show SS G X 2 _ _ 63 [(0, rf G 9), (1, rf G 145)] [] d11 _
  refine r_aload_n C 1 dX6_copyFrom_63 rfl rfl ?_
  refine r_getR C 151 dX6_copyFrom_64 fl_X6_27 la_145 ly_145 rfl rfl ?_
  refine r_aload_n C 0 dX6_copyFrom_67 rfl rfl ?_
  refine r_getR C 15 dX6_copyFrom_68 fl_X6_27 la_9 ly_9 rfl rfl ?_
  refine r_callN C [rf G 15, rf G 151] dX6_copyFrom_71 (t_X11_copyRow_151_15 C.h1 C.h2 d11) (n_X11_copyRow_151_15 d11) mn_X6_52 ms_X11_copyRow (by decide) (by decide) (by decide) rfl rfl (Nat.le_of_ble_eq_true rfl) (fun r12 d13 => ?_)
  show SS G X 2 _ _ 74 [(0, rf G 9), (1, rf G 145)] [] d13 _
  refine r_aload_n C 1 dX6_copyFrom_74 rfl rfl ?_
  refine r_getR C 152 dX6_copyFrom_75 fl_X6_30 la_145 ly_145 rfl rfl ?_
  refine r_aload_n C 0 dX6_copyFrom_78 rfl rfl ?_
  refine r_getR C 16 dX6_copyFrom_79 fl_X6_30 la_9 ly_9 rfl rfl ?_
  refine r_callN C [rf G 16, rf G 152] dX6_copyFrom_82 (t_X11_copyRow_152_16 C.h1 C.h2 d13) (n_X11_copyRow_152_16 d13) mn_X6_52 ms_X11_copyRow (by decide) (by decide) (by decide) rfl rfl (Nat.le_of_ble_eq_true rfl) (fun r14 d15 => ?_)
  show SS G X 2 _ _ 85 [(0, rf G 9), (1, rf G 145)] [] d15 _
  refine r_aload_n C 1 dX6_copyFrom_85 rfl rfl ?_
  refine r_getR C 153 dX6_copyFrom_86 fl_X6_33 la_145 ly_145 rfl rfl ?_
  refine r_aload_n C 0 dX6_copyFrom_89 rfl rfl ?_
  refine r_getR C 17 dX6_copyFrom_90 fl_X6_33 la_9 ly_9 rfl rfl ?_
  refine r_callN C [rf G 17, rf G 153] dX6_copyFrom_93 (t_X11_copyRow_153_17 C.h1 C.h2 d15) (n_X11_copyRow_153_17 d15) mn_X6_52 ms_X11_copyRow (by decide) (by decide) (by decide) rfl rfl (Nat.le_of_ble_eq_true rfl) (fun r16 d17 => ?_)
  show SS G X 2 _ _ 96 [(0, rf G 9), (1, rf G 145)] [] d17 _
  refine r_aload_n C 1 dX6_copyFrom_96 rfl rfl ?_
  refine r_getR C 154 dX6_copyFrom_97 fl_X6_36 la_145 ly_145 rfl rfl ?_
  refine r_aload_n C 0 dX6_copyFrom_100 rfl rfl ?_
  refine r_getR C 18 dX6_copyFrom_101 fl_X6_36 la_9 ly_9 rfl rfl ?_
  refine r_callN C [rf G 18, rf G 154] dX6_copyFrom_104 (t_X11_copyRow_154_18 C.h1 C.h2 d17) (n_X11_copyRow_154_18 d17) mn_X6_52 ms_X11_copyRow (by decide) (by decide) (by decide) rfl rfl (Nat.le_of_ble_eq_true rfl) (fun r18 d19 => ?_)
  show SS G X 2 _ _ 107 [(0, rf G 9), (1, rf G 145)] [] d19 _
  refine r_aload_n C 1 dX6_copyFrom_107 rfl rfl ?_
  refine r_getR C 155 dX6_copyFrom_108 fl_X6_39 la_145 ly_145 rfl rfl ?_
  refine r_aload_n C 0 dX6_copyFrom_111 rfl rfl ?_
  refine r_getR C 19 dX6_copyFrom_112 fl_X6_39 la_9 ly_9 rfl rfl ?_
  refine r_callN C [rf G 19, rf G 155] dX6_copyFrom_115 (t_X11_copyRow_155_19 C.h1 C.h2 d19) (n_X11_copyRow_155_19 d19) mn_X6_52 ms_X11_copyRow (by decide) (by decide) (by decide) rfl rfl (Nat.le_of_ble_eq_true rfl) (fun r20 d21 => ?_)
  show SS G X 2 _ _ 118 [(0, rf G 9), (1, rf G 145)] [] d21 _
  refine r_aload_n C 1 dX6_copyFrom_118 rfl rfl ?_
  refine r_getR C 156 dX6_copyFrom_119 fl_X6_42 la_145 ly_145 rfl rfl ?_
  refine r_aload_n C 0 dX6_copyFrom_122 rfl rfl ?_
  refine r_getR C 20 dX6_copyFrom_123 fl_X6_42 la_9 ly_9 rfl rfl ?_
  refine r_callN C [rf G 20, rf G 156] dX6_copyFrom_126 (t_X11_copyRow_156_20 C.h1 C.h2 d21) (n_X11_copyRow_156_20 d21) mn_X6_52 ms_X11_copyRow (by decide) (by decide) (by decide) rfl rfl (Nat.le_of_ble_eq_true rfl) (fun r22 d23 => ?_)
  show SS G X 2 _ _ 129 [(0, rf G 9), (1, rf G 145)] [] d23 _
  refine r_aload_n C 1 dX6_copyFrom_129 rfl rfl ?_
  refine r_getR C 157 dX6_copyFrom_130 fl_X6_45 la_145 ly_145 rfl rfl ?_
  refine r_aload_n C 0 dX6_copyFrom_133 rfl rfl ?_
  refine r_getR C 21 dX6_copyFrom_134 fl_X6_45 la_9 ly_9 rfl rfl ?_
  refine r_callN C [rf G 21, rf G 157] dX6_copyFrom_137 (t_X11_copyRow_157_21 C.h1 C.h2 d23) (n_X11_copyRow_157_21 d23) mn_X6_52 ms_X11_copyRow (by decide) (by decide) (by decide) rfl rfl (Nat.le_of_ble_eq_true rfl) (fun r24 d25 => ?_)
  show SS G X 2 _ _ 140 [(0, rf G 9), (1, rf G 145)] [] d25 _
  exact r_vret C dX6_copyFrom_140 (by decide) (by decide)
abbrev z_X2_copyFrom_22_158 : Z9 := (none, 0, 0, 0, 1, 0)
def m_X2_copyFrom_22_158 (d : D9) : Option R9 := pf d 22 0 (d 158 0) (fun d1 => pf d1 22 1 (d1 158 1) (fun d2 => pf d2 22 2 (d2 158 2) (fun d3 => pf d3 22 3 (d3 158 3) (fun d4 => pf d4 22 4 (d4 158 4) (fun d5 => pf d5 22 5 (d5 158 5) (fun d6 => pf d6 22 6 (d6 158 6) (fun d7 => pf d7 22 7 (d7 158 7) (fun d8 => rt 0 d8))))))))
set_option maxRecDepth 100000 in
theorem t_X2_copyFrom_22_158 {G : G9} {l : Launch} (h1 : va_D (A9 G) (wl G (fun _ _ => 0))) (h2 : l.stackTraces = false) (d : D9) : MT G l yX2_copyFrom cX2_copyFrom 2 z_X2_copyFrom_22_158 [rf G 22, rf G 158] d (m_X2_copyFrom_22_158  d) := by
  refine mt_of (own := RX2) (by decide) rfl (Nat.le_of_ble_eq_true rfl) h1 h2 [(0, rf G 22), (1, rf G 158)] rfl (fun X hX C => ?_)
  unfold m_X2_copyFrom_22_158
  refine r_aload_n C 0 dX2_copyFrom_0 rfl rfl ?_
  refine r_aload_n C 1 dX2_copyFrom_1 rfl rfl ?_
  refine r_getI C dX2_copyFrom_2 fl_X2_14 la_158 ly_158 rfl ?_
  refine r_putI C dX2_copyFrom_5 fp_X2_14 la_22 ly_22 rfl (fun d1 => ?_)
  refine r_aload_n C 0 dX2_copyFrom_8 rfl rfl ?_
  refine r_aload_n C 1 dX2_copyFrom_9 rfl rfl ?_
  refine r_getI C dX2_copyFrom_10 fl_X2_18 la_158 ly_158 rfl ?_
  refine r_putI C dX2_copyFrom_13 fp_X2_18 la_22 ly_22 rfl (fun d2 => ?_)
  refine r_aload_n C 0 dX2_copyFrom_16 rfl rfl ?_
  refine r_aload_n C 1 dX2_copyFrom_17 rfl rfl ?_
  refine r_getI C dX2_copyFrom_18 fl_X2_21 la_158 ly_158 rfl ?_
  refine r_putI C dX2_copyFrom_21 fp_X2_21 la_22 ly_22 rfl (fun d3 => ?_)
  refine r_aload_n C 0 dX2_copyFrom_24 rfl rfl ?_
  refine r_aload_n C 1 dX2_copyFrom_25 rfl rfl ?_
  refine r_getI C dX2_copyFrom_26 fl_X2_24 la_158 ly_158 rfl ?_
  refine r_putI C dX2_copyFrom_29 fp_X2_24 la_22 ly_22 rfl (fun d4 => ?_)
  refine r_aload_n C 0 dX2_copyFrom_32 rfl rfl ?_
  refine r_aload_n C 1 dX2_copyFrom_33 rfl rfl ?_
  refine r_getI C dX2_copyFrom_34 fl_X2_27 la_158 ly_158 rfl ?_
  refine r_putI C dX2_copyFrom_37 fp_X2_27 la_22 ly_22 rfl (fun d5 => ?_)
  refine r_aload_n C 0 dX2_copyFrom_40 rfl rfl ?_
  refine r_aload_n C 1 dX2_copyFrom_41 rfl rfl ?_
  refine r_getI C dX2_copyFrom_42 fl_X2_30 la_158 ly_158 rfl ?_
  refine r_putI C dX2_copyFrom_45 fp_X2_30 la_22 ly_22 rfl (fun d6 => ?_)
  refine r_aload_n C 0 dX2_copyFrom_48 rfl rfl ?_
  refine r_aload_n C 1 dX2_copyFrom_49 rfl rfl ?_
  refine r_getI C dX2_copyFrom_50 fl_X2_33 la_158 ly_158 rfl ?_
  refine r_putI C dX2_copyFrom_53 fp_X2_33 la_22 ly_22 rfl (fun d7 => ?_)
  refine r_aload_n C 0 dX2_copyFrom_56 rfl rfl ?_
  refine r_aload_n C 1 dX2_copyFrom_57 rfl rfl ?_
  refine r_getI C dX2_copyFrom_58 fl_X2_36 la_158 ly_158 rfl ?_
  refine r_putI C dX2_copyFrom_61 fp_X2_36 la_22 ly_22 rfl (fun d8 => ?_)
  exact r_vret C dX2_copyFrom_64 (by decide) (by decide)
abbrev z_X11_copyRow_160_24 : Z9 := (none, 0, 0, 0, 2, 200)
def m_X11_copyRow_160_24 (d : D9) : Option R9 := cl (m_J9_min_7cf53 12 12 d) (fun r1 d2 => cp9 d2 160 12 24 12 r1 (fun d3 => rt 0 d3))
set_option maxRecDepth 100000 in
theorem t_X11_copyRow_160_24 {G : G9} {l : Launch} (h1 : va_D (A9 G) (wl G (fun _ _ => 0))) (h2 : l.stackTraces = false) (d : D9) : MT G l yX11_copyRow cX11_copyRow 2 z_X11_copyRow_160_24 [rf G 160, rf G 24] d (m_X11_copyRow_160_24  d) := by
  refine mt_of (own := RX11) (by decide) rfl (Nat.le_of_ble_eq_true rfl) h1 h2 [(0, rf G 160), (1, rf G 24)] rfl (fun X hX C => ?_)
  unfold m_X11_copyRow_160_24
  refine r_aload_n C 0 dX11_copyRow_0 rfl rfl ?_
  refine r_iconst C dX11_copyRow_1 ?_
  refine r_aload_n C 1 dX11_copyRow_2 rfl rfl ?_
  refine r_iconst C dX11_copyRow_3 ?_
  refine r_aload_n C 0 dX11_copyRow_4 rfl rfl ?_
  refine r_alen C dX11_copyRow_5 la_160 ly_160 ?_
  refine r_aload_n C 1 dX11_copyRow_6 rfl rfl ?_
  refine r_alen C dX11_copyRow_7 la_24 ly_24 ?_
  refine r_callS C [i9 12, i9 12, i9 0, rf G 24, i9 0, rf G 160] dX11_copyRow_8 (t_J9_min_7cf53 C.h1 C.h2 12 12 d) mw_X11_465 ms_J9_min_7cf53 (by decide) (by decide) (by decide) rfl rfl (Nat.le_of_ble_eq_true rfl) (fun r1 d2 => ?_)
  show SS G X 2 _ _ 11 [(0, rf G 160), (1, rf G 24)] [i9 r1, i9 0, rf G 24, i9 0, rf G 160] d2 _
  refine r_acopy C dX11_copyRow_11 aw_X11_470 la_160 ly_160 la_24 ly_24 (by decide) (Nat.le_of_ble_eq_true rfl) (fun d3 => ?_)
  exact r_vret C dX11_copyRow_14 (by decide) (by decide)
theorem n_X11_copyRow_160_24 (d : D9) : NT9 (m_X11_copyRow_160_24  d) := by
  unfold m_X11_copyRow_160_24
  repeat (first | exact nt_rt | exact nt_none | exact n_J9_min_7cf53 _ _ _ | apply nt_if | refine nt_cl ?_ (fun _ _ => ?_) | refine nt_cp9 (fun _ => ?_))
abbrev z_X11_copyRow_161_25 : Z9 := (none, 0, 0, 0, 2, 200)
def m_X11_copyRow_161_25 (d : D9) : Option R9 := cl (m_J9_min_7cf53 12 12 d) (fun r1 d2 => cp9 d2 161 12 25 12 r1 (fun d3 => rt 0 d3))
set_option maxRecDepth 100000 in
theorem t_X11_copyRow_161_25 {G : G9} {l : Launch} (h1 : va_D (A9 G) (wl G (fun _ _ => 0))) (h2 : l.stackTraces = false) (d : D9) : MT G l yX11_copyRow cX11_copyRow 2 z_X11_copyRow_161_25 [rf G 161, rf G 25] d (m_X11_copyRow_161_25  d) := by
  refine mt_of (own := RX11) (by decide) rfl (Nat.le_of_ble_eq_true rfl) h1 h2 [(0, rf G 161), (1, rf G 25)] rfl (fun X hX C => ?_)
  unfold m_X11_copyRow_161_25
  refine r_aload_n C 0 dX11_copyRow_0 rfl rfl ?_
  refine r_iconst C dX11_copyRow_1 ?_
  refine r_aload_n C 1 dX11_copyRow_2 rfl rfl ?_
  refine r_iconst C dX11_copyRow_3 ?_
  refine r_aload_n C 0 dX11_copyRow_4 rfl rfl ?_
  refine r_alen C dX11_copyRow_5 la_161 ly_161 ?_
  refine r_aload_n C 1 dX11_copyRow_6 rfl rfl ?_
  refine r_alen C dX11_copyRow_7 la_25 ly_25 ?_
  refine r_callS C [i9 12, i9 12, i9 0, rf G 25, i9 0, rf G 161] dX11_copyRow_8 (t_J9_min_7cf53 C.h1 C.h2 12 12 d) mw_X11_465 ms_J9_min_7cf53 (by decide) (by decide) (by decide) rfl rfl (Nat.le_of_ble_eq_true rfl) (fun r1 d2 => ?_)
  show SS G X 2 _ _ 11 [(0, rf G 161), (1, rf G 25)] [i9 r1, i9 0, rf G 25, i9 0, rf G 161] d2 _
  refine r_acopy C dX11_copyRow_11 aw_X11_470 la_161 ly_161 la_25 ly_25 (by decide) (Nat.le_of_ble_eq_true rfl) (fun d3 => ?_)
  exact r_vret C dX11_copyRow_14 (by decide) (by decide)
theorem n_X11_copyRow_161_25 (d : D9) : NT9 (m_X11_copyRow_161_25  d) := by
  unfold m_X11_copyRow_161_25
  repeat (first | exact nt_rt | exact nt_none | exact n_J9_min_7cf53 _ _ _ | apply nt_if | refine nt_cl ?_ (fun _ _ => ?_) | refine nt_cp9 (fun _ => ?_))
abbrev z_X11_copyRow_162_26 : Z9 := (none, 0, 0, 0, 2, 200)
def m_X11_copyRow_162_26 (d : D9) : Option R9 := cl (m_J9_min_7cf53 12 12 d) (fun r1 d2 => cp9 d2 162 12 26 12 r1 (fun d3 => rt 0 d3))
set_option maxRecDepth 100000 in
theorem t_X11_copyRow_162_26 {G : G9} {l : Launch} (h1 : va_D (A9 G) (wl G (fun _ _ => 0))) (h2 : l.stackTraces = false) (d : D9) : MT G l yX11_copyRow cX11_copyRow 2 z_X11_copyRow_162_26 [rf G 162, rf G 26] d (m_X11_copyRow_162_26  d) := by
  refine mt_of (own := RX11) (by decide) rfl (Nat.le_of_ble_eq_true rfl) h1 h2 [(0, rf G 162), (1, rf G 26)] rfl (fun X hX C => ?_)
  unfold m_X11_copyRow_162_26
  refine r_aload_n C 0 dX11_copyRow_0 rfl rfl ?_
  refine r_iconst C dX11_copyRow_1 ?_
  refine r_aload_n C 1 dX11_copyRow_2 rfl rfl ?_
  refine r_iconst C dX11_copyRow_3 ?_
  refine r_aload_n C 0 dX11_copyRow_4 rfl rfl ?_
  refine r_alen C dX11_copyRow_5 la_162 ly_162 ?_
  refine r_aload_n C 1 dX11_copyRow_6 rfl rfl ?_
  refine r_alen C dX11_copyRow_7 la_26 ly_26 ?_
  refine r_callS C [i9 12, i9 12, i9 0, rf G 26, i9 0, rf G 162] dX11_copyRow_8 (t_J9_min_7cf53 C.h1 C.h2 12 12 d) mw_X11_465 ms_J9_min_7cf53 (by decide) (by decide) (by decide) rfl rfl (Nat.le_of_ble_eq_true rfl) (fun r1 d2 => ?_)
  show SS G X 2 _ _ 11 [(0, rf G 162), (1, rf G 26)] [i9 r1, i9 0, rf G 26, i9 0, rf G 162] d2 _
  refine r_acopy C dX11_copyRow_11 aw_X11_470 la_162 ly_162 la_26 ly_26 (by decide) (Nat.le_of_ble_eq_true rfl) (fun d3 => ?_)
  exact r_vret C dX11_copyRow_14 (by decide) (by decide)
theorem n_X11_copyRow_162_26 (d : D9) : NT9 (m_X11_copyRow_162_26  d) := by
  unfold m_X11_copyRow_162_26
  repeat (first | exact nt_rt | exact nt_none | exact n_J9_min_7cf53 _ _ _ | apply nt_if | refine nt_cl ?_ (fun _ _ => ?_) | refine nt_cp9 (fun _ => ?_))
abbrev z_X11_copyRow_163_27 : Z9 := (none, 0, 0, 0, 2, 200)
def m_X11_copyRow_163_27 (d : D9) : Option R9 := cl (m_J9_min_7cf53 12 12 d) (fun r1 d2 => cp9 d2 163 12 27 12 r1 (fun d3 => rt 0 d3))
set_option maxRecDepth 100000 in
theorem t_X11_copyRow_163_27 {G : G9} {l : Launch} (h1 : va_D (A9 G) (wl G (fun _ _ => 0))) (h2 : l.stackTraces = false) (d : D9) : MT G l yX11_copyRow cX11_copyRow 2 z_X11_copyRow_163_27 [rf G 163, rf G 27] d (m_X11_copyRow_163_27  d) := by
  refine mt_of (own := RX11) (by decide) rfl (Nat.le_of_ble_eq_true rfl) h1 h2 [(0, rf G 163), (1, rf G 27)] rfl (fun X hX C => ?_)
  unfold m_X11_copyRow_163_27
  refine r_aload_n C 0 dX11_copyRow_0 rfl rfl ?_
  refine r_iconst C dX11_copyRow_1 ?_
  refine r_aload_n C 1 dX11_copyRow_2 rfl rfl ?_
  refine r_iconst C dX11_copyRow_3 ?_
  refine r_aload_n C 0 dX11_copyRow_4 rfl rfl ?_
  refine r_alen C dX11_copyRow_5 la_163 ly_163 ?_
  refine r_aload_n C 1 dX11_copyRow_6 rfl rfl ?_
  refine r_alen C dX11_copyRow_7 la_27 ly_27 ?_
  refine r_callS C [i9 12, i9 12, i9 0, rf G 27, i9 0, rf G 163] dX11_copyRow_8 (t_J9_min_7cf53 C.h1 C.h2 12 12 d) mw_X11_465 ms_J9_min_7cf53 (by decide) (by decide) (by decide) rfl rfl (Nat.le_of_ble_eq_true rfl) (fun r1 d2 => ?_)
  show SS G X 2 _ _ 11 [(0, rf G 163), (1, rf G 27)] [i9 r1, i9 0, rf G 27, i9 0, rf G 163] d2 _
  refine r_acopy C dX11_copyRow_11 aw_X11_470 la_163 ly_163 la_27 ly_27 (by decide) (Nat.le_of_ble_eq_true rfl) (fun d3 => ?_)
  exact r_vret C dX11_copyRow_14 (by decide) (by decide)
theorem n_X11_copyRow_163_27 (d : D9) : NT9 (m_X11_copyRow_163_27  d) := by
  unfold m_X11_copyRow_163_27
  repeat (first | exact nt_rt | exact nt_none | exact n_J9_min_7cf53 _ _ _ | apply nt_if | refine nt_cl ?_ (fun _ _ => ?_) | refine nt_cp9 (fun _ => ?_))
abbrev z_X7_copyFrom_23_159 : Z9 := (none, 0, 0, 0, 3, 221)
def m_X7_copyFrom_23_159 (d : D9) : Option R9 := pf d 23 0 (d 159 0) (fun d1 => cl (m_X11_copyRow_160_24 d1) (fun r2 d3 => cl (m_X11_copyRow_161_25 d3) (fun r4 d5 => cl (m_X11_copyRow_162_26 d5) (fun r6 d7 => cl (m_X11_copyRow_163_27 d7) (fun r8 d9 => rt 0 d9)))))
set_option maxRecDepth 100000 in
theorem t_X7_copyFrom_23_159 {G : G9} {l : Launch} (h1 : va_D (A9 G) (wl G (fun _ _ => 0))) (h2 : l.stackTraces = false) (d : D9) : MT G l yX7_copyFrom cX7_copyFrom 2 z_X7_copyFrom_23_159 [rf G 23, rf G 159] d (m_X7_copyFrom_23_159  d) := by
  refine mt_of (own := RX7) (by decide) rfl (Nat.le_of_ble_eq_true rfl) h1 h2 [(0, rf G 23), (1, rf G 159)] rfl (fun X hX C => ?_)
  unfold m_X7_copyFrom_23_159
  refine r_aload_n C 0 dX7_copyFrom_0 rfl rfl ?_
  refine r_aload_n C 1 dX7_copyFrom_1 rfl rfl ?_
  refine r_getI C dX7_copyFrom_2 fl_X7_24 la_159 ly_159 rfl ?_
  refine r_putI C dX7_copyFrom_5 fp_X7_24 la_23 ly_23 rfl (fun d1 => ?_)
  refine r_aload_n C 1 dX7_copyFrom_8 rfl rfl ?_
  refine r_getR C 160 dX7_copyFrom_9 fl_X7_9 la_159 ly_159 rfl rfl ?_
  refine r_aload_n C 0 dX7_copyFrom_12 rfl rfl ?_
  refine r_getR C 24 dX7_copyFrom_13 fl_X7_9 la_23 ly_23 rfl rfl ?_
  refine r_callN C [rf G 24, rf G 160] dX7_copyFrom_16 (t_X11_copyRow_160_24 C.h1 C.h2 d1) (n_X11_copyRow_160_24 d1) mn_X7_28 ms_X11_copyRow (by decide) (by decide) (by decide) rfl rfl (Nat.le_of_ble_eq_true rfl) (fun r2 d3 => ?_)
  show SS G X 2 _ _ 19 [(0, rf G 23), (1, rf G 159)] [] d3 _
  refine r_aload_n C 1 dX7_copyFrom_19 rfl rfl ?_
  refine r_getR C 161 dX7_copyFrom_20 fl_X7_15 la_159 ly_159 rfl rfl ?_
  refine r_aload_n C 0 dX7_copyFrom_23 rfl rfl ?_
  refine r_getR C 25 dX7_copyFrom_24 fl_X7_15 la_23 ly_23 rfl rfl ?_
  refine r_callN C [rf G 25, rf G 161] dX7_copyFrom_27 (t_X11_copyRow_161_25 C.h1 C.h2 d3) (n_X11_copyRow_161_25 d3) mn_X7_28 ms_X11_copyRow (by decide) (by decide) (by decide) rfl rfl (Nat.le_of_ble_eq_true rfl) (fun r4 d5 => ?_)
  show SS G X 2 _ _ 30 [(0, rf G 23), (1, rf G 159)] [] d5 _
  refine r_aload_n C 1 dX7_copyFrom_30 rfl rfl ?_
  refine r_getR C 162 dX7_copyFrom_31 fl_X7_18 la_159 ly_159 rfl rfl ?_
  refine r_aload_n C 0 dX7_copyFrom_34 rfl rfl ?_
  refine r_getR C 26 dX7_copyFrom_35 fl_X7_18 la_23 ly_23 rfl rfl ?_
  refine r_callN C [rf G 26, rf G 162] dX7_copyFrom_38 (t_X11_copyRow_162_26 C.h1 C.h2 d5) (n_X11_copyRow_162_26 d5) mn_X7_28 ms_X11_copyRow (by decide) (by decide) (by decide) rfl rfl (Nat.le_of_ble_eq_true rfl) (fun r6 d7 => ?_)
  show SS G X 2 _ _ 41 [(0, rf G 23), (1, rf G 159)] [] d7 _
  refine r_aload_n C 1 dX7_copyFrom_41 rfl rfl ?_
  refine r_getR C 163 dX7_copyFrom_42 fl_X7_21 la_159 ly_159 rfl rfl ?_
  refine r_aload_n C 0 dX7_copyFrom_45 rfl rfl ?_
  refine r_getR C 27 dX7_copyFrom_46 fl_X7_21 la_23 ly_23 rfl rfl ?_
  refine r_callN C [rf G 27, rf G 163] dX7_copyFrom_49 (t_X11_copyRow_163_27 C.h1 C.h2 d7) (n_X11_copyRow_163_27 d7) mn_X7_28 ms_X11_copyRow (by decide) (by decide) (by decide) rfl rfl (Nat.le_of_ble_eq_true rfl) (fun r8 d9 => ?_)
  show SS G X 2 _ _ 52 [(0, rf G 23), (1, rf G 159)] [] d9 _
  exact r_vret C dX7_copyFrom_52 (by decide) (by decide)
abbrev z_X11_copyRow_165_29 : Z9 := (none, 0, 0, 0, 2, 200)
def m_X11_copyRow_165_29 (d : D9) : Option R9 := cl (m_J9_min_7cf53 12 12 d) (fun r1 d2 => cp9 d2 165 12 29 12 r1 (fun d3 => rt 0 d3))
set_option maxRecDepth 100000 in
theorem t_X11_copyRow_165_29 {G : G9} {l : Launch} (h1 : va_D (A9 G) (wl G (fun _ _ => 0))) (h2 : l.stackTraces = false) (d : D9) : MT G l yX11_copyRow cX11_copyRow 2 z_X11_copyRow_165_29 [rf G 165, rf G 29] d (m_X11_copyRow_165_29  d) := by
  refine mt_of (own := RX11) (by decide) rfl (Nat.le_of_ble_eq_true rfl) h1 h2 [(0, rf G 165), (1, rf G 29)] rfl (fun X hX C => ?_)
  unfold m_X11_copyRow_165_29
  refine r_aload_n C 0 dX11_copyRow_0 rfl rfl ?_
  refine r_iconst C dX11_copyRow_1 ?_
  refine r_aload_n C 1 dX11_copyRow_2 rfl rfl ?_
  refine r_iconst C dX11_copyRow_3 ?_
  refine r_aload_n C 0 dX11_copyRow_4 rfl rfl ?_
  refine r_alen C dX11_copyRow_5 la_165 ly_165 ?_
  refine r_aload_n C 1 dX11_copyRow_6 rfl rfl ?_
  refine r_alen C dX11_copyRow_7 la_29 ly_29 ?_
  refine r_callS C [i9 12, i9 12, i9 0, rf G 29, i9 0, rf G 165] dX11_copyRow_8 (t_J9_min_7cf53 C.h1 C.h2 12 12 d) mw_X11_465 ms_J9_min_7cf53 (by decide) (by decide) (by decide) rfl rfl (Nat.le_of_ble_eq_true rfl) (fun r1 d2 => ?_)
  show SS G X 2 _ _ 11 [(0, rf G 165), (1, rf G 29)] [i9 r1, i9 0, rf G 29, i9 0, rf G 165] d2 _
  refine r_acopy C dX11_copyRow_11 aw_X11_470 la_165 ly_165 la_29 ly_29 (by decide) (Nat.le_of_ble_eq_true rfl) (fun d3 => ?_)
  exact r_vret C dX11_copyRow_14 (by decide) (by decide)
theorem n_X11_copyRow_165_29 (d : D9) : NT9 (m_X11_copyRow_165_29  d) := by
  unfold m_X11_copyRow_165_29
  repeat (first | exact nt_rt | exact nt_none | exact n_J9_min_7cf53 _ _ _ | apply nt_if | refine nt_cl ?_ (fun _ _ => ?_) | refine nt_cp9 (fun _ => ?_))
abbrev z_X11_copyRow_166_30 : Z9 := (none, 0, 0, 0, 2, 200)
def m_X11_copyRow_166_30 (d : D9) : Option R9 := cl (m_J9_min_7cf53 12 12 d) (fun r1 d2 => cp9 d2 166 12 30 12 r1 (fun d3 => rt 0 d3))
set_option maxRecDepth 100000 in
theorem t_X11_copyRow_166_30 {G : G9} {l : Launch} (h1 : va_D (A9 G) (wl G (fun _ _ => 0))) (h2 : l.stackTraces = false) (d : D9) : MT G l yX11_copyRow cX11_copyRow 2 z_X11_copyRow_166_30 [rf G 166, rf G 30] d (m_X11_copyRow_166_30  d) := by
  refine mt_of (own := RX11) (by decide) rfl (Nat.le_of_ble_eq_true rfl) h1 h2 [(0, rf G 166), (1, rf G 30)] rfl (fun X hX C => ?_)
  unfold m_X11_copyRow_166_30
  refine r_aload_n C 0 dX11_copyRow_0 rfl rfl ?_
  refine r_iconst C dX11_copyRow_1 ?_
  refine r_aload_n C 1 dX11_copyRow_2 rfl rfl ?_
  refine r_iconst C dX11_copyRow_3 ?_
  refine r_aload_n C 0 dX11_copyRow_4 rfl rfl ?_
  refine r_alen C dX11_copyRow_5 la_166 ly_166 ?_
  refine r_aload_n C 1 dX11_copyRow_6 rfl rfl ?_
  refine r_alen C dX11_copyRow_7 la_30 ly_30 ?_
  refine r_callS C [i9 12, i9 12, i9 0, rf G 30, i9 0, rf G 166] dX11_copyRow_8 (t_J9_min_7cf53 C.h1 C.h2 12 12 d) mw_X11_465 ms_J9_min_7cf53 (by decide) (by decide) (by decide) rfl rfl (Nat.le_of_ble_eq_true rfl) (fun r1 d2 => ?_)
  show SS G X 2 _ _ 11 [(0, rf G 166), (1, rf G 30)] [i9 r1, i9 0, rf G 30, i9 0, rf G 166] d2 _
  refine r_acopy C dX11_copyRow_11 aw_X11_470 la_166 ly_166 la_30 ly_30 (by decide) (Nat.le_of_ble_eq_true rfl) (fun d3 => ?_)
  exact r_vret C dX11_copyRow_14 (by decide) (by decide)
theorem n_X11_copyRow_166_30 (d : D9) : NT9 (m_X11_copyRow_166_30  d) := by
  unfold m_X11_copyRow_166_30
  repeat (first | exact nt_rt | exact nt_none | exact n_J9_min_7cf53 _ _ _ | apply nt_if | refine nt_cl ?_ (fun _ _ => ?_) | refine nt_cp9 (fun _ => ?_))
abbrev z_X11_copyRow_167_31 : Z9 := (none, 0, 0, 0, 2, 200)
def m_X11_copyRow_167_31 (d : D9) : Option R9 := cl (m_J9_min_7cf53 12 12 d) (fun r1 d2 => cp9 d2 167 12 31 12 r1 (fun d3 => rt 0 d3))
set_option maxRecDepth 100000 in
theorem t_X11_copyRow_167_31 {G : G9} {l : Launch} (h1 : va_D (A9 G) (wl G (fun _ _ => 0))) (h2 : l.stackTraces = false) (d : D9) : MT G l yX11_copyRow cX11_copyRow 2 z_X11_copyRow_167_31 [rf G 167, rf G 31] d (m_X11_copyRow_167_31  d) := by
  refine mt_of (own := RX11) (by decide) rfl (Nat.le_of_ble_eq_true rfl) h1 h2 [(0, rf G 167), (1, rf G 31)] rfl (fun X hX C => ?_)
  unfold m_X11_copyRow_167_31
  refine r_aload_n C 0 dX11_copyRow_0 rfl rfl ?_
  refine r_iconst C dX11_copyRow_1 ?_
  refine r_aload_n C 1 dX11_copyRow_2 rfl rfl ?_
  refine r_iconst C dX11_copyRow_3 ?_
  refine r_aload_n C 0 dX11_copyRow_4 rfl rfl ?_
  refine r_alen C dX11_copyRow_5 la_167 ly_167 ?_
  refine r_aload_n C 1 dX11_copyRow_6 rfl rfl ?_
  refine r_alen C dX11_copyRow_7 la_31 ly_31 ?_
  refine r_callS C [i9 12, i9 12, i9 0, rf G 31, i9 0, rf G 167] dX11_copyRow_8 (t_J9_min_7cf53 C.h1 C.h2 12 12 d) mw_X11_465 ms_J9_min_7cf53 (by decide) (by decide) (by decide) rfl rfl (Nat.le_of_ble_eq_true rfl) (fun r1 d2 => ?_)
  show SS G X 2 _ _ 11 [(0, rf G 167), (1, rf G 31)] [i9 r1, i9 0, rf G 31, i9 0, rf G 167] d2 _
  refine r_acopy C dX11_copyRow_11 aw_X11_470 la_167 ly_167 la_31 ly_31 (by decide) (Nat.le_of_ble_eq_true rfl) (fun d3 => ?_)
  exact r_vret C dX11_copyRow_14 (by decide) (by decide)
theorem n_X11_copyRow_167_31 (d : D9) : NT9 (m_X11_copyRow_167_31  d) := by
  unfold m_X11_copyRow_167_31
  repeat (first | exact nt_rt | exact nt_none | exact n_J9_min_7cf53 _ _ _ | apply nt_if | refine nt_cl ?_ (fun _ _ => ?_) | refine nt_cp9 (fun _ => ?_))
abbrev z_X11_copyRow_168_32 : Z9 := (none, 0, 0, 0, 2, 200)
def m_X11_copyRow_168_32 (d : D9) : Option R9 := cl (m_J9_min_7cf53 400 400 d) (fun r1 d2 => cp9 d2 168 400 32 400 r1 (fun d3 => rt 0 d3))
set_option maxRecDepth 100000 in
theorem t_X11_copyRow_168_32 {G : G9} {l : Launch} (h1 : va_D (A9 G) (wl G (fun _ _ => 0))) (h2 : l.stackTraces = false) (d : D9) : MT G l yX11_copyRow cX11_copyRow 2 z_X11_copyRow_168_32 [rf G 168, rf G 32] d (m_X11_copyRow_168_32  d) := by
  refine mt_of (own := RX11) (by decide) rfl (Nat.le_of_ble_eq_true rfl) h1 h2 [(0, rf G 168), (1, rf G 32)] rfl (fun X hX C => ?_)
  unfold m_X11_copyRow_168_32
  refine r_aload_n C 0 dX11_copyRow_0 rfl rfl ?_
  refine r_iconst C dX11_copyRow_1 ?_
  refine r_aload_n C 1 dX11_copyRow_2 rfl rfl ?_
  refine r_iconst C dX11_copyRow_3 ?_
  refine r_aload_n C 0 dX11_copyRow_4 rfl rfl ?_
  refine r_alen C dX11_copyRow_5 la_168 ly_168 ?_
  refine r_aload_n C 1 dX11_copyRow_6 rfl rfl ?_
  refine r_alen C dX11_copyRow_7 la_32 ly_32 ?_
  refine r_callS C [i9 400, i9 400, i9 0, rf G 32, i9 0, rf G 168] dX11_copyRow_8 (t_J9_min_7cf53 C.h1 C.h2 400 400 d) mw_X11_465 ms_J9_min_7cf53 (by decide) (by decide) (by decide) rfl rfl (Nat.le_of_ble_eq_true rfl) (fun r1 d2 => ?_)
  show SS G X 2 _ _ 11 [(0, rf G 168), (1, rf G 32)] [i9 r1, i9 0, rf G 32, i9 0, rf G 168] d2 _
  refine r_acopy C dX11_copyRow_11 aw_X11_470 la_168 ly_168 la_32 ly_32 (by decide) (Nat.le_of_ble_eq_true rfl) (fun d3 => ?_)
  exact r_vret C dX11_copyRow_14 (by decide) (by decide)
theorem n_X11_copyRow_168_32 (d : D9) : NT9 (m_X11_copyRow_168_32  d) := by
  unfold m_X11_copyRow_168_32
  repeat (first | exact nt_rt | exact nt_none | exact n_J9_min_7cf53 _ _ _ | apply nt_if | refine nt_cl ?_ (fun _ _ => ?_) | refine nt_cp9 (fun _ => ?_))
abbrev z_X4_copyFrom_28_164 : Z9 := (none, 0, 0, 0, 3, 221)
def m_X4_copyFrom_28_164 (d : D9) : Option R9 := pf d 28 0 (d 164 0) (fun d1 => pf d1 28 1 (d1 164 1) (fun d2 => cl (m_X11_copyRow_165_29 d2) (fun r3 d4 => cl (m_X11_copyRow_166_30 d4) (fun r5 d6 => cl (m_X11_copyRow_167_31 d6) (fun r7 d8 => cl (m_X11_copyRow_168_32 d8) (fun r9 d10 => rt 0 d10))))))
set_option maxRecDepth 100000 in
theorem t_X4_copyFrom_28_164 {G : G9} {l : Launch} (h1 : va_D (A9 G) (wl G (fun _ _ => 0))) (h2 : l.stackTraces = false) (d : D9) : MT G l yX4_copyFrom cX4_copyFrom 2 z_X4_copyFrom_28_164 [rf G 28, rf G 164] d (m_X4_copyFrom_28_164  d) := by
  refine mt_of (own := RX4) (by decide) rfl (Nat.le_of_ble_eq_true rfl) h1 h2 [(0, rf G 28), (1, rf G 164)] rfl (fun X hX C => ?_)
  unfold m_X4_copyFrom_28_164
  refine r_aload_n C 0 dX4_copyFrom_0 rfl rfl ?_
  refine r_aload_n C 1 dX4_copyFrom_1 rfl rfl ?_
  refine r_getI C dX4_copyFrom_2 fl_X4_24 la_164 ly_164 rfl ?_
  refine r_putI C dX4_copyFrom_5 fp_X4_24 la_28 ly_28 rfl (fun d1 => ?_)
  refine r_aload_n C 0 dX4_copyFrom_8 rfl rfl ?_
  refine r_aload_n C 1 dX4_copyFrom_9 rfl rfl ?_
  refine r_getI C dX4_copyFrom_10 fl_X4_28 la_164 ly_164 rfl ?_
  refine r_putI C dX4_copyFrom_13 fp_X4_28 la_28 ly_28 rfl (fun d2 => ?_)
  refine r_aload_n C 1 dX4_copyFrom_16 rfl rfl ?_
  refine r_getR C 165 dX4_copyFrom_17 fl_X4_9 la_164 ly_164 rfl rfl ?_
  refine r_aload_n C 0 dX4_copyFrom_20 rfl rfl ?_
  refine r_getR C 29 dX4_copyFrom_21 fl_X4_9 la_28 ly_28 rfl rfl ?_
  refine r_callN C [rf G 29, rf G 165] dX4_copyFrom_24 (t_X11_copyRow_165_29 C.h1 C.h2 d2) (n_X11_copyRow_165_29 d2) mn_X4_31 ms_X11_copyRow (by decide) (by decide) (by decide) rfl rfl (Nat.le_of_ble_eq_true rfl) (fun r3 d4 => ?_)
  show SS G X 2 _ _ 27 [(0, rf G 28), (1, rf G 164)] [] d4 _
  refine r_aload_n C 1 dX4_copyFrom_27 rfl rfl ?_
  refine r_getR C 166 dX4_copyFrom_28 fl_X4_15 la_164 ly_164 rfl rfl ?_
  refine r_aload_n C 0 dX4_copyFrom_31 rfl rfl ?_
  refine r_getR C 30 dX4_copyFrom_32 fl_X4_15 la_28 ly_28 rfl rfl ?_
  refine r_callN C [rf G 30, rf G 166] dX4_copyFrom_35 (t_X11_copyRow_166_30 C.h1 C.h2 d4) (n_X11_copyRow_166_30 d4) mn_X4_31 ms_X11_copyRow (by decide) (by decide) (by decide) rfl rfl (Nat.le_of_ble_eq_true rfl) (fun r5 d6 => ?_)
  show SS G X 2 _ _ 38 [(0, rf G 28), (1, rf G 164)] [] d6 _
  refine r_aload_n C 1 dX4_copyFrom_38 rfl rfl ?_
  refine r_getR C 167 dX4_copyFrom_39 fl_X4_18 la_164 ly_164 rfl rfl ?_
  refine r_aload_n C 0 dX4_copyFrom_42 rfl rfl ?_
  refine r_getR C 31 dX4_copyFrom_43 fl_X4_18 la_28 ly_28 rfl rfl ?_
  refine r_callN C [rf G 31, rf G 167] dX4_copyFrom_46 (t_X11_copyRow_167_31 C.h1 C.h2 d6) (n_X11_copyRow_167_31 d6) mn_X4_31 ms_X11_copyRow (by decide) (by decide) (by decide) rfl rfl (Nat.le_of_ble_eq_true rfl) (fun r7 d8 => ?_)
  show SS G X 2 _ _ 49 [(0, rf G 28), (1, rf G 164)] [] d8 _
  refine r_aload_n C 1 dX4_copyFrom_49 rfl rfl ?_
  refine r_getR C 168 dX4_copyFrom_50 fl_X4_21 la_164 ly_164 rfl rfl ?_
  refine r_aload_n C 0 dX4_copyFrom_53 rfl rfl ?_
  refine r_getR C 32 dX4_copyFrom_54 fl_X4_21 la_28 ly_28 rfl rfl ?_
  refine r_callN C [rf G 32, rf G 168] dX4_copyFrom_57 (t_X11_copyRow_168_32 C.h1 C.h2 d8) (n_X11_copyRow_168_32 d8) mn_X4_31 ms_X11_copyRow (by decide) (by decide) (by decide) rfl rfl (Nat.le_of_ble_eq_true rfl) (fun r9 d10 => ?_)
  show SS G X 2 _ _ 60 [(0, rf G 28), (1, rf G 164)] [] d10 _
  exact r_vret C dX4_copyFrom_60 (by decide) (by decide)
abbrev z_X11_copyRow_170_34 : Z9 := (none, 0, 0, 0, 2, 200)
def m_X11_copyRow_170_34 (d : D9) : Option R9 := cl (m_J9_min_7cf53 40 40 d) (fun r1 d2 => cp9 d2 170 40 34 40 r1 (fun d3 => rt 0 d3))
set_option maxRecDepth 100000 in
theorem t_X11_copyRow_170_34 {G : G9} {l : Launch} (h1 : va_D (A9 G) (wl G (fun _ _ => 0))) (h2 : l.stackTraces = false) (d : D9) : MT G l yX11_copyRow cX11_copyRow 2 z_X11_copyRow_170_34 [rf G 170, rf G 34] d (m_X11_copyRow_170_34  d) := by
  refine mt_of (own := RX11) (by decide) rfl (Nat.le_of_ble_eq_true rfl) h1 h2 [(0, rf G 170), (1, rf G 34)] rfl (fun X hX C => ?_)
  unfold m_X11_copyRow_170_34
  refine r_aload_n C 0 dX11_copyRow_0 rfl rfl ?_
  refine r_iconst C dX11_copyRow_1 ?_
  refine r_aload_n C 1 dX11_copyRow_2 rfl rfl ?_
  refine r_iconst C dX11_copyRow_3 ?_
  refine r_aload_n C 0 dX11_copyRow_4 rfl rfl ?_
  refine r_alen C dX11_copyRow_5 la_170 ly_170 ?_
  refine r_aload_n C 1 dX11_copyRow_6 rfl rfl ?_
  refine r_alen C dX11_copyRow_7 la_34 ly_34 ?_
  refine r_callS C [i9 40, i9 40, i9 0, rf G 34, i9 0, rf G 170] dX11_copyRow_8 (t_J9_min_7cf53 C.h1 C.h2 40 40 d) mw_X11_465 ms_J9_min_7cf53 (by decide) (by decide) (by decide) rfl rfl (Nat.le_of_ble_eq_true rfl) (fun r1 d2 => ?_)
  show SS G X 2 _ _ 11 [(0, rf G 170), (1, rf G 34)] [i9 r1, i9 0, rf G 34, i9 0, rf G 170] d2 _
  refine r_acopy C dX11_copyRow_11 aw_X11_470 la_170 ly_170 la_34 ly_34 (by decide) (Nat.le_of_ble_eq_true rfl) (fun d3 => ?_)
  exact r_vret C dX11_copyRow_14 (by decide) (by decide)
theorem n_X11_copyRow_170_34 (d : D9) : NT9 (m_X11_copyRow_170_34  d) := by
  unfold m_X11_copyRow_170_34
  repeat (first | exact nt_rt | exact nt_none | exact n_J9_min_7cf53 _ _ _ | apply nt_if | refine nt_cl ?_ (fun _ _ => ?_) | refine nt_cp9 (fun _ => ?_))
abbrev z_X11_copyRow_171_35 : Z9 := (none, 0, 0, 0, 2, 200)
def m_X11_copyRow_171_35 (d : D9) : Option R9 := cl (m_J9_min_7cf53 200 200 d) (fun r1 d2 => cp9 d2 171 200 35 200 r1 (fun d3 => rt 0 d3))
set_option maxRecDepth 100000 in
theorem t_X11_copyRow_171_35 {G : G9} {l : Launch} (h1 : va_D (A9 G) (wl G (fun _ _ => 0))) (h2 : l.stackTraces = false) (d : D9) : MT G l yX11_copyRow cX11_copyRow 2 z_X11_copyRow_171_35 [rf G 171, rf G 35] d (m_X11_copyRow_171_35  d) := by
  refine mt_of (own := RX11) (by decide) rfl (Nat.le_of_ble_eq_true rfl) h1 h2 [(0, rf G 171), (1, rf G 35)] rfl (fun X hX C => ?_)
  unfold m_X11_copyRow_171_35
  refine r_aload_n C 0 dX11_copyRow_0 rfl rfl ?_
  refine r_iconst C dX11_copyRow_1 ?_
  refine r_aload_n C 1 dX11_copyRow_2 rfl rfl ?_
  refine r_iconst C dX11_copyRow_3 ?_
  refine r_aload_n C 0 dX11_copyRow_4 rfl rfl ?_
  refine r_alen C dX11_copyRow_5 la_171 ly_171 ?_
  refine r_aload_n C 1 dX11_copyRow_6 rfl rfl ?_
  refine r_alen C dX11_copyRow_7 la_35 ly_35 ?_
  refine r_callS C [i9 200, i9 200, i9 0, rf G 35, i9 0, rf G 171] dX11_copyRow_8 (t_J9_min_7cf53 C.h1 C.h2 200 200 d) mw_X11_465 ms_J9_min_7cf53 (by decide) (by decide) (by decide) rfl rfl (Nat.le_of_ble_eq_true rfl) (fun r1 d2 => ?_)
  show SS G X 2 _ _ 11 [(0, rf G 171), (1, rf G 35)] [i9 r1, i9 0, rf G 35, i9 0, rf G 171] d2 _
  refine r_acopy C dX11_copyRow_11 aw_X11_470 la_171 ly_171 la_35 ly_35 (by decide) (Nat.le_of_ble_eq_true rfl) (fun d3 => ?_)
  exact r_vret C dX11_copyRow_14 (by decide) (by decide)
theorem n_X11_copyRow_171_35 (d : D9) : NT9 (m_X11_copyRow_171_35  d) := by
  unfold m_X11_copyRow_171_35
  repeat (first | exact nt_rt | exact nt_none | exact n_J9_min_7cf53 _ _ _ | apply nt_if | refine nt_cl ?_ (fun _ _ => ?_) | refine nt_cp9 (fun _ => ?_))
abbrev z_X11_copyRow_172_36 : Z9 := (none, 0, 0, 0, 2, 200)
def m_X11_copyRow_172_36 (d : D9) : Option R9 := cl (m_J9_min_7cf53 5 5 d) (fun r1 d2 => cp9 d2 172 5 36 5 r1 (fun d3 => rt 0 d3))
set_option maxRecDepth 100000 in
theorem t_X11_copyRow_172_36 {G : G9} {l : Launch} (h1 : va_D (A9 G) (wl G (fun _ _ => 0))) (h2 : l.stackTraces = false) (d : D9) : MT G l yX11_copyRow cX11_copyRow 2 z_X11_copyRow_172_36 [rf G 172, rf G 36] d (m_X11_copyRow_172_36  d) := by
  refine mt_of (own := RX11) (by decide) rfl (Nat.le_of_ble_eq_true rfl) h1 h2 [(0, rf G 172), (1, rf G 36)] rfl (fun X hX C => ?_)
  unfold m_X11_copyRow_172_36
  refine r_aload_n C 0 dX11_copyRow_0 rfl rfl ?_
  refine r_iconst C dX11_copyRow_1 ?_
  refine r_aload_n C 1 dX11_copyRow_2 rfl rfl ?_
  refine r_iconst C dX11_copyRow_3 ?_
  refine r_aload_n C 0 dX11_copyRow_4 rfl rfl ?_
  refine r_alen C dX11_copyRow_5 la_172 ly_172 ?_
  refine r_aload_n C 1 dX11_copyRow_6 rfl rfl ?_
  refine r_alen C dX11_copyRow_7 la_36 ly_36 ?_
  refine r_callS C [i9 5, i9 5, i9 0, rf G 36, i9 0, rf G 172] dX11_copyRow_8 (t_J9_min_7cf53 C.h1 C.h2 5 5 d) mw_X11_465 ms_J9_min_7cf53 (by decide) (by decide) (by decide) rfl rfl (Nat.le_of_ble_eq_true rfl) (fun r1 d2 => ?_)
  show SS G X 2 _ _ 11 [(0, rf G 172), (1, rf G 36)] [i9 r1, i9 0, rf G 36, i9 0, rf G 172] d2 _
  refine r_acopy C dX11_copyRow_11 aw_X11_470 la_172 ly_172 la_36 ly_36 (by decide) (Nat.le_of_ble_eq_true rfl) (fun d3 => ?_)
  exact r_vret C dX11_copyRow_14 (by decide) (by decide)
theorem n_X11_copyRow_172_36 (d : D9) : NT9 (m_X11_copyRow_172_36  d) := by
  unfold m_X11_copyRow_172_36
  repeat (first | exact nt_rt | exact nt_none | exact n_J9_min_7cf53 _ _ _ | apply nt_if | refine nt_cl ?_ (fun _ _ => ?_) | refine nt_cp9 (fun _ => ?_))
abbrev z_X11_copyRow_173_37 : Z9 := (none, 0, 0, 0, 2, 200)
def m_X11_copyRow_173_37 (d : D9) : Option R9 := cl (m_J9_min_7cf53 5 5 d) (fun r1 d2 => cp9 d2 173 5 37 5 r1 (fun d3 => rt 0 d3))
set_option maxRecDepth 100000 in
theorem t_X11_copyRow_173_37 {G : G9} {l : Launch} (h1 : va_D (A9 G) (wl G (fun _ _ => 0))) (h2 : l.stackTraces = false) (d : D9) : MT G l yX11_copyRow cX11_copyRow 2 z_X11_copyRow_173_37 [rf G 173, rf G 37] d (m_X11_copyRow_173_37  d) := by
  refine mt_of (own := RX11) (by decide) rfl (Nat.le_of_ble_eq_true rfl) h1 h2 [(0, rf G 173), (1, rf G 37)] rfl (fun X hX C => ?_)
  unfold m_X11_copyRow_173_37
  refine r_aload_n C 0 dX11_copyRow_0 rfl rfl ?_
  refine r_iconst C dX11_copyRow_1 ?_
  refine r_aload_n C 1 dX11_copyRow_2 rfl rfl ?_
  refine r_iconst C dX11_copyRow_3 ?_
  refine r_aload_n C 0 dX11_copyRow_4 rfl rfl ?_
  refine r_alen C dX11_copyRow_5 la_173 ly_173 ?_
  refine r_aload_n C 1 dX11_copyRow_6 rfl rfl ?_
  refine r_alen C dX11_copyRow_7 la_37 ly_37 ?_
  refine r_callS C [i9 5, i9 5, i9 0, rf G 37, i9 0, rf G 173] dX11_copyRow_8 (t_J9_min_7cf53 C.h1 C.h2 5 5 d) mw_X11_465 ms_J9_min_7cf53 (by decide) (by decide) (by decide) rfl rfl (Nat.le_of_ble_eq_true rfl) (fun r1 d2 => ?_)
  show SS G X 2 _ _ 11 [(0, rf G 173), (1, rf G 37)] [i9 r1, i9 0, rf G 37, i9 0, rf G 173] d2 _
  refine r_acopy C dX11_copyRow_11 aw_X11_470 la_173 ly_173 la_37 ly_37 (by decide) (Nat.le_of_ble_eq_true rfl) (fun d3 => ?_)
  exact r_vret C dX11_copyRow_14 (by decide) (by decide)
theorem n_X11_copyRow_173_37 (d : D9) : NT9 (m_X11_copyRow_173_37  d) := by
  unfold m_X11_copyRow_173_37
  repeat (first | exact nt_rt | exact nt_none | exact n_J9_min_7cf53 _ _ _ | apply nt_if | refine nt_cl ?_ (fun _ _ => ?_) | refine nt_cp9 (fun _ => ?_))
abbrev z_X1_copyFrom_33_169 : Z9 := (none, 0, 0, 0, 3, 221)
def m_X1_copyFrom_33_169 (d : D9) : Option R9 := pf d 33 0 (d 169 0) (fun d1 => cl (m_X11_copyRow_170_34 d1) (fun r2 d3 => cl (m_X11_copyRow_171_35 d3) (fun r4 d5 => cl (m_X11_copyRow_172_36 d5) (fun r6 d7 => cl (m_X11_copyRow_173_37 d7) (fun r8 d9 => rt 0 d9)))))
set_option maxRecDepth 100000 in
theorem t_X1_copyFrom_33_169 {G : G9} {l : Launch} (h1 : va_D (A9 G) (wl G (fun _ _ => 0))) (h2 : l.stackTraces = false) (d : D9) : MT G l yX1_copyFrom cX1_copyFrom 2 z_X1_copyFrom_33_169 [rf G 33, rf G 169] d (m_X1_copyFrom_33_169  d) := by
  refine mt_of (own := RX1) (by decide) rfl (Nat.le_of_ble_eq_true rfl) h1 h2 [(0, rf G 33), (1, rf G 169)] rfl (fun X hX C => ?_)
  unfold m_X1_copyFrom_33_169
  refine r_aload_n C 0 dX1_copyFrom_0 rfl rfl ?_
  refine r_aload_n C 1 dX1_copyFrom_1 rfl rfl ?_
  refine r_getI C dX1_copyFrom_2 fl_X1_24 la_169 ly_169 rfl ?_
  refine r_putI C dX1_copyFrom_5 fp_X1_24 la_33 ly_33 rfl (fun d1 => ?_)
  refine r_aload_n C 1 dX1_copyFrom_8 rfl rfl ?_
  refine r_getR C 170 dX1_copyFrom_9 fl_X1_9 la_169 ly_169 rfl rfl ?_
  refine r_aload_n C 0 dX1_copyFrom_12 rfl rfl ?_
  refine r_getR C 34 dX1_copyFrom_13 fl_X1_9 la_33 ly_33 rfl rfl ?_
  refine r_callN C [rf G 34, rf G 170] dX1_copyFrom_16 (t_X11_copyRow_170_34 C.h1 C.h2 d1) (n_X11_copyRow_170_34 d1) mn_X1_28 ms_X11_copyRow (by decide) (by decide) (by decide) rfl rfl (Nat.le_of_ble_eq_true rfl) (fun r2 d3 => ?_)
  show SS G X 2 _ _ 19 [(0, rf G 33), (1, rf G 169)] [] d3 _
  refine r_aload_n C 1 dX1_copyFrom_19 rfl rfl ?_
  refine r_getR C 171 dX1_copyFrom_20 fl_X1_15 la_169 ly_169 rfl rfl ?_
  refine r_aload_n C 0 dX1_copyFrom_23 rfl rfl ?_
  refine r_getR C 35 dX1_copyFrom_24 fl_X1_15 la_33 ly_33 rfl rfl ?_
  refine r_callN C [rf G 35, rf G 171] dX1_copyFrom_27 (t_X11_copyRow_171_35 C.h1 C.h2 d3) (n_X11_copyRow_171_35 d3) mn_X1_28 ms_X11_copyRow (by decide) (by decide) (by decide) rfl rfl (Nat.le_of_ble_eq_true rfl) (fun r4 d5 => ?_)
  show SS G X 2 _ _ 30 [(0, rf G 33), (1, rf G 169)] [] d5 _
  refine r_aload_n C 1 dX1_copyFrom_30 rfl rfl ?_
  refine r_getR C 172 dX1_copyFrom_31 fl_X1_18 la_169 ly_169 rfl rfl ?_
  refine r_aload_n C 0 dX1_copyFrom_34 rfl rfl ?_
  refine r_getR C 36 dX1_copyFrom_35 fl_X1_18 la_33 ly_33 rfl rfl ?_
  refine r_callN C [rf G 36, rf G 172] dX1_copyFrom_38 (t_X11_copyRow_172_36 C.h1 C.h2 d5) (n_X11_copyRow_172_36 d5) mn_X1_28 ms_X11_copyRow (by decide) (by decide) (by decide) rfl rfl (Nat.le_of_ble_eq_true rfl) (fun r6 d7 => ?_)
  show SS G X 2 _ _ 41 [(0, rf G 33), (1, rf G 169)] [] d7 _
  refine r_aload_n C 1 dX1_copyFrom_41 rfl rfl ?_
  refine r_getR C 173 dX1_copyFrom_42 fl_X1_21 la_169 ly_169 rfl rfl ?_
  refine r_aload_n C 0 dX1_copyFrom_45 rfl rfl ?_
  refine r_getR C 37 dX1_copyFrom_46 fl_X1_21 la_33 ly_33 rfl rfl ?_
  refine r_callN C [rf G 37, rf G 173] dX1_copyFrom_49 (t_X11_copyRow_173_37 C.h1 C.h2 d7) (n_X11_copyRow_173_37 d7) mn_X1_28 ms_X11_copyRow (by decide) (by decide) (by decide) rfl rfl (Nat.le_of_ble_eq_true rfl) (fun r8 d9 => ?_)
  show SS G X 2 _ _ 52 [(0, rf G 33), (1, rf G 169)] [] d9 _
  exact r_vret C dX1_copyFrom_52 (by decide) (by decide)
abbrev z_X10_copyFrom_1_137 : Z9 := (none, 0, 0, 0, 4, 242)
def m_X10_copyFrom_1_137 (d : D9) : Option R9 := cl (m_X3_copyFrom_2_138 d) (fun r1 d2 => cl (m_X6_copyFrom_9_145 d2) (fun r3 d4 => cl (m_X2_copyFrom_22_158 d4) (fun r5 d6 => cl (m_X7_copyFrom_23_159 d6) (fun r7 d8 => cl (m_X4_copyFrom_28_164 d8) (fun r9 d10 => cl (m_X1_copyFrom_33_169 d10) (fun r11 d12 => rt 0 d12))))))
set_option maxRecDepth 100000 in
theorem t_X10_copyFrom_1_137 {G : G9} {l : Launch} (h1 : va_D (A9 G) (wl G (fun _ _ => 0))) (h2 : l.stackTraces = false) (d : D9) : MT G l yX10_copyFrom cX10_copyFrom 2 z_X10_copyFrom_1_137 [rf G 1, rf G 137] d (m_X10_copyFrom_1_137  d) := by
  refine mt_of (own := RX10) (by decide) rfl (Nat.le_of_ble_eq_true rfl) h1 h2 [(0, rf G 1), (1, rf G 137)] rfl (fun X hX C => ?_)
  unfold m_X10_copyFrom_1_137
  refine r_aload_n C 0 dX10_copyFrom_0 rfl rfl ?_
  refine r_getR C 2 dX10_copyFrom_1 fl_X10_12 la_1 ly_1 rfl rfl ?_
  refine r_aload_n C 1 dX10_copyFrom_4 rfl rfl ?_
  refine r_getR C 138 dX10_copyFrom_5 fl_X10_12 la_137 ly_137 rfl rfl ?_
  refine r_callV C [rf G 138, rf G 2] dX10_copyFrom_8 (t_X3_copyFrom_2_138 C.h1 C.h2 d) mw_X10_53 mv_X3_copyFrom la_2 ly_2 rfl (by decide) (by decide) (by decide) rfl rfl (Nat.le_of_ble_eq_true rfl) (fun r1 d2 => ?_)
  show SS G X 2 _ _ 11 [(0, rf G 1), (1, rf G 137)] [] d2 _
  refine r_aload_n C 0 dX10_copyFrom_11 rfl rfl ?_
  refine r_getR C 9 dX10_copyFrom_12 fl_X10_21 la_1 ly_1 rfl rfl ?_
  refine r_aload_n C 1 dX10_copyFrom_15 rfl rfl ?_
  refine r_getR C 145 dX10_copyFrom_16 fl_X10_21 la_137 ly_137 rfl rfl ?_
  refine r_callV C [rf G 145, rf G 9] dX10_copyFrom_19 (t_X6_copyFrom_9_145 C.h1 C.h2 d2) mw_X10_57 mv_X6_copyFrom la_9 ly_9 rfl (by decide) (by decide) (by decide) rfl rfl (Nat.le_of_ble_eq_true rfl) (fun r3 d4 => ?_)
  show SS G X 2 _ _ 22 [(0, rf G 1), (1, rf G 137)] [] d4 _
  refine r_aload_n C 0 dX10_copyFrom_22 rfl rfl ?_
  refine r_getR C 22 dX10_copyFrom_23 fl_X10_28 la_1 ly_1 rfl rfl ?_
  refine r_aload_n C 1 dX10_copyFrom_26 rfl rfl ?_
  refine r_getR C 158 dX10_copyFrom_27 fl_X10_28 la_137 ly_137 rfl rfl ?_
  refine r_callV C [rf G 158, rf G 22] dX10_copyFrom_30 (t_X2_copyFrom_22_158 C.h1 C.h2 d4) mw_X10_60 mv_X2_copyFrom la_22 ly_22 rfl (by decide) (by decide) (by decide) rfl rfl (Nat.le_of_ble_eq_true rfl) (fun r5 d6 => ?_)
  show SS G X 2 _ _ 33 [(0, rf G 1), (1, rf G 137)] [] d6 _
  refine r_aload_n C 0 dX10_copyFrom_33 rfl rfl ?_
  refine r_getR C 23 dX10_copyFrom_34 fl_X10_35 la_1 ly_1 rfl rfl ?_
  refine r_aload_n C 1 dX10_copyFrom_37 rfl rfl ?_
  refine r_getR C 159 dX10_copyFrom_38 fl_X10_35 la_137 ly_137 rfl rfl ?_
  refine r_callV C [rf G 159, rf G 23] dX10_copyFrom_41 (t_X7_copyFrom_23_159 C.h1 C.h2 d6) mw_X10_63 mv_X7_copyFrom la_23 ly_23 rfl (by decide) (by decide) (by decide) rfl rfl (Nat.le_of_ble_eq_true rfl) (fun r7 d8 => ?_)
  show SS G X 2 _ _ 44 [(0, rf G 1), (1, rf G 137)] [] d8 _
  refine r_aload_n C 0 dX10_copyFrom_44 rfl rfl ?_
  refine r_getR C 28 dX10_copyFrom_45 fl_X10_42 la_1 ly_1 rfl rfl ?_
  refine r_aload_n C 1 dX10_copyFrom_48 rfl rfl ?_
  refine r_getR C 164 dX10_copyFrom_49 fl_X10_42 la_137 ly_137 rfl rfl ?_
  refine r_callV C [rf G 164, rf G 28] dX10_copyFrom_52 (t_X4_copyFrom_28_164 C.h1 C.h2 d8) mw_X10_66 mv_X4_copyFrom la_28 ly_28 rfl (by decide) (by decide) (by decide) rfl rfl (Nat.le_of_ble_eq_true rfl) (fun r9 d10 => ?_)
  show SS G X 2 _ _ 55 [(0, rf G 1), (1, rf G 137)] [] d10 _
  refine r_aload_n C 0 dX10_copyFrom_55 rfl rfl ?_
  refine r_getR C 33 dX10_copyFrom_56 fl_X10_49 la_1 ly_1 rfl rfl ?_
  refine r_aload_n C 1 dX10_copyFrom_59 rfl rfl ?_
  refine r_getR C 169 dX10_copyFrom_60 fl_X10_49 la_137 ly_137 rfl rfl ?_
  refine r_callV C [rf G 169, rf G 33] dX10_copyFrom_63 (t_X1_copyFrom_33_169 C.h1 C.h2 d10) mw_X10_69 mv_X1_copyFrom la_33 ly_33 rfl (by decide) (by decide) (by decide) rfl rfl (Nat.le_of_ble_eq_true rfl) (fun r11 d12 => ?_)
  show SS G X 2 _ _ 66 [(0, rf G 1), (1, rf G 137)] [] d12 _
  exact r_vret C dX10_copyFrom_66 (by decide) (by decide)

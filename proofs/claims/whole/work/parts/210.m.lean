abbrev z_X11_copyRow_42_24 : Z9 := (none, 0, 0, 0, 2, 200)
def m_X11_copyRow_42_24 (d : D9) : Option R9 := cp9 d 42 12 24 12 (min9 12 12) (fun d1 => rt 0 d1)
set_option maxRecDepth 100000 in
theorem t_X11_copyRow_42_24 {G : G9} {l : Launch} (h1 : va_D (A9 G) (wl G (fun _ _ => 0))) (h2 : l.stackTraces = false) (d : D9) : MT G l yX11_copyRow cX11_copyRow 2 z_X11_copyRow_42_24 [rf G 42, rf G 24] d (m_X11_copyRow_42_24  d) := by
  refine mt_of (own := RX11) (by decide) rfl (Nat.le_of_ble_eq_true rfl) h1 h2 [(0, rf G 42), (1, rf G 24)] rfl (fun X hX C => ?_)
  unfold m_X11_copyRow_42_24
  refine r_aload_n C 0 dX11_copyRow_0 rfl rfl ?_
  refine r_iconst C dX11_copyRow_1 ?_
  refine r_aload_n C 1 dX11_copyRow_2 rfl rfl ?_
  refine r_iconst C dX11_copyRow_3 ?_
  refine r_aload_n C 0 dX11_copyRow_4 rfl rfl ?_
  refine r_alen C dX11_copyRow_5 la_42 ly_42 ?_
  refine r_aload_n C 1 dX11_copyRow_6 rfl rfl ?_
  refine r_alen C dX11_copyRow_7 la_24 ly_24 ?_
  refine r_mmin C dX11_copyRow_8 mm_X11_465 ⟨Nat.le_of_ble_eq_true rfl, Nat.le_of_ble_eq_true rfl⟩ (by decide) (by decide) ?_
  refine r_acopy C dX11_copyRow_11 aw_X11_470 la_42 ly_42 la_24 ly_24 (by decide) (Nat.le_of_ble_eq_true rfl) (fun d1 => ?_)
  exact r_vret C dX11_copyRow_14 (by decide) (by decide)
theorem n_X11_copyRow_42_24 (d : D9) : NT9 (m_X11_copyRow_42_24  d) := by
  unfold m_X11_copyRow_42_24
  repeat (first | exact nt_rt | exact nt_none | apply nt_if | refine nt_cl ?_ (fun _ _ => ?_) | refine nt_cp9 (fun _ => ?_))
abbrev z_X11_copyRow_43_25 : Z9 := (none, 0, 0, 0, 2, 200)
def m_X11_copyRow_43_25 (d : D9) : Option R9 := cp9 d 43 12 25 12 (min9 12 12) (fun d1 => rt 0 d1)
set_option maxRecDepth 100000 in
theorem t_X11_copyRow_43_25 {G : G9} {l : Launch} (h1 : va_D (A9 G) (wl G (fun _ _ => 0))) (h2 : l.stackTraces = false) (d : D9) : MT G l yX11_copyRow cX11_copyRow 2 z_X11_copyRow_43_25 [rf G 43, rf G 25] d (m_X11_copyRow_43_25  d) := by
  refine mt_of (own := RX11) (by decide) rfl (Nat.le_of_ble_eq_true rfl) h1 h2 [(0, rf G 43), (1, rf G 25)] rfl (fun X hX C => ?_)
  unfold m_X11_copyRow_43_25
  refine r_aload_n C 0 dX11_copyRow_0 rfl rfl ?_
  refine r_iconst C dX11_copyRow_1 ?_
  refine r_aload_n C 1 dX11_copyRow_2 rfl rfl ?_
  refine r_iconst C dX11_copyRow_3 ?_
  refine r_aload_n C 0 dX11_copyRow_4 rfl rfl ?_
  refine r_alen C dX11_copyRow_5 la_43 ly_43 ?_
  refine r_aload_n C 1 dX11_copyRow_6 rfl rfl ?_
  refine r_alen C dX11_copyRow_7 la_25 ly_25 ?_
  refine r_mmin C dX11_copyRow_8 mm_X11_465 ⟨Nat.le_of_ble_eq_true rfl, Nat.le_of_ble_eq_true rfl⟩ (by decide) (by decide) ?_
  refine r_acopy C dX11_copyRow_11 aw_X11_470 la_43 ly_43 la_25 ly_25 (by decide) (Nat.le_of_ble_eq_true rfl) (fun d1 => ?_)
  exact r_vret C dX11_copyRow_14 (by decide) (by decide)
theorem n_X11_copyRow_43_25 (d : D9) : NT9 (m_X11_copyRow_43_25  d) := by
  unfold m_X11_copyRow_43_25
  repeat (first | exact nt_rt | exact nt_none | apply nt_if | refine nt_cl ?_ (fun _ _ => ?_) | refine nt_cp9 (fun _ => ?_))
abbrev z_X11_copyRow_44_26 : Z9 := (none, 0, 0, 0, 2, 200)
def m_X11_copyRow_44_26 (d : D9) : Option R9 := cp9 d 44 12 26 12 (min9 12 12) (fun d1 => rt 0 d1)
set_option maxRecDepth 100000 in
theorem t_X11_copyRow_44_26 {G : G9} {l : Launch} (h1 : va_D (A9 G) (wl G (fun _ _ => 0))) (h2 : l.stackTraces = false) (d : D9) : MT G l yX11_copyRow cX11_copyRow 2 z_X11_copyRow_44_26 [rf G 44, rf G 26] d (m_X11_copyRow_44_26  d) := by
  refine mt_of (own := RX11) (by decide) rfl (Nat.le_of_ble_eq_true rfl) h1 h2 [(0, rf G 44), (1, rf G 26)] rfl (fun X hX C => ?_)
  unfold m_X11_copyRow_44_26
  refine r_aload_n C 0 dX11_copyRow_0 rfl rfl ?_
  refine r_iconst C dX11_copyRow_1 ?_
  refine r_aload_n C 1 dX11_copyRow_2 rfl rfl ?_
  refine r_iconst C dX11_copyRow_3 ?_
  refine r_aload_n C 0 dX11_copyRow_4 rfl rfl ?_
  refine r_alen C dX11_copyRow_5 la_44 ly_44 ?_
  refine r_aload_n C 1 dX11_copyRow_6 rfl rfl ?_
  refine r_alen C dX11_copyRow_7 la_26 ly_26 ?_
  refine r_mmin C dX11_copyRow_8 mm_X11_465 ⟨Nat.le_of_ble_eq_true rfl, Nat.le_of_ble_eq_true rfl⟩ (by decide) (by decide) ?_
  refine r_acopy C dX11_copyRow_11 aw_X11_470 la_44 ly_44 la_26 ly_26 (by decide) (Nat.le_of_ble_eq_true rfl) (fun d1 => ?_)
  exact r_vret C dX11_copyRow_14 (by decide) (by decide)
theorem n_X11_copyRow_44_26 (d : D9) : NT9 (m_X11_copyRow_44_26  d) := by
  unfold m_X11_copyRow_44_26
  repeat (first | exact nt_rt | exact nt_none | apply nt_if | refine nt_cl ?_ (fun _ _ => ?_) | refine nt_cp9 (fun _ => ?_))
abbrev z_X11_copyRow_45_27 : Z9 := (none, 0, 0, 0, 2, 200)
def m_X11_copyRow_45_27 (d : D9) : Option R9 := cp9 d 45 12 27 12 (min9 12 12) (fun d1 => rt 0 d1)
set_option maxRecDepth 100000 in
theorem t_X11_copyRow_45_27 {G : G9} {l : Launch} (h1 : va_D (A9 G) (wl G (fun _ _ => 0))) (h2 : l.stackTraces = false) (d : D9) : MT G l yX11_copyRow cX11_copyRow 2 z_X11_copyRow_45_27 [rf G 45, rf G 27] d (m_X11_copyRow_45_27  d) := by
  refine mt_of (own := RX11) (by decide) rfl (Nat.le_of_ble_eq_true rfl) h1 h2 [(0, rf G 45), (1, rf G 27)] rfl (fun X hX C => ?_)
  unfold m_X11_copyRow_45_27
  refine r_aload_n C 0 dX11_copyRow_0 rfl rfl ?_
  refine r_iconst C dX11_copyRow_1 ?_
  refine r_aload_n C 1 dX11_copyRow_2 rfl rfl ?_
  refine r_iconst C dX11_copyRow_3 ?_
  refine r_aload_n C 0 dX11_copyRow_4 rfl rfl ?_
  refine r_alen C dX11_copyRow_5 la_45 ly_45 ?_
  refine r_aload_n C 1 dX11_copyRow_6 rfl rfl ?_
  refine r_alen C dX11_copyRow_7 la_27 ly_27 ?_
  refine r_mmin C dX11_copyRow_8 mm_X11_465 ⟨Nat.le_of_ble_eq_true rfl, Nat.le_of_ble_eq_true rfl⟩ (by decide) (by decide) ?_
  refine r_acopy C dX11_copyRow_11 aw_X11_470 la_45 ly_45 la_27 ly_27 (by decide) (Nat.le_of_ble_eq_true rfl) (fun d1 => ?_)
  exact r_vret C dX11_copyRow_14 (by decide) (by decide)
theorem n_X11_copyRow_45_27 (d : D9) : NT9 (m_X11_copyRow_45_27  d) := by
  unfold m_X11_copyRow_45_27
  repeat (first | exact nt_rt | exact nt_none | apply nt_if | refine nt_cl ?_ (fun _ _ => ?_) | refine nt_cp9 (fun _ => ?_))
abbrev z_X7_copyFrom_23_41 : Z9 := (none, 0, 0, 0, 3, 221)
def m_X7_copyFrom_23_41 (d : D9) : Option R9 := pf d 23 0 (d 41 0) (fun d1 => cl (m_X11_copyRow_42_24 d1) (fun r2 d3 => cl (m_X11_copyRow_43_25 d3) (fun r4 d5 => cl (m_X11_copyRow_44_26 d5) (fun r6 d7 => cl (m_X11_copyRow_45_27 d7) (fun r8 d9 => rt 0 d9)))))
set_option maxRecDepth 100000 in
theorem t_X7_copyFrom_23_41 {G : G9} {l : Launch} (h1 : va_D (A9 G) (wl G (fun _ _ => 0))) (h2 : l.stackTraces = false) (d : D9) : MT G l yX7_copyFrom cX7_copyFrom 2 z_X7_copyFrom_23_41 [rf G 23, rf G 41] d (m_X7_copyFrom_23_41  d) := by
  refine mt_of (own := RX7) (by decide) rfl (Nat.le_of_ble_eq_true rfl) h1 h2 [(0, rf G 23), (1, rf G 41)] rfl (fun X hX C => ?_)
  unfold m_X7_copyFrom_23_41
  refine r_aload_n C 0 dX7_copyFrom_0 rfl rfl ?_
  refine r_aload_n C 1 dX7_copyFrom_1 rfl rfl ?_
  refine r_getI C dX7_copyFrom_2 fl_X7_24 la_41 ly_41 rfl ?_
  refine r_putI C dX7_copyFrom_5 fp_X7_24 la_23 ly_23 rfl (fun d1 => ?_)
  refine r_aload_n C 1 dX7_copyFrom_8 rfl rfl ?_
  refine r_getR C 42 dX7_copyFrom_9 fl_X7_9 la_41 ly_41 rfl rfl ?_
  refine r_aload_n C 0 dX7_copyFrom_12 rfl rfl ?_
  refine r_getR C 24 dX7_copyFrom_13 fl_X7_9 la_23 ly_23 rfl rfl ?_
  refine r_callN C [rf G 24, rf G 42] dX7_copyFrom_16 (t_X11_copyRow_42_24 C.h1 C.h2 d1) (n_X11_copyRow_42_24 d1) mn_X7_28 ms_X11_copyRow (by decide) (by decide) (by decide) rfl rfl (Nat.le_of_ble_eq_true rfl) (fun r2 d3 => ?_)
  show SS G X 2 _ _ 19 [(0, rf G 23), (1, rf G 41)] [] d3 _
  refine r_aload_n C 1 dX7_copyFrom_19 rfl rfl ?_
  refine r_getR C 43 dX7_copyFrom_20 fl_X7_15 la_41 ly_41 rfl rfl ?_
  refine r_aload_n C 0 dX7_copyFrom_23 rfl rfl ?_
  refine r_getR C 25 dX7_copyFrom_24 fl_X7_15 la_23 ly_23 rfl rfl ?_
  refine r_callN C [rf G 25, rf G 43] dX7_copyFrom_27 (t_X11_copyRow_43_25 C.h1 C.h2 d3) (n_X11_copyRow_43_25 d3) mn_X7_28 ms_X11_copyRow (by decide) (by decide) (by decide) rfl rfl (Nat.le_of_ble_eq_true rfl) (fun r4 d5 => ?_)
  show SS G X 2 _ _ 30 [(0, rf G 23), (1, rf G 41)] [] d5 _
  refine r_aload_n C 1 dX7_copyFrom_30 rfl rfl ?_
  refine r_getR C 44 dX7_copyFrom_31 fl_X7_18 la_41 ly_41 rfl rfl ?_
  refine r_aload_n C 0 dX7_copyFrom_34 rfl rfl ?_
  refine r_getR C 26 dX7_copyFrom_35 fl_X7_18 la_23 ly_23 rfl rfl ?_
  refine r_callN C [rf G 26, rf G 44] dX7_copyFrom_38 (t_X11_copyRow_44_26 C.h1 C.h2 d5) (n_X11_copyRow_44_26 d5) mn_X7_28 ms_X11_copyRow (by decide) (by decide) (by decide) rfl rfl (Nat.le_of_ble_eq_true rfl) (fun r6 d7 => ?_)
  show SS G X 2 _ _ 41 [(0, rf G 23), (1, rf G 41)] [] d7 _
  refine r_aload_n C 1 dX7_copyFrom_41 rfl rfl ?_
  refine r_getR C 45 dX7_copyFrom_42 fl_X7_21 la_41 ly_41 rfl rfl ?_
  refine r_aload_n C 0 dX7_copyFrom_45 rfl rfl ?_
  refine r_getR C 27 dX7_copyFrom_46 fl_X7_21 la_23 ly_23 rfl rfl ?_
  refine r_callN C [rf G 27, rf G 45] dX7_copyFrom_49 (t_X11_copyRow_45_27 C.h1 C.h2 d7) (n_X11_copyRow_45_27 d7) mn_X7_28 ms_X11_copyRow (by decide) (by decide) (by decide) rfl rfl (Nat.le_of_ble_eq_true rfl) (fun r8 d9 => ?_)
  show SS G X 2 _ _ 52 [(0, rf G 23), (1, rf G 41)] [] d9 _
  exact r_vret C dX7_copyFrom_52 (by decide) (by decide)
theorem dX11_stories_0 : decode cX11_stories 0 = .ok (.iload_n 1, 1) := by decide +kernel
theorem dX11_stories_1 : decode cX11_stories 1 = .ok (.iconst 0, 1) := by decide +kernel
theorem dX11_stories_2 : decode cX11_stories 2 = .ok (.aload_n 0, 1) := by decide +kernel
theorem dX11_stories_3 : decode cX11_stories 3 = .ok (.getfield 48, 3) := by decide +kernel
theorem dX11_stories_6 : decode cX11_stories 6 = .ok (.getfield 159, 3) := by decide +kernel
theorem dX11_stories_9 : decode cX11_stories 9 = .ok (.invokestatic 73, 3) := by decide +kernel
theorem dX11_stories_12 : decode cX11_stories 12 = .ok (.aload_n 0, 1) := by decide +kernel
theorem dX11_stories_13 : decode cX11_stories 13 = .ok (.getfield 48, 3) := by decide +kernel
theorem dX11_stories_16 : decode cX11_stories 16 = .ok (.iload_n 1, 1) := by decide +kernel
theorem dX11_stories_17 : decode cX11_stories 17 = .ok (.invokevirtual 166, 3) := by decide +kernel
theorem dX11_stories_20 : decode cX11_stories 20 = .ok (.aload_n 0, 1) := by decide +kernel
theorem dX11_stories_21 : decode cX11_stories 21 = .ok (.getfield 34, 3) := by decide +kernel
theorem dX11_stories_24 : decode cX11_stories 24 = .ok (.aload_n 0, 1) := by decide +kernel
theorem dX11_stories_25 : decode cX11_stories 25 = .ok (.getfield 48, 3) := by decide +kernel
theorem dX11_stories_28 : decode cX11_stories 28 = .ok (.invokevirtual 194, 3) := by decide +kernel
theorem dX11_stories_31 : decode cX11_stories 31 = .ok (.aload_n 0, 1) := by decide +kernel
theorem dX11_stories_32 : decode cX11_stories 32 = .ok (.getfield 48, 3) := by decide +kernel
theorem dX11_stories_35 : decode cX11_stories 35 = .ok (.invokevirtual 173, 3) := by decide +kernel
theorem dX11_stories_38 : decode cX11_stories 38 = .ok (.ifCond .eq 14, 3) := by decide +kernel
theorem dX11_stories_41 : decode cX11_stories 41 = .ok (.bipush (-10), 2) := by decide +kernel
theorem dX11_stories_43 : decode cX11_stories 43 = .ok (.aload_n 0, 1) := by decide +kernel
theorem dX11_stories_44 : decode cX11_stories 44 = .ok (.getfield 48, 3) := by decide +kernel
theorem dX11_stories_47 : decode cX11_stories 47 = .ok (.getfield 177, 3) := by decide +kernel
theorem dX11_stories_50 : decode cX11_stories 50 = .ok (.isub, 1) := by decide +kernel
theorem dX11_stories_51 : decode cX11_stories 51 = .ok (.ireturn, 1) := by decide +kernel
theorem dX11_stories_52 : decode cX11_stories 52 = .ok (.aload_n 0, 1) := by decide +kernel
theorem dX11_stories_53 : decode cX11_stories 53 = .ok (.getfield 10, 3) := by decide +kernel
theorem dX11_stories_56 : decode cX11_stories 56 = .ok (.getfield 195, 3) := by decide +kernel
theorem dX11_stories_59 : decode cX11_stories 59 = .ok (.aload_n 0, 1) := by decide +kernel
theorem dX11_stories_60 : decode cX11_stories 60 = .ok (.getfield 34, 3) := by decide +kernel
theorem dX11_stories_63 : decode cX11_stories 63 = .ok (.invokevirtual 198, 3) := by decide +kernel
theorem dX11_stories_66 : decode cX11_stories 66 = .ok (.aload_n 0, 1) := by decide +kernel
theorem dX11_stories_67 : decode cX11_stories 67 = .ok (.getfield 10, 3) := by decide +kernel
theorem dX11_stories_70 : decode cX11_stories 70 = .ok (.getfield 195, 3) := by decide +kernel
theorem dX11_stories_73 : decode cX11_stories 73 = .ok (.getfield 201, 3) := by decide +kernel
theorem dX11_stories_76 : decode cX11_stories 76 = .ok (.ireturn, 1) := by decide +kernel
abbrev z_X11_stories_0 : Z9 := (some .int, 1, 1, 6, 14, 384)
def m_X11_stories_0 (p1 : Int) (d : D9) : Option R9 := cl (m_X11_askWithin p1 0 (d 51 1) d) (fun r1 d2 => cl (m_X8_begin_51 p1 d2) (fun r3 d4 => cl (m_X7_readFrom_41_51 d4) (fun r5 d6 => cl (m_X8_failed_51 d6) (fun r7 d8 => if w32 r7 = 0 then cl (m_X7_copyFrom_23_41 d8) (fun r9 d10 => rt (d10 23 0) d10) else rt ((-10) - (d8 51 2)) d8))))
set_option maxRecDepth 100000 in
theorem t_X11_stories_0 {G : G9} {l : Launch} (h1 : va_D (A9 G) (wl G (fun _ _ => 0))) (h2 : l.stackTraces = false) (p1 : Int) (d : D9) : MT G l yX11_stories cX11_stories 2 z_X11_stories_0 [rf G 0, i9 p1] d (m_X11_stories_0 p1 d) := by
  refine mt_of (own := RX11) (by decide) rfl (Nat.le_of_ble_eq_true rfl) h1 h2 [(0, rf G 0), (1, i9 p1)] rfl (fun X hX C => ?_)
  unfold m_X11_stories_0
  refine r_iload_n C 1 dX11_stories_0 rfl rfl ?_
  refine r_iconst C dX11_stories_1 ?_
  refine r_aload_n C 0 dX11_stories_2 rfl rfl ?_
  refine r_getR C 51 dX11_stories_3 fl_X11_48 la_0 ly_0 rfl rfl ?_
  refine r_getI C dX11_stories_6 fl_X11_159 la_51 ly_51 rfl ?_
  refine r_callS C [i9 (d 51 1), i9 0, i9 p1] dX11_stories_9 (t_X11_askWithin C.h1 C.h2 p1 0 (d 51 1) d) mw_X11_73 ms_X11_askWithin (by decide) (by decide) (by decide) rfl rfl (Nat.le_of_ble_eq_true rfl) (fun r1 d2 => ?_)
  show SS G X 2 _ _ 12 [(0, rf G 0), (1, i9 p1)] [] d2 _
  refine r_aload_n C 0 dX11_stories_12 rfl rfl ?_
  refine r_getR C 51 dX11_stories_13 fl_X11_48 la_0 ly_0 rfl rfl ?_
  refine r_iload_n C 1 dX11_stories_16 rfl rfl ?_
  refine r_callV C [i9 p1, rf G 51] dX11_stories_17 (t_X8_begin_51 C.h1 C.h2 p1 d2) mw_X11_166 mv_X8_begin la_51 ly_51 rfl (by decide) (by decide) (by decide) rfl rfl (Nat.le_of_ble_eq_true rfl) (fun r3 d4 => ?_)
  show SS G X 2 _ _ 20 [(0, rf G 0), (1, i9 p1)] [] d4 _
  refine r_aload_n C 0 dX11_stories_20 rfl rfl ?_
  refine r_getR C 41 dX11_stories_21 fl_X11_34 la_0 ly_0 rfl rfl ?_
  refine r_aload_n C 0 dX11_stories_24 rfl rfl ?_
  refine r_getR C 51 dX11_stories_25 fl_X11_48 la_0 ly_0 rfl rfl ?_
  refine r_callV C [rf G 51, rf G 41] dX11_stories_28 (t_X7_readFrom_41_51 C.h1 C.h2 d4) mw_X11_194 mv_X7_readFrom la_41 ly_41 rfl (by decide) (by decide) (by decide) rfl rfl (Nat.le_of_ble_eq_true rfl) (fun r5 d6 => ?_)
  show SS G X 2 _ _ 31 [(0, rf G 0), (1, i9 p1)] [] d6 _
  refine r_aload_n C 0 dX11_stories_31 rfl rfl ?_
  refine r_getR C 51 dX11_stories_32 fl_X11_48 la_0 ly_0 rfl rfl ?_
  refine r_callV C [rf G 51] dX11_stories_35 (t_X8_failed_51 C.h1 C.h2 d6) mw_X11_173 mv_X8_failed la_51 ly_51 rfl (by decide) (by decide) (by decide) rfl rfl (Nat.le_of_ble_eq_true rfl) (fun r7 d8 => ?_)
  show SS G X 2 _ _ 38 [(0, rf G 0), (1, i9 p1)] [i9 r7] d8 _
  refine r_if_eq C (b := 0) 52 dX11_stories_38 (by decide) (fun _ => ?_) (fun _ => ?_)
  · refine r_aload_n C 0 dX11_stories_52 rfl rfl ?_
    refine r_getR C 1 dX11_stories_53 fl_X11_10 la_0 ly_0 rfl rfl ?_
    refine r_getR C 23 dX11_stories_56 fl_X11_195 la_1 ly_1 rfl rfl ?_
    refine r_aload_n C 0 dX11_stories_59 rfl rfl ?_
    refine r_getR C 41 dX11_stories_60 fl_X11_34 la_0 ly_0 rfl rfl ?_
    refine r_callV C [rf G 41, rf G 23] dX11_stories_63 (t_X7_copyFrom_23_41 C.h1 C.h2 d8) mw_X11_198 mv_X7_copyFrom la_23 ly_23 rfl (by decide) (by decide) (by decide) rfl rfl (Nat.le_of_ble_eq_true rfl) (fun r9 d10 => ?_)
    show SS G X 2 _ _ 66 [(0, rf G 0), (1, i9 p1)] [] d10 _
    refine r_aload_n C 0 dX11_stories_66 rfl rfl ?_
    refine r_getR C 1 dX11_stories_67 fl_X11_10 la_0 ly_0 rfl rfl ?_
    refine r_getR C 23 dX11_stories_70 fl_X11_195 la_1 ly_1 rfl rfl ?_
    refine r_getI C dX11_stories_73 fl_X11_201 la_23 ly_23 rfl ?_
    exact r_iret C dX11_stories_76 (by decide) (by decide)
  · refine r_bipush C dX11_stories_41 rfl ?_
    refine r_aload_n C 0 dX11_stories_43 rfl rfl ?_
    refine r_getR C 51 dX11_stories_44 fl_X11_48 la_0 ly_0 rfl rfl ?_
    refine r_getI C dX11_stories_47 fl_X11_177 la_51 ly_51 rfl ?_
    refine r_isub C dX11_stories_50 ?_
    exact r_iret C dX11_stories_51 (by decide) (by decide)
theorem dX11_stumps_0 : decode cX11_stumps 0 = .ok (.aload_n 0, 1) := by decide +kernel
theorem dX11_stumps_1 : decode cX11_stumps 1 = .ok (.iload_n 1, 1) := by decide +kernel
theorem dX11_stumps_2 : decode cX11_stumps 2 = .ok (.invokevirtual 87, 3) := by decide +kernel
theorem dX11_stumps_5 : decode cX11_stumps 5 = .ok (.iconst 0, 1) := by decide +kernel
theorem dX11_stumps_6 : decode cX11_stumps 6 = .ok (.istore_n 2, 1) := by decide +kernel
theorem dX11_stumps_7 : decode cX11_stumps 7 = .ok (.iconst 0, 1) := by decide +kernel
theorem dX11_stumps_8 : decode cX11_stumps 8 = .ok (.istore_n 3, 1) := by decide +kernel
theorem dX11_stumps_9 : decode cX11_stumps 9 = .ok (.iload_n 3, 1) := by decide +kernel
theorem dX11_stumps_10 : decode cX11_stumps 10 = .ok (.iconst 5, 1) := by decide +kernel
theorem dX11_stumps_11 : decode cX11_stumps 11 = .ok (.if_icmp .ge 36, 3) := by decide +kernel
theorem dX11_stumps_14 : decode cX11_stumps 14 = .ok (.aload_n 0, 1) := by decide +kernel
theorem dX11_stumps_15 : decode cX11_stumps 15 = .ok (.getfield 10, 3) := by decide +kernel
theorem dX11_stumps_18 : decode cX11_stumps 18 = .ok (.iload_n 1, 1) := by decide +kernel
theorem dX11_stumps_19 : decode cX11_stumps 19 = .ok (.iload_n 3, 1) := by decide +kernel
theorem dX11_stumps_20 : decode cX11_stumps 20 = .ok (.aload_n 0, 1) := by decide +kernel
theorem dX11_stumps_21 : decode cX11_stumps 21 = .ok (.getfield 10, 3) := by decide +kernel
theorem dX11_stumps_24 : decode cX11_stumps 24 = .ok (.iload_n 1, 1) := by decide +kernel
theorem dX11_stumps_25 : decode cX11_stumps 25 = .ok (.iload_n 3, 1) := by decide +kernel
theorem dX11_stumps_26 : decode cX11_stumps 26 = .ok (.invokevirtual 332, 3) := by decide +kernel
theorem dX11_stumps_29 : decode cX11_stumps 29 = .ok (.invokevirtual 335, 3) := by decide +kernel
theorem dX11_stumps_32 : decode cX11_stumps 32 = .ok (.ifCond .eq 9, 3) := by decide +kernel
theorem dX11_stumps_35 : decode cX11_stumps 35 = .ok (.iload_n 2, 1) := by decide +kernel
theorem dX11_stumps_36 : decode cX11_stumps 36 = .ok (.iconst 1, 1) := by decide +kernel
theorem dX11_stumps_37 : decode cX11_stumps 37 = .ok (.iload_n 3, 1) := by decide +kernel
theorem dX11_stumps_38 : decode cX11_stumps 38 = .ok (.ishl, 1) := by decide +kernel
theorem dX11_stumps_39 : decode cX11_stumps 39 = .ok (.ior, 1) := by decide +kernel
theorem dX11_stumps_40 : decode cX11_stumps 40 = .ok (.istore_n 2, 1) := by decide +kernel
theorem dX11_stumps_41 : decode cX11_stumps 41 = .ok (.iinc 3 1, 3) := by decide +kernel
theorem dX11_stumps_44 : decode cX11_stumps 44 = .ok (.goto (-35), 3) := by decide +kernel
theorem dX11_stumps_47 : decode cX11_stumps 47 = .ok (.iload_n 2, 1) := by decide +kernel
theorem dX11_stumps_48 : decode cX11_stumps 48 = .ok (.ireturn, 1) := by decide +kernel
abbrev z_X11_stumps_0 : Z9 := (some .int, 1, 2, 12, 8, 142)
def b_X11_stumps_0_c9 (k_X11_stumps_0_c9 : Int → Int → Int → D9 → Option R9) (v1 v2 v3 : Int) (d : D9) : Option R9 := if w32 5 ≤ w32 v3 then rt v2 d else cl (m_X10_dueOf_1 v1 v3 d) (fun r1 d2 => cl (m_X10_isStump_1 v1 v3 r1 d2) (fun r3 d4 => if w32 r3 = 0 then k_X11_stumps_0_c9 v1 v2 (v3 + 1) d4 else lt9v (or9 v2 (shl9 1 v3)) (fun a5 => k_X11_stumps_0_c9 v1 a5 (v3 + 1) d4)))
def m_X11_stumps_0_c9 : Int → Int → Int → D9 → Option R9 := fix9 (fun _ _ _ _ => none) (fun k => b_X11_stumps_0_c9 k) FU
def m_X11_stumps_0 (p1 : Int) (d : D9) : Option R9 := cl (m_X11_askHand_0 p1 d) (fun r1 d2 => m_X11_stumps_0_c9  p1 0 0 d2)
set_option maxRecDepth 100000 in
theorem sb_X11_stumps_0_c9 {G : G9} {X : X9} (C : CX G X cX11_stumps 4 RX11 [] z_X11_stumps_0) (k_X11_stumps_0_c9 : Int → Int → Int → D9 → Option R9) (hk_X11_stumps_0_c9 : ∀ (v1 v2 v3 : Int) (d : D9), SS G X 4 2 12 9 [(0, rf G 0), (1, i9 v1), (2, i9 v2), (3, i9 v3)] [] d (k_X11_stumps_0_c9 v1 v2 v3 d)) : ∀ (v1 v2 v3 : Int) (d : D9), SS G X 4 2 12 9 [(0, rf G 0), (1, i9 v1), (2, i9 v2), (3, i9 v3)] [] d (b_X11_stumps_0_c9 k_X11_stumps_0_c9 v1 v2 v3 d) := by
  intro v1 v2 v3 d
  unfold b_X11_stumps_0_c9
  refine r_iload_n C 3 dX11_stumps_9 rfl rfl ?_
  refine r_iconst C dX11_stumps_10 ?_
  refine r_icmp_ge C 47 dX11_stumps_11 (by decide) (fun _ => ?_) (fun _ => ?_)
  · refine r_iload_n C 2 dX11_stumps_47 rfl rfl ?_
    exact r_iret C dX11_stumps_48 (by decide) (by decide)
  · refine r_aload_n C 0 dX11_stumps_14 rfl rfl ?_
    refine r_getR C 1 dX11_stumps_15 fl_X11_10 la_0 ly_0 rfl rfl ?_
    refine r_iload_n C 1 dX11_stumps_18 rfl rfl ?_
    refine r_iload_n C 3 dX11_stumps_19 rfl rfl ?_
    refine r_aload_n C 0 dX11_stumps_20 rfl rfl ?_
    refine r_getR C 1 dX11_stumps_21 fl_X11_10 la_0 ly_0 rfl rfl ?_
    refine r_iload_n C 1 dX11_stumps_24 rfl rfl ?_
    refine r_iload_n C 3 dX11_stumps_25 rfl rfl ?_
    refine r_callV C [i9 v3, i9 v1, rf G 1, i9 v3, i9 v1, rf G 1] dX11_stumps_26 (t_X10_dueOf_1 C.h1 C.h2 v1 v3 d) mw_X11_332 mv_X10_dueOf la_1 ly_1 rfl (by decide) (by decide) (by decide) rfl rfl (Nat.le_of_ble_eq_true rfl) (fun r1 d2 => ?_)
    show SS G X 4 _ _ 29 [(0, rf G 0), (1, i9 v1), (2, i9 v2), (3, i9 v3)] [i9 r1, i9 v3, i9 v1, rf G 1] d2 _
    refine r_callV C [i9 r1, i9 v3, i9 v1, rf G 1] dX11_stumps_29 (t_X10_isStump_1 C.h1 C.h2 v1 v3 r1 d2) mw_X11_335 mv_X10_isStump la_1 ly_1 rfl (by decide) (by decide) (by decide) rfl rfl (Nat.le_of_ble_eq_true rfl) (fun r3 d4 => ?_)
    show SS G X 4 _ _ 32 [(0, rf G 0), (1, i9 v1), (2, i9 v2), (3, i9 v3)] [i9 r3] d4 _
    refine r_if_eq C (b := 0) 41 dX11_stumps_32 (by decide) (fun _ => ?_) (fun _ => ?_)
    · refine r_iinc C 3 [(3, i9 (v3 + 1)), (0, rf G 0), (1, i9 v1), (2, i9 v2)] dX11_stumps_41 rfl (by decide) rfl ?_
      refine r_goto C 9 dX11_stumps_44 (by decide) ?_
      refine ss_wide (k' := 2) (n' := 12) (by decide) (by decide) ?_
      refine ss_ls [(0, rf G 0), (1, i9 v1), (2, i9 v2), (3, i9 (v3 + 1))] [1, 2, 3, 0] rfl ?_
      exact hk_X11_stumps_0_c9 v1 v2 (v3 + 1) d4
    · refine r_iload_n C 2 dX11_stumps_35 rfl rfl ?_
      refine r_iconst C dX11_stumps_36 ?_
      refine r_iload_n C 3 dX11_stumps_37 rfl rfl ?_
      refine r_ishl C dX11_stumps_38 ?_
      refine r_ior C dX11_stumps_39 ?_
      refine ss_lt (fun a5 => ?_)
      refine r_istore_n C [(2, i9 a5), (0, rf G 0), (1, i9 v1), (3, i9 v3)] dX11_stumps_40 rfl (by decide) rfl ?_
      refine r_iinc C 3 [(3, i9 (v3 + 1)), (2, i9 a5), (0, rf G 0), (1, i9 v1)] dX11_stumps_41 rfl (by decide) rfl ?_
      refine r_goto C 9 dX11_stumps_44 (by decide) ?_
      refine ss_wide (k' := 2) (n' := 12) (by decide) (by decide) ?_
      refine ss_ls [(0, rf G 0), (1, i9 v1), (2, i9 a5), (3, i9 (v3 + 1))] [2, 3, 1, 0] rfl ?_
      exact hk_X11_stumps_0_c9 v1 a5 (v3 + 1) d4
theorem s_X11_stumps_0_c9 {G : G9} {X : X9} (C : CX G X cX11_stumps 4 RX11 [] z_X11_stumps_0) : ∀ (v1 v2 v3 : Int) (d : D9), SS G X 4 2 12 9 [(0, rf G 0), (1, i9 v1), (2, i9 v2), (3, i9 v3)] [] d (m_X11_stumps_0_c9  v1 v2 v3 d) :=
  fix9_ind (P := fun k => ∀ (v1 v2 v3 : Int) (d : D9), SS G X 4 2 12 9 [(0, rf G 0), (1, i9 v1), (2, i9 v2), (3, i9 v3)] [] d (k v1 v2 v3 d)) (fun _ _ _ _ => ss_none) (fun k hk => sb_X11_stumps_0_c9 C k hk) FU
set_option maxRecDepth 100000 in
theorem t_X11_stumps_0 {G : G9} {l : Launch} (h1 : va_D (A9 G) (wl G (fun _ _ => 0))) (h2 : l.stackTraces = false) (p1 : Int) (d : D9) : MT G l yX11_stumps cX11_stumps 4 z_X11_stumps_0 [rf G 0, i9 p1] d (m_X11_stumps_0 p1 d) := by
  refine mt_of (own := RX11) (by decide) rfl (Nat.le_of_ble_eq_true rfl) h1 h2 [(0, rf G 0), (1, i9 p1)] rfl (fun X hX C => ?_)
  unfold m_X11_stumps_0
  refine r_aload_n C 0 dX11_stumps_0 rfl rfl ?_
  refine r_iload_n C 1 dX11_stumps_1 rfl rfl ?_
  refine r_callV C [i9 p1, rf G 0] dX11_stumps_2 (t_X11_askHand_0 C.h1 C.h2 p1 d) mw_X11_87 mv_X11_askHand la_0 ly_0 rfl (by decide) (by decide) (by decide) rfl rfl (Nat.le_of_ble_eq_true rfl) (fun r1 d2 => ?_)
  show SS G X 4 _ _ 5 [(0, rf G 0), (1, i9 p1)] [] d2 _
  refine r_iconst C dX11_stumps_5 ?_
  refine r_istore_n C [(2, i9 0), (0, rf G 0), (1, i9 p1)] dX11_stumps_6 rfl (by decide) rfl ?_
  refine r_iconst C dX11_stumps_7 ?_
  refine r_istore_n C [(3, i9 0), (2, i9 0), (0, rf G 0), (1, i9 p1)] dX11_stumps_8 rfl (by decide) rfl ?_
  refine ss_wide (k' := 2) (n' := 12) (by decide) (by decide) ?_
  refine ss_ls [(0, rf G 0), (1, i9 p1), (2, i9 0), (3, i9 0)] [2, 3, 1, 0] rfl ?_
  exact s_X11_stumps_0_c9 C  p1 0 0 d2
theorem dX10_timesOf_0 : decode cX10_timesOf 0 = .ok (.aload_n 0, 1) := by decide +kernel
theorem dX10_timesOf_1 : decode cX10_timesOf 1 = .ok (.iload_n 1, 1) := by decide +kernel
theorem dX10_timesOf_2 : decode cX10_timesOf 2 = .ok (.invokevirtual 89, 3) := by decide +kernel
theorem dX10_timesOf_5 : decode cX10_timesOf 5 = .ok (.istore_n 3, 1) := by decide +kernel
theorem dX10_timesOf_6 : decode cX10_timesOf 6 = .ok (.iconst 0, 1) := by decide +kernel
theorem dX10_timesOf_7 : decode cX10_timesOf 7 = .ok (.istore 4, 2) := by decide +kernel
theorem dX10_timesOf_9 : decode cX10_timesOf 9 = .ok (.iconst (-1), 1) := by decide +kernel
theorem dX10_timesOf_10 : decode cX10_timesOf 10 = .ok (.istore 5, 2) := by decide +kernel
theorem dX10_timesOf_12 : decode cX10_timesOf 12 = .ok (.iconst (-1), 1) := by decide +kernel
theorem dX10_timesOf_13 : decode cX10_timesOf 13 = .ok (.istore 6, 2) := by decide +kernel
theorem dX10_timesOf_15 : decode cX10_timesOf 15 = .ok (.aload_n 0, 1) := by decide +kernel
theorem dX10_timesOf_16 : decode cX10_timesOf 16 = .ok (.iload_n 1, 1) := by decide +kernel
theorem dX10_timesOf_17 : decode cX10_timesOf 17 = .ok (.invokevirtual 86, 3) := by decide +kernel
theorem dX10_timesOf_20 : decode cX10_timesOf 20 = .ok (.istore 7, 2) := by decide +kernel
theorem dX10_timesOf_22 : decode cX10_timesOf 22 = .ok (.iload 7, 2) := by decide +kernel
theorem dX10_timesOf_24 : decode cX10_timesOf 24 = .ok (.iload_n 3, 1) := by decide +kernel
theorem dX10_timesOf_25 : decode cX10_timesOf 25 = .ok (.if_icmp .gt 41, 3) := by decide +kernel
theorem dX10_timesOf_28 : decode cX10_timesOf 28 = .ok (.aload_n 0, 1) := by decide +kernel
theorem dX10_timesOf_29 : decode cX10_timesOf 29 = .ok (.iload_n 1, 1) := by decide +kernel
theorem dX10_timesOf_30 : decode cX10_timesOf 30 = .ok (.iload 7, 2) := by decide +kernel
theorem dX10_timesOf_32 : decode cX10_timesOf 32 = .ok (.invokevirtual 193, 3) := by decide +kernel
theorem dX10_timesOf_35 : decode cX10_timesOf 35 = .ok (.ifCond .eq 25, 3) := by decide +kernel
theorem dX10_timesOf_38 : decode cX10_timesOf 38 = .ok (.iinc 4 1, 3) := by decide +kernel
theorem dX10_timesOf_41 : decode cX10_timesOf 41 = .ok (.iload 5, 2) := by decide +kernel
theorem dX10_timesOf_43 : decode cX10_timesOf 43 = .ok (.iconst (-1), 1) := by decide +kernel
theorem dX10_timesOf_44 : decode cX10_timesOf 44 = .ok (.if_icmp .ne 8, 3) := by decide +kernel
theorem dX10_timesOf_47 : decode cX10_timesOf 47 = .ok (.iload 7, 2) := by decide +kernel
theorem dX10_timesOf_49 : decode cX10_timesOf 49 = .ok (.goto 5, 3) := by decide +kernel
theorem dX10_timesOf_52 : decode cX10_timesOf 52 = .ok (.iload 5, 2) := by decide +kernel
theorem dX10_timesOf_54 : decode cX10_timesOf 54 = .ok (.istore 5, 2) := by decide +kernel
theorem dX10_timesOf_56 : decode cX10_timesOf 56 = .ok (.iload 7, 2) := by decide +kernel
theorem dX10_timesOf_58 : decode cX10_timesOf 58 = .ok (.istore 6, 2) := by decide +kernel
theorem dX10_timesOf_60 : decode cX10_timesOf 60 = .ok (.iinc 7 1, 3) := by decide +kernel
theorem dX10_timesOf_63 : decode cX10_timesOf 63 = .ok (.goto (-41), 3) := by decide +kernel
theorem dX10_timesOf_66 : decode cX10_timesOf 66 = .ok (.iload_n 2, 1) := by decide +kernel
theorem dX10_timesOf_67 : decode cX10_timesOf 67 = .ok (.ifCond .ne 6, 3) := by decide +kernel
theorem dX10_timesOf_70 : decode cX10_timesOf 70 = .ok (.iload 4, 2) := by decide +kernel
theorem dX10_timesOf_72 : decode cX10_timesOf 72 = .ok (.ireturn, 1) := by decide +kernel
theorem dX10_timesOf_73 : decode cX10_timesOf 73 = .ok (.iload_n 2, 1) := by decide +kernel
theorem dX10_timesOf_74 : decode cX10_timesOf 74 = .ok (.iconst 1, 1) := by decide +kernel
theorem dX10_timesOf_75 : decode cX10_timesOf 75 = .ok (.if_icmp .ne 8, 3) := by decide +kernel
theorem dX10_timesOf_78 : decode cX10_timesOf 78 = .ok (.iload 5, 2) := by decide +kernel
theorem dX10_timesOf_80 : decode cX10_timesOf 80 = .ok (.goto 5, 3) := by decide +kernel
theorem dX10_timesOf_83 : decode cX10_timesOf 83 = .ok (.iload 6, 2) := by decide +kernel
theorem dX10_timesOf_85 : decode cX10_timesOf 85 = .ok (.ireturn, 1) := by decide +kernel
abbrev z_X10_timesOf_1 : Z9 := (some .int, 1, 0, 0, 5, 105)
def b_X10_timesOf_1_c22 (k_X10_timesOf_1_c22 : Int → Int → Int → Int → Int → Int → Int → D9 → Option R9) (v1 v2 v3 v4 v5 v6 v7 : Int) (d : D9) : Option R9 := if w32 v3 < w32 v7 then if w32 v2 ≠ 0 then if w32 v2 ≠ w32 1 then rt v6 d else rt v5 d else rt v4 d else cl (m_X10_livesAt_1 v1 v7 d) (fun r1 d2 => if w32 r1 = 0 then k_X10_timesOf_1_c22 v1 v2 v3 v4 v5 v6 (v7 + 1) d2 else if w32 v5 ≠ w32 (-1) then k_X10_timesOf_1_c22 v1 v2 v3 (v4 + 1) v5 v7 (v7 + 1) d2 else k_X10_timesOf_1_c22 v1 v2 v3 (v4 + 1) v7 v7 (v7 + 1) d2)
def m_X10_timesOf_1_c22 : Int → Int → Int → Int → Int → Int → Int → D9 → Option R9 := fix9 (fun _ _ _ _ _ _ _ _ => none) (fun k => b_X10_timesOf_1_c22 k) FU
def m_X10_timesOf_1 (p1 p2 : Int) (d : D9) : Option R9 := cl (m_X10_mostOf_1 p1 d) (fun r1 d2 => cl (m_X10_leastOf_1 p1 d2) (fun r3 d4 => m_X10_timesOf_1_c22  p1 p2 r1 0 (-1) (-1) r3 d4))
set_option maxRecDepth 100000 in
theorem sb_X10_timesOf_1_c22 {G : G9} {X : X9} (C : CX G X cX10_timesOf 8 RX10 [] z_X10_timesOf_1) (k_X10_timesOf_1_c22 : Int → Int → Int → Int → Int → Int → Int → D9 → Option R9) (hk_X10_timesOf_1_c22 : ∀ (v1 v2 v3 v4 v5 v6 v7 : Int) (d : D9), SS G X 8 0 0 22 [(0, rf G 1), (1, i9 v1), (2, i9 v2), (3, i9 v3), (4, i9 v4), (5, i9 v5), (6, i9 v6), (7, i9 v7)] [] d (k_X10_timesOf_1_c22 v1 v2 v3 v4 v5 v6 v7 d)) : ∀ (v1 v2 v3 v4 v5 v6 v7 : Int) (d : D9), SS G X 8 0 0 22 [(0, rf G 1), (1, i9 v1), (2, i9 v2), (3, i9 v3), (4, i9 v4), (5, i9 v5), (6, i9 v6), (7, i9 v7)] [] d (b_X10_timesOf_1_c22 k_X10_timesOf_1_c22 v1 v2 v3 v4 v5 v6 v7 d) := by
  intro v1 v2 v3 v4 v5 v6 v7 d
  unfold b_X10_timesOf_1_c22
  refine r_iload C 7 dX10_timesOf_22 rfl ?_
  refine r_iload_n C 3 dX10_timesOf_24 rfl rfl ?_
  refine r_icmp_gt C 66 dX10_timesOf_25 (by decide) (fun _ => ?_) (fun _ => ?_)
  · refine r_iload_n C 2 dX10_timesOf_66 rfl rfl ?_
    refine r_if_ne C (b := 0) 73 dX10_timesOf_67 (by decide) (fun _ => ?_) (fun _ => ?_)
    · refine r_iload_n C 2 dX10_timesOf_73 rfl rfl ?_
      refine r_iconst C dX10_timesOf_74 ?_
      refine r_icmp_ne C 83 dX10_timesOf_75 (by decide) (fun _ => ?_) (fun _ => ?_)
      · refine r_iload C 6 dX10_timesOf_83 rfl ?_
        exact r_iret C dX10_timesOf_85 (by decide) (by decide)
      · refine r_iload C 5 dX10_timesOf_78 rfl ?_
        refine r_goto C 85 dX10_timesOf_80 (by decide) ?_
        exact r_iret C dX10_timesOf_85 (by decide) (by decide)
    · refine r_iload C 4 dX10_timesOf_70 rfl ?_
      exact r_iret C dX10_timesOf_72 (by decide) (by decide)
  · refine r_aload_n C 0 dX10_timesOf_28 rfl rfl ?_
    refine r_iload_n C 1 dX10_timesOf_29 rfl rfl ?_
    refine r_iload C 7 dX10_timesOf_30 rfl ?_
    refine r_callV C [i9 v7, i9 v1, rf G 1] dX10_timesOf_32 (t_X10_livesAt_1 C.h1 C.h2 v1 v7 d) mw_X10_193 mv_X10_livesAt la_1 ly_1 rfl (by decide) (by decide) (by decide) rfl rfl (Nat.le_of_ble_eq_true rfl) (fun r1 d2 => ?_)
    show SS G X 8 _ _ 35 [(0, rf G 1), (1, i9 v1), (2, i9 v2), (3, i9 v3), (4, i9 v4), (5, i9 v5), (6, i9 v6), (7, i9 v7)] [i9 r1] d2 _
    refine r_if_eq C (b := 0) 60 dX10_timesOf_35 (by decide) (fun _ => ?_) (fun _ => ?_)
    · refine r_iinc C 7 [(7, i9 (v7 + 1)), (0, rf G 1), (1, i9 v1), (2, i9 v2), (3, i9 v3), (4, i9 v4), (5, i9 v5), (6, i9 v6)] dX10_timesOf_60 rfl (by decide) rfl ?_
      refine r_goto C 22 dX10_timesOf_63 (by decide) ?_
      refine ss_wide (k' := 0) (n' := 0) (by decide) (by decide) ?_
      refine ss_ls [(0, rf G 1), (1, i9 v1), (2, i9 v2), (3, i9 v3), (4, i9 v4), (5, i9 v5), (6, i9 v6), (7, i9 (v7 + 1))] [1, 2, 3, 4, 5, 6, 7, 0] rfl ?_
      exact hk_X10_timesOf_1_c22 v1 v2 v3 v4 v5 v6 (v7 + 1) d2
    · refine r_iinc C 4 [(4, i9 (v4 + 1)), (0, rf G 1), (1, i9 v1), (2, i9 v2), (3, i9 v3), (5, i9 v5), (6, i9 v6), (7, i9 v7)] dX10_timesOf_38 rfl (by decide) rfl ?_
      refine r_iload C 5 dX10_timesOf_41 rfl ?_
      refine r_iconst C dX10_timesOf_43 ?_
      refine r_icmp_ne C 52 dX10_timesOf_44 (by decide) (fun _ => ?_) (fun _ => ?_)
      · refine r_iload C 5 dX10_timesOf_52 rfl ?_
        refine r_istore C [(5, i9 v5), (4, i9 (v4 + 1)), (0, rf G 1), (1, i9 v1), (2, i9 v2), (3, i9 v3), (6, i9 v6), (7, i9 v7)] dX10_timesOf_54 (by decide) rfl ?_
        refine r_iload C 7 dX10_timesOf_56 rfl ?_
        refine r_istore C [(6, i9 v7), (5, i9 v5), (4, i9 (v4 + 1)), (0, rf G 1), (1, i9 v1), (2, i9 v2), (3, i9 v3), (7, i9 v7)] dX10_timesOf_58 (by decide) rfl ?_
        refine r_iinc C 7 [(7, i9 (v7 + 1)), (6, i9 v7), (5, i9 v5), (4, i9 (v4 + 1)), (0, rf G 1), (1, i9 v1), (2, i9 v2), (3, i9 v3)] dX10_timesOf_60 rfl (by decide) rfl ?_
        refine r_goto C 22 dX10_timesOf_63 (by decide) ?_
        refine ss_wide (k' := 0) (n' := 0) (by decide) (by decide) ?_
        refine ss_ls [(0, rf G 1), (1, i9 v1), (2, i9 v2), (3, i9 v3), (4, i9 (v4 + 1)), (5, i9 v5), (6, i9 v7), (7, i9 (v7 + 1))] [4, 5, 6, 7, 3, 2, 1, 0] rfl ?_
        exact hk_X10_timesOf_1_c22 v1 v2 v3 (v4 + 1) v5 v7 (v7 + 1) d2
      · refine r_iload C 7 dX10_timesOf_47 rfl ?_
        refine r_goto C 54 dX10_timesOf_49 (by decide) ?_
        refine r_istore C [(5, i9 v7), (4, i9 (v4 + 1)), (0, rf G 1), (1, i9 v1), (2, i9 v2), (3, i9 v3), (6, i9 v6), (7, i9 v7)] dX10_timesOf_54 (by decide) rfl ?_
        refine r_iload C 7 dX10_timesOf_56 rfl ?_
        refine r_istore C [(6, i9 v7), (5, i9 v7), (4, i9 (v4 + 1)), (0, rf G 1), (1, i9 v1), (2, i9 v2), (3, i9 v3), (7, i9 v7)] dX10_timesOf_58 (by decide) rfl ?_
        refine r_iinc C 7 [(7, i9 (v7 + 1)), (6, i9 v7), (5, i9 v7), (4, i9 (v4 + 1)), (0, rf G 1), (1, i9 v1), (2, i9 v2), (3, i9 v3)] dX10_timesOf_60 rfl (by decide) rfl ?_
        refine r_goto C 22 dX10_timesOf_63 (by decide) ?_
        refine ss_wide (k' := 0) (n' := 0) (by decide) (by decide) ?_
        refine ss_ls [(0, rf G 1), (1, i9 v1), (2, i9 v2), (3, i9 v3), (4, i9 (v4 + 1)), (5, i9 v7), (6, i9 v7), (7, i9 (v7 + 1))] [4, 5, 6, 7, 3, 2, 1, 0] rfl ?_
        exact hk_X10_timesOf_1_c22 v1 v2 v3 (v4 + 1) v7 v7 (v7 + 1) d2
theorem s_X10_timesOf_1_c22 {G : G9} {X : X9} (C : CX G X cX10_timesOf 8 RX10 [] z_X10_timesOf_1) : ∀ (v1 v2 v3 v4 v5 v6 v7 : Int) (d : D9), SS G X 8 0 0 22 [(0, rf G 1), (1, i9 v1), (2, i9 v2), (3, i9 v3), (4, i9 v4), (5, i9 v5), (6, i9 v6), (7, i9 v7)] [] d (m_X10_timesOf_1_c22  v1 v2 v3 v4 v5 v6 v7 d) :=
  fix9_ind (P := fun k => ∀ (v1 v2 v3 v4 v5 v6 v7 : Int) (d : D9), SS G X 8 0 0 22 [(0, rf G 1), (1, i9 v1), (2, i9 v2), (3, i9 v3), (4, i9 v4), (5, i9 v5), (6, i9 v6), (7, i9 v7)] [] d (k v1 v2 v3 v4 v5 v6 v7 d)) (fun _ _ _ _ _ _ _ _ => ss_none) (fun k hk => sb_X10_timesOf_1_c22 C k hk) FU
set_option maxRecDepth 100000 in
theorem t_X10_timesOf_1 {G : G9} {l : Launch} (h1 : va_D (A9 G) (wl G (fun _ _ => 0))) (h2 : l.stackTraces = false) (p1 p2 : Int) (d : D9) : MT G l yX10_timesOf cX10_timesOf 8 z_X10_timesOf_1 [rf G 1, i9 p1, i9 p2] d (m_X10_timesOf_1 p1 p2 d) := by
  refine mt_of (own := RX10) (by decide) rfl (Nat.le_of_ble_eq_true rfl) h1 h2 [(0, rf G 1), (1, i9 p1), (2, i9 p2)] rfl (fun X hX C => ?_)
  unfold m_X10_timesOf_1
  refine r_aload_n C 0 dX10_timesOf_0 rfl rfl ?_
  refine r_iload_n C 1 dX10_timesOf_1 rfl rfl ?_
  refine r_callV C [i9 p1, rf G 1] dX10_timesOf_2 (t_X10_mostOf_1 C.h1 C.h2 p1 d) mw_X10_89 mv_X10_mostOf la_1 ly_1 rfl (by decide) (by decide) (by decide) rfl rfl (Nat.le_of_ble_eq_true rfl) (fun r1 d2 => ?_)
  show SS G X 8 _ _ 5 [(0, rf G 1), (1, i9 p1), (2, i9 p2)] [i9 r1] d2 _
  refine r_istore_n C [(3, i9 r1), (0, rf G 1), (1, i9 p1), (2, i9 p2)] dX10_timesOf_5 rfl (by decide) rfl ?_
  refine r_iconst C dX10_timesOf_6 ?_
  refine r_istore C [(4, i9 0), (3, i9 r1), (0, rf G 1), (1, i9 p1), (2, i9 p2)] dX10_timesOf_7 (by decide) rfl ?_
  refine r_iconst C dX10_timesOf_9 ?_
  refine r_istore C [(5, i9 (-1)), (4, i9 0), (3, i9 r1), (0, rf G 1), (1, i9 p1), (2, i9 p2)] dX10_timesOf_10 (by decide) rfl ?_
  refine r_iconst C dX10_timesOf_12 ?_
  refine r_istore C [(6, i9 (-1)), (5, i9 (-1)), (4, i9 0), (3, i9 r1), (0, rf G 1), (1, i9 p1), (2, i9 p2)] dX10_timesOf_13 (by decide) rfl ?_
  refine r_aload_n C 4 dX10_timesOf_15 rfl rfl ?_
  refine r_iload_n C 5 dX10_timesOf_16 rfl rfl ?_
  refine r_callV C [i9 p1, rf G 1] dX10_timesOf_17 (t_X10_leastOf_1 C.h1 C.h2 p1 d2) mw_X10_86 mv_X10_leastOf la_1 ly_1 rfl (by decide) (by decide) (by decide) rfl rfl (Nat.le_of_ble_eq_true rfl) (fun r3 d4 => ?_)
  show SS G X 8 _ _ 20 [(6, i9 (-1)), (5, i9 (-1)), (4, i9 0), (3, i9 r1), (0, rf G 1), (1, i9 p1), (2, i9 p2)] [i9 r3] d4 _
  refine r_istore C [(7, i9 r3), (6, i9 (-1)), (5, i9 (-1)), (4, i9 0), (3, i9 r1), (0, rf G 1), (1, i9 p1), (2, i9 p2)] dX10_timesOf_20 (by decide) rfl ?_
  refine ss_wide (k' := 0) (n' := 0) (by decide) (by decide) ?_
  refine ss_ls [(0, rf G 1), (1, i9 p1), (2, i9 p2), (3, i9 r1), (4, i9 0), (5, i9 (-1)), (6, i9 (-1)), (7, i9 r3)] [5, 6, 7, 4, 3, 2, 1, 0] rfl ?_
  exact s_X10_timesOf_1_c22 C  p1 p2 r1 0 (-1) (-1) r3 d4
theorem dX11_times_0 : decode cX11_times 0 = .ok (.aload_n 0, 1) := by decide +kernel
theorem dX11_times_1 : decode cX11_times 1 = .ok (.iload_n 1, 1) := by decide +kernel
theorem dX11_times_2 : decode cX11_times 2 = .ok (.invokevirtual 103, 3) := by decide +kernel
theorem dX11_times_5 : decode cX11_times 5 = .ok (.iload_n 2, 1) := by decide +kernel
theorem dX11_times_6 : decode cX11_times 6 = .ok (.iconst 0, 1) := by decide +kernel
theorem dX11_times_7 : decode cX11_times 7 = .ok (.iconst 2, 1) := by decide +kernel
theorem dX11_times_8 : decode cX11_times 8 = .ok (.invokestatic 73, 3) := by decide +kernel
theorem dX11_times_11 : decode cX11_times 11 = .ok (.aload_n 0, 1) := by decide +kernel
theorem dX11_times_12 : decode cX11_times 12 = .ok (.getfield 10, 3) := by decide +kernel
theorem dX11_times_15 : decode cX11_times 15 = .ok (.iload_n 1, 1) := by decide +kernel
theorem dX11_times_16 : decode cX11_times 16 = .ok (.iload_n 2, 1) := by decide +kernel
theorem dX11_times_17 : decode cX11_times 17 = .ok (.invokevirtual 363, 3) := by decide +kernel
theorem dX11_times_20 : decode cX11_times 20 = .ok (.ireturn, 1) := by decide +kernel
abbrev z_X11_times_0 : Z9 := (some .int, 1, 2, 12, 7, 132)
def m_X11_times_0 (p1 p2 : Int) (d : D9) : Option R9 := cl (m_X11_askPaint_0 p1 d) (fun r1 d2 => cl (m_X11_askWithin p2 0 2 d2) (fun r3 d4 => cl (m_X10_timesOf_1 p1 p2 d4) (fun r5 d6 => rt r5 d6)))
set_option maxRecDepth 100000 in
theorem t_X11_times_0 {G : G9} {l : Launch} (h1 : va_D (A9 G) (wl G (fun _ _ => 0))) (h2 : l.stackTraces = false) (p1 p2 : Int) (d : D9) : MT G l yX11_times cX11_times 3 z_X11_times_0 [rf G 0, i9 p1, i9 p2] d (m_X11_times_0 p1 p2 d) := by
  refine mt_of (own := RX11) (by decide) rfl (Nat.le_of_ble_eq_true rfl) h1 h2 [(0, rf G 0), (1, i9 p1), (2, i9 p2)] rfl (fun X hX C => ?_)
  unfold m_X11_times_0
  refine r_aload_n C 0 dX11_times_0 rfl rfl ?_
  refine r_iload_n C 1 dX11_times_1 rfl rfl ?_
  refine r_callV C [i9 p1, rf G 0] dX11_times_2 (t_X11_askPaint_0 C.h1 C.h2 p1 d) mw_X11_103 mv_X11_askPaint la_0 ly_0 rfl (by decide) (by decide) (by decide) rfl rfl (Nat.le_of_ble_eq_true rfl) (fun r1 d2 => ?_)
  show SS G X 3 _ _ 5 [(0, rf G 0), (1, i9 p1), (2, i9 p2)] [] d2 _
  refine r_iload_n C 2 dX11_times_5 rfl rfl ?_
  refine r_iconst C dX11_times_6 ?_
  refine r_iconst C dX11_times_7 ?_
  refine r_callS C [i9 2, i9 0, i9 p2] dX11_times_8 (t_X11_askWithin C.h1 C.h2 p2 0 2 d2) mw_X11_73 ms_X11_askWithin (by decide) (by decide) (by decide) rfl rfl (Nat.le_of_ble_eq_true rfl) (fun r3 d4 => ?_)
  show SS G X 3 _ _ 11 [(0, rf G 0), (1, i9 p1), (2, i9 p2)] [] d4 _
  refine r_aload_n C 0 dX11_times_11 rfl rfl ?_
  refine r_getR C 1 dX11_times_12 fl_X11_10 la_0 ly_0 rfl rfl ?_
  refine r_iload_n C 1 dX11_times_15 rfl rfl ?_
  refine r_iload_n C 2 dX11_times_16 rfl rfl ?_
  refine r_callV C [i9 p2, i9 p1, rf G 1] dX11_times_17 (t_X10_timesOf_1 C.h1 C.h2 p1 p2 d4) mw_X11_363 mv_X10_timesOf la_1 ly_1 rfl (by decide) (by decide) (by decide) rfl rfl (Nat.le_of_ble_eq_true rfl) (fun r5 d6 => ?_)
  show SS G X 3 _ _ 20 [(0, rf G 0), (1, i9 p1), (2, i9 p2)] [i9 r5] d6 _
  exact r_iret C dX11_times_20 (by decide) (by decide)
abbrev z_X11_putFive_35 : Z9 := (none, 0, 0, 0, 1, 0)
def m_X11_putFive_35 (p1 p2 p3 p4 p5 p6 : Int) (d : D9) : Option R9 := if w32 p1 < 0 then rt 0 d else if w32 (p1 + 5) ≤ w32 200 then sd d 35 200 p1 p2 (fun d1 => sd d1 35 200 (p1 + 1) p3 (fun d2 => sd d2 35 200 (p1 + 2) p4 (fun d3 => sd d3 35 200 (p1 + 3) p5 (fun d4 => sd d4 35 200 (p1 + 4) p6 (fun d5 => rt 0 d5))))) else rt 0 d
set_option maxRecDepth 100000 in
theorem t_X11_putFive_35 {G : G9} {l : Launch} (h1 : va_D (A9 G) (wl G (fun _ _ => 0))) (h2 : l.stackTraces = false) (p1 p2 p3 p4 p5 p6 : Int) (d : D9) : MT G l yX11_putFive cX11_putFive 7 z_X11_putFive_35 [rf G 35, i9 p1, i9 p2, i9 p3, i9 p4, i9 p5, i9 p6] d (m_X11_putFive_35 p1 p2 p3 p4 p5 p6 d) := by
  refine mt_of (own := RX11) (by decide) rfl (Nat.le_of_ble_eq_true rfl) h1 h2 [(0, rf G 35), (1, i9 p1), (2, i9 p2), (3, i9 p3), (4, i9 p4), (5, i9 p5), (6, i9 p6)] rfl (fun X hX C => ?_)
  unfold m_X11_putFive_35
  refine r_iload_n C 1 dX11_putFive_0 rfl rfl ?_
  refine r_if_lt C (b := 0) 12 dX11_putFive_1 (by decide) (fun _ => ?_) (fun _ => ?_)
  · exact r_vret C dX11_putFive_12 (by decide) (by decide)
  · refine r_iload_n C 1 dX11_putFive_4 rfl rfl ?_
    refine r_iconst C dX11_putFive_5 ?_
    refine r_iadd C dX11_putFive_6 ?_
    refine r_aload_n C 0 dX11_putFive_7 rfl rfl ?_
    refine r_alen C dX11_putFive_8 la_35 ly_35 ?_
    refine r_icmp_le C 13 dX11_putFive_9 (by decide) (fun _ => ?_) (fun _ => ?_)
    · refine r_aload_n C 0 dX11_putFive_13 rfl rfl ?_
      refine r_iload_n C 1 dX11_putFive_14 rfl rfl ?_
      refine r_iload_n C 2 dX11_putFive_15 rfl rfl ?_
      refine r_iast C dX11_putFive_16 la_35 ly_35 (fun d1 => ?_)
      refine r_aload_n C 0 dX11_putFive_17 rfl rfl ?_
      refine r_iload_n C 1 dX11_putFive_18 rfl rfl ?_
      refine r_iconst C dX11_putFive_19 ?_
      refine r_iadd C dX11_putFive_20 ?_
      refine r_iload_n C 3 dX11_putFive_21 rfl rfl ?_
      refine r_iast C dX11_putFive_22 la_35 ly_35 (fun d2 => ?_)
      refine r_aload_n C 0 dX11_putFive_23 rfl rfl ?_
      refine r_iload_n C 1 dX11_putFive_24 rfl rfl ?_
      refine r_iconst C dX11_putFive_25 ?_
      refine r_iadd C dX11_putFive_26 ?_
      refine r_iload C 4 dX11_putFive_27 rfl ?_
      refine r_iast C dX11_putFive_29 la_35 ly_35 (fun d3 => ?_)
      refine r_aload_n C 0 dX11_putFive_30 rfl rfl ?_
      refine r_iload_n C 1 dX11_putFive_31 rfl rfl ?_
      refine r_iconst C dX11_putFive_32 ?_
      refine r_iadd C dX11_putFive_33 ?_
      refine r_iload C 5 dX11_putFive_34 rfl ?_
      refine r_iast C dX11_putFive_36 la_35 ly_35 (fun d4 => ?_)
      refine r_aload_n C 0 dX11_putFive_37 rfl rfl ?_
      refine r_iload_n C 1 dX11_putFive_38 rfl rfl ?_
      refine r_iconst C dX11_putFive_39 ?_
      refine r_iadd C dX11_putFive_40 ?_
      refine r_iload C 6 dX11_putFive_41 rfl ?_
      refine r_iast C dX11_putFive_43 la_35 ly_35 (fun d5 => ?_)
      exact r_vret C dX11_putFive_44 (by decide) (by decide)
    · exact r_vret C dX11_putFive_12 (by decide) (by decide)
theorem dX11_told_0 : decode cX11_told 0 = .ok (.iload_n 1, 1) := by decide +kernel
theorem dX11_told_1 : decode cX11_told 1 = .ok (.iconst 0, 1) := by decide +kernel
theorem dX11_told_2 : decode cX11_told 2 = .ok (.iconst 3, 1) := by decide +kernel
theorem dX11_told_3 : decode cX11_told 3 = .ok (.invokestatic 73, 3) := by decide +kernel
theorem dX11_told_6 : decode cX11_told 6 = .ok (.iconst 1, 1) := by decide +kernel
theorem dX11_told_7 : decode cX11_told 7 = .ok (.iload_n 2, 1) := by decide +kernel
theorem dX11_told_8 : decode cX11_told 8 = .ok (.iload_n 3, 1) := by decide +kernel
theorem dX11_told_9 : decode cX11_told 9 = .ok (.iload 4, 2) := by decide +kernel
theorem dX11_told_11 : decode cX11_told 11 = .ok (.iload 5, 2) := by decide +kernel
theorem dX11_told_13 : decode cX11_told 13 = .ok (.iload 6, 2) := by decide +kernel
theorem dX11_told_15 : decode cX11_told 15 = .ok (.invokestatic 91, 3) := by decide +kernel
theorem dX11_told_18 : decode cX11_told 18 = .ok (.aload_n 0, 1) := by decide +kernel
theorem dX11_told_19 : decode cX11_told 19 = .ok (.getfield 10, 3) := by decide +kernel
theorem dX11_told_22 : decode cX11_told 22 = .ok (.getfield 313, 3) := by decide +kernel
theorem dX11_told_25 : decode cX11_told 25 = .ok (.astore 7, 2) := by decide +kernel
theorem dX11_told_27 : decode cX11_told 27 = .ok (.aload 7, 2) := by decide +kernel
theorem dX11_told_29 : decode cX11_told 29 = .ok (.getfield 317, 3) := by decide +kernel
theorem dX11_told_32 : decode cX11_told 32 = .ok (.bipush 40, 2) := by decide +kernel
theorem dX11_told_34 : decode cX11_told 34 = .ok (.if_icmp .lt 5, 3) := by decide +kernel
theorem dX11_told_37 : decode cX11_told 37 = .ok (.iconst (-1), 1) := by decide +kernel
theorem dX11_told_38 : decode cX11_told 38 = .ok (.ireturn, 1) := by decide +kernel
theorem dX11_told_39 : decode cX11_told 39 = .ok (.aload 7, 2) := by decide +kernel
theorem dX11_told_41 : decode cX11_told 41 = .ok (.getfield 320, 3) := by decide +kernel
theorem dX11_told_44 : decode cX11_told 44 = .ok (.aload 7, 2) := by decide +kernel
theorem dX11_told_46 : decode cX11_told 46 = .ok (.getfield 317, 3) := by decide +kernel
theorem dX11_told_49 : decode cX11_told 49 = .ok (.iload_n 1, 1) := by decide +kernel
theorem dX11_told_50 : decode cX11_told 50 = .ok (.iastore, 1) := by decide +kernel
theorem dX11_told_51 : decode cX11_told 51 = .ok (.aload 7, 2) := by decide +kernel
theorem dX11_told_53 : decode cX11_told 53 = .ok (.getfield 321, 3) := by decide +kernel
theorem dX11_told_56 : decode cX11_told 56 = .ok (.aload 7, 2) := by decide +kernel
theorem dX11_told_58 : decode cX11_told 58 = .ok (.getfield 317, 3) := by decide +kernel
theorem dX11_told_61 : decode cX11_told 61 = .ok (.iconst 5, 1) := by decide +kernel
theorem dX11_told_62 : decode cX11_told 62 = .ok (.imul, 1) := by decide +kernel
theorem dX11_told_63 : decode cX11_told 63 = .ok (.iload_n 2, 1) := by decide +kernel
theorem dX11_told_64 : decode cX11_told 64 = .ok (.iload_n 3, 1) := by decide +kernel
theorem dX11_told_65 : decode cX11_told 65 = .ok (.iload 4, 2) := by decide +kernel
theorem dX11_told_67 : decode cX11_told 67 = .ok (.iload 5, 2) := by decide +kernel
theorem dX11_told_69 : decode cX11_told 69 = .ok (.iload 6, 2) := by decide +kernel
theorem dX11_told_71 : decode cX11_told 71 = .ok (.invokestatic 99, 3) := by decide +kernel
theorem dX11_told_74 : decode cX11_told 74 = .ok (.aload 7, 2) := by decide +kernel
theorem dX11_told_76 : decode cX11_told 76 = .ok (.dup, 1) := by decide +kernel
theorem dX11_told_77 : decode cX11_told 77 = .ok (.getfield 317, 3) := by decide +kernel
theorem dX11_told_80 : decode cX11_told 80 = .ok (.iconst 1, 1) := by decide +kernel
theorem dX11_told_81 : decode cX11_told 81 = .ok (.iadd, 1) := by decide +kernel
theorem dX11_told_82 : decode cX11_told 82 = .ok (.putfield 317, 3) := by decide +kernel
theorem dX11_told_85 : decode cX11_told 85 = .ok (.aload 7, 2) := by decide +kernel
theorem dX11_told_87 : decode cX11_told 87 = .ok (.getfield 317, 3) := by decide +kernel
theorem dX11_told_90 : decode cX11_told 90 = .ok (.ireturn, 1) := by decide +kernel
abbrev z_X11_told_0 : Z9 := (some .int, 1, 6, 36, 8, 147)
def m_X11_told_0 (p1 p2 p3 p4 p5 p6 : Int) (d : D9) : Option R9 := cl (m_X11_askWithin p1 0 3 d) (fun r1 d2 => cl (m_X11_askLengths 1 p2 p3 p4 p5 p6 d2) (fun r3 d4 => if w32 (d4 33 0) < w32 40 then sd d4 34 40 (d4 33 0) p1 (fun d5 => cl (m_X11_putFive_35 ((d5 33 0) * 5) p2 p3 p4 p5 p6 d5) (fun r6 d7 => pf d7 33 0 ((d7 33 0) + 1) (fun d8 => rt (d8 33 0) d8))) else rt (-1) d4))
set_option maxRecDepth 100000 in
theorem t_X11_told_0 {G : G9} {l : Launch} (h1 : va_D (A9 G) (wl G (fun _ _ => 0))) (h2 : l.stackTraces = false) (p1 p2 p3 p4 p5 p6 : Int) (d : D9) : MT G l yX11_told cX11_told 8 z_X11_told_0 [rf G 0, i9 p1, i9 p2, i9 p3, i9 p4, i9 p5, i9 p6] d (m_X11_told_0 p1 p2 p3 p4 p5 p6 d) := by
  refine mt_of (own := RX11) (by decide) rfl (Nat.le_of_ble_eq_true rfl) h1 h2 [(0, rf G 0), (1, i9 p1), (2, i9 p2), (3, i9 p3), (4, i9 p4), (5, i9 p5), (6, i9 p6)] rfl (fun X hX C => ?_)
  unfold m_X11_told_0
  refine r_iload_n C 1 dX11_told_0 rfl rfl ?_
  refine r_iconst C dX11_told_1 ?_
  refine r_iconst C dX11_told_2 ?_
  refine r_callS C [i9 3, i9 0, i9 p1] dX11_told_3 (t_X11_askWithin C.h1 C.h2 p1 0 3 d) mw_X11_73 ms_X11_askWithin (by decide) (by decide) (by decide) rfl rfl (Nat.le_of_ble_eq_true rfl) (fun r1 d2 => ?_)
  show SS G X 8 _ _ 6 [(0, rf G 0), (1, i9 p1), (2, i9 p2), (3, i9 p3), (4, i9 p4), (5, i9 p5), (6, i9 p6)] [] d2 _
  refine r_iconst C dX11_told_6 ?_
  refine r_iload_n C 2 dX11_told_7 rfl rfl ?_
  refine r_iload_n C 3 dX11_told_8 rfl rfl ?_
  refine r_iload C 4 dX11_told_9 rfl ?_
  refine r_iload C 5 dX11_told_11 rfl ?_
  refine r_iload C 6 dX11_told_13 rfl ?_
  refine r_callS C [i9 p6, i9 p5, i9 p4, i9 p3, i9 p2, i9 1] dX11_told_15 (t_X11_askLengths C.h1 C.h2 1 p2 p3 p4 p5 p6 d2) mw_X11_91 ms_X11_askLengths (by decide) (by decide) (by decide) rfl rfl (Nat.le_of_ble_eq_true rfl) (fun r3 d4 => ?_)
  show SS G X 8 _ _ 18 [(0, rf G 0), (1, i9 p1), (2, i9 p2), (3, i9 p3), (4, i9 p4), (5, i9 p5), (6, i9 p6)] [] d4 _
  refine r_aload_n C 0 dX11_told_18 rfl rfl ?_
  refine r_getR C 1 dX11_told_19 fl_X11_10 la_0 ly_0 rfl rfl ?_
  refine r_getR C 33 dX11_told_22 fl_X11_313 la_1 ly_1 rfl rfl ?_
  refine r_astore C [(7, rf G 33), (0, rf G 0), (1, i9 p1), (2, i9 p2), (3, i9 p3), (4, i9 p4), (5, i9 p5), (6, i9 p6)] dX11_told_25 (by decide) rfl ?_
  refine r_aload C 0 dX11_told_27 rfl ?_
  refine r_getI C dX11_told_29 fl_X11_317 la_33 ly_33 rfl ?_
  refine r_bipush C dX11_told_32 rfl ?_
  refine r_icmp_lt C 39 dX11_told_34 (by decide) (fun _ => ?_) (fun _ => ?_)
  · refine r_aload C 0 dX11_told_39 rfl ?_
    refine r_getR C 34 dX11_told_41 fl_X11_320 la_33 ly_33 rfl rfl ?_
    refine r_aload C 0 dX11_told_44 rfl ?_
    refine r_getI C dX11_told_46 fl_X11_317 la_33 ly_33 rfl ?_
    refine r_iload_n C 2 dX11_told_49 rfl rfl ?_
    refine r_iast C dX11_told_50 la_34 ly_34 (fun d5 => ?_)
    refine r_aload C 0 dX11_told_51 rfl ?_
    refine r_getR C 35 dX11_told_53 fl_X11_321 la_33 ly_33 rfl rfl ?_
    refine r_aload C 0 dX11_told_56 rfl ?_
    refine r_getI C dX11_told_58 fl_X11_317 la_33 ly_33 rfl ?_
    refine r_iconst C dX11_told_61 ?_
    refine r_imul C dX11_told_62 ?_
    refine r_iload_n C 3 dX11_told_63 rfl rfl ?_
    refine r_iload_n C 4 dX11_told_64 rfl rfl ?_
    refine r_iload C 5 dX11_told_65 rfl ?_
    refine r_iload C 6 dX11_told_67 rfl ?_
    refine r_iload C 7 dX11_told_69 rfl ?_
    refine r_callS C [i9 p6, i9 p5, i9 p4, i9 p3, i9 p2, i9 ((d5 33 0) * 5), rf G 35] dX11_told_71 (t_X11_putFive_35 C.h1 C.h2 ((d5 33 0) * 5) p2 p3 p4 p5 p6 d5) mw_X11_99 ms_X11_putFive (by decide) (by decide) (by decide) rfl rfl (Nat.le_of_ble_eq_true rfl) (fun r6 d7 => ?_)
    show SS G X 8 _ _ 74 [(7, rf G 33), (0, rf G 0), (1, i9 p1), (2, i9 p2), (3, i9 p3), (4, i9 p4), (5, i9 p5), (6, i9 p6)] [] d7 _
    refine r_aload C 0 dX11_told_74 rfl ?_
    refine r_dup C dX11_told_76 rfl ?_
    refine r_getI C dX11_told_77 fl_X11_317 la_33 ly_33 rfl ?_
    refine r_iconst C dX11_told_80 ?_
    refine r_iadd C dX11_told_81 ?_
    refine r_putI C dX11_told_82 fp_X11_317 la_33 ly_33 rfl (fun d8 => ?_)
    refine r_aload C 0 dX11_told_85 rfl ?_
    refine r_getI C dX11_told_87 fl_X11_317 la_33 ly_33 rfl ?_
    exact r_iret C dX11_told_90 (by decide) (by decide)
  · refine r_iconst C dX11_told_37 ?_
    exact r_iret C dX11_told_38 (by decide) (by decide)
theorem dX9_clear_0 : decode cX9_clear 0 = .ok (.aload_n 0, 1) := by decide +kernel
theorem dX9_clear_1 : decode cX9_clear 1 = .ok (.getfield 11, 3) := by decide +kernel
theorem dX9_clear_4 : decode cX9_clear 4 = .ok (.iload_n 1, 1) := by decide +kernel
theorem dX9_clear_5 : decode cX9_clear 5 = .ok (.iload_n 2, 1) := by decide +kernel
theorem dX9_clear_6 : decode cX9_clear 6 = .ok (.iastore, 1) := by decide +kernel
theorem dX9_clear_7 : decode cX9_clear 7 = .ok (.aload_n 0, 1) := by decide +kernel
theorem dX9_clear_8 : decode cX9_clear 8 = .ok (.getfield 15, 3) := by decide +kernel
theorem dX9_clear_11 : decode cX9_clear 11 = .ok (.iload_n 1, 1) := by decide +kernel
theorem dX9_clear_12 : decode cX9_clear 12 = .ok (.iload_n 3, 1) := by decide +kernel
theorem dX9_clear_13 : decode cX9_clear 13 = .ok (.iastore, 1) := by decide +kernel
theorem dX9_clear_14 : decode cX9_clear 14 = .ok (.iconst 0, 1) := by decide +kernel
theorem dX9_clear_15 : decode cX9_clear 15 = .ok (.istore 4, 2) := by decide +kernel
theorem dX9_clear_17 : decode cX9_clear 17 = .ok (.iload 4, 2) := by decide +kernel
theorem dX9_clear_19 : decode cX9_clear 19 = .ok (.bipush 40, 2) := by decide +kernel
theorem dX9_clear_21 : decode cX9_clear 21 = .ok (.if_icmp .ge 22, 3) := by decide +kernel
theorem dX9_clear_24 : decode cX9_clear 24 = .ok (.aload_n 0, 1) := by decide +kernel
theorem dX9_clear_25 : decode cX9_clear 25 = .ok (.getfield 18, 3) := by decide +kernel
theorem dX9_clear_28 : decode cX9_clear 28 = .ok (.iload_n 1, 1) := by decide +kernel
theorem dX9_clear_29 : decode cX9_clear 29 = .ok (.bipush 40, 2) := by decide +kernel
theorem dX9_clear_31 : decode cX9_clear 31 = .ok (.imul, 1) := by decide +kernel
theorem dX9_clear_32 : decode cX9_clear 32 = .ok (.iload 4, 2) := by decide +kernel
theorem dX9_clear_34 : decode cX9_clear 34 = .ok (.iadd, 1) := by decide +kernel
theorem dX9_clear_35 : decode cX9_clear 35 = .ok (.lconst 0, 1) := by decide +kernel
theorem dX9_clear_36 : decode cX9_clear 36 = .ok (.lastore, 1) := by decide +kernel
theorem dX9_clear_37 : decode cX9_clear 37 = .ok (.iinc 4 1, 3) := by decide +kernel
theorem dX9_clear_40 : decode cX9_clear 40 = .ok (.goto (-23), 3) := by decide +kernel
theorem dX9_clear_43 : decode cX9_clear 43 = .ok (.return_, 1) := by decide +kernel
abbrev z_X9_clear_54 : Z9 := (none, 0, 0, 0, 1, 0)
def b_X9_clear_54_c17 (k_X9_clear_54_c17 : Int → Int → D9 → Option R9) (v1 v4 : Int) (d : D9) : Option R9 := if w32 40 ≤ w32 v4 then rt 0 d else sd d 57 160 ((v1 * 40) + v4) 0 (fun d1 => k_X9_clear_54_c17 v1 (v4 + 1) d1)
def m_X9_clear_54_c17 : Int → Int → D9 → Option R9 := fix9 (fun _ _ _ => none) (fun k => b_X9_clear_54_c17 k) FU
def m_X9_clear_54 (p1 p2 p3 : Int) (d : D9) : Option R9 := sd d 55 4 p1 p2 (fun d1 => sd d1 56 4 p1 p3 (fun d2 => m_X9_clear_54_c17  p1 0 d2))
set_option maxRecDepth 100000 in
theorem sb_X9_clear_54_c17 {G : G9} {X : X9} (C : CX G X cX9_clear 5 RX9 [] z_X9_clear_54) (k_X9_clear_54_c17 : Int → Int → D9 → Option R9) (hk_X9_clear_54_c17 : ∀ (v1 v4 : Int) (d : D9), SS G X 5 0 0 17 [(0, rf G 54), (1, i9 v1), (4, i9 v4)] [] d (k_X9_clear_54_c17 v1 v4 d)) : ∀ (v1 v4 : Int) (d : D9), SS G X 5 0 0 17 [(0, rf G 54), (1, i9 v1), (4, i9 v4)] [] d (b_X9_clear_54_c17 k_X9_clear_54_c17 v1 v4 d) := by
  intro v1 v4 d
  unfold b_X9_clear_54_c17
  refine r_iload C 2 dX9_clear_17 rfl ?_
  refine r_bipush C dX9_clear_19 rfl ?_
  refine r_icmp_ge C 43 dX9_clear_21 (by decide) (fun _ => ?_) (fun _ => ?_)
  · exact r_vret C dX9_clear_43 (by decide) (by decide)
  · refine r_aload_n C 0 dX9_clear_24 rfl rfl ?_
    refine r_getR C 57 dX9_clear_25 fl_X9_18 la_54 ly_54 rfl rfl ?_
    refine r_iload_n C 1 dX9_clear_28 rfl rfl ?_
    refine r_bipush C dX9_clear_29 rfl ?_
    refine r_imul C dX9_clear_31 ?_
    refine r_iload C 2 dX9_clear_32 rfl ?_
    refine r_iadd C dX9_clear_34 ?_
    refine r_lconst C dX9_clear_35 (a := 0) rfl ?_
    refine r_last C dX9_clear_36 la_57 ly_57 (fun d1 => ?_)
    refine r_iinc C 2 [(4, i9 (v4 + 1)), (0, rf G 54), (1, i9 v1)] dX9_clear_37 rfl (by decide) rfl ?_
    refine r_goto C 17 dX9_clear_40 (by decide) ?_
    refine ss_wide (k' := 0) (n' := 0) (by decide) (by decide) ?_
    refine ss_ls [(0, rf G 54), (1, i9 v1), (4, i9 (v4 + 1))] [1, 2, 0] rfl ?_
    exact hk_X9_clear_54_c17 v1 (v4 + 1) d1
theorem s_X9_clear_54_c17 {G : G9} {X : X9} (C : CX G X cX9_clear 5 RX9 [] z_X9_clear_54) : ∀ (v1 v4 : Int) (d : D9), SS G X 5 0 0 17 [(0, rf G 54), (1, i9 v1), (4, i9 v4)] [] d (m_X9_clear_54_c17  v1 v4 d) :=
  fix9_ind (P := fun k => ∀ (v1 v4 : Int) (d : D9), SS G X 5 0 0 17 [(0, rf G 54), (1, i9 v1), (4, i9 v4)] [] d (k v1 v4 d)) (fun _ _ _ => ss_none) (fun k hk => sb_X9_clear_54_c17 C k hk) FU
set_option maxRecDepth 100000 in
theorem t_X9_clear_54 {G : G9} {l : Launch} (h1 : va_D (A9 G) (wl G (fun _ _ => 0))) (h2 : l.stackTraces = false) (p1 p2 p3 : Int) (d : D9) : MT G l yX9_clear cX9_clear 5 z_X9_clear_54 [rf G 54, i9 p1, i9 p2, i9 p3] d (m_X9_clear_54 p1 p2 p3 d) := by
  refine mt_of (own := RX9) (by decide) rfl (Nat.le_of_ble_eq_true rfl) h1 h2 [(0, rf G 54), (1, i9 p1), (2, i9 p2), (3, i9 p3)] rfl (fun X hX C => ?_)
  unfold m_X9_clear_54
  refine r_aload_n C 0 dX9_clear_0 rfl rfl ?_
  refine r_getR C 55 dX9_clear_1 fl_X9_11 la_54 ly_54 rfl rfl ?_
  refine r_iload_n C 1 dX9_clear_4 rfl rfl ?_
  refine r_iload_n C 2 dX9_clear_5 rfl rfl ?_
  refine r_iast C dX9_clear_6 la_55 ly_55 (fun d1 => ?_)
  refine r_aload_n C 0 dX9_clear_7 rfl rfl ?_
  refine r_getR C 56 dX9_clear_8 fl_X9_15 la_54 ly_54 rfl rfl ?_
  refine r_iload_n C 1 dX9_clear_11 rfl rfl ?_
  refine r_iload_n C 3 dX9_clear_12 rfl rfl ?_
  refine r_iast C dX9_clear_13 la_56 ly_56 (fun d2 => ?_)
  refine r_iconst C dX9_clear_14 ?_
  refine r_istore C [(4, i9 0), (0, rf G 54), (1, i9 p1), (2, i9 p2), (3, i9 p3)] dX9_clear_15 (by decide) rfl ?_
  refine ss_wide (k' := 0) (n' := 0) (by decide) (by decide) ?_
  refine ss_ls [(0, rf G 54), (1, i9 p1), (4, i9 0)] [1, 2, 0] rfl ?_
  exact s_X9_clear_54_c17 C  p1 0 d2
theorem dX11_tray_0 : decode cX11_tray 0 = .ok (.iload_n 1, 1) := by decide +kernel
theorem dX11_tray_1 : decode cX11_tray 1 = .ok (.invokestatic 404, 3) := by decide +kernel
theorem dX11_tray_4 : decode cX11_tray 4 = .ok (.iload_n 2, 1) := by decide +kernel
theorem dX11_tray_5 : decode cX11_tray 5 = .ok (.iconst 0, 1) := by decide +kernel
theorem dX11_tray_6 : decode cX11_tray 6 = .ok (.iconst 3, 1) := by decide +kernel
theorem dX11_tray_7 : decode cX11_tray 7 = .ok (.invokestatic 73, 3) := by decide +kernel
theorem dX11_tray_10 : decode cX11_tray 10 = .ok (.iload_n 3, 1) := by decide +kernel
theorem dX11_tray_11 : decode cX11_tray 11 = .ok (.iconst 0, 1) := by decide +kernel
theorem dX11_tray_12 : decode cX11_tray 12 = .ok (.bipush 40, 2) := by decide +kernel
theorem dX11_tray_14 : decode cX11_tray 14 = .ok (.invokestatic 73, 3) := by decide +kernel
theorem dX11_tray_17 : decode cX11_tray 17 = .ok (.aload_n 0, 1) := by decide +kernel
theorem dX11_tray_18 : decode cX11_tray 18 = .ok (.getfield 62, 3) := by decide +kernel
theorem dX11_tray_21 : decode cX11_tray 21 = .ok (.iload_n 1, 1) := by decide +kernel
theorem dX11_tray_22 : decode cX11_tray 22 = .ok (.iload_n 2, 1) := by decide +kernel
theorem dX11_tray_23 : decode cX11_tray 23 = .ok (.iload_n 3, 1) := by decide +kernel
theorem dX11_tray_24 : decode cX11_tray 24 = .ok (.invokevirtual 407, 3) := by decide +kernel
theorem dX11_tray_27 : decode cX11_tray 27 = .ok (.return_, 1) := by decide +kernel
abbrev z_X11_tray_0 : Z9 := (none, 0, 3, 18, 7, 122)
def m_X11_tray_0 (p1 p2 p3 : Int) (d : D9) : Option R9 := cl (m_X11_askTray p1 d) (fun r1 d2 => cl (m_X11_askWithin p2 0 3 d2) (fun r3 d4 => cl (m_X11_askWithin p3 0 40 d4) (fun r5 d6 => cl (m_X9_clear_54 p1 p2 p3 d6) (fun r7 d8 => rt 0 d8))))
set_option maxRecDepth 100000 in
theorem t_X11_tray_0 {G : G9} {l : Launch} (h1 : va_D (A9 G) (wl G (fun _ _ => 0))) (h2 : l.stackTraces = false) (p1 p2 p3 : Int) (d : D9) : MT G l yX11_tray cX11_tray 4 z_X11_tray_0 [rf G 0, i9 p1, i9 p2, i9 p3] d (m_X11_tray_0 p1 p2 p3 d) := by
  refine mt_of (own := RX11) (by decide) rfl (Nat.le_of_ble_eq_true rfl) h1 h2 [(0, rf G 0), (1, i9 p1), (2, i9 p2), (3, i9 p3)] rfl (fun X hX C => ?_)
  unfold m_X11_tray_0
  refine r_iload_n C 1 dX11_tray_0 rfl rfl ?_
  refine r_callS C [i9 p1] dX11_tray_1 (t_X11_askTray C.h1 C.h2 p1 d) mw_X11_404 ms_X11_askTray (by decide) (by decide) (by decide) rfl rfl (Nat.le_of_ble_eq_true rfl) (fun r1 d2 => ?_)
  show SS G X 4 _ _ 4 [(0, rf G 0), (1, i9 p1), (2, i9 p2), (3, i9 p3)] [] d2 _
  refine r_iload_n C 2 dX11_tray_4 rfl rfl ?_
  refine r_iconst C dX11_tray_5 ?_
  refine r_iconst C dX11_tray_6 ?_
  refine r_callS C [i9 3, i9 0, i9 p2] dX11_tray_7 (t_X11_askWithin C.h1 C.h2 p2 0 3 d2) mw_X11_73 ms_X11_askWithin (by decide) (by decide) (by decide) rfl rfl (Nat.le_of_ble_eq_true rfl) (fun r3 d4 => ?_)
  show SS G X 4 _ _ 10 [(0, rf G 0), (1, i9 p1), (2, i9 p2), (3, i9 p3)] [] d4 _
  refine r_iload_n C 3 dX11_tray_10 rfl rfl ?_
  refine r_iconst C dX11_tray_11 ?_
  refine r_bipush C dX11_tray_12 rfl ?_
  refine r_callS C [i9 40, i9 0, i9 p3] dX11_tray_14 (t_X11_askWithin C.h1 C.h2 p3 0 40 d4) mw_X11_73 ms_X11_askWithin (by decide) (by decide) (by decide) rfl rfl (Nat.le_of_ble_eq_true rfl) (fun r5 d6 => ?_)
  show SS G X 4 _ _ 17 [(0, rf G 0), (1, i9 p1), (2, i9 p2), (3, i9 p3)] [] d6 _
  refine r_aload_n C 0 dX11_tray_17 rfl rfl ?_
  refine r_getR C 54 dX11_tray_18 fl_X11_62 la_0 ly_0 rfl rfl ?_
  refine r_iload_n C 1 dX11_tray_21 rfl rfl ?_
  refine r_iload_n C 2 dX11_tray_22 rfl rfl ?_
  refine r_iload_n C 3 dX11_tray_23 rfl rfl ?_
  refine r_callV C [i9 p3, i9 p2, i9 p1, rf G 54] dX11_tray_24 (t_X9_clear_54 C.h1 C.h2 p1 p2 p3 d6) mw_X11_407 mv_X9_clear la_54 ly_54 rfl (by decide) (by decide) (by decide) rfl rfl (Nat.le_of_ble_eq_true rfl) (fun r7 d8 => ?_)
  show SS G X 4 _ _ 27 [(0, rf G 0), (1, i9 p1), (2, i9 p2), (3, i9 p3)] [] d8 _
  exact r_vret C dX11_tray_27 (by decide) (by decide)
theorem dX11_trial_0 : decode cX11_trial 0 = .ok (.iload_n 1, 1) := by decide +kernel
theorem dX11_trial_1 : decode cX11_trial 1 = .ok (.iload_n 2, 1) := by decide +kernel
theorem dX11_trial_2 : decode cX11_trial 2 = .ok (.iload_n 3, 1) := by decide +kernel
theorem dX11_trial_3 : decode cX11_trial 3 = .ok (.iload 4, 2) := by decide +kernel
theorem dX11_trial_5 : decode cX11_trial 5 = .ok (.invokestatic 245, 3) := by decide +kernel
theorem dX11_trial_8 : decode cX11_trial 8 = .ok (.iload 5, 2) := by decide +kernel
theorem dX11_trial_10 : decode cX11_trial 10 = .ok (.iconst 1, 1) := by decide +kernel
theorem dX11_trial_11 : decode cX11_trial 11 = .ok (.bipush 100, 2) := by decide +kernel
theorem dX11_trial_13 : decode cX11_trial 13 = .ok (.invokestatic 73, 3) := by decide +kernel
theorem dX11_trial_16 : decode cX11_trial 16 = .ok (.aload_n 0, 1) := by decide +kernel
theorem dX11_trial_17 : decode cX11_trial 17 = .ok (.getfield 10, 3) := by decide +kernel
theorem dX11_trial_20 : decode cX11_trial 20 = .ok (.getfield 137, 3) := by decide +kernel
theorem dX11_trial_23 : decode cX11_trial 23 = .ok (.astore 6, 2) := by decide +kernel
theorem dX11_trial_25 : decode cX11_trial 25 = .ok (.aload 6, 2) := by decide +kernel
theorem dX11_trial_27 : decode cX11_trial 27 = .ok (.iload_n 2, 1) := by decide +kernel
theorem dX11_trial_28 : decode cX11_trial 28 = .ok (.invokevirtual 256, 3) := by decide +kernel
theorem dX11_trial_31 : decode cX11_trial 31 = .ok (.ifCond .eq 5, 3) := by decide +kernel
theorem dX11_trial_34 : decode cX11_trial 34 = .ok (.iconst 0, 1) := by decide +kernel
theorem dX11_trial_35 : decode cX11_trial 35 = .ok (.ireturn, 1) := by decide +kernel
theorem dX11_trial_36 : decode cX11_trial 36 = .ok (.aload 6, 2) := by decide +kernel
theorem dX11_trial_38 : decode cX11_trial 38 = .ok (.iload_n 1, 1) := by decide +kernel
theorem dX11_trial_39 : decode cX11_trial 39 = .ok (.iload_n 2, 1) := by decide +kernel
theorem dX11_trial_40 : decode cX11_trial 40 = .ok (.iload_n 3, 1) := by decide +kernel
theorem dX11_trial_41 : decode cX11_trial 41 = .ok (.iload 4, 2) := by decide +kernel
theorem dX11_trial_43 : decode cX11_trial 43 = .ok (.invokevirtual 249, 3) := by decide +kernel
theorem dX11_trial_46 : decode cX11_trial 46 = .ok (.sipush 1000, 3) := by decide +kernel
theorem dX11_trial_49 : decode cX11_trial 49 = .ok (.idiv, 1) := by decide +kernel
theorem dX11_trial_50 : decode cX11_trial 50 = .ok (.istore 7, 2) := by decide +kernel
theorem dX11_trial_52 : decode cX11_trial 52 = .ok (.iload_n 1, 1) := by decide +kernel
theorem dX11_trial_53 : decode cX11_trial 53 = .ok (.sipush 400, 3) := by decide +kernel
theorem dX11_trial_56 : decode cX11_trial 56 = .ok (.if_icmp .ne 14, 3) := by decide +kernel
theorem dX11_trial_59 : decode cX11_trial 59 = .ok (.aload 6, 2) := by decide +kernel
theorem dX11_trial_61 : decode cX11_trial 61 = .ok (.sipush 9999, 3) := by decide +kernel
theorem dX11_trial_64 : decode cX11_trial 64 = .ok (.invokevirtual 260, 3) := by decide +kernel
theorem dX11_trial_67 : decode cX11_trial 67 = .ok (.goto 16, 3) := by decide +kernel
theorem dX11_trial_70 : decode cX11_trial 70 = .ok (.aload 6, 2) := by decide +kernel
theorem dX11_trial_72 : decode cX11_trial 72 = .ok (.iload_n 1, 1) := by decide +kernel
theorem dX11_trial_73 : decode cX11_trial 73 = .ok (.iload_n 2, 1) := by decide +kernel
theorem dX11_trial_74 : decode cX11_trial 74 = .ok (.iload_n 3, 1) := by decide +kernel
theorem dX11_trial_75 : decode cX11_trial 75 = .ok (.aload 6, 2) := by decide +kernel
theorem dX11_trial_77 : decode cX11_trial 77 = .ok (.getfield 263, 3) := by decide +kernel
theorem dX11_trial_80 : decode cX11_trial 80 = .ok (.invokevirtual 249, 3) := by decide +kernel
theorem dX11_trial_83 : decode cX11_trial 83 = .ok (.istore 8, 2) := by decide +kernel
theorem dX11_trial_85 : decode cX11_trial 85 = .ok (.iload_n 1, 1) := by decide +kernel
theorem dX11_trial_86 : decode cX11_trial 86 = .ok (.ifCond .ne 7, 3) := by decide +kernel
theorem dX11_trial_89 : decode cX11_trial 89 = .ok (.iconst (-1), 1) := by decide +kernel
theorem dX11_trial_90 : decode cX11_trial 90 = .ok (.goto 18, 3) := by decide +kernel
theorem dX11_trial_93 : decode cX11_trial 93 = .ok (.aload 6, 2) := by decide +kernel
theorem dX11_trial_95 : decode cX11_trial 95 = .ok (.iload_n 1, 1) := by decide +kernel
theorem dX11_trial_96 : decode cX11_trial 96 = .ok (.iconst 1, 1) := by decide +kernel
theorem dX11_trial_97 : decode cX11_trial 97 = .ok (.isub, 1) := by decide +kernel
theorem dX11_trial_98 : decode cX11_trial 98 = .ok (.iload_n 2, 1) := by decide +kernel
theorem dX11_trial_99 : decode cX11_trial 99 = .ok (.iload_n 3, 1) := by decide +kernel
theorem dX11_trial_100 : decode cX11_trial 100 = .ok (.aload 6, 2) := by decide +kernel
theorem dX11_trial_102 : decode cX11_trial 102 = .ok (.getfield 266, 3) := by decide +kernel
theorem dX11_trial_105 : decode cX11_trial 105 = .ok (.invokevirtual 249, 3) := by decide +kernel
theorem dX11_trial_108 : decode cX11_trial 108 = .ok (.istore 9, 2) := by decide +kernel
theorem dX11_trial_110 : decode cX11_trial 110 = .ok (.iconst 0, 1) := by decide +kernel
theorem dX11_trial_111 : decode cX11_trial 111 = .ok (.istore 10, 2) := by decide +kernel
theorem dX11_trial_113 : decode cX11_trial 113 = .ok (.iconst 1, 1) := by decide +kernel
theorem dX11_trial_114 : decode cX11_trial 114 = .ok (.istore 11, 2) := by decide +kernel
theorem dX11_trial_116 : decode cX11_trial 116 = .ok (.iload 11, 2) := by decide +kernel
theorem dX11_trial_118 : decode cX11_trial 118 = .ok (.iload 5, 2) := by decide +kernel
theorem dX11_trial_120 : decode cX11_trial 120 = .ok (.if_icmp .gt 47, 3) := by decide +kernel
theorem dX11_trial_123 : decode cX11_trial 123 = .ok (.aload 6, 2) := by decide +kernel
theorem dX11_trial_125 : decode cX11_trial 125 = .ok (.iload 7, 2) := by decide +kernel
theorem dX11_trial_127 : decode cX11_trial 127 = .ok (.iload 11, 2) := by decide +kernel
theorem dX11_trial_129 : decode cX11_trial 129 = .ok (.invokevirtual 252, 3) := by decide +kernel
theorem dX11_trial_132 : decode cX11_trial 132 = .ok (.istore 12, 2) := by decide +kernel
theorem dX11_trial_134 : decode cX11_trial 134 = .ok (.iload 8, 2) := by decide +kernel
theorem dX11_trial_136 : decode cX11_trial 136 = .ok (.aload 6, 2) := by decide +kernel
theorem dX11_trial_138 : decode cX11_trial 138 = .ok (.iload 12, 2) := by decide +kernel
theorem dX11_trial_140 : decode cX11_trial 140 = .ok (.invokevirtual 269, 3) := by decide +kernel
theorem dX11_trial_143 : decode cX11_trial 143 = .ok (.if_icmp .lt 18, 3) := by decide +kernel
theorem dX11_trial_146 : decode cX11_trial 146 = .ok (.iload 9, 2) := by decide +kernel
theorem dX11_trial_148 : decode cX11_trial 148 = .ok (.aload 6, 2) := by decide +kernel
theorem dX11_trial_150 : decode cX11_trial 150 = .ok (.iload 12, 2) := by decide +kernel
theorem dX11_trial_152 : decode cX11_trial 152 = .ok (.invokevirtual 260, 3) := by decide +kernel
theorem dX11_trial_155 : decode cX11_trial 155 = .ok (.if_icmp .ge 6, 3) := by decide +kernel
theorem dX11_trial_158 : decode cX11_trial 158 = .ok (.iinc 10 1, 3) := by decide +kernel
theorem dX11_trial_161 : decode cX11_trial 161 = .ok (.iinc 11 1, 3) := by decide +kernel
theorem dX11_trial_164 : decode cX11_trial 164 = .ok (.goto (-48), 3) := by decide +kernel
theorem dX11_trial_167 : decode cX11_trial 167 = .ok (.iload 10, 2) := by decide +kernel
theorem dX11_trial_169 : decode cX11_trial 169 = .ok (.ireturn, 1) := by decide +kernel
abbrev z_X11_trial_0 : Z9 := (some .int, 1, 5, 30, 8, 145)
def b_X11_trial_0_c116 (k_X11_trial_0_c116 : Int → Int → Int → Int → Int → Int → D9 → Option R9) (v5 v7 v8 v9 v10 v11 : Int) (d : D9) : Option R9 := if w32 v5 < w32 v11 then rt v10 d else cl (m_X2_drawn_22 v7 v11 d) (fun r1 d2 => cl (m_X2_goalBelow_22 r1 d2) (fun r3 d4 => if w32 v8 < w32 r3 then k_X11_trial_0_c116 v5 v7 v8 v9 v10 (v11 + 1) d4 else cl (m_X2_goalAbove_22 r1 d4) (fun r5 d6 => if w32 r5 ≤ w32 v9 then k_X11_trial_0_c116 v5 v7 v8 v9 v10 (v11 + 1) d6 else k_X11_trial_0_c116 v5 v7 v8 v9 (v10 + 1) (v11 + 1) d6)))
def m_X11_trial_0_c116 : Int → Int → Int → Int → Int → Int → D9 → Option R9 := fix9 (fun _ _ _ _ _ _ _ => none) (fun k => b_X11_trial_0_c116 k) FU
def m_X11_trial_0_c83 (v1 v2 v3 v5 v7 s0 : Int) (d : D9) : Option R9 := if w32 v1 ≠ 0 then cl (m_X2_grownBy_22 (v1 - 1) v2 v3 (d 22 2) d) (fun r1 d2 => m_X11_trial_0_c116  v5 v7 s0 r1 0 1 d2) else m_X11_trial_0_c116  v5 v7 s0 (-1) 0 1 d
def m_X11_trial_0 (p1 p2 p3 p4 p5 : Int) (d : D9) : Option R9 := cl (m_X11_askDrip p1 p2 p3 p4 d) (fun r1 d2 => cl (m_X11_askWithin p5 1 100 d2) (fun r3 d4 => cl (m_X2_isThin_22 p2 d4) (fun r5 d6 => if w32 r5 = 0 then cl (m_X2_grownBy_22 p1 p2 p3 p4 d6) (fun r7 d8 => lt9v (div9 r7 1000) (fun a9 => if w32 p1 ≠ w32 400 then cl (m_X2_grownBy_22 p1 p2 p3 (d8 22 3) d8) (fun r10 d11 => m_X11_trial_0_c83  p1 p2 p3 p5 a9 r10 d11) else cl (m_X2_goalAbove_22 9999 d8) (fun r12 d13 => m_X11_trial_0_c83  p1 p2 p3 p5 a9 r12 d13))) else rt 0 d6)))
set_option maxRecDepth 100000 in
theorem sb_X11_trial_0_c116 {G : G9} {X : X9} (C : CX G X cX11_trial 13 RX11 [] z_X11_trial_0) (k_X11_trial_0_c116 : Int → Int → Int → Int → Int → Int → D9 → Option R9) (hk_X11_trial_0_c116 : ∀ (v5 v7 v8 v9 v10 v11 : Int) (d : D9), SS G X 13 5 30 116 [(5, i9 v5), (6, rf G 22), (7, i9 v7), (8, i9 v8), (9, i9 v9), (10, i9 v10), (11, i9 v11)] [] d (k_X11_trial_0_c116 v5 v7 v8 v9 v10 v11 d)) : ∀ (v5 v7 v8 v9 v10 v11 : Int) (d : D9), SS G X 13 5 30 116 [(5, i9 v5), (6, rf G 22), (7, i9 v7), (8, i9 v8), (9, i9 v9), (10, i9 v10), (11, i9 v11)] [] d (b_X11_trial_0_c116 k_X11_trial_0_c116 v5 v7 v8 v9 v10 v11 d) := by
  intro v5 v7 v8 v9 v10 v11 d
  unfold b_X11_trial_0_c116
  refine r_iload C 6 dX11_trial_116 rfl ?_
  refine r_iload C 0 dX11_trial_118 rfl ?_
  refine r_icmp_gt C 167 dX11_trial_120 (by decide) (fun _ => ?_) (fun _ => ?_)
  · refine r_iload C 5 dX11_trial_167 rfl ?_
    exact r_iret C dX11_trial_169 (by decide) (by decide)
  · refine r_aload C 1 dX11_trial_123 rfl ?_
    refine r_iload C 2 dX11_trial_125 rfl ?_
    refine r_iload C 6 dX11_trial_127 rfl ?_
    refine r_callV C [i9 v11, i9 v7, rf G 22] dX11_trial_129 (t_X2_drawn_22 C.h1 C.h2 v7 v11 d) mw_X11_252 mv_X2_drawn la_22 ly_22 rfl (by decide) (by decide) (by decide) rfl rfl (Nat.le_of_ble_eq_true rfl) (fun r1 d2 => ?_)
    show SS G X 13 _ _ 132 [(5, i9 v5), (6, rf G 22), (7, i9 v7), (8, i9 v8), (9, i9 v9), (10, i9 v10), (11, i9 v11)] [i9 r1] d2 _
    refine r_istore C [(12, i9 r1), (5, i9 v5), (6, rf G 22), (7, i9 v7), (8, i9 v8), (9, i9 v9), (10, i9 v10), (11, i9 v11)] dX11_trial_132 (by decide) rfl ?_
    refine r_iload C 4 dX11_trial_134 rfl ?_
    refine r_aload C 2 dX11_trial_136 rfl ?_
    refine r_iload C 0 dX11_trial_138 rfl ?_
    refine r_callV C [i9 r1, rf G 22, i9 v8] dX11_trial_140 (t_X2_goalBelow_22 C.h1 C.h2 r1 d2) mw_X11_269 mv_X2_goalBelow la_22 ly_22 rfl (by decide) (by decide) (by decide) rfl rfl (Nat.le_of_ble_eq_true rfl) (fun r3 d4 => ?_)
    show SS G X 13 _ _ 143 [(12, i9 r1), (5, i9 v5), (6, rf G 22), (7, i9 v7), (8, i9 v8), (9, i9 v9), (10, i9 v10), (11, i9 v11)] [i9 r3, i9 v8] d4 _
    refine r_icmp_lt C 161 dX11_trial_143 (by decide) (fun _ => ?_) (fun _ => ?_)
    · refine r_iinc C 7 [(11, i9 (v11 + 1)), (12, i9 r1), (5, i9 v5), (6, rf G 22), (7, i9 v7), (8, i9 v8), (9, i9 v9), (10, i9 v10)] dX11_trial_161 rfl (by decide) rfl ?_
      refine r_goto C 116 dX11_trial_164 (by decide) ?_
      refine ss_wide (k' := 5) (n' := 30) (by decide) (by decide) ?_
      refine ss_ls [(5, i9 v5), (6, rf G 22), (7, i9 v7), (8, i9 v8), (9, i9 v9), (10, i9 v10), (11, i9 (v11 + 1))] [2, 3, 4, 5, 6, 7, 0] rfl ?_
      exact hk_X11_trial_0_c116 v5 v7 v8 v9 v10 (v11 + 1) d4
    · refine r_iload C 5 dX11_trial_146 rfl ?_
      refine r_aload C 2 dX11_trial_148 rfl ?_
      refine r_iload C 0 dX11_trial_150 rfl ?_
      refine r_callV C [i9 r1, rf G 22, i9 v9] dX11_trial_152 (t_X2_goalAbove_22 C.h1 C.h2 r1 d4) mw_X11_260 mv_X2_goalAbove la_22 ly_22 rfl (by decide) (by decide) (by decide) rfl rfl (Nat.le_of_ble_eq_true rfl) (fun r5 d6 => ?_)
      show SS G X 13 _ _ 155 [(12, i9 r1), (5, i9 v5), (6, rf G 22), (7, i9 v7), (8, i9 v8), (9, i9 v9), (10, i9 v10), (11, i9 v11)] [i9 r5, i9 v9] d6 _
      refine r_icmp_ge C 161 dX11_trial_155 (by decide) (fun _ => ?_) (fun _ => ?_)
      · refine r_iinc C 7 [(11, i9 (v11 + 1)), (12, i9 r1), (5, i9 v5), (6, rf G 22), (7, i9 v7), (8, i9 v8), (9, i9 v9), (10, i9 v10)] dX11_trial_161 rfl (by decide) rfl ?_
        refine r_goto C 116 dX11_trial_164 (by decide) ?_
        refine ss_wide (k' := 5) (n' := 30) (by decide) (by decide) ?_
        refine ss_ls [(5, i9 v5), (6, rf G 22), (7, i9 v7), (8, i9 v8), (9, i9 v9), (10, i9 v10), (11, i9 (v11 + 1))] [2, 3, 4, 5, 6, 7, 0] rfl ?_
        exact hk_X11_trial_0_c116 v5 v7 v8 v9 v10 (v11 + 1) d6
      · refine r_iinc C 6 [(10, i9 (v10 + 1)), (12, i9 r1), (5, i9 v5), (6, rf G 22), (7, i9 v7), (8, i9 v8), (9, i9 v9), (11, i9 v11)] dX11_trial_158 rfl (by decide) rfl ?_
        refine r_iinc C 7 [(11, i9 (v11 + 1)), (10, i9 (v10 + 1)), (12, i9 r1), (5, i9 v5), (6, rf G 22), (7, i9 v7), (8, i9 v8), (9, i9 v9)] dX11_trial_161 rfl (by decide) rfl ?_
        refine r_goto C 116 dX11_trial_164 (by decide) ?_
        refine ss_wide (k' := 5) (n' := 30) (by decide) (by decide) ?_
        refine ss_ls [(5, i9 v5), (6, rf G 22), (7, i9 v7), (8, i9 v8), (9, i9 v9), (10, i9 (v10 + 1)), (11, i9 (v11 + 1))] [3, 4, 5, 6, 7, 1, 0] rfl ?_
        exact hk_X11_trial_0_c116 v5 v7 v8 v9 (v10 + 1) (v11 + 1) d6
theorem s_X11_trial_0_c116 {G : G9} {X : X9} (C : CX G X cX11_trial 13 RX11 [] z_X11_trial_0) : ∀ (v5 v7 v8 v9 v10 v11 : Int) (d : D9), SS G X 13 5 30 116 [(5, i9 v5), (6, rf G 22), (7, i9 v7), (8, i9 v8), (9, i9 v9), (10, i9 v10), (11, i9 v11)] [] d (m_X11_trial_0_c116  v5 v7 v8 v9 v10 v11 d) :=
  fix9_ind (P := fun k => ∀ (v5 v7 v8 v9 v10 v11 : Int) (d : D9), SS G X 13 5 30 116 [(5, i9 v5), (6, rf G 22), (7, i9 v7), (8, i9 v8), (9, i9 v9), (10, i9 v10), (11, i9 v11)] [] d (k v5 v7 v8 v9 v10 v11 d)) (fun _ _ _ _ _ _ _ => ss_none) (fun k hk => sb_X11_trial_0_c116 C k hk) FU
set_option maxRecDepth 100000 in
theorem s_X11_trial_0_c83 {G : G9} {X : X9} (C : CX G X cX11_trial 13 RX11 [] z_X11_trial_0) : ∀ (v1 v2 v3 v5 v7 s0 : Int) (d : D9), SS G X 13 5 30 83 [(1, i9 v1), (2, i9 v2), (3, i9 v3), (5, i9 v5), (6, rf G 22), (7, i9 v7)] [i9 s0] d (m_X11_trial_0_c83  v1 v2 v3 v5 v7 s0 d) := by
  intro v1 v2 v3 v5 v7 s0 d
  unfold m_X11_trial_0_c83
  refine r_istore C [(8, i9 s0), (1, i9 v1), (2, i9 v2), (3, i9 v3), (5, i9 v5), (6, rf G 22), (7, i9 v7)] dX11_trial_83 (by decide) rfl ?_
  refine r_iload_n C 1 dX11_trial_85 rfl rfl ?_
  refine r_if_ne C (b := 0) 93 dX11_trial_86 (by decide) (fun _ => ?_) (fun _ => ?_)
  · refine r_aload C 5 dX11_trial_93 rfl ?_
    refine r_iload_n C 1 dX11_trial_95 rfl rfl ?_
    refine r_iconst C dX11_trial_96 ?_
    refine r_isub C dX11_trial_97 ?_
    refine r_iload_n C 2 dX11_trial_98 rfl rfl ?_
    refine r_iload_n C 3 dX11_trial_99 rfl rfl ?_
    refine r_aload C 5 dX11_trial_100 rfl ?_
    refine r_getI C dX11_trial_102 fl_X11_266 la_22 ly_22 rfl ?_
    refine r_callV C [i9 (d 22 2), i9 v3, i9 v2, i9 (v1 - 1), rf G 22] dX11_trial_105 (t_X2_grownBy_22 C.h1 C.h2 (v1 - 1) v2 v3 (d 22 2) d) mw_X11_249 mv_X2_grownBy la_22 ly_22 rfl (by decide) (by decide) (by decide) rfl rfl (Nat.le_of_ble_eq_true rfl) (fun r1 d2 => ?_)
    show SS G X 13 _ _ 108 [(8, i9 s0), (1, i9 v1), (2, i9 v2), (3, i9 v3), (5, i9 v5), (6, rf G 22), (7, i9 v7)] [i9 r1] d2 _
    refine r_istore C [(9, i9 r1), (8, i9 s0), (1, i9 v1), (2, i9 v2), (3, i9 v3), (5, i9 v5), (6, rf G 22), (7, i9 v7)] dX11_trial_108 (by decide) rfl ?_
    refine r_iconst C dX11_trial_110 ?_
    refine r_istore C [(10, i9 0), (9, i9 r1), (8, i9 s0), (1, i9 v1), (2, i9 v2), (3, i9 v3), (5, i9 v5), (6, rf G 22), (7, i9 v7)] dX11_trial_111 (by decide) rfl ?_
    refine r_iconst C dX11_trial_113 ?_
    refine r_istore C [(11, i9 1), (10, i9 0), (9, i9 r1), (8, i9 s0), (1, i9 v1), (2, i9 v2), (3, i9 v3), (5, i9 v5), (6, rf G 22), (7, i9 v7)] dX11_trial_114 (by decide) rfl ?_
    refine ss_wide (k' := 5) (n' := 30) (by decide) (by decide) ?_
    refine ss_ls [(5, i9 v5), (6, rf G 22), (7, i9 v7), (8, i9 s0), (9, i9 r1), (10, i9 0), (11, i9 1)] [7, 8, 9, 3, 2, 1, 0] rfl ?_
    exact s_X11_trial_0_c116 C  v5 v7 s0 r1 0 1 d2
  · refine r_iconst C dX11_trial_89 ?_
    refine r_goto C 108 dX11_trial_90 (by decide) ?_
    refine r_istore C [(9, i9 (-1)), (8, i9 s0), (1, i9 v1), (2, i9 v2), (3, i9 v3), (5, i9 v5), (6, rf G 22), (7, i9 v7)] dX11_trial_108 (by decide) rfl ?_
    refine r_iconst C dX11_trial_110 ?_
    refine r_istore C [(10, i9 0), (9, i9 (-1)), (8, i9 s0), (1, i9 v1), (2, i9 v2), (3, i9 v3), (5, i9 v5), (6, rf G 22), (7, i9 v7)] dX11_trial_111 (by decide) rfl ?_
    refine r_iconst C dX11_trial_113 ?_
    refine r_istore C [(11, i9 1), (10, i9 0), (9, i9 (-1)), (8, i9 s0), (1, i9 v1), (2, i9 v2), (3, i9 v3), (5, i9 v5), (6, rf G 22), (7, i9 v7)] dX11_trial_114 (by decide) rfl ?_
    refine ss_wide (k' := 5) (n' := 30) (by decide) (by decide) ?_
    refine ss_ls [(5, i9 v5), (6, rf G 22), (7, i9 v7), (8, i9 s0), (9, i9 (-1)), (10, i9 0), (11, i9 1)] [7, 8, 9, 3, 2, 1, 0] rfl ?_
    exact s_X11_trial_0_c116 C  v5 v7 s0 (-1) 0 1 d
set_option maxRecDepth 100000 in
theorem t_X11_trial_0 {G : G9} {l : Launch} (h1 : va_D (A9 G) (wl G (fun _ _ => 0))) (h2 : l.stackTraces = false) (p1 p2 p3 p4 p5 : Int) (d : D9) : MT G l yX11_trial cX11_trial 13 z_X11_trial_0 [rf G 0, i9 p1, i9 p2, i9 p3, i9 p4, i9 p5] d (m_X11_trial_0 p1 p2 p3 p4 p5 d) := by
  refine mt_of (own := RX11) (by decide) rfl (Nat.le_of_ble_eq_true rfl) h1 h2 [(0, rf G 0), (1, i9 p1), (2, i9 p2), (3, i9 p3), (4, i9 p4), (5, i9 p5)] rfl (fun X hX C => ?_)
  unfold m_X11_trial_0
  refine r_iload_n C 1 dX11_trial_0 rfl rfl ?_
  refine r_iload_n C 2 dX11_trial_1 rfl rfl ?_
  refine r_iload_n C 3 dX11_trial_2 rfl rfl ?_
  refine r_iload C 4 dX11_trial_3 rfl ?_
  refine r_callS C [i9 p4, i9 p3, i9 p2, i9 p1] dX11_trial_5 (t_X11_askDrip C.h1 C.h2 p1 p2 p3 p4 d) mw_X11_245 ms_X11_askDrip (by decide) (by decide) (by decide) rfl rfl (Nat.le_of_ble_eq_true rfl) (fun r1 d2 => ?_)
  show SS G X 13 _ _ 8 [(0, rf G 0), (1, i9 p1), (2, i9 p2), (3, i9 p3), (4, i9 p4), (5, i9 p5)] [] d2 _
  refine r_iload C 5 dX11_trial_8 rfl ?_
  refine r_iconst C dX11_trial_10 ?_
  refine r_bipush C dX11_trial_11 rfl ?_
  refine r_callS C [i9 100, i9 1, i9 p5] dX11_trial_13 (t_X11_askWithin C.h1 C.h2 p5 1 100 d2) mw_X11_73 ms_X11_askWithin (by decide) (by decide) (by decide) rfl rfl (Nat.le_of_ble_eq_true rfl) (fun r3 d4 => ?_)
  show SS G X 13 _ _ 16 [(0, rf G 0), (1, i9 p1), (2, i9 p2), (3, i9 p3), (4, i9 p4), (5, i9 p5)] [] d4 _
  refine r_aload_n C 0 dX11_trial_16 rfl rfl ?_
  refine r_getR C 1 dX11_trial_17 fl_X11_10 la_0 ly_0 rfl rfl ?_
  refine r_getR C 22 dX11_trial_20 fl_X11_137 la_1 ly_1 rfl rfl ?_
  refine r_astore C [(6, rf G 22), (0, rf G 0), (1, i9 p1), (2, i9 p2), (3, i9 p3), (4, i9 p4), (5, i9 p5)] dX11_trial_23 (by decide) rfl ?_
  refine r_aload C 0 dX11_trial_25 rfl ?_
  refine r_iload_n C 3 dX11_trial_27 rfl rfl ?_
  refine r_callV C [i9 p2, rf G 22] dX11_trial_28 (t_X2_isThin_22 C.h1 C.h2 p2 d4) mw_X11_256 mv_X2_isThin la_22 ly_22 rfl (by decide) (by decide) (by decide) rfl rfl (Nat.le_of_ble_eq_true rfl) (fun r5 d6 => ?_)
  show SS G X 13 _ _ 31 [(6, rf G 22), (0, rf G 0), (1, i9 p1), (2, i9 p2), (3, i9 p3), (4, i9 p4), (5, i9 p5)] [i9 r5] d6 _
  refine r_if_eq C (b := 0) 36 dX11_trial_31 (by decide) (fun _ => ?_) (fun _ => ?_)
  · refine r_aload C 0 dX11_trial_36 rfl ?_
    refine r_iload_n C 2 dX11_trial_38 rfl rfl ?_
    refine r_iload_n C 3 dX11_trial_39 rfl rfl ?_
    refine r_iload_n C 4 dX11_trial_40 rfl rfl ?_
    refine r_iload C 5 dX11_trial_41 rfl ?_
    refine r_callV C [i9 p4, i9 p3, i9 p2, i9 p1, rf G 22] dX11_trial_43 (t_X2_grownBy_22 C.h1 C.h2 p1 p2 p3 p4 d6) mw_X11_249 mv_X2_grownBy la_22 ly_22 rfl (by decide) (by decide) (by decide) rfl rfl (Nat.le_of_ble_eq_true rfl) (fun r7 d8 => ?_)
    show SS G X 13 _ _ 46 [(6, rf G 22), (0, rf G 0), (1, i9 p1), (2, i9 p2), (3, i9 p3), (4, i9 p4), (5, i9 p5)] [i9 r7] d8 _
    refine r_sipush C dX11_trial_46 rfl ?_
    refine r_idiv C dX11_trial_49 (by decide) ?_
    refine ss_lt (fun a9 => ?_)
    refine r_istore C [(7, i9 a9), (6, rf G 22), (0, rf G 0), (1, i9 p1), (2, i9 p2), (3, i9 p3), (4, i9 p4), (5, i9 p5)] dX11_trial_50 (by decide) rfl ?_
    refine r_iload_n C 3 dX11_trial_52 rfl rfl ?_
    refine r_sipush C dX11_trial_53 rfl ?_
    refine r_icmp_ne C 70 dX11_trial_56 (by decide) (fun _ => ?_) (fun _ => ?_)
    · refine r_aload C 1 dX11_trial_70 rfl ?_
      refine r_iload_n C 3 dX11_trial_72 rfl rfl ?_
      refine r_iload_n C 4 dX11_trial_73 rfl rfl ?_
      refine r_iload_n C 5 dX11_trial_74 rfl rfl ?_
      refine r_aload C 1 dX11_trial_75 rfl ?_
      refine r_getI C dX11_trial_77 fl_X11_263 la_22 ly_22 rfl ?_
      refine r_callV C [i9 (d8 22 3), i9 p3, i9 p2, i9 p1, rf G 22] dX11_trial_80 (t_X2_grownBy_22 C.h1 C.h2 p1 p2 p3 (d8 22 3) d8) mw_X11_249 mv_X2_grownBy la_22 ly_22 rfl (by decide) (by decide) (by decide) rfl rfl (Nat.le_of_ble_eq_true rfl) (fun r10 d11 => ?_)
      show SS G X 13 _ _ 83 [(7, i9 a9), (6, rf G 22), (0, rf G 0), (1, i9 p1), (2, i9 p2), (3, i9 p3), (4, i9 p4), (5, i9 p5)] [i9 r10] d11 _
      refine ss_wide (k' := 5) (n' := 30) (by decide) (by decide) ?_
      refine ss_ls [(1, i9 p1), (2, i9 p2), (3, i9 p3), (5, i9 p5), (6, rf G 22), (7, i9 a9)] [3, 4, 5, 7, 1, 0] rfl ?_
      exact s_X11_trial_0_c83 C  p1 p2 p3 p5 a9 r10 d11
    · refine r_aload C 1 dX11_trial_59 rfl ?_
      refine r_sipush C dX11_trial_61 rfl ?_
      refine r_callV C [i9 9999, rf G 22] dX11_trial_64 (t_X2_goalAbove_22 C.h1 C.h2 9999 d8) mw_X11_260 mv_X2_goalAbove la_22 ly_22 rfl (by decide) (by decide) (by decide) rfl rfl (Nat.le_of_ble_eq_true rfl) (fun r12 d13 => ?_)
      show SS G X 13 _ _ 67 [(7, i9 a9), (6, rf G 22), (0, rf G 0), (1, i9 p1), (2, i9 p2), (3, i9 p3), (4, i9 p4), (5, i9 p5)] [i9 r12] d13 _
      refine r_goto C 83 dX11_trial_67 (by decide) ?_
      refine ss_wide (k' := 5) (n' := 30) (by decide) (by decide) ?_
      refine ss_ls [(1, i9 p1), (2, i9 p2), (3, i9 p3), (5, i9 p5), (6, rf G 22), (7, i9 a9)] [3, 4, 5, 7, 1, 0] rfl ?_
      exact s_X11_trial_0_c83 C  p1 p2 p3 p5 a9 r12 d13
  · refine r_iconst C dX11_trial_34 ?_
    exact r_iret C dX11_trial_35 (by decide) (by decide)
theorem dX11_upper_0 : decode cX11_upper 0 = .ok (.aload_n 0, 1) := by decide +kernel
theorem dX11_upper_1 : decode cX11_upper 1 = .ok (.getfield 55, 3) := by decide +kernel
theorem dX11_upper_4 : decode cX11_upper 4 = .ok (.getfield 306, 3) := by decide +kernel
theorem dX11_upper_7 : decode cX11_upper 7 = .ok (.lreturn, 1) := by decide +kernel
abbrev z_X11_upper_0 : Z9 := (some .long, 2, 0, 0, 1, 0)
def m_X11_upper_0 (d : D9) : Option R9 := rt (d 53 0) d
set_option maxRecDepth 100000 in
theorem t_X11_upper_0 {G : G9} {l : Launch} (h1 : va_D (A9 G) (wl G (fun _ _ => 0))) (h2 : l.stackTraces = false) (d : D9) : MT G l yX11_upper cX11_upper 1 z_X11_upper_0 [rf G 0] d (m_X11_upper_0  d) := by
  refine mt_of (own := RX11) (by decide) rfl (Nat.le_of_ble_eq_true rfl) h1 h2 [(0, rf G 0)] rfl (fun X hX C => ?_)
  unfold m_X11_upper_0
  refine r_aload_n C 0 dX11_upper_0 rfl rfl ?_
  refine r_getR C 53 dX11_upper_1 fl_X11_55 la_0 ly_0 rfl rfl ?_
  refine r_getL C dX11_upper_4 fl_X11_306 la_53 ly_53 rfl ?_
  exact r_lret C dX11_upper_7 (by decide) (by decide)
theorem dX11_weights_0 : decode cX11_weights 0 = .ok (.aload_n 0, 1) := by decide +kernel
theorem dX11_weights_1 : decode cX11_weights 1 = .ok (.iload_n 2, 1) := by decide +kernel
theorem dX11_weights_2 : decode cX11_weights 2 = .ok (.invokevirtual 342, 3) := by decide +kernel
theorem dX11_weights_5 : decode cX11_weights 5 = .ok (.aload_n 0, 1) := by decide +kernel
theorem dX11_weights_6 : decode cX11_weights 6 = .ok (.getfield 62, 3) := by decide +kernel
theorem dX11_weights_9 : decode cX11_weights 9 = .ok (.getfield 345, 3) := by decide +kernel
theorem dX11_weights_12 : decode cX11_weights 12 = .ok (.iload_n 2, 1) := by decide +kernel
theorem dX11_weights_13 : decode cX11_weights 13 = .ok (.iaload, 1) := by decide +kernel
theorem dX11_weights_14 : decode cX11_weights 14 = .ok (.iconst 5, 1) := by decide +kernel
theorem dX11_weights_15 : decode cX11_weights 15 = .ok (.if_icmp .ne 18, 3) := by decide +kernel
theorem dX11_weights_18 : decode cX11_weights 18 = .ok (.aload_n 0, 1) := by decide +kernel
theorem dX11_weights_19 : decode cX11_weights 19 = .ok (.getfield 62, 3) := by decide +kernel
theorem dX11_weights_22 : decode cX11_weights 22 = .ok (.iload_n 2, 1) := by decide +kernel
theorem dX11_weights_23 : decode cX11_weights 23 = .ok (.lconst 0, 1) := by decide +kernel
theorem dX11_weights_24 : decode cX11_weights 24 = .ok (.ldc2_w 348, 3) := by decide +kernel
theorem dX11_weights_27 : decode cX11_weights 27 = .ok (.invokevirtual 350, 3) := by decide +kernel
theorem dX11_weights_30 : decode cX11_weights 30 = .ok (.ifCond .ne 5, 3) := by decide +kernel
theorem dX11_weights_33 : decode cX11_weights 33 = .ok (.iconst 0, 1) := by decide +kernel
theorem dX11_weights_34 : decode cX11_weights 34 = .ok (.ireturn, 1) := by decide +kernel
theorem dX11_weights_35 : decode cX11_weights 35 = .ok (.iload_n 1, 1) := by decide +kernel
theorem dX11_weights_36 : decode cX11_weights 36 = .ok (.ifCond .eq 16, 3) := by decide +kernel
theorem dX11_weights_39 : decode cX11_weights 39 = .ok (.aload_n 0, 1) := by decide +kernel
theorem dX11_weights_40 : decode cX11_weights 40 = .ok (.getfield 10, 3) := by decide +kernel
theorem dX11_weights_43 : decode cX11_weights 43 = .ok (.getfield 313, 3) := by decide +kernel
theorem dX11_weights_46 : decode cX11_weights 46 = .ok (.getfield 354, 3) := by decide +kernel
theorem dX11_weights_49 : decode cX11_weights 49 = .ok (.goto 13, 3) := by decide +kernel
theorem dX11_weights_52 : decode cX11_weights 52 = .ok (.aload_n 0, 1) := by decide +kernel
theorem dX11_weights_53 : decode cX11_weights 53 = .ok (.getfield 10, 3) := by decide +kernel
theorem dX11_weights_56 : decode cX11_weights 56 = .ok (.getfield 313, 3) := by decide +kernel
theorem dX11_weights_59 : decode cX11_weights 59 = .ok (.getfield 357, 3) := by decide +kernel
theorem dX11_weights_62 : decode cX11_weights 62 = .ok (.astore_n 3, 1) := by decide +kernel
theorem dX11_weights_63 : decode cX11_weights 63 = .ok (.iconst 0, 1) := by decide +kernel
theorem dX11_weights_64 : decode cX11_weights 64 = .ok (.istore 4, 2) := by decide +kernel
theorem dX11_weights_66 : decode cX11_weights 66 = .ok (.iload 4, 2) := by decide +kernel
theorem dX11_weights_68 : decode cX11_weights 68 = .ok (.iconst 5, 1) := by decide +kernel
theorem dX11_weights_69 : decode cX11_weights 69 = .ok (.if_icmp .ge 23, 3) := by decide +kernel
theorem dX11_weights_72 : decode cX11_weights 72 = .ok (.aload_n 3, 1) := by decide +kernel
theorem dX11_weights_73 : decode cX11_weights 73 = .ok (.iload 4, 2) := by decide +kernel
theorem dX11_weights_75 : decode cX11_weights 75 = .ok (.aload_n 0, 1) := by decide +kernel
theorem dX11_weights_76 : decode cX11_weights 76 = .ok (.getfield 62, 3) := by decide +kernel
theorem dX11_weights_79 : decode cX11_weights 79 = .ok (.iload_n 2, 1) := by decide +kernel
theorem dX11_weights_80 : decode cX11_weights 80 = .ok (.iload 4, 2) := by decide +kernel
theorem dX11_weights_82 : decode cX11_weights 82 = .ok (.invokevirtual 360, 3) := by decide +kernel
theorem dX11_weights_85 : decode cX11_weights 85 = .ok (.iastore, 1) := by decide +kernel
theorem dX11_weights_86 : decode cX11_weights 86 = .ok (.iinc 4 1, 3) := by decide +kernel
theorem dX11_weights_89 : decode cX11_weights 89 = .ok (.goto (-23), 3) := by decide +kernel
theorem dX11_weights_92 : decode cX11_weights 92 = .ok (.iconst 1, 1) := by decide +kernel
theorem dX11_weights_93 : decode cX11_weights 93 = .ok (.ireturn, 1) := by decide +kernel
abbrev z_X11_weights_0 : Z9 := (some .boolean, 1, 2, 12, 8, 141)
def b_X11_weights_0_c66 (k_X11_weights_0_c66 : Int → Int → D9 → Option R9) (v2 v4 : Int) (d : D9) : Option R9 := if w32 5 ≤ w32 v4 then rt (1 % 2) d else cl (m_X9_numberAt_54 v2 v4 d) (fun r1 d2 => sd d2 36 5 v4 r1 (fun d3 => k_X11_weights_0_c66 v2 (v4 + 1) d3))
def m_X11_weights_0_c66 : Int → Int → D9 → Option R9 := fix9 (fun _ _ _ => none) (fun k => b_X11_weights_0_c66 k) FU
def b_X11_weights_0_c66_1 (k_X11_weights_0_c66_1 : Int → Int → D9 → Option R9) (v2 v4 : Int) (d : D9) : Option R9 := if w32 5 ≤ w32 v4 then rt (1 % 2) d else cl (m_X9_numberAt_54 v2 v4 d) (fun r1 d2 => sd d2 37 5 v4 r1 (fun d3 => k_X11_weights_0_c66_1 v2 (v4 + 1) d3))
def m_X11_weights_0_c66_1 : Int → Int → D9 → Option R9 := fix9 (fun _ _ _ => none) (fun k => b_X11_weights_0_c66_1 k) FU
def m_X11_weights_0 (p1 p2 : Int) (d : D9) : Option R9 := cl (m_X11_askFilledTray_0 p2 d) (fun r1 d2 => ld d2 56 4 p2 (fun t3 => if w32 t3 ≠ w32 5 then rt (0 % 2) d2 else cl (m_X9_allWithin_54 p2 0 99 d2) (fun r4 d5 => if w32 r4 ≠ 0 then if w32 p1 = 0 then m_X11_weights_0_c66  p2 0 d5 else m_X11_weights_0_c66_1  p2 0 d5 else rt (0 % 2) d5)))
set_option maxRecDepth 100000 in
theorem sb_X11_weights_0_c66 {G : G9} {X : X9} (C : CX G X cX11_weights 5 RX11 [] z_X11_weights_0) (k_X11_weights_0_c66 : Int → Int → D9 → Option R9) (hk_X11_weights_0_c66 : ∀ (v2 v4 : Int) (d : D9), SS G X 5 2 12 66 [(0, rf G 0), (2, i9 v2), (3, rf G 36), (4, i9 v4)] [] d (k_X11_weights_0_c66 v2 v4 d)) : ∀ (v2 v4 : Int) (d : D9), SS G X 5 2 12 66 [(0, rf G 0), (2, i9 v2), (3, rf G 36), (4, i9 v4)] [] d (b_X11_weights_0_c66 k_X11_weights_0_c66 v2 v4 d) := by
  intro v2 v4 d
  unfold b_X11_weights_0_c66
  refine r_iload C 3 dX11_weights_66 rfl ?_
  refine r_iconst C dX11_weights_68 ?_
  refine r_icmp_ge C 92 dX11_weights_69 (by decide) (fun _ => ?_) (fun _ => ?_)
  · refine r_iconst C dX11_weights_92 ?_
    exact r_zret C dX11_weights_93 (by decide) (by decide)
  · refine r_aload_n C 2 dX11_weights_72 rfl rfl ?_
    refine r_iload C 3 dX11_weights_73 rfl ?_
    refine r_aload_n C 0 dX11_weights_75 rfl rfl ?_
    refine r_getR C 54 dX11_weights_76 fl_X11_62 la_0 ly_0 rfl rfl ?_
    refine r_iload_n C 1 dX11_weights_79 rfl rfl ?_
    refine r_iload C 3 dX11_weights_80 rfl ?_
    refine r_callV C [i9 v4, i9 v2, rf G 54, i9 v4, rf G 36] dX11_weights_82 (t_X9_numberAt_54 C.h1 C.h2 v2 v4 d) mw_X11_360 mv_X9_numberAt la_54 ly_54 rfl (by decide) (by decide) (by decide) rfl rfl (Nat.le_of_ble_eq_true rfl) (fun r1 d2 => ?_)
    show SS G X 5 _ _ 85 [(0, rf G 0), (2, i9 v2), (3, rf G 36), (4, i9 v4)] [i9 r1, i9 v4, rf G 36] d2 _
    refine r_iast C dX11_weights_85 la_36 ly_36 (fun d3 => ?_)
    refine r_iinc C 3 [(4, i9 (v4 + 1)), (0, rf G 0), (2, i9 v2), (3, rf G 36)] dX11_weights_86 rfl (by decide) rfl ?_
    refine r_goto C 66 dX11_weights_89 (by decide) ?_
    refine ss_wide (k' := 2) (n' := 12) (by decide) (by decide) ?_
    refine ss_ls [(0, rf G 0), (2, i9 v2), (3, rf G 36), (4, i9 (v4 + 1))] [1, 2, 3, 0] rfl ?_
    exact hk_X11_weights_0_c66 v2 (v4 + 1) d3
theorem s_X11_weights_0_c66 {G : G9} {X : X9} (C : CX G X cX11_weights 5 RX11 [] z_X11_weights_0) : ∀ (v2 v4 : Int) (d : D9), SS G X 5 2 12 66 [(0, rf G 0), (2, i9 v2), (3, rf G 36), (4, i9 v4)] [] d (m_X11_weights_0_c66  v2 v4 d) :=
  fix9_ind (P := fun k => ∀ (v2 v4 : Int) (d : D9), SS G X 5 2 12 66 [(0, rf G 0), (2, i9 v2), (3, rf G 36), (4, i9 v4)] [] d (k v2 v4 d)) (fun _ _ _ => ss_none) (fun k hk => sb_X11_weights_0_c66 C k hk) FU
set_option maxRecDepth 100000 in
theorem sb_X11_weights_0_c66_1 {G : G9} {X : X9} (C : CX G X cX11_weights 5 RX11 [] z_X11_weights_0) (k_X11_weights_0_c66_1 : Int → Int → D9 → Option R9) (hk_X11_weights_0_c66_1 : ∀ (v2 v4 : Int) (d : D9), SS G X 5 2 12 66 [(0, rf G 0), (2, i9 v2), (3, rf G 37), (4, i9 v4)] [] d (k_X11_weights_0_c66_1 v2 v4 d)) : ∀ (v2 v4 : Int) (d : D9), SS G X 5 2 12 66 [(0, rf G 0), (2, i9 v2), (3, rf G 37), (4, i9 v4)] [] d (b_X11_weights_0_c66_1 k_X11_weights_0_c66_1 v2 v4 d) := by
  intro v2 v4 d
  unfold b_X11_weights_0_c66_1
  refine r_iload C 3 dX11_weights_66 rfl ?_
  refine r_iconst C dX11_weights_68 ?_
  refine r_icmp_ge C 92 dX11_weights_69 (by decide) (fun _ => ?_) (fun _ => ?_)
  · refine r_iconst C dX11_weights_92 ?_
    exact r_zret C dX11_weights_93 (by decide) (by decide)
  · refine r_aload_n C 2 dX11_weights_72 rfl rfl ?_
    refine r_iload C 3 dX11_weights_73 rfl ?_
    refine r_aload_n C 0 dX11_weights_75 rfl rfl ?_
    refine r_getR C 54 dX11_weights_76 fl_X11_62 la_0 ly_0 rfl rfl ?_
    refine r_iload_n C 1 dX11_weights_79 rfl rfl ?_
    refine r_iload C 3 dX11_weights_80 rfl ?_
    refine r_callV C [i9 v4, i9 v2, rf G 54, i9 v4, rf G 37] dX11_weights_82 (t_X9_numberAt_54 C.h1 C.h2 v2 v4 d) mw_X11_360 mv_X9_numberAt la_54 ly_54 rfl (by decide) (by decide) (by decide) rfl rfl (Nat.le_of_ble_eq_true rfl) (fun r1 d2 => ?_)
    show SS G X 5 _ _ 85 [(0, rf G 0), (2, i9 v2), (3, rf G 37), (4, i9 v4)] [i9 r1, i9 v4, rf G 37] d2 _
    refine r_iast C dX11_weights_85 la_37 ly_37 (fun d3 => ?_)
    refine r_iinc C 3 [(4, i9 (v4 + 1)), (0, rf G 0), (2, i9 v2), (3, rf G 37)] dX11_weights_86 rfl (by decide) rfl ?_
    refine r_goto C 66 dX11_weights_89 (by decide) ?_
    refine ss_wide (k' := 2) (n' := 12) (by decide) (by decide) ?_
    refine ss_ls [(0, rf G 0), (2, i9 v2), (3, rf G 37), (4, i9 (v4 + 1))] [1, 2, 3, 0] rfl ?_
    exact hk_X11_weights_0_c66_1 v2 (v4 + 1) d3
theorem s_X11_weights_0_c66_1 {G : G9} {X : X9} (C : CX G X cX11_weights 5 RX11 [] z_X11_weights_0) : ∀ (v2 v4 : Int) (d : D9), SS G X 5 2 12 66 [(0, rf G 0), (2, i9 v2), (3, rf G 37), (4, i9 v4)] [] d (m_X11_weights_0_c66_1  v2 v4 d) :=
  fix9_ind (P := fun k => ∀ (v2 v4 : Int) (d : D9), SS G X 5 2 12 66 [(0, rf G 0), (2, i9 v2), (3, rf G 37), (4, i9 v4)] [] d (k v2 v4 d)) (fun _ _ _ => ss_none) (fun k hk => sb_X11_weights_0_c66_1 C k hk) FU
set_option maxRecDepth 100000 in
theorem t_X11_weights_0 {G : G9} {l : Launch} (h1 : va_D (A9 G) (wl G (fun _ _ => 0))) (h2 : l.stackTraces = false) (p1 p2 : Int) (d : D9) : MT G l yX11_weights cX11_weights 5 z_X11_weights_0 [rf G 0, i9 p1, i9 p2] d (m_X11_weights_0 p1 p2 d) := by
  refine mt_of (own := RX11) (by decide) rfl (Nat.le_of_ble_eq_true rfl) h1 h2 [(0, rf G 0), (1, i9 p1), (2, i9 p2)] rfl (fun X hX C => ?_)
  unfold m_X11_weights_0
  refine r_aload_n C 0 dX11_weights_0 rfl rfl ?_
  refine r_iload_n C 2 dX11_weights_1 rfl rfl ?_
  refine r_callV C [i9 p2, rf G 0] dX11_weights_2 (t_X11_askFilledTray_0 C.h1 C.h2 p2 d) mw_X11_342 mv_X11_askFilledTray la_0 ly_0 rfl (by decide) (by decide) (by decide) rfl rfl (Nat.le_of_ble_eq_true rfl) (fun r1 d2 => ?_)
  show SS G X 5 _ _ 5 [(0, rf G 0), (1, i9 p1), (2, i9 p2)] [] d2 _
  refine r_aload_n C 0 dX11_weights_5 rfl rfl ?_
  refine r_getR C 54 dX11_weights_6 fl_X11_62 la_0 ly_0 rfl rfl ?_
  refine r_getR C 56 dX11_weights_9 fl_X11_345 la_54 ly_54 rfl rfl ?_
  refine r_iload_n C 2 dX11_weights_12 rfl rfl ?_
  refine r_iald C dX11_weights_13 la_56 ly_56 (fun t3 => ?_)
  refine r_iconst C dX11_weights_14 ?_
  refine r_icmp_ne C 33 dX11_weights_15 (by decide) (fun _ => ?_) (fun _ => ?_)
  · refine r_iconst C dX11_weights_33 ?_
    exact r_zret C dX11_weights_34 (by decide) (by decide)
  · refine r_aload_n C 0 dX11_weights_18 rfl rfl ?_
    refine r_getR C 54 dX11_weights_19 fl_X11_62 la_0 ly_0 rfl rfl ?_
    refine r_iload_n C 2 dX11_weights_22 rfl rfl ?_
    refine r_lconst C dX11_weights_23 (a := 0) rfl ?_
    refine r_ldcL C dX11_weights_24 kc_X11_348 ?_
    refine r_callV C [l9 99, l9 0, i9 p2, rf G 54] dX11_weights_27 (t_X9_allWithin_54 C.h1 C.h2 p2 0 99 d2) mw_X11_350 mv_X9_allWithin la_54 ly_54 rfl (by decide) (by decide) (by decide) rfl rfl (Nat.le_of_ble_eq_true rfl) (fun r4 d5 => ?_)
    show SS G X 5 _ _ 30 [(0, rf G 0), (1, i9 p1), (2, i9 p2)] [i9 r4] d5 _
    refine r_if_ne C (b := 0) 35 dX11_weights_30 (by decide) (fun _ => ?_) (fun _ => ?_)
    · refine r_iload_n C 1 dX11_weights_35 rfl rfl ?_
      refine r_if_eq C (b := 0) 52 dX11_weights_36 (by decide) (fun _ => ?_) (fun _ => ?_)
      · refine r_aload_n C 0 dX11_weights_52 rfl rfl ?_
        refine r_getR C 1 dX11_weights_53 fl_X11_10 la_0 ly_0 rfl rfl ?_
        refine r_getR C 33 dX11_weights_56 fl_X11_313 la_1 ly_1 rfl rfl ?_
        refine r_getR C 36 dX11_weights_59 fl_X11_357 la_33 ly_33 rfl rfl ?_
        refine r_astore_n C [(3, rf G 36), (0, rf G 0), (1, i9 p1), (2, i9 p2)] dX11_weights_62 rfl (by decide) rfl ?_
        refine r_iconst C dX11_weights_63 ?_
        refine r_istore C [(4, i9 0), (3, rf G 36), (0, rf G 0), (1, i9 p1), (2, i9 p2)] dX11_weights_64 (by decide) rfl ?_
        refine ss_wide (k' := 2) (n' := 12) (by decide) (by decide) ?_
        refine ss_ls [(0, rf G 0), (2, i9 p2), (3, rf G 36), (4, i9 0)] [2, 4, 1, 0] rfl ?_
        exact s_X11_weights_0_c66 C  p2 0 d5
      · refine r_aload_n C 0 dX11_weights_39 rfl rfl ?_
        refine r_getR C 1 dX11_weights_40 fl_X11_10 la_0 ly_0 rfl rfl ?_
        refine r_getR C 33 dX11_weights_43 fl_X11_313 la_1 ly_1 rfl rfl ?_
        refine r_getR C 37 dX11_weights_46 fl_X11_354 la_33 ly_33 rfl rfl ?_
        refine r_goto C 62 dX11_weights_49 (by decide) ?_
        refine r_astore_n C [(3, rf G 37), (0, rf G 0), (1, i9 p1), (2, i9 p2)] dX11_weights_62 rfl (by decide) rfl ?_
        refine r_iconst C dX11_weights_63 ?_
        refine r_istore C [(4, i9 0), (3, rf G 37), (0, rf G 0), (1, i9 p1), (2, i9 p2)] dX11_weights_64 (by decide) rfl ?_
        refine ss_wide (k' := 2) (n' := 12) (by decide) (by decide) ?_
        refine ss_ls [(0, rf G 0), (2, i9 p2), (3, rf G 37), (4, i9 0)] [2, 4, 1, 0] rfl ?_
        exact s_X11_weights_0_c66_1 C  p2 0 d5
    · refine r_iconst C dX11_weights_33 ?_
      exact r_zret C dX11_weights_34 (by decide) (by decide)
theorem dX10_whoInto_0 : decode cX10_whoInto 0 = .ok (.aload_n 0, 1) := by decide +kernel
theorem dX10_whoInto_1 : decode cX10_whoInto 1 = .ok (.iload_n 1, 1) := by decide +kernel
theorem dX10_whoInto_2 : decode cX10_whoInto 2 = .ok (.invokevirtual 89, 3) := by decide +kernel
theorem dX10_whoInto_5 : decode cX10_whoInto 5 = .ok (.istore 4, 2) := by decide +kernel
theorem dX10_whoInto_7 : decode cX10_whoInto 7 = .ok (.iconst 0, 1) := by decide +kernel
theorem dX10_whoInto_8 : decode cX10_whoInto 8 = .ok (.istore 5, 2) := by decide +kernel
theorem dX10_whoInto_10 : decode cX10_whoInto 10 = .ok (.iconst 0, 1) := by decide +kernel
theorem dX10_whoInto_11 : decode cX10_whoInto 11 = .ok (.istore 6, 2) := by decide +kernel
theorem dX10_whoInto_13 : decode cX10_whoInto 13 = .ok (.aload_n 0, 1) := by decide +kernel
theorem dX10_whoInto_14 : decode cX10_whoInto 14 = .ok (.iload_n 1, 1) := by decide +kernel
theorem dX10_whoInto_15 : decode cX10_whoInto 15 = .ok (.invokevirtual 86, 3) := by decide +kernel
theorem dX10_whoInto_18 : decode cX10_whoInto 18 = .ok (.istore 7, 2) := by decide +kernel
theorem dX10_whoInto_20 : decode cX10_whoInto 20 = .ok (.iload 7, 2) := by decide +kernel
theorem dX10_whoInto_22 : decode cX10_whoInto 22 = .ok (.iload 4, 2) := by decide +kernel
theorem dX10_whoInto_24 : decode cX10_whoInto 24 = .ok (.if_icmp .gt 59, 3) := by decide +kernel
theorem dX10_whoInto_27 : decode cX10_whoInto 27 = .ok (.aload_n 0, 1) := by decide +kernel
theorem dX10_whoInto_28 : decode cX10_whoInto 28 = .ok (.iload_n 1, 1) := by decide +kernel
theorem dX10_whoInto_29 : decode cX10_whoInto 29 = .ok (.iload 7, 2) := by decide +kernel
theorem dX10_whoInto_31 : decode cX10_whoInto 31 = .ok (.invokevirtual 193, 3) := by decide +kernel
theorem dX10_whoInto_34 : decode cX10_whoInto 34 = .ok (.ifCond .eq 43, 3) := by decide +kernel
theorem dX10_whoInto_37 : decode cX10_whoInto 37 = .ok (.aload_n 0, 1) := by decide +kernel
theorem dX10_whoInto_38 : decode cX10_whoInto 38 = .ok (.getfield 35, 3) := by decide +kernel
theorem dX10_whoInto_41 : decode cX10_whoInto 41 = .ok (.iload 7, 2) := by decide +kernel
theorem dX10_whoInto_43 : decode cX10_whoInto 43 = .ok (.invokevirtual 196, 3) := by decide +kernel
theorem dX10_whoInto_46 : decode cX10_whoInto 46 = .ok (.istore 8, 2) := by decide +kernel
theorem dX10_whoInto_48 : decode cX10_whoInto 48 = .ok (.iload 6, 2) := by decide +kernel
theorem dX10_whoInto_50 : decode cX10_whoInto 50 = .ok (.iload 8, 2) := by decide +kernel
theorem dX10_whoInto_52 : decode cX10_whoInto 52 = .ok (.invokestatic 199, 3) := by decide +kernel
theorem dX10_whoInto_55 : decode cX10_whoInto 55 = .ok (.iadd, 1) := by decide +kernel
theorem dX10_whoInto_56 : decode cX10_whoInto 56 = .ok (.istore 6, 2) := by decide +kernel
theorem dX10_whoInto_58 : decode cX10_whoInto 58 = .ok (.iload 5, 2) := by decide +kernel
theorem dX10_whoInto_60 : decode cX10_whoInto 60 = .ok (.iload 8, 2) := by decide +kernel
theorem dX10_whoInto_62 : decode cX10_whoInto 62 = .ok (.iload_n 2, 1) := by decide +kernel
theorem dX10_whoInto_63 : decode cX10_whoInto 63 = .ok (.invokestatic 100, 3) := by decide +kernel
theorem dX10_whoInto_66 : decode cX10_whoInto 66 = .ok (.ifCond .eq 7, 3) := by decide +kernel
theorem dX10_whoInto_69 : decode cX10_whoInto 69 = .ok (.iconst 1, 1) := by decide +kernel
theorem dX10_whoInto_70 : decode cX10_whoInto 70 = .ok (.goto 4, 3) := by decide +kernel
theorem dX10_whoInto_73 : decode cX10_whoInto 73 = .ok (.iconst 0, 1) := by decide +kernel
theorem dX10_whoInto_74 : decode cX10_whoInto 74 = .ok (.iadd, 1) := by decide +kernel
theorem dX10_whoInto_75 : decode cX10_whoInto 75 = .ok (.istore 5, 2) := by decide +kernel
theorem dX10_whoInto_77 : decode cX10_whoInto 77 = .ok (.iinc 7 1, 3) := by decide +kernel
theorem dX10_whoInto_80 : decode cX10_whoInto 80 = .ok (.goto (-60), 3) := by decide +kernel
theorem dX10_whoInto_83 : decode cX10_whoInto 83 = .ok (.aload_n 3, 1) := by decide +kernel
theorem dX10_whoInto_84 : decode cX10_whoInto 84 = .ok (.iload 5, 2) := by decide +kernel
theorem dX10_whoInto_86 : decode cX10_whoInto 86 = .ok (.i2l, 1) := by decide +kernel
theorem dX10_whoInto_87 : decode cX10_whoInto 87 = .ok (.iload 6, 2) := by decide +kernel
theorem dX10_whoInto_89 : decode cX10_whoInto 89 = .ok (.i2l, 1) := by decide +kernel
theorem dX10_whoInto_90 : decode cX10_whoInto 90 = .ok (.invokevirtual 127, 3) := by decide +kernel
theorem dX10_whoInto_93 : decode cX10_whoInto 93 = .ok (.ireturn, 1) := by decide +kernel
abbrev z_X10_whoInto_1_53 : Z9 := (some .boolean, 1, 0, 0, 5, 105)
def b_X10_whoInto_1_53_c20 (k_X10_whoInto_1_53_c20 : Int → Int → Int → Int → Int → Int → D9 → Option R9) (v1 v2 v4 v5 v6 v7 : Int) (d : D9) : Option R9 := if w32 v4 < w32 v7 then cl (m_X0_put_53 (w32 v5) (w32 v6) d) (fun r1 d2 => rt (r1 % 2) d2) else cl (m_X10_livesAt_1 v1 v7 d) (fun r3 d4 => if w32 r3 = 0 then k_X10_whoInto_1_53_c20 v1 v2 v4 v5 v6 (v7 + 1) d4 else cl (m_X7_peoplesAt_23 v7 d4) (fun r5 d6 => cl (m_J6_bitCount_0f7a4 r5 d6) (fun r7 d8 => lt9v (v6 + r7) (fun a9 => cl (m_X11_isIn r5 v2 d8) (fun r10 d11 => if w32 r10 = 0 then lt9v (v5 + 0) (fun a12 => k_X10_whoInto_1_53_c20 v1 v2 v4 a12 a9 (v7 + 1) d11) else lt9v (v5 + 1) (fun a13 => k_X10_whoInto_1_53_c20 v1 v2 v4 a13 a9 (v7 + 1) d11))))))
def m_X10_whoInto_1_53_c20 : Int → Int → Int → Int → Int → Int → D9 → Option R9 := fix9 (fun _ _ _ _ _ _ _ => none) (fun k => b_X10_whoInto_1_53_c20 k) FU
def m_X10_whoInto_1_53 (p1 p2 : Int) (d : D9) : Option R9 := cl (m_X10_mostOf_1 p1 d) (fun r1 d2 => cl (m_X10_leastOf_1 p1 d2) (fun r3 d4 => m_X10_whoInto_1_53_c20  p1 p2 r1 0 0 r3 d4))
set_option maxRecDepth 100000 in
theorem sb_X10_whoInto_1_53_c20 {G : G9} {X : X9} (C : CX G X cX10_whoInto 9 RX10 [] z_X10_whoInto_1_53) (k_X10_whoInto_1_53_c20 : Int → Int → Int → Int → Int → Int → D9 → Option R9) (hk_X10_whoInto_1_53_c20 : ∀ (v1 v2 v4 v5 v6 v7 : Int) (d : D9), SS G X 9 0 0 20 [(0, rf G 1), (1, i9 v1), (2, i9 v2), (3, rf G 53), (4, i9 v4), (5, i9 v5), (6, i9 v6), (7, i9 v7)] [] d (k_X10_whoInto_1_53_c20 v1 v2 v4 v5 v6 v7 d)) : ∀ (v1 v2 v4 v5 v6 v7 : Int) (d : D9), SS G X 9 0 0 20 [(0, rf G 1), (1, i9 v1), (2, i9 v2), (3, rf G 53), (4, i9 v4), (5, i9 v5), (6, i9 v6), (7, i9 v7)] [] d (b_X10_whoInto_1_53_c20 k_X10_whoInto_1_53_c20 v1 v2 v4 v5 v6 v7 d) := by
  intro v1 v2 v4 v5 v6 v7 d
  unfold b_X10_whoInto_1_53_c20
  refine r_iload C 7 dX10_whoInto_20 rfl ?_
  refine r_iload C 4 dX10_whoInto_22 rfl ?_
  refine r_icmp_gt C 83 dX10_whoInto_24 (by decide) (fun _ => ?_) (fun _ => ?_)
  · refine r_aload_n C 3 dX10_whoInto_83 rfl rfl ?_
    refine r_iload C 5 dX10_whoInto_84 rfl ?_
    refine r_i2l C dX10_whoInto_86 ?_
    refine r_iload C 6 dX10_whoInto_87 rfl ?_
    refine r_i2l C dX10_whoInto_89 ?_
    refine r_callV C [l9 (w32 v6), l9 (w32 v5), rf G 53] dX10_whoInto_90 (t_X0_put_53 C.h1 C.h2 (w32 v5) (w32 v6) d) mw_X10_127 mv_X0_put la_53 ly_53 rfl (by decide) (by decide) (by decide) rfl rfl (Nat.le_of_ble_eq_true rfl) (fun r1 d2 => ?_)
    show SS G X 9 _ _ 93 [(0, rf G 1), (1, i9 v1), (2, i9 v2), (3, rf G 53), (4, i9 v4), (5, i9 v5), (6, i9 v6), (7, i9 v7)] [i9 r1] d2 _
    exact r_zret C dX10_whoInto_93 (by decide) (by decide)
  · refine r_aload_n C 0 dX10_whoInto_27 rfl rfl ?_
    refine r_iload_n C 1 dX10_whoInto_28 rfl rfl ?_
    refine r_iload C 7 dX10_whoInto_29 rfl ?_
    refine r_callV C [i9 v7, i9 v1, rf G 1] dX10_whoInto_31 (t_X10_livesAt_1 C.h1 C.h2 v1 v7 d) mw_X10_193 mv_X10_livesAt la_1 ly_1 rfl (by decide) (by decide) (by decide) rfl rfl (Nat.le_of_ble_eq_true rfl) (fun r3 d4 => ?_)
    show SS G X 9 _ _ 34 [(0, rf G 1), (1, i9 v1), (2, i9 v2), (3, rf G 53), (4, i9 v4), (5, i9 v5), (6, i9 v6), (7, i9 v7)] [i9 r3] d4 _
    refine r_if_eq C (b := 0) 77 dX10_whoInto_34 (by decide) (fun _ => ?_) (fun _ => ?_)
    · refine r_iinc C 7 [(7, i9 (v7 + 1)), (0, rf G 1), (1, i9 v1), (2, i9 v2), (3, rf G 53), (4, i9 v4), (5, i9 v5), (6, i9 v6)] dX10_whoInto_77 rfl (by decide) rfl ?_
      refine r_goto C 20 dX10_whoInto_80 (by decide) ?_
      refine ss_wide (k' := 0) (n' := 0) (by decide) (by decide) ?_
      refine ss_ls [(0, rf G 1), (1, i9 v1), (2, i9 v2), (3, rf G 53), (4, i9 v4), (5, i9 v5), (6, i9 v6), (7, i9 (v7 + 1))] [1, 2, 3, 4, 5, 6, 7, 0] rfl ?_
      exact hk_X10_whoInto_1_53_c20 v1 v2 v4 v5 v6 (v7 + 1) d4
    · refine r_aload_n C 0 dX10_whoInto_37 rfl rfl ?_
      refine r_getR C 23 dX10_whoInto_38 fl_X10_35 la_1 ly_1 rfl rfl ?_
      refine r_iload C 7 dX10_whoInto_41 rfl ?_
      refine r_callV C [i9 v7, rf G 23] dX10_whoInto_43 (t_X7_peoplesAt_23 C.h1 C.h2 v7 d4) mw_X10_196 mv_X7_peoplesAt la_23 ly_23 rfl (by decide) (by decide) (by decide) rfl rfl (Nat.le_of_ble_eq_true rfl) (fun r5 d6 => ?_)
      show SS G X 9 _ _ 46 [(0, rf G 1), (1, i9 v1), (2, i9 v2), (3, rf G 53), (4, i9 v4), (5, i9 v5), (6, i9 v6), (7, i9 v7)] [i9 r5] d6 _
      refine r_istore C [(8, i9 r5), (0, rf G 1), (1, i9 v1), (2, i9 v2), (3, rf G 53), (4, i9 v4), (5, i9 v5), (6, i9 v6), (7, i9 v7)] dX10_whoInto_46 (by decide) rfl ?_
      refine r_iload C 7 dX10_whoInto_48 rfl ?_
      refine r_iload C 0 dX10_whoInto_50 rfl ?_
      refine r_callS C [i9 r5, i9 v6] dX10_whoInto_52 (t_J6_bitCount_0f7a4 C.h1 C.h2 r5 d6) mw_X10_199 ms_J6_bitCount_0f7a4 (by decide) (by decide) (by decide) rfl rfl (Nat.le_of_ble_eq_true rfl) (fun r7 d8 => ?_)
      show SS G X 9 _ _ 55 [(8, i9 r5), (0, rf G 1), (1, i9 v1), (2, i9 v2), (3, rf G 53), (4, i9 v4), (5, i9 v5), (6, i9 v6), (7, i9 v7)] [i9 r7, i9 v6] d8 _
      refine r_iadd C dX10_whoInto_55 ?_
      refine ss_lt (fun a9 => ?_)
      refine r_istore C [(6, i9 a9), (8, i9 r5), (0, rf G 1), (1, i9 v1), (2, i9 v2), (3, rf G 53), (4, i9 v4), (5, i9 v5), (7, i9 v7)] dX10_whoInto_56 (by decide) rfl ?_
      refine r_iload C 7 dX10_whoInto_58 rfl ?_
      refine r_iload C 1 dX10_whoInto_60 rfl ?_
      refine r_iload_n C 4 dX10_whoInto_62 rfl rfl ?_
      refine r_callN C [i9 v2, i9 r5, i9 v5] dX10_whoInto_63 (t_X11_isIn C.h1 C.h2 r5 v2 d8) (n_X11_isIn r5 v2 d8) mn_X10_100 ms_X11_isIn (by decide) (by decide) (by decide) rfl rfl (Nat.le_of_ble_eq_true rfl) (fun r10 d11 => ?_)
      show SS G X 9 _ _ 66 [(6, i9 a9), (8, i9 r5), (0, rf G 1), (1, i9 v1), (2, i9 v2), (3, rf G 53), (4, i9 v4), (5, i9 v5), (7, i9 v7)] [i9 r10, i9 v5] d11 _
      refine r_if_eq C (b := 0) 73 dX10_whoInto_66 (by decide) (fun _ => ?_) (fun _ => ?_)
      · refine r_iconst C dX10_whoInto_73 ?_
        refine r_iadd C dX10_whoInto_74 ?_
        refine ss_lt (fun a12 => ?_)
        refine r_istore C [(5, i9 a12), (6, i9 a9), (8, i9 r5), (0, rf G 1), (1, i9 v1), (2, i9 v2), (3, rf G 53), (4, i9 v4), (7, i9 v7)] dX10_whoInto_75 (by decide) rfl ?_
        refine r_iinc C 8 [(7, i9 (v7 + 1)), (5, i9 a12), (6, i9 a9), (8, i9 r5), (0, rf G 1), (1, i9 v1), (2, i9 v2), (3, rf G 53), (4, i9 v4)] dX10_whoInto_77 rfl (by decide) rfl ?_
        refine r_goto C 20 dX10_whoInto_80 (by decide) ?_
        refine ss_wide (k' := 0) (n' := 0) (by decide) (by decide) ?_
        refine ss_ls [(0, rf G 1), (1, i9 v1), (2, i9 v2), (3, rf G 53), (4, i9 v4), (5, i9 a12), (6, i9 a9), (7, i9 (v7 + 1))] [4, 5, 6, 7, 8, 1, 2, 0] rfl ?_
        exact hk_X10_whoInto_1_53_c20 v1 v2 v4 a12 a9 (v7 + 1) d11
      · refine r_iconst C dX10_whoInto_69 ?_
        refine r_goto C 74 dX10_whoInto_70 (by decide) ?_
        refine r_iadd C dX10_whoInto_74 ?_
        refine ss_lt (fun a13 => ?_)
        refine r_istore C [(5, i9 a13), (6, i9 a9), (8, i9 r5), (0, rf G 1), (1, i9 v1), (2, i9 v2), (3, rf G 53), (4, i9 v4), (7, i9 v7)] dX10_whoInto_75 (by decide) rfl ?_
        refine r_iinc C 8 [(7, i9 (v7 + 1)), (5, i9 a13), (6, i9 a9), (8, i9 r5), (0, rf G 1), (1, i9 v1), (2, i9 v2), (3, rf G 53), (4, i9 v4)] dX10_whoInto_77 rfl (by decide) rfl ?_
        refine r_goto C 20 dX10_whoInto_80 (by decide) ?_
        refine ss_wide (k' := 0) (n' := 0) (by decide) (by decide) ?_
        refine ss_ls [(0, rf G 1), (1, i9 v1), (2, i9 v2), (3, rf G 53), (4, i9 v4), (5, i9 a13), (6, i9 a9), (7, i9 (v7 + 1))] [4, 5, 6, 7, 8, 1, 2, 0] rfl ?_
        exact hk_X10_whoInto_1_53_c20 v1 v2 v4 a13 a9 (v7 + 1) d11
theorem s_X10_whoInto_1_53_c20 {G : G9} {X : X9} (C : CX G X cX10_whoInto 9 RX10 [] z_X10_whoInto_1_53) : ∀ (v1 v2 v4 v5 v6 v7 : Int) (d : D9), SS G X 9 0 0 20 [(0, rf G 1), (1, i9 v1), (2, i9 v2), (3, rf G 53), (4, i9 v4), (5, i9 v5), (6, i9 v6), (7, i9 v7)] [] d (m_X10_whoInto_1_53_c20  v1 v2 v4 v5 v6 v7 d) :=
  fix9_ind (P := fun k => ∀ (v1 v2 v4 v5 v6 v7 : Int) (d : D9), SS G X 9 0 0 20 [(0, rf G 1), (1, i9 v1), (2, i9 v2), (3, rf G 53), (4, i9 v4), (5, i9 v5), (6, i9 v6), (7, i9 v7)] [] d (k v1 v2 v4 v5 v6 v7 d)) (fun _ _ _ _ _ _ _ => ss_none) (fun k hk => sb_X10_whoInto_1_53_c20 C k hk) FU
set_option maxRecDepth 100000 in
theorem t_X10_whoInto_1_53 {G : G9} {l : Launch} (h1 : va_D (A9 G) (wl G (fun _ _ => 0))) (h2 : l.stackTraces = false) (p1 p2 : Int) (d : D9) : MT G l yX10_whoInto cX10_whoInto 9 z_X10_whoInto_1_53 [rf G 1, i9 p1, i9 p2, rf G 53] d (m_X10_whoInto_1_53 p1 p2 d) := by
  refine mt_of (own := RX10) (by decide) rfl (Nat.le_of_ble_eq_true rfl) h1 h2 [(0, rf G 1), (1, i9 p1), (2, i9 p2), (3, rf G 53)] rfl (fun X hX C => ?_)
  unfold m_X10_whoInto_1_53
  refine r_aload_n C 0 dX10_whoInto_0 rfl rfl ?_
  refine r_iload_n C 1 dX10_whoInto_1 rfl rfl ?_
  refine r_callV C [i9 p1, rf G 1] dX10_whoInto_2 (t_X10_mostOf_1 C.h1 C.h2 p1 d) mw_X10_89 mv_X10_mostOf la_1 ly_1 rfl (by decide) (by decide) (by decide) rfl rfl (Nat.le_of_ble_eq_true rfl) (fun r1 d2 => ?_)
  show SS G X 9 _ _ 5 [(0, rf G 1), (1, i9 p1), (2, i9 p2), (3, rf G 53)] [i9 r1] d2 _
  refine r_istore C [(4, i9 r1), (0, rf G 1), (1, i9 p1), (2, i9 p2), (3, rf G 53)] dX10_whoInto_5 (by decide) rfl ?_
  refine r_iconst C dX10_whoInto_7 ?_
  refine r_istore C [(5, i9 0), (4, i9 r1), (0, rf G 1), (1, i9 p1), (2, i9 p2), (3, rf G 53)] dX10_whoInto_8 (by decide) rfl ?_
  refine r_iconst C dX10_whoInto_10 ?_
  refine r_istore C [(6, i9 0), (5, i9 0), (4, i9 r1), (0, rf G 1), (1, i9 p1), (2, i9 p2), (3, rf G 53)] dX10_whoInto_11 (by decide) rfl ?_
  refine r_aload_n C 3 dX10_whoInto_13 rfl rfl ?_
  refine r_iload_n C 4 dX10_whoInto_14 rfl rfl ?_
  refine r_callV C [i9 p1, rf G 1] dX10_whoInto_15 (t_X10_leastOf_1 C.h1 C.h2 p1 d2) mw_X10_86 mv_X10_leastOf la_1 ly_1 rfl (by decide) (by decide) (by decide) rfl rfl (Nat.le_of_ble_eq_true rfl) (fun r3 d4 => ?_)
  show SS G X 9 _ _ 18 [(6, i9 0), (5, i9 0), (4, i9 r1), (0, rf G 1), (1, i9 p1), (2, i9 p2), (3, rf G 53)] [i9 r3] d4 _
  refine r_istore C [(7, i9 r3), (6, i9 0), (5, i9 0), (4, i9 r1), (0, rf G 1), (1, i9 p1), (2, i9 p2), (3, rf G 53)] dX10_whoInto_18 (by decide) rfl ?_
  refine ss_wide (k' := 0) (n' := 0) (by decide) (by decide) ?_
  refine ss_ls [(0, rf G 1), (1, i9 p1), (2, i9 p2), (3, rf G 53), (4, i9 r1), (5, i9 0), (6, i9 0), (7, i9 r3)] [4, 5, 6, 7, 3, 2, 1, 0] rfl ?_
  exact s_X10_whoInto_1_53_c20 C  p1 p2 r1 0 0 r3 d4
theorem dX11_who_0 : decode cX11_who 0 = .ok (.aload_n 0, 1) := by decide +kernel
theorem dX11_who_1 : decode cX11_who 1 = .ok (.iload_n 1, 1) := by decide +kernel
theorem dX11_who_2 : decode cX11_who 2 = .ok (.invokevirtual 103, 3) := by decide +kernel
theorem dX11_who_5 : decode cX11_who 5 = .ok (.iload_n 2, 1) := by decide +kernel
theorem dX11_who_6 : decode cX11_who 6 = .ok (.iconst 0, 1) := by decide +kernel
theorem dX11_who_7 : decode cX11_who 7 = .ok (.iconst 5, 1) := by decide +kernel
theorem dX11_who_8 : decode cX11_who 8 = .ok (.invokestatic 73, 3) := by decide +kernel
theorem dX11_who_11 : decode cX11_who 11 = .ok (.aload_n 0, 1) := by decide +kernel
theorem dX11_who_12 : decode cX11_who 12 = .ok (.getfield 10, 3) := by decide +kernel
theorem dX11_who_15 : decode cX11_who 15 = .ok (.iload_n 1, 1) := by decide +kernel
theorem dX11_who_16 : decode cX11_who 16 = .ok (.iload_n 2, 1) := by decide +kernel
theorem dX11_who_17 : decode cX11_who 17 = .ok (.aload_n 0, 1) := by decide +kernel
theorem dX11_who_18 : decode cX11_who 18 = .ok (.getfield 55, 3) := by decide +kernel
theorem dX11_who_21 : decode cX11_who 21 = .ok (.invokevirtual 366, 3) := by decide +kernel
theorem dX11_who_24 : decode cX11_who 24 = .ok (.ireturn, 1) := by decide +kernel
abbrev z_X11_who_0 : Z9 := (some .boolean, 1, 2, 12, 7, 133)
def m_X11_who_0 (p1 p2 : Int) (d : D9) : Option R9 := cl (m_X11_askPaint_0 p1 d) (fun r1 d2 => cl (m_X11_askWithin p2 0 5 d2) (fun r3 d4 => cl (m_X10_whoInto_1_53 p1 p2 d4) (fun r5 d6 => rt (r5 % 2) d6)))
set_option maxRecDepth 100000 in
theorem t_X11_who_0 {G : G9} {l : Launch} (h1 : va_D (A9 G) (wl G (fun _ _ => 0))) (h2 : l.stackTraces = false) (p1 p2 : Int) (d : D9) : MT G l yX11_who cX11_who 3 z_X11_who_0 [rf G 0, i9 p1, i9 p2] d (m_X11_who_0 p1 p2 d) := by
  refine mt_of (own := RX11) (by decide) rfl (Nat.le_of_ble_eq_true rfl) h1 h2 [(0, rf G 0), (1, i9 p1), (2, i9 p2)] rfl (fun X hX C => ?_)
  unfold m_X11_who_0
  refine r_aload_n C 0 dX11_who_0 rfl rfl ?_
  refine r_iload_n C 1 dX11_who_1 rfl rfl ?_
  refine r_callV C [i9 p1, rf G 0] dX11_who_2 (t_X11_askPaint_0 C.h1 C.h2 p1 d) mw_X11_103 mv_X11_askPaint la_0 ly_0 rfl (by decide) (by decide) (by decide) rfl rfl (Nat.le_of_ble_eq_true rfl) (fun r1 d2 => ?_)
  show SS G X 3 _ _ 5 [(0, rf G 0), (1, i9 p1), (2, i9 p2)] [] d2 _
  refine r_iload_n C 2 dX11_who_5 rfl rfl ?_
  refine r_iconst C dX11_who_6 ?_
  refine r_iconst C dX11_who_7 ?_
  refine r_callS C [i9 5, i9 0, i9 p2] dX11_who_8 (t_X11_askWithin C.h1 C.h2 p2 0 5 d2) mw_X11_73 ms_X11_askWithin (by decide) (by decide) (by decide) rfl rfl (Nat.le_of_ble_eq_true rfl) (fun r3 d4 => ?_)
  show SS G X 3 _ _ 11 [(0, rf G 0), (1, i9 p1), (2, i9 p2)] [] d4 _
  refine r_aload_n C 0 dX11_who_11 rfl rfl ?_
  refine r_getR C 1 dX11_who_12 fl_X11_10 la_0 ly_0 rfl rfl ?_
  refine r_iload_n C 1 dX11_who_15 rfl rfl ?_
  refine r_iload_n C 2 dX11_who_16 rfl rfl ?_
  refine r_aload_n C 0 dX11_who_17 rfl rfl ?_
  refine r_getR C 53 dX11_who_18 fl_X11_55 la_0 ly_0 rfl rfl ?_
  refine r_callV C [rf G 53, i9 p2, i9 p1, rf G 1] dX11_who_21 (t_X10_whoInto_1_53 C.h1 C.h2 p1 p2 d4) mw_X11_366 mv_X10_whoInto la_1 ly_1 rfl (by decide) (by decide) (by decide) rfl rfl (Nat.le_of_ble_eq_true rfl) (fun r5 d6 => ?_)
  show SS G X 3 _ _ 24 [(0, rf G 0), (1, i9 p1), (2, i9 p2)] [i9 r5] d6 _
  exact r_zret C dX11_who_24 (by decide) (by decide)
theorem dX10_whoseInto_0 : decode cX10_whoseInto 0 = .ok (.aload_n 0, 1) := by decide +kernel
theorem dX10_whoseInto_1 : decode cX10_whoseInto 1 = .ok (.getfield 49, 3) := by decide +kernel
theorem dX10_whoseInto_4 : decode cX10_whoseInto 4 = .ok (.iload_n 2, 1) := by decide +kernel
theorem dX10_whoseInto_5 : decode cX10_whoseInto 5 = .ok (.invokevirtual 151, 3) := by decide +kernel
theorem dX10_whoseInto_8 : decode cX10_whoseInto 8 = .ok (.ifCond .ne 8, 3) := by decide +kernel
theorem dX10_whoseInto_11 : decode cX10_whoseInto 11 = .ok (.aload_n 3, 1) := by decide +kernel
theorem dX10_whoseInto_12 : decode cX10_whoseInto 12 = .ok (.invokevirtual 154, 3) := by decide +kernel
theorem dX10_whoseInto_15 : decode cX10_whoseInto 15 = .ok (.ireturn, 1) := by decide +kernel
theorem dX10_whoseInto_16 : decode cX10_whoseInto 16 = .ok (.lconst 1, 1) := by decide +kernel
theorem dX10_whoseInto_17 : decode cX10_whoseInto 17 = .ok (.lstore 4, 2) := by decide +kernel
theorem dX10_whoseInto_19 : decode cX10_whoseInto 19 = .ok (.iconst 0, 1) := by decide +kernel
theorem dX10_whoseInto_20 : decode cX10_whoseInto 20 = .ok (.istore 6, 2) := by decide +kernel
theorem dX10_whoseInto_22 : decode cX10_whoseInto 22 = .ok (.iload 6, 2) := by decide +kernel
theorem dX10_whoseInto_24 : decode cX10_whoseInto 24 = .ok (.iconst 4, 1) := by decide +kernel
theorem dX10_whoseInto_25 : decode cX10_whoseInto 25 = .ok (.if_icmp .ge 28, 3) := by decide +kernel
theorem dX10_whoseInto_28 : decode cX10_whoseInto 28 = .ok (.lload 4, 2) := by decide +kernel
theorem dX10_whoseInto_30 : decode cX10_whoseInto 30 = .ok (.iconst 1, 1) := by decide +kernel
theorem dX10_whoseInto_31 : decode cX10_whoseInto 31 = .ok (.aload_n 0, 1) := by decide +kernel
theorem dX10_whoseInto_32 : decode cX10_whoseInto 32 = .ok (.getfield 49, 3) := by decide +kernel
theorem dX10_whoseInto_35 : decode cX10_whoseInto 35 = .ok (.iload 6, 2) := by decide +kernel
theorem dX10_whoseInto_37 : decode cX10_whoseInto 37 = .ok (.invokevirtual 151, 3) := by decide +kernel
theorem dX10_whoseInto_40 : decode cX10_whoseInto 40 = .ok (.invokestatic 158, 3) := by decide +kernel
theorem dX10_whoseInto_43 : decode cX10_whoseInto 43 = .ok (.i2l, 1) := by decide +kernel
theorem dX10_whoseInto_44 : decode cX10_whoseInto 44 = .ok (.lmul, 1) := by decide +kernel
theorem dX10_whoseInto_45 : decode cX10_whoseInto 45 = .ok (.lstore 4, 2) := by decide +kernel
theorem dX10_whoseInto_47 : decode cX10_whoseInto 47 = .ok (.iinc 6 1, 3) := by decide +kernel
theorem dX10_whoseInto_50 : decode cX10_whoseInto 50 = .ok (.goto (-28), 3) := by decide +kernel
theorem dX10_whoseInto_53 : decode cX10_whoseInto 53 = .ok (.lconst 0, 1) := by decide +kernel
theorem dX10_whoseInto_54 : decode cX10_whoseInto 54 = .ok (.lstore 6, 2) := by decide +kernel
theorem dX10_whoseInto_56 : decode cX10_whoseInto 56 = .ok (.lconst 0, 1) := by decide +kernel
theorem dX10_whoseInto_57 : decode cX10_whoseInto 57 = .ok (.lstore 8, 2) := by decide +kernel
theorem dX10_whoseInto_59 : decode cX10_whoseInto 59 = .ok (.iconst 0, 1) := by decide +kernel
theorem dX10_whoseInto_60 : decode cX10_whoseInto 60 = .ok (.istore 10, 2) := by decide +kernel
theorem dX10_whoseInto_62 : decode cX10_whoseInto 62 = .ok (.iload 10, 2) := by decide +kernel
theorem dX10_whoseInto_64 : decode cX10_whoseInto 64 = .ok (.iconst 4, 1) := by decide +kernel
theorem dX10_whoseInto_65 : decode cX10_whoseInto 65 = .ok (.if_icmp .ge 60, 3) := by decide +kernel
theorem dX10_whoseInto_68 : decode cX10_whoseInto 68 = .ok (.aload_n 0, 1) := by decide +kernel
theorem dX10_whoseInto_69 : decode cX10_whoseInto 69 = .ok (.iload_n 1, 1) := by decide +kernel
theorem dX10_whoseInto_70 : decode cX10_whoseInto 70 = .ok (.iconst (-1), 1) := by decide +kernel
theorem dX10_whoseInto_71 : decode cX10_whoseInto 71 = .ok (.iload 10, 2) := by decide +kernel
theorem dX10_whoseInto_73 : decode cX10_whoseInto 73 = .ok (.invokevirtual 161, 3) := by decide +kernel
theorem dX10_whoseInto_76 : decode cX10_whoseInto 76 = .ok (.i2l, 1) := by decide +kernel
theorem dX10_whoseInto_77 : decode cX10_whoseInto 77 = .ok (.lload 4, 2) := by decide +kernel
theorem dX10_whoseInto_79 : decode cX10_whoseInto 79 = .ok (.iconst 1, 1) := by decide +kernel
theorem dX10_whoseInto_80 : decode cX10_whoseInto 80 = .ok (.aload_n 0, 1) := by decide +kernel
theorem dX10_whoseInto_81 : decode cX10_whoseInto 81 = .ok (.getfield 49, 3) := by decide +kernel
theorem dX10_whoseInto_84 : decode cX10_whoseInto 84 = .ok (.iload 10, 2) := by decide +kernel
theorem dX10_whoseInto_86 : decode cX10_whoseInto 86 = .ok (.invokevirtual 151, 3) := by decide +kernel
theorem dX10_whoseInto_89 : decode cX10_whoseInto 89 = .ok (.invokestatic 158, 3) := by decide +kernel
theorem dX10_whoseInto_92 : decode cX10_whoseInto 92 = .ok (.i2l, 1) := by decide +kernel
theorem dX10_whoseInto_93 : decode cX10_whoseInto 93 = .ok (.ldiv, 1) := by decide +kernel
theorem dX10_whoseInto_94 : decode cX10_whoseInto 94 = .ok (.lmul, 1) := by decide +kernel
theorem dX10_whoseInto_95 : decode cX10_whoseInto 95 = .ok (.lstore 11, 2) := by decide +kernel
theorem dX10_whoseInto_97 : decode cX10_whoseInto 97 = .ok (.lload 8, 2) := by decide +kernel
theorem dX10_whoseInto_99 : decode cX10_whoseInto 99 = .ok (.lload 11, 2) := by decide +kernel
theorem dX10_whoseInto_101 : decode cX10_whoseInto 101 = .ok (.ladd, 1) := by decide +kernel
theorem dX10_whoseInto_102 : decode cX10_whoseInto 102 = .ok (.lstore 8, 2) := by decide +kernel
theorem dX10_whoseInto_104 : decode cX10_whoseInto 104 = .ok (.iload 10, 2) := by decide +kernel
theorem dX10_whoseInto_106 : decode cX10_whoseInto 106 = .ok (.iload_n 2, 1) := by decide +kernel
theorem dX10_whoseInto_107 : decode cX10_whoseInto 107 = .ok (.if_icmp .ne 8, 3) := by decide +kernel
theorem dX10_whoseInto_110 : decode cX10_whoseInto 110 = .ok (.lload 11, 2) := by decide +kernel
theorem dX10_whoseInto_112 : decode cX10_whoseInto 112 = .ok (.goto 5, 3) := by decide +kernel
theorem dX10_whoseInto_115 : decode cX10_whoseInto 115 = .ok (.lload 6, 2) := by decide +kernel
theorem dX10_whoseInto_117 : decode cX10_whoseInto 117 = .ok (.lstore 6, 2) := by decide +kernel
theorem dX10_whoseInto_119 : decode cX10_whoseInto 119 = .ok (.iinc 10 1, 3) := by decide +kernel
theorem dX10_whoseInto_122 : decode cX10_whoseInto 122 = .ok (.goto (-60), 3) := by decide +kernel
theorem dX10_whoseInto_125 : decode cX10_whoseInto 125 = .ok (.aload_n 3, 1) := by decide +kernel
theorem dX10_whoseInto_126 : decode cX10_whoseInto 126 = .ok (.lload 6, 2) := by decide +kernel
theorem dX10_whoseInto_128 : decode cX10_whoseInto 128 = .ok (.lload 8, 2) := by decide +kernel
theorem dX10_whoseInto_130 : decode cX10_whoseInto 130 = .ok (.invokevirtual 127, 3) := by decide +kernel
theorem dX10_whoseInto_133 : decode cX10_whoseInto 133 = .ok (.ireturn, 1) := by decide +kernel
abbrev z_X10_whoseInto_1_53 : Z9 := (some .boolean, 1, 0, 0, 4, 111)
def b_X10_whoseInto_1_53_c62 (k_X10_whoseInto_1_53_c62 : Int → Int → Int → Int → Int → Int → D9 → Option R9) (v1 v2 v4 v6 v8 v10 : Int) (d : D9) : Option R9 := if w32 4 ≤ w32 v10 then cl (m_X0_put_53 v6 v8 d) (fun r1 d2 => rt (r1 % 2) d2) else cl (m_X10_likesOf_1 v1 (-1) v10 d) (fun r3 d4 => cl (m_X1_ofSort_33 v10 d4) (fun r5 d6 => dvL (w32 (max9 1 r5)) (lt9v ((w32 r3) * (divL v4 (w32 (max9 1 r5)))) (fun a8 => lt9v (v8 + a8) (fun a9 => if w32 v10 ≠ w32 v2 then k_X10_whoseInto_1_53_c62 v1 v2 v4 v6 a9 (v10 + 1) d6 else k_X10_whoseInto_1_53_c62 v1 v2 v4 a8 a9 (v10 + 1) d6)))))
def m_X10_whoseInto_1_53_c62 : Int → Int → Int → Int → Int → Int → D9 → Option R9 := fix9 (fun _ _ _ _ _ _ _ => none) (fun k => b_X10_whoseInto_1_53_c62 k) FU
def b_X10_whoseInto_1_53_c22 (k_X10_whoseInto_1_53_c22 : Int → Int → Int → Int → D9 → Option R9) (v1 v2 v4 v6 : Int) (d : D9) : Option R9 := if w32 4 ≤ w32 v6 then m_X10_whoseInto_1_53_c62  v1 v2 v4 0 0 0 d else cl (m_X1_ofSort_33 v6 d) (fun r1 d2 => lt9v (v4 * (w32 (max9 1 r1))) (fun a3 => k_X10_whoseInto_1_53_c22 v1 v2 a3 (v6 + 1) d2))
def m_X10_whoseInto_1_53_c22 : Int → Int → Int → Int → D9 → Option R9 := fix9 (fun _ _ _ _ _ => none) (fun k => b_X10_whoseInto_1_53_c22 k) FU
def m_X10_whoseInto_1_53 (p1 p2 : Int) (d : D9) : Option R9 := cl (m_X1_ofSort_33 p2 d) (fun r1 d2 => if w32 r1 ≠ 0 then m_X10_whoseInto_1_53_c22  p1 p2 1 0 d2 else cl (m_X0_drop_53 d2) (fun r3 d4 => rt (r3 % 2) d4))
set_option maxRecDepth 100000 in
theorem sb_X10_whoseInto_1_53_c62 {G : G9} {X : X9} (C : CX G X cX10_whoseInto 13 RX10 [] z_X10_whoseInto_1_53) (k_X10_whoseInto_1_53_c62 : Int → Int → Int → Int → Int → Int → D9 → Option R9) (hk_X10_whoseInto_1_53_c62 : ∀ (v1 v2 v4 v6 v8 v10 : Int) (d : D9), SS G X 13 0 0 62 [(0, rf G 1), (1, i9 v1), (2, i9 v2), (3, rf G 53), (4, l9 v4), (6, l9 v6), (8, l9 v8), (10, i9 v10)] [] d (k_X10_whoseInto_1_53_c62 v1 v2 v4 v6 v8 v10 d)) : ∀ (v1 v2 v4 v6 v8 v10 : Int) (d : D9), SS G X 13 0 0 62 [(0, rf G 1), (1, i9 v1), (2, i9 v2), (3, rf G 53), (4, l9 v4), (6, l9 v6), (8, l9 v8), (10, i9 v10)] [] d (b_X10_whoseInto_1_53_c62 k_X10_whoseInto_1_53_c62 v1 v2 v4 v6 v8 v10 d) := by
  intro v1 v2 v4 v6 v8 v10 d
  unfold b_X10_whoseInto_1_53_c62
  refine r_iload C 7 dX10_whoseInto_62 rfl ?_
  refine r_iconst C dX10_whoseInto_64 ?_
  refine r_icmp_ge C 125 dX10_whoseInto_65 (by decide) (fun _ => ?_) (fun _ => ?_)
  · refine r_aload_n C 3 dX10_whoseInto_125 rfl rfl ?_
    refine r_lload C 5 dX10_whoseInto_126 rfl ?_
    refine r_lload C 6 dX10_whoseInto_128 rfl ?_
    refine r_callV C [l9 v8, l9 v6, rf G 53] dX10_whoseInto_130 (t_X0_put_53 C.h1 C.h2 v6 v8 d) mw_X10_127 mv_X0_put la_53 ly_53 rfl (by decide) (by decide) (by decide) rfl rfl (Nat.le_of_ble_eq_true rfl) (fun r1 d2 => ?_)
    show SS G X 13 _ _ 133 [(0, rf G 1), (1, i9 v1), (2, i9 v2), (3, rf G 53), (4, l9 v4), (6, l9 v6), (8, l9 v8), (10, i9 v10)] [i9 r1] d2 _
    exact r_zret C dX10_whoseInto_133 (by decide) (by decide)
  · refine r_aload_n C 0 dX10_whoseInto_68 rfl rfl ?_
    refine r_iload_n C 1 dX10_whoseInto_69 rfl rfl ?_
    refine r_iconst C dX10_whoseInto_70 ?_
    refine r_iload C 7 dX10_whoseInto_71 rfl ?_
    refine r_callV C [i9 v10, i9 (-1), i9 v1, rf G 1] dX10_whoseInto_73 (t_X10_likesOf_1 C.h1 C.h2 v1 (-1) v10 d) mw_X10_161 mv_X10_likesOf la_1 ly_1 rfl (by decide) (by decide) (by decide) rfl rfl (Nat.le_of_ble_eq_true rfl) (fun r3 d4 => ?_)
    show SS G X 13 _ _ 76 [(0, rf G 1), (1, i9 v1), (2, i9 v2), (3, rf G 53), (4, l9 v4), (6, l9 v6), (8, l9 v8), (10, i9 v10)] [i9 r3] d4 _
    refine r_i2l C dX10_whoseInto_76 ?_
    refine r_lload C 4 dX10_whoseInto_77 rfl ?_
    refine r_iconst C dX10_whoseInto_79 ?_
    refine r_aload_n C 0 dX10_whoseInto_80 rfl rfl ?_
    refine r_getR C 33 dX10_whoseInto_81 fl_X10_49 la_1 ly_1 rfl rfl ?_
    refine r_iload C 7 dX10_whoseInto_84 rfl ?_
    refine r_callV C [i9 v10, rf G 33, i9 1, l9 v4, l9 (w32 r3)] dX10_whoseInto_86 (t_X1_ofSort_33 C.h1 C.h2 v10 d4) mw_X10_151 mv_X1_ofSort la_33 ly_33 rfl (by decide) (by decide) (by decide) rfl rfl (Nat.le_of_ble_eq_true rfl) (fun r5 d6 => ?_)
    show SS G X 13 _ _ 89 [(0, rf G 1), (1, i9 v1), (2, i9 v2), (3, rf G 53), (4, l9 v4), (6, l9 v6), (8, l9 v8), (10, i9 v10)] [i9 r5, i9 1, l9 v4, l9 (w32 r3)] d6 _
    refine r_mmax C dX10_whoseInto_89 mm_X10_158 ⟨Nat.le_of_ble_eq_true rfl, Nat.le_of_ble_eq_true rfl⟩ (by decide) (by decide) ?_
    refine r_i2l C dX10_whoseInto_92 ?_
    refine ss_dvL (fun h7 => ?_)
    refine r_ldiv C dX10_whoseInto_93 h7 ?_
    refine r_lmul C dX10_whoseInto_94 ?_
    refine ss_ltL (fun a8 => ?_)
    refine r_lstore C [(11, l9 a8), (0, rf G 1), (1, i9 v1), (2, i9 v2), (3, rf G 53), (4, l9 v4), (6, l9 v6), (8, l9 v8), (10, i9 v10)] dX10_whoseInto_95 (by decide) rfl ?_
    refine r_lload C 7 dX10_whoseInto_97 rfl ?_
    refine r_lload C 0 dX10_whoseInto_99 rfl ?_
    refine r_ladd C dX10_whoseInto_101 ?_
    refine ss_ltL (fun a9 => ?_)
    refine r_lstore C [(8, l9 a9), (11, l9 a8), (0, rf G 1), (1, i9 v1), (2, i9 v2), (3, rf G 53), (4, l9 v4), (6, l9 v6), (10, i9 v10)] dX10_whoseInto_102 (by decide) rfl ?_
    refine r_iload C 8 dX10_whoseInto_104 rfl ?_
    refine r_iload_n C 4 dX10_whoseInto_106 rfl rfl ?_
    refine r_icmp_ne C 115 dX10_whoseInto_107 (by decide) (fun _ => ?_) (fun _ => ?_)
    · refine r_lload C 7 dX10_whoseInto_115 rfl ?_
      refine r_lstore C [(6, l9 v6), (8, l9 a9), (11, l9 a8), (0, rf G 1), (1, i9 v1), (2, i9 v2), (3, rf G 53), (4, l9 v4), (10, i9 v10)] dX10_whoseInto_117 (by decide) rfl ?_
      refine r_iinc C 8 [(10, i9 (v10 + 1)), (6, l9 v6), (8, l9 a9), (11, l9 a8), (0, rf G 1), (1, i9 v1), (2, i9 v2), (3, rf G 53), (4, l9 v4)] dX10_whoseInto_119 rfl (by decide) rfl ?_
      refine r_goto C 62 dX10_whoseInto_122 (by decide) ?_
      refine ss_wide (k' := 0) (n' := 0) (by decide) (by decide) ?_
      refine ss_ls [(0, rf G 1), (1, i9 v1), (2, i9 v2), (3, rf G 53), (4, l9 v4), (6, l9 v6), (8, l9 a9), (10, i9 (v10 + 1))] [4, 5, 6, 7, 8, 1, 2, 0] rfl ?_
      exact hk_X10_whoseInto_1_53_c62 v1 v2 v4 v6 a9 (v10 + 1) d6
    · refine r_lload C 1 dX10_whoseInto_110 rfl ?_
      refine r_goto C 117 dX10_whoseInto_112 (by decide) ?_
      refine r_lstore C [(6, l9 a8), (8, l9 a9), (11, l9 a8), (0, rf G 1), (1, i9 v1), (2, i9 v2), (3, rf G 53), (4, l9 v4), (10, i9 v10)] dX10_whoseInto_117 (by decide) rfl ?_
      refine r_iinc C 8 [(10, i9 (v10 + 1)), (6, l9 a8), (8, l9 a9), (11, l9 a8), (0, rf G 1), (1, i9 v1), (2, i9 v2), (3, rf G 53), (4, l9 v4)] dX10_whoseInto_119 rfl (by decide) rfl ?_
      refine r_goto C 62 dX10_whoseInto_122 (by decide) ?_
      refine ss_wide (k' := 0) (n' := 0) (by decide) (by decide) ?_
      refine ss_ls [(0, rf G 1), (1, i9 v1), (2, i9 v2), (3, rf G 53), (4, l9 v4), (6, l9 a8), (8, l9 a9), (10, i9 (v10 + 1))] [4, 5, 6, 7, 8, 1, 2, 0] rfl ?_
      exact hk_X10_whoseInto_1_53_c62 v1 v2 v4 a8 a9 (v10 + 1) d6
theorem s_X10_whoseInto_1_53_c62 {G : G9} {X : X9} (C : CX G X cX10_whoseInto 13 RX10 [] z_X10_whoseInto_1_53) : ∀ (v1 v2 v4 v6 v8 v10 : Int) (d : D9), SS G X 13 0 0 62 [(0, rf G 1), (1, i9 v1), (2, i9 v2), (3, rf G 53), (4, l9 v4), (6, l9 v6), (8, l9 v8), (10, i9 v10)] [] d (m_X10_whoseInto_1_53_c62  v1 v2 v4 v6 v8 v10 d) :=
  fix9_ind (P := fun k => ∀ (v1 v2 v4 v6 v8 v10 : Int) (d : D9), SS G X 13 0 0 62 [(0, rf G 1), (1, i9 v1), (2, i9 v2), (3, rf G 53), (4, l9 v4), (6, l9 v6), (8, l9 v8), (10, i9 v10)] [] d (k v1 v2 v4 v6 v8 v10 d)) (fun _ _ _ _ _ _ _ => ss_none) (fun k hk => sb_X10_whoseInto_1_53_c62 C k hk) FU
set_option maxRecDepth 100000 in
theorem sb_X10_whoseInto_1_53_c22 {G : G9} {X : X9} (C : CX G X cX10_whoseInto 13 RX10 [] z_X10_whoseInto_1_53) (k_X10_whoseInto_1_53_c22 : Int → Int → Int → Int → D9 → Option R9) (hk_X10_whoseInto_1_53_c22 : ∀ (v1 v2 v4 v6 : Int) (d : D9), SS G X 13 0 0 22 [(0, rf G 1), (1, i9 v1), (2, i9 v2), (3, rf G 53), (4, l9 v4), (6, i9 v6)] [] d (k_X10_whoseInto_1_53_c22 v1 v2 v4 v6 d)) : ∀ (v1 v2 v4 v6 : Int) (d : D9), SS G X 13 0 0 22 [(0, rf G 1), (1, i9 v1), (2, i9 v2), (3, rf G 53), (4, l9 v4), (6, i9 v6)] [] d (b_X10_whoseInto_1_53_c22 k_X10_whoseInto_1_53_c22 v1 v2 v4 v6 d) := by
  intro v1 v2 v4 v6 d
  unfold b_X10_whoseInto_1_53_c22
  refine r_iload C 5 dX10_whoseInto_22 rfl ?_
  refine r_iconst C dX10_whoseInto_24 ?_
  refine r_icmp_ge C 53 dX10_whoseInto_25 (by decide) (fun _ => ?_) (fun _ => ?_)
  · refine r_lconst C dX10_whoseInto_53 (a := 0) rfl ?_
    refine r_lstore C [(6, l9 0), (0, rf G 1), (1, i9 v1), (2, i9 v2), (3, rf G 53), (4, l9 v4)] dX10_whoseInto_54 (by decide) rfl ?_
    refine r_lconst C dX10_whoseInto_56 (a := 0) rfl ?_
    refine r_lstore C [(8, l9 0), (6, l9 0), (0, rf G 1), (1, i9 v1), (2, i9 v2), (3, rf G 53), (4, l9 v4)] dX10_whoseInto_57 (by decide) rfl ?_
    refine r_iconst C dX10_whoseInto_59 ?_
    refine r_istore C [(10, i9 0), (8, l9 0), (6, l9 0), (0, rf G 1), (1, i9 v1), (2, i9 v2), (3, rf G 53), (4, l9 v4)] dX10_whoseInto_60 (by decide) rfl ?_
    refine ss_wide (k' := 0) (n' := 0) (by decide) (by decide) ?_
    refine ss_ls [(0, rf G 1), (1, i9 v1), (2, i9 v2), (3, rf G 53), (4, l9 v4), (6, l9 0), (8, l9 0), (10, i9 0)] [3, 4, 5, 6, 7, 2, 1, 0] rfl ?_
    exact s_X10_whoseInto_1_53_c62 C  v1 v2 v4 0 0 0 d
  · refine r_lload C 4 dX10_whoseInto_28 rfl ?_
    refine r_iconst C dX10_whoseInto_30 ?_
    refine r_aload_n C 0 dX10_whoseInto_31 rfl rfl ?_
    refine r_getR C 33 dX10_whoseInto_32 fl_X10_49 la_1 ly_1 rfl rfl ?_
    refine r_iload C 5 dX10_whoseInto_35 rfl ?_
    refine r_callV C [i9 v6, rf G 33, i9 1, l9 v4] dX10_whoseInto_37 (t_X1_ofSort_33 C.h1 C.h2 v6 d) mw_X10_151 mv_X1_ofSort la_33 ly_33 rfl (by decide) (by decide) (by decide) rfl rfl (Nat.le_of_ble_eq_true rfl) (fun r1 d2 => ?_)
    show SS G X 13 _ _ 40 [(0, rf G 1), (1, i9 v1), (2, i9 v2), (3, rf G 53), (4, l9 v4), (6, i9 v6)] [i9 r1, i9 1, l9 v4] d2 _
    refine r_mmax C dX10_whoseInto_40 mm_X10_158 ⟨Nat.le_of_ble_eq_true rfl, Nat.le_of_ble_eq_true rfl⟩ (by decide) (by decide) ?_
    refine r_i2l C dX10_whoseInto_43 ?_
    refine r_lmul C dX10_whoseInto_44 ?_
    refine ss_ltL (fun a3 => ?_)
    refine r_lstore C [(4, l9 a3), (0, rf G 1), (1, i9 v1), (2, i9 v2), (3, rf G 53), (6, i9 v6)] dX10_whoseInto_45 (by decide) rfl ?_
    refine r_iinc C 5 [(6, i9 (v6 + 1)), (4, l9 a3), (0, rf G 1), (1, i9 v1), (2, i9 v2), (3, rf G 53)] dX10_whoseInto_47 rfl (by decide) rfl ?_
    refine r_goto C 22 dX10_whoseInto_50 (by decide) ?_
    refine ss_wide (k' := 0) (n' := 0) (by decide) (by decide) ?_
    refine ss_ls [(0, rf G 1), (1, i9 v1), (2, i9 v2), (3, rf G 53), (4, l9 a3), (6, i9 (v6 + 1))] [2, 3, 4, 5, 1, 0] rfl ?_
    exact hk_X10_whoseInto_1_53_c22 v1 v2 a3 (v6 + 1) d2
theorem s_X10_whoseInto_1_53_c22 {G : G9} {X : X9} (C : CX G X cX10_whoseInto 13 RX10 [] z_X10_whoseInto_1_53) : ∀ (v1 v2 v4 v6 : Int) (d : D9), SS G X 13 0 0 22 [(0, rf G 1), (1, i9 v1), (2, i9 v2), (3, rf G 53), (4, l9 v4), (6, i9 v6)] [] d (m_X10_whoseInto_1_53_c22  v1 v2 v4 v6 d) :=
  fix9_ind (P := fun k => ∀ (v1 v2 v4 v6 : Int) (d : D9), SS G X 13 0 0 22 [(0, rf G 1), (1, i9 v1), (2, i9 v2), (3, rf G 53), (4, l9 v4), (6, i9 v6)] [] d (k v1 v2 v4 v6 d)) (fun _ _ _ _ _ => ss_none) (fun k hk => sb_X10_whoseInto_1_53_c22 C k hk) FU
set_option maxRecDepth 100000 in
theorem t_X10_whoseInto_1_53 {G : G9} {l : Launch} (h1 : va_D (A9 G) (wl G (fun _ _ => 0))) (h2 : l.stackTraces = false) (p1 p2 : Int) (d : D9) : MT G l yX10_whoseInto cX10_whoseInto 13 z_X10_whoseInto_1_53 [rf G 1, i9 p1, i9 p2, rf G 53] d (m_X10_whoseInto_1_53 p1 p2 d) := by
  refine mt_of (own := RX10) (by decide) rfl (Nat.le_of_ble_eq_true rfl) h1 h2 [(0, rf G 1), (1, i9 p1), (2, i9 p2), (3, rf G 53)] rfl (fun X hX C => ?_)
  unfold m_X10_whoseInto_1_53
  refine r_aload_n C 0 dX10_whoseInto_0 rfl rfl ?_
  refine r_getR C 33 dX10_whoseInto_1 fl_X10_49 la_1 ly_1 rfl rfl ?_
  refine r_iload_n C 2 dX10_whoseInto_4 rfl rfl ?_
  refine r_callV C [i9 p2, rf G 33] dX10_whoseInto_5 (t_X1_ofSort_33 C.h1 C.h2 p2 d) mw_X10_151 mv_X1_ofSort la_33 ly_33 rfl (by decide) (by decide) (by decide) rfl rfl (Nat.le_of_ble_eq_true rfl) (fun r1 d2 => ?_)
  show SS G X 13 _ _ 8 [(0, rf G 1), (1, i9 p1), (2, i9 p2), (3, rf G 53)] [i9 r1] d2 _
  refine r_if_ne C (b := 0) 16 dX10_whoseInto_8 (by decide) (fun _ => ?_) (fun _ => ?_)
  · refine r_lconst C dX10_whoseInto_16 (a := 1) rfl ?_
    refine r_lstore C [(4, l9 1), (0, rf G 1), (1, i9 p1), (2, i9 p2), (3, rf G 53)] dX10_whoseInto_17 (by decide) rfl ?_
    refine r_iconst C dX10_whoseInto_19 ?_
    refine r_istore C [(6, i9 0), (4, l9 1), (0, rf G 1), (1, i9 p1), (2, i9 p2), (3, rf G 53)] dX10_whoseInto_20 (by decide) rfl ?_
    refine ss_wide (k' := 0) (n' := 0) (by decide) (by decide) ?_
    refine ss_ls [(0, rf G 1), (1, i9 p1), (2, i9 p2), (3, rf G 53), (4, l9 1), (6, i9 0)] [2, 3, 4, 5, 1, 0] rfl ?_
    exact s_X10_whoseInto_1_53_c22 C  p1 p2 1 0 d2
  · refine r_aload_n C 3 dX10_whoseInto_11 rfl rfl ?_
    refine r_callV C [rf G 53] dX10_whoseInto_12 (t_X0_drop_53 C.h1 C.h2 d2) mw_X10_154 mv_X0_drop la_53 ly_53 rfl (by decide) (by decide) (by decide) rfl rfl (Nat.le_of_ble_eq_true rfl) (fun r3 d4 => ?_)
    show SS G X 13 _ _ 15 [(0, rf G 1), (1, i9 p1), (2, i9 p2), (3, rf G 53)] [i9 r3] d4 _
    exact r_zret C dX10_whoseInto_15 (by decide) (by decide)
theorem dX11_whose_0 : decode cX11_whose 0 = .ok (.aload_n 0, 1) := by decide +kernel
theorem dX11_whose_1 : decode cX11_whose 1 = .ok (.iload_n 1, 1) := by decide +kernel
theorem dX11_whose_2 : decode cX11_whose 2 = .ok (.invokevirtual 87, 3) := by decide +kernel
theorem dX11_whose_5 : decode cX11_whose 5 = .ok (.iload_n 2, 1) := by decide +kernel
theorem dX11_whose_6 : decode cX11_whose 6 = .ok (.iconst 0, 1) := by decide +kernel
theorem dX11_whose_7 : decode cX11_whose 7 = .ok (.iconst 3, 1) := by decide +kernel
theorem dX11_whose_8 : decode cX11_whose 8 = .ok (.invokestatic 73, 3) := by decide +kernel
theorem dX11_whose_11 : decode cX11_whose 11 = .ok (.aload_n 0, 1) := by decide +kernel
theorem dX11_whose_12 : decode cX11_whose 12 = .ok (.getfield 10, 3) := by decide +kernel
theorem dX11_whose_15 : decode cX11_whose 15 = .ok (.iload_n 1, 1) := by decide +kernel
theorem dX11_whose_16 : decode cX11_whose 16 = .ok (.iload_n 2, 1) := by decide +kernel
theorem dX11_whose_17 : decode cX11_whose 17 = .ok (.aload_n 0, 1) := by decide +kernel
theorem dX11_whose_18 : decode cX11_whose 18 = .ok (.getfield 55, 3) := by decide +kernel
theorem dX11_whose_21 : decode cX11_whose 21 = .ok (.invokevirtual 325, 3) := by decide +kernel
theorem dX11_whose_24 : decode cX11_whose 24 = .ok (.ireturn, 1) := by decide +kernel
abbrev z_X11_whose_0 : Z9 := (some .boolean, 1, 3, 18, 8, 143)
def m_X11_whose_0 (p1 p2 : Int) (d : D9) : Option R9 := cl (m_X11_askHand_0 p1 d) (fun r1 d2 => cl (m_X11_askWithin p2 0 3 d2) (fun r3 d4 => cl (m_X10_whoseInto_1_53 p1 p2 d4) (fun r5 d6 => rt (r5 % 2) d6)))
set_option maxRecDepth 100000 in
theorem t_X11_whose_0 {G : G9} {l : Launch} (h1 : va_D (A9 G) (wl G (fun _ _ => 0))) (h2 : l.stackTraces = false) (p1 p2 : Int) (d : D9) : MT G l yX11_whose cX11_whose 3 z_X11_whose_0 [rf G 0, i9 p1, i9 p2] d (m_X11_whose_0 p1 p2 d) := by
  refine mt_of (own := RX11) (by decide) rfl (Nat.le_of_ble_eq_true rfl) h1 h2 [(0, rf G 0), (1, i9 p1), (2, i9 p2)] rfl (fun X hX C => ?_)
  unfold m_X11_whose_0
  refine r_aload_n C 0 dX11_whose_0 rfl rfl ?_
  refine r_iload_n C 1 dX11_whose_1 rfl rfl ?_
  refine r_callV C [i9 p1, rf G 0] dX11_whose_2 (t_X11_askHand_0 C.h1 C.h2 p1 d) mw_X11_87 mv_X11_askHand la_0 ly_0 rfl (by decide) (by decide) (by decide) rfl rfl (Nat.le_of_ble_eq_true rfl) (fun r1 d2 => ?_)
  show SS G X 3 _ _ 5 [(0, rf G 0), (1, i9 p1), (2, i9 p2)] [] d2 _
  refine r_iload_n C 2 dX11_whose_5 rfl rfl ?_
  refine r_iconst C dX11_whose_6 ?_
  refine r_iconst C dX11_whose_7 ?_
  refine r_callS C [i9 3, i9 0, i9 p2] dX11_whose_8 (t_X11_askWithin C.h1 C.h2 p2 0 3 d2) mw_X11_73 ms_X11_askWithin (by decide) (by decide) (by decide) rfl rfl (Nat.le_of_ble_eq_true rfl) (fun r3 d4 => ?_)
  show SS G X 3 _ _ 11 [(0, rf G 0), (1, i9 p1), (2, i9 p2)] [] d4 _
  refine r_aload_n C 0 dX11_whose_11 rfl rfl ?_
  refine r_getR C 1 dX11_whose_12 fl_X11_10 la_0 ly_0 rfl rfl ?_
  refine r_iload_n C 1 dX11_whose_15 rfl rfl ?_
  refine r_iload_n C 2 dX11_whose_16 rfl rfl ?_
  refine r_aload_n C 0 dX11_whose_17 rfl rfl ?_
  refine r_getR C 53 dX11_whose_18 fl_X11_55 la_0 ly_0 rfl rfl ?_
  refine r_callV C [rf G 53, i9 p2, i9 p1, rf G 1] dX11_whose_21 (t_X10_whoseInto_1_53 C.h1 C.h2 p1 p2 d4) mw_X11_325 mv_X10_whoseInto la_1 ly_1 rfl (by decide) (by decide) (by decide) rfl rfl (Nat.le_of_ble_eq_true rfl) (fun r5 d6 => ?_)
  show SS G X 3 _ _ 24 [(0, rf G 0), (1, i9 p1), (2, i9 p2)] [i9 r5] d6 _
  exact r_zret C dX11_whose_24 (by decide) (by decide)
theorem dX9_put_0 : decode cX9_put 0 = .ok (.lload_n 3, 1) := by decide +kernel
theorem dX9_put_1 : decode cX9_put 1 = .ok (.lstore 5, 2) := by decide +kernel
theorem dX9_put_3 : decode cX9_put 3 = .ok (.aload_n 0, 1) := by decide +kernel
theorem dX9_put_4 : decode cX9_put 4 = .ok (.getfield 11, 3) := by decide +kernel
theorem dX9_put_7 : decode cX9_put 7 = .ok (.iload_n 1, 1) := by decide +kernel
theorem dX9_put_8 : decode cX9_put 8 = .ok (.iaload, 1) := by decide +kernel
theorem dX9_put_9 : decode cX9_put 9 = .ok (.ifCond .ne 12, 3) := by decide +kernel
theorem dX9_put_12 : decode cX9_put 12 = .ok (.lload_n 3, 1) := by decide +kernel
theorem dX9_put_13 : decode cX9_put 13 = .ok (.l2i, 1) := by decide +kernel
theorem dX9_put_14 : decode cX9_put 14 = .ok (.i2b, 1) := by decide +kernel
theorem dX9_put_15 : decode cX9_put 15 = .ok (.i2l, 1) := by decide +kernel
theorem dX9_put_16 : decode cX9_put 16 = .ok (.lstore 5, 2) := by decide +kernel
theorem dX9_put_18 : decode cX9_put 18 = .ok (.goto 37, 3) := by decide +kernel
theorem dX9_put_21 : decode cX9_put 21 = .ok (.aload_n 0, 1) := by decide +kernel
theorem dX9_put_22 : decode cX9_put 22 = .ok (.getfield 11, 3) := by decide +kernel
theorem dX9_put_25 : decode cX9_put 25 = .ok (.iload_n 1, 1) := by decide +kernel
theorem dX9_put_26 : decode cX9_put 26 = .ok (.iaload, 1) := by decide +kernel
theorem dX9_put_27 : decode cX9_put 27 = .ok (.iconst 1, 1) := by decide +kernel
theorem dX9_put_28 : decode cX9_put 28 = .ok (.if_icmp .ne 12, 3) := by decide +kernel
theorem dX9_put_31 : decode cX9_put 31 = .ok (.lload_n 3, 1) := by decide +kernel
theorem dX9_put_32 : decode cX9_put 32 = .ok (.l2i, 1) := by decide +kernel
theorem dX9_put_33 : decode cX9_put 33 = .ok (.i2s, 1) := by decide +kernel
theorem dX9_put_34 : decode cX9_put 34 = .ok (.i2l, 1) := by decide +kernel
theorem dX9_put_35 : decode cX9_put 35 = .ok (.lstore 5, 2) := by decide +kernel
theorem dX9_put_37 : decode cX9_put 37 = .ok (.goto 18, 3) := by decide +kernel
theorem dX9_put_40 : decode cX9_put 40 = .ok (.aload_n 0, 1) := by decide +kernel
theorem dX9_put_41 : decode cX9_put 41 = .ok (.getfield 11, 3) := by decide +kernel
theorem dX9_put_44 : decode cX9_put 44 = .ok (.iload_n 1, 1) := by decide +kernel
theorem dX9_put_45 : decode cX9_put 45 = .ok (.iaload, 1) := by decide +kernel
theorem dX9_put_46 : decode cX9_put 46 = .ok (.iconst 2, 1) := by decide +kernel
theorem dX9_put_47 : decode cX9_put 47 = .ok (.if_icmp .ne 8, 3) := by decide +kernel
theorem dX9_put_50 : decode cX9_put 50 = .ok (.lload_n 3, 1) := by decide +kernel
theorem dX9_put_51 : decode cX9_put 51 = .ok (.l2i, 1) := by decide +kernel
theorem dX9_put_52 : decode cX9_put 52 = .ok (.i2l, 1) := by decide +kernel
theorem dX9_put_53 : decode cX9_put 53 = .ok (.lstore 5, 2) := by decide +kernel
theorem dX9_put_55 : decode cX9_put 55 = .ok (.aload_n 0, 1) := by decide +kernel
theorem dX9_put_56 : decode cX9_put 56 = .ok (.getfield 18, 3) := by decide +kernel
theorem dX9_put_59 : decode cX9_put 59 = .ok (.iload_n 1, 1) := by decide +kernel
theorem dX9_put_60 : decode cX9_put 60 = .ok (.bipush 40, 2) := by decide +kernel
theorem dX9_put_62 : decode cX9_put 62 = .ok (.imul, 1) := by decide +kernel
theorem dX9_put_63 : decode cX9_put 63 = .ok (.iload_n 2, 1) := by decide +kernel
theorem dX9_put_64 : decode cX9_put 64 = .ok (.iadd, 1) := by decide +kernel
theorem dX9_put_65 : decode cX9_put 65 = .ok (.lload 5, 2) := by decide +kernel
theorem dX9_put_67 : decode cX9_put 67 = .ok (.lastore, 1) := by decide +kernel
theorem dX9_put_68 : decode cX9_put 68 = .ok (.lload 5, 2) := by decide +kernel
theorem dX9_put_70 : decode cX9_put 70 = .ok (.lreturn, 1) := by decide +kernel
abbrev z_X9_put_54 : Z9 := (some .long, 2, 0, 0, 1, 0)
def m_X9_put_54_c55 (v1 v2 v5 : Int) (d : D9) : Option R9 := sd d 57 160 ((v1 * 40) + v2) v5 (fun d1 => rt v5 d1)
def m_X9_put_54 (p1 p2 p3 : Int) (d : D9) : Option R9 := ld d 55 4 p1 (fun t1 => if w32 t1 ≠ 0 then ld d 55 4 p1 (fun t2 => if w32 t2 ≠ w32 1 then ld d 55 4 p1 (fun t3 => if w32 t3 ≠ w32 2 then m_X9_put_54_c55  p1 p2 p3 d else lt9v (w32 p3) (fun a4 => m_X9_put_54_c55  p1 p2 a4 d)) else lt9v (w32 (Int.bmod p3 65536)) (fun a5 => m_X9_put_54_c55  p1 p2 a5 d)) else lt9v (w32 (Int.bmod p3 256)) (fun a6 => m_X9_put_54_c55  p1 p2 a6 d))
set_option maxRecDepth 100000 in
theorem s_X9_put_54_c55 {G : G9} {X : X9} (C : CX G X cX9_put 7 RX9 [] z_X9_put_54) : ∀ (v1 v2 v5 : Int) (d : D9), SS G X 7 0 0 55 [(0, rf G 54), (1, i9 v1), (2, i9 v2), (5, l9 v5)] [] d (m_X9_put_54_c55  v1 v2 v5 d) := by
  intro v1 v2 v5 d
  unfold m_X9_put_54_c55
  refine r_aload_n C 0 dX9_put_55 rfl rfl ?_
  refine r_getR C 57 dX9_put_56 fl_X9_18 la_54 ly_54 rfl rfl ?_
  refine r_iload_n C 1 dX9_put_59 rfl rfl ?_
  refine r_bipush C dX9_put_60 rfl ?_
  refine r_imul C dX9_put_62 ?_
  refine r_iload_n C 2 dX9_put_63 rfl rfl ?_
  refine r_iadd C dX9_put_64 ?_
  refine r_lload C 3 dX9_put_65 rfl ?_
  refine r_last C dX9_put_67 la_57 ly_57 (fun d1 => ?_)
  refine r_lload C 3 dX9_put_68 rfl ?_
  exact r_lret C dX9_put_70 (by decide) (by decide)
set_option maxRecDepth 100000 in
theorem t_X9_put_54 {G : G9} {l : Launch} (h1 : va_D (A9 G) (wl G (fun _ _ => 0))) (h2 : l.stackTraces = false) (p1 p2 p3 : Int) (d : D9) : MT G l yX9_put cX9_put 7 z_X9_put_54 [rf G 54, i9 p1, i9 p2, l9 p3] d (m_X9_put_54 p1 p2 p3 d) := by
  refine mt_of (own := RX9) (by decide) rfl (Nat.le_of_ble_eq_true rfl) h1 h2 [(0, rf G 54), (1, i9 p1), (2, i9 p2), (3, l9 p3)] rfl (fun X hX C => ?_)
  unfold m_X9_put_54
  refine r_lload_n C 3 dX9_put_0 rfl rfl ?_
  refine r_lstore C [(5, l9 p3), (0, rf G 54), (1, i9 p1), (2, i9 p2), (3, l9 p3)] dX9_put_1 (by decide) rfl ?_
  refine r_aload_n C 1 dX9_put_3 rfl rfl ?_
  refine r_getR C 55 dX9_put_4 fl_X9_11 la_54 ly_54 rfl rfl ?_
  refine r_iload_n C 2 dX9_put_7 rfl rfl ?_
  refine r_iald C dX9_put_8 la_55 ly_55 (fun t1 => ?_)
  refine r_if_ne C (b := 0) 21 dX9_put_9 (by decide) (fun _ => ?_) (fun _ => ?_)
  · refine r_aload_n C 1 dX9_put_21 rfl rfl ?_
    refine r_getR C 55 dX9_put_22 fl_X9_11 la_54 ly_54 rfl rfl ?_
    refine r_iload_n C 2 dX9_put_25 rfl rfl ?_
    refine r_iald C dX9_put_26 la_55 ly_55 (fun t2 => ?_)
    refine r_iconst C dX9_put_27 ?_
    refine r_icmp_ne C 40 dX9_put_28 (by decide) (fun _ => ?_) (fun _ => ?_)
    · refine r_aload_n C 1 dX9_put_40 rfl rfl ?_
      refine r_getR C 55 dX9_put_41 fl_X9_11 la_54 ly_54 rfl rfl ?_
      refine r_iload_n C 2 dX9_put_44 rfl rfl ?_
      refine r_iald C dX9_put_45 la_55 ly_55 (fun t3 => ?_)
      refine r_iconst C dX9_put_46 ?_
      refine r_icmp_ne C 55 dX9_put_47 (by decide) (fun _ => ?_) (fun _ => ?_)
      · refine ss_wide (k' := 0) (n' := 0) (by decide) (by decide) ?_
        refine ss_ls [(0, rf G 54), (1, i9 p1), (2, i9 p2), (5, l9 p3)] [1, 2, 3, 0] rfl ?_
        exact s_X9_put_54_c55 C  p1 p2 p3 d
      · refine r_lload_n C 4 dX9_put_50 rfl rfl ?_
        refine r_l2i C dX9_put_51 ?_
        refine r_i2l C dX9_put_52 ?_
        refine ss_ltL (fun a4 => ?_)
        refine r_lstore C [(5, l9 a4), (0, rf G 54), (1, i9 p1), (2, i9 p2), (3, l9 p3)] dX9_put_53 (by decide) rfl ?_
        refine ss_wide (k' := 0) (n' := 0) (by decide) (by decide) ?_
        refine ss_ls [(0, rf G 54), (1, i9 p1), (2, i9 p2), (5, l9 a4)] [1, 2, 3, 0] rfl ?_
        exact s_X9_put_54_c55 C  p1 p2 a4 d
    · refine r_lload_n C 4 dX9_put_31 rfl rfl ?_
      refine r_l2i C dX9_put_32 ?_
      refine r_i2s C dX9_put_33 ?_
      refine r_i2l C dX9_put_34 ?_
      refine ss_ltL (fun a5 => ?_)
      refine r_lstore C [(5, l9 a5), (0, rf G 54), (1, i9 p1), (2, i9 p2), (3, l9 p3)] dX9_put_35 (by decide) rfl ?_
      refine r_goto C 55 dX9_put_37 (by decide) ?_
      refine ss_wide (k' := 0) (n' := 0) (by decide) (by decide) ?_
      refine ss_ls [(0, rf G 54), (1, i9 p1), (2, i9 p2), (5, l9 a5)] [1, 2, 3, 0] rfl ?_
      exact s_X9_put_54_c55 C  p1 p2 a5 d
  · refine r_lload_n C 4 dX9_put_12 rfl rfl ?_
    refine r_l2i C dX9_put_13 ?_
    refine r_i2b C dX9_put_14 ?_
    refine r_i2l C dX9_put_15 ?_
    refine ss_ltL (fun a6 => ?_)
    refine r_lstore C [(5, l9 a6), (0, rf G 54), (1, i9 p1), (2, i9 p2), (3, l9 p3)] dX9_put_16 (by decide) rfl ?_
    refine r_goto C 55 dX9_put_18 (by decide) ?_
    refine ss_wide (k' := 0) (n' := 0) (by decide) (by decide) ?_
    refine ss_ls [(0, rf G 54), (1, i9 p1), (2, i9 p2), (5, l9 a6)] [1, 2, 3, 0] rfl ?_
    exact s_X9_put_54_c55 C  p1 p2 a6 d
theorem dX11_write_0 : decode cX11_write 0 = .ok (.aload_n 0, 1) := by decide +kernel
theorem dX11_write_1 : decode cX11_write 1 = .ok (.iload_n 1, 1) := by decide +kernel
theorem dX11_write_2 : decode cX11_write 2 = .ok (.invokevirtual 342, 3) := by decide +kernel
theorem dX11_write_5 : decode cX11_write 5 = .ok (.iload_n 2, 1) := by decide +kernel
theorem dX11_write_6 : decode cX11_write 6 = .ok (.ifCond .lt 16, 3) := by decide +kernel
theorem dX11_write_9 : decode cX11_write 9 = .ok (.iload_n 2, 1) := by decide +kernel
theorem dX11_write_10 : decode cX11_write 10 = .ok (.aload_n 0, 1) := by decide +kernel
theorem dX11_write_11 : decode cX11_write 11 = .ok (.getfield 62, 3) := by decide +kernel
theorem dX11_write_14 : decode cX11_write 14 = .ok (.getfield 345, 3) := by decide +kernel
theorem dX11_write_17 : decode cX11_write 17 = .ok (.iload_n 1, 1) := by decide +kernel
theorem dX11_write_18 : decode cX11_write 18 = .ok (.iaload, 1) := by decide +kernel
theorem dX11_write_19 : decode cX11_write 19 = .ok (.if_icmp .lt 14, 3) := by decide +kernel
theorem dX11_write_22 : decode cX11_write 22 = .ok (.new 410, 3) := by decide +kernel
theorem dX11_write_25 : decode cX11_write 25 = .ok (.dup, 1) := by decide +kernel
theorem dX11_write_26 : decode cX11_write 26 = .ok (.ldc_w 412, 3) := by decide +kernel
theorem dX11_write_29 : decode cX11_write 29 = .ok (.invokespecial 414, 3) := by decide +kernel
theorem dX11_write_32 : decode cX11_write 32 = .ok (.athrow, 1) := by decide +kernel
theorem dX11_write_33 : decode cX11_write 33 = .ok (.aload_n 0, 1) := by decide +kernel
theorem dX11_write_34 : decode cX11_write 34 = .ok (.getfield 62, 3) := by decide +kernel
theorem dX11_write_37 : decode cX11_write 37 = .ok (.iload_n 1, 1) := by decide +kernel
theorem dX11_write_38 : decode cX11_write 38 = .ok (.iload_n 2, 1) := by decide +kernel
theorem dX11_write_39 : decode cX11_write 39 = .ok (.lload_n 3, 1) := by decide +kernel
theorem dX11_write_40 : decode cX11_write 40 = .ok (.invokevirtual 415, 3) := by decide +kernel
theorem dX11_write_43 : decode cX11_write 43 = .ok (.lreturn, 1) := by decide +kernel
abbrev z_X11_write_0 : Z9 := (some .long, 2, 3, 18, 8, 141)
def m_X11_write_0_c22 (d : D9) : Option R9 := th 3 d
def m_X11_write_0 (p1 p2 p3 : Int) (d : D9) : Option R9 := cl (m_X11_askFilledTray_0 p1 d) (fun r1 d2 => if w32 p2 < 0 then m_X11_write_0_c22   d2 else ld d2 56 4 p1 (fun t3 => if w32 p2 < w32 t3 then cl (m_X9_put_54 p1 p2 p3 d2) (fun r4 d5 => rt r4 d5) else m_X11_write_0_c22   d2))
set_option maxRecDepth 100000 in
theorem s_X11_write_0_c22 {G : G9} {X : X9} (C : CX G X cX11_write 5 RX11 [] z_X11_write_0) : ∀ (d : D9), SS G X 5 2 12 22 [] [] d (m_X11_write_0_c22   d) := by
  intro  d
  unfold m_X11_write_0_c22
  exact r_throwW C (e := 3) 10 rfl tw_3_414 tc_3 dX11_write_22 dX11_write_25 dX11_write_26 dX11_write_29 dX11_write_32 (by decide) (by decide) (by decide) (by decide)
set_option maxRecDepth 100000 in
theorem t_X11_write_0 {G : G9} {l : Launch} (h1 : va_D (A9 G) (wl G (fun _ _ => 0))) (h2 : l.stackTraces = false) (p1 p2 p3 : Int) (d : D9) : MT G l yX11_write cX11_write 5 z_X11_write_0 [rf G 0, i9 p1, i9 p2, l9 p3] d (m_X11_write_0 p1 p2 p3 d) := by
  refine mt_of (own := RX11) (by decide) rfl (Nat.le_of_ble_eq_true rfl) h1 h2 [(0, rf G 0), (1, i9 p1), (2, i9 p2), (3, l9 p3)] rfl (fun X hX C => ?_)
  unfold m_X11_write_0
  refine r_aload_n C 0 dX11_write_0 rfl rfl ?_
  refine r_iload_n C 1 dX11_write_1 rfl rfl ?_
  refine r_callV C [i9 p1, rf G 0] dX11_write_2 (t_X11_askFilledTray_0 C.h1 C.h2 p1 d) mw_X11_342 mv_X11_askFilledTray la_0 ly_0 rfl (by decide) (by decide) (by decide) rfl rfl (Nat.le_of_ble_eq_true rfl) (fun r1 d2 => ?_)
  show SS G X 5 _ _ 5 [(0, rf G 0), (1, i9 p1), (2, i9 p2), (3, l9 p3)] [] d2 _
  refine r_iload_n C 2 dX11_write_5 rfl rfl ?_
  refine r_if_lt C (b := 0) 22 dX11_write_6 (by decide) (fun _ => ?_) (fun _ => ?_)
  · refine ss_wide (k' := 2) (n' := 12) (by decide) (by decide) ?_
    refine ss_ls [] [] rfl ?_
    exact s_X11_write_0_c22 C   d2
  · refine r_iload_n C 2 dX11_write_9 rfl rfl ?_
    refine r_aload_n C 0 dX11_write_10 rfl rfl ?_
    refine r_getR C 54 dX11_write_11 fl_X11_62 la_0 ly_0 rfl rfl ?_
    refine r_getR C 56 dX11_write_14 fl_X11_345 la_54 ly_54 rfl rfl ?_
    refine r_iload_n C 1 dX11_write_17 rfl rfl ?_
    refine r_iald C dX11_write_18 la_56 ly_56 (fun t3 => ?_)
    refine r_icmp_lt C 33 dX11_write_19 (by decide) (fun _ => ?_) (fun _ => ?_)
    · refine r_aload_n C 0 dX11_write_33 rfl rfl ?_
      refine r_getR C 54 dX11_write_34 fl_X11_62 la_0 ly_0 rfl rfl ?_
      refine r_iload_n C 1 dX11_write_37 rfl rfl ?_
      refine r_iload_n C 2 dX11_write_38 rfl rfl ?_
      refine r_lload_n C 3 dX11_write_39 rfl rfl ?_
      refine r_callV C [l9 p3, i9 p2, i9 p1, rf G 54] dX11_write_40 (t_X9_put_54 C.h1 C.h2 p1 p2 p3 d2) mw_X11_415 mv_X9_put la_54 ly_54 rfl (by decide) (by decide) (by decide) rfl rfl (Nat.le_of_ble_eq_true rfl) (fun r4 d5 => ?_)
      show SS G X 5 _ _ 43 [(0, rf G 0), (1, i9 p1), (2, i9 p2), (3, l9 p3)] [l9 r4] d5 _
      exact r_lret C dX11_write_43 (by decide) (by decide)
    · refine ss_wide (k' := 2) (n' := 12) (by decide) (by decide) ?_
      refine ss_ls [] [] rfl ?_
      exact s_X11_write_0_c22 C   d2
theorem dX12_within_0 : decode cX12_within 0 = .ok (.lload_n 0, 1) := by decide +kernel
theorem dX12_within_1 : decode cX12_within 1 = .ok (.lload_n 2, 1) := by decide +kernel
theorem dX12_within_2 : decode cX12_within 2 = .ok (.lcmp, 1) := by decide +kernel
theorem dX12_within_3 : decode cX12_within 3 = .ok (.ifCond .lt 14, 3) := by decide +kernel
theorem dX12_within_6 : decode cX12_within 6 = .ok (.lload_n 0, 1) := by decide +kernel
theorem dX12_within_7 : decode cX12_within 7 = .ok (.lload 4, 2) := by decide +kernel
theorem dX12_within_9 : decode cX12_within 9 = .ok (.lcmp, 1) := by decide +kernel
theorem dX12_within_10 : decode cX12_within 10 = .ok (.ifCond .gt 7, 3) := by decide +kernel
theorem dX12_within_13 : decode cX12_within 13 = .ok (.iconst 1, 1) := by decide +kernel
theorem dX12_within_14 : decode cX12_within 14 = .ok (.goto 4, 3) := by decide +kernel
theorem dX12_within_17 : decode cX12_within 17 = .ok (.iconst 0, 1) := by decide +kernel
theorem dX12_within_18 : decode cX12_within 18 = .ok (.ireturn, 1) := by decide +kernel
abbrev z_X12_within : Z9 := (some .boolean, 1, 0, 0, 1, 0)
def m_X12_within (p0 p1 p2 : Int) (d : D9) : Option R9 := if w64 p0 < w64 p1 then rt (0 % 2) d else if w64 p2 < w64 p0 then rt (0 % 2) d else rt (1 % 2) d
set_option maxRecDepth 100000 in
theorem t_X12_within {G : G9} {l : Launch} (h1 : va_D (A9 G) (wl G (fun _ _ => 0))) (h2 : l.stackTraces = false) (p0 p1 p2 : Int) (d : D9) : MT G l yX12_within cX12_within 6 z_X12_within [l9 p0, l9 p1, l9 p2] d (m_X12_within p0 p1 p2 d) := by
  refine mt_of (own := RX12) (by decide) rfl (Nat.le_of_ble_eq_true rfl) h1 h2 [(0, l9 p0), (2, l9 p1), (4, l9 p2)] rfl (fun X hX C => ?_)
  unfold m_X12_within
  refine r_lload_n C 0 dX12_within_0 rfl rfl ?_
  refine r_lload_n C 1 dX12_within_1 rfl rfl ?_
  refine r_lcmp_lt C 17 dX12_within_2 dX12_within_3 (by decide) (fun _ => ?_) (fun _ => ?_)
  · refine r_iconst C dX12_within_17 ?_
    exact r_zret C dX12_within_18 (by decide) (by decide)
  · refine r_lload_n C 0 dX12_within_6 rfl rfl ?_
    refine r_lload C 2 dX12_within_7 rfl ?_
    refine r_lcmp_gt C 17 dX12_within_9 dX12_within_10 (by decide) (fun _ => ?_) (fun _ => ?_)
    · refine r_iconst C dX12_within_17 ?_
      exact r_zret C dX12_within_18 (by decide) (by decide)
    · refine r_iconst C dX12_within_13 ?_
      refine r_goto C 18 dX12_within_14 (by decide) ?_
      exact r_zret C dX12_within_18 (by decide) (by decide)
theorem dX12_isPaint_0 : decode cX12_isPaint 0 = .ok (.iload_n 1, 1) := by decide +kernel
theorem dX12_isPaint_1 : decode cX12_isPaint 1 = .ok (.i2l, 1) := by decide +kernel
theorem dX12_isPaint_2 : decode cX12_isPaint 2 = .ok (.lconst 0, 1) := by decide +kernel
theorem dX12_isPaint_3 : decode cX12_isPaint 3 = .ok (.aload_n 0, 1) := by decide +kernel
theorem dX12_isPaint_4 : decode cX12_isPaint 4 = .ok (.getfield 9, 3) := by decide +kernel
theorem dX12_isPaint_7 : decode cX12_isPaint 7 = .ok (.iconst 0, 1) := by decide +kernel
theorem dX12_isPaint_8 : decode cX12_isPaint 8 = .ok (.iaload, 1) := by decide +kernel
theorem dX12_isPaint_9 : decode cX12_isPaint 9 = .ok (.iconst 1, 1) := by decide +kernel
theorem dX12_isPaint_10 : decode cX12_isPaint 10 = .ok (.isub, 1) := by decide +kernel
theorem dX12_isPaint_11 : decode cX12_isPaint 11 = .ok (.i2l, 1) := by decide +kernel
theorem dX12_isPaint_12 : decode cX12_isPaint 12 = .ok (.invokestatic 79, 3) := by decide +kernel
theorem dX12_isPaint_15 : decode cX12_isPaint 15 = .ok (.ireturn, 1) := by decide +kernel
abbrev z_X12_isPaint_174 : Z9 := (some .boolean, 1, 0, 0, 2, 25)
def m_X12_isPaint_174 (p1 : Int) (d : D9) : Option R9 := ld d 175 1604 0 (fun t1 => cl (m_X12_within (w32 p1) 0 (w32 (t1 - 1)) d) (fun r2 d3 => rt (r2 % 2) d3))
set_option maxRecDepth 100000 in
theorem t_X12_isPaint_174 {G : G9} {l : Launch} (h1 : va_D (A9 G) (wl G (fun _ _ => 0))) (h2 : l.stackTraces = false) (p1 : Int) (d : D9) : MT G l yX12_isPaint cX12_isPaint 2 z_X12_isPaint_174 [rf G 174, i9 p1] d (m_X12_isPaint_174 p1 d) := by
  refine mt_of (own := RX12) (by decide) rfl (Nat.le_of_ble_eq_true rfl) h1 h2 [(0, rf G 174), (1, i9 p1)] rfl (fun X hX C => ?_)
  unfold m_X12_isPaint_174
  refine r_iload_n C 1 dX12_isPaint_0 rfl rfl ?_
  refine r_i2l C dX12_isPaint_1 ?_
  refine r_lconst C dX12_isPaint_2 (a := 0) rfl ?_
  refine r_aload_n C 0 dX12_isPaint_3 rfl rfl ?_
  refine r_getR C 175 dX12_isPaint_4 fl_X12_9 la_174 ly_174 rfl rfl ?_
  refine r_iconst C dX12_isPaint_7 ?_
  refine r_iald C dX12_isPaint_8 la_175 ly_175 (fun t1 => ?_)
  refine r_iconst C dX12_isPaint_9 ?_
  refine r_isub C dX12_isPaint_10 ?_
  refine r_i2l C dX12_isPaint_11 ?_
  refine r_callS C [l9 (w32 (t1 - 1)), l9 0, l9 (w32 p1)] dX12_isPaint_12 (t_X12_within C.h1 C.h2 (w32 p1) 0 (w32 (t1 - 1)) d) mw_X12_79 ms_X12_within (by decide) (by decide) (by decide) rfl rfl (Nat.le_of_ble_eq_true rfl) (fun r2 d3 => ?_)
  show SS G X 2 _ _ 15 [(0, rf G 174), (1, i9 p1)] [i9 r2] d3 _
  exact r_zret C dX12_isPaint_15 (by decide) (by decide)
theorem dX12_layReach_0 : decode cX12_layReach 0 = .ok (.aload_n 0, 1) := by decide +kernel
theorem dX12_layReach_1 : decode cX12_layReach 1 = .ok (.getfield 9, 3) := by decide +kernel
theorem dX12_layReach_4 : decode cX12_layReach 4 = .ok (.iconst 0, 1) := by decide +kernel
theorem dX12_layReach_5 : decode cX12_layReach 5 = .ok (.iaload, 1) := by decide +kernel
theorem dX12_layReach_6 : decode cX12_layReach 6 = .ok (.istore_n 1, 1) := by decide +kernel
theorem dX12_layReach_7 : decode cX12_layReach 7 = .ok (.iconst 0, 1) := by decide +kernel
theorem dX12_layReach_8 : decode cX12_layReach 8 = .ok (.istore_n 2, 1) := by decide +kernel
theorem dX12_layReach_9 : decode cX12_layReach 9 = .ok (.iload_n 2, 1) := by decide +kernel
theorem dX12_layReach_10 : decode cX12_layReach 10 = .ok (.sipush 900, 3) := by decide +kernel
theorem dX12_layReach_13 : decode cX12_layReach 13 = .ok (.if_icmp .ge 16, 3) := by decide +kernel
theorem dX12_layReach_16 : decode cX12_layReach 16 = .ok (.aload_n 0, 1) := by decide +kernel
theorem dX12_layReach_17 : decode cX12_layReach 17 = .ok (.getfield 36, 3) := by decide +kernel
theorem dX12_layReach_20 : decode cX12_layReach 20 = .ok (.iload_n 2, 1) := by decide +kernel
theorem dX12_layReach_21 : decode cX12_layReach 21 = .ok (.iconst 0, 1) := by decide +kernel
theorem dX12_layReach_22 : decode cX12_layReach 22 = .ok (.bastore, 1) := by decide +kernel
theorem dX12_layReach_23 : decode cX12_layReach 23 = .ok (.iinc 2 1, 3) := by decide +kernel
theorem dX12_layReach_26 : decode cX12_layReach 26 = .ok (.goto (-17), 3) := by decide +kernel
theorem dX12_layReach_29 : decode cX12_layReach 29 = .ok (.sipush 256, 3) := by decide +kernel
theorem dX12_layReach_32 : decode cX12_layReach 32 = .ok (.istore_n 2, 1) := by decide +kernel
theorem dX12_layReach_33 : decode cX12_layReach 33 = .ok (.iload_n 2, 1) := by decide +kernel
theorem dX12_layReach_34 : decode cX12_layReach 34 = .ok (.sipush 256, 3) := by decide +kernel
theorem dX12_layReach_37 : decode cX12_layReach 37 = .ok (.iconst 2, 1) := by decide +kernel
theorem dX12_layReach_38 : decode cX12_layReach 38 = .ok (.aload_n 0, 1) := by decide +kernel
theorem dX12_layReach_39 : decode cX12_layReach 39 = .ok (.getfield 9, 3) := by decide +kernel
theorem dX12_layReach_42 : decode cX12_layReach 42 = .ok (.iconst 2, 1) := by decide +kernel
theorem dX12_layReach_43 : decode cX12_layReach 43 = .ok (.iaload, 1) := by decide +kernel
theorem dX12_layReach_44 : decode cX12_layReach 44 = .ok (.imul, 1) := by decide +kernel
theorem dX12_layReach_45 : decode cX12_layReach 45 = .ok (.iadd, 1) := by decide +kernel
theorem dX12_layReach_46 : decode cX12_layReach 46 = .ok (.if_icmp .ge 33, 3) := by decide +kernel
theorem dX12_layReach_49 : decode cX12_layReach 49 = .ok (.aload_n 0, 1) := by decide +kernel
theorem dX12_layReach_50 : decode cX12_layReach 50 = .ok (.getfield 36, 3) := by decide +kernel
theorem dX12_layReach_53 : decode cX12_layReach 53 = .ok (.bipush 30, 2) := by decide +kernel
theorem dX12_layReach_55 : decode cX12_layReach 55 = .ok (.aload_n 0, 1) := by decide +kernel
theorem dX12_layReach_56 : decode cX12_layReach 56 = .ok (.getfield 9, 3) := by decide +kernel
theorem dX12_layReach_59 : decode cX12_layReach 59 = .ok (.iload_n 2, 1) := by decide +kernel
theorem dX12_layReach_60 : decode cX12_layReach 60 = .ok (.iaload, 1) := by decide +kernel
theorem dX12_layReach_61 : decode cX12_layReach 61 = .ok (.imul, 1) := by decide +kernel
theorem dX12_layReach_62 : decode cX12_layReach 62 = .ok (.aload_n 0, 1) := by decide +kernel
theorem dX12_layReach_63 : decode cX12_layReach 63 = .ok (.getfield 9, 3) := by decide +kernel
theorem dX12_layReach_66 : decode cX12_layReach 66 = .ok (.iload_n 2, 1) := by decide +kernel
theorem dX12_layReach_67 : decode cX12_layReach 67 = .ok (.iconst 1, 1) := by decide +kernel
theorem dX12_layReach_68 : decode cX12_layReach 68 = .ok (.iadd, 1) := by decide +kernel
theorem dX12_layReach_69 : decode cX12_layReach 69 = .ok (.iaload, 1) := by decide +kernel
theorem dX12_layReach_70 : decode cX12_layReach 70 = .ok (.iadd, 1) := by decide +kernel
theorem dX12_layReach_71 : decode cX12_layReach 71 = .ok (.iconst 1, 1) := by decide +kernel
theorem dX12_layReach_72 : decode cX12_layReach 72 = .ok (.bastore, 1) := by decide +kernel
theorem dX12_layReach_73 : decode cX12_layReach 73 = .ok (.iinc 2 2, 3) := by decide +kernel
theorem dX12_layReach_76 : decode cX12_layReach 76 = .ok (.goto (-43), 3) := by decide +kernel
theorem dX12_layReach_79 : decode cX12_layReach 79 = .ok (.iconst 0, 1) := by decide +kernel
theorem dX12_layReach_80 : decode cX12_layReach 80 = .ok (.istore_n 2, 1) := by decide +kernel
theorem dX12_layReach_81 : decode cX12_layReach 81 = .ok (.iload_n 2, 1) := by decide +kernel
theorem dX12_layReach_82 : decode cX12_layReach 82 = .ok (.iload_n 1, 1) := by decide +kernel
theorem dX12_layReach_83 : decode cX12_layReach 83 = .ok (.if_icmp .ge 98, 3) := by decide +kernel
theorem dX12_layReach_86 : decode cX12_layReach 86 = .ok (.iconst 0, 1) := by decide +kernel
theorem dX12_layReach_87 : decode cX12_layReach 87 = .ok (.istore_n 3, 1) := by decide +kernel
theorem dX12_layReach_88 : decode cX12_layReach 88 = .ok (.iload_n 3, 1) := by decide +kernel
theorem dX12_layReach_89 : decode cX12_layReach 89 = .ok (.iload_n 1, 1) := by decide +kernel
theorem dX12_layReach_90 : decode cX12_layReach 90 = .ok (.if_icmp .ge 85, 3) := by decide +kernel
theorem dX12_layReach_93 : decode cX12_layReach 93 = .ok (.iconst 0, 1) := by decide +kernel
theorem dX12_layReach_94 : decode cX12_layReach 94 = .ok (.istore 4, 2) := by decide +kernel
theorem dX12_layReach_96 : decode cX12_layReach 96 = .ok (.iload 4, 2) := by decide +kernel
theorem dX12_layReach_98 : decode cX12_layReach 98 = .ok (.iload_n 1, 1) := by decide +kernel
theorem dX12_layReach_99 : decode cX12_layReach 99 = .ok (.if_icmp .ge 70, 3) := by decide +kernel
theorem dX12_layReach_102 : decode cX12_layReach 102 = .ok (.aload_n 0, 1) := by decide +kernel
theorem dX12_layReach_103 : decode cX12_layReach 103 = .ok (.getfield 36, 3) := by decide +kernel
theorem dX12_layReach_106 : decode cX12_layReach 106 = .ok (.bipush 30, 2) := by decide +kernel
theorem dX12_layReach_108 : decode cX12_layReach 108 = .ok (.iload_n 3, 1) := by decide +kernel
theorem dX12_layReach_109 : decode cX12_layReach 109 = .ok (.imul, 1) := by decide +kernel
theorem dX12_layReach_110 : decode cX12_layReach 110 = .ok (.iload_n 2, 1) := by decide +kernel
theorem dX12_layReach_111 : decode cX12_layReach 111 = .ok (.iadd, 1) := by decide +kernel
theorem dX12_layReach_112 : decode cX12_layReach 112 = .ok (.baload, 1) := by decide +kernel
theorem dX12_layReach_113 : decode cX12_layReach 113 = .ok (.ifCond .eq 56, 3) := by decide +kernel
theorem dX12_layReach_116 : decode cX12_layReach 116 = .ok (.aload_n 0, 1) := by decide +kernel
theorem dX12_layReach_117 : decode cX12_layReach 117 = .ok (.getfield 36, 3) := by decide +kernel
theorem dX12_layReach_120 : decode cX12_layReach 120 = .ok (.bipush 30, 2) := by decide +kernel
theorem dX12_layReach_122 : decode cX12_layReach 122 = .ok (.iload_n 3, 1) := by decide +kernel
theorem dX12_layReach_123 : decode cX12_layReach 123 = .ok (.imul, 1) := by decide +kernel
theorem dX12_layReach_124 : decode cX12_layReach 124 = .ok (.iload 4, 2) := by decide +kernel
theorem dX12_layReach_126 : decode cX12_layReach 126 = .ok (.iadd, 1) := by decide +kernel
theorem dX12_layReach_127 : decode cX12_layReach 127 = .ok (.aload_n 0, 1) := by decide +kernel
theorem dX12_layReach_128 : decode cX12_layReach 128 = .ok (.getfield 36, 3) := by decide +kernel
theorem dX12_layReach_131 : decode cX12_layReach 131 = .ok (.bipush 30, 2) := by decide +kernel
theorem dX12_layReach_133 : decode cX12_layReach 133 = .ok (.iload_n 3, 1) := by decide +kernel
theorem dX12_layReach_134 : decode cX12_layReach 134 = .ok (.imul, 1) := by decide +kernel
theorem dX12_layReach_135 : decode cX12_layReach 135 = .ok (.iload 4, 2) := by decide +kernel
theorem dX12_layReach_137 : decode cX12_layReach 137 = .ok (.iadd, 1) := by decide +kernel
theorem dX12_layReach_138 : decode cX12_layReach 138 = .ok (.baload, 1) := by decide +kernel
theorem dX12_layReach_139 : decode cX12_layReach 139 = .ok (.ifCond .ne 18, 3) := by decide +kernel
theorem dX12_layReach_142 : decode cX12_layReach 142 = .ok (.aload_n 0, 1) := by decide +kernel
theorem dX12_layReach_143 : decode cX12_layReach 143 = .ok (.getfield 36, 3) := by decide +kernel
theorem dX12_layReach_146 : decode cX12_layReach 146 = .ok (.bipush 30, 2) := by decide +kernel
theorem dX12_layReach_148 : decode cX12_layReach 148 = .ok (.iload_n 2, 1) := by decide +kernel
theorem dX12_layReach_149 : decode cX12_layReach 149 = .ok (.imul, 1) := by decide +kernel
theorem dX12_layReach_150 : decode cX12_layReach 150 = .ok (.iload 4, 2) := by decide +kernel
theorem dX12_layReach_152 : decode cX12_layReach 152 = .ok (.iadd, 1) := by decide +kernel
theorem dX12_layReach_153 : decode cX12_layReach 153 = .ok (.baload, 1) := by decide +kernel
theorem dX12_layReach_154 : decode cX12_layReach 154 = .ok (.ifCond .eq 7, 3) := by decide +kernel
theorem dX12_layReach_157 : decode cX12_layReach 157 = .ok (.iconst 1, 1) := by decide +kernel
theorem dX12_layReach_158 : decode cX12_layReach 158 = .ok (.goto 4, 3) := by decide +kernel
theorem dX12_layReach_161 : decode cX12_layReach 161 = .ok (.iconst 0, 1) := by decide +kernel
theorem dX12_layReach_162 : decode cX12_layReach 162 = .ok (.bastore, 1) := by decide +kernel
theorem dX12_layReach_163 : decode cX12_layReach 163 = .ok (.iinc 4 1, 3) := by decide +kernel
theorem dX12_layReach_166 : decode cX12_layReach 166 = .ok (.goto (-70), 3) := by decide +kernel
theorem dX12_layReach_169 : decode cX12_layReach 169 = .ok (.iinc 3 1, 3) := by decide +kernel
theorem dX12_layReach_172 : decode cX12_layReach 172 = .ok (.goto (-84), 3) := by decide +kernel
theorem dX12_layReach_175 : decode cX12_layReach 175 = .ok (.iinc 2 1, 3) := by decide +kernel
theorem dX12_layReach_178 : decode cX12_layReach 178 = .ok (.goto (-97), 3) := by decide +kernel
theorem dX12_layReach_181 : decode cX12_layReach 181 = .ok (.return_, 1) := by decide +kernel
abbrev z_X12_layReach_174 : Z9 := (none, 0, 0, 0, 1, 0)
def b_X12_layReach_174_c96 (k_X12_layReach_174_c88 : Int → Int → Int → D9 → Option R9) (k_X12_layReach_174_c96 : Int → Int → Int → Int → D9 → Option R9) (v1 v2 v3 v4 : Int) (d : D9) : Option R9 := if w32 v1 ≤ w32 v4 then k_X12_layReach_174_c88 v1 v2 (v3 + 1) d else ld d 182 900 ((30 * v3) + v2) (fun t1 => if w32 t1 = 0 then k_X12_layReach_174_c88 v1 v2 (v3 + 1) d else ld d 182 900 ((30 * v3) + v4) (fun t2 => if w32 t2 ≠ 0 then sd d 182 900 ((30 * v3) + v4) (1 % 2) (fun d3 => k_X12_layReach_174_c96 v1 v2 v3 (v4 + 1) d3) else ld d 182 900 ((30 * v2) + v4) (fun t4 => if w32 t4 = 0 then sd d 182 900 ((30 * v3) + v4) (0 % 2) (fun d5 => k_X12_layReach_174_c96 v1 v2 v3 (v4 + 1) d5) else sd d 182 900 ((30 * v3) + v4) (1 % 2) (fun d6 => k_X12_layReach_174_c96 v1 v2 v3 (v4 + 1) d6))))
def m_X12_layReach_174_c96 (k_X12_layReach_174_c88 : Int → Int → Int → D9 → Option R9) : Int → Int → Int → Int → D9 → Option R9 := fix9 (fun _ _ _ _ _ => none) (fun k => b_X12_layReach_174_c96 k_X12_layReach_174_c88 k) FU
def b_X12_layReach_174_c88 (k_X12_layReach_174_c81 : Int → Int → D9 → Option R9) (k_X12_layReach_174_c88 : Int → Int → Int → D9 → Option R9) (v1 v2 v3 : Int) (d : D9) : Option R9 := if w32 v1 ≤ w32 v3 then k_X12_layReach_174_c81 v1 (v2 + 1) d else m_X12_layReach_174_c96 k_X12_layReach_174_c88 v1 v2 v3 0 d
def m_X12_layReach_174_c88 (k_X12_layReach_174_c81 : Int → Int → D9 → Option R9) : Int → Int → Int → D9 → Option R9 := fix9 (fun _ _ _ _ => none) (fun k => b_X12_layReach_174_c88 k_X12_layReach_174_c81 k) FU
def b_X12_layReach_174_c81 (k_X12_layReach_174_c81 : Int → Int → D9 → Option R9) (v1 v2 : Int) (d : D9) : Option R9 := if w32 v1 ≤ w32 v2 then rt 0 d else m_X12_layReach_174_c88 k_X12_layReach_174_c81 v1 v2 0 d
def m_X12_layReach_174_c81 : Int → Int → D9 → Option R9 := fix9 (fun _ _ _ => none) (fun k => b_X12_layReach_174_c81 k) FU
def b_X12_layReach_174_c33 (k_X12_layReach_174_c33 : Int → Int → D9 → Option R9) (v1 v2 : Int) (d : D9) : Option R9 := ld d 175 1604 2 (fun t1 => if w32 (256 + (2 * t1)) ≤ w32 v2 then m_X12_layReach_174_c81  v1 0 d else ld d 175 1604 v2 (fun t2 => ld d 175 1604 (v2 + 1) (fun t3 => sd d 182 900 ((30 * t2) + t3) (1 % 2) (fun d4 => k_X12_layReach_174_c33 v1 (v2 + 2) d4))))
def m_X12_layReach_174_c33 : Int → Int → D9 → Option R9 := fix9 (fun _ _ _ => none) (fun k => b_X12_layReach_174_c33 k) FU
def b_X12_layReach_174_c9 (k_X12_layReach_174_c9 : Int → Int → D9 → Option R9) (v1 v2 : Int) (d : D9) : Option R9 := if w32 900 ≤ w32 v2 then m_X12_layReach_174_c33  v1 256 d else sd d 182 900 v2 (0 % 2) (fun d1 => k_X12_layReach_174_c9 v1 (v2 + 1) d1)
def m_X12_layReach_174_c9 : Int → Int → D9 → Option R9 := fix9 (fun _ _ _ => none) (fun k => b_X12_layReach_174_c9 k) FU
def m_X12_layReach_174 (d : D9) : Option R9 := ld d 175 1604 0 (fun t1 => m_X12_layReach_174_c9  t1 0 d)
set_option maxRecDepth 100000 in
theorem sb_X12_layReach_174_c96 {G : G9} {X : X9} (C : CX G X cX12_layReach 5 RX12 [] z_X12_layReach_174) (k_X12_layReach_174_c88 : Int → Int → Int → D9 → Option R9) (hk_X12_layReach_174_c88 : ∀ (v1 v2 v3 : Int) (d : D9), SS G X 5 0 0 88 [(0, rf G 174), (1, i9 v1), (2, i9 v2), (3, i9 v3)] [] d (k_X12_layReach_174_c88 v1 v2 v3 d)) (k_X12_layReach_174_c96 : Int → Int → Int → Int → D9 → Option R9) (hk_X12_layReach_174_c96 : ∀ (v1 v2 v3 v4 : Int) (d : D9), SS G X 5 0 0 96 [(0, rf G 174), (1, i9 v1), (2, i9 v2), (3, i9 v3), (4, i9 v4)] [] d (k_X12_layReach_174_c96 v1 v2 v3 v4 d)) : ∀ (v1 v2 v3 v4 : Int) (d : D9), SS G X 5 0 0 96 [(0, rf G 174), (1, i9 v1), (2, i9 v2), (3, i9 v3), (4, i9 v4)] [] d (b_X12_layReach_174_c96 k_X12_layReach_174_c88 k_X12_layReach_174_c96 v1 v2 v3 v4 d) := by
  intro v1 v2 v3 v4 d
  unfold b_X12_layReach_174_c96
  refine r_iload C 4 dX12_layReach_96 rfl ?_
  refine r_iload_n C 1 dX12_layReach_98 rfl rfl ?_
  refine r_icmp_ge C 169 dX12_layReach_99 (by decide) (fun _ => ?_) (fun _ => ?_)
  · refine r_iinc C 3 [(3, i9 (v3 + 1)), (0, rf G 174), (1, i9 v1), (2, i9 v2), (4, i9 v4)] dX12_layReach_169 rfl (by decide) rfl ?_
    refine r_goto C 88 dX12_layReach_172 (by decide) ?_
    refine ss_wide (k' := 0) (n' := 0) (by decide) (by decide) ?_
    refine ss_ls [(0, rf G 174), (1, i9 v1), (2, i9 v2), (3, i9 (v3 + 1))] [1, 2, 3, 0] rfl ?_
    exact hk_X12_layReach_174_c88 v1 v2 (v3 + 1) d
  · refine r_aload_n C 0 dX12_layReach_102 rfl rfl ?_
    refine r_getR C 182 dX12_layReach_103 fl_X12_36 la_174 ly_174 rfl rfl ?_
    refine r_bipush C dX12_layReach_106 rfl ?_
    refine r_iload_n C 3 dX12_layReach_108 rfl rfl ?_
    refine r_imul C dX12_layReach_109 ?_
    refine r_iload_n C 2 dX12_layReach_110 rfl rfl ?_
    refine r_iadd C dX12_layReach_111 ?_
    refine r_zald C dX12_layReach_112 la_182 ly_182 (fun t1 => ?_)
    refine r_if_eq C (b := 0) 169 dX12_layReach_113 (by decide) (fun _ => ?_) (fun _ => ?_)
    · refine r_iinc C 3 [(3, i9 (v3 + 1)), (0, rf G 174), (1, i9 v1), (2, i9 v2), (4, i9 v4)] dX12_layReach_169 rfl (by decide) rfl ?_
      refine r_goto C 88 dX12_layReach_172 (by decide) ?_
      refine ss_wide (k' := 0) (n' := 0) (by decide) (by decide) ?_
      refine ss_ls [(0, rf G 174), (1, i9 v1), (2, i9 v2), (3, i9 (v3 + 1))] [1, 2, 3, 0] rfl ?_
      exact hk_X12_layReach_174_c88 v1 v2 (v3 + 1) d
    · refine r_aload_n C 0 dX12_layReach_116 rfl rfl ?_
      refine r_getR C 182 dX12_layReach_117 fl_X12_36 la_174 ly_174 rfl rfl ?_
      refine r_bipush C dX12_layReach_120 rfl ?_
      refine r_iload_n C 3 dX12_layReach_122 rfl rfl ?_
      refine r_imul C dX12_layReach_123 ?_
      refine r_iload C 4 dX12_layReach_124 rfl ?_
      refine r_iadd C dX12_layReach_126 ?_
      refine r_aload_n C 0 dX12_layReach_127 rfl rfl ?_
      refine r_getR C 182 dX12_layReach_128 fl_X12_36 la_174 ly_174 rfl rfl ?_
      refine r_bipush C dX12_layReach_131 rfl ?_
      refine r_iload_n C 3 dX12_layReach_133 rfl rfl ?_
      refine r_imul C dX12_layReach_134 ?_
      refine r_iload C 4 dX12_layReach_135 rfl ?_
      refine r_iadd C dX12_layReach_137 ?_
      refine r_zald C dX12_layReach_138 la_182 ly_182 (fun t2 => ?_)
      refine r_if_ne C (b := 0) 157 dX12_layReach_139 (by decide) (fun _ => ?_) (fun _ => ?_)
      · refine r_iconst C dX12_layReach_157 ?_
        refine r_goto C 162 dX12_layReach_158 (by decide) ?_
        refine r_zast C dX12_layReach_162 la_182 ly_182 (fun d3 => ?_)
        refine r_iinc C 4 [(4, i9 (v4 + 1)), (0, rf G 174), (1, i9 v1), (2, i9 v2), (3, i9 v3)] dX12_layReach_163 rfl (by decide) rfl ?_
        refine r_goto C 96 dX12_layReach_166 (by decide) ?_
        refine ss_wide (k' := 0) (n' := 0) (by decide) (by decide) ?_
        refine ss_ls [(0, rf G 174), (1, i9 v1), (2, i9 v2), (3, i9 v3), (4, i9 (v4 + 1))] [1, 2, 3, 4, 0] rfl ?_
        exact hk_X12_layReach_174_c96 v1 v2 v3 (v4 + 1) d3
      · refine r_aload_n C 0 dX12_layReach_142 rfl rfl ?_
        refine r_getR C 182 dX12_layReach_143 fl_X12_36 la_174 ly_174 rfl rfl ?_
        refine r_bipush C dX12_layReach_146 rfl ?_
        refine r_iload_n C 2 dX12_layReach_148 rfl rfl ?_
        refine r_imul C dX12_layReach_149 ?_
        refine r_iload C 4 dX12_layReach_150 rfl ?_
        refine r_iadd C dX12_layReach_152 ?_
        refine r_zald C dX12_layReach_153 la_182 ly_182 (fun t4 => ?_)
        refine r_if_eq C (b := 0) 161 dX12_layReach_154 (by decide) (fun _ => ?_) (fun _ => ?_)
        · refine r_iconst C dX12_layReach_161 ?_
          refine r_zast C dX12_layReach_162 la_182 ly_182 (fun d5 => ?_)
          refine r_iinc C 4 [(4, i9 (v4 + 1)), (0, rf G 174), (1, i9 v1), (2, i9 v2), (3, i9 v3)] dX12_layReach_163 rfl (by decide) rfl ?_
          refine r_goto C 96 dX12_layReach_166 (by decide) ?_
          refine ss_wide (k' := 0) (n' := 0) (by decide) (by decide) ?_
          refine ss_ls [(0, rf G 174), (1, i9 v1), (2, i9 v2), (3, i9 v3), (4, i9 (v4 + 1))] [1, 2, 3, 4, 0] rfl ?_
          exact hk_X12_layReach_174_c96 v1 v2 v3 (v4 + 1) d5
        · refine r_iconst C dX12_layReach_157 ?_
          refine r_goto C 162 dX12_layReach_158 (by decide) ?_
          refine r_zast C dX12_layReach_162 la_182 ly_182 (fun d6 => ?_)
          refine r_iinc C 4 [(4, i9 (v4 + 1)), (0, rf G 174), (1, i9 v1), (2, i9 v2), (3, i9 v3)] dX12_layReach_163 rfl (by decide) rfl ?_
          refine r_goto C 96 dX12_layReach_166 (by decide) ?_
          refine ss_wide (k' := 0) (n' := 0) (by decide) (by decide) ?_
          refine ss_ls [(0, rf G 174), (1, i9 v1), (2, i9 v2), (3, i9 v3), (4, i9 (v4 + 1))] [1, 2, 3, 4, 0] rfl ?_
          exact hk_X12_layReach_174_c96 v1 v2 v3 (v4 + 1) d6
theorem s_X12_layReach_174_c96 {G : G9} {X : X9} (C : CX G X cX12_layReach 5 RX12 [] z_X12_layReach_174) (k_X12_layReach_174_c88 : Int → Int → Int → D9 → Option R9) (hk_X12_layReach_174_c88 : ∀ (v1 v2 v3 : Int) (d : D9), SS G X 5 0 0 88 [(0, rf G 174), (1, i9 v1), (2, i9 v2), (3, i9 v3)] [] d (k_X12_layReach_174_c88 v1 v2 v3 d)) : ∀ (v1 v2 v3 v4 : Int) (d : D9), SS G X 5 0 0 96 [(0, rf G 174), (1, i9 v1), (2, i9 v2), (3, i9 v3), (4, i9 v4)] [] d (m_X12_layReach_174_c96 k_X12_layReach_174_c88 v1 v2 v3 v4 d) :=
  fix9_ind (P := fun k => ∀ (v1 v2 v3 v4 : Int) (d : D9), SS G X 5 0 0 96 [(0, rf G 174), (1, i9 v1), (2, i9 v2), (3, i9 v3), (4, i9 v4)] [] d (k v1 v2 v3 v4 d)) (fun _ _ _ _ _ => ss_none) (fun k hk => sb_X12_layReach_174_c96 C k_X12_layReach_174_c88 hk_X12_layReach_174_c88 k hk) FU
set_option maxRecDepth 100000 in
theorem sb_X12_layReach_174_c88 {G : G9} {X : X9} (C : CX G X cX12_layReach 5 RX12 [] z_X12_layReach_174) (k_X12_layReach_174_c81 : Int → Int → D9 → Option R9) (hk_X12_layReach_174_c81 : ∀ (v1 v2 : Int) (d : D9), SS G X 5 0 0 81 [(0, rf G 174), (1, i9 v1), (2, i9 v2)] [] d (k_X12_layReach_174_c81 v1 v2 d)) (k_X12_layReach_174_c88 : Int → Int → Int → D9 → Option R9) (hk_X12_layReach_174_c88 : ∀ (v1 v2 v3 : Int) (d : D9), SS G X 5 0 0 88 [(0, rf G 174), (1, i9 v1), (2, i9 v2), (3, i9 v3)] [] d (k_X12_layReach_174_c88 v1 v2 v3 d)) : ∀ (v1 v2 v3 : Int) (d : D9), SS G X 5 0 0 88 [(0, rf G 174), (1, i9 v1), (2, i9 v2), (3, i9 v3)] [] d (b_X12_layReach_174_c88 k_X12_layReach_174_c81 k_X12_layReach_174_c88 v1 v2 v3 d) := by
  intro v1 v2 v3 d
  unfold b_X12_layReach_174_c88
  refine r_iload_n C 3 dX12_layReach_88 rfl rfl ?_
  refine r_iload_n C 1 dX12_layReach_89 rfl rfl ?_
  refine r_icmp_ge C 175 dX12_layReach_90 (by decide) (fun _ => ?_) (fun _ => ?_)
  · refine r_iinc C 2 [(2, i9 (v2 + 1)), (0, rf G 174), (1, i9 v1), (3, i9 v3)] dX12_layReach_175 rfl (by decide) rfl ?_
    refine r_goto C 81 dX12_layReach_178 (by decide) ?_
    refine ss_wide (k' := 0) (n' := 0) (by decide) (by decide) ?_
    refine ss_ls [(0, rf G 174), (1, i9 v1), (2, i9 (v2 + 1))] [1, 2, 0] rfl ?_
    exact hk_X12_layReach_174_c81 v1 (v2 + 1) d
  · refine r_iconst C dX12_layReach_93 ?_
    refine r_istore C [(4, i9 0), (0, rf G 174), (1, i9 v1), (2, i9 v2), (3, i9 v3)] dX12_layReach_94 (by decide) rfl ?_
    refine ss_wide (k' := 0) (n' := 0) (by decide) (by decide) ?_
    refine ss_ls [(0, rf G 174), (1, i9 v1), (2, i9 v2), (3, i9 v3), (4, i9 0)] [1, 2, 3, 4, 0] rfl ?_
    exact s_X12_layReach_174_c96 C k_X12_layReach_174_c88 hk_X12_layReach_174_c88 v1 v2 v3 0 d
theorem s_X12_layReach_174_c88 {G : G9} {X : X9} (C : CX G X cX12_layReach 5 RX12 [] z_X12_layReach_174) (k_X12_layReach_174_c81 : Int → Int → D9 → Option R9) (hk_X12_layReach_174_c81 : ∀ (v1 v2 : Int) (d : D9), SS G X 5 0 0 81 [(0, rf G 174), (1, i9 v1), (2, i9 v2)] [] d (k_X12_layReach_174_c81 v1 v2 d)) : ∀ (v1 v2 v3 : Int) (d : D9), SS G X 5 0 0 88 [(0, rf G 174), (1, i9 v1), (2, i9 v2), (3, i9 v3)] [] d (m_X12_layReach_174_c88 k_X12_layReach_174_c81 v1 v2 v3 d) :=
  fix9_ind (P := fun k => ∀ (v1 v2 v3 : Int) (d : D9), SS G X 5 0 0 88 [(0, rf G 174), (1, i9 v1), (2, i9 v2), (3, i9 v3)] [] d (k v1 v2 v3 d)) (fun _ _ _ _ => ss_none) (fun k hk => sb_X12_layReach_174_c88 C k_X12_layReach_174_c81 hk_X12_layReach_174_c81 k hk) FU
set_option maxRecDepth 100000 in
theorem sb_X12_layReach_174_c81 {G : G9} {X : X9} (C : CX G X cX12_layReach 5 RX12 [] z_X12_layReach_174) (k_X12_layReach_174_c81 : Int → Int → D9 → Option R9) (hk_X12_layReach_174_c81 : ∀ (v1 v2 : Int) (d : D9), SS G X 5 0 0 81 [(0, rf G 174), (1, i9 v1), (2, i9 v2)] [] d (k_X12_layReach_174_c81 v1 v2 d)) : ∀ (v1 v2 : Int) (d : D9), SS G X 5 0 0 81 [(0, rf G 174), (1, i9 v1), (2, i9 v2)] [] d (b_X12_layReach_174_c81 k_X12_layReach_174_c81 v1 v2 d) := by
  intro v1 v2 d
  unfold b_X12_layReach_174_c81
  refine r_iload_n C 2 dX12_layReach_81 rfl rfl ?_
  refine r_iload_n C 1 dX12_layReach_82 rfl rfl ?_
  refine r_icmp_ge C 181 dX12_layReach_83 (by decide) (fun _ => ?_) (fun _ => ?_)
  · exact r_vret C dX12_layReach_181 (by decide) (by decide)
  · refine r_iconst C dX12_layReach_86 ?_
    refine r_istore_n C [(3, i9 0), (0, rf G 174), (1, i9 v1), (2, i9 v2)] dX12_layReach_87 rfl (by decide) rfl ?_
    refine ss_wide (k' := 0) (n' := 0) (by decide) (by decide) ?_
    refine ss_ls [(0, rf G 174), (1, i9 v1), (2, i9 v2), (3, i9 0)] [1, 2, 3, 0] rfl ?_
    exact s_X12_layReach_174_c88 C k_X12_layReach_174_c81 hk_X12_layReach_174_c81 v1 v2 0 d
theorem s_X12_layReach_174_c81 {G : G9} {X : X9} (C : CX G X cX12_layReach 5 RX12 [] z_X12_layReach_174) : ∀ (v1 v2 : Int) (d : D9), SS G X 5 0 0 81 [(0, rf G 174), (1, i9 v1), (2, i9 v2)] [] d (m_X12_layReach_174_c81  v1 v2 d) :=
  fix9_ind (P := fun k => ∀ (v1 v2 : Int) (d : D9), SS G X 5 0 0 81 [(0, rf G 174), (1, i9 v1), (2, i9 v2)] [] d (k v1 v2 d)) (fun _ _ _ => ss_none) (fun k hk => sb_X12_layReach_174_c81 C k hk) FU
set_option maxRecDepth 100000 in
theorem sb_X12_layReach_174_c33 {G : G9} {X : X9} (C : CX G X cX12_layReach 5 RX12 [] z_X12_layReach_174) (k_X12_layReach_174_c33 : Int → Int → D9 → Option R9) (hk_X12_layReach_174_c33 : ∀ (v1 v2 : Int) (d : D9), SS G X 5 0 0 33 [(0, rf G 174), (1, i9 v1), (2, i9 v2)] [] d (k_X12_layReach_174_c33 v1 v2 d)) : ∀ (v1 v2 : Int) (d : D9), SS G X 5 0 0 33 [(0, rf G 174), (1, i9 v1), (2, i9 v2)] [] d (b_X12_layReach_174_c33 k_X12_layReach_174_c33 v1 v2 d) := by
  intro v1 v2 d
  unfold b_X12_layReach_174_c33
  refine r_iload_n C 2 dX12_layReach_33 rfl rfl ?_
  refine r_sipush C dX12_layReach_34 rfl ?_
  refine r_iconst C dX12_layReach_37 ?_
  refine r_aload_n C 0 dX12_layReach_38 rfl rfl ?_
  refine r_getR C 175 dX12_layReach_39 fl_X12_9 la_174 ly_174 rfl rfl ?_
  refine r_iconst C dX12_layReach_42 ?_
  refine r_iald C dX12_layReach_43 la_175 ly_175 (fun t1 => ?_)
  refine r_imul C dX12_layReach_44 ?_
  refine r_iadd C dX12_layReach_45 ?_
  refine r_icmp_ge C 79 dX12_layReach_46 (by decide) (fun _ => ?_) (fun _ => ?_)
  · refine r_iconst C dX12_layReach_79 ?_
    refine r_istore_n C [(2, i9 0), (0, rf G 174), (1, i9 v1)] dX12_layReach_80 rfl (by decide) rfl ?_
    refine ss_wide (k' := 0) (n' := 0) (by decide) (by decide) ?_
    refine ss_ls [(0, rf G 174), (1, i9 v1), (2, i9 0)] [1, 2, 0] rfl ?_
    exact s_X12_layReach_174_c81 C  v1 0 d
  · refine r_aload_n C 0 dX12_layReach_49 rfl rfl ?_
    refine r_getR C 182 dX12_layReach_50 fl_X12_36 la_174 ly_174 rfl rfl ?_
    refine r_bipush C dX12_layReach_53 rfl ?_
    refine r_aload_n C 0 dX12_layReach_55 rfl rfl ?_
    refine r_getR C 175 dX12_layReach_56 fl_X12_9 la_174 ly_174 rfl rfl ?_
    refine r_iload_n C 2 dX12_layReach_59 rfl rfl ?_
    refine r_iald C dX12_layReach_60 la_175 ly_175 (fun t2 => ?_)
    refine r_imul C dX12_layReach_61 ?_
    refine r_aload_n C 0 dX12_layReach_62 rfl rfl ?_
    refine r_getR C 175 dX12_layReach_63 fl_X12_9 la_174 ly_174 rfl rfl ?_
    refine r_iload_n C 2 dX12_layReach_66 rfl rfl ?_
    refine r_iconst C dX12_layReach_67 ?_
    refine r_iadd C dX12_layReach_68 ?_
    refine r_iald C dX12_layReach_69 la_175 ly_175 (fun t3 => ?_)
    refine r_iadd C dX12_layReach_70 ?_
    refine r_iconst C dX12_layReach_71 ?_
    refine r_zast C dX12_layReach_72 la_182 ly_182 (fun d4 => ?_)
    refine r_iinc C 2 [(2, i9 (v2 + 2)), (0, rf G 174), (1, i9 v1)] dX12_layReach_73 rfl (by decide) rfl ?_
    refine r_goto C 33 dX12_layReach_76 (by decide) ?_
    refine ss_wide (k' := 0) (n' := 0) (by decide) (by decide) ?_
    refine ss_ls [(0, rf G 174), (1, i9 v1), (2, i9 (v2 + 2))] [1, 2, 0] rfl ?_
    exact hk_X12_layReach_174_c33 v1 (v2 + 2) d4
theorem s_X12_layReach_174_c33 {G : G9} {X : X9} (C : CX G X cX12_layReach 5 RX12 [] z_X12_layReach_174) : ∀ (v1 v2 : Int) (d : D9), SS G X 5 0 0 33 [(0, rf G 174), (1, i9 v1), (2, i9 v2)] [] d (m_X12_layReach_174_c33  v1 v2 d) :=
  fix9_ind (P := fun k => ∀ (v1 v2 : Int) (d : D9), SS G X 5 0 0 33 [(0, rf G 174), (1, i9 v1), (2, i9 v2)] [] d (k v1 v2 d)) (fun _ _ _ => ss_none) (fun k hk => sb_X12_layReach_174_c33 C k hk) FU
set_option maxRecDepth 100000 in
theorem sb_X12_layReach_174_c9 {G : G9} {X : X9} (C : CX G X cX12_layReach 5 RX12 [] z_X12_layReach_174) (k_X12_layReach_174_c9 : Int → Int → D9 → Option R9) (hk_X12_layReach_174_c9 : ∀ (v1 v2 : Int) (d : D9), SS G X 5 0 0 9 [(0, rf G 174), (1, i9 v1), (2, i9 v2)] [] d (k_X12_layReach_174_c9 v1 v2 d)) : ∀ (v1 v2 : Int) (d : D9), SS G X 5 0 0 9 [(0, rf G 174), (1, i9 v1), (2, i9 v2)] [] d (b_X12_layReach_174_c9 k_X12_layReach_174_c9 v1 v2 d) := by
  intro v1 v2 d
  unfold b_X12_layReach_174_c9
  refine r_iload_n C 2 dX12_layReach_9 rfl rfl ?_
  refine r_sipush C dX12_layReach_10 rfl ?_
  refine r_icmp_ge C 29 dX12_layReach_13 (by decide) (fun _ => ?_) (fun _ => ?_)
  · refine r_sipush C dX12_layReach_29 rfl ?_
    refine r_istore_n C [(2, i9 256), (0, rf G 174), (1, i9 v1)] dX12_layReach_32 rfl (by decide) rfl ?_
    refine ss_wide (k' := 0) (n' := 0) (by decide) (by decide) ?_
    refine ss_ls [(0, rf G 174), (1, i9 v1), (2, i9 256)] [1, 2, 0] rfl ?_
    exact s_X12_layReach_174_c33 C  v1 256 d
  · refine r_aload_n C 0 dX12_layReach_16 rfl rfl ?_
    refine r_getR C 182 dX12_layReach_17 fl_X12_36 la_174 ly_174 rfl rfl ?_
    refine r_iload_n C 2 dX12_layReach_20 rfl rfl ?_
    refine r_iconst C dX12_layReach_21 ?_
    refine r_zast C dX12_layReach_22 la_182 ly_182 (fun d1 => ?_)
    refine r_iinc C 2 [(2, i9 (v2 + 1)), (0, rf G 174), (1, i9 v1)] dX12_layReach_23 rfl (by decide) rfl ?_
    refine r_goto C 9 dX12_layReach_26 (by decide) ?_
    refine ss_wide (k' := 0) (n' := 0) (by decide) (by decide) ?_
    refine ss_ls [(0, rf G 174), (1, i9 v1), (2, i9 (v2 + 1))] [1, 2, 0] rfl ?_
    exact hk_X12_layReach_174_c9 v1 (v2 + 1) d1
theorem s_X12_layReach_174_c9 {G : G9} {X : X9} (C : CX G X cX12_layReach 5 RX12 [] z_X12_layReach_174) : ∀ (v1 v2 : Int) (d : D9), SS G X 5 0 0 9 [(0, rf G 174), (1, i9 v1), (2, i9 v2)] [] d (m_X12_layReach_174_c9  v1 v2 d) :=
  fix9_ind (P := fun k => ∀ (v1 v2 : Int) (d : D9), SS G X 5 0 0 9 [(0, rf G 174), (1, i9 v1), (2, i9 v2)] [] d (k v1 v2 d)) (fun _ _ _ => ss_none) (fun k hk => sb_X12_layReach_174_c9 C k hk) FU
set_option maxRecDepth 100000 in
theorem t_X12_layReach_174 {G : G9} {l : Launch} (h1 : va_D (A9 G) (wl G (fun _ _ => 0))) (h2 : l.stackTraces = false) (d : D9) : MT G l yX12_layReach cX12_layReach 5 z_X12_layReach_174 [rf G 174] d (m_X12_layReach_174  d) := by
  refine mt_of (own := RX12) (by decide) rfl (Nat.le_of_ble_eq_true rfl) h1 h2 [(0, rf G 174)] rfl (fun X hX C => ?_)
  unfold m_X12_layReach_174
  refine r_aload_n C 0 dX12_layReach_0 rfl rfl ?_
  refine r_getR C 175 dX12_layReach_1 fl_X12_9 la_174 ly_174 rfl rfl ?_
  refine r_iconst C dX12_layReach_4 ?_
  refine r_iald C dX12_layReach_5 la_175 ly_175 (fun t1 => ?_)
  refine r_istore_n C [(1, i9 t1), (0, rf G 174)] dX12_layReach_6 rfl (by decide) rfl ?_
  refine r_iconst C dX12_layReach_7 ?_
  refine r_istore_n C [(2, i9 0), (1, i9 t1), (0, rf G 174)] dX12_layReach_8 rfl (by decide) rfl ?_
  refine ss_wide (k' := 0) (n' := 0) (by decide) (by decide) ?_
  refine ss_ls [(0, rf G 174), (1, i9 t1), (2, i9 0)] [2, 1, 0] rfl ?_
  exact s_X12_layReach_174_c9 C  t1 0 d
theorem dX12_isAbove_0 : decode cX12_isAbove 0 = .ok (.aload_n 0, 1) := by decide +kernel
theorem dX12_isAbove_1 : decode cX12_isAbove 1 = .ok (.getfield 36, 3) := by decide +kernel
theorem dX12_isAbove_4 : decode cX12_isAbove 4 = .ok (.bipush 30, 2) := by decide +kernel
theorem dX12_isAbove_6 : decode cX12_isAbove 6 = .ok (.iload_n 1, 1) := by decide +kernel
theorem dX12_isAbove_7 : decode cX12_isAbove 7 = .ok (.imul, 1) := by decide +kernel
theorem dX12_isAbove_8 : decode cX12_isAbove 8 = .ok (.iload_n 2, 1) := by decide +kernel
theorem dX12_isAbove_9 : decode cX12_isAbove 9 = .ok (.iadd, 1) := by decide +kernel
theorem dX12_isAbove_10 : decode cX12_isAbove 10 = .ok (.baload, 1) := by decide +kernel
theorem dX12_isAbove_11 : decode cX12_isAbove 11 = .ok (.ireturn, 1) := by decide +kernel
abbrev z_X12_isAbove_174 : Z9 := (some .boolean, 1, 0, 0, 1, 0)
def m_X12_isAbove_174 (p1 p2 : Int) (d : D9) : Option R9 := ld d 182 900 ((30 * p1) + p2) (fun t1 => rt (t1 % 2) d)
set_option maxRecDepth 100000 in
theorem t_X12_isAbove_174 {G : G9} {l : Launch} (h1 : va_D (A9 G) (wl G (fun _ _ => 0))) (h2 : l.stackTraces = false) (p1 p2 : Int) (d : D9) : MT G l yX12_isAbove cX12_isAbove 3 z_X12_isAbove_174 [rf G 174, i9 p1, i9 p2] d (m_X12_isAbove_174 p1 p2 d) := by
  refine mt_of (own := RX12) (by decide) rfl (Nat.le_of_ble_eq_true rfl) h1 h2 [(0, rf G 174), (1, i9 p1), (2, i9 p2)] rfl (fun X hX C => ?_)
  unfold m_X12_isAbove_174
  refine r_aload_n C 0 dX12_isAbove_0 rfl rfl ?_
  refine r_getR C 182 dX12_isAbove_1 fl_X12_36 la_174 ly_174 rfl rfl ?_
  refine r_bipush C dX12_isAbove_4 rfl ?_
  refine r_iload_n C 1 dX12_isAbove_6 rfl rfl ?_
  refine r_imul C dX12_isAbove_7 ?_
  refine r_iload_n C 2 dX12_isAbove_8 rfl rfl ?_
  refine r_iadd C dX12_isAbove_9 ?_
  refine r_zald C dX12_isAbove_10 la_182 ly_182 (fun t1 => ?_)
  exact r_zret C dX12_isAbove_11 (by decide) (by decide)
theorem dX12_above_0 : decode cX12_above 0 = .ok (.aload_n 0, 1) := by decide +kernel
theorem dX12_above_1 : decode cX12_above 1 = .ok (.aload_n 0, 1) := by decide +kernel
theorem dX12_above_2 : decode cX12_above 2 = .ok (.iload_n 1, 1) := by decide +kernel
theorem dX12_above_3 : decode cX12_above 3 = .ok (.invokevirtual 95, 3) := by decide +kernel
theorem dX12_above_6 : decode cX12_above 6 = .ok (.ifCond .eq 15, 3) := by decide +kernel
theorem dX12_above_9 : decode cX12_above 9 = .ok (.aload_n 0, 1) := by decide +kernel
theorem dX12_above_10 : decode cX12_above 10 = .ok (.iload_n 2, 1) := by decide +kernel
theorem dX12_above_11 : decode cX12_above 11 = .ok (.invokevirtual 95, 3) := by decide +kernel
theorem dX12_above_14 : decode cX12_above 14 = .ok (.ifCond .eq 7, 3) := by decide +kernel
theorem dX12_above_17 : decode cX12_above 17 = .ok (.iconst 0, 1) := by decide +kernel
theorem dX12_above_18 : decode cX12_above 18 = .ok (.goto 4, 3) := by decide +kernel
theorem dX12_above_21 : decode cX12_above 21 = .ok (.iconst 1, 1) := by decide +kernel
theorem dX12_above_22 : decode cX12_above 22 = .ok (.putfield 76, 3) := by decide +kernel
theorem dX12_above_25 : decode cX12_above 25 = .ok (.aload_n 0, 1) := by decide +kernel
theorem dX12_above_26 : decode cX12_above 26 = .ok (.getfield 76, 3) := by decide +kernel
theorem dX12_above_29 : decode cX12_above 29 = .ok (.ifCond .le 5, 3) := by decide +kernel
theorem dX12_above_32 : decode cX12_above 32 = .ok (.iconst 0, 1) := by decide +kernel
theorem dX12_above_33 : decode cX12_above 33 = .ok (.ireturn, 1) := by decide +kernel
theorem dX12_above_34 : decode cX12_above 34 = .ok (.aload_n 0, 1) := by decide +kernel
theorem dX12_above_35 : decode cX12_above 35 = .ok (.invokevirtual 381, 3) := by decide +kernel
theorem dX12_above_38 : decode cX12_above 38 = .ok (.aload_n 0, 1) := by decide +kernel
theorem dX12_above_39 : decode cX12_above 39 = .ok (.iload_n 1, 1) := by decide +kernel
theorem dX12_above_40 : decode cX12_above 40 = .ok (.iload_n 2, 1) := by decide +kernel
theorem dX12_above_41 : decode cX12_above 41 = .ok (.invokevirtual 378, 3) := by decide +kernel
theorem dX12_above_44 : decode cX12_above 44 = .ok (.ireturn, 1) := by decide +kernel
abbrev z_X12_above_174 : Z9 := (some .boolean, 1, 0, 0, 3, 46)
def m_X12_above_174_c22 (v1 v2 s0 : Int) (d : D9) : Option R9 := pf d 174 3 s0 (fun d1 => if w32 (d1 174 3) ≤ 0 then cl (m_X12_layReach_174 d1) (fun r2 d3 => cl (m_X12_isAbove_174 v1 v2 d3) (fun r4 d5 => rt (r4 % 2) d5)) else rt (0 % 2) d1)
def m_X12_above_174 (p1 p2 : Int) (d : D9) : Option R9 := cl (m_X12_isPaint_174 p1 d) (fun r1 d2 => if w32 r1 = 0 then m_X12_above_174_c22  p1 p2 1 d2 else cl (m_X12_isPaint_174 p2 d2) (fun r3 d4 => if w32 r3 = 0 then m_X12_above_174_c22  p1 p2 1 d4 else m_X12_above_174_c22  p1 p2 0 d4))
set_option maxRecDepth 100000 in
theorem s_X12_above_174_c22 {G : G9} {X : X9} (C : CX G X cX12_above 3 RX12 [] z_X12_above_174) : ∀ (v1 v2 s0 : Int) (d : D9), SS G X 3 0 0 22 [(0, rf G 174), (1, i9 v1), (2, i9 v2)] [i9 s0, rf G 174] d (m_X12_above_174_c22  v1 v2 s0 d) := by
  intro v1 v2 s0 d
  unfold m_X12_above_174_c22
  refine r_putI C dX12_above_22 fp_X12_76 la_174 ly_174 rfl (fun d1 => ?_)
  refine r_aload_n C 0 dX12_above_25 rfl rfl ?_
  refine r_getI C dX12_above_26 fl_X12_76 la_174 ly_174 rfl ?_
  refine r_if_le C (b := 0) 34 dX12_above_29 (by decide) (fun _ => ?_) (fun _ => ?_)
  · refine r_aload_n C 0 dX12_above_34 rfl rfl ?_
    refine r_callV C [rf G 174] dX12_above_35 (t_X12_layReach_174 C.h1 C.h2 d1) mw_X12_381 mv_X12_layReach la_174 ly_174 rfl (by decide) (by decide) (by decide) rfl rfl (Nat.le_of_ble_eq_true rfl) (fun r2 d3 => ?_)
    show SS G X 3 _ _ 38 [(0, rf G 174), (1, i9 v1), (2, i9 v2)] [] d3 _
    refine r_aload_n C 0 dX12_above_38 rfl rfl ?_
    refine r_iload_n C 1 dX12_above_39 rfl rfl ?_
    refine r_iload_n C 2 dX12_above_40 rfl rfl ?_
    refine r_callV C [i9 v2, i9 v1, rf G 174] dX12_above_41 (t_X12_isAbove_174 C.h1 C.h2 v1 v2 d3) mw_X12_378 mv_X12_isAbove la_174 ly_174 rfl (by decide) (by decide) (by decide) rfl rfl (Nat.le_of_ble_eq_true rfl) (fun r4 d5 => ?_)
    show SS G X 3 _ _ 44 [(0, rf G 174), (1, i9 v1), (2, i9 v2)] [i9 r4] d5 _
    exact r_zret C dX12_above_44 (by decide) (by decide)
  · refine r_iconst C dX12_above_32 ?_
    exact r_zret C dX12_above_33 (by decide) (by decide)
set_option maxRecDepth 100000 in
theorem t_X12_above_174 {G : G9} {l : Launch} (h1 : va_D (A9 G) (wl G (fun _ _ => 0))) (h2 : l.stackTraces = false) (p1 p2 : Int) (d : D9) : MT G l yX12_above cX12_above 3 z_X12_above_174 [rf G 174, i9 p1, i9 p2] d (m_X12_above_174 p1 p2 d) := by
  refine mt_of (own := RX12) (by decide) rfl (Nat.le_of_ble_eq_true rfl) h1 h2 [(0, rf G 174), (1, i9 p1), (2, i9 p2)] rfl (fun X hX C => ?_)
  unfold m_X12_above_174
  refine r_aload_n C 0 dX12_above_0 rfl rfl ?_
  refine r_aload_n C 0 dX12_above_1 rfl rfl ?_
  refine r_iload_n C 1 dX12_above_2 rfl rfl ?_
  refine r_callV C [i9 p1, rf G 174, rf G 174] dX12_above_3 (t_X12_isPaint_174 C.h1 C.h2 p1 d) mw_X12_95 mv_X12_isPaint la_174 ly_174 rfl (by decide) (by decide) (by decide) rfl rfl (Nat.le_of_ble_eq_true rfl) (fun r1 d2 => ?_)
  show SS G X 3 _ _ 6 [(0, rf G 174), (1, i9 p1), (2, i9 p2)] [i9 r1, rf G 174] d2 _
  refine r_if_eq C (b := 0) 21 dX12_above_6 (by decide) (fun _ => ?_) (fun _ => ?_)
  · refine r_iconst C dX12_above_21 ?_
    refine ss_wide (k' := 0) (n' := 0) (by decide) (by decide) ?_
    refine ss_ls [(0, rf G 174), (1, i9 p1), (2, i9 p2)] [0, 1, 2] rfl ?_
    exact s_X12_above_174_c22 C  p1 p2 1 d2
  · refine r_aload_n C 0 dX12_above_9 rfl rfl ?_
    refine r_iload_n C 2 dX12_above_10 rfl rfl ?_
    refine r_callV C [i9 p2, rf G 174, rf G 174] dX12_above_11 (t_X12_isPaint_174 C.h1 C.h2 p2 d2) mw_X12_95 mv_X12_isPaint la_174 ly_174 rfl (by decide) (by decide) (by decide) rfl rfl (Nat.le_of_ble_eq_true rfl) (fun r3 d4 => ?_)
    show SS G X 3 _ _ 14 [(0, rf G 174), (1, i9 p1), (2, i9 p2)] [i9 r3, rf G 174] d4 _
    refine r_if_eq C (b := 0) 21 dX12_above_14 (by decide) (fun _ => ?_) (fun _ => ?_)
    · refine r_iconst C dX12_above_21 ?_
      refine ss_wide (k' := 0) (n' := 0) (by decide) (by decide) ?_
      refine ss_ls [(0, rf G 174), (1, i9 p1), (2, i9 p2)] [0, 1, 2] rfl ?_
      exact s_X12_above_174_c22 C  p1 p2 1 d4
    · refine r_iconst C dX12_above_17 ?_
      refine r_goto C 22 dX12_above_18 (by decide) ?_
      refine ss_wide (k' := 0) (n' := 0) (by decide) (by decide) ?_
      refine ss_ls [(0, rf G 174), (1, i9 p1), (2, i9 p2)] [0, 1, 2] rfl ?_
      exact s_X12_above_174_c22 C  p1 p2 0 d4
theorem dX12_areCounts_0 : decode cX12_areCounts 0 = .ok (.lload_n 0, 1) := by decide +kernel
theorem dX12_areCounts_1 : decode cX12_areCounts 1 = .ok (.lconst 0, 1) := by decide +kernel
theorem dX12_areCounts_2 : decode cX12_areCounts 2 = .ok (.ldc2_w 116, 3) := by decide +kernel
theorem dX12_areCounts_5 : decode cX12_areCounts 5 = .ok (.invokestatic 79, 3) := by decide +kernel
theorem dX12_areCounts_8 : decode cX12_areCounts 8 = .ok (.ifCond .eq 30, 3) := by decide +kernel
theorem dX12_areCounts_11 : decode cX12_areCounts 11 = .ok (.lload_n 2, 1) := by decide +kernel
theorem dX12_areCounts_12 : decode cX12_areCounts 12 = .ok (.lconst 0, 1) := by decide +kernel
theorem dX12_areCounts_13 : decode cX12_areCounts 13 = .ok (.ldc2_w 116, 3) := by decide +kernel
theorem dX12_areCounts_16 : decode cX12_areCounts 16 = .ok (.invokestatic 79, 3) := by decide +kernel
theorem dX12_areCounts_19 : decode cX12_areCounts 19 = .ok (.ifCond .eq 19, 3) := by decide +kernel
theorem dX12_areCounts_22 : decode cX12_areCounts 22 = .ok (.lload 4, 2) := by decide +kernel
theorem dX12_areCounts_24 : decode cX12_areCounts 24 = .ok (.lconst 0, 1) := by decide +kernel
theorem dX12_areCounts_25 : decode cX12_areCounts 25 = .ok (.ldc2_w 116, 3) := by decide +kernel
theorem dX12_areCounts_28 : decode cX12_areCounts 28 = .ok (.invokestatic 79, 3) := by decide +kernel
theorem dX12_areCounts_31 : decode cX12_areCounts 31 = .ok (.ifCond .eq 7, 3) := by decide +kernel
theorem dX12_areCounts_34 : decode cX12_areCounts 34 = .ok (.iconst 1, 1) := by decide +kernel
theorem dX12_areCounts_35 : decode cX12_areCounts 35 = .ok (.goto 4, 3) := by decide +kernel
theorem dX12_areCounts_38 : decode cX12_areCounts 38 = .ok (.iconst 0, 1) := by decide +kernel
theorem dX12_areCounts_39 : decode cX12_areCounts 39 = .ok (.ireturn, 1) := by decide +kernel
abbrev z_X12_areCounts : Z9 := (some .boolean, 1, 0, 0, 2, 25)
def m_X12_areCounts (p0 p1 p2 : Int) (d : D9) : Option R9 := cl (m_X12_within p0 0 9999 d) (fun r1 d2 => if w32 r1 = 0 then rt (0 % 2) d2 else cl (m_X12_within p1 0 9999 d2) (fun r3 d4 => if w32 r3 = 0 then rt (0 % 2) d4 else cl (m_X12_within p2 0 9999 d4) (fun r5 d6 => if w32 r5 = 0 then rt (0 % 2) d6 else rt (1 % 2) d6)))
set_option maxRecDepth 100000 in
theorem t_X12_areCounts {G : G9} {l : Launch} (h1 : va_D (A9 G) (wl G (fun _ _ => 0))) (h2 : l.stackTraces = false) (p0 p1 p2 : Int) (d : D9) : MT G l yX12_areCounts cX12_areCounts 6 z_X12_areCounts [l9 p0, l9 p1, l9 p2] d (m_X12_areCounts p0 p1 p2 d) := by
  refine mt_of (own := RX12) (by decide) rfl (Nat.le_of_ble_eq_true rfl) h1 h2 [(0, l9 p0), (2, l9 p1), (4, l9 p2)] rfl (fun X hX C => ?_)
  unfold m_X12_areCounts
  refine r_lload_n C 0 dX12_areCounts_0 rfl rfl ?_
  refine r_lconst C dX12_areCounts_1 (a := 0) rfl ?_
  refine r_ldcL C dX12_areCounts_2 kc_X12_116 ?_
  refine r_callS C [l9 9999, l9 0, l9 p0] dX12_areCounts_5 (t_X12_within C.h1 C.h2 p0 0 9999 d) mw_X12_79 ms_X12_within (by decide) (by decide) (by decide) rfl rfl (Nat.le_of_ble_eq_true rfl) (fun r1 d2 => ?_)
  show SS G X 6 _ _ 8 [(0, l9 p0), (2, l9 p1), (4, l9 p2)] [i9 r1] d2 _
  refine r_if_eq C (b := 0) 38 dX12_areCounts_8 (by decide) (fun _ => ?_) (fun _ => ?_)
  · refine r_iconst C dX12_areCounts_38 ?_
    exact r_zret C dX12_areCounts_39 (by decide) (by decide)
  · refine r_lload_n C 1 dX12_areCounts_11 rfl rfl ?_
    refine r_lconst C dX12_areCounts_12 (a := 0) rfl ?_
    refine r_ldcL C dX12_areCounts_13 kc_X12_116 ?_
    refine r_callS C [l9 9999, l9 0, l9 p1] dX12_areCounts_16 (t_X12_within C.h1 C.h2 p1 0 9999 d2) mw_X12_79 ms_X12_within (by decide) (by decide) (by decide) rfl rfl (Nat.le_of_ble_eq_true rfl) (fun r3 d4 => ?_)
    show SS G X 6 _ _ 19 [(0, l9 p0), (2, l9 p1), (4, l9 p2)] [i9 r3] d4 _
    refine r_if_eq C (b := 0) 38 dX12_areCounts_19 (by decide) (fun _ => ?_) (fun _ => ?_)
    · refine r_iconst C dX12_areCounts_38 ?_
      exact r_zret C dX12_areCounts_39 (by decide) (by decide)
    · refine r_lload C 2 dX12_areCounts_22 rfl ?_
      refine r_lconst C dX12_areCounts_24 (a := 0) rfl ?_
      refine r_ldcL C dX12_areCounts_25 kc_X12_116 ?_
      refine r_callS C [l9 9999, l9 0, l9 p2] dX12_areCounts_28 (t_X12_within C.h1 C.h2 p2 0 9999 d4) mw_X12_79 ms_X12_within (by decide) (by decide) (by decide) rfl rfl (Nat.le_of_ble_eq_true rfl) (fun r5 d6 => ?_)
      show SS G X 6 _ _ 31 [(0, l9 p0), (2, l9 p1), (4, l9 p2)] [i9 r5] d6 _
      refine r_if_eq C (b := 0) 38 dX12_areCounts_31 (by decide) (fun _ => ?_) (fun _ => ?_)
      · refine r_iconst C dX12_areCounts_38 ?_
        exact r_zret C dX12_areCounts_39 (by decide) (by decide)
      · refine r_iconst C dX12_areCounts_34 ?_
        refine r_goto C 39 dX12_areCounts_35 (by decide) ?_
        exact r_zret C dX12_areCounts_39 (by decide) (by decide)
theorem dX12_fails_0 : decode cX12_fails 0 = .ok (.aload_n 0, 1) := by decide +kernel
theorem dX12_fails_1 : decode cX12_fails 1 = .ok (.iload_n 1, 1) := by decide +kernel
theorem dX12_fails_2 : decode cX12_fails 2 = .ok (.putfield 76, 3) := by decide +kernel
theorem dX12_fails_5 : decode cX12_fails 5 = .ok (.iconst 0, 1) := by decide +kernel
theorem dX12_fails_6 : decode cX12_fails 6 = .ok (.ireturn, 1) := by decide +kernel
abbrev z_X12_fails_174 : Z9 := (some .int, 1, 0, 0, 1, 0)
def m_X12_fails_174 (p1 : Int) (d : D9) : Option R9 := pf d 174 3 p1 (fun d1 => rt 0 d1)
set_option maxRecDepth 100000 in
theorem t_X12_fails_174 {G : G9} {l : Launch} (h1 : va_D (A9 G) (wl G (fun _ _ => 0))) (h2 : l.stackTraces = false) (p1 : Int) (d : D9) : MT G l yX12_fails cX12_fails 2 z_X12_fails_174 [rf G 174, i9 p1] d (m_X12_fails_174 p1 d) := by
  refine mt_of (own := RX12) (by decide) rfl (Nat.le_of_ble_eq_true rfl) h1 h2 [(0, rf G 174), (1, i9 p1)] rfl (fun X hX C => ?_)
  unfold m_X12_fails_174
  refine r_aload_n C 0 dX12_fails_0 rfl rfl ?_
  refine r_iload_n C 1 dX12_fails_1 rfl rfl ?_
  refine r_putI C dX12_fails_2 fp_X12_76 la_174 ly_174 rfl (fun d1 => ?_)
  refine r_iconst C dX12_fails_5 ?_
  exact r_iret C dX12_fails_6 (by decide) (by decide)
theorem dX12_isShare_0 : decode cX12_isShare 0 = .ok (.iload_n 0, 1) := by decide +kernel
theorem dX12_isShare_1 : decode cX12_isShare 1 = .ok (.i2l, 1) := by decide +kernel
theorem dX12_isShare_2 : decode cX12_isShare 2 = .ok (.lconst 0, 1) := by decide +kernel
theorem dX12_isShare_3 : decode cX12_isShare 3 = .ok (.ldc2_w 93, 3) := by decide +kernel
theorem dX12_isShare_6 : decode cX12_isShare 6 = .ok (.invokestatic 79, 3) := by decide +kernel
theorem dX12_isShare_9 : decode cX12_isShare 9 = .ok (.ireturn, 1) := by decide +kernel
abbrev z_X12_isShare : Z9 := (some .boolean, 1, 0, 0, 2, 25)
def m_X12_isShare (p0 : Int) (d : D9) : Option R9 := cl (m_X12_within (w32 p0) 0 99 d) (fun r1 d2 => rt (r1 % 2) d2)
set_option maxRecDepth 100000 in
theorem t_X12_isShare {G : G9} {l : Launch} (h1 : va_D (A9 G) (wl G (fun _ _ => 0))) (h2 : l.stackTraces = false) (p0 : Int) (d : D9) : MT G l yX12_isShare cX12_isShare 1 z_X12_isShare [i9 p0] d (m_X12_isShare p0 d) := by
  refine mt_of (own := RX12) (by decide) rfl (Nat.le_of_ble_eq_true rfl) h1 h2 [(0, i9 p0)] rfl (fun X hX C => ?_)
  unfold m_X12_isShare
  refine r_iload_n C 0 dX12_isShare_0 rfl rfl ?_
  refine r_i2l C dX12_isShare_1 ?_
  refine r_lconst C dX12_isShare_2 (a := 0) rfl ?_
  refine r_ldcL C dX12_isShare_3 kc_X12_93 ?_
  refine r_callS C [l9 99, l9 0, l9 (w32 p0)] dX12_isShare_6 (t_X12_within C.h1 C.h2 (w32 p0) 0 99 d) mw_X12_79 ms_X12_within (by decide) (by decide) (by decide) rfl rfl (Nat.le_of_ble_eq_true rfl) (fun r1 d2 => ?_)
  show SS G X 1 _ _ 9 [(0, i9 p0)] [i9 r1] d2 _
  exact r_zret C dX12_isShare_9 (by decide) (by decide)
theorem dX12_growth_0 : decode cX12_growth 0 = .ok (.lconst 0, 1) := by decide +kernel
theorem dX12_growth_1 : decode cX12_growth 1 = .ok (.ldc2_w 286, 3) := by decide +kernel
theorem dX12_growth_4 : decode cX12_growth 4 = .ok (.iload_n 3, 1) := by decide +kernel
theorem dX12_growth_5 : decode cX12_growth 5 = .ok (.i2l, 1) := by decide +kernel
theorem dX12_growth_6 : decode cX12_growth 6 = .ok (.lmul, 1) := by decide +kernel
theorem dX12_growth_7 : decode cX12_growth 7 = .ok (.lload_n 1, 1) := by decide +kernel
theorem dX12_growth_8 : decode cX12_growth 8 = .ok (.lsub, 1) := by decide +kernel
theorem dX12_growth_9 : decode cX12_growth 9 = .ok (.aload_n 0, 1) := by decide +kernel
theorem dX12_growth_10 : decode cX12_growth 10 = .ok (.getfield 9, 3) := by decide +kernel
theorem dX12_growth_13 : decode cX12_growth 13 = .ok (.bipush 6, 2) := by decide +kernel
theorem dX12_growth_15 : decode cX12_growth 15 = .ok (.iaload, 1) := by decide +kernel
theorem dX12_growth_16 : decode cX12_growth 16 = .ok (.i2l, 1) := by decide +kernel
theorem dX12_growth_17 : decode cX12_growth 17 = .ok (.lmul, 1) := by decide +kernel
theorem dX12_growth_18 : decode cX12_growth 18 = .ok (.ldc2_w 286, 3) := by decide +kernel
theorem dX12_growth_21 : decode cX12_growth 21 = .ok (.ldiv, 1) := by decide +kernel
theorem dX12_growth_22 : decode cX12_growth 22 = .ok (.invokestatic 288, 3) := by decide +kernel
theorem dX12_growth_25 : decode cX12_growth 25 = .ok (.lreturn, 1) := by decide +kernel
abbrev z_X12_growth_174 : Z9 := (some .long, 2, 0, 0, 2, 60)
def m_X12_growth_174 (p1 p2 : Int) (d : D9) : Option R9 := ld d 175 1604 6 (fun t1 => rt (maxL9 0 (divL (((1000 * (w32 p2)) - p1) * (w32 t1)) 1000)) d)
set_option maxRecDepth 100000 in
theorem t_X12_growth_174 {G : G9} {l : Launch} (h1 : va_D (A9 G) (wl G (fun _ _ => 0))) (h2 : l.stackTraces = false) (p1 p2 : Int) (d : D9) : MT G l yX12_growth cX12_growth 4 z_X12_growth_174 [rf G 174, l9 p1, i9 p2] d (m_X12_growth_174 p1 p2 d) := by
  refine mt_of (own := RX12) (by decide) rfl (Nat.le_of_ble_eq_true rfl) h1 h2 [(0, rf G 174), (1, l9 p1), (3, i9 p2)] rfl (fun X hX C => ?_)
  unfold m_X12_growth_174
  refine r_lconst C dX12_growth_0 (a := 0) rfl ?_
  refine r_ldcL C dX12_growth_1 kc_X12_286 ?_
  refine r_iload_n C 2 dX12_growth_4 rfl rfl ?_
  refine r_i2l C dX12_growth_5 ?_
  refine r_lmul C dX12_growth_6 ?_
  refine r_lload_n C 1 dX12_growth_7 rfl rfl ?_
  refine r_lsub C dX12_growth_8 ?_
  refine r_aload_n C 0 dX12_growth_9 rfl rfl ?_
  refine r_getR C 175 dX12_growth_10 fl_X12_9 la_174 ly_174 rfl rfl ?_
  refine r_bipush C dX12_growth_13 rfl ?_
  refine r_iald C dX12_growth_15 la_175 ly_175 (fun t1 => ?_)
  refine r_i2l C dX12_growth_16 ?_
  refine r_lmul C dX12_growth_17 ?_
  refine r_ldcL C dX12_growth_18 kc_X12_286 ?_
  refine r_ldiv C dX12_growth_21 (by decide) ?_
  refine r_mmaxL C dX12_growth_22 mm_X12_288 ⟨Nat.le_of_ble_eq_true rfl, Nat.le_of_ble_eq_true rfl⟩ (by decide) (by decide) ?_
  exact r_lret C dX12_growth_25 (by decide) (by decide)
theorem dX12_clock_0 : decode cX12_clock 0 = .ok (.ldc2_w 294, 3) := by decide +kernel
theorem dX12_clock_3 : decode cX12_clock 3 = .ok (.iload_n 3, 1) := by decide +kernel
theorem dX12_clock_4 : decode cX12_clock 4 = .ok (.i2l, 1) := by decide +kernel
theorem dX12_clock_5 : decode cX12_clock 5 = .ok (.lmul, 1) := by decide +kernel
theorem dX12_clock_6 : decode cX12_clock 6 = .ok (.iload 4, 2) := by decide +kernel
theorem dX12_clock_8 : decode cX12_clock 8 = .ok (.i2l, 1) := by decide +kernel
theorem dX12_clock_9 : decode cX12_clock 9 = .ok (.lmul, 1) := by decide +kernel
theorem dX12_clock_10 : decode cX12_clock 10 = .ok (.lstore 5, 2) := by decide +kernel
theorem dX12_clock_12 : decode cX12_clock 12 = .ok (.iconst 0, 1) := by decide +kernel
theorem dX12_clock_13 : decode cX12_clock 13 = .ok (.istore 7, 2) := by decide +kernel
theorem dX12_clock_15 : decode cX12_clock 15 = .ok (.lload 5, 2) := by decide +kernel
theorem dX12_clock_17 : decode cX12_clock 17 = .ok (.ldc2_w 286, 3) := by decide +kernel
theorem dX12_clock_20 : decode cX12_clock 20 = .ok (.iload_n 1, 1) := by decide +kernel
theorem dX12_clock_21 : decode cX12_clock 21 = .ok (.i2l, 1) := by decide +kernel
theorem dX12_clock_22 : decode cX12_clock 22 = .ok (.lmul, 1) := by decide +kernel
theorem dX12_clock_23 : decode cX12_clock 23 = .ok (.lcmp, 1) := by decide +kernel
theorem dX12_clock_24 : decode cX12_clock 24 = .ok (.ifCond .ge 29, 3) := by decide +kernel
theorem dX12_clock_27 : decode cX12_clock 27 = .ok (.iload 7, 2) := by decide +kernel
theorem dX12_clock_29 : decode cX12_clock 29 = .ok (.sipush 400, 3) := by decide +kernel
theorem dX12_clock_32 : decode cX12_clock 32 = .ok (.if_icmp .ge 21, 3) := by decide +kernel
theorem dX12_clock_35 : decode cX12_clock 35 = .ok (.lload 5, 2) := by decide +kernel
theorem dX12_clock_37 : decode cX12_clock 37 = .ok (.aload_n 0, 1) := by decide +kernel
theorem dX12_clock_38 : decode cX12_clock 38 = .ok (.lload 5, 2) := by decide +kernel
theorem dX12_clock_40 : decode cX12_clock 40 = .ok (.iload_n 2, 1) := by decide +kernel
theorem dX12_clock_41 : decode cX12_clock 41 = .ok (.invokevirtual 296, 3) := by decide +kernel
theorem dX12_clock_44 : decode cX12_clock 44 = .ok (.ladd, 1) := by decide +kernel
theorem dX12_clock_45 : decode cX12_clock 45 = .ok (.lstore 5, 2) := by decide +kernel
theorem dX12_clock_47 : decode cX12_clock 47 = .ok (.iinc 7 1, 3) := by decide +kernel
theorem dX12_clock_50 : decode cX12_clock 50 = .ok (.goto (-35), 3) := by decide +kernel
theorem dX12_clock_53 : decode cX12_clock 53 = .ok (.iload 7, 2) := by decide +kernel
theorem dX12_clock_55 : decode cX12_clock 55 = .ok (.ireturn, 1) := by decide +kernel
abbrev z_X12_clock_174 : Z9 := (some .int, 1, 0, 0, 3, 83)
def b_X12_clock_174_c15 (k_X12_clock_174_c15 : Int → Int → Int → Int → D9 → Option R9) (v1 v2 v5 v7 : Int) (d : D9) : Option R9 := if w64 (1000 * (w32 v1)) ≤ w64 v5 then rt v7 d else if w32 400 ≤ w32 v7 then rt v7 d else cl (m_X12_growth_174 v5 v2 d) (fun r1 d2 => lt9v (v5 + r1) (fun a3 => k_X12_clock_174_c15 v1 v2 a3 (v7 + 1) d2))
def m_X12_clock_174_c15 : Int → Int → Int → Int → D9 → Option R9 := fix9 (fun _ _ _ _ _ => none) (fun k => b_X12_clock_174_c15 k) FU
def m_X12_clock_174 (p1 p2 p3 p4 : Int) (d : D9) : Option R9 := lt9v ((10 * (w32 p3)) * (w32 p4)) (fun a1 => m_X12_clock_174_c15  p1 p2 a1 0 d)
set_option maxRecDepth 100000 in
theorem sb_X12_clock_174_c15 {G : G9} {X : X9} (C : CX G X cX12_clock 8 RX12 [] z_X12_clock_174) (k_X12_clock_174_c15 : Int → Int → Int → Int → D9 → Option R9) (hk_X12_clock_174_c15 : ∀ (v1 v2 v5 v7 : Int) (d : D9), SS G X 8 0 0 15 [(0, rf G 174), (1, i9 v1), (2, i9 v2), (5, l9 v5), (7, i9 v7)] [] d (k_X12_clock_174_c15 v1 v2 v5 v7 d)) : ∀ (v1 v2 v5 v7 : Int) (d : D9), SS G X 8 0 0 15 [(0, rf G 174), (1, i9 v1), (2, i9 v2), (5, l9 v5), (7, i9 v7)] [] d (b_X12_clock_174_c15 k_X12_clock_174_c15 v1 v2 v5 v7 d) := by
  intro v1 v2 v5 v7 d
  unfold b_X12_clock_174_c15
  refine r_lload C 3 dX12_clock_15 rfl ?_
  refine r_ldcL C dX12_clock_17 kc_X12_286 ?_
  refine r_iload_n C 1 dX12_clock_20 rfl rfl ?_
  refine r_i2l C dX12_clock_21 ?_
  refine r_lmul C dX12_clock_22 ?_
  refine r_lcmp_ge C 53 dX12_clock_23 dX12_clock_24 (by decide) (fun _ => ?_) (fun _ => ?_)
  · refine r_iload C 4 dX12_clock_53 rfl ?_
    exact r_iret C dX12_clock_55 (by decide) (by decide)
  · refine r_iload C 4 dX12_clock_27 rfl ?_
    refine r_sipush C dX12_clock_29 rfl ?_
    refine r_icmp_ge C 53 dX12_clock_32 (by decide) (fun _ => ?_) (fun _ => ?_)
    · refine r_iload C 4 dX12_clock_53 rfl ?_
      exact r_iret C dX12_clock_55 (by decide) (by decide)
    · refine r_lload C 3 dX12_clock_35 rfl ?_
      refine r_aload_n C 0 dX12_clock_37 rfl rfl ?_
      refine r_lload C 3 dX12_clock_38 rfl ?_
      refine r_iload_n C 2 dX12_clock_40 rfl rfl ?_
      refine r_callV C [i9 v2, l9 v5, rf G 174, l9 v5] dX12_clock_41 (t_X12_growth_174 C.h1 C.h2 v5 v2 d) mw_X12_296 mv_X12_growth la_174 ly_174 rfl (by decide) (by decide) (by decide) rfl rfl (Nat.le_of_ble_eq_true rfl) (fun r1 d2 => ?_)
      show SS G X 8 _ _ 44 [(0, rf G 174), (1, i9 v1), (2, i9 v2), (5, l9 v5), (7, i9 v7)] [l9 r1, l9 v5] d2 _
      refine r_ladd C dX12_clock_44 ?_
      refine ss_ltL (fun a3 => ?_)
      refine r_lstore C [(5, l9 a3), (0, rf G 174), (1, i9 v1), (2, i9 v2), (7, i9 v7)] dX12_clock_45 (by decide) rfl ?_
      refine r_iinc C 4 [(7, i9 (v7 + 1)), (5, l9 a3), (0, rf G 174), (1, i9 v1), (2, i9 v2)] dX12_clock_47 rfl (by decide) rfl ?_
      refine r_goto C 15 dX12_clock_50 (by decide) ?_
      refine ss_wide (k' := 0) (n' := 0) (by decide) (by decide) ?_
      refine ss_ls [(0, rf G 174), (1, i9 v1), (2, i9 v2), (5, l9 a3), (7, i9 (v7 + 1))] [2, 3, 4, 1, 0] rfl ?_
      exact hk_X12_clock_174_c15 v1 v2 a3 (v7 + 1) d2
theorem s_X12_clock_174_c15 {G : G9} {X : X9} (C : CX G X cX12_clock 8 RX12 [] z_X12_clock_174) : ∀ (v1 v2 v5 v7 : Int) (d : D9), SS G X 8 0 0 15 [(0, rf G 174), (1, i9 v1), (2, i9 v2), (5, l9 v5), (7, i9 v7)] [] d (m_X12_clock_174_c15  v1 v2 v5 v7 d) :=
  fix9_ind (P := fun k => ∀ (v1 v2 v5 v7 : Int) (d : D9), SS G X 8 0 0 15 [(0, rf G 174), (1, i9 v1), (2, i9 v2), (5, l9 v5), (7, i9 v7)] [] d (k v1 v2 v5 v7 d)) (fun _ _ _ _ _ => ss_none) (fun k hk => sb_X12_clock_174_c15 C k hk) FU
set_option maxRecDepth 100000 in
theorem t_X12_clock_174 {G : G9} {l : Launch} (h1 : va_D (A9 G) (wl G (fun _ _ => 0))) (h2 : l.stackTraces = false) (p1 p2 p3 p4 : Int) (d : D9) : MT G l yX12_clock cX12_clock 8 z_X12_clock_174 [rf G 174, i9 p1, i9 p2, i9 p3, i9 p4] d (m_X12_clock_174 p1 p2 p3 p4 d) := by
  refine mt_of (own := RX12) (by decide) rfl (Nat.le_of_ble_eq_true rfl) h1 h2 [(0, rf G 174), (1, i9 p1), (2, i9 p2), (3, i9 p3), (4, i9 p4)] rfl (fun X hX C => ?_)
  unfold m_X12_clock_174
  refine r_ldcL C dX12_clock_0 kc_X12_294 ?_
  refine r_iload_n C 3 dX12_clock_3 rfl rfl ?_
  refine r_i2l C dX12_clock_4 ?_
  refine r_lmul C dX12_clock_5 ?_
  refine r_iload C 4 dX12_clock_6 rfl ?_
  refine r_i2l C dX12_clock_8 ?_
  refine r_lmul C dX12_clock_9 ?_
  refine ss_ltL (fun a1 => ?_)
  refine r_lstore C [(5, l9 a1), (0, rf G 174), (1, i9 p1), (2, i9 p2), (3, i9 p3), (4, i9 p4)] dX12_clock_10 (by decide) rfl ?_
  refine r_iconst C dX12_clock_12 ?_
  refine r_istore C [(7, i9 0), (5, l9 a1), (0, rf G 174), (1, i9 p1), (2, i9 p2), (3, i9 p3), (4, i9 p4)] dX12_clock_13 (by decide) rfl ?_
  refine ss_wide (k' := 0) (n' := 0) (by decide) (by decide) ?_
  refine ss_ls [(0, rf G 174), (1, i9 p1), (2, i9 p2), (5, l9 a1), (7, i9 0)] [2, 3, 4, 1, 0] rfl ?_
  exact s_X12_clock_174_c15 C  p1 p2 a1 0 d

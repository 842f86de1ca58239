theorem dX12_areLengths_0 : decode cX12_areLengths 0 = .ok (.iload_n 1, 1) := by decide +kernel
theorem dX12_areLengths_1 : decode cX12_areLengths 1 = .ok (.i2l, 1) := by decide +kernel
theorem dX12_areLengths_2 : decode cX12_areLengths 2 = .ok (.iload_n 0, 1) := by decide +kernel
theorem dX12_areLengths_3 : decode cX12_areLengths 3 = .ok (.i2l, 1) := by decide +kernel
theorem dX12_areLengths_4 : decode cX12_areLengths 4 = .ok (.ldc2_w 93, 3) := by decide +kernel
theorem dX12_areLengths_7 : decode cX12_areLengths 7 = .ok (.invokestatic 79, 3) := by decide +kernel
theorem dX12_areLengths_10 : decode cX12_areLengths 10 = .ok (.ifCond .eq 61, 3) := by decide +kernel
theorem dX12_areLengths_13 : decode cX12_areLengths 13 = .ok (.iload_n 2, 1) := by decide +kernel
theorem dX12_areLengths_14 : decode cX12_areLengths 14 = .ok (.i2l, 1) := by decide +kernel
theorem dX12_areLengths_15 : decode cX12_areLengths 15 = .ok (.iload_n 0, 1) := by decide +kernel
theorem dX12_areLengths_16 : decode cX12_areLengths 16 = .ok (.i2l, 1) := by decide +kernel
theorem dX12_areLengths_17 : decode cX12_areLengths 17 = .ok (.ldc2_w 93, 3) := by decide +kernel
theorem dX12_areLengths_20 : decode cX12_areLengths 20 = .ok (.invokestatic 79, 3) := by decide +kernel
theorem dX12_areLengths_23 : decode cX12_areLengths 23 = .ok (.ifCond .eq 48, 3) := by decide +kernel
theorem dX12_areLengths_26 : decode cX12_areLengths 26 = .ok (.iload_n 3, 1) := by decide +kernel
theorem dX12_areLengths_27 : decode cX12_areLengths 27 = .ok (.i2l, 1) := by decide +kernel
theorem dX12_areLengths_28 : decode cX12_areLengths 28 = .ok (.iload_n 0, 1) := by decide +kernel
theorem dX12_areLengths_29 : decode cX12_areLengths 29 = .ok (.i2l, 1) := by decide +kernel
theorem dX12_areLengths_30 : decode cX12_areLengths 30 = .ok (.ldc2_w 93, 3) := by decide +kernel
theorem dX12_areLengths_33 : decode cX12_areLengths 33 = .ok (.invokestatic 79, 3) := by decide +kernel
theorem dX12_areLengths_36 : decode cX12_areLengths 36 = .ok (.ifCond .eq 35, 3) := by decide +kernel
theorem dX12_areLengths_39 : decode cX12_areLengths 39 = .ok (.iload 4, 2) := by decide +kernel
theorem dX12_areLengths_41 : decode cX12_areLengths 41 = .ok (.i2l, 1) := by decide +kernel
theorem dX12_areLengths_42 : decode cX12_areLengths 42 = .ok (.iload_n 0, 1) := by decide +kernel
theorem dX12_areLengths_43 : decode cX12_areLengths 43 = .ok (.i2l, 1) := by decide +kernel
theorem dX12_areLengths_44 : decode cX12_areLengths 44 = .ok (.ldc2_w 93, 3) := by decide +kernel
theorem dX12_areLengths_47 : decode cX12_areLengths 47 = .ok (.invokestatic 79, 3) := by decide +kernel
theorem dX12_areLengths_50 : decode cX12_areLengths 50 = .ok (.ifCond .eq 21, 3) := by decide +kernel
theorem dX12_areLengths_53 : decode cX12_areLengths 53 = .ok (.iload 5, 2) := by decide +kernel
theorem dX12_areLengths_55 : decode cX12_areLengths 55 = .ok (.i2l, 1) := by decide +kernel
theorem dX12_areLengths_56 : decode cX12_areLengths 56 = .ok (.iload_n 0, 1) := by decide +kernel
theorem dX12_areLengths_57 : decode cX12_areLengths 57 = .ok (.i2l, 1) := by decide +kernel
theorem dX12_areLengths_58 : decode cX12_areLengths 58 = .ok (.ldc2_w 93, 3) := by decide +kernel
theorem dX12_areLengths_61 : decode cX12_areLengths 61 = .ok (.invokestatic 79, 3) := by decide +kernel
theorem dX12_areLengths_64 : decode cX12_areLengths 64 = .ok (.ifCond .eq 7, 3) := by decide +kernel
theorem dX12_areLengths_67 : decode cX12_areLengths 67 = .ok (.iconst 1, 1) := by decide +kernel
theorem dX12_areLengths_68 : decode cX12_areLengths 68 = .ok (.goto 4, 3) := by decide +kernel
theorem dX12_areLengths_71 : decode cX12_areLengths 71 = .ok (.iconst 0, 1) := by decide +kernel
theorem dX12_areLengths_72 : decode cX12_areLengths 72 = .ok (.ireturn, 1) := by decide +kernel
abbrev z_X12_areLengths : Z9 := (some .boolean, 1, 0, 0, 2, 25)
def m_X12_areLengths (p0 p1 p2 p3 p4 p5 : Int) (d : D9) : Option R9 := cl (m_X12_within (w32 p1) (w32 p0) 99 d) (fun r1 d2 => if w32 r1 = 0 then rt (0 % 2) d2 else cl (m_X12_within (w32 p2) (w32 p0) 99 d2) (fun r3 d4 => if w32 r3 = 0 then rt (0 % 2) d4 else cl (m_X12_within (w32 p3) (w32 p0) 99 d4) (fun r5 d6 => if w32 r5 = 0 then rt (0 % 2) d6 else cl (m_X12_within (w32 p4) (w32 p0) 99 d6) (fun r7 d8 => if w32 r7 = 0 then rt (0 % 2) d8 else cl (m_X12_within (w32 p5) (w32 p0) 99 d8) (fun r9 d10 => if w32 r9 = 0 then rt (0 % 2) d10 else rt (1 % 2) d10)))))
set_option maxRecDepth 100000 in
theorem t_X12_areLengths {G : G9} {l : Launch} (h1 : va_D (A9 G) (wl G (fun _ _ => 0))) (h2 : l.stackTraces = false) (p0 p1 p2 p3 p4 p5 : Int) (d : D9) : MT G l yX12_areLengths cX12_areLengths 6 z_X12_areLengths [i9 p0, i9 p1, i9 p2, i9 p3, i9 p4, i9 p5] d (m_X12_areLengths p0 p1 p2 p3 p4 p5 d) := by
  refine mt_of (own := RX12) (by decide) rfl (Nat.le_of_ble_eq_true rfl) h1 h2 [(0, i9 p0), (1, i9 p1), (2, i9 p2), (3, i9 p3), (4, i9 p4), (5, i9 p5)] rfl (fun X hX C => ?_)
  unfold m_X12_areLengths
  refine r_iload_n C 1 dX12_areLengths_0 rfl rfl ?_
  refine r_i2l C dX12_areLengths_1 ?_
  refine r_iload_n C 0 dX12_areLengths_2 rfl rfl ?_
  refine r_i2l C dX12_areLengths_3 ?_
  refine r_ldcL C dX12_areLengths_4 kc_X12_93 ?_
  refine r_callS C [l9 99, l9 (w32 p0), l9 (w32 p1)] dX12_areLengths_7 (t_X12_within C.h1 C.h2 (w32 p1) (w32 p0) 99 d) mw_X12_79 ms_X12_within (by decide) (by decide) (by decide) rfl rfl (Nat.le_of_ble_eq_true rfl) (fun r1 d2 => ?_)
  show SS G X 6 _ _ 10 [(0, i9 p0), (1, i9 p1), (2, i9 p2), (3, i9 p3), (4, i9 p4), (5, i9 p5)] [i9 r1] d2 _
  refine r_if_eq C (b := 0) 71 dX12_areLengths_10 (by decide) (fun _ => ?_) (fun _ => ?_)
  · refine r_iconst C dX12_areLengths_71 ?_
    exact r_zret C dX12_areLengths_72 (by decide) (by decide)
  · refine r_iload_n C 2 dX12_areLengths_13 rfl rfl ?_
    refine r_i2l C dX12_areLengths_14 ?_
    refine r_iload_n C 0 dX12_areLengths_15 rfl rfl ?_
    refine r_i2l C dX12_areLengths_16 ?_
    refine r_ldcL C dX12_areLengths_17 kc_X12_93 ?_
    refine r_callS C [l9 99, l9 (w32 p0), l9 (w32 p2)] dX12_areLengths_20 (t_X12_within C.h1 C.h2 (w32 p2) (w32 p0) 99 d2) mw_X12_79 ms_X12_within (by decide) (by decide) (by decide) rfl rfl (Nat.le_of_ble_eq_true rfl) (fun r3 d4 => ?_)
    show SS G X 6 _ _ 23 [(0, i9 p0), (1, i9 p1), (2, i9 p2), (3, i9 p3), (4, i9 p4), (5, i9 p5)] [i9 r3] d4 _
    refine r_if_eq C (b := 0) 71 dX12_areLengths_23 (by decide) (fun _ => ?_) (fun _ => ?_)
    · refine r_iconst C dX12_areLengths_71 ?_
      exact r_zret C dX12_areLengths_72 (by decide) (by decide)
    · refine r_iload_n C 3 dX12_areLengths_26 rfl rfl ?_
      refine r_i2l C dX12_areLengths_27 ?_
      refine r_iload_n C 0 dX12_areLengths_28 rfl rfl ?_
      refine r_i2l C dX12_areLengths_29 ?_
      refine r_ldcL C dX12_areLengths_30 kc_X12_93 ?_
      refine r_callS C [l9 99, l9 (w32 p0), l9 (w32 p3)] dX12_areLengths_33 (t_X12_within C.h1 C.h2 (w32 p3) (w32 p0) 99 d4) mw_X12_79 ms_X12_within (by decide) (by decide) (by decide) rfl rfl (Nat.le_of_ble_eq_true rfl) (fun r5 d6 => ?_)
      show SS G X 6 _ _ 36 [(0, i9 p0), (1, i9 p1), (2, i9 p2), (3, i9 p3), (4, i9 p4), (5, i9 p5)] [i9 r5] d6 _
      refine r_if_eq C (b := 0) 71 dX12_areLengths_36 (by decide) (fun _ => ?_) (fun _ => ?_)
      · refine r_iconst C dX12_areLengths_71 ?_
        exact r_zret C dX12_areLengths_72 (by decide) (by decide)
      · refine r_iload C 4 dX12_areLengths_39 rfl ?_
        refine r_i2l C dX12_areLengths_41 ?_
        refine r_iload_n C 0 dX12_areLengths_42 rfl rfl ?_
        refine r_i2l C dX12_areLengths_43 ?_
        refine r_ldcL C dX12_areLengths_44 kc_X12_93 ?_
        refine r_callS C [l9 99, l9 (w32 p0), l9 (w32 p4)] dX12_areLengths_47 (t_X12_within C.h1 C.h2 (w32 p4) (w32 p0) 99 d6) mw_X12_79 ms_X12_within (by decide) (by decide) (by decide) rfl rfl (Nat.le_of_ble_eq_true rfl) (fun r7 d8 => ?_)
        show SS G X 6 _ _ 50 [(0, i9 p0), (1, i9 p1), (2, i9 p2), (3, i9 p3), (4, i9 p4), (5, i9 p5)] [i9 r7] d8 _
        refine r_if_eq C (b := 0) 71 dX12_areLengths_50 (by decide) (fun _ => ?_) (fun _ => ?_)
        · refine r_iconst C dX12_areLengths_71 ?_
          exact r_zret C dX12_areLengths_72 (by decide) (by decide)
        · refine r_iload C 5 dX12_areLengths_53 rfl ?_
          refine r_i2l C dX12_areLengths_55 ?_
          refine r_iload_n C 0 dX12_areLengths_56 rfl rfl ?_
          refine r_i2l C dX12_areLengths_57 ?_
          refine r_ldcL C dX12_areLengths_58 kc_X12_93 ?_
          refine r_callS C [l9 99, l9 (w32 p0), l9 (w32 p5)] dX12_areLengths_61 (t_X12_within C.h1 C.h2 (w32 p5) (w32 p0) 99 d8) mw_X12_79 ms_X12_within (by decide) (by decide) (by decide) rfl rfl (Nat.le_of_ble_eq_true rfl) (fun r9 d10 => ?_)
          show SS G X 6 _ _ 64 [(0, i9 p0), (1, i9 p1), (2, i9 p2), (3, i9 p3), (4, i9 p4), (5, i9 p5)] [i9 r9] d10 _
          refine r_if_eq C (b := 0) 71 dX12_areLengths_64 (by decide) (fun _ => ?_) (fun _ => ?_)
          · refine r_iconst C dX12_areLengths_71 ?_
            exact r_zret C dX12_areLengths_72 (by decide) (by decide)
          · refine r_iconst C dX12_areLengths_67 ?_
            refine r_goto C 72 dX12_areLengths_68 (by decide) ?_
            exact r_zret C dX12_areLengths_72 (by decide) (by decide)
theorem dX12_fingers_0 : decode cX12_fingers 0 = .ok (.aload_n 0, 1) := by decide +kernel
theorem dX12_fingers_1 : decode cX12_fingers 1 = .ok (.aload_n 0, 1) := by decide +kernel
theorem dX12_fingers_2 : decode cX12_fingers 2 = .ok (.iload_n 1, 1) := by decide +kernel
theorem dX12_fingers_3 : decode cX12_fingers 3 = .ok (.invokevirtual 103, 3) := by decide +kernel
theorem dX12_fingers_6 : decode cX12_fingers 6 = .ok (.putfield 76, 3) := by decide +kernel
theorem dX12_fingers_9 : decode cX12_fingers 9 = .ok (.aload_n 0, 1) := by decide +kernel
theorem dX12_fingers_10 : decode cX12_fingers 10 = .ok (.getfield 76, 3) := by decide +kernel
theorem dX12_fingers_13 : decode cX12_fingers 13 = .ok (.ifCond .ne 23, 3) := by decide +kernel
theorem dX12_fingers_16 : decode cX12_fingers 16 = .ok (.iconst 0, 1) := by decide +kernel
theorem dX12_fingers_17 : decode cX12_fingers 17 = .ok (.iload_n 2, 1) := by decide +kernel
theorem dX12_fingers_18 : decode cX12_fingers 18 = .ok (.iload_n 3, 1) := by decide +kernel
theorem dX12_fingers_19 : decode cX12_fingers 19 = .ok (.iload 4, 2) := by decide +kernel
theorem dX12_fingers_21 : decode cX12_fingers 21 = .ok (.iload 5, 2) := by decide +kernel
theorem dX12_fingers_23 : decode cX12_fingers 23 = .ok (.iload 6, 2) := by decide +kernel
theorem dX12_fingers_25 : decode cX12_fingers 25 = .ok (.invokestatic 106, 3) := by decide +kernel
theorem dX12_fingers_28 : decode cX12_fingers 28 = .ok (.ifCond .ne 8, 3) := by decide +kernel
theorem dX12_fingers_31 : decode cX12_fingers 31 = .ok (.aload_n 0, 1) := by decide +kernel
theorem dX12_fingers_32 : decode cX12_fingers 32 = .ok (.iconst 3, 1) := by decide +kernel
theorem dX12_fingers_33 : decode cX12_fingers 33 = .ok (.putfield 76, 3) := by decide +kernel
theorem dX12_fingers_36 : decode cX12_fingers 36 = .ok (.aload_n 0, 1) := by decide +kernel
theorem dX12_fingers_37 : decode cX12_fingers 37 = .ok (.getfield 76, 3) := by decide +kernel
theorem dX12_fingers_40 : decode cX12_fingers 40 = .ok (.ifCond .le 4, 3) := by decide +kernel
theorem dX12_fingers_43 : decode cX12_fingers 43 = .ok (.return_, 1) := by decide +kernel
theorem dX12_fingers_44 : decode cX12_fingers 44 = .ok (.bipush 16, 2) := by decide +kernel
theorem dX12_fingers_46 : decode cX12_fingers 46 = .ok (.bipush 8, 2) := by decide +kernel
theorem dX12_fingers_48 : decode cX12_fingers 48 = .ok (.iload_n 1, 1) := by decide +kernel
theorem dX12_fingers_49 : decode cX12_fingers 49 = .ok (.imul, 1) := by decide +kernel
theorem dX12_fingers_50 : decode cX12_fingers 50 = .ok (.iadd, 1) := by decide +kernel
theorem dX12_fingers_51 : decode cX12_fingers 51 = .ok (.iconst 3, 1) := by decide +kernel
theorem dX12_fingers_52 : decode cX12_fingers 52 = .ok (.iadd, 1) := by decide +kernel
theorem dX12_fingers_53 : decode cX12_fingers 53 = .ok (.istore 7, 2) := by decide +kernel
theorem dX12_fingers_55 : decode cX12_fingers 55 = .ok (.aload_n 0, 1) := by decide +kernel
theorem dX12_fingers_56 : decode cX12_fingers 56 = .ok (.getfield 9, 3) := by decide +kernel
theorem dX12_fingers_59 : decode cX12_fingers 59 = .ok (.iload 7, 2) := by decide +kernel
theorem dX12_fingers_61 : decode cX12_fingers 61 = .ok (.iload_n 2, 1) := by decide +kernel
theorem dX12_fingers_62 : decode cX12_fingers 62 = .ok (.iastore, 1) := by decide +kernel
theorem dX12_fingers_63 : decode cX12_fingers 63 = .ok (.aload_n 0, 1) := by decide +kernel
theorem dX12_fingers_64 : decode cX12_fingers 64 = .ok (.getfield 9, 3) := by decide +kernel
theorem dX12_fingers_67 : decode cX12_fingers 67 = .ok (.iload 7, 2) := by decide +kernel
theorem dX12_fingers_69 : decode cX12_fingers 69 = .ok (.iconst 1, 1) := by decide +kernel
theorem dX12_fingers_70 : decode cX12_fingers 70 = .ok (.iadd, 1) := by decide +kernel
theorem dX12_fingers_71 : decode cX12_fingers 71 = .ok (.iload_n 3, 1) := by decide +kernel
theorem dX12_fingers_72 : decode cX12_fingers 72 = .ok (.iastore, 1) := by decide +kernel
theorem dX12_fingers_73 : decode cX12_fingers 73 = .ok (.aload_n 0, 1) := by decide +kernel
theorem dX12_fingers_74 : decode cX12_fingers 74 = .ok (.getfield 9, 3) := by decide +kernel
theorem dX12_fingers_77 : decode cX12_fingers 77 = .ok (.iload 7, 2) := by decide +kernel
theorem dX12_fingers_79 : decode cX12_fingers 79 = .ok (.iconst 2, 1) := by decide +kernel
theorem dX12_fingers_80 : decode cX12_fingers 80 = .ok (.iadd, 1) := by decide +kernel
theorem dX12_fingers_81 : decode cX12_fingers 81 = .ok (.iload 4, 2) := by decide +kernel
theorem dX12_fingers_83 : decode cX12_fingers 83 = .ok (.iastore, 1) := by decide +kernel
theorem dX12_fingers_84 : decode cX12_fingers 84 = .ok (.aload_n 0, 1) := by decide +kernel
theorem dX12_fingers_85 : decode cX12_fingers 85 = .ok (.getfield 9, 3) := by decide +kernel
theorem dX12_fingers_88 : decode cX12_fingers 88 = .ok (.iload 7, 2) := by decide +kernel
theorem dX12_fingers_90 : decode cX12_fingers 90 = .ok (.iconst 3, 1) := by decide +kernel
theorem dX12_fingers_91 : decode cX12_fingers 91 = .ok (.iadd, 1) := by decide +kernel
theorem dX12_fingers_92 : decode cX12_fingers 92 = .ok (.iload 5, 2) := by decide +kernel
theorem dX12_fingers_94 : decode cX12_fingers 94 = .ok (.iastore, 1) := by decide +kernel
theorem dX12_fingers_95 : decode cX12_fingers 95 = .ok (.aload_n 0, 1) := by decide +kernel
theorem dX12_fingers_96 : decode cX12_fingers 96 = .ok (.getfield 9, 3) := by decide +kernel
theorem dX12_fingers_99 : decode cX12_fingers 99 = .ok (.iload 7, 2) := by decide +kernel
theorem dX12_fingers_101 : decode cX12_fingers 101 = .ok (.iconst 4, 1) := by decide +kernel
theorem dX12_fingers_102 : decode cX12_fingers 102 = .ok (.iadd, 1) := by decide +kernel
theorem dX12_fingers_103 : decode cX12_fingers 103 = .ok (.iload 6, 2) := by decide +kernel
theorem dX12_fingers_105 : decode cX12_fingers 105 = .ok (.iastore, 1) := by decide +kernel
theorem dX12_fingers_106 : decode cX12_fingers 106 = .ok (.return_, 1) := by decide +kernel
abbrev z_X12_fingers_174 : Z9 := (none, 0, 0, 0, 4, 67)
def m_X12_fingers_174_c36 (v1 v2 v3 v4 v5 v6 : Int) (d : D9) : Option R9 := if w32 (d 174 3) ≤ 0 then lt9v ((16 + (8 * v1)) + 3) (fun a1 => sd d 175 1604 a1 v2 (fun d2 => sd d2 175 1604 (a1 + 1) v3 (fun d3 => sd d3 175 1604 (a1 + 2) v4 (fun d4 => sd d4 175 1604 (a1 + 3) v5 (fun d5 => sd d5 175 1604 (a1 + 4) v6 (fun d6 => rt 0 d6)))))) else rt 0 d
def m_X12_fingers_174 (p1 p2 p3 p4 p5 p6 : Int) (d : D9) : Option R9 := cl (m_X12_handFault_174 p1 d) (fun r1 d2 => pf d2 174 3 r1 (fun d3 => if w32 (d3 174 3) ≠ 0 then m_X12_fingers_174_c36  p1 p2 p3 p4 p5 p6 d3 else cl (m_X12_areLengths 0 p2 p3 p4 p5 p6 d3) (fun r4 d5 => if w32 r4 ≠ 0 then m_X12_fingers_174_c36  p1 p2 p3 p4 p5 p6 d5 else pf d5 174 3 3 (fun d6 => m_X12_fingers_174_c36  p1 p2 p3 p4 p5 p6 d6))))
set_option maxRecDepth 100000 in
theorem s_X12_fingers_174_c36 {G : G9} {X : X9} (C : CX G X cX12_fingers 8 RX12 [] z_X12_fingers_174) : ∀ (v1 v2 v3 v4 v5 v6 : Int) (d : D9), SS G X 8 0 0 36 [(0, rf G 174), (1, i9 v1), (2, i9 v2), (3, i9 v3), (4, i9 v4), (5, i9 v5), (6, i9 v6)] [] d (m_X12_fingers_174_c36  v1 v2 v3 v4 v5 v6 d) := by
  intro v1 v2 v3 v4 v5 v6 d
  unfold m_X12_fingers_174_c36
  refine r_aload_n C 0 dX12_fingers_36 rfl rfl ?_
  refine r_getI C dX12_fingers_37 fl_X12_76 la_174 ly_174 rfl ?_
  refine r_if_le C (b := 0) 44 dX12_fingers_40 (by decide) (fun _ => ?_) (fun _ => ?_)
  · refine r_bipush C dX12_fingers_44 rfl ?_
    refine r_bipush C dX12_fingers_46 rfl ?_
    refine r_iload_n C 1 dX12_fingers_48 rfl rfl ?_
    refine r_imul C dX12_fingers_49 ?_
    refine r_iadd C dX12_fingers_50 ?_
    refine r_iconst C dX12_fingers_51 ?_
    refine r_iadd C dX12_fingers_52 ?_
    refine ss_lt (fun a1 => ?_)
    refine r_istore C [(7, i9 a1), (0, rf G 174), (1, i9 v1), (2, i9 v2), (3, i9 v3), (4, i9 v4), (5, i9 v5), (6, i9 v6)] dX12_fingers_53 (by decide) rfl ?_
    refine r_aload_n C 1 dX12_fingers_55 rfl rfl ?_
    refine r_getR C 175 dX12_fingers_56 fl_X12_9 la_174 ly_174 rfl rfl ?_
    refine r_iload C 0 dX12_fingers_59 rfl ?_
    refine r_iload_n C 3 dX12_fingers_61 rfl rfl ?_
    refine r_iast C dX12_fingers_62 la_175 ly_175 (fun d2 => ?_)
    refine r_aload_n C 1 dX12_fingers_63 rfl rfl ?_
    refine r_getR C 175 dX12_fingers_64 fl_X12_9 la_174 ly_174 rfl rfl ?_
    refine r_iload C 0 dX12_fingers_67 rfl ?_
    refine r_iconst C dX12_fingers_69 ?_
    refine r_iadd C dX12_fingers_70 ?_
    refine r_iload_n C 4 dX12_fingers_71 rfl rfl ?_
    refine r_iast C dX12_fingers_72 la_175 ly_175 (fun d3 => ?_)
    refine r_aload_n C 1 dX12_fingers_73 rfl rfl ?_
    refine r_getR C 175 dX12_fingers_74 fl_X12_9 la_174 ly_174 rfl rfl ?_
    refine r_iload C 0 dX12_fingers_77 rfl ?_
    refine r_iconst C dX12_fingers_79 ?_
    refine r_iadd C dX12_fingers_80 ?_
    refine r_iload C 5 dX12_fingers_81 rfl ?_
    refine r_iast C dX12_fingers_83 la_175 ly_175 (fun d4 => ?_)
    refine r_aload_n C 1 dX12_fingers_84 rfl rfl ?_
    refine r_getR C 175 dX12_fingers_85 fl_X12_9 la_174 ly_174 rfl rfl ?_
    refine r_iload C 0 dX12_fingers_88 rfl ?_
    refine r_iconst C dX12_fingers_90 ?_
    refine r_iadd C dX12_fingers_91 ?_
    refine r_iload C 6 dX12_fingers_92 rfl ?_
    refine r_iast C dX12_fingers_94 la_175 ly_175 (fun d5 => ?_)
    refine r_aload_n C 1 dX12_fingers_95 rfl rfl ?_
    refine r_getR C 175 dX12_fingers_96 fl_X12_9 la_174 ly_174 rfl rfl ?_
    refine r_iload C 0 dX12_fingers_99 rfl ?_
    refine r_iconst C dX12_fingers_101 ?_
    refine r_iadd C dX12_fingers_102 ?_
    refine r_iload C 7 dX12_fingers_103 rfl ?_
    refine r_iast C dX12_fingers_105 la_175 ly_175 (fun d6 => ?_)
    exact r_vret C dX12_fingers_106 (by decide) (by decide)
  · exact r_vret C dX12_fingers_43 (by decide) (by decide)
set_option maxRecDepth 100000 in
theorem t_X12_fingers_174 {G : G9} {l : Launch} (h1 : va_D (A9 G) (wl G (fun _ _ => 0))) (h2 : l.stackTraces = false) (p1 p2 p3 p4 p5 p6 : Int) (d : D9) : MT G l yX12_fingers cX12_fingers 8 z_X12_fingers_174 [rf G 174, i9 p1, i9 p2, i9 p3, i9 p4, i9 p5, i9 p6] d (m_X12_fingers_174 p1 p2 p3 p4 p5 p6 d) := by
  refine mt_of (own := RX12) (by decide) rfl (Nat.le_of_ble_eq_true rfl) h1 h2 [(0, rf G 174), (1, i9 p1), (2, i9 p2), (3, i9 p3), (4, i9 p4), (5, i9 p5), (6, i9 p6)] rfl (fun X hX C => ?_)
  unfold m_X12_fingers_174
  refine r_aload_n C 0 dX12_fingers_0 rfl rfl ?_
  refine r_aload_n C 0 dX12_fingers_1 rfl rfl ?_
  refine r_iload_n C 1 dX12_fingers_2 rfl rfl ?_
  refine r_callV C [i9 p1, rf G 174, rf G 174] dX12_fingers_3 (t_X12_handFault_174 C.h1 C.h2 p1 d) mw_X12_103 mv_X12_handFault la_174 ly_174 rfl (by decide) (by decide) (by decide) rfl rfl (Nat.le_of_ble_eq_true rfl) (fun r1 d2 => ?_)
  show SS G X 8 _ _ 6 [(0, rf G 174), (1, i9 p1), (2, i9 p2), (3, i9 p3), (4, i9 p4), (5, i9 p5), (6, i9 p6)] [i9 r1, rf G 174] d2 _
  refine r_putI C dX12_fingers_6 fp_X12_76 la_174 ly_174 rfl (fun d3 => ?_)
  refine r_aload_n C 0 dX12_fingers_9 rfl rfl ?_
  refine r_getI C dX12_fingers_10 fl_X12_76 la_174 ly_174 rfl ?_
  refine r_if_ne C (b := 0) 36 dX12_fingers_13 (by decide) (fun _ => ?_) (fun _ => ?_)
  · refine ss_wide (k' := 0) (n' := 0) (by decide) (by decide) ?_
    refine ss_ls [(0, rf G 174), (1, i9 p1), (2, i9 p2), (3, i9 p3), (4, i9 p4), (5, i9 p5), (6, i9 p6)] [0, 1, 2, 3, 4, 5, 6] rfl ?_
    exact s_X12_fingers_174_c36 C  p1 p2 p3 p4 p5 p6 d3
  · refine r_iconst C dX12_fingers_16 ?_
    refine r_iload_n C 2 dX12_fingers_17 rfl rfl ?_
    refine r_iload_n C 3 dX12_fingers_18 rfl rfl ?_
    refine r_iload C 4 dX12_fingers_19 rfl ?_
    refine r_iload C 5 dX12_fingers_21 rfl ?_
    refine r_iload C 6 dX12_fingers_23 rfl ?_
    refine r_callS C [i9 p6, i9 p5, i9 p4, i9 p3, i9 p2, i9 0] dX12_fingers_25 (t_X12_areLengths C.h1 C.h2 0 p2 p3 p4 p5 p6 d3) mw_X12_106 ms_X12_areLengths (by decide) (by decide) (by decide) rfl rfl (Nat.le_of_ble_eq_true rfl) (fun r4 d5 => ?_)
    show SS G X 8 _ _ 28 [(0, rf G 174), (1, i9 p1), (2, i9 p2), (3, i9 p3), (4, i9 p4), (5, i9 p5), (6, i9 p6)] [i9 r4] d5 _
    refine r_if_ne C (b := 0) 36 dX12_fingers_28 (by decide) (fun _ => ?_) (fun _ => ?_)
    · refine ss_wide (k' := 0) (n' := 0) (by decide) (by decide) ?_
      refine ss_ls [(0, rf G 174), (1, i9 p1), (2, i9 p2), (3, i9 p3), (4, i9 p4), (5, i9 p5), (6, i9 p6)] [0, 1, 2, 3, 4, 5, 6] rfl ?_
      exact s_X12_fingers_174_c36 C  p1 p2 p3 p4 p5 p6 d5
    · refine r_aload_n C 0 dX12_fingers_31 rfl rfl ?_
      refine r_iconst C dX12_fingers_32 ?_
      refine r_putI C dX12_fingers_33 fp_X12_76 la_174 ly_174 rfl (fun d6 => ?_)
      refine ss_wide (k' := 0) (n' := 0) (by decide) (by decide) ?_
      refine ss_ls [(0, rf G 174), (1, i9 p1), (2, i9 p2), (3, i9 p3), (4, i9 p4), (5, i9 p5), (6, i9 p6)] [0, 1, 2, 3, 4, 5, 6] rfl ?_
      exact s_X12_fingers_174_c36 C  p1 p2 p3 p4 p5 p6 d6
theorem dX12_isSign_0 : decode cX12_isSign 0 = .ok (.aload_n 0, 1) := by decide +kernel
theorem dX12_isSign_1 : decode cX12_isSign 1 = .ok (.iload_n 1, 1) := by decide +kernel
theorem dX12_isSign_2 : decode cX12_isSign 2 = .ok (.iconst 0, 1) := by decide +kernel
theorem dX12_isSign_3 : decode cX12_isSign 3 = .ok (.invokevirtual 99, 3) := by decide +kernel
theorem dX12_isSign_6 : decode cX12_isSign 6 = .ok (.iconst 3, 1) := by decide +kernel
theorem dX12_isSign_7 : decode cX12_isSign 7 = .ok (.if_icmp .ne 17, 3) := by decide +kernel
theorem dX12_isSign_10 : decode cX12_isSign 10 = .ok (.aload_n 0, 1) := by decide +kernel
theorem dX12_isSign_11 : decode cX12_isSign 11 = .ok (.iload_n 1, 1) := by decide +kernel
theorem dX12_isSign_12 : decode cX12_isSign 12 = .ok (.iconst 2, 1) := by decide +kernel
theorem dX12_isSign_13 : decode cX12_isSign 13 = .ok (.invokevirtual 99, 3) := by decide +kernel
theorem dX12_isSign_16 : decode cX12_isSign 16 = .ok (.iload_n 2, 1) := by decide +kernel
theorem dX12_isSign_17 : decode cX12_isSign 17 = .ok (.if_icmp .ne 7, 3) := by decide +kernel
theorem dX12_isSign_20 : decode cX12_isSign 20 = .ok (.iconst 1, 1) := by decide +kernel
theorem dX12_isSign_21 : decode cX12_isSign 21 = .ok (.goto 4, 3) := by decide +kernel
theorem dX12_isSign_24 : decode cX12_isSign 24 = .ok (.iconst 0, 1) := by decide +kernel
theorem dX12_isSign_25 : decode cX12_isSign 25 = .ok (.ireturn, 1) := by decide +kernel
abbrev z_X12_isSign_174 : Z9 := (some .boolean, 1, 0, 0, 2, 22)
def m_X12_isSign_174 (p1 p2 : Int) (d : D9) : Option R9 := cl (m_X12_ofPaint_174 p1 0 d) (fun r1 d2 => if w32 r1 ≠ w32 3 then rt (0 % 2) d2 else cl (m_X12_ofPaint_174 p1 2 d2) (fun r3 d4 => if w32 r3 ≠ w32 p2 then rt (0 % 2) d4 else rt (1 % 2) d4))
set_option maxRecDepth 100000 in
theorem t_X12_isSign_174 {G : G9} {l : Launch} (h1 : va_D (A9 G) (wl G (fun _ _ => 0))) (h2 : l.stackTraces = false) (p1 p2 : Int) (d : D9) : MT G l yX12_isSign cX12_isSign 3 z_X12_isSign_174 [rf G 174, i9 p1, i9 p2] d (m_X12_isSign_174 p1 p2 d) := by
  refine mt_of (own := RX12) (by decide) rfl (Nat.le_of_ble_eq_true rfl) h1 h2 [(0, rf G 174), (1, i9 p1), (2, i9 p2)] rfl (fun X hX C => ?_)
  unfold m_X12_isSign_174
  refine r_aload_n C 0 dX12_isSign_0 rfl rfl ?_
  refine r_iload_n C 1 dX12_isSign_1 rfl rfl ?_
  refine r_iconst C dX12_isSign_2 ?_
  refine r_callV C [i9 0, i9 p1, rf G 174] dX12_isSign_3 (t_X12_ofPaint_174 C.h1 C.h2 p1 0 d) mw_X12_99 mv_X12_ofPaint la_174 ly_174 rfl (by decide) (by decide) (by decide) rfl rfl (Nat.le_of_ble_eq_true rfl) (fun r1 d2 => ?_)
  show SS G X 3 _ _ 6 [(0, rf G 174), (1, i9 p1), (2, i9 p2)] [i9 r1] d2 _
  refine r_iconst C dX12_isSign_6 ?_
  refine r_icmp_ne C 24 dX12_isSign_7 (by decide) (fun _ => ?_) (fun _ => ?_)
  · refine r_iconst C dX12_isSign_24 ?_
    exact r_zret C dX12_isSign_25 (by decide) (by decide)
  · refine r_aload_n C 0 dX12_isSign_10 rfl rfl ?_
    refine r_iload_n C 1 dX12_isSign_11 rfl rfl ?_
    refine r_iconst C dX12_isSign_12 ?_
    refine r_callV C [i9 2, i9 p1, rf G 174] dX12_isSign_13 (t_X12_ofPaint_174 C.h1 C.h2 p1 2 d2) mw_X12_99 mv_X12_ofPaint la_174 ly_174 rfl (by decide) (by decide) (by decide) rfl rfl (Nat.le_of_ble_eq_true rfl) (fun r3 d4 => ?_)
    show SS G X 3 _ _ 16 [(0, rf G 174), (1, i9 p1), (2, i9 p2)] [i9 r3] d4 _
    refine r_iload_n C 2 dX12_isSign_16 rfl rfl ?_
    refine r_icmp_ne C 24 dX12_isSign_17 (by decide) (fun _ => ?_) (fun _ => ?_)
    · refine r_iconst C dX12_isSign_24 ?_
      exact r_zret C dX12_isSign_25 (by decide) (by decide)
    · refine r_iconst C dX12_isSign_20 ?_
      refine r_goto C 25 dX12_isSign_21 (by decide) ?_
      exact r_zret C dX12_isSign_25 (by decide) (by decide)
theorem dX12_first_0 : decode cX12_first 0 = .ok (.aload_n 0, 1) := by decide +kernel
theorem dX12_first_1 : decode cX12_first 1 = .ok (.iconst 0, 1) := by decide +kernel
theorem dX12_first_2 : decode cX12_first 2 = .ok (.putfield 76, 3) := by decide +kernel
theorem dX12_first_5 : decode cX12_first 5 = .ok (.iload_n 1, 1) := by decide +kernel
theorem dX12_first_6 : decode cX12_first 6 = .ok (.i2l, 1) := by decide +kernel
theorem dX12_first_7 : decode cX12_first 7 = .ok (.lconst 0, 1) := by decide +kernel
theorem dX12_first_8 : decode cX12_first 8 = .ok (.ldc2_w 87, 3) := by decide +kernel
theorem dX12_first_11 : decode cX12_first 11 = .ok (.invokestatic 79, 3) := by decide +kernel
theorem dX12_first_14 : decode cX12_first 14 = .ok (.ifCond .ne 9, 3) := by decide +kernel
theorem dX12_first_17 : decode cX12_first 17 = .ok (.aload_n 0, 1) := by decide +kernel
theorem dX12_first_18 : decode cX12_first 18 = .ok (.iconst 1, 1) := by decide +kernel
theorem dX12_first_19 : decode cX12_first 19 = .ok (.invokevirtual 89, 3) := by decide +kernel
theorem dX12_first_22 : decode cX12_first 22 = .ok (.ireturn, 1) := by decide +kernel
theorem dX12_first_23 : decode cX12_first 23 = .ok (.aload_n 0, 1) := by decide +kernel
theorem dX12_first_24 : decode cX12_first 24 = .ok (.invokevirtual 381, 3) := by decide +kernel
theorem dX12_first_27 : decode cX12_first 27 = .ok (.iconst (-1), 1) := by decide +kernel
theorem dX12_first_28 : decode cX12_first 28 = .ok (.istore_n 2, 1) := by decide +kernel
theorem dX12_first_29 : decode cX12_first 29 = .ok (.iconst 0, 1) := by decide +kernel
theorem dX12_first_30 : decode cX12_first 30 = .ok (.istore_n 3, 1) := by decide +kernel
theorem dX12_first_31 : decode cX12_first 31 = .ok (.iload_n 3, 1) := by decide +kernel
theorem dX12_first_32 : decode cX12_first 32 = .ok (.aload_n 0, 1) := by decide +kernel
theorem dX12_first_33 : decode cX12_first 33 = .ok (.getfield 9, 3) := by decide +kernel
theorem dX12_first_36 : decode cX12_first 36 = .ok (.iconst 0, 1) := by decide +kernel
theorem dX12_first_37 : decode cX12_first 37 = .ok (.iaload, 1) := by decide +kernel
theorem dX12_first_38 : decode cX12_first 38 = .ok (.if_icmp .ge 42, 3) := by decide +kernel
theorem dX12_first_41 : decode cX12_first 41 = .ok (.aload_n 0, 1) := by decide +kernel
theorem dX12_first_42 : decode cX12_first 42 = .ok (.iload_n 3, 1) := by decide +kernel
theorem dX12_first_43 : decode cX12_first 43 = .ok (.iload_n 1, 1) := by decide +kernel
theorem dX12_first_44 : decode cX12_first 44 = .ok (.invokevirtual 445, 3) := by decide +kernel
theorem dX12_first_47 : decode cX12_first 47 = .ok (.ifCond .eq 27, 3) := by decide +kernel
theorem dX12_first_50 : decode cX12_first 50 = .ok (.iload_n 2, 1) := by decide +kernel
theorem dX12_first_51 : decode cX12_first 51 = .ok (.iconst (-1), 1) := by decide +kernel
theorem dX12_first_52 : decode cX12_first 52 = .ok (.if_icmp .eq 20, 3) := by decide +kernel
theorem dX12_first_55 : decode cX12_first 55 = .ok (.aload_n 0, 1) := by decide +kernel
theorem dX12_first_56 : decode cX12_first 56 = .ok (.iload_n 3, 1) := by decide +kernel
theorem dX12_first_57 : decode cX12_first 57 = .ok (.iconst 0, 1) := by decide +kernel
theorem dX12_first_58 : decode cX12_first 58 = .ok (.iconst (-1), 1) := by decide +kernel
theorem dX12_first_59 : decode cX12_first 59 = .ok (.invokevirtual 384, 3) := by decide +kernel
theorem dX12_first_62 : decode cX12_first 62 = .ok (.aload_n 0, 1) := by decide +kernel
theorem dX12_first_63 : decode cX12_first 63 = .ok (.iload_n 2, 1) := by decide +kernel
theorem dX12_first_64 : decode cX12_first 64 = .ok (.iconst 0, 1) := by decide +kernel
theorem dX12_first_65 : decode cX12_first 65 = .ok (.iconst (-1), 1) := by decide +kernel
theorem dX12_first_66 : decode cX12_first 66 = .ok (.invokevirtual 384, 3) := by decide +kernel
theorem dX12_first_69 : decode cX12_first 69 = .ok (.if_icmp .le 5, 3) := by decide +kernel
theorem dX12_first_72 : decode cX12_first 72 = .ok (.iload_n 3, 1) := by decide +kernel
theorem dX12_first_73 : decode cX12_first 73 = .ok (.istore_n 2, 1) := by decide +kernel
theorem dX12_first_74 : decode cX12_first 74 = .ok (.iinc 3 1, 3) := by decide +kernel
theorem dX12_first_77 : decode cX12_first 77 = .ok (.goto (-46), 3) := by decide +kernel
theorem dX12_first_80 : decode cX12_first 80 = .ok (.iload_n 2, 1) := by decide +kernel
theorem dX12_first_81 : decode cX12_first 81 = .ok (.ireturn, 1) := by decide +kernel
abbrev z_X12_first_174 : Z9 := (some .int, 1, 0, 0, 10, 252)
def b_X12_first_174_c31 (k_X12_first_174_c31 : Int → Int → Int → D9 → Option R9) (v1 v2 v3 : Int) (d : D9) : Option R9 := ld d 175 1604 0 (fun t1 => if w32 t1 ≤ w32 v3 then rt v2 d else cl (m_X12_isSign_174 v3 v1 d) (fun r2 d3 => if w32 r2 = 0 then k_X12_first_174_c31 v1 v2 (v3 + 1) d3 else if w32 v2 = w32 (-1) then k_X12_first_174_c31 v1 v3 (v3 + 1) d3 else cl (m_X12_boundOf_174 v3 0 (-1) d3) (fun r4 d5 => cl (m_X12_boundOf_174 v2 0 (-1) d5) (fun r6 d7 => if w32 r4 ≤ w32 r6 then k_X12_first_174_c31 v1 v2 (v3 + 1) d7 else k_X12_first_174_c31 v1 v3 (v3 + 1) d7))))
def m_X12_first_174_c31 : Int → Int → Int → D9 → Option R9 := fix9 (fun _ _ _ _ => none) (fun k => b_X12_first_174_c31 k) FU
def m_X12_first_174 (p1 : Int) (d : D9) : Option R9 := pf d 174 3 0 (fun d1 => cl (m_X12_within (w32 p1) 0 9 d1) (fun r2 d3 => if w32 r2 ≠ 0 then cl (m_X12_layReach_174 d3) (fun r4 d5 => m_X12_first_174_c31  p1 (-1) 0 d5) else cl (m_X12_fails_174 1 d3) (fun r6 d7 => rt r6 d7)))
set_option maxRecDepth 100000 in
theorem sb_X12_first_174_c31 {G : G9} {X : X9} (C : CX G X cX12_first 4 RX12 [] z_X12_first_174) (k_X12_first_174_c31 : Int → Int → Int → D9 → Option R9) (hk_X12_first_174_c31 : ∀ (v1 v2 v3 : Int) (d : D9), SS G X 4 0 0 31 [(0, rf G 174), (1, i9 v1), (2, i9 v2), (3, i9 v3)] [] d (k_X12_first_174_c31 v1 v2 v3 d)) : ∀ (v1 v2 v3 : Int) (d : D9), SS G X 4 0 0 31 [(0, rf G 174), (1, i9 v1), (2, i9 v2), (3, i9 v3)] [] d (b_X12_first_174_c31 k_X12_first_174_c31 v1 v2 v3 d) := by
  intro v1 v2 v3 d
  unfold b_X12_first_174_c31
  refine r_iload_n C 3 dX12_first_31 rfl rfl ?_
  refine r_aload_n C 0 dX12_first_32 rfl rfl ?_
  refine r_getR C 175 dX12_first_33 fl_X12_9 la_174 ly_174 rfl rfl ?_
  refine r_iconst C dX12_first_36 ?_
  refine r_iald C dX12_first_37 la_175 ly_175 (fun t1 => ?_)
  refine r_icmp_ge C 80 dX12_first_38 (by decide) (fun _ => ?_) (fun _ => ?_)
  · refine r_iload_n C 2 dX12_first_80 rfl rfl ?_
    exact r_iret C dX12_first_81 (by decide) (by decide)
  · refine r_aload_n C 0 dX12_first_41 rfl rfl ?_
    refine r_iload_n C 3 dX12_first_42 rfl rfl ?_
    refine r_iload_n C 1 dX12_first_43 rfl rfl ?_
    refine r_callV C [i9 v1, i9 v3, rf G 174] dX12_first_44 (t_X12_isSign_174 C.h1 C.h2 v3 v1 d) mw_X12_445 mv_X12_isSign la_174 ly_174 rfl (by decide) (by decide) (by decide) rfl rfl (Nat.le_of_ble_eq_true rfl) (fun r2 d3 => ?_)
    show SS G X 4 _ _ 47 [(0, rf G 174), (1, i9 v1), (2, i9 v2), (3, i9 v3)] [i9 r2] d3 _
    refine r_if_eq C (b := 0) 74 dX12_first_47 (by decide) (fun _ => ?_) (fun _ => ?_)
    · refine r_iinc C 3 [(3, i9 (v3 + 1)), (0, rf G 174), (1, i9 v1), (2, i9 v2)] dX12_first_74 rfl (by decide) rfl ?_
      refine r_goto C 31 dX12_first_77 (by decide) ?_
      refine ss_wide (k' := 0) (n' := 0) (by decide) (by decide) ?_
      refine ss_ls [(0, rf G 174), (1, i9 v1), (2, i9 v2), (3, i9 (v3 + 1))] [1, 2, 3, 0] rfl ?_
      exact hk_X12_first_174_c31 v1 v2 (v3 + 1) d3
    · refine r_iload_n C 2 dX12_first_50 rfl rfl ?_
      refine r_iconst C dX12_first_51 ?_
      refine r_icmp_eq C 72 dX12_first_52 (by decide) (fun _ => ?_) (fun _ => ?_)
      · refine r_iload_n C 3 dX12_first_72 rfl rfl ?_
        refine r_istore_n C [(2, i9 v3), (0, rf G 174), (1, i9 v1), (3, i9 v3)] dX12_first_73 rfl (by decide) rfl ?_
        refine r_iinc C 3 [(3, i9 (v3 + 1)), (2, i9 v3), (0, rf G 174), (1, i9 v1)] dX12_first_74 rfl (by decide) rfl ?_
        refine r_goto C 31 dX12_first_77 (by decide) ?_
        refine ss_wide (k' := 0) (n' := 0) (by decide) (by decide) ?_
        refine ss_ls [(0, rf G 174), (1, i9 v1), (2, i9 v3), (3, i9 (v3 + 1))] [2, 3, 1, 0] rfl ?_
        exact hk_X12_first_174_c31 v1 v3 (v3 + 1) d3
      · refine r_aload_n C 0 dX12_first_55 rfl rfl ?_
        refine r_iload_n C 3 dX12_first_56 rfl rfl ?_
        refine r_iconst C dX12_first_57 ?_
        refine r_iconst C dX12_first_58 ?_
        refine r_callV C [i9 (-1), i9 0, i9 v3, rf G 174] dX12_first_59 (t_X12_boundOf_174 C.h1 C.h2 v3 0 (-1) d3) mw_X12_384 mv_X12_boundOf la_174 ly_174 rfl (by decide) (by decide) (by decide) rfl rfl (Nat.le_of_ble_eq_true rfl) (fun r4 d5 => ?_)
        show SS G X 4 _ _ 62 [(0, rf G 174), (1, i9 v1), (2, i9 v2), (3, i9 v3)] [i9 r4] d5 _
        refine r_aload_n C 0 dX12_first_62 rfl rfl ?_
        refine r_iload_n C 2 dX12_first_63 rfl rfl ?_
        refine r_iconst C dX12_first_64 ?_
        refine r_iconst C dX12_first_65 ?_
        refine r_callV C [i9 (-1), i9 0, i9 v2, rf G 174, i9 r4] dX12_first_66 (t_X12_boundOf_174 C.h1 C.h2 v2 0 (-1) d5) mw_X12_384 mv_X12_boundOf la_174 ly_174 rfl (by decide) (by decide) (by decide) rfl rfl (Nat.le_of_ble_eq_true rfl) (fun r6 d7 => ?_)
        show SS G X 4 _ _ 69 [(0, rf G 174), (1, i9 v1), (2, i9 v2), (3, i9 v3)] [i9 r6, i9 r4] d7 _
        refine r_icmp_le C 74 dX12_first_69 (by decide) (fun _ => ?_) (fun _ => ?_)
        · refine r_iinc C 3 [(3, i9 (v3 + 1)), (0, rf G 174), (1, i9 v1), (2, i9 v2)] dX12_first_74 rfl (by decide) rfl ?_
          refine r_goto C 31 dX12_first_77 (by decide) ?_
          refine ss_wide (k' := 0) (n' := 0) (by decide) (by decide) ?_
          refine ss_ls [(0, rf G 174), (1, i9 v1), (2, i9 v2), (3, i9 (v3 + 1))] [1, 2, 3, 0] rfl ?_
          exact hk_X12_first_174_c31 v1 v2 (v3 + 1) d7
        · refine r_iload_n C 3 dX12_first_72 rfl rfl ?_
          refine r_istore_n C [(2, i9 v3), (0, rf G 174), (1, i9 v1), (3, i9 v3)] dX12_first_73 rfl (by decide) rfl ?_
          refine r_iinc C 3 [(3, i9 (v3 + 1)), (2, i9 v3), (0, rf G 174), (1, i9 v1)] dX12_first_74 rfl (by decide) rfl ?_
          refine r_goto C 31 dX12_first_77 (by decide) ?_
          refine ss_wide (k' := 0) (n' := 0) (by decide) (by decide) ?_
          refine ss_ls [(0, rf G 174), (1, i9 v1), (2, i9 v3), (3, i9 (v3 + 1))] [2, 3, 1, 0] rfl ?_
          exact hk_X12_first_174_c31 v1 v3 (v3 + 1) d7
theorem s_X12_first_174_c31 {G : G9} {X : X9} (C : CX G X cX12_first 4 RX12 [] z_X12_first_174) : ∀ (v1 v2 v3 : Int) (d : D9), SS G X 4 0 0 31 [(0, rf G 174), (1, i9 v1), (2, i9 v2), (3, i9 v3)] [] d (m_X12_first_174_c31  v1 v2 v3 d) :=
  fix9_ind (P := fun k => ∀ (v1 v2 v3 : Int) (d : D9), SS G X 4 0 0 31 [(0, rf G 174), (1, i9 v1), (2, i9 v2), (3, i9 v3)] [] d (k v1 v2 v3 d)) (fun _ _ _ _ => ss_none) (fun k hk => sb_X12_first_174_c31 C k hk) FU
set_option maxRecDepth 100000 in
theorem t_X12_first_174 {G : G9} {l : Launch} (h1 : va_D (A9 G) (wl G (fun _ _ => 0))) (h2 : l.stackTraces = false) (p1 : Int) (d : D9) : MT G l yX12_first cX12_first 4 z_X12_first_174 [rf G 174, i9 p1] d (m_X12_first_174 p1 d) := by
  refine mt_of (own := RX12) (by decide) rfl (Nat.le_of_ble_eq_true rfl) h1 h2 [(0, rf G 174), (1, i9 p1)] rfl (fun X hX C => ?_)
  unfold m_X12_first_174
  refine r_aload_n C 0 dX12_first_0 rfl rfl ?_
  refine r_iconst C dX12_first_1 ?_
  refine r_putI C dX12_first_2 fp_X12_76 la_174 ly_174 rfl (fun d1 => ?_)
  refine r_iload_n C 1 dX12_first_5 rfl rfl ?_
  refine r_i2l C dX12_first_6 ?_
  refine r_lconst C dX12_first_7 (a := 0) rfl ?_
  refine r_ldcL C dX12_first_8 kc_X12_87 ?_
  refine r_callS C [l9 9, l9 0, l9 (w32 p1)] dX12_first_11 (t_X12_within C.h1 C.h2 (w32 p1) 0 9 d1) mw_X12_79 ms_X12_within (by decide) (by decide) (by decide) rfl rfl (Nat.le_of_ble_eq_true rfl) (fun r2 d3 => ?_)
  show SS G X 4 _ _ 14 [(0, rf G 174), (1, i9 p1)] [i9 r2] d3 _
  refine r_if_ne C (b := 0) 23 dX12_first_14 (by decide) (fun _ => ?_) (fun _ => ?_)
  · refine r_aload_n C 0 dX12_first_23 rfl rfl ?_
    refine r_callV C [rf G 174] dX12_first_24 (t_X12_layReach_174 C.h1 C.h2 d3) mw_X12_381 mv_X12_layReach la_174 ly_174 rfl (by decide) (by decide) (by decide) rfl rfl (Nat.le_of_ble_eq_true rfl) (fun r4 d5 => ?_)
    show SS G X 4 _ _ 27 [(0, rf G 174), (1, i9 p1)] [] d5 _
    refine r_iconst C dX12_first_27 ?_
    refine r_istore_n C [(2, i9 (-1)), (0, rf G 174), (1, i9 p1)] dX12_first_28 rfl (by decide) rfl ?_
    refine r_iconst C dX12_first_29 ?_
    refine r_istore_n C [(3, i9 0), (2, i9 (-1)), (0, rf G 174), (1, i9 p1)] dX12_first_30 rfl (by decide) rfl ?_
    refine ss_wide (k' := 0) (n' := 0) (by decide) (by decide) ?_
    refine ss_ls [(0, rf G 174), (1, i9 p1), (2, i9 (-1)), (3, i9 0)] [2, 3, 1, 0] rfl ?_
    exact s_X12_first_174_c31 C  p1 (-1) 0 d5
  · refine r_aload_n C 0 dX12_first_17 rfl rfl ?_
    refine r_iconst C dX12_first_18 ?_
    refine r_callV C [i9 1, rf G 174] dX12_first_19 (t_X12_fails_174 C.h1 C.h2 1 d3) mw_X12_89 mv_X12_fails la_174 ly_174 rfl (by decide) (by decide) (by decide) rfl rfl (Nat.le_of_ble_eq_true rfl) (fun r6 d7 => ?_)
    show SS G X 4 _ _ 22 [(0, rf G 174), (1, i9 p1)] [i9 r6] d7 _
    exact r_iret C dX12_first_22 (by decide) (by decide)
theorem dX12_follow_0 : decode cX12_follow 0 = .ok (.aload_n 0, 1) := by decide +kernel
theorem dX12_follow_1 : decode cX12_follow 1 = .ok (.iconst 0, 1) := by decide +kernel
theorem dX12_follow_2 : decode cX12_follow 2 = .ok (.putfield 76, 3) := by decide +kernel
theorem dX12_follow_5 : decode cX12_follow 5 = .ok (.iload_n 1, 1) := by decide +kernel
theorem dX12_follow_6 : decode cX12_follow 6 = .ok (.i2l, 1) := by decide +kernel
theorem dX12_follow_7 : decode cX12_follow 7 = .ok (.lconst 0, 1) := by decide +kernel
theorem dX12_follow_8 : decode cX12_follow 8 = .ok (.ldc2_w 456, 3) := by decide +kernel
theorem dX12_follow_11 : decode cX12_follow 11 = .ok (.invokestatic 79, 3) := by decide +kernel
theorem dX12_follow_14 : decode cX12_follow 14 = .ok (.ifCond .ne 9, 3) := by decide +kernel
theorem dX12_follow_17 : decode cX12_follow 17 = .ok (.aload_n 0, 1) := by decide +kernel
theorem dX12_follow_18 : decode cX12_follow 18 = .ok (.iconst 1, 1) := by decide +kernel
theorem dX12_follow_19 : decode cX12_follow 19 = .ok (.invokevirtual 89, 3) := by decide +kernel
theorem dX12_follow_22 : decode cX12_follow 22 = .ok (.ireturn, 1) := by decide +kernel
theorem dX12_follow_23 : decode cX12_follow 23 = .ok (.aload_n 0, 1) := by decide +kernel
theorem dX12_follow_24 : decode cX12_follow 24 = .ok (.iload_n 1, 1) := by decide +kernel
theorem dX12_follow_25 : decode cX12_follow 25 = .ok (.invokevirtual 482, 3) := by decide +kernel
theorem dX12_follow_28 : decode cX12_follow 28 = .ok (.iload_n 2, 1) := by decide +kernel
theorem dX12_follow_29 : decode cX12_follow 29 = .ok (.iconst (-1), 1) := by decide +kernel
theorem dX12_follow_30 : decode cX12_follow 30 = .ok (.if_icmp .ne 10, 3) := by decide +kernel
theorem dX12_follow_33 : decode cX12_follow 33 = .ok (.aload_n 0, 1) := by decide +kernel
theorem dX12_follow_34 : decode cX12_follow 34 = .ok (.getfield 476, 3) := by decide +kernel
theorem dX12_follow_37 : decode cX12_follow 37 = .ok (.goto 29, 3) := by decide +kernel
theorem dX12_follow_40 : decode cX12_follow 40 = .ok (.iload_n 2, 1) := by decide +kernel
theorem dX12_follow_41 : decode cX12_follow 41 = .ok (.i2l, 1) := by decide +kernel
theorem dX12_follow_42 : decode cX12_follow 42 = .ok (.lconst 0, 1) := by decide +kernel
theorem dX12_follow_43 : decode cX12_follow 43 = .ok (.aload_n 0, 1) := by decide +kernel
theorem dX12_follow_44 : decode cX12_follow 44 = .ok (.getfield 476, 3) := by decide +kernel
theorem dX12_follow_47 : decode cX12_follow 47 = .ok (.iconst 1, 1) := by decide +kernel
theorem dX12_follow_48 : decode cX12_follow 48 = .ok (.isub, 1) := by decide +kernel
theorem dX12_follow_49 : decode cX12_follow 49 = .ok (.i2l, 1) := by decide +kernel
theorem dX12_follow_50 : decode cX12_follow 50 = .ok (.invokestatic 79, 3) := by decide +kernel
theorem dX12_follow_53 : decode cX12_follow 53 = .ok (.ifCond .eq 12, 3) := by decide +kernel
theorem dX12_follow_56 : decode cX12_follow 56 = .ok (.aload_n 0, 1) := by decide +kernel
theorem dX12_follow_57 : decode cX12_follow 57 = .ok (.getfield 61, 3) := by decide +kernel
theorem dX12_follow_60 : decode cX12_follow 60 = .ok (.iload_n 2, 1) := by decide +kernel
theorem dX12_follow_61 : decode cX12_follow 61 = .ok (.iaload, 1) := by decide +kernel
theorem dX12_follow_62 : decode cX12_follow 62 = .ok (.goto 4, 3) := by decide +kernel
theorem dX12_follow_65 : decode cX12_follow 65 = .ok (.iconst (-1), 1) := by decide +kernel
theorem dX12_follow_66 : decode cX12_follow 66 = .ok (.ireturn, 1) := by decide +kernel
abbrev z_X12_follow_174 : Z9 := (some .int, 1, 0, 0, 14, 349)
def m_X12_follow_174 (p1 p2 : Int) (d : D9) : Option R9 := pf d 174 3 0 (fun d1 => cl (m_X12_within (w32 p1) 0 999 d1) (fun r2 d3 => if w32 r2 ≠ 0 then cl (m_X12_layFollowed_174 p1 d3) (fun r4 d5 => if w32 p2 ≠ w32 (-1) then cl (m_X12_within (w32 p2) 0 (w32 ((d5 174 35) - 1)) d5) (fun r6 d7 => if w32 r6 = 0 then rt (-1) d7 else ld d7 190 30 p2 (fun t8 => rt t8 d7)) else rt (d5 174 35) d5) else cl (m_X12_fails_174 1 d3) (fun r9 d10 => rt r9 d10)))
set_option maxRecDepth 100000 in
theorem t_X12_follow_174 {G : G9} {l : Launch} (h1 : va_D (A9 G) (wl G (fun _ _ => 0))) (h2 : l.stackTraces = false) (p1 p2 : Int) (d : D9) : MT G l yX12_follow cX12_follow 3 z_X12_follow_174 [rf G 174, i9 p1, i9 p2] d (m_X12_follow_174 p1 p2 d) := by
  refine mt_of (own := RX12) (by decide) rfl (Nat.le_of_ble_eq_true rfl) h1 h2 [(0, rf G 174), (1, i9 p1), (2, i9 p2)] rfl (fun X hX C => ?_)
  unfold m_X12_follow_174
  refine r_aload_n C 0 dX12_follow_0 rfl rfl ?_
  refine r_iconst C dX12_follow_1 ?_
  refine r_putI C dX12_follow_2 fp_X12_76 la_174 ly_174 rfl (fun d1 => ?_)
  refine r_iload_n C 1 dX12_follow_5 rfl rfl ?_
  refine r_i2l C dX12_follow_6 ?_
  refine r_lconst C dX12_follow_7 (a := 0) rfl ?_
  refine r_ldcL C dX12_follow_8 kc_X12_456 ?_
  refine r_callS C [l9 999, l9 0, l9 (w32 p1)] dX12_follow_11 (t_X12_within C.h1 C.h2 (w32 p1) 0 999 d1) mw_X12_79 ms_X12_within (by decide) (by decide) (by decide) rfl rfl (Nat.le_of_ble_eq_true rfl) (fun r2 d3 => ?_)
  show SS G X 3 _ _ 14 [(0, rf G 174), (1, i9 p1), (2, i9 p2)] [i9 r2] d3 _
  refine r_if_ne C (b := 0) 23 dX12_follow_14 (by decide) (fun _ => ?_) (fun _ => ?_)
  · refine r_aload_n C 0 dX12_follow_23 rfl rfl ?_
    refine r_iload_n C 1 dX12_follow_24 rfl rfl ?_
    refine r_callV C [i9 p1, rf G 174] dX12_follow_25 (t_X12_layFollowed_174 C.h1 C.h2 p1 d3) mw_X12_482 mv_X12_layFollowed la_174 ly_174 rfl (by decide) (by decide) (by decide) rfl rfl (Nat.le_of_ble_eq_true rfl) (fun r4 d5 => ?_)
    show SS G X 3 _ _ 28 [(0, rf G 174), (1, i9 p1), (2, i9 p2)] [] d5 _
    refine r_iload_n C 2 dX12_follow_28 rfl rfl ?_
    refine r_iconst C dX12_follow_29 ?_
    refine r_icmp_ne C 40 dX12_follow_30 (by decide) (fun _ => ?_) (fun _ => ?_)
    · refine r_iload_n C 2 dX12_follow_40 rfl rfl ?_
      refine r_i2l C dX12_follow_41 ?_
      refine r_lconst C dX12_follow_42 (a := 0) rfl ?_
      refine r_aload_n C 0 dX12_follow_43 rfl rfl ?_
      refine r_getI C dX12_follow_44 fl_X12_476 la_174 ly_174 rfl ?_
      refine r_iconst C dX12_follow_47 ?_
      refine r_isub C dX12_follow_48 ?_
      refine r_i2l C dX12_follow_49 ?_
      refine r_callS C [l9 (w32 ((d5 174 35) - 1)), l9 0, l9 (w32 p2)] dX12_follow_50 (t_X12_within C.h1 C.h2 (w32 p2) 0 (w32 ((d5 174 35) - 1)) d5) mw_X12_79 ms_X12_within (by decide) (by decide) (by decide) rfl rfl (Nat.le_of_ble_eq_true rfl) (fun r6 d7 => ?_)
      show SS G X 3 _ _ 53 [(0, rf G 174), (1, i9 p1), (2, i9 p2)] [i9 r6] d7 _
      refine r_if_eq C (b := 0) 65 dX12_follow_53 (by decide) (fun _ => ?_) (fun _ => ?_)
      · refine r_iconst C dX12_follow_65 ?_
        exact r_iret C dX12_follow_66 (by decide) (by decide)
      · refine r_aload_n C 0 dX12_follow_56 rfl rfl ?_
        refine r_getR C 190 dX12_follow_57 fl_X12_61 la_174 ly_174 rfl rfl ?_
        refine r_iload_n C 2 dX12_follow_60 rfl rfl ?_
        refine r_iald C dX12_follow_61 la_190 ly_190 (fun t8 => ?_)
        refine r_goto C 66 dX12_follow_62 (by decide) ?_
        exact r_iret C dX12_follow_66 (by decide) (by decide)
    · refine r_aload_n C 0 dX12_follow_33 rfl rfl ?_
      refine r_getI C dX12_follow_34 fl_X12_476 la_174 ly_174 rfl ?_
      refine r_goto C 66 dX12_follow_37 (by decide) ?_
      exact r_iret C dX12_follow_66 (by decide) (by decide)
  · refine r_aload_n C 0 dX12_follow_17 rfl rfl ?_
    refine r_iconst C dX12_follow_18 ?_
    refine r_callV C [i9 1, rf G 174] dX12_follow_19 (t_X12_fails_174 C.h1 C.h2 1 d3) mw_X12_89 mv_X12_fails la_174 ly_174 rfl (by decide) (by decide) (by decide) rfl rfl (Nat.le_of_ble_eq_true rfl) (fun r9 d10 => ?_)
    show SS G X 3 _ _ 22 [(0, rf G 174), (1, i9 p1), (2, i9 p2)] [i9 r9] d10 _
    exact r_iret C dX12_follow_22 (by decide) (by decide)
theorem dX12_image_0 : decode cX12_image 0 = .ok (.aload_n 0, 1) := by decide +kernel
theorem dX12_image_1 : decode cX12_image 1 = .ok (.iload_n 1, 1) := by decide +kernel
theorem dX12_image_2 : decode cX12_image 2 = .ok (.i2l, 1) := by decide +kernel
theorem dX12_image_3 : decode cX12_image 3 = .ok (.lconst 0, 1) := by decide +kernel
theorem dX12_image_4 : decode cX12_image 4 = .ok (.ldc2_w 114, 3) := by decide +kernel
theorem dX12_image_7 : decode cX12_image 7 = .ok (.invokestatic 79, 3) := by decide +kernel
theorem dX12_image_10 : decode cX12_image 10 = .ok (.ifCond .eq 7, 3) := by decide +kernel
theorem dX12_image_13 : decode cX12_image 13 = .ok (.iconst 0, 1) := by decide +kernel
theorem dX12_image_14 : decode cX12_image 14 = .ok (.goto 4, 3) := by decide +kernel
theorem dX12_image_17 : decode cX12_image 17 = .ok (.iconst 1, 1) := by decide +kernel
theorem dX12_image_18 : decode cX12_image 18 = .ok (.putfield 76, 3) := by decide +kernel
theorem dX12_image_21 : decode cX12_image 21 = .ok (.aload_n 0, 1) := by decide +kernel
theorem dX12_image_22 : decode cX12_image 22 = .ok (.getfield 76, 3) := by decide +kernel
theorem dX12_image_25 : decode cX12_image 25 = .ok (.ifCond .le 4, 3) := by decide +kernel
theorem dX12_image_28 : decode cX12_image 28 = .ok (.return_, 1) := by decide +kernel
theorem dX12_image_29 : decode cX12_image 29 = .ok (.aload_n 0, 1) := by decide +kernel
theorem dX12_image_30 : decode cX12_image 30 = .ok (.getfield 16, 3) := by decide +kernel
theorem dX12_image_33 : decode cX12_image 33 = .ok (.iload_n 1, 1) := by decide +kernel
theorem dX12_image_34 : decode cX12_image 34 = .ok (.iconst 1, 1) := by decide +kernel
theorem dX12_image_35 : decode cX12_image 35 = .ok (.bastore, 1) := by decide +kernel
theorem dX12_image_36 : decode cX12_image 36 = .ok (.iconst 0, 1) := by decide +kernel
theorem dX12_image_37 : decode cX12_image 37 = .ok (.istore_n 2, 1) := by decide +kernel
theorem dX12_image_38 : decode cX12_image 38 = .ok (.iload_n 2, 1) := by decide +kernel
theorem dX12_image_39 : decode cX12_image 39 = .ok (.sipush 1604, 3) := by decide +kernel
theorem dX12_image_42 : decode cX12_image 42 = .ok (.if_icmp .ge 27, 3) := by decide +kernel
theorem dX12_image_45 : decode cX12_image 45 = .ok (.aload_n 0, 1) := by decide +kernel
theorem dX12_image_46 : decode cX12_image 46 = .ok (.getfield 13, 3) := by decide +kernel
theorem dX12_image_49 : decode cX12_image 49 = .ok (.sipush 1604, 3) := by decide +kernel
theorem dX12_image_52 : decode cX12_image 52 = .ok (.iload_n 1, 1) := by decide +kernel
theorem dX12_image_53 : decode cX12_image 53 = .ok (.imul, 1) := by decide +kernel
theorem dX12_image_54 : decode cX12_image 54 = .ok (.iload_n 2, 1) := by decide +kernel
theorem dX12_image_55 : decode cX12_image 55 = .ok (.iadd, 1) := by decide +kernel
theorem dX12_image_56 : decode cX12_image 56 = .ok (.aload_n 0, 1) := by decide +kernel
theorem dX12_image_57 : decode cX12_image 57 = .ok (.getfield 9, 3) := by decide +kernel
theorem dX12_image_60 : decode cX12_image 60 = .ok (.iload_n 2, 1) := by decide +kernel
theorem dX12_image_61 : decode cX12_image 61 = .ok (.iaload, 1) := by decide +kernel
theorem dX12_image_62 : decode cX12_image 62 = .ok (.iastore, 1) := by decide +kernel
theorem dX12_image_63 : decode cX12_image 63 = .ok (.iinc 2 1, 3) := by decide +kernel
theorem dX12_image_66 : decode cX12_image 66 = .ok (.goto (-28), 3) := by decide +kernel
theorem dX12_image_69 : decode cX12_image 69 = .ok (.return_, 1) := by decide +kernel
abbrev z_X12_image_174 : Z9 := (none, 0, 0, 0, 2, 25)
def b_X12_image_174_c38 (k_X12_image_174_c38 : Int → Int → D9 → Option R9) (v1 v2 : Int) (d : D9) : Option R9 := if w32 1604 ≤ w32 v2 then rt 0 d else ld d 175 1604 v2 (fun t1 => sd d 176 4812 ((1604 * v1) + v2) t1 (fun d2 => k_X12_image_174_c38 v1 (v2 + 1) d2))
def m_X12_image_174_c38 : Int → Int → D9 → Option R9 := fix9 (fun _ _ _ => none) (fun k => b_X12_image_174_c38 k) FU
def m_X12_image_174_c18 (v1 s0 : Int) (d : D9) : Option R9 := pf d 174 3 s0 (fun d1 => if w32 (d1 174 3) ≤ 0 then sd d1 177 3 v1 (1 % 2) (fun d2 => m_X12_image_174_c38  v1 0 d2) else rt 0 d1)
def m_X12_image_174 (p1 : Int) (d : D9) : Option R9 := cl (m_X12_within (w32 p1) 0 2 d) (fun r1 d2 => if w32 r1 = 0 then m_X12_image_174_c18  p1 1 d2 else m_X12_image_174_c18  p1 0 d2)
set_option maxRecDepth 100000 in
theorem sb_X12_image_174_c38 {G : G9} {X : X9} (C : CX G X cX12_image 3 RX12 [] z_X12_image_174) (k_X12_image_174_c38 : Int → Int → D9 → Option R9) (hk_X12_image_174_c38 : ∀ (v1 v2 : Int) (d : D9), SS G X 3 0 0 38 [(0, rf G 174), (1, i9 v1), (2, i9 v2)] [] d (k_X12_image_174_c38 v1 v2 d)) : ∀ (v1 v2 : Int) (d : D9), SS G X 3 0 0 38 [(0, rf G 174), (1, i9 v1), (2, i9 v2)] [] d (b_X12_image_174_c38 k_X12_image_174_c38 v1 v2 d) := by
  intro v1 v2 d
  unfold b_X12_image_174_c38
  refine r_iload_n C 2 dX12_image_38 rfl rfl ?_
  refine r_sipush C dX12_image_39 rfl ?_
  refine r_icmp_ge C 69 dX12_image_42 (by decide) (fun _ => ?_) (fun _ => ?_)
  · exact r_vret C dX12_image_69 (by decide) (by decide)
  · refine r_aload_n C 0 dX12_image_45 rfl rfl ?_
    refine r_getR C 176 dX12_image_46 fl_X12_13 la_174 ly_174 rfl rfl ?_
    refine r_sipush C dX12_image_49 rfl ?_
    refine r_iload_n C 1 dX12_image_52 rfl rfl ?_
    refine r_imul C dX12_image_53 ?_
    refine r_iload_n C 2 dX12_image_54 rfl rfl ?_
    refine r_iadd C dX12_image_55 ?_
    refine r_aload_n C 0 dX12_image_56 rfl rfl ?_
    refine r_getR C 175 dX12_image_57 fl_X12_9 la_174 ly_174 rfl rfl ?_
    refine r_iload_n C 2 dX12_image_60 rfl rfl ?_
    refine r_iald C dX12_image_61 la_175 ly_175 (fun t1 => ?_)
    refine r_iast C dX12_image_62 la_176 ly_176 (fun d2 => ?_)
    refine r_iinc C 2 [(2, i9 (v2 + 1)), (0, rf G 174), (1, i9 v1)] dX12_image_63 rfl (by decide) rfl ?_
    refine r_goto C 38 dX12_image_66 (by decide) ?_
    refine ss_wide (k' := 0) (n' := 0) (by decide) (by decide) ?_
    refine ss_ls [(0, rf G 174), (1, i9 v1), (2, i9 (v2 + 1))] [1, 2, 0] rfl ?_
    exact hk_X12_image_174_c38 v1 (v2 + 1) d2
theorem s_X12_image_174_c38 {G : G9} {X : X9} (C : CX G X cX12_image 3 RX12 [] z_X12_image_174) : ∀ (v1 v2 : Int) (d : D9), SS G X 3 0 0 38 [(0, rf G 174), (1, i9 v1), (2, i9 v2)] [] d (m_X12_image_174_c38  v1 v2 d) :=
  fix9_ind (P := fun k => ∀ (v1 v2 : Int) (d : D9), SS G X 3 0 0 38 [(0, rf G 174), (1, i9 v1), (2, i9 v2)] [] d (k v1 v2 d)) (fun _ _ _ => ss_none) (fun k hk => sb_X12_image_174_c38 C k hk) FU
set_option maxRecDepth 100000 in
theorem s_X12_image_174_c18 {G : G9} {X : X9} (C : CX G X cX12_image 3 RX12 [] z_X12_image_174) : ∀ (v1 s0 : Int) (d : D9), SS G X 3 0 0 18 [(0, rf G 174), (1, i9 v1)] [i9 s0, rf G 174] d (m_X12_image_174_c18  v1 s0 d) := by
  intro v1 s0 d
  unfold m_X12_image_174_c18
  refine r_putI C dX12_image_18 fp_X12_76 la_174 ly_174 rfl (fun d1 => ?_)
  refine r_aload_n C 0 dX12_image_21 rfl rfl ?_
  refine r_getI C dX12_image_22 fl_X12_76 la_174 ly_174 rfl ?_
  refine r_if_le C (b := 0) 29 dX12_image_25 (by decide) (fun _ => ?_) (fun _ => ?_)
  · refine r_aload_n C 0 dX12_image_29 rfl rfl ?_
    refine r_getR C 177 dX12_image_30 fl_X12_16 la_174 ly_174 rfl rfl ?_
    refine r_iload_n C 1 dX12_image_33 rfl rfl ?_
    refine r_iconst C dX12_image_34 ?_
    refine r_zast C dX12_image_35 la_177 ly_177 (fun d2 => ?_)
    refine r_iconst C dX12_image_36 ?_
    refine r_istore_n C [(2, i9 0), (0, rf G 174), (1, i9 v1)] dX12_image_37 rfl (by decide) rfl ?_
    refine ss_wide (k' := 0) (n' := 0) (by decide) (by decide) ?_
    refine ss_ls [(0, rf G 174), (1, i9 v1), (2, i9 0)] [1, 2, 0] rfl ?_
    exact s_X12_image_174_c38 C  v1 0 d2
  · exact r_vret C dX12_image_28 (by decide) (by decide)
set_option maxRecDepth 100000 in
theorem t_X12_image_174 {G : G9} {l : Launch} (h1 : va_D (A9 G) (wl G (fun _ _ => 0))) (h2 : l.stackTraces = false) (p1 : Int) (d : D9) : MT G l yX12_image cX12_image 3 z_X12_image_174 [rf G 174, i9 p1] d (m_X12_image_174 p1 d) := by
  refine mt_of (own := RX12) (by decide) rfl (Nat.le_of_ble_eq_true rfl) h1 h2 [(0, rf G 174), (1, i9 p1)] rfl (fun X hX C => ?_)
  unfold m_X12_image_174
  refine r_aload_n C 0 dX12_image_0 rfl rfl ?_
  refine r_iload_n C 1 dX12_image_1 rfl rfl ?_
  refine r_i2l C dX12_image_2 ?_
  refine r_lconst C dX12_image_3 (a := 0) rfl ?_
  refine r_ldcL C dX12_image_4 kc_X12_114 ?_
  refine r_callS C [l9 2, l9 0, l9 (w32 p1), rf G 174] dX12_image_7 (t_X12_within C.h1 C.h2 (w32 p1) 0 2 d) mw_X12_79 ms_X12_within (by decide) (by decide) (by decide) rfl rfl (Nat.le_of_ble_eq_true rfl) (fun r1 d2 => ?_)
  show SS G X 3 _ _ 10 [(0, rf G 174), (1, i9 p1)] [i9 r1, rf G 174] d2 _
  refine r_if_eq C (b := 0) 17 dX12_image_10 (by decide) (fun _ => ?_) (fun _ => ?_)
  · refine r_iconst C dX12_image_17 ?_
    refine ss_wide (k' := 0) (n' := 0) (by decide) (by decide) ?_
    refine ss_ls [(0, rf G 174), (1, i9 p1)] [0, 1] rfl ?_
    exact s_X12_image_174_c18 C  p1 1 d2
  · refine r_iconst C dX12_image_13 ?_
    refine r_goto C 18 dX12_image_14 (by decide) ?_
    refine ss_wide (k' := 0) (n' := 0) (by decide) (by decide) ?_
    refine ss_ls [(0, rf G 174), (1, i9 p1)] [0, 1] rfl ?_
    exact s_X12_image_174_c18 C  p1 0 d2
theorem dX12_isLetter_0 : decode cX12_isLetter 0 = .ok (.iload_n 0, 1) := by decide +kernel
theorem dX12_isLetter_1 : decode cX12_isLetter 1 = .ok (.bipush 97, 2) := by decide +kernel
theorem dX12_isLetter_3 : decode cX12_isLetter 3 = .ok (.if_icmp .lt 13, 3) := by decide +kernel
theorem dX12_isLetter_6 : decode cX12_isLetter 6 = .ok (.iload_n 0, 1) := by decide +kernel
theorem dX12_isLetter_7 : decode cX12_isLetter 7 = .ok (.bipush 122, 2) := by decide +kernel
theorem dX12_isLetter_9 : decode cX12_isLetter 9 = .ok (.if_icmp .gt 7, 3) := by decide +kernel
theorem dX12_isLetter_12 : decode cX12_isLetter 12 = .ok (.iconst 1, 1) := by decide +kernel
theorem dX12_isLetter_13 : decode cX12_isLetter 13 = .ok (.goto 4, 3) := by decide +kernel
theorem dX12_isLetter_16 : decode cX12_isLetter 16 = .ok (.iconst 0, 1) := by decide +kernel
theorem dX12_isLetter_17 : decode cX12_isLetter 17 = .ok (.ireturn, 1) := by decide +kernel
abbrev z_X12_isLetter : Z9 := (some .boolean, 1, 0, 0, 1, 0)
def m_X12_isLetter (p0 : Int) (d : D9) : Option R9 := if w32 p0 < w32 97 then rt (0 % 2) d else if w32 122 < w32 p0 then rt (0 % 2) d else rt (1 % 2) d
set_option maxRecDepth 100000 in
theorem t_X12_isLetter {G : G9} {l : Launch} (h1 : va_D (A9 G) (wl G (fun _ _ => 0))) (h2 : l.stackTraces = false) (p0 : Int) (d : D9) : MT G l yX12_isLetter cX12_isLetter 1 z_X12_isLetter [i9 p0] d (m_X12_isLetter p0 d) := by
  refine mt_of (own := RX12) (by decide) rfl (Nat.le_of_ble_eq_true rfl) h1 h2 [(0, i9 p0)] rfl (fun X hX C => ?_)
  unfold m_X12_isLetter
  refine r_iload_n C 0 dX12_isLetter_0 rfl rfl ?_
  refine r_bipush C dX12_isLetter_1 rfl ?_
  refine r_icmp_lt C 16 dX12_isLetter_3 (by decide) (fun _ => ?_) (fun _ => ?_)
  · refine r_iconst C dX12_isLetter_16 ?_
    exact r_zret C dX12_isLetter_17 (by decide) (by decide)
  · refine r_iload_n C 0 dX12_isLetter_6 rfl rfl ?_
    refine r_bipush C dX12_isLetter_7 rfl ?_
    refine r_icmp_gt C 16 dX12_isLetter_9 (by decide) (fun _ => ?_) (fun _ => ?_)
    · refine r_iconst C dX12_isLetter_16 ?_
      exact r_zret C dX12_isLetter_17 (by decide) (by decide)
    · refine r_iconst C dX12_isLetter_12 ?_
      refine r_goto C 17 dX12_isLetter_13 (by decide) ?_
      exact r_zret C dX12_isLetter_17 (by decide) (by decide)
theorem dX12_isDigit_0 : decode cX12_isDigit 0 = .ok (.iload_n 0, 1) := by decide +kernel
theorem dX12_isDigit_1 : decode cX12_isDigit 1 = .ok (.bipush 48, 2) := by decide +kernel
theorem dX12_isDigit_3 : decode cX12_isDigit 3 = .ok (.if_icmp .lt 13, 3) := by decide +kernel
theorem dX12_isDigit_6 : decode cX12_isDigit 6 = .ok (.iload_n 0, 1) := by decide +kernel
theorem dX12_isDigit_7 : decode cX12_isDigit 7 = .ok (.bipush 57, 2) := by decide +kernel
theorem dX12_isDigit_9 : decode cX12_isDigit 9 = .ok (.if_icmp .gt 7, 3) := by decide +kernel
theorem dX12_isDigit_12 : decode cX12_isDigit 12 = .ok (.iconst 1, 1) := by decide +kernel
theorem dX12_isDigit_13 : decode cX12_isDigit 13 = .ok (.goto 4, 3) := by decide +kernel
theorem dX12_isDigit_16 : decode cX12_isDigit 16 = .ok (.iconst 0, 1) := by decide +kernel
theorem dX12_isDigit_17 : decode cX12_isDigit 17 = .ok (.ireturn, 1) := by decide +kernel
abbrev z_X12_isDigit : Z9 := (some .boolean, 1, 0, 0, 1, 0)
def m_X12_isDigit (p0 : Int) (d : D9) : Option R9 := if w32 p0 < w32 48 then rt (0 % 2) d else if w32 57 < w32 p0 then rt (0 % 2) d else rt (1 % 2) d
set_option maxRecDepth 100000 in
theorem t_X12_isDigit {G : G9} {l : Launch} (h1 : va_D (A9 G) (wl G (fun _ _ => 0))) (h2 : l.stackTraces = false) (p0 : Int) (d : D9) : MT G l yX12_isDigit cX12_isDigit 1 z_X12_isDigit [i9 p0] d (m_X12_isDigit p0 d) := by
  refine mt_of (own := RX12) (by decide) rfl (Nat.le_of_ble_eq_true rfl) h1 h2 [(0, i9 p0)] rfl (fun X hX C => ?_)
  unfold m_X12_isDigit
  refine r_iload_n C 0 dX12_isDigit_0 rfl rfl ?_
  refine r_bipush C dX12_isDigit_1 rfl ?_
  refine r_icmp_lt C 16 dX12_isDigit_3 (by decide) (fun _ => ?_) (fun _ => ?_)
  · refine r_iconst C dX12_isDigit_16 ?_
    exact r_zret C dX12_isDigit_17 (by decide) (by decide)
  · refine r_iload_n C 0 dX12_isDigit_6 rfl rfl ?_
    refine r_bipush C dX12_isDigit_7 rfl ?_
    refine r_icmp_gt C 16 dX12_isDigit_9 (by decide) (fun _ => ?_) (fun _ => ?_)
    · refine r_iconst C dX12_isDigit_16 ?_
      exact r_zret C dX12_isDigit_17 (by decide) (by decide)
    · refine r_iconst C dX12_isDigit_12 ?_
      refine r_goto C 17 dX12_isDigit_13 (by decide) ?_
      exact r_zret C dX12_isDigit_17 (by decide) (by decide)
theorem dX12_see_0 : decode cX12_see 0 = .ok (.iload_n 1, 1) := by decide +kernel
theorem dX12_see_1 : decode cX12_see 1 = .ok (.aload_n 0, 1) := by decide +kernel
theorem dX12_see_2 : decode cX12_see 2 = .ok (.getfield 136, 3) := by decide +kernel
theorem dX12_see_5 : decode cX12_see 5 = .ok (.if_icmp .ge 12, 3) := by decide +kernel
theorem dX12_see_8 : decode cX12_see 8 = .ok (.aload_n 0, 1) := by decide +kernel
theorem dX12_see_9 : decode cX12_see 9 = .ok (.getfield 20, 3) := by decide +kernel
theorem dX12_see_12 : decode cX12_see 12 = .ok (.iload_n 1, 1) := by decide +kernel
theorem dX12_see_13 : decode cX12_see 13 = .ok (.iaload, 1) := by decide +kernel
theorem dX12_see_14 : decode cX12_see 14 = .ok (.goto 4, 3) := by decide +kernel
theorem dX12_see_17 : decode cX12_see 17 = .ok (.iconst 0, 1) := by decide +kernel
theorem dX12_see_18 : decode cX12_see 18 = .ok (.ireturn, 1) := by decide +kernel
abbrev z_X12_see_174 : Z9 := (some .int, 1, 0, 0, 1, 0)
def m_X12_see_174 (p1 : Int) (d : D9) : Option R9 := if w32 (d 174 8) ≤ w32 p1 then rt 0 d else ld d 178 400 p1 (fun t1 => rt t1 d)
set_option maxRecDepth 100000 in
theorem t_X12_see_174 {G : G9} {l : Launch} (h1 : va_D (A9 G) (wl G (fun _ _ => 0))) (h2 : l.stackTraces = false) (p1 : Int) (d : D9) : MT G l yX12_see cX12_see 2 z_X12_see_174 [rf G 174, i9 p1] d (m_X12_see_174 p1 d) := by
  refine mt_of (own := RX12) (by decide) rfl (Nat.le_of_ble_eq_true rfl) h1 h2 [(0, rf G 174), (1, i9 p1)] rfl (fun X hX C => ?_)
  unfold m_X12_see_174
  refine r_iload_n C 1 dX12_see_0 rfl rfl ?_
  refine r_aload_n C 0 dX12_see_1 rfl rfl ?_
  refine r_getI C dX12_see_2 fl_X12_136 la_174 ly_174 rfl ?_
  refine r_icmp_ge C 17 dX12_see_5 (by decide) (fun _ => ?_) (fun _ => ?_)
  · refine r_iconst C dX12_see_17 ?_
    exact r_iret C dX12_see_18 (by decide) (by decide)
  · refine r_aload_n C 0 dX12_see_8 rfl rfl ?_
    refine r_getR C 178 dX12_see_9 fl_X12_20 la_174 ly_174 rfl rfl ?_
    refine r_iload_n C 1 dX12_see_12 rfl rfl ?_
    refine r_iald C dX12_see_13 la_178 ly_178 (fun t1 => ?_)
    refine r_goto C 18 dX12_see_14 (by decide) ?_
    exact r_iret C dX12_see_18 (by decide) (by decide)
theorem dX12_next_0 : decode cX12_next 0 = .ok (.aload_n 0, 1) := by decide +kernel
theorem dX12_next_1 : decode cX12_next 1 = .ok (.getfield 139, 3) := by decide +kernel
theorem dX12_next_4 : decode cX12_next 4 = .ok (.aload_n 0, 1) := by decide +kernel
theorem dX12_next_5 : decode cX12_next 5 = .ok (.getfield 136, 3) := by decide +kernel
theorem dX12_next_8 : decode cX12_next 8 = .ok (.if_icmp .ge 44, 3) := by decide +kernel
theorem dX12_next_11 : decode cX12_next 11 = .ok (.aload_n 0, 1) := by decide +kernel
theorem dX12_next_12 : decode cX12_next 12 = .ok (.getfield 20, 3) := by decide +kernel
theorem dX12_next_15 : decode cX12_next 15 = .ok (.aload_n 0, 1) := by decide +kernel
theorem dX12_next_16 : decode cX12_next 16 = .ok (.getfield 139, 3) := by decide +kernel
theorem dX12_next_19 : decode cX12_next 19 = .ok (.iaload, 1) := by decide +kernel
theorem dX12_next_20 : decode cX12_next 20 = .ok (.bipush 32, 2) := by decide +kernel
theorem dX12_next_22 : decode cX12_next 22 = .ok (.if_icmp .eq 17, 3) := by decide +kernel
theorem dX12_next_25 : decode cX12_next 25 = .ok (.aload_n 0, 1) := by decide +kernel
theorem dX12_next_26 : decode cX12_next 26 = .ok (.getfield 20, 3) := by decide +kernel
theorem dX12_next_29 : decode cX12_next 29 = .ok (.aload_n 0, 1) := by decide +kernel
theorem dX12_next_30 : decode cX12_next 30 = .ok (.getfield 139, 3) := by decide +kernel
theorem dX12_next_33 : decode cX12_next 33 = .ok (.iaload, 1) := by decide +kernel
theorem dX12_next_34 : decode cX12_next 34 = .ok (.bipush 10, 2) := by decide +kernel
theorem dX12_next_36 : decode cX12_next 36 = .ok (.if_icmp .ne 16, 3) := by decide +kernel
theorem dX12_next_39 : decode cX12_next 39 = .ok (.aload_n 0, 1) := by decide +kernel
theorem dX12_next_40 : decode cX12_next 40 = .ok (.dup, 1) := by decide +kernel
theorem dX12_next_41 : decode cX12_next 41 = .ok (.getfield 139, 3) := by decide +kernel
theorem dX12_next_44 : decode cX12_next 44 = .ok (.iconst 1, 1) := by decide +kernel
theorem dX12_next_45 : decode cX12_next 45 = .ok (.iadd, 1) := by decide +kernel
theorem dX12_next_46 : decode cX12_next 46 = .ok (.putfield 139, 3) := by decide +kernel
theorem dX12_next_49 : decode cX12_next 49 = .ok (.goto (-49), 3) := by decide +kernel
theorem dX12_next_52 : decode cX12_next 52 = .ok (.aload_n 0, 1) := by decide +kernel
theorem dX12_next_53 : decode cX12_next 53 = .ok (.aload_n 0, 1) := by decide +kernel
theorem dX12_next_54 : decode cX12_next 54 = .ok (.getfield 139, 3) := by decide +kernel
theorem dX12_next_57 : decode cX12_next 57 = .ok (.putfield 142, 3) := by decide +kernel
theorem dX12_next_60 : decode cX12_next 60 = .ok (.aload_n 0, 1) := by decide +kernel
theorem dX12_next_61 : decode cX12_next 61 = .ok (.getfield 139, 3) := by decide +kernel
theorem dX12_next_64 : decode cX12_next 64 = .ok (.aload_n 0, 1) := by decide +kernel
theorem dX12_next_65 : decode cX12_next 65 = .ok (.getfield 136, 3) := by decide +kernel
theorem dX12_next_68 : decode cX12_next 68 = .ok (.if_icmp .lt 9, 3) := by decide +kernel
theorem dX12_next_71 : decode cX12_next 71 = .ok (.aload_n 0, 1) := by decide +kernel
theorem dX12_next_72 : decode cX12_next 72 = .ok (.iconst 0, 1) := by decide +kernel
theorem dX12_next_73 : decode cX12_next 73 = .ok (.putfield 145, 3) := by decide +kernel
theorem dX12_next_76 : decode cX12_next 76 = .ok (.return_, 1) := by decide +kernel
theorem dX12_next_77 : decode cX12_next 77 = .ok (.aload_n 0, 1) := by decide +kernel
theorem dX12_next_78 : decode cX12_next 78 = .ok (.getfield 20, 3) := by decide +kernel
theorem dX12_next_81 : decode cX12_next 81 = .ok (.aload_n 0, 1) := by decide +kernel
theorem dX12_next_82 : decode cX12_next 82 = .ok (.getfield 139, 3) := by decide +kernel
theorem dX12_next_85 : decode cX12_next 85 = .ok (.iaload, 1) := by decide +kernel
theorem dX12_next_86 : decode cX12_next 86 = .ok (.istore_n 1, 1) := by decide +kernel
theorem dX12_next_87 : decode cX12_next 87 = .ok (.iload_n 1, 1) := by decide +kernel
theorem dX12_next_88 : decode cX12_next 88 = .ok (.invokestatic 148, 3) := by decide +kernel
theorem dX12_next_91 : decode cX12_next 91 = .ok (.ifCond .eq 38, 3) := by decide +kernel
theorem dX12_next_94 : decode cX12_next 94 = .ok (.aload_n 0, 1) := by decide +kernel
theorem dX12_next_95 : decode cX12_next 95 = .ok (.aload_n 0, 1) := by decide +kernel
theorem dX12_next_96 : decode cX12_next 96 = .ok (.getfield 139, 3) := by decide +kernel
theorem dX12_next_99 : decode cX12_next 99 = .ok (.invokevirtual 151, 3) := by decide +kernel
theorem dX12_next_102 : decode cX12_next 102 = .ok (.invokestatic 148, 3) := by decide +kernel
theorem dX12_next_105 : decode cX12_next 105 = .ok (.ifCond .eq 16, 3) := by decide +kernel
theorem dX12_next_108 : decode cX12_next 108 = .ok (.aload_n 0, 1) := by decide +kernel
theorem dX12_next_109 : decode cX12_next 109 = .ok (.dup, 1) := by decide +kernel
theorem dX12_next_110 : decode cX12_next 110 = .ok (.getfield 139, 3) := by decide +kernel
theorem dX12_next_113 : decode cX12_next 113 = .ok (.iconst 1, 1) := by decide +kernel
theorem dX12_next_114 : decode cX12_next 114 = .ok (.iadd, 1) := by decide +kernel
theorem dX12_next_115 : decode cX12_next 115 = .ok (.putfield 139, 3) := by decide +kernel
theorem dX12_next_118 : decode cX12_next 118 = .ok (.goto (-24), 3) := by decide +kernel
theorem dX12_next_121 : decode cX12_next 121 = .ok (.aload_n 0, 1) := by decide +kernel
theorem dX12_next_122 : decode cX12_next 122 = .ok (.iconst 1, 1) := by decide +kernel
theorem dX12_next_123 : decode cX12_next 123 = .ok (.putfield 145, 3) := by decide +kernel
theorem dX12_next_126 : decode cX12_next 126 = .ok (.goto 157, 3) := by decide +kernel
theorem dX12_next_129 : decode cX12_next 129 = .ok (.iload_n 1, 1) := by decide +kernel
theorem dX12_next_130 : decode cX12_next 130 = .ok (.invokestatic 154, 3) := by decide +kernel
theorem dX12_next_133 : decode cX12_next 133 = .ok (.ifCond .eq 104, 3) := by decide +kernel
theorem dX12_next_136 : decode cX12_next 136 = .ok (.aload_n 0, 1) := by decide +kernel
theorem dX12_next_137 : decode cX12_next 137 = .ok (.iconst 0, 1) := by decide +kernel
theorem dX12_next_138 : decode cX12_next 138 = .ok (.putfield 157, 3) := by decide +kernel
theorem dX12_next_141 : decode cX12_next 141 = .ok (.aload_n 0, 1) := by decide +kernel
theorem dX12_next_142 : decode cX12_next 142 = .ok (.aload_n 0, 1) := by decide +kernel
theorem dX12_next_143 : decode cX12_next 143 = .ok (.getfield 139, 3) := by decide +kernel
theorem dX12_next_146 : decode cX12_next 146 = .ok (.invokevirtual 151, 3) := by decide +kernel
theorem dX12_next_149 : decode cX12_next 149 = .ok (.invokestatic 154, 3) := by decide +kernel
theorem dX12_next_152 : decode cX12_next 152 = .ok (.ifCond .eq 60, 3) := by decide +kernel
theorem dX12_next_155 : decode cX12_next 155 = .ok (.aload_n 0, 1) := by decide +kernel
theorem dX12_next_156 : decode cX12_next 156 = .ok (.aload_n 0, 1) := by decide +kernel
theorem dX12_next_157 : decode cX12_next 157 = .ok (.getfield 139, 3) := by decide +kernel
theorem dX12_next_160 : decode cX12_next 160 = .ok (.aload_n 0, 1) := by decide +kernel
theorem dX12_next_161 : decode cX12_next 161 = .ok (.getfield 142, 3) := by decide +kernel
theorem dX12_next_164 : decode cX12_next 164 = .ok (.isub, 1) := by decide +kernel
theorem dX12_next_165 : decode cX12_next 165 = .ok (.iconst 3, 1) := by decide +kernel
theorem dX12_next_166 : decode cX12_next 166 = .ok (.if_icmp .ge 26, 3) := by decide +kernel
theorem dX12_next_169 : decode cX12_next 169 = .ok (.bipush 10, 2) := by decide +kernel
theorem dX12_next_171 : decode cX12_next 171 = .ok (.aload_n 0, 1) := by decide +kernel
theorem dX12_next_172 : decode cX12_next 172 = .ok (.getfield 157, 3) := by decide +kernel
theorem dX12_next_175 : decode cX12_next 175 = .ok (.imul, 1) := by decide +kernel
theorem dX12_next_176 : decode cX12_next 176 = .ok (.aload_n 0, 1) := by decide +kernel
theorem dX12_next_177 : decode cX12_next 177 = .ok (.getfield 20, 3) := by decide +kernel
theorem dX12_next_180 : decode cX12_next 180 = .ok (.aload_n 0, 1) := by decide +kernel
theorem dX12_next_181 : decode cX12_next 181 = .ok (.getfield 139, 3) := by decide +kernel
theorem dX12_next_184 : decode cX12_next 184 = .ok (.iaload, 1) := by decide +kernel
theorem dX12_next_185 : decode cX12_next 185 = .ok (.iadd, 1) := by decide +kernel
theorem dX12_next_186 : decode cX12_next 186 = .ok (.bipush 48, 2) := by decide +kernel
theorem dX12_next_188 : decode cX12_next 188 = .ok (.isub, 1) := by decide +kernel
theorem dX12_next_189 : decode cX12_next 189 = .ok (.goto 7, 3) := by decide +kernel
theorem dX12_next_192 : decode cX12_next 192 = .ok (.aload_n 0, 1) := by decide +kernel
theorem dX12_next_193 : decode cX12_next 193 = .ok (.getfield 157, 3) := by decide +kernel
theorem dX12_next_196 : decode cX12_next 196 = .ok (.putfield 157, 3) := by decide +kernel
theorem dX12_next_199 : decode cX12_next 199 = .ok (.aload_n 0, 1) := by decide +kernel
theorem dX12_next_200 : decode cX12_next 200 = .ok (.dup, 1) := by decide +kernel
theorem dX12_next_201 : decode cX12_next 201 = .ok (.getfield 139, 3) := by decide +kernel
theorem dX12_next_204 : decode cX12_next 204 = .ok (.iconst 1, 1) := by decide +kernel
theorem dX12_next_205 : decode cX12_next 205 = .ok (.iadd, 1) := by decide +kernel
theorem dX12_next_206 : decode cX12_next 206 = .ok (.putfield 139, 3) := by decide +kernel
theorem dX12_next_209 : decode cX12_next 209 = .ok (.goto (-68), 3) := by decide +kernel
theorem dX12_next_212 : decode cX12_next 212 = .ok (.aload_n 0, 1) := by decide +kernel
theorem dX12_next_213 : decode cX12_next 213 = .ok (.aload_n 0, 1) := by decide +kernel
theorem dX12_next_214 : decode cX12_next 214 = .ok (.getfield 139, 3) := by decide +kernel
theorem dX12_next_217 : decode cX12_next 217 = .ok (.aload_n 0, 1) := by decide +kernel
theorem dX12_next_218 : decode cX12_next 218 = .ok (.getfield 142, 3) := by decide +kernel
theorem dX12_next_221 : decode cX12_next 221 = .ok (.isub, 1) := by decide +kernel
theorem dX12_next_222 : decode cX12_next 222 = .ok (.iconst 3, 1) := by decide +kernel
theorem dX12_next_223 : decode cX12_next 223 = .ok (.if_icmp .le 7, 3) := by decide +kernel
theorem dX12_next_226 : decode cX12_next 226 = .ok (.iconst 4, 1) := by decide +kernel
theorem dX12_next_227 : decode cX12_next 227 = .ok (.goto 4, 3) := by decide +kernel
theorem dX12_next_230 : decode cX12_next 230 = .ok (.iconst 2, 1) := by decide +kernel
theorem dX12_next_231 : decode cX12_next 231 = .ok (.putfield 145, 3) := by decide +kernel
theorem dX12_next_234 : decode cX12_next 234 = .ok (.goto 49, 3) := by decide +kernel
theorem dX12_next_237 : decode cX12_next 237 = .ok (.aload_n 0, 1) := by decide +kernel
theorem dX12_next_238 : decode cX12_next 238 = .ok (.iload_n 1, 1) := by decide +kernel
theorem dX12_next_239 : decode cX12_next 239 = .ok (.bipush 59, 2) := by decide +kernel
theorem dX12_next_241 : decode cX12_next 241 = .ok (.if_icmp .ne 7, 3) := by decide +kernel
theorem dX12_next_244 : decode cX12_next 244 = .ok (.iconst 3, 1) := by decide +kernel
theorem dX12_next_245 : decode cX12_next 245 = .ok (.goto 25, 3) := by decide +kernel
theorem dX12_next_248 : decode cX12_next 248 = .ok (.iload_n 1, 1) := by decide +kernel
theorem dX12_next_249 : decode cX12_next 249 = .ok (.bipush 40, 2) := by decide +kernel
theorem dX12_next_251 : decode cX12_next 251 = .ok (.if_icmp .ne 7, 3) := by decide +kernel
theorem dX12_next_254 : decode cX12_next 254 = .ok (.iconst 5, 1) := by decide +kernel
theorem dX12_next_255 : decode cX12_next 255 = .ok (.goto 15, 3) := by decide +kernel
theorem dX12_next_258 : decode cX12_next 258 = .ok (.iload_n 1, 1) := by decide +kernel
theorem dX12_next_259 : decode cX12_next 259 = .ok (.bipush 41, 2) := by decide +kernel
theorem dX12_next_261 : decode cX12_next 261 = .ok (.if_icmp .ne 8, 3) := by decide +kernel
theorem dX12_next_264 : decode cX12_next 264 = .ok (.bipush 6, 2) := by decide +kernel
theorem dX12_next_266 : decode cX12_next 266 = .ok (.goto 4, 3) := by decide +kernel
theorem dX12_next_269 : decode cX12_next 269 = .ok (.iconst 4, 1) := by decide +kernel
theorem dX12_next_270 : decode cX12_next 270 = .ok (.putfield 145, 3) := by decide +kernel
theorem dX12_next_273 : decode cX12_next 273 = .ok (.aload_n 0, 1) := by decide +kernel
theorem dX12_next_274 : decode cX12_next 274 = .ok (.dup, 1) := by decide +kernel
theorem dX12_next_275 : decode cX12_next 275 = .ok (.getfield 139, 3) := by decide +kernel
theorem dX12_next_278 : decode cX12_next 278 = .ok (.iconst 1, 1) := by decide +kernel
theorem dX12_next_279 : decode cX12_next 279 = .ok (.iadd, 1) := by decide +kernel
theorem dX12_next_280 : decode cX12_next 280 = .ok (.putfield 139, 3) := by decide +kernel
theorem dX12_next_283 : decode cX12_next 283 = .ok (.return_, 1) := by decide +kernel
abbrev z_X12_next_174 : Z9 := (none, 0, 0, 0, 2, 21)
def b_X12_next_174_c141 (k_X12_next_174_c141 : D9 → Option R9) (d : D9) : Option R9 := cl (m_X12_see_174 (d 174 9) d) (fun r1 d2 => cl (m_X12_isDigit r1 d2) (fun r3 d4 => if w32 r3 = 0 then if w32 ((d4 174 9) - (d4 174 10)) ≤ w32 3 then pf d4 174 11 2 (fun d5 => rt 0 d5) else pf d4 174 11 4 (fun d6 => rt 0 d6) else if w32 3 ≤ w32 ((d4 174 9) - (d4 174 10)) then pf d4 174 12 (d4 174 12) (fun d7 => pf d7 174 9 ((d7 174 9) + 1) (fun d8 => k_X12_next_174_c141  d8)) else ld d4 178 400 (d4 174 9) (fun t9 => pf d4 174 12 (((10 * (d4 174 12)) + t9) - 48) (fun d10 => pf d10 174 9 ((d10 174 9) + 1) (fun d11 => k_X12_next_174_c141  d11)))))
def m_X12_next_174_c141 : D9 → Option R9 := fix9 (fun _ => none) (fun k => b_X12_next_174_c141 k) FU
def b_X12_next_174_c94 (k_X12_next_174_c94 : D9 → Option R9) (d : D9) : Option R9 := cl (m_X12_see_174 (d 174 9) d) (fun r1 d2 => cl (m_X12_isLetter r1 d2) (fun r3 d4 => if w32 r3 = 0 then pf d4 174 11 1 (fun d5 => rt 0 d5) else pf d4 174 9 ((d4 174 9) + 1) (fun d6 => k_X12_next_174_c94  d6)))
def m_X12_next_174_c94 : D9 → Option R9 := fix9 (fun _ => none) (fun k => b_X12_next_174_c94 k) FU
def m_X12_next_174_c52 (d : D9) : Option R9 := pf d 174 10 (d 174 9) (fun d1 => if w32 (d1 174 9) < w32 (d1 174 8) then ld d1 178 400 (d1 174 9) (fun t2 => cl (m_X12_isLetter t2 d1) (fun r3 d4 => if w32 r3 = 0 then cl (m_X12_isDigit t2 d4) (fun r5 d6 => if w32 r5 = 0 then if w32 t2 ≠ w32 59 then if w32 t2 ≠ w32 40 then if w32 t2 ≠ w32 41 then pf d6 174 11 4 (fun d7 => pf d7 174 9 ((d7 174 9) + 1) (fun d8 => rt 0 d8)) else pf d6 174 11 6 (fun d9 => pf d9 174 9 ((d9 174 9) + 1) (fun d10 => rt 0 d10)) else pf d6 174 11 5 (fun d11 => pf d11 174 9 ((d11 174 9) + 1) (fun d12 => rt 0 d12)) else pf d6 174 11 3 (fun d13 => pf d13 174 9 ((d13 174 9) + 1) (fun d14 => rt 0 d14)) else pf d6 174 12 0 (fun d15 => m_X12_next_174_c141   d15)) else m_X12_next_174_c94   d4)) else pf d1 174 11 0 (fun d16 => rt 0 d16))
def b_X12_next_174_c0 (k_X12_next_174_c0 : D9 → Option R9) (d : D9) : Option R9 := if w32 (d 174 8) ≤ w32 (d 174 9) then m_X12_next_174_c52   d else ld d 178 400 (d 174 9) (fun t1 => if w32 t1 = w32 32 then pf d 174 9 ((d 174 9) + 1) (fun d2 => k_X12_next_174_c0  d2) else ld d 178 400 (d 174 9) (fun t3 => if w32 t3 ≠ w32 10 then m_X12_next_174_c52   d else pf d 174 9 ((d 174 9) + 1) (fun d4 => k_X12_next_174_c0  d4)))
def m_X12_next_174_c0 : D9 → Option R9 := fix9 (fun _ => none) (fun k => b_X12_next_174_c0 k) FU
def m_X12_next_174 (d : D9) : Option R9 := m_X12_next_174_c0   d
set_option maxRecDepth 100000 in
theorem sb_X12_next_174_c141 {G : G9} {X : X9} (C : CX G X cX12_next 2 RX12 [] z_X12_next_174) (k_X12_next_174_c141 : D9 → Option R9) (hk_X12_next_174_c141 : ∀ (d : D9), SS G X 2 0 0 141 [(0, rf G 174)] [] d (k_X12_next_174_c141  d)) : ∀ (d : D9), SS G X 2 0 0 141 [(0, rf G 174)] [] d (b_X12_next_174_c141 k_X12_next_174_c141  d) := by
  intro  d
  unfold b_X12_next_174_c141
  refine r_aload_n C 0 dX12_next_141 rfl rfl ?_
  refine r_aload_n C 0 dX12_next_142 rfl rfl ?_
  refine r_getI C dX12_next_143 fl_X12_139 la_174 ly_174 rfl ?_
  refine r_callV C [i9 (d 174 9), rf G 174] dX12_next_146 (t_X12_see_174 C.h1 C.h2 (d 174 9) d) mw_X12_151 mv_X12_see la_174 ly_174 rfl (by decide) (by decide) (by decide) rfl rfl (Nat.le_of_ble_eq_true rfl) (fun r1 d2 => ?_)
  show SS G X 2 _ _ 149 [(0, rf G 174)] [i9 r1] d2 _
  refine r_callS C [i9 r1] dX12_next_149 (t_X12_isDigit C.h1 C.h2 r1 d2) mw_X12_154 ms_X12_isDigit (by decide) (by decide) (by decide) rfl rfl (Nat.le_of_ble_eq_true rfl) (fun r3 d4 => ?_)
  show SS G X 2 _ _ 152 [(0, rf G 174)] [i9 r3] d4 _
  refine r_if_eq C (b := 0) 212 dX12_next_152 (by decide) (fun _ => ?_) (fun _ => ?_)
  · refine r_aload_n C 0 dX12_next_212 rfl rfl ?_
    refine r_aload_n C 0 dX12_next_213 rfl rfl ?_
    refine r_getI C dX12_next_214 fl_X12_139 la_174 ly_174 rfl ?_
    refine r_aload_n C 0 dX12_next_217 rfl rfl ?_
    refine r_getI C dX12_next_218 fl_X12_142 la_174 ly_174 rfl ?_
    refine r_isub C dX12_next_221 ?_
    refine r_iconst C dX12_next_222 ?_
    refine r_icmp_le C 230 dX12_next_223 (by decide) (fun _ => ?_) (fun _ => ?_)
    · refine r_iconst C dX12_next_230 ?_
      refine r_putI C dX12_next_231 fp_X12_145 la_174 ly_174 rfl (fun d5 => ?_)
      refine r_goto C 283 dX12_next_234 (by decide) ?_
      exact r_vret C dX12_next_283 (by decide) (by decide)
    · refine r_iconst C dX12_next_226 ?_
      refine r_goto C 231 dX12_next_227 (by decide) ?_
      refine r_putI C dX12_next_231 fp_X12_145 la_174 ly_174 rfl (fun d6 => ?_)
      refine r_goto C 283 dX12_next_234 (by decide) ?_
      exact r_vret C dX12_next_283 (by decide) (by decide)
  · refine r_aload_n C 0 dX12_next_155 rfl rfl ?_
    refine r_aload_n C 0 dX12_next_156 rfl rfl ?_
    refine r_getI C dX12_next_157 fl_X12_139 la_174 ly_174 rfl ?_
    refine r_aload_n C 0 dX12_next_160 rfl rfl ?_
    refine r_getI C dX12_next_161 fl_X12_142 la_174 ly_174 rfl ?_
    refine r_isub C dX12_next_164 ?_
    refine r_iconst C dX12_next_165 ?_
    refine r_icmp_ge C 192 dX12_next_166 (by decide) (fun _ => ?_) (fun _ => ?_)
    · refine r_aload_n C 0 dX12_next_192 rfl rfl ?_
      refine r_getI C dX12_next_193 fl_X12_157 la_174 ly_174 rfl ?_
      refine r_putI C dX12_next_196 fp_X12_157 la_174 ly_174 rfl (fun d7 => ?_)
      refine r_aload_n C 0 dX12_next_199 rfl rfl ?_
      refine r_dup C dX12_next_200 rfl ?_
      refine r_getI C dX12_next_201 fl_X12_139 la_174 ly_174 rfl ?_
      refine r_iconst C dX12_next_204 ?_
      refine r_iadd C dX12_next_205 ?_
      refine r_putI C dX12_next_206 fp_X12_139 la_174 ly_174 rfl (fun d8 => ?_)
      refine r_goto C 141 dX12_next_209 (by decide) ?_
      refine ss_wide (k' := 0) (n' := 0) (by decide) (by decide) ?_
      refine ss_ls [(0, rf G 174)] [0] rfl ?_
      exact hk_X12_next_174_c141  d8
    · refine r_bipush C dX12_next_169 rfl ?_
      refine r_aload_n C 0 dX12_next_171 rfl rfl ?_
      refine r_getI C dX12_next_172 fl_X12_157 la_174 ly_174 rfl ?_
      refine r_imul C dX12_next_175 ?_
      refine r_aload_n C 0 dX12_next_176 rfl rfl ?_
      refine r_getR C 178 dX12_next_177 fl_X12_20 la_174 ly_174 rfl rfl ?_
      refine r_aload_n C 0 dX12_next_180 rfl rfl ?_
      refine r_getI C dX12_next_181 fl_X12_139 la_174 ly_174 rfl ?_
      refine r_iald C dX12_next_184 la_178 ly_178 (fun t9 => ?_)
      refine r_iadd C dX12_next_185 ?_
      refine r_bipush C dX12_next_186 rfl ?_
      refine r_isub C dX12_next_188 ?_
      refine r_goto C 196 dX12_next_189 (by decide) ?_
      refine r_putI C dX12_next_196 fp_X12_157 la_174 ly_174 rfl (fun d10 => ?_)
      refine r_aload_n C 0 dX12_next_199 rfl rfl ?_
      refine r_dup C dX12_next_200 rfl ?_
      refine r_getI C dX12_next_201 fl_X12_139 la_174 ly_174 rfl ?_
      refine r_iconst C dX12_next_204 ?_
      refine r_iadd C dX12_next_205 ?_
      refine r_putI C dX12_next_206 fp_X12_139 la_174 ly_174 rfl (fun d11 => ?_)
      refine r_goto C 141 dX12_next_209 (by decide) ?_
      refine ss_wide (k' := 0) (n' := 0) (by decide) (by decide) ?_
      refine ss_ls [(0, rf G 174)] [0] rfl ?_
      exact hk_X12_next_174_c141  d11
theorem s_X12_next_174_c141 {G : G9} {X : X9} (C : CX G X cX12_next 2 RX12 [] z_X12_next_174) : ∀ (d : D9), SS G X 2 0 0 141 [(0, rf G 174)] [] d (m_X12_next_174_c141   d) :=
  fix9_ind (P := fun k => ∀ (d : D9), SS G X 2 0 0 141 [(0, rf G 174)] [] d (k  d)) (fun _ => ss_none) (fun k hk => sb_X12_next_174_c141 C k hk) FU
set_option maxRecDepth 100000 in
theorem sb_X12_next_174_c94 {G : G9} {X : X9} (C : CX G X cX12_next 2 RX12 [] z_X12_next_174) (k_X12_next_174_c94 : D9 → Option R9) (hk_X12_next_174_c94 : ∀ (d : D9), SS G X 2 0 0 94 [(0, rf G 174)] [] d (k_X12_next_174_c94  d)) : ∀ (d : D9), SS G X 2 0 0 94 [(0, rf G 174)] [] d (b_X12_next_174_c94 k_X12_next_174_c94  d) := by
  intro  d
  unfold b_X12_next_174_c94
  refine r_aload_n C 0 dX12_next_94 rfl rfl ?_
  refine r_aload_n C 0 dX12_next_95 rfl rfl ?_
  refine r_getI C dX12_next_96 fl_X12_139 la_174 ly_174 rfl ?_
  refine r_callV C [i9 (d 174 9), rf G 174] dX12_next_99 (t_X12_see_174 C.h1 C.h2 (d 174 9) d) mw_X12_151 mv_X12_see la_174 ly_174 rfl (by decide) (by decide) (by decide) rfl rfl (Nat.le_of_ble_eq_true rfl) (fun r1 d2 => ?_)
  show SS G X 2 _ _ 102 [(0, rf G 174)] [i9 r1] d2 _
  refine r_callS C [i9 r1] dX12_next_102 (t_X12_isLetter C.h1 C.h2 r1 d2) mw_X12_148 ms_X12_isLetter (by decide) (by decide) (by decide) rfl rfl (Nat.le_of_ble_eq_true rfl) (fun r3 d4 => ?_)
  show SS G X 2 _ _ 105 [(0, rf G 174)] [i9 r3] d4 _
  refine r_if_eq C (b := 0) 121 dX12_next_105 (by decide) (fun _ => ?_) (fun _ => ?_)
  · refine r_aload_n C 0 dX12_next_121 rfl rfl ?_
    refine r_iconst C dX12_next_122 ?_
    refine r_putI C dX12_next_123 fp_X12_145 la_174 ly_174 rfl (fun d5 => ?_)
    refine r_goto C 283 dX12_next_126 (by decide) ?_
    exact r_vret C dX12_next_283 (by decide) (by decide)
  · refine r_aload_n C 0 dX12_next_108 rfl rfl ?_
    refine r_dup C dX12_next_109 rfl ?_
    refine r_getI C dX12_next_110 fl_X12_139 la_174 ly_174 rfl ?_
    refine r_iconst C dX12_next_113 ?_
    refine r_iadd C dX12_next_114 ?_
    refine r_putI C dX12_next_115 fp_X12_139 la_174 ly_174 rfl (fun d6 => ?_)
    refine r_goto C 94 dX12_next_118 (by decide) ?_
    refine ss_wide (k' := 0) (n' := 0) (by decide) (by decide) ?_
    refine ss_ls [(0, rf G 174)] [0] rfl ?_
    exact hk_X12_next_174_c94  d6
theorem s_X12_next_174_c94 {G : G9} {X : X9} (C : CX G X cX12_next 2 RX12 [] z_X12_next_174) : ∀ (d : D9), SS G X 2 0 0 94 [(0, rf G 174)] [] d (m_X12_next_174_c94   d) :=
  fix9_ind (P := fun k => ∀ (d : D9), SS G X 2 0 0 94 [(0, rf G 174)] [] d (k  d)) (fun _ => ss_none) (fun k hk => sb_X12_next_174_c94 C k hk) FU
set_option maxRecDepth 100000 in
theorem s_X12_next_174_c52 {G : G9} {X : X9} (C : CX G X cX12_next 2 RX12 [] z_X12_next_174) : ∀ (d : D9), SS G X 2 0 0 52 [(0, rf G 174)] [] d (m_X12_next_174_c52   d) := by
  intro  d
  unfold m_X12_next_174_c52
  refine r_aload_n C 0 dX12_next_52 rfl rfl ?_
  refine r_aload_n C 0 dX12_next_53 rfl rfl ?_
  refine r_getI C dX12_next_54 fl_X12_139 la_174 ly_174 rfl ?_
  refine r_putI C dX12_next_57 fp_X12_142 la_174 ly_174 rfl (fun d1 => ?_)
  refine r_aload_n C 0 dX12_next_60 rfl rfl ?_
  refine r_getI C dX12_next_61 fl_X12_139 la_174 ly_174 rfl ?_
  refine r_aload_n C 0 dX12_next_64 rfl rfl ?_
  refine r_getI C dX12_next_65 fl_X12_136 la_174 ly_174 rfl ?_
  refine r_icmp_lt C 77 dX12_next_68 (by decide) (fun _ => ?_) (fun _ => ?_)
  · refine r_aload_n C 0 dX12_next_77 rfl rfl ?_
    refine r_getR C 178 dX12_next_78 fl_X12_20 la_174 ly_174 rfl rfl ?_
    refine r_aload_n C 0 dX12_next_81 rfl rfl ?_
    refine r_getI C dX12_next_82 fl_X12_139 la_174 ly_174 rfl ?_
    refine r_iald C dX12_next_85 la_178 ly_178 (fun t2 => ?_)
    refine r_istore_n C [(1, i9 t2), (0, rf G 174)] dX12_next_86 rfl (by decide) rfl ?_
    refine r_iload_n C 0 dX12_next_87 rfl rfl ?_
    refine r_callS C [i9 t2] dX12_next_88 (t_X12_isLetter C.h1 C.h2 t2 d1) mw_X12_148 ms_X12_isLetter (by decide) (by decide) (by decide) rfl rfl (Nat.le_of_ble_eq_true rfl) (fun r3 d4 => ?_)
    show SS G X 2 _ _ 91 [(1, i9 t2), (0, rf G 174)] [i9 r3] d4 _
    refine r_if_eq C (b := 0) 129 dX12_next_91 (by decide) (fun _ => ?_) (fun _ => ?_)
    · refine r_iload_n C 0 dX12_next_129 rfl rfl ?_
      refine r_callS C [i9 t2] dX12_next_130 (t_X12_isDigit C.h1 C.h2 t2 d4) mw_X12_154 ms_X12_isDigit (by decide) (by decide) (by decide) rfl rfl (Nat.le_of_ble_eq_true rfl) (fun r5 d6 => ?_)
      show SS G X 2 _ _ 133 [(1, i9 t2), (0, rf G 174)] [i9 r5] d6 _
      refine r_if_eq C (b := 0) 237 dX12_next_133 (by decide) (fun _ => ?_) (fun _ => ?_)
      · refine r_aload_n C 1 dX12_next_237 rfl rfl ?_
        refine r_iload_n C 0 dX12_next_238 rfl rfl ?_
        refine r_bipush C dX12_next_239 rfl ?_
        refine r_icmp_ne C 248 dX12_next_241 (by decide) (fun _ => ?_) (fun _ => ?_)
        · refine r_iload_n C 0 dX12_next_248 rfl rfl ?_
          refine r_bipush C dX12_next_249 rfl ?_
          refine r_icmp_ne C 258 dX12_next_251 (by decide) (fun _ => ?_) (fun _ => ?_)
          · refine r_iload_n C 0 dX12_next_258 rfl rfl ?_
            refine r_bipush C dX12_next_259 rfl ?_
            refine r_icmp_ne C 269 dX12_next_261 (by decide) (fun _ => ?_) (fun _ => ?_)
            · refine r_iconst C dX12_next_269 ?_
              refine r_putI C dX12_next_270 fp_X12_145 la_174 ly_174 rfl (fun d7 => ?_)
              refine r_aload_n C 1 dX12_next_273 rfl rfl ?_
              refine r_dup C dX12_next_274 rfl ?_
              refine r_getI C dX12_next_275 fl_X12_139 la_174 ly_174 rfl ?_
              refine r_iconst C dX12_next_278 ?_
              refine r_iadd C dX12_next_279 ?_
              refine r_putI C dX12_next_280 fp_X12_139 la_174 ly_174 rfl (fun d8 => ?_)
              exact r_vret C dX12_next_283 (by decide) (by decide)
            · refine r_bipush C dX12_next_264 rfl ?_
              refine r_goto C 270 dX12_next_266 (by decide) ?_
              refine r_putI C dX12_next_270 fp_X12_145 la_174 ly_174 rfl (fun d9 => ?_)
              refine r_aload_n C 1 dX12_next_273 rfl rfl ?_
              refine r_dup C dX12_next_274 rfl ?_
              refine r_getI C dX12_next_275 fl_X12_139 la_174 ly_174 rfl ?_
              refine r_iconst C dX12_next_278 ?_
              refine r_iadd C dX12_next_279 ?_
              refine r_putI C dX12_next_280 fp_X12_139 la_174 ly_174 rfl (fun d10 => ?_)
              exact r_vret C dX12_next_283 (by decide) (by decide)
          · refine r_iconst C dX12_next_254 ?_
            refine r_goto C 270 dX12_next_255 (by decide) ?_
            refine r_putI C dX12_next_270 fp_X12_145 la_174 ly_174 rfl (fun d11 => ?_)
            refine r_aload_n C 1 dX12_next_273 rfl rfl ?_
            refine r_dup C dX12_next_274 rfl ?_
            refine r_getI C dX12_next_275 fl_X12_139 la_174 ly_174 rfl ?_
            refine r_iconst C dX12_next_278 ?_
            refine r_iadd C dX12_next_279 ?_
            refine r_putI C dX12_next_280 fp_X12_139 la_174 ly_174 rfl (fun d12 => ?_)
            exact r_vret C dX12_next_283 (by decide) (by decide)
        · refine r_iconst C dX12_next_244 ?_
          refine r_goto C 270 dX12_next_245 (by decide) ?_
          refine r_putI C dX12_next_270 fp_X12_145 la_174 ly_174 rfl (fun d13 => ?_)
          refine r_aload_n C 1 dX12_next_273 rfl rfl ?_
          refine r_dup C dX12_next_274 rfl ?_
          refine r_getI C dX12_next_275 fl_X12_139 la_174 ly_174 rfl ?_
          refine r_iconst C dX12_next_278 ?_
          refine r_iadd C dX12_next_279 ?_
          refine r_putI C dX12_next_280 fp_X12_139 la_174 ly_174 rfl (fun d14 => ?_)
          exact r_vret C dX12_next_283 (by decide) (by decide)
      · refine r_aload_n C 1 dX12_next_136 rfl rfl ?_
        refine r_iconst C dX12_next_137 ?_
        refine r_putI C dX12_next_138 fp_X12_157 la_174 ly_174 rfl (fun d15 => ?_)
        refine ss_wide (k' := 0) (n' := 0) (by decide) (by decide) ?_
        refine ss_ls [(0, rf G 174)] [1] rfl ?_
        exact s_X12_next_174_c141 C   d15
    · refine ss_wide (k' := 0) (n' := 0) (by decide) (by decide) ?_
      refine ss_ls [(0, rf G 174)] [1] rfl ?_
      exact s_X12_next_174_c94 C   d4
  · refine r_aload_n C 0 dX12_next_71 rfl rfl ?_
    refine r_iconst C dX12_next_72 ?_
    refine r_putI C dX12_next_73 fp_X12_145 la_174 ly_174 rfl (fun d16 => ?_)
    exact r_vret C dX12_next_76 (by decide) (by decide)
set_option maxRecDepth 100000 in
theorem sb_X12_next_174_c0 {G : G9} {X : X9} (C : CX G X cX12_next 2 RX12 [] z_X12_next_174) (k_X12_next_174_c0 : D9 → Option R9) (hk_X12_next_174_c0 : ∀ (d : D9), SS G X 2 0 0 0 [(0, rf G 174)] [] d (k_X12_next_174_c0  d)) : ∀ (d : D9), SS G X 2 0 0 0 [(0, rf G 174)] [] d (b_X12_next_174_c0 k_X12_next_174_c0  d) := by
  intro  d
  unfold b_X12_next_174_c0
  refine r_aload_n C 0 dX12_next_0 rfl rfl ?_
  refine r_getI C dX12_next_1 fl_X12_139 la_174 ly_174 rfl ?_
  refine r_aload_n C 0 dX12_next_4 rfl rfl ?_
  refine r_getI C dX12_next_5 fl_X12_136 la_174 ly_174 rfl ?_
  refine r_icmp_ge C 52 dX12_next_8 (by decide) (fun _ => ?_) (fun _ => ?_)
  · refine ss_wide (k' := 0) (n' := 0) (by decide) (by decide) ?_
    refine ss_ls [(0, rf G 174)] [0] rfl ?_
    exact s_X12_next_174_c52 C   d
  · refine r_aload_n C 0 dX12_next_11 rfl rfl ?_
    refine r_getR C 178 dX12_next_12 fl_X12_20 la_174 ly_174 rfl rfl ?_
    refine r_aload_n C 0 dX12_next_15 rfl rfl ?_
    refine r_getI C dX12_next_16 fl_X12_139 la_174 ly_174 rfl ?_
    refine r_iald C dX12_next_19 la_178 ly_178 (fun t1 => ?_)
    refine r_bipush C dX12_next_20 rfl ?_
    refine r_icmp_eq C 39 dX12_next_22 (by decide) (fun _ => ?_) (fun _ => ?_)
    · refine r_aload_n C 0 dX12_next_39 rfl rfl ?_
      refine r_dup C dX12_next_40 rfl ?_
      refine r_getI C dX12_next_41 fl_X12_139 la_174 ly_174 rfl ?_
      refine r_iconst C dX12_next_44 ?_
      refine r_iadd C dX12_next_45 ?_
      refine r_putI C dX12_next_46 fp_X12_139 la_174 ly_174 rfl (fun d2 => ?_)
      refine r_goto C 0 dX12_next_49 (by decide) ?_
      refine ss_wide (k' := 0) (n' := 0) (by decide) (by decide) ?_
      refine ss_ls [(0, rf G 174)] [0] rfl ?_
      exact hk_X12_next_174_c0  d2
    · refine r_aload_n C 0 dX12_next_25 rfl rfl ?_
      refine r_getR C 178 dX12_next_26 fl_X12_20 la_174 ly_174 rfl rfl ?_
      refine r_aload_n C 0 dX12_next_29 rfl rfl ?_
      refine r_getI C dX12_next_30 fl_X12_139 la_174 ly_174 rfl ?_
      refine r_iald C dX12_next_33 la_178 ly_178 (fun t3 => ?_)
      refine r_bipush C dX12_next_34 rfl ?_
      refine r_icmp_ne C 52 dX12_next_36 (by decide) (fun _ => ?_) (fun _ => ?_)
      · refine ss_wide (k' := 0) (n' := 0) (by decide) (by decide) ?_
        refine ss_ls [(0, rf G 174)] [0] rfl ?_
        exact s_X12_next_174_c52 C   d
      · refine r_aload_n C 0 dX12_next_39 rfl rfl ?_
        refine r_dup C dX12_next_40 rfl ?_
        refine r_getI C dX12_next_41 fl_X12_139 la_174 ly_174 rfl ?_
        refine r_iconst C dX12_next_44 ?_
        refine r_iadd C dX12_next_45 ?_
        refine r_putI C dX12_next_46 fp_X12_139 la_174 ly_174 rfl (fun d4 => ?_)
        refine r_goto C 0 dX12_next_49 (by decide) ?_
        refine ss_wide (k' := 0) (n' := 0) (by decide) (by decide) ?_
        refine ss_ls [(0, rf G 174)] [0] rfl ?_
        exact hk_X12_next_174_c0  d4
theorem s_X12_next_174_c0 {G : G9} {X : X9} (C : CX G X cX12_next 2 RX12 [] z_X12_next_174) : ∀ (d : D9), SS G X 2 0 0 0 [(0, rf G 174)] [] d (m_X12_next_174_c0   d) :=
  fix9_ind (P := fun k => ∀ (d : D9), SS G X 2 0 0 0 [(0, rf G 174)] [] d (k  d)) (fun _ => ss_none) (fun k hk => sb_X12_next_174_c0 C k hk) FU
set_option maxRecDepth 100000 in
theorem t_X12_next_174 {G : G9} {l : Launch} (h1 : va_D (A9 G) (wl G (fun _ _ => 0))) (h2 : l.stackTraces = false) (d : D9) : MT G l yX12_next cX12_next 2 z_X12_next_174 [rf G 174] d (m_X12_next_174  d) := by
  refine mt_of (own := RX12) (by decide) rfl (Nat.le_of_ble_eq_true rfl) h1 h2 [(0, rf G 174)] rfl (fun X hX C => ?_)
  unfold m_X12_next_174
  refine ss_wide (k' := 0) (n' := 0) (by decide) (by decide) ?_
  refine ss_ls [(0, rf G 174)] [0] rfl ?_
  exact s_X12_next_174_c0 C   d
theorem dX12_starts_0 : decode cX12_starts 0 = .ok (.aload_n 0, 1) := by decide +kernel
theorem dX12_starts_1 : decode cX12_starts 1 = .ok (.iload_n 1, 1) := by decide +kernel
theorem dX12_starts_2 : decode cX12_starts 2 = .ok (.putfield 136, 3) := by decide +kernel
theorem dX12_starts_5 : decode cX12_starts 5 = .ok (.aload_n 0, 1) := by decide +kernel
theorem dX12_starts_6 : decode cX12_starts 6 = .ok (.iconst 0, 1) := by decide +kernel
theorem dX12_starts_7 : decode cX12_starts 7 = .ok (.putfield 133, 3) := by decide +kernel
theorem dX12_starts_10 : decode cX12_starts 10 = .ok (.aload_n 0, 1) := by decide +kernel
theorem dX12_starts_11 : decode cX12_starts 11 = .ok (.iconst 0, 1) := by decide +kernel
theorem dX12_starts_12 : decode cX12_starts 12 = .ok (.putfield 139, 3) := by decide +kernel
theorem dX12_starts_15 : decode cX12_starts 15 = .ok (.aload_n 0, 1) := by decide +kernel
theorem dX12_starts_16 : decode cX12_starts 16 = .ok (.iconst 0, 1) := by decide +kernel
theorem dX12_starts_17 : decode cX12_starts 17 = .ok (.putfield 160, 3) := by decide +kernel
theorem dX12_starts_20 : decode cX12_starts 20 = .ok (.aload_n 0, 1) := by decide +kernel
theorem dX12_starts_21 : decode cX12_starts 21 = .ok (.invokevirtual 180, 3) := by decide +kernel
theorem dX12_starts_24 : decode cX12_starts 24 = .ok (.return_, 1) := by decide +kernel
abbrev z_X12_starts_174 : Z9 := (none, 0, 0, 0, 3, 42)
def m_X12_starts_174 (p1 : Int) (d : D9) : Option R9 := pf d 174 8 p1 (fun d1 => pf d1 174 7 0 (fun d2 => pf d2 174 9 0 (fun d3 => pf d3 174 13 0 (fun d4 => cl (m_X12_next_174 d4) (fun r5 d6 => rt 0 d6)))))
set_option maxRecDepth 100000 in
theorem t_X12_starts_174 {G : G9} {l : Launch} (h1 : va_D (A9 G) (wl G (fun _ _ => 0))) (h2 : l.stackTraces = false) (p1 : Int) (d : D9) : MT G l yX12_starts cX12_starts 2 z_X12_starts_174 [rf G 174, i9 p1] d (m_X12_starts_174 p1 d) := by
  refine mt_of (own := RX12) (by decide) rfl (Nat.le_of_ble_eq_true rfl) h1 h2 [(0, rf G 174), (1, i9 p1)] rfl (fun X hX C => ?_)
  unfold m_X12_starts_174
  refine r_aload_n C 0 dX12_starts_0 rfl rfl ?_
  refine r_iload_n C 1 dX12_starts_1 rfl rfl ?_
  refine r_putI C dX12_starts_2 fp_X12_136 la_174 ly_174 rfl (fun d1 => ?_)
  refine r_aload_n C 0 dX12_starts_5 rfl rfl ?_
  refine r_iconst C dX12_starts_6 ?_
  refine r_putI C dX12_starts_7 fp_X12_133 la_174 ly_174 rfl (fun d2 => ?_)
  refine r_aload_n C 0 dX12_starts_10 rfl rfl ?_
  refine r_iconst C dX12_starts_11 ?_
  refine r_putI C dX12_starts_12 fp_X12_139 la_174 ly_174 rfl (fun d3 => ?_)
  refine r_aload_n C 0 dX12_starts_15 rfl rfl ?_
  refine r_iconst C dX12_starts_16 ?_
  refine r_putI C dX12_starts_17 fp_X12_160 la_174 ly_174 rfl (fun d4 => ?_)
  refine r_aload_n C 0 dX12_starts_20 rfl rfl ?_
  refine r_callV C [rf G 174] dX12_starts_21 (t_X12_next_174 C.h1 C.h2 d4) mw_X12_180 mv_X12_next la_174 ly_174 rfl (by decide) (by decide) (by decide) rfl rfl (Nat.le_of_ble_eq_true rfl) (fun r5 d6 => ?_)
  show SS G X 2 _ _ 24 [(0, rf G 174), (1, i9 p1)] [] d6 _
  exact r_vret C dX12_starts_24 (by decide) (by decide)
theorem dX12_plainLaw_0 : decode cX12_plainLaw 0 = .ok (.aload_n 0, 1) := by decide +kernel
theorem dX12_plainLaw_1 : decode cX12_plainLaw 1 = .ok (.getfield 23, 3) := by decide +kernel
theorem dX12_plainLaw_4 : decode cX12_plainLaw 4 = .ok (.iconst 0, 1) := by decide +kernel
theorem dX12_plainLaw_5 : decode cX12_plainLaw 5 = .ok (.bipush 10, 2) := by decide +kernel
theorem dX12_plainLaw_7 : decode cX12_plainLaw 7 = .ok (.iastore, 1) := by decide +kernel
theorem dX12_plainLaw_8 : decode cX12_plainLaw 8 = .ok (.aload_n 0, 1) := by decide +kernel
theorem dX12_plainLaw_9 : decode cX12_plainLaw 9 = .ok (.getfield 23, 3) := by decide +kernel
theorem dX12_plainLaw_12 : decode cX12_plainLaw 12 = .ok (.iconst 1, 1) := by decide +kernel
theorem dX12_plainLaw_13 : decode cX12_plainLaw 13 = .ok (.bipush 20, 2) := by decide +kernel
theorem dX12_plainLaw_15 : decode cX12_plainLaw 15 = .ok (.iastore, 1) := by decide +kernel
theorem dX12_plainLaw_16 : decode cX12_plainLaw 16 = .ok (.aload_n 0, 1) := by decide +kernel
theorem dX12_plainLaw_17 : decode cX12_plainLaw 17 = .ok (.getfield 23, 3) := by decide +kernel
theorem dX12_plainLaw_20 : decode cX12_plainLaw 20 = .ok (.iconst 2, 1) := by decide +kernel
theorem dX12_plainLaw_21 : decode cX12_plainLaw 21 = .ok (.bipush 60, 2) := by decide +kernel
theorem dX12_plainLaw_23 : decode cX12_plainLaw 23 = .ok (.iastore, 1) := by decide +kernel
theorem dX12_plainLaw_24 : decode cX12_plainLaw 24 = .ok (.aload_n 0, 1) := by decide +kernel
theorem dX12_plainLaw_25 : decode cX12_plainLaw 25 = .ok (.getfield 23, 3) := by decide +kernel
theorem dX12_plainLaw_28 : decode cX12_plainLaw 28 = .ok (.iconst 3, 1) := by decide +kernel
theorem dX12_plainLaw_29 : decode cX12_plainLaw 29 = .ok (.bipush 50, 2) := by decide +kernel
theorem dX12_plainLaw_31 : decode cX12_plainLaw 31 = .ok (.iastore, 1) := by decide +kernel
theorem dX12_plainLaw_32 : decode cX12_plainLaw 32 = .ok (.aload_n 0, 1) := by decide +kernel
theorem dX12_plainLaw_33 : decode cX12_plainLaw 33 = .ok (.getfield 23, 3) := by decide +kernel
theorem dX12_plainLaw_36 : decode cX12_plainLaw 36 = .ok (.iconst 4, 1) := by decide +kernel
theorem dX12_plainLaw_37 : decode cX12_plainLaw 37 = .ok (.iconst 5, 1) := by decide +kernel
theorem dX12_plainLaw_38 : decode cX12_plainLaw 38 = .ok (.iastore, 1) := by decide +kernel
theorem dX12_plainLaw_39 : decode cX12_plainLaw 39 = .ok (.aload_n 0, 1) := by decide +kernel
theorem dX12_plainLaw_40 : decode cX12_plainLaw 40 = .ok (.getfield 23, 3) := by decide +kernel
theorem dX12_plainLaw_43 : decode cX12_plainLaw 43 = .ok (.iconst 5, 1) := by decide +kernel
theorem dX12_plainLaw_44 : decode cX12_plainLaw 44 = .ok (.bipush 10, 2) := by decide +kernel
theorem dX12_plainLaw_46 : decode cX12_plainLaw 46 = .ok (.iastore, 1) := by decide +kernel
theorem dX12_plainLaw_47 : decode cX12_plainLaw 47 = .ok (.aload_n 0, 1) := by decide +kernel
theorem dX12_plainLaw_48 : decode cX12_plainLaw 48 = .ok (.getfield 23, 3) := by decide +kernel
theorem dX12_plainLaw_51 : decode cX12_plainLaw 51 = .ok (.bipush 6, 2) := by decide +kernel
theorem dX12_plainLaw_53 : decode cX12_plainLaw 53 = .ok (.bipush 6, 2) := by decide +kernel
theorem dX12_plainLaw_55 : decode cX12_plainLaw 55 = .ok (.iastore, 1) := by decide +kernel
theorem dX12_plainLaw_56 : decode cX12_plainLaw 56 = .ok (.return_, 1) := by decide +kernel
abbrev z_X12_plainLaw_174 : Z9 := (none, 0, 0, 0, 1, 0)
def m_X12_plainLaw_174 (d : D9) : Option R9 := sd d 179 7 0 10 (fun d1 => sd d1 179 7 1 20 (fun d2 => sd d2 179 7 2 60 (fun d3 => sd d3 179 7 3 50 (fun d4 => sd d4 179 7 4 5 (fun d5 => sd d5 179 7 5 10 (fun d6 => sd d6 179 7 6 6 (fun d7 => rt 0 d7)))))))
set_option maxRecDepth 100000 in
theorem t_X12_plainLaw_174 {G : G9} {l : Launch} (h1 : va_D (A9 G) (wl G (fun _ _ => 0))) (h2 : l.stackTraces = false) (d : D9) : MT G l yX12_plainLaw cX12_plainLaw 1 z_X12_plainLaw_174 [rf G 174] d (m_X12_plainLaw_174  d) := by
  refine mt_of (own := RX12) (by decide) rfl (Nat.le_of_ble_eq_true rfl) h1 h2 [(0, rf G 174)] rfl (fun X hX C => ?_)
  unfold m_X12_plainLaw_174
  refine r_aload_n C 0 dX12_plainLaw_0 rfl rfl ?_
  refine r_getR C 179 dX12_plainLaw_1 fl_X12_23 la_174 ly_174 rfl rfl ?_
  refine r_iconst C dX12_plainLaw_4 ?_
  refine r_bipush C dX12_plainLaw_5 rfl ?_
  refine r_iast C dX12_plainLaw_7 la_179 ly_179 (fun d1 => ?_)
  refine r_aload_n C 0 dX12_plainLaw_8 rfl rfl ?_
  refine r_getR C 179 dX12_plainLaw_9 fl_X12_23 la_174 ly_174 rfl rfl ?_
  refine r_iconst C dX12_plainLaw_12 ?_
  refine r_bipush C dX12_plainLaw_13 rfl ?_
  refine r_iast C dX12_plainLaw_15 la_179 ly_179 (fun d2 => ?_)
  refine r_aload_n C 0 dX12_plainLaw_16 rfl rfl ?_
  refine r_getR C 179 dX12_plainLaw_17 fl_X12_23 la_174 ly_174 rfl rfl ?_
  refine r_iconst C dX12_plainLaw_20 ?_
  refine r_bipush C dX12_plainLaw_21 rfl ?_
  refine r_iast C dX12_plainLaw_23 la_179 ly_179 (fun d3 => ?_)
  refine r_aload_n C 0 dX12_plainLaw_24 rfl rfl ?_
  refine r_getR C 179 dX12_plainLaw_25 fl_X12_23 la_174 ly_174 rfl rfl ?_
  refine r_iconst C dX12_plainLaw_28 ?_
  refine r_bipush C dX12_plainLaw_29 rfl ?_
  refine r_iast C dX12_plainLaw_31 la_179 ly_179 (fun d4 => ?_)
  refine r_aload_n C 0 dX12_plainLaw_32 rfl rfl ?_
  refine r_getR C 179 dX12_plainLaw_33 fl_X12_23 la_174 ly_174 rfl rfl ?_
  refine r_iconst C dX12_plainLaw_36 ?_
  refine r_iconst C dX12_plainLaw_37 ?_
  refine r_iast C dX12_plainLaw_38 la_179 ly_179 (fun d5 => ?_)
  refine r_aload_n C 0 dX12_plainLaw_39 rfl rfl ?_
  refine r_getR C 179 dX12_plainLaw_40 fl_X12_23 la_174 ly_174 rfl rfl ?_
  refine r_iconst C dX12_plainLaw_43 ?_
  refine r_bipush C dX12_plainLaw_44 rfl ?_
  refine r_iast C dX12_plainLaw_46 la_179 ly_179 (fun d6 => ?_)
  refine r_aload_n C 0 dX12_plainLaw_47 rfl rfl ?_
  refine r_getR C 179 dX12_plainLaw_48 fl_X12_23 la_174 ly_174 rfl rfl ?_
  refine r_bipush C dX12_plainLaw_51 rfl ?_
  refine r_bipush C dX12_plainLaw_53 rfl ?_
  refine r_iast C dX12_plainLaw_55 la_179 ly_179 (fun d7 => ?_)
  exact r_vret C dX12_plainLaw_56 (by decide) (by decide)
theorem dX12_ends_0 : decode cX12_ends 0 = .ok (.aload_n 0, 1) := by decide +kernel
theorem dX12_ends_1 : decode cX12_ends 1 = .ok (.aload_n 0, 1) := by decide +kernel
theorem dX12_ends_2 : decode cX12_ends 2 = .ok (.getfield 160, 3) := by decide +kernel
theorem dX12_ends_5 : decode cX12_ends 5 = .ok (.putfield 187, 3) := by decide +kernel
theorem dX12_ends_8 : decode cX12_ends 8 = .ok (.aload_n 0, 1) := by decide +kernel
theorem dX12_ends_9 : decode cX12_ends 9 = .ok (.aload_n 0, 1) := by decide +kernel
theorem dX12_ends_10 : decode cX12_ends 10 = .ok (.getfield 160, 3) := by decide +kernel
theorem dX12_ends_13 : decode cX12_ends 13 = .ok (.ifCond .ne 7, 3) := by decide +kernel
theorem dX12_ends_16 : decode cX12_ends 16 = .ok (.iconst (-1), 1) := by decide +kernel
theorem dX12_ends_17 : decode cX12_ends 17 = .ok (.goto 7, 3) := by decide +kernel
theorem dX12_ends_20 : decode cX12_ends 20 = .ok (.aload_n 0, 1) := by decide +kernel
theorem dX12_ends_21 : decode cX12_ends 21 = .ok (.getfield 163, 3) := by decide +kernel
theorem dX12_ends_24 : decode cX12_ends 24 = .ok (.putfield 29, 3) := by decide +kernel
theorem dX12_ends_27 : decode cX12_ends 27 = .ok (.aload_n 0, 1) := by decide +kernel
theorem dX12_ends_28 : decode cX12_ends 28 = .ok (.getfield 160, 3) := by decide +kernel
theorem dX12_ends_31 : decode cX12_ends 31 = .ok (.ifCond .ne 7, 3) := by decide +kernel
theorem dX12_ends_34 : decode cX12_ends 34 = .ok (.iload_n 1, 1) := by decide +kernel
theorem dX12_ends_35 : decode cX12_ends 35 = .ok (.goto 10, 3) := by decide +kernel
theorem dX12_ends_38 : decode cX12_ends 38 = .ok (.bipush (-10), 2) := by decide +kernel
theorem dX12_ends_40 : decode cX12_ends 40 = .ok (.aload_n 0, 1) := by decide +kernel
theorem dX12_ends_41 : decode cX12_ends 41 = .ok (.getfield 160, 3) := by decide +kernel
theorem dX12_ends_44 : decode cX12_ends 44 = .ok (.isub, 1) := by decide +kernel
theorem dX12_ends_45 : decode cX12_ends 45 = .ok (.ireturn, 1) := by decide +kernel
abbrev z_X12_ends_174 : Z9 := (some .int, 1, 0, 0, 1, 0)
def m_X12_ends_174_c24 (v1 s0 : Int) (d : D9) : Option R9 := pf d 174 16 s0 (fun d1 => if w32 (d1 174 13) ≠ 0 then rt ((-10) - (d1 174 13)) d1 else rt v1 d1)
def m_X12_ends_174 (p1 : Int) (d : D9) : Option R9 := pf d 174 15 (d 174 13) (fun d1 => if w32 (d1 174 13) ≠ 0 then m_X12_ends_174_c24  p1 (d1 174 14) d1 else m_X12_ends_174_c24  p1 (-1) d1)
set_option maxRecDepth 100000 in
theorem s_X12_ends_174_c24 {G : G9} {X : X9} (C : CX G X cX12_ends 2 RX12 [] z_X12_ends_174) : ∀ (v1 s0 : Int) (d : D9), SS G X 2 0 0 24 [(0, rf G 174), (1, i9 v1)] [i9 s0, rf G 174] d (m_X12_ends_174_c24  v1 s0 d) := by
  intro v1 s0 d
  unfold m_X12_ends_174_c24
  refine r_putI C dX12_ends_24 fp_X12_29 la_174 ly_174 rfl (fun d1 => ?_)
  refine r_aload_n C 0 dX12_ends_27 rfl rfl ?_
  refine r_getI C dX12_ends_28 fl_X12_160 la_174 ly_174 rfl ?_
  refine r_if_ne C (b := 0) 38 dX12_ends_31 (by decide) (fun _ => ?_) (fun _ => ?_)
  · refine r_bipush C dX12_ends_38 rfl ?_
    refine r_aload_n C 0 dX12_ends_40 rfl rfl ?_
    refine r_getI C dX12_ends_41 fl_X12_160 la_174 ly_174 rfl ?_
    refine r_isub C dX12_ends_44 ?_
    exact r_iret C dX12_ends_45 (by decide) (by decide)
  · refine r_iload_n C 1 dX12_ends_34 rfl rfl ?_
    refine r_goto C 45 dX12_ends_35 (by decide) ?_
    exact r_iret C dX12_ends_45 (by decide) (by decide)
set_option maxRecDepth 100000 in
theorem t_X12_ends_174 {G : G9} {l : Launch} (h1 : va_D (A9 G) (wl G (fun _ _ => 0))) (h2 : l.stackTraces = false) (p1 : Int) (d : D9) : MT G l yX12_ends cX12_ends 2 z_X12_ends_174 [rf G 174, i9 p1] d (m_X12_ends_174 p1 d) := by
  refine mt_of (own := RX12) (by decide) rfl (Nat.le_of_ble_eq_true rfl) h1 h2 [(0, rf G 174), (1, i9 p1)] rfl (fun X hX C => ?_)
  unfold m_X12_ends_174
  refine r_aload_n C 0 dX12_ends_0 rfl rfl ?_
  refine r_aload_n C 0 dX12_ends_1 rfl rfl ?_
  refine r_getI C dX12_ends_2 fl_X12_160 la_174 ly_174 rfl ?_
  refine r_putI C dX12_ends_5 fp_X12_187 la_174 ly_174 rfl (fun d1 => ?_)
  refine r_aload_n C 0 dX12_ends_8 rfl rfl ?_
  refine r_aload_n C 0 dX12_ends_9 rfl rfl ?_
  refine r_getI C dX12_ends_10 fl_X12_160 la_174 ly_174 rfl ?_
  refine r_if_ne C (b := 0) 20 dX12_ends_13 (by decide) (fun _ => ?_) (fun _ => ?_)
  · refine r_aload_n C 0 dX12_ends_20 rfl rfl ?_
    refine r_getI C dX12_ends_21 fl_X12_163 la_174 ly_174 rfl ?_
    refine ss_wide (k' := 0) (n' := 0) (by decide) (by decide) ?_
    refine ss_ls [(0, rf G 174), (1, i9 p1)] [0, 1] rfl ?_
    exact s_X12_ends_174_c24 C  p1 (d1 174 14) d1
  · refine r_iconst C dX12_ends_16 ?_
    refine r_goto C 24 dX12_ends_17 (by decide) ?_
    refine ss_wide (k' := 0) (n' := 0) (by decide) (by decide) ?_
    refine ss_ls [(0, rf G 174), (1, i9 p1)] [0, 1] rfl ?_
    exact s_X12_ends_174_c24 C  p1 (-1) d1
theorem dX12_isWord_0 : decode cX12_isWord 0 = .ok (.aload_n 0, 1) := by decide +kernel
theorem dX12_isWord_1 : decode cX12_isWord 1 = .ok (.getfield 160, 3) := by decide +kernel
theorem dX12_isWord_4 : decode cX12_isWord 4 = .ok (.ifCond .ne 31, 3) := by decide +kernel
theorem dX12_isWord_7 : decode cX12_isWord 7 = .ok (.aload_n 0, 1) := by decide +kernel
theorem dX12_isWord_8 : decode cX12_isWord 8 = .ok (.getfield 145, 3) := by decide +kernel
theorem dX12_isWord_11 : decode cX12_isWord 11 = .ok (.iconst 1, 1) := by decide +kernel
theorem dX12_isWord_12 : decode cX12_isWord 12 = .ok (.if_icmp .ne 23, 3) := by decide +kernel
theorem dX12_isWord_15 : decode cX12_isWord 15 = .ok (.aload_n 0, 1) := by decide +kernel
theorem dX12_isWord_16 : decode cX12_isWord 16 = .ok (.getfield 139, 3) := by decide +kernel
theorem dX12_isWord_19 : decode cX12_isWord 19 = .ok (.aload_n 0, 1) := by decide +kernel
theorem dX12_isWord_20 : decode cX12_isWord 20 = .ok (.getfield 142, 3) := by decide +kernel
theorem dX12_isWord_23 : decode cX12_isWord 23 = .ok (.isub, 1) := by decide +kernel
theorem dX12_isWord_24 : decode cX12_isWord 24 = .ok (.aload_n 1, 1) := by decide +kernel
theorem dX12_isWord_25 : decode cX12_isWord 25 = .ok (.invokevirtual 166, 3) := by decide +kernel
theorem dX12_isWord_28 : decode cX12_isWord 28 = .ok (.if_icmp .ne 7, 3) := by decide +kernel
theorem dX12_isWord_31 : decode cX12_isWord 31 = .ok (.iconst 1, 1) := by decide +kernel
theorem dX12_isWord_32 : decode cX12_isWord 32 = .ok (.goto 4, 3) := by decide +kernel
theorem dX12_isWord_35 : decode cX12_isWord 35 = .ok (.iconst 0, 1) := by decide +kernel
theorem dX12_isWord_36 : decode cX12_isWord 36 = .ok (.istore_n 2, 1) := by decide +kernel
theorem dX12_isWord_37 : decode cX12_isWord 37 = .ok (.iconst 0, 1) := by decide +kernel
theorem dX12_isWord_38 : decode cX12_isWord 38 = .ok (.istore_n 3, 1) := by decide +kernel
theorem dX12_isWord_39 : decode cX12_isWord 39 = .ok (.iload_n 2, 1) := by decide +kernel
theorem dX12_isWord_40 : decode cX12_isWord 40 = .ok (.ifCond .eq 42, 3) := by decide +kernel
theorem dX12_isWord_43 : decode cX12_isWord 43 = .ok (.iload_n 3, 1) := by decide +kernel
theorem dX12_isWord_44 : decode cX12_isWord 44 = .ok (.aload_n 1, 1) := by decide +kernel
theorem dX12_isWord_45 : decode cX12_isWord 45 = .ok (.invokevirtual 166, 3) := by decide +kernel
theorem dX12_isWord_48 : decode cX12_isWord 48 = .ok (.if_icmp .ge 34, 3) := by decide +kernel
theorem dX12_isWord_51 : decode cX12_isWord 51 = .ok (.aload_n 0, 1) := by decide +kernel
theorem dX12_isWord_52 : decode cX12_isWord 52 = .ok (.getfield 20, 3) := by decide +kernel
theorem dX12_isWord_55 : decode cX12_isWord 55 = .ok (.aload_n 0, 1) := by decide +kernel
theorem dX12_isWord_56 : decode cX12_isWord 56 = .ok (.getfield 142, 3) := by decide +kernel
theorem dX12_isWord_59 : decode cX12_isWord 59 = .ok (.iload_n 3, 1) := by decide +kernel
theorem dX12_isWord_60 : decode cX12_isWord 60 = .ok (.iadd, 1) := by decide +kernel
theorem dX12_isWord_61 : decode cX12_isWord 61 = .ok (.iaload, 1) := by decide +kernel
theorem dX12_isWord_62 : decode cX12_isWord 62 = .ok (.aload_n 1, 1) := by decide +kernel
theorem dX12_isWord_63 : decode cX12_isWord 63 = .ok (.iload_n 3, 1) := by decide +kernel
theorem dX12_isWord_64 : decode cX12_isWord 64 = .ok (.invokevirtual 172, 3) := by decide +kernel
theorem dX12_isWord_67 : decode cX12_isWord 67 = .ok (.if_icmp .ne 7, 3) := by decide +kernel
theorem dX12_isWord_70 : decode cX12_isWord 70 = .ok (.iconst 1, 1) := by decide +kernel
theorem dX12_isWord_71 : decode cX12_isWord 71 = .ok (.goto 4, 3) := by decide +kernel
theorem dX12_isWord_74 : decode cX12_isWord 74 = .ok (.iconst 0, 1) := by decide +kernel
theorem dX12_isWord_75 : decode cX12_isWord 75 = .ok (.istore_n 2, 1) := by decide +kernel
theorem dX12_isWord_76 : decode cX12_isWord 76 = .ok (.iinc 3 1, 3) := by decide +kernel
theorem dX12_isWord_79 : decode cX12_isWord 79 = .ok (.goto (-40), 3) := by decide +kernel
theorem dX12_isWord_82 : decode cX12_isWord 82 = .ok (.iload_n 2, 1) := by decide +kernel
theorem dX12_isWord_83 : decode cX12_isWord 83 = .ok (.ireturn, 1) := by decide +kernel
abbrev z_X12_isWord_174_s15 : Z9 := (some .boolean, 1, 0, 0, 8, 250)
def b_X12_isWord_174_s15_c39 (k_X12_isWord_174_s15_c39 : Int → Int → D9 → Option R9) (v2 v3 : Int) (d : D9) : Option R9 := if w32 v2 = 0 then rt (v2 % 2) d else if w32 4 ≤ w32 v3 then rt (v2 % 2) d else ld d 178 400 ((d 174 10) + v3) (fun t1 => sch 15 v3 (fun t2 => if w32 t1 ≠ w32 t2 then k_X12_isWord_174_s15_c39 0 (v3 + 1) d else k_X12_isWord_174_s15_c39 1 (v3 + 1) d))
def m_X12_isWord_174_s15_c39 : Int → Int → D9 → Option R9 := fix9 (fun _ _ _ => none) (fun k => b_X12_isWord_174_s15_c39 k) FU
def m_X12_isWord_174_s15 (d : D9) : Option R9 := if w32 (d 174 13) ≠ 0 then m_X12_isWord_174_s15_c39  0 0 d else if w32 (d 174 11) ≠ w32 1 then m_X12_isWord_174_s15_c39  0 0 d else if w32 ((d 174 9) - (d 174 10)) ≠ w32 4 then m_X12_isWord_174_s15_c39  0 0 d else m_X12_isWord_174_s15_c39  1 0 d
set_option maxRecDepth 100000 in
theorem sb_X12_isWord_174_s15_c39 {G : G9} {X : X9} (C : CX G X cX12_isWord 4 RX12 [] z_X12_isWord_174_s15) (k_X12_isWord_174_s15_c39 : Int → Int → D9 → Option R9) (hk_X12_isWord_174_s15_c39 : ∀ (v2 v3 : Int) (d : D9), SS G X 4 0 0 39 [(0, rf G 174), (1, sf G 15), (2, i9 v2), (3, i9 v3)] [] d (k_X12_isWord_174_s15_c39 v2 v3 d)) : ∀ (v2 v3 : Int) (d : D9), SS G X 4 0 0 39 [(0, rf G 174), (1, sf G 15), (2, i9 v2), (3, i9 v3)] [] d (b_X12_isWord_174_s15_c39 k_X12_isWord_174_s15_c39 v2 v3 d) := by
  intro v2 v3 d
  unfold b_X12_isWord_174_s15_c39
  refine r_iload_n C 2 dX12_isWord_39 rfl rfl ?_
  refine r_if_eq C (b := 0) 82 dX12_isWord_40 (by decide) (fun _ => ?_) (fun _ => ?_)
  · refine r_iload_n C 2 dX12_isWord_82 rfl rfl ?_
    exact r_zret C dX12_isWord_83 (by decide) (by decide)
  · refine r_iload_n C 3 dX12_isWord_43 rfl rfl ?_
    refine r_aload_nS C 1 dX12_isWord_44 rfl rfl ?_
    refine r_slen C 15 dX12_isWord_45 mw_X12_166 rfl (by decide) (Nat.le_of_ble_eq_true rfl) ?_
    refine r_icmp_ge C 82 dX12_isWord_48 (by decide) (fun _ => ?_) (fun _ => ?_)
    · refine r_iload_n C 2 dX12_isWord_82 rfl rfl ?_
      exact r_zret C dX12_isWord_83 (by decide) (by decide)
    · refine r_aload_n C 0 dX12_isWord_51 rfl rfl ?_
      refine r_getR C 178 dX12_isWord_52 fl_X12_20 la_174 ly_174 rfl rfl ?_
      refine r_aload_n C 0 dX12_isWord_55 rfl rfl ?_
      refine r_getI C dX12_isWord_56 fl_X12_142 la_174 ly_174 rfl ?_
      refine r_iload_n C 3 dX12_isWord_59 rfl rfl ?_
      refine r_iadd C dX12_isWord_60 ?_
      refine r_iald C dX12_isWord_61 la_178 ly_178 (fun t1 => ?_)
      refine r_aload_nS C 1 dX12_isWord_62 rfl rfl ?_
      refine r_iload_n C 3 dX12_isWord_63 rfl rfl ?_
      refine r_schar C 15 dX12_isWord_64 mw_X12_172 (by decide) (Nat.le_of_ble_eq_true rfl) (fun t2 => ?_)
      refine r_icmp_ne C 74 dX12_isWord_67 (by decide) (fun _ => ?_) (fun _ => ?_)
      · refine r_iconst C dX12_isWord_74 ?_
        refine r_istore_n C [(2, i9 0), (0, rf G 174), (1, sf G 15), (3, i9 v3)] dX12_isWord_75 rfl (by decide) rfl ?_
        refine r_iinc C 3 [(3, i9 (v3 + 1)), (2, i9 0), (0, rf G 174), (1, sf G 15)] dX12_isWord_76 rfl (by decide) rfl ?_
        refine r_goto C 39 dX12_isWord_79 (by decide) ?_
        refine ss_wide (k' := 0) (n' := 0) (by decide) (by decide) ?_
        refine ss_ls [(0, rf G 174), (1, sf G 15), (2, i9 0), (3, i9 (v3 + 1))] [2, 3, 1, 0] rfl ?_
        exact hk_X12_isWord_174_s15_c39 0 (v3 + 1) d
      · refine r_iconst C dX12_isWord_70 ?_
        refine r_goto C 75 dX12_isWord_71 (by decide) ?_
        refine r_istore_n C [(2, i9 1), (0, rf G 174), (1, sf G 15), (3, i9 v3)] dX12_isWord_75 rfl (by decide) rfl ?_
        refine r_iinc C 3 [(3, i9 (v3 + 1)), (2, i9 1), (0, rf G 174), (1, sf G 15)] dX12_isWord_76 rfl (by decide) rfl ?_
        refine r_goto C 39 dX12_isWord_79 (by decide) ?_
        refine ss_wide (k' := 0) (n' := 0) (by decide) (by decide) ?_
        refine ss_ls [(0, rf G 174), (1, sf G 15), (2, i9 1), (3, i9 (v3 + 1))] [2, 3, 1, 0] rfl ?_
        exact hk_X12_isWord_174_s15_c39 1 (v3 + 1) d
theorem s_X12_isWord_174_s15_c39 {G : G9} {X : X9} (C : CX G X cX12_isWord 4 RX12 [] z_X12_isWord_174_s15) : ∀ (v2 v3 : Int) (d : D9), SS G X 4 0 0 39 [(0, rf G 174), (1, sf G 15), (2, i9 v2), (3, i9 v3)] [] d (m_X12_isWord_174_s15_c39  v2 v3 d) :=
  fix9_ind (P := fun k => ∀ (v2 v3 : Int) (d : D9), SS G X 4 0 0 39 [(0, rf G 174), (1, sf G 15), (2, i9 v2), (3, i9 v3)] [] d (k v2 v3 d)) (fun _ _ _ => ss_none) (fun k hk => sb_X12_isWord_174_s15_c39 C k hk) FU
set_option maxRecDepth 100000 in
theorem t_X12_isWord_174_s15 {G : G9} {l : Launch} (h1 : va_D (A9 G) (wl G (fun _ _ => 0))) (h2 : l.stackTraces = false) (d : D9) : MT G l yX12_isWord cX12_isWord 4 z_X12_isWord_174_s15 [rf G 174, sf G 15] d (m_X12_isWord_174_s15  d) := by
  refine mt_of (own := RX12) (by decide) rfl (Nat.le_of_ble_eq_true rfl) h1 h2 [(0, rf G 174), (1, sf G 15)] rfl (fun X hX C => ?_)
  unfold m_X12_isWord_174_s15
  refine r_aload_n C 0 dX12_isWord_0 rfl rfl ?_
  refine r_getI C dX12_isWord_1 fl_X12_160 la_174 ly_174 rfl ?_
  refine r_if_ne C (b := 0) 35 dX12_isWord_4 (by decide) (fun _ => ?_) (fun _ => ?_)
  · refine r_iconst C dX12_isWord_35 ?_
    refine r_istore_n C [(2, i9 0), (0, rf G 174), (1, sf G 15)] dX12_isWord_36 rfl (by decide) rfl ?_
    refine r_iconst C dX12_isWord_37 ?_
    refine r_istore_n C [(3, i9 0), (2, i9 0), (0, rf G 174), (1, sf G 15)] dX12_isWord_38 rfl (by decide) rfl ?_
    refine ss_wide (k' := 0) (n' := 0) (by decide) (by decide) ?_
    refine ss_ls [(0, rf G 174), (1, sf G 15), (2, i9 0), (3, i9 0)] [2, 3, 1, 0] rfl ?_
    exact s_X12_isWord_174_s15_c39 C  0 0 d
  · refine r_aload_n C 0 dX12_isWord_7 rfl rfl ?_
    refine r_getI C dX12_isWord_8 fl_X12_145 la_174 ly_174 rfl ?_
    refine r_iconst C dX12_isWord_11 ?_
    refine r_icmp_ne C 35 dX12_isWord_12 (by decide) (fun _ => ?_) (fun _ => ?_)
    · refine r_iconst C dX12_isWord_35 ?_
      refine r_istore_n C [(2, i9 0), (0, rf G 174), (1, sf G 15)] dX12_isWord_36 rfl (by decide) rfl ?_
      refine r_iconst C dX12_isWord_37 ?_
      refine r_istore_n C [(3, i9 0), (2, i9 0), (0, rf G 174), (1, sf G 15)] dX12_isWord_38 rfl (by decide) rfl ?_
      refine ss_wide (k' := 0) (n' := 0) (by decide) (by decide) ?_
      refine ss_ls [(0, rf G 174), (1, sf G 15), (2, i9 0), (3, i9 0)] [2, 3, 1, 0] rfl ?_
      exact s_X12_isWord_174_s15_c39 C  0 0 d
    · refine r_aload_n C 0 dX12_isWord_15 rfl rfl ?_
      refine r_getI C dX12_isWord_16 fl_X12_139 la_174 ly_174 rfl ?_
      refine r_aload_n C 0 dX12_isWord_19 rfl rfl ?_
      refine r_getI C dX12_isWord_20 fl_X12_142 la_174 ly_174 rfl ?_
      refine r_isub C dX12_isWord_23 ?_
      refine r_aload_nS C 1 dX12_isWord_24 rfl rfl ?_
      refine r_slen C 15 dX12_isWord_25 mw_X12_166 rfl (by decide) (Nat.le_of_ble_eq_true rfl) ?_
      refine r_icmp_ne C 35 dX12_isWord_28 (by decide) (fun _ => ?_) (fun _ => ?_)
      · refine r_iconst C dX12_isWord_35 ?_
        refine r_istore_n C [(2, i9 0), (0, rf G 174), (1, sf G 15)] dX12_isWord_36 rfl (by decide) rfl ?_
        refine r_iconst C dX12_isWord_37 ?_
        refine r_istore_n C [(3, i9 0), (2, i9 0), (0, rf G 174), (1, sf G 15)] dX12_isWord_38 rfl (by decide) rfl ?_
        refine ss_wide (k' := 0) (n' := 0) (by decide) (by decide) ?_
        refine ss_ls [(0, rf G 174), (1, sf G 15), (2, i9 0), (3, i9 0)] [2, 3, 1, 0] rfl ?_
        exact s_X12_isWord_174_s15_c39 C  0 0 d
      · refine r_iconst C dX12_isWord_31 ?_
        refine r_goto C 36 dX12_isWord_32 (by decide) ?_
        refine r_istore_n C [(2, i9 1), (0, rf G 174), (1, sf G 15)] dX12_isWord_36 rfl (by decide) rfl ?_
        refine r_iconst C dX12_isWord_37 ?_
        refine r_istore_n C [(3, i9 0), (2, i9 1), (0, rf G 174), (1, sf G 15)] dX12_isWord_38 rfl (by decide) rfl ?_
        refine ss_wide (k' := 0) (n' := 0) (by decide) (by decide) ?_
        refine ss_ls [(0, rf G 174), (1, sf G 15), (2, i9 1), (3, i9 0)] [2, 3, 1, 0] rfl ?_
        exact s_X12_isWord_174_s15_c39 C  1 0 d
abbrev z_X12_isWord_174_s16 : Z9 := (some .boolean, 1, 0, 0, 8, 250)
def b_X12_isWord_174_s16_c39 (k_X12_isWord_174_s16_c39 : Int → Int → D9 → Option R9) (v2 v3 : Int) (d : D9) : Option R9 := if w32 v2 = 0 then rt (v2 % 2) d else if w32 4 ≤ w32 v3 then rt (v2 % 2) d else ld d 178 400 ((d 174 10) + v3) (fun t1 => sch 16 v3 (fun t2 => if w32 t1 ≠ w32 t2 then k_X12_isWord_174_s16_c39 0 (v3 + 1) d else k_X12_isWord_174_s16_c39 1 (v3 + 1) d))
def m_X12_isWord_174_s16_c39 : Int → Int → D9 → Option R9 := fix9 (fun _ _ _ => none) (fun k => b_X12_isWord_174_s16_c39 k) FU
def m_X12_isWord_174_s16 (d : D9) : Option R9 := if w32 (d 174 13) ≠ 0 then m_X12_isWord_174_s16_c39  0 0 d else if w32 (d 174 11) ≠ w32 1 then m_X12_isWord_174_s16_c39  0 0 d else if w32 ((d 174 9) - (d 174 10)) ≠ w32 4 then m_X12_isWord_174_s16_c39  0 0 d else m_X12_isWord_174_s16_c39  1 0 d
set_option maxRecDepth 100000 in
theorem sb_X12_isWord_174_s16_c39 {G : G9} {X : X9} (C : CX G X cX12_isWord 4 RX12 [] z_X12_isWord_174_s16) (k_X12_isWord_174_s16_c39 : Int → Int → D9 → Option R9) (hk_X12_isWord_174_s16_c39 : ∀ (v2 v3 : Int) (d : D9), SS G X 4 0 0 39 [(0, rf G 174), (1, sf G 16), (2, i9 v2), (3, i9 v3)] [] d (k_X12_isWord_174_s16_c39 v2 v3 d)) : ∀ (v2 v3 : Int) (d : D9), SS G X 4 0 0 39 [(0, rf G 174), (1, sf G 16), (2, i9 v2), (3, i9 v3)] [] d (b_X12_isWord_174_s16_c39 k_X12_isWord_174_s16_c39 v2 v3 d) := by
  intro v2 v3 d
  unfold b_X12_isWord_174_s16_c39
  refine r_iload_n C 2 dX12_isWord_39 rfl rfl ?_
  refine r_if_eq C (b := 0) 82 dX12_isWord_40 (by decide) (fun _ => ?_) (fun _ => ?_)
  · refine r_iload_n C 2 dX12_isWord_82 rfl rfl ?_
    exact r_zret C dX12_isWord_83 (by decide) (by decide)
  · refine r_iload_n C 3 dX12_isWord_43 rfl rfl ?_
    refine r_aload_nS C 1 dX12_isWord_44 rfl rfl ?_
    refine r_slen C 16 dX12_isWord_45 mw_X12_166 rfl (by decide) (Nat.le_of_ble_eq_true rfl) ?_
    refine r_icmp_ge C 82 dX12_isWord_48 (by decide) (fun _ => ?_) (fun _ => ?_)
    · refine r_iload_n C 2 dX12_isWord_82 rfl rfl ?_
      exact r_zret C dX12_isWord_83 (by decide) (by decide)
    · refine r_aload_n C 0 dX12_isWord_51 rfl rfl ?_
      refine r_getR C 178 dX12_isWord_52 fl_X12_20 la_174 ly_174 rfl rfl ?_
      refine r_aload_n C 0 dX12_isWord_55 rfl rfl ?_
      refine r_getI C dX12_isWord_56 fl_X12_142 la_174 ly_174 rfl ?_
      refine r_iload_n C 3 dX12_isWord_59 rfl rfl ?_
      refine r_iadd C dX12_isWord_60 ?_
      refine r_iald C dX12_isWord_61 la_178 ly_178 (fun t1 => ?_)
      refine r_aload_nS C 1 dX12_isWord_62 rfl rfl ?_
      refine r_iload_n C 3 dX12_isWord_63 rfl rfl ?_
      refine r_schar C 16 dX12_isWord_64 mw_X12_172 (by decide) (Nat.le_of_ble_eq_true rfl) (fun t2 => ?_)
      refine r_icmp_ne C 74 dX12_isWord_67 (by decide) (fun _ => ?_) (fun _ => ?_)
      · refine r_iconst C dX12_isWord_74 ?_
        refine r_istore_n C [(2, i9 0), (0, rf G 174), (1, sf G 16), (3, i9 v3)] dX12_isWord_75 rfl (by decide) rfl ?_
        refine r_iinc C 3 [(3, i9 (v3 + 1)), (2, i9 0), (0, rf G 174), (1, sf G 16)] dX12_isWord_76 rfl (by decide) rfl ?_
        refine r_goto C 39 dX12_isWord_79 (by decide) ?_
        refine ss_wide (k' := 0) (n' := 0) (by decide) (by decide) ?_
        refine ss_ls [(0, rf G 174), (1, sf G 16), (2, i9 0), (3, i9 (v3 + 1))] [2, 3, 1, 0] rfl ?_
        exact hk_X12_isWord_174_s16_c39 0 (v3 + 1) d
      · refine r_iconst C dX12_isWord_70 ?_
        refine r_goto C 75 dX12_isWord_71 (by decide) ?_
        refine r_istore_n C [(2, i9 1), (0, rf G 174), (1, sf G 16), (3, i9 v3)] dX12_isWord_75 rfl (by decide) rfl ?_
        refine r_iinc C 3 [(3, i9 (v3 + 1)), (2, i9 1), (0, rf G 174), (1, sf G 16)] dX12_isWord_76 rfl (by decide) rfl ?_
        refine r_goto C 39 dX12_isWord_79 (by decide) ?_
        refine ss_wide (k' := 0) (n' := 0) (by decide) (by decide) ?_
        refine ss_ls [(0, rf G 174), (1, sf G 16), (2, i9 1), (3, i9 (v3 + 1))] [2, 3, 1, 0] rfl ?_
        exact hk_X12_isWord_174_s16_c39 1 (v3 + 1) d
theorem s_X12_isWord_174_s16_c39 {G : G9} {X : X9} (C : CX G X cX12_isWord 4 RX12 [] z_X12_isWord_174_s16) : ∀ (v2 v3 : Int) (d : D9), SS G X 4 0 0 39 [(0, rf G 174), (1, sf G 16), (2, i9 v2), (3, i9 v3)] [] d (m_X12_isWord_174_s16_c39  v2 v3 d) :=
  fix9_ind (P := fun k => ∀ (v2 v3 : Int) (d : D9), SS G X 4 0 0 39 [(0, rf G 174), (1, sf G 16), (2, i9 v2), (3, i9 v3)] [] d (k v2 v3 d)) (fun _ _ _ => ss_none) (fun k hk => sb_X12_isWord_174_s16_c39 C k hk) FU
set_option maxRecDepth 100000 in
theorem t_X12_isWord_174_s16 {G : G9} {l : Launch} (h1 : va_D (A9 G) (wl G (fun _ _ => 0))) (h2 : l.stackTraces = false) (d : D9) : MT G l yX12_isWord cX12_isWord 4 z_X12_isWord_174_s16 [rf G 174, sf G 16] d (m_X12_isWord_174_s16  d) := by
  refine mt_of (own := RX12) (by decide) rfl (Nat.le_of_ble_eq_true rfl) h1 h2 [(0, rf G 174), (1, sf G 16)] rfl (fun X hX C => ?_)
  unfold m_X12_isWord_174_s16
  refine r_aload_n C 0 dX12_isWord_0 rfl rfl ?_
  refine r_getI C dX12_isWord_1 fl_X12_160 la_174 ly_174 rfl ?_
  refine r_if_ne C (b := 0) 35 dX12_isWord_4 (by decide) (fun _ => ?_) (fun _ => ?_)
  · refine r_iconst C dX12_isWord_35 ?_
    refine r_istore_n C [(2, i9 0), (0, rf G 174), (1, sf G 16)] dX12_isWord_36 rfl (by decide) rfl ?_
    refine r_iconst C dX12_isWord_37 ?_
    refine r_istore_n C [(3, i9 0), (2, i9 0), (0, rf G 174), (1, sf G 16)] dX12_isWord_38 rfl (by decide) rfl ?_
    refine ss_wide (k' := 0) (n' := 0) (by decide) (by decide) ?_
    refine ss_ls [(0, rf G 174), (1, sf G 16), (2, i9 0), (3, i9 0)] [2, 3, 1, 0] rfl ?_
    exact s_X12_isWord_174_s16_c39 C  0 0 d
  · refine r_aload_n C 0 dX12_isWord_7 rfl rfl ?_
    refine r_getI C dX12_isWord_8 fl_X12_145 la_174 ly_174 rfl ?_
    refine r_iconst C dX12_isWord_11 ?_
    refine r_icmp_ne C 35 dX12_isWord_12 (by decide) (fun _ => ?_) (fun _ => ?_)
    · refine r_iconst C dX12_isWord_35 ?_
      refine r_istore_n C [(2, i9 0), (0, rf G 174), (1, sf G 16)] dX12_isWord_36 rfl (by decide) rfl ?_
      refine r_iconst C dX12_isWord_37 ?_
      refine r_istore_n C [(3, i9 0), (2, i9 0), (0, rf G 174), (1, sf G 16)] dX12_isWord_38 rfl (by decide) rfl ?_
      refine ss_wide (k' := 0) (n' := 0) (by decide) (by decide) ?_
      refine ss_ls [(0, rf G 174), (1, sf G 16), (2, i9 0), (3, i9 0)] [2, 3, 1, 0] rfl ?_
      exact s_X12_isWord_174_s16_c39 C  0 0 d
    · refine r_aload_n C 0 dX12_isWord_15 rfl rfl ?_
      refine r_getI C dX12_isWord_16 fl_X12_139 la_174 ly_174 rfl ?_
      refine r_aload_n C 0 dX12_isWord_19 rfl rfl ?_
      refine r_getI C dX12_isWord_20 fl_X12_142 la_174 ly_174 rfl ?_
      refine r_isub C dX12_isWord_23 ?_
      refine r_aload_nS C 1 dX12_isWord_24 rfl rfl ?_
      refine r_slen C 16 dX12_isWord_25 mw_X12_166 rfl (by decide) (Nat.le_of_ble_eq_true rfl) ?_
      refine r_icmp_ne C 35 dX12_isWord_28 (by decide) (fun _ => ?_) (fun _ => ?_)
      · refine r_iconst C dX12_isWord_35 ?_
        refine r_istore_n C [(2, i9 0), (0, rf G 174), (1, sf G 16)] dX12_isWord_36 rfl (by decide) rfl ?_
        refine r_iconst C dX12_isWord_37 ?_
        refine r_istore_n C [(3, i9 0), (2, i9 0), (0, rf G 174), (1, sf G 16)] dX12_isWord_38 rfl (by decide) rfl ?_
        refine ss_wide (k' := 0) (n' := 0) (by decide) (by decide) ?_
        refine ss_ls [(0, rf G 174), (1, sf G 16), (2, i9 0), (3, i9 0)] [2, 3, 1, 0] rfl ?_
        exact s_X12_isWord_174_s16_c39 C  0 0 d
      · refine r_iconst C dX12_isWord_31 ?_
        refine r_goto C 36 dX12_isWord_32 (by decide) ?_
        refine r_istore_n C [(2, i9 1), (0, rf G 174), (1, sf G 16)] dX12_isWord_36 rfl (by decide) rfl ?_
        refine r_iconst C dX12_isWord_37 ?_
        refine r_istore_n C [(3, i9 0), (2, i9 1), (0, rf G 174), (1, sf G 16)] dX12_isWord_38 rfl (by decide) rfl ?_
        refine ss_wide (k' := 0) (n' := 0) (by decide) (by decide) ?_
        refine ss_ls [(0, rf G 174), (1, sf G 16), (2, i9 1), (3, i9 0)] [2, 3, 1, 0] rfl ?_
        exact s_X12_isWord_174_s16_c39 C  1 0 d
abbrev z_X12_isWord_174_s17 : Z9 := (some .boolean, 1, 0, 0, 8, 250)
def b_X12_isWord_174_s17_c39 (k_X12_isWord_174_s17_c39 : Int → Int → D9 → Option R9) (v2 v3 : Int) (d : D9) : Option R9 := if w32 v2 = 0 then rt (v2 % 2) d else if w32 4 ≤ w32 v3 then rt (v2 % 2) d else ld d 178 400 ((d 174 10) + v3) (fun t1 => sch 17 v3 (fun t2 => if w32 t1 ≠ w32 t2 then k_X12_isWord_174_s17_c39 0 (v3 + 1) d else k_X12_isWord_174_s17_c39 1 (v3 + 1) d))
def m_X12_isWord_174_s17_c39 : Int → Int → D9 → Option R9 := fix9 (fun _ _ _ => none) (fun k => b_X12_isWord_174_s17_c39 k) FU
def m_X12_isWord_174_s17 (d : D9) : Option R9 := if w32 (d 174 13) ≠ 0 then m_X12_isWord_174_s17_c39  0 0 d else if w32 (d 174 11) ≠ w32 1 then m_X12_isWord_174_s17_c39  0 0 d else if w32 ((d 174 9) - (d 174 10)) ≠ w32 4 then m_X12_isWord_174_s17_c39  0 0 d else m_X12_isWord_174_s17_c39  1 0 d
set_option maxRecDepth 100000 in
theorem sb_X12_isWord_174_s17_c39 {G : G9} {X : X9} (C : CX G X cX12_isWord 4 RX12 [] z_X12_isWord_174_s17) (k_X12_isWord_174_s17_c39 : Int → Int → D9 → Option R9) (hk_X12_isWord_174_s17_c39 : ∀ (v2 v3 : Int) (d : D9), SS G X 4 0 0 39 [(0, rf G 174), (1, sf G 17), (2, i9 v2), (3, i9 v3)] [] d (k_X12_isWord_174_s17_c39 v2 v3 d)) : ∀ (v2 v3 : Int) (d : D9), SS G X 4 0 0 39 [(0, rf G 174), (1, sf G 17), (2, i9 v2), (3, i9 v3)] [] d (b_X12_isWord_174_s17_c39 k_X12_isWord_174_s17_c39 v2 v3 d) := by
  intro v2 v3 d
  unfold b_X12_isWord_174_s17_c39
  refine r_iload_n C 2 dX12_isWord_39 rfl rfl ?_
  refine r_if_eq C (b := 0) 82 dX12_isWord_40 (by decide) (fun _ => ?_) (fun _ => ?_)
  · refine r_iload_n C 2 dX12_isWord_82 rfl rfl ?_
    exact r_zret C dX12_isWord_83 (by decide) (by decide)
  · refine r_iload_n C 3 dX12_isWord_43 rfl rfl ?_
    refine r_aload_nS C 1 dX12_isWord_44 rfl rfl ?_
    refine r_slen C 17 dX12_isWord_45 mw_X12_166 rfl (by decide) (Nat.le_of_ble_eq_true rfl) ?_
    refine r_icmp_ge C 82 dX12_isWord_48 (by decide) (fun _ => ?_) (fun _ => ?_)
    · refine r_iload_n C 2 dX12_isWord_82 rfl rfl ?_
      exact r_zret C dX12_isWord_83 (by decide) (by decide)
    · refine r_aload_n C 0 dX12_isWord_51 rfl rfl ?_
      refine r_getR C 178 dX12_isWord_52 fl_X12_20 la_174 ly_174 rfl rfl ?_
      refine r_aload_n C 0 dX12_isWord_55 rfl rfl ?_
      refine r_getI C dX12_isWord_56 fl_X12_142 la_174 ly_174 rfl ?_
      refine r_iload_n C 3 dX12_isWord_59 rfl rfl ?_
      refine r_iadd C dX12_isWord_60 ?_
      refine r_iald C dX12_isWord_61 la_178 ly_178 (fun t1 => ?_)
      refine r_aload_nS C 1 dX12_isWord_62 rfl rfl ?_
      refine r_iload_n C 3 dX12_isWord_63 rfl rfl ?_
      refine r_schar C 17 dX12_isWord_64 mw_X12_172 (by decide) (Nat.le_of_ble_eq_true rfl) (fun t2 => ?_)
      refine r_icmp_ne C 74 dX12_isWord_67 (by decide) (fun _ => ?_) (fun _ => ?_)
      · refine r_iconst C dX12_isWord_74 ?_
        refine r_istore_n C [(2, i9 0), (0, rf G 174), (1, sf G 17), (3, i9 v3)] dX12_isWord_75 rfl (by decide) rfl ?_
        refine r_iinc C 3 [(3, i9 (v3 + 1)), (2, i9 0), (0, rf G 174), (1, sf G 17)] dX12_isWord_76 rfl (by decide) rfl ?_
        refine r_goto C 39 dX12_isWord_79 (by decide) ?_
        refine ss_wide (k' := 0) (n' := 0) (by decide) (by decide) ?_
        refine ss_ls [(0, rf G 174), (1, sf G 17), (2, i9 0), (3, i9 (v3 + 1))] [2, 3, 1, 0] rfl ?_
        exact hk_X12_isWord_174_s17_c39 0 (v3 + 1) d
      · refine r_iconst C dX12_isWord_70 ?_
        refine r_goto C 75 dX12_isWord_71 (by decide) ?_
        refine r_istore_n C [(2, i9 1), (0, rf G 174), (1, sf G 17), (3, i9 v3)] dX12_isWord_75 rfl (by decide) rfl ?_
        refine r_iinc C 3 [(3, i9 (v3 + 1)), (2, i9 1), (0, rf G 174), (1, sf G 17)] dX12_isWord_76 rfl (by decide) rfl ?_
        refine r_goto C 39 dX12_isWord_79 (by decide) ?_
        refine ss_wide (k' := 0) (n' := 0) (by decide) (by decide) ?_
        refine ss_ls [(0, rf G 174), (1, sf G 17), (2, i9 1), (3, i9 (v3 + 1))] [2, 3, 1, 0] rfl ?_
        exact hk_X12_isWord_174_s17_c39 1 (v3 + 1) d
theorem s_X12_isWord_174_s17_c39 {G : G9} {X : X9} (C : CX G X cX12_isWord 4 RX12 [] z_X12_isWord_174_s17) : ∀ (v2 v3 : Int) (d : D9), SS G X 4 0 0 39 [(0, rf G 174), (1, sf G 17), (2, i9 v2), (3, i9 v3)] [] d (m_X12_isWord_174_s17_c39  v2 v3 d) :=
  fix9_ind (P := fun k => ∀ (v2 v3 : Int) (d : D9), SS G X 4 0 0 39 [(0, rf G 174), (1, sf G 17), (2, i9 v2), (3, i9 v3)] [] d (k v2 v3 d)) (fun _ _ _ => ss_none) (fun k hk => sb_X12_isWord_174_s17_c39 C k hk) FU
set_option maxRecDepth 100000 in
theorem t_X12_isWord_174_s17 {G : G9} {l : Launch} (h1 : va_D (A9 G) (wl G (fun _ _ => 0))) (h2 : l.stackTraces = false) (d : D9) : MT G l yX12_isWord cX12_isWord 4 z_X12_isWord_174_s17 [rf G 174, sf G 17] d (m_X12_isWord_174_s17  d) := by
  refine mt_of (own := RX12) (by decide) rfl (Nat.le_of_ble_eq_true rfl) h1 h2 [(0, rf G 174), (1, sf G 17)] rfl (fun X hX C => ?_)
  unfold m_X12_isWord_174_s17
  refine r_aload_n C 0 dX12_isWord_0 rfl rfl ?_
  refine r_getI C dX12_isWord_1 fl_X12_160 la_174 ly_174 rfl ?_
  refine r_if_ne C (b := 0) 35 dX12_isWord_4 (by decide) (fun _ => ?_) (fun _ => ?_)
  · refine r_iconst C dX12_isWord_35 ?_
    refine r_istore_n C [(2, i9 0), (0, rf G 174), (1, sf G 17)] dX12_isWord_36 rfl (by decide) rfl ?_
    refine r_iconst C dX12_isWord_37 ?_
    refine r_istore_n C [(3, i9 0), (2, i9 0), (0, rf G 174), (1, sf G 17)] dX12_isWord_38 rfl (by decide) rfl ?_
    refine ss_wide (k' := 0) (n' := 0) (by decide) (by decide) ?_
    refine ss_ls [(0, rf G 174), (1, sf G 17), (2, i9 0), (3, i9 0)] [2, 3, 1, 0] rfl ?_
    exact s_X12_isWord_174_s17_c39 C  0 0 d
  · refine r_aload_n C 0 dX12_isWord_7 rfl rfl ?_
    refine r_getI C dX12_isWord_8 fl_X12_145 la_174 ly_174 rfl ?_
    refine r_iconst C dX12_isWord_11 ?_
    refine r_icmp_ne C 35 dX12_isWord_12 (by decide) (fun _ => ?_) (fun _ => ?_)
    · refine r_iconst C dX12_isWord_35 ?_
      refine r_istore_n C [(2, i9 0), (0, rf G 174), (1, sf G 17)] dX12_isWord_36 rfl (by decide) rfl ?_
      refine r_iconst C dX12_isWord_37 ?_
      refine r_istore_n C [(3, i9 0), (2, i9 0), (0, rf G 174), (1, sf G 17)] dX12_isWord_38 rfl (by decide) rfl ?_
      refine ss_wide (k' := 0) (n' := 0) (by decide) (by decide) ?_
      refine ss_ls [(0, rf G 174), (1, sf G 17), (2, i9 0), (3, i9 0)] [2, 3, 1, 0] rfl ?_
      exact s_X12_isWord_174_s17_c39 C  0 0 d
    · refine r_aload_n C 0 dX12_isWord_15 rfl rfl ?_
      refine r_getI C dX12_isWord_16 fl_X12_139 la_174 ly_174 rfl ?_
      refine r_aload_n C 0 dX12_isWord_19 rfl rfl ?_
      refine r_getI C dX12_isWord_20 fl_X12_142 la_174 ly_174 rfl ?_
      refine r_isub C dX12_isWord_23 ?_
      refine r_aload_nS C 1 dX12_isWord_24 rfl rfl ?_
      refine r_slen C 17 dX12_isWord_25 mw_X12_166 rfl (by decide) (Nat.le_of_ble_eq_true rfl) ?_
      refine r_icmp_ne C 35 dX12_isWord_28 (by decide) (fun _ => ?_) (fun _ => ?_)
      · refine r_iconst C dX12_isWord_35 ?_
        refine r_istore_n C [(2, i9 0), (0, rf G 174), (1, sf G 17)] dX12_isWord_36 rfl (by decide) rfl ?_
        refine r_iconst C dX12_isWord_37 ?_
        refine r_istore_n C [(3, i9 0), (2, i9 0), (0, rf G 174), (1, sf G 17)] dX12_isWord_38 rfl (by decide) rfl ?_
        refine ss_wide (k' := 0) (n' := 0) (by decide) (by decide) ?_
        refine ss_ls [(0, rf G 174), (1, sf G 17), (2, i9 0), (3, i9 0)] [2, 3, 1, 0] rfl ?_
        exact s_X12_isWord_174_s17_c39 C  0 0 d
      · refine r_iconst C dX12_isWord_31 ?_
        refine r_goto C 36 dX12_isWord_32 (by decide) ?_
        refine r_istore_n C [(2, i9 1), (0, rf G 174), (1, sf G 17)] dX12_isWord_36 rfl (by decide) rfl ?_
        refine r_iconst C dX12_isWord_37 ?_
        refine r_istore_n C [(3, i9 0), (2, i9 1), (0, rf G 174), (1, sf G 17)] dX12_isWord_38 rfl (by decide) rfl ?_
        refine ss_wide (k' := 0) (n' := 0) (by decide) (by decide) ?_
        refine ss_ls [(0, rf G 174), (1, sf G 17), (2, i9 1), (3, i9 0)] [2, 3, 1, 0] rfl ?_
        exact s_X12_isWord_174_s17_c39 C  1 0 d
abbrev z_X12_isWord_174_s18 : Z9 := (some .boolean, 1, 0, 0, 8, 250)
def b_X12_isWord_174_s18_c39 (k_X12_isWord_174_s18_c39 : Int → Int → D9 → Option R9) (v2 v3 : Int) (d : D9) : Option R9 := if w32 v2 = 0 then rt (v2 % 2) d else if w32 3 ≤ w32 v3 then rt (v2 % 2) d else ld d 178 400 ((d 174 10) + v3) (fun t1 => sch 18 v3 (fun t2 => if w32 t1 ≠ w32 t2 then k_X12_isWord_174_s18_c39 0 (v3 + 1) d else k_X12_isWord_174_s18_c39 1 (v3 + 1) d))
def m_X12_isWord_174_s18_c39 : Int → Int → D9 → Option R9 := fix9 (fun _ _ _ => none) (fun k => b_X12_isWord_174_s18_c39 k) FU
def m_X12_isWord_174_s18 (d : D9) : Option R9 := if w32 (d 174 13) ≠ 0 then m_X12_isWord_174_s18_c39  0 0 d else if w32 (d 174 11) ≠ w32 1 then m_X12_isWord_174_s18_c39  0 0 d else if w32 ((d 174 9) - (d 174 10)) ≠ w32 3 then m_X12_isWord_174_s18_c39  0 0 d else m_X12_isWord_174_s18_c39  1 0 d
set_option maxRecDepth 100000 in
theorem sb_X12_isWord_174_s18_c39 {G : G9} {X : X9} (C : CX G X cX12_isWord 4 RX12 [] z_X12_isWord_174_s18) (k_X12_isWord_174_s18_c39 : Int → Int → D9 → Option R9) (hk_X12_isWord_174_s18_c39 : ∀ (v2 v3 : Int) (d : D9), SS G X 4 0 0 39 [(0, rf G 174), (1, sf G 18), (2, i9 v2), (3, i9 v3)] [] d (k_X12_isWord_174_s18_c39 v2 v3 d)) : ∀ (v2 v3 : Int) (d : D9), SS G X 4 0 0 39 [(0, rf G 174), (1, sf G 18), (2, i9 v2), (3, i9 v3)] [] d (b_X12_isWord_174_s18_c39 k_X12_isWord_174_s18_c39 v2 v3 d) := by
  intro v2 v3 d
  unfold b_X12_isWord_174_s18_c39
  refine r_iload_n C 2 dX12_isWord_39 rfl rfl ?_
  refine r_if_eq C (b := 0) 82 dX12_isWord_40 (by decide) (fun _ => ?_) (fun _ => ?_)
  · refine r_iload_n C 2 dX12_isWord_82 rfl rfl ?_
    exact r_zret C dX12_isWord_83 (by decide) (by decide)
  · refine r_iload_n C 3 dX12_isWord_43 rfl rfl ?_
    refine r_aload_nS C 1 dX12_isWord_44 rfl rfl ?_
    refine r_slen C 18 dX12_isWord_45 mw_X12_166 rfl (by decide) (Nat.le_of_ble_eq_true rfl) ?_
    refine r_icmp_ge C 82 dX12_isWord_48 (by decide) (fun _ => ?_) (fun _ => ?_)
    · refine r_iload_n C 2 dX12_isWord_82 rfl rfl ?_
      exact r_zret C dX12_isWord_83 (by decide) (by decide)
    · refine r_aload_n C 0 dX12_isWord_51 rfl rfl ?_
      refine r_getR C 178 dX12_isWord_52 fl_X12_20 la_174 ly_174 rfl rfl ?_
      refine r_aload_n C 0 dX12_isWord_55 rfl rfl ?_
      refine r_getI C dX12_isWord_56 fl_X12_142 la_174 ly_174 rfl ?_
      refine r_iload_n C 3 dX12_isWord_59 rfl rfl ?_
      refine r_iadd C dX12_isWord_60 ?_
      refine r_iald C dX12_isWord_61 la_178 ly_178 (fun t1 => ?_)
      refine r_aload_nS C 1 dX12_isWord_62 rfl rfl ?_
      refine r_iload_n C 3 dX12_isWord_63 rfl rfl ?_
      refine r_schar C 18 dX12_isWord_64 mw_X12_172 (by decide) (Nat.le_of_ble_eq_true rfl) (fun t2 => ?_)
      refine r_icmp_ne C 74 dX12_isWord_67 (by decide) (fun _ => ?_) (fun _ => ?_)
      · refine r_iconst C dX12_isWord_74 ?_
        refine r_istore_n C [(2, i9 0), (0, rf G 174), (1, sf G 18), (3, i9 v3)] dX12_isWord_75 rfl (by decide) rfl ?_
        refine r_iinc C 3 [(3, i9 (v3 + 1)), (2, i9 0), (0, rf G 174), (1, sf G 18)] dX12_isWord_76 rfl (by decide) rfl ?_
        refine r_goto C 39 dX12_isWord_79 (by decide) ?_
        refine ss_wide (k' := 0) (n' := 0) (by decide) (by decide) ?_
        refine ss_ls [(0, rf G 174), (1, sf G 18), (2, i9 0), (3, i9 (v3 + 1))] [2, 3, 1, 0] rfl ?_
        exact hk_X12_isWord_174_s18_c39 0 (v3 + 1) d
      · refine r_iconst C dX12_isWord_70 ?_
        refine r_goto C 75 dX12_isWord_71 (by decide) ?_
        refine r_istore_n C [(2, i9 1), (0, rf G 174), (1, sf G 18), (3, i9 v3)] dX12_isWord_75 rfl (by decide) rfl ?_
        refine r_iinc C 3 [(3, i9 (v3 + 1)), (2, i9 1), (0, rf G 174), (1, sf G 18)] dX12_isWord_76 rfl (by decide) rfl ?_
        refine r_goto C 39 dX12_isWord_79 (by decide) ?_
        refine ss_wide (k' := 0) (n' := 0) (by decide) (by decide) ?_
        refine ss_ls [(0, rf G 174), (1, sf G 18), (2, i9 1), (3, i9 (v3 + 1))] [2, 3, 1, 0] rfl ?_
        exact hk_X12_isWord_174_s18_c39 1 (v3 + 1) d
theorem s_X12_isWord_174_s18_c39 {G : G9} {X : X9} (C : CX G X cX12_isWord 4 RX12 [] z_X12_isWord_174_s18) : ∀ (v2 v3 : Int) (d : D9), SS G X 4 0 0 39 [(0, rf G 174), (1, sf G 18), (2, i9 v2), (3, i9 v3)] [] d (m_X12_isWord_174_s18_c39  v2 v3 d) :=
  fix9_ind (P := fun k => ∀ (v2 v3 : Int) (d : D9), SS G X 4 0 0 39 [(0, rf G 174), (1, sf G 18), (2, i9 v2), (3, i9 v3)] [] d (k v2 v3 d)) (fun _ _ _ => ss_none) (fun k hk => sb_X12_isWord_174_s18_c39 C k hk) FU
set_option maxRecDepth 100000 in
theorem t_X12_isWord_174_s18 {G : G9} {l : Launch} (h1 : va_D (A9 G) (wl G (fun _ _ => 0))) (h2 : l.stackTraces = false) (d : D9) : MT G l yX12_isWord cX12_isWord 4 z_X12_isWord_174_s18 [rf G 174, sf G 18] d (m_X12_isWord_174_s18  d) := by
  refine mt_of (own := RX12) (by decide) rfl (Nat.le_of_ble_eq_true rfl) h1 h2 [(0, rf G 174), (1, sf G 18)] rfl (fun X hX C => ?_)
  unfold m_X12_isWord_174_s18
  refine r_aload_n C 0 dX12_isWord_0 rfl rfl ?_
  refine r_getI C dX12_isWord_1 fl_X12_160 la_174 ly_174 rfl ?_
  refine r_if_ne C (b := 0) 35 dX12_isWord_4 (by decide) (fun _ => ?_) (fun _ => ?_)
  · refine r_iconst C dX12_isWord_35 ?_
    refine r_istore_n C [(2, i9 0), (0, rf G 174), (1, sf G 18)] dX12_isWord_36 rfl (by decide) rfl ?_
    refine r_iconst C dX12_isWord_37 ?_
    refine r_istore_n C [(3, i9 0), (2, i9 0), (0, rf G 174), (1, sf G 18)] dX12_isWord_38 rfl (by decide) rfl ?_
    refine ss_wide (k' := 0) (n' := 0) (by decide) (by decide) ?_
    refine ss_ls [(0, rf G 174), (1, sf G 18), (2, i9 0), (3, i9 0)] [2, 3, 1, 0] rfl ?_
    exact s_X12_isWord_174_s18_c39 C  0 0 d
  · refine r_aload_n C 0 dX12_isWord_7 rfl rfl ?_
    refine r_getI C dX12_isWord_8 fl_X12_145 la_174 ly_174 rfl ?_
    refine r_iconst C dX12_isWord_11 ?_
    refine r_icmp_ne C 35 dX12_isWord_12 (by decide) (fun _ => ?_) (fun _ => ?_)
    · refine r_iconst C dX12_isWord_35 ?_
      refine r_istore_n C [(2, i9 0), (0, rf G 174), (1, sf G 18)] dX12_isWord_36 rfl (by decide) rfl ?_
      refine r_iconst C dX12_isWord_37 ?_
      refine r_istore_n C [(3, i9 0), (2, i9 0), (0, rf G 174), (1, sf G 18)] dX12_isWord_38 rfl (by decide) rfl ?_
      refine ss_wide (k' := 0) (n' := 0) (by decide) (by decide) ?_
      refine ss_ls [(0, rf G 174), (1, sf G 18), (2, i9 0), (3, i9 0)] [2, 3, 1, 0] rfl ?_
      exact s_X12_isWord_174_s18_c39 C  0 0 d
    · refine r_aload_n C 0 dX12_isWord_15 rfl rfl ?_
      refine r_getI C dX12_isWord_16 fl_X12_139 la_174 ly_174 rfl ?_
      refine r_aload_n C 0 dX12_isWord_19 rfl rfl ?_
      refine r_getI C dX12_isWord_20 fl_X12_142 la_174 ly_174 rfl ?_
      refine r_isub C dX12_isWord_23 ?_
      refine r_aload_nS C 1 dX12_isWord_24 rfl rfl ?_
      refine r_slen C 18 dX12_isWord_25 mw_X12_166 rfl (by decide) (Nat.le_of_ble_eq_true rfl) ?_
      refine r_icmp_ne C 35 dX12_isWord_28 (by decide) (fun _ => ?_) (fun _ => ?_)
      · refine r_iconst C dX12_isWord_35 ?_
        refine r_istore_n C [(2, i9 0), (0, rf G 174), (1, sf G 18)] dX12_isWord_36 rfl (by decide) rfl ?_
        refine r_iconst C dX12_isWord_37 ?_
        refine r_istore_n C [(3, i9 0), (2, i9 0), (0, rf G 174), (1, sf G 18)] dX12_isWord_38 rfl (by decide) rfl ?_
        refine ss_wide (k' := 0) (n' := 0) (by decide) (by decide) ?_
        refine ss_ls [(0, rf G 174), (1, sf G 18), (2, i9 0), (3, i9 0)] [2, 3, 1, 0] rfl ?_
        exact s_X12_isWord_174_s18_c39 C  0 0 d
      · refine r_iconst C dX12_isWord_31 ?_
        refine r_goto C 36 dX12_isWord_32 (by decide) ?_
        refine r_istore_n C [(2, i9 1), (0, rf G 174), (1, sf G 18)] dX12_isWord_36 rfl (by decide) rfl ?_
        refine r_iconst C dX12_isWord_37 ?_
        refine r_istore_n C [(3, i9 0), (2, i9 1), (0, rf G 174), (1, sf G 18)] dX12_isWord_38 rfl (by decide) rfl ?_
        refine ss_wide (k' := 0) (n' := 0) (by decide) (by decide) ?_
        refine ss_ls [(0, rf G 174), (1, sf G 18), (2, i9 1), (3, i9 0)] [2, 3, 1, 0] rfl ?_
        exact s_X12_isWord_174_s18_c39 C  1 0 d
abbrev z_X12_isWord_174_s19 : Z9 := (some .boolean, 1, 0, 0, 8, 250)
def b_X12_isWord_174_s19_c39 (k_X12_isWord_174_s19_c39 : Int → Int → D9 → Option R9) (v2 v3 : Int) (d : D9) : Option R9 := if w32 v2 = 0 then rt (v2 % 2) d else if w32 4 ≤ w32 v3 then rt (v2 % 2) d else ld d 178 400 ((d 174 10) + v3) (fun t1 => sch 19 v3 (fun t2 => if w32 t1 ≠ w32 t2 then k_X12_isWord_174_s19_c39 0 (v3 + 1) d else k_X12_isWord_174_s19_c39 1 (v3 + 1) d))
def m_X12_isWord_174_s19_c39 : Int → Int → D9 → Option R9 := fix9 (fun _ _ _ => none) (fun k => b_X12_isWord_174_s19_c39 k) FU
def m_X12_isWord_174_s19 (d : D9) : Option R9 := if w32 (d 174 13) ≠ 0 then m_X12_isWord_174_s19_c39  0 0 d else if w32 (d 174 11) ≠ w32 1 then m_X12_isWord_174_s19_c39  0 0 d else if w32 ((d 174 9) - (d 174 10)) ≠ w32 4 then m_X12_isWord_174_s19_c39  0 0 d else m_X12_isWord_174_s19_c39  1 0 d
set_option maxRecDepth 100000 in
theorem sb_X12_isWord_174_s19_c39 {G : G9} {X : X9} (C : CX G X cX12_isWord 4 RX12 [] z_X12_isWord_174_s19) (k_X12_isWord_174_s19_c39 : Int → Int → D9 → Option R9) (hk_X12_isWord_174_s19_c39 : ∀ (v2 v3 : Int) (d : D9), SS G X 4 0 0 39 [(0, rf G 174), (1, sf G 19), (2, i9 v2), (3, i9 v3)] [] d (k_X12_isWord_174_s19_c39 v2 v3 d)) : ∀ (v2 v3 : Int) (d : D9), SS G X 4 0 0 39 [(0, rf G 174), (1, sf G 19), (2, i9 v2), (3, i9 v3)] [] d (b_X12_isWord_174_s19_c39 k_X12_isWord_174_s19_c39 v2 v3 d) := by
  intro v2 v3 d
  unfold b_X12_isWord_174_s19_c39
  refine r_iload_n C 2 dX12_isWord_39 rfl rfl ?_
  refine r_if_eq C (b := 0) 82 dX12_isWord_40 (by decide) (fun _ => ?_) (fun _ => ?_)
  · refine r_iload_n C 2 dX12_isWord_82 rfl rfl ?_
    exact r_zret C dX12_isWord_83 (by decide) (by decide)
  · refine r_iload_n C 3 dX12_isWord_43 rfl rfl ?_
    refine r_aload_nS C 1 dX12_isWord_44 rfl rfl ?_
    refine r_slen C 19 dX12_isWord_45 mw_X12_166 rfl (by decide) (Nat.le_of_ble_eq_true rfl) ?_
    refine r_icmp_ge C 82 dX12_isWord_48 (by decide) (fun _ => ?_) (fun _ => ?_)
    · refine r_iload_n C 2 dX12_isWord_82 rfl rfl ?_
      exact r_zret C dX12_isWord_83 (by decide) (by decide)
    · refine r_aload_n C 0 dX12_isWord_51 rfl rfl ?_
      refine r_getR C 178 dX12_isWord_52 fl_X12_20 la_174 ly_174 rfl rfl ?_
      refine r_aload_n C 0 dX12_isWord_55 rfl rfl ?_
      refine r_getI C dX12_isWord_56 fl_X12_142 la_174 ly_174 rfl ?_
      refine r_iload_n C 3 dX12_isWord_59 rfl rfl ?_
      refine r_iadd C dX12_isWord_60 ?_
      refine r_iald C dX12_isWord_61 la_178 ly_178 (fun t1 => ?_)
      refine r_aload_nS C 1 dX12_isWord_62 rfl rfl ?_
      refine r_iload_n C 3 dX12_isWord_63 rfl rfl ?_
      refine r_schar C 19 dX12_isWord_64 mw_X12_172 (by decide) (Nat.le_of_ble_eq_true rfl) (fun t2 => ?_)
      refine r_icmp_ne C 74 dX12_isWord_67 (by decide) (fun _ => ?_) (fun _ => ?_)
      · refine r_iconst C dX12_isWord_74 ?_
        refine r_istore_n C [(2, i9 0), (0, rf G 174), (1, sf G 19), (3, i9 v3)] dX12_isWord_75 rfl (by decide) rfl ?_
        refine r_iinc C 3 [(3, i9 (v3 + 1)), (2, i9 0), (0, rf G 174), (1, sf G 19)] dX12_isWord_76 rfl (by decide) rfl ?_
        refine r_goto C 39 dX12_isWord_79 (by decide) ?_
        refine ss_wide (k' := 0) (n' := 0) (by decide) (by decide) ?_
        refine ss_ls [(0, rf G 174), (1, sf G 19), (2, i9 0), (3, i9 (v3 + 1))] [2, 3, 1, 0] rfl ?_
        exact hk_X12_isWord_174_s19_c39 0 (v3 + 1) d
      · refine r_iconst C dX12_isWord_70 ?_
        refine r_goto C 75 dX12_isWord_71 (by decide) ?_
        refine r_istore_n C [(2, i9 1), (0, rf G 174), (1, sf G 19), (3, i9 v3)] dX12_isWord_75 rfl (by decide) rfl ?_
        refine r_iinc C 3 [(3, i9 (v3 + 1)), (2, i9 1), (0, rf G 174), (1, sf G 19)] dX12_isWord_76 rfl (by decide) rfl ?_
        refine r_goto C 39 dX12_isWord_79 (by decide) ?_
        refine ss_wide (k' := 0) (n' := 0) (by decide) (by decide) ?_
        refine ss_ls [(0, rf G 174), (1, sf G 19), (2, i9 1), (3, i9 (v3 + 1))] [2, 3, 1, 0] rfl ?_
        exact hk_X12_isWord_174_s19_c39 1 (v3 + 1) d
theorem s_X12_isWord_174_s19_c39 {G : G9} {X : X9} (C : CX G X cX12_isWord 4 RX12 [] z_X12_isWord_174_s19) : ∀ (v2 v3 : Int) (d : D9), SS G X 4 0 0 39 [(0, rf G 174), (1, sf G 19), (2, i9 v2), (3, i9 v3)] [] d (m_X12_isWord_174_s19_c39  v2 v3 d) :=
  fix9_ind (P := fun k => ∀ (v2 v3 : Int) (d : D9), SS G X 4 0 0 39 [(0, rf G 174), (1, sf G 19), (2, i9 v2), (3, i9 v3)] [] d (k v2 v3 d)) (fun _ _ _ => ss_none) (fun k hk => sb_X12_isWord_174_s19_c39 C k hk) FU
set_option maxRecDepth 100000 in
theorem t_X12_isWord_174_s19 {G : G9} {l : Launch} (h1 : va_D (A9 G) (wl G (fun _ _ => 0))) (h2 : l.stackTraces = false) (d : D9) : MT G l yX12_isWord cX12_isWord 4 z_X12_isWord_174_s19 [rf G 174, sf G 19] d (m_X12_isWord_174_s19  d) := by
  refine mt_of (own := RX12) (by decide) rfl (Nat.le_of_ble_eq_true rfl) h1 h2 [(0, rf G 174), (1, sf G 19)] rfl (fun X hX C => ?_)
  unfold m_X12_isWord_174_s19
  refine r_aload_n C 0 dX12_isWord_0 rfl rfl ?_
  refine r_getI C dX12_isWord_1 fl_X12_160 la_174 ly_174 rfl ?_
  refine r_if_ne C (b := 0) 35 dX12_isWord_4 (by decide) (fun _ => ?_) (fun _ => ?_)
  · refine r_iconst C dX12_isWord_35 ?_
    refine r_istore_n C [(2, i9 0), (0, rf G 174), (1, sf G 19)] dX12_isWord_36 rfl (by decide) rfl ?_
    refine r_iconst C dX12_isWord_37 ?_
    refine r_istore_n C [(3, i9 0), (2, i9 0), (0, rf G 174), (1, sf G 19)] dX12_isWord_38 rfl (by decide) rfl ?_
    refine ss_wide (k' := 0) (n' := 0) (by decide) (by decide) ?_
    refine ss_ls [(0, rf G 174), (1, sf G 19), (2, i9 0), (3, i9 0)] [2, 3, 1, 0] rfl ?_
    exact s_X12_isWord_174_s19_c39 C  0 0 d
  · refine r_aload_n C 0 dX12_isWord_7 rfl rfl ?_
    refine r_getI C dX12_isWord_8 fl_X12_145 la_174 ly_174 rfl ?_
    refine r_iconst C dX12_isWord_11 ?_
    refine r_icmp_ne C 35 dX12_isWord_12 (by decide) (fun _ => ?_) (fun _ => ?_)
    · refine r_iconst C dX12_isWord_35 ?_
      refine r_istore_n C [(2, i9 0), (0, rf G 174), (1, sf G 19)] dX12_isWord_36 rfl (by decide) rfl ?_
      refine r_iconst C dX12_isWord_37 ?_
      refine r_istore_n C [(3, i9 0), (2, i9 0), (0, rf G 174), (1, sf G 19)] dX12_isWord_38 rfl (by decide) rfl ?_
      refine ss_wide (k' := 0) (n' := 0) (by decide) (by decide) ?_
      refine ss_ls [(0, rf G 174), (1, sf G 19), (2, i9 0), (3, i9 0)] [2, 3, 1, 0] rfl ?_
      exact s_X12_isWord_174_s19_c39 C  0 0 d
    · refine r_aload_n C 0 dX12_isWord_15 rfl rfl ?_
      refine r_getI C dX12_isWord_16 fl_X12_139 la_174 ly_174 rfl ?_
      refine r_aload_n C 0 dX12_isWord_19 rfl rfl ?_
      refine r_getI C dX12_isWord_20 fl_X12_142 la_174 ly_174 rfl ?_
      refine r_isub C dX12_isWord_23 ?_
      refine r_aload_nS C 1 dX12_isWord_24 rfl rfl ?_
      refine r_slen C 19 dX12_isWord_25 mw_X12_166 rfl (by decide) (Nat.le_of_ble_eq_true rfl) ?_
      refine r_icmp_ne C 35 dX12_isWord_28 (by decide) (fun _ => ?_) (fun _ => ?_)
      · refine r_iconst C dX12_isWord_35 ?_
        refine r_istore_n C [(2, i9 0), (0, rf G 174), (1, sf G 19)] dX12_isWord_36 rfl (by decide) rfl ?_
        refine r_iconst C dX12_isWord_37 ?_
        refine r_istore_n C [(3, i9 0), (2, i9 0), (0, rf G 174), (1, sf G 19)] dX12_isWord_38 rfl (by decide) rfl ?_
        refine ss_wide (k' := 0) (n' := 0) (by decide) (by decide) ?_
        refine ss_ls [(0, rf G 174), (1, sf G 19), (2, i9 0), (3, i9 0)] [2, 3, 1, 0] rfl ?_
        exact s_X12_isWord_174_s19_c39 C  0 0 d
      · refine r_iconst C dX12_isWord_31 ?_
        refine r_goto C 36 dX12_isWord_32 (by decide) ?_
        refine r_istore_n C [(2, i9 1), (0, rf G 174), (1, sf G 19)] dX12_isWord_36 rfl (by decide) rfl ?_
        refine r_iconst C dX12_isWord_37 ?_
        refine r_istore_n C [(3, i9 0), (2, i9 1), (0, rf G 174), (1, sf G 19)] dX12_isWord_38 rfl (by decide) rfl ?_
        refine ss_wide (k' := 0) (n' := 0) (by decide) (by decide) ?_
        refine ss_ls [(0, rf G 174), (1, sf G 19), (2, i9 1), (3, i9 0)] [2, 3, 1, 0] rfl ?_
        exact s_X12_isWord_174_s19_c39 C  1 0 d
abbrev z_X12_isWord_174_s20 : Z9 := (some .boolean, 1, 0, 0, 8, 250)
def b_X12_isWord_174_s20_c39 (k_X12_isWord_174_s20_c39 : Int → Int → D9 → Option R9) (v2 v3 : Int) (d : D9) : Option R9 := if w32 v2 = 0 then rt (v2 % 2) d else if w32 4 ≤ w32 v3 then rt (v2 % 2) d else ld d 178 400 ((d 174 10) + v3) (fun t1 => sch 20 v3 (fun t2 => if w32 t1 ≠ w32 t2 then k_X12_isWord_174_s20_c39 0 (v3 + 1) d else k_X12_isWord_174_s20_c39 1 (v3 + 1) d))
def m_X12_isWord_174_s20_c39 : Int → Int → D9 → Option R9 := fix9 (fun _ _ _ => none) (fun k => b_X12_isWord_174_s20_c39 k) FU
def m_X12_isWord_174_s20 (d : D9) : Option R9 := if w32 (d 174 13) ≠ 0 then m_X12_isWord_174_s20_c39  0 0 d else if w32 (d 174 11) ≠ w32 1 then m_X12_isWord_174_s20_c39  0 0 d else if w32 ((d 174 9) - (d 174 10)) ≠ w32 4 then m_X12_isWord_174_s20_c39  0 0 d else m_X12_isWord_174_s20_c39  1 0 d
set_option maxRecDepth 100000 in
theorem sb_X12_isWord_174_s20_c39 {G : G9} {X : X9} (C : CX G X cX12_isWord 4 RX12 [] z_X12_isWord_174_s20) (k_X12_isWord_174_s20_c39 : Int → Int → D9 → Option R9) (hk_X12_isWord_174_s20_c39 : ∀ (v2 v3 : Int) (d : D9), SS G X 4 0 0 39 [(0, rf G 174), (1, sf G 20), (2, i9 v2), (3, i9 v3)] [] d (k_X12_isWord_174_s20_c39 v2 v3 d)) : ∀ (v2 v3 : Int) (d : D9), SS G X 4 0 0 39 [(0, rf G 174), (1, sf G 20), (2, i9 v2), (3, i9 v3)] [] d (b_X12_isWord_174_s20_c39 k_X12_isWord_174_s20_c39 v2 v3 d) := by
  intro v2 v3 d
  unfold b_X12_isWord_174_s20_c39
  refine r_iload_n C 2 dX12_isWord_39 rfl rfl ?_
  refine r_if_eq C (b := 0) 82 dX12_isWord_40 (by decide) (fun _ => ?_) (fun _ => ?_)
  · refine r_iload_n C 2 dX12_isWord_82 rfl rfl ?_
    exact r_zret C dX12_isWord_83 (by decide) (by decide)
  · refine r_iload_n C 3 dX12_isWord_43 rfl rfl ?_
    refine r_aload_nS C 1 dX12_isWord_44 rfl rfl ?_
    refine r_slen C 20 dX12_isWord_45 mw_X12_166 rfl (by decide) (Nat.le_of_ble_eq_true rfl) ?_
    refine r_icmp_ge C 82 dX12_isWord_48 (by decide) (fun _ => ?_) (fun _ => ?_)
    · refine r_iload_n C 2 dX12_isWord_82 rfl rfl ?_
      exact r_zret C dX12_isWord_83 (by decide) (by decide)
    · refine r_aload_n C 0 dX12_isWord_51 rfl rfl ?_
      refine r_getR C 178 dX12_isWord_52 fl_X12_20 la_174 ly_174 rfl rfl ?_
      refine r_aload_n C 0 dX12_isWord_55 rfl rfl ?_
      refine r_getI C dX12_isWord_56 fl_X12_142 la_174 ly_174 rfl ?_
      refine r_iload_n C 3 dX12_isWord_59 rfl rfl ?_
      refine r_iadd C dX12_isWord_60 ?_
      refine r_iald C dX12_isWord_61 la_178 ly_178 (fun t1 => ?_)
      refine r_aload_nS C 1 dX12_isWord_62 rfl rfl ?_
      refine r_iload_n C 3 dX12_isWord_63 rfl rfl ?_
      refine r_schar C 20 dX12_isWord_64 mw_X12_172 (by decide) (Nat.le_of_ble_eq_true rfl) (fun t2 => ?_)
      refine r_icmp_ne C 74 dX12_isWord_67 (by decide) (fun _ => ?_) (fun _ => ?_)
      · refine r_iconst C dX12_isWord_74 ?_
        refine r_istore_n C [(2, i9 0), (0, rf G 174), (1, sf G 20), (3, i9 v3)] dX12_isWord_75 rfl (by decide) rfl ?_
        refine r_iinc C 3 [(3, i9 (v3 + 1)), (2, i9 0), (0, rf G 174), (1, sf G 20)] dX12_isWord_76 rfl (by decide) rfl ?_
        refine r_goto C 39 dX12_isWord_79 (by decide) ?_
        refine ss_wide (k' := 0) (n' := 0) (by decide) (by decide) ?_
        refine ss_ls [(0, rf G 174), (1, sf G 20), (2, i9 0), (3, i9 (v3 + 1))] [2, 3, 1, 0] rfl ?_
        exact hk_X12_isWord_174_s20_c39 0 (v3 + 1) d
      · refine r_iconst C dX12_isWord_70 ?_
        refine r_goto C 75 dX12_isWord_71 (by decide) ?_
        refine r_istore_n C [(2, i9 1), (0, rf G 174), (1, sf G 20), (3, i9 v3)] dX12_isWord_75 rfl (by decide) rfl ?_
        refine r_iinc C 3 [(3, i9 (v3 + 1)), (2, i9 1), (0, rf G 174), (1, sf G 20)] dX12_isWord_76 rfl (by decide) rfl ?_
        refine r_goto C 39 dX12_isWord_79 (by decide) ?_
        refine ss_wide (k' := 0) (n' := 0) (by decide) (by decide) ?_
        refine ss_ls [(0, rf G 174), (1, sf G 20), (2, i9 1), (3, i9 (v3 + 1))] [2, 3, 1, 0] rfl ?_
        exact hk_X12_isWord_174_s20_c39 1 (v3 + 1) d
theorem s_X12_isWord_174_s20_c39 {G : G9} {X : X9} (C : CX G X cX12_isWord 4 RX12 [] z_X12_isWord_174_s20) : ∀ (v2 v3 : Int) (d : D9), SS G X 4 0 0 39 [(0, rf G 174), (1, sf G 20), (2, i9 v2), (3, i9 v3)] [] d (m_X12_isWord_174_s20_c39  v2 v3 d) :=
  fix9_ind (P := fun k => ∀ (v2 v3 : Int) (d : D9), SS G X 4 0 0 39 [(0, rf G 174), (1, sf G 20), (2, i9 v2), (3, i9 v3)] [] d (k v2 v3 d)) (fun _ _ _ => ss_none) (fun k hk => sb_X12_isWord_174_s20_c39 C k hk) FU
set_option maxRecDepth 100000 in
theorem t_X12_isWord_174_s20 {G : G9} {l : Launch} (h1 : va_D (A9 G) (wl G (fun _ _ => 0))) (h2 : l.stackTraces = false) (d : D9) : MT G l yX12_isWord cX12_isWord 4 z_X12_isWord_174_s20 [rf G 174, sf G 20] d (m_X12_isWord_174_s20  d) := by
  refine mt_of (own := RX12) (by decide) rfl (Nat.le_of_ble_eq_true rfl) h1 h2 [(0, rf G 174), (1, sf G 20)] rfl (fun X hX C => ?_)
  unfold m_X12_isWord_174_s20
  refine r_aload_n C 0 dX12_isWord_0 rfl rfl ?_
  refine r_getI C dX12_isWord_1 fl_X12_160 la_174 ly_174 rfl ?_
  refine r_if_ne C (b := 0) 35 dX12_isWord_4 (by decide) (fun _ => ?_) (fun _ => ?_)
  · refine r_iconst C dX12_isWord_35 ?_
    refine r_istore_n C [(2, i9 0), (0, rf G 174), (1, sf G 20)] dX12_isWord_36 rfl (by decide) rfl ?_
    refine r_iconst C dX12_isWord_37 ?_
    refine r_istore_n C [(3, i9 0), (2, i9 0), (0, rf G 174), (1, sf G 20)] dX12_isWord_38 rfl (by decide) rfl ?_
    refine ss_wide (k' := 0) (n' := 0) (by decide) (by decide) ?_
    refine ss_ls [(0, rf G 174), (1, sf G 20), (2, i9 0), (3, i9 0)] [2, 3, 1, 0] rfl ?_
    exact s_X12_isWord_174_s20_c39 C  0 0 d
  · refine r_aload_n C 0 dX12_isWord_7 rfl rfl ?_
    refine r_getI C dX12_isWord_8 fl_X12_145 la_174 ly_174 rfl ?_
    refine r_iconst C dX12_isWord_11 ?_
    refine r_icmp_ne C 35 dX12_isWord_12 (by decide) (fun _ => ?_) (fun _ => ?_)
    · refine r_iconst C dX12_isWord_35 ?_
      refine r_istore_n C [(2, i9 0), (0, rf G 174), (1, sf G 20)] dX12_isWord_36 rfl (by decide) rfl ?_
      refine r_iconst C dX12_isWord_37 ?_
      refine r_istore_n C [(3, i9 0), (2, i9 0), (0, rf G 174), (1, sf G 20)] dX12_isWord_38 rfl (by decide) rfl ?_
      refine ss_wide (k' := 0) (n' := 0) (by decide) (by decide) ?_
      refine ss_ls [(0, rf G 174), (1, sf G 20), (2, i9 0), (3, i9 0)] [2, 3, 1, 0] rfl ?_
      exact s_X12_isWord_174_s20_c39 C  0 0 d
    · refine r_aload_n C 0 dX12_isWord_15 rfl rfl ?_
      refine r_getI C dX12_isWord_16 fl_X12_139 la_174 ly_174 rfl ?_
      refine r_aload_n C 0 dX12_isWord_19 rfl rfl ?_
      refine r_getI C dX12_isWord_20 fl_X12_142 la_174 ly_174 rfl ?_
      refine r_isub C dX12_isWord_23 ?_
      refine r_aload_nS C 1 dX12_isWord_24 rfl rfl ?_
      refine r_slen C 20 dX12_isWord_25 mw_X12_166 rfl (by decide) (Nat.le_of_ble_eq_true rfl) ?_
      refine r_icmp_ne C 35 dX12_isWord_28 (by decide) (fun _ => ?_) (fun _ => ?_)
      · refine r_iconst C dX12_isWord_35 ?_
        refine r_istore_n C [(2, i9 0), (0, rf G 174), (1, sf G 20)] dX12_isWord_36 rfl (by decide) rfl ?_
        refine r_iconst C dX12_isWord_37 ?_
        refine r_istore_n C [(3, i9 0), (2, i9 0), (0, rf G 174), (1, sf G 20)] dX12_isWord_38 rfl (by decide) rfl ?_
        refine ss_wide (k' := 0) (n' := 0) (by decide) (by decide) ?_
        refine ss_ls [(0, rf G 174), (1, sf G 20), (2, i9 0), (3, i9 0)] [2, 3, 1, 0] rfl ?_
        exact s_X12_isWord_174_s20_c39 C  0 0 d
      · refine r_iconst C dX12_isWord_31 ?_
        refine r_goto C 36 dX12_isWord_32 (by decide) ?_
        refine r_istore_n C [(2, i9 1), (0, rf G 174), (1, sf G 20)] dX12_isWord_36 rfl (by decide) rfl ?_
        refine r_iconst C dX12_isWord_37 ?_
        refine r_istore_n C [(3, i9 0), (2, i9 1), (0, rf G 174), (1, sf G 20)] dX12_isWord_38 rfl (by decide) rfl ?_
        refine ss_wide (k' := 0) (n' := 0) (by decide) (by decide) ?_
        refine ss_ls [(0, rf G 174), (1, sf G 20), (2, i9 1), (3, i9 0)] [2, 3, 1, 0] rfl ?_
        exact s_X12_isWord_174_s20_c39 C  1 0 d
theorem dX12_blames_0 : decode cX12_blames 0 = .ok (.aload_n 0, 1) := by decide +kernel
theorem dX12_blames_1 : decode cX12_blames 1 = .ok (.getfield 160, 3) := by decide +kernel
theorem dX12_blames_4 : decode cX12_blames 4 = .ok (.ifCond .eq 4, 3) := by decide +kernel
theorem dX12_blames_7 : decode cX12_blames 7 = .ok (.return_, 1) := by decide +kernel
theorem dX12_blames_8 : decode cX12_blames 8 = .ok (.aload_n 0, 1) := by decide +kernel
theorem dX12_blames_9 : decode cX12_blames 9 = .ok (.aload_n 0, 1) := by decide +kernel
theorem dX12_blames_10 : decode cX12_blames 10 = .ok (.getfield 145, 3) := by decide +kernel
theorem dX12_blames_13 : decode cX12_blames 13 = .ok (.iconst 4, 1) := by decide +kernel
theorem dX12_blames_14 : decode cX12_blames 14 = .ok (.if_icmp .ne 7, 3) := by decide +kernel
theorem dX12_blames_17 : decode cX12_blames 17 = .ok (.iconst 1, 1) := by decide +kernel
theorem dX12_blames_18 : decode cX12_blames 18 = .ok (.goto 4, 3) := by decide +kernel
theorem dX12_blames_21 : decode cX12_blames 21 = .ok (.iload_n 1, 1) := by decide +kernel
theorem dX12_blames_22 : decode cX12_blames 22 = .ok (.putfield 160, 3) := by decide +kernel
theorem dX12_blames_25 : decode cX12_blames 25 = .ok (.aload_n 0, 1) := by decide +kernel
theorem dX12_blames_26 : decode cX12_blames 26 = .ok (.aload_n 0, 1) := by decide +kernel
theorem dX12_blames_27 : decode cX12_blames 27 = .ok (.getfield 142, 3) := by decide +kernel
theorem dX12_blames_30 : decode cX12_blames 30 = .ok (.putfield 163, 3) := by decide +kernel
theorem dX12_blames_33 : decode cX12_blames 33 = .ok (.return_, 1) := by decide +kernel
abbrev z_X12_blames_174 : Z9 := (none, 0, 0, 0, 1, 0)
def m_X12_blames_174 (p1 : Int) (d : D9) : Option R9 := if w32 (d 174 13) = 0 then if w32 (d 174 11) ≠ w32 4 then pf d 174 13 p1 (fun d1 => pf d1 174 14 (d1 174 10) (fun d2 => rt 0 d2)) else pf d 174 13 1 (fun d3 => pf d3 174 14 (d3 174 10) (fun d4 => rt 0 d4)) else rt 0 d
set_option maxRecDepth 100000 in
theorem t_X12_blames_174 {G : G9} {l : Launch} (h1 : va_D (A9 G) (wl G (fun _ _ => 0))) (h2 : l.stackTraces = false) (p1 : Int) (d : D9) : MT G l yX12_blames cX12_blames 2 z_X12_blames_174 [rf G 174, i9 p1] d (m_X12_blames_174 p1 d) := by
  refine mt_of (own := RX12) (by decide) rfl (Nat.le_of_ble_eq_true rfl) h1 h2 [(0, rf G 174), (1, i9 p1)] rfl (fun X hX C => ?_)
  unfold m_X12_blames_174
  refine r_aload_n C 0 dX12_blames_0 rfl rfl ?_
  refine r_getI C dX12_blames_1 fl_X12_160 la_174 ly_174 rfl ?_
  refine r_if_eq C (b := 0) 8 dX12_blames_4 (by decide) (fun _ => ?_) (fun _ => ?_)
  · refine r_aload_n C 0 dX12_blames_8 rfl rfl ?_
    refine r_aload_n C 0 dX12_blames_9 rfl rfl ?_
    refine r_getI C dX12_blames_10 fl_X12_145 la_174 ly_174 rfl ?_
    refine r_iconst C dX12_blames_13 ?_
    refine r_icmp_ne C 21 dX12_blames_14 (by decide) (fun _ => ?_) (fun _ => ?_)
    · refine r_iload_n C 1 dX12_blames_21 rfl rfl ?_
      refine r_putI C dX12_blames_22 fp_X12_160 la_174 ly_174 rfl (fun d1 => ?_)
      refine r_aload_n C 0 dX12_blames_25 rfl rfl ?_
      refine r_aload_n C 0 dX12_blames_26 rfl rfl ?_
      refine r_getI C dX12_blames_27 fl_X12_142 la_174 ly_174 rfl ?_
      refine r_putI C dX12_blames_30 fp_X12_163 la_174 ly_174 rfl (fun d2 => ?_)
      exact r_vret C dX12_blames_33 (by decide) (by decide)
    · refine r_iconst C dX12_blames_17 ?_
      refine r_goto C 22 dX12_blames_18 (by decide) ?_
      refine r_putI C dX12_blames_22 fp_X12_160 la_174 ly_174 rfl (fun d3 => ?_)
      refine r_aload_n C 0 dX12_blames_25 rfl rfl ?_
      refine r_aload_n C 0 dX12_blames_26 rfl rfl ?_
      refine r_getI C dX12_blames_27 fl_X12_142 la_174 ly_174 rfl ?_
      refine r_putI C dX12_blames_30 fp_X12_163 la_174 ly_174 rfl (fun d4 => ?_)
      exact r_vret C dX12_blames_33 (by decide) (by decide)
  · exact r_vret C dX12_blames_7 (by decide) (by decide)
theorem dX12_number_0 : decode cX12_number 0 = .ok (.aload_n 0, 1) := by decide +kernel
theorem dX12_number_1 : decode cX12_number 1 = .ok (.getfield 145, 3) := by decide +kernel
theorem dX12_number_4 : decode cX12_number 4 = .ok (.iconst 2, 1) := by decide +kernel
theorem dX12_number_5 : decode cX12_number 5 = .ok (.if_icmp .eq 11, 3) := by decide +kernel
theorem dX12_number_8 : decode cX12_number 8 = .ok (.aload_n 0, 1) := by decide +kernel
theorem dX12_number_9 : decode cX12_number 9 = .ok (.iconst 2, 1) := by decide +kernel
theorem dX12_number_10 : decode cX12_number 10 = .ok (.invokevirtual 176, 3) := by decide +kernel
theorem dX12_number_13 : decode cX12_number 13 = .ok (.goto 23, 3) := by decide +kernel
theorem dX12_number_16 : decode cX12_number 16 = .ok (.aload_n 0, 1) := by decide +kernel
theorem dX12_number_17 : decode cX12_number 17 = .ok (.getfield 157, 3) := by decide +kernel
theorem dX12_number_20 : decode cX12_number 20 = .ok (.i2l, 1) := by decide +kernel
theorem dX12_number_21 : decode cX12_number 21 = .ok (.iload_n 1, 1) := by decide +kernel
theorem dX12_number_22 : decode cX12_number 22 = .ok (.i2l, 1) := by decide +kernel
theorem dX12_number_23 : decode cX12_number 23 = .ok (.iload_n 2, 1) := by decide +kernel
theorem dX12_number_24 : decode cX12_number 24 = .ok (.i2l, 1) := by decide +kernel
theorem dX12_number_25 : decode cX12_number 25 = .ok (.invokestatic 79, 3) := by decide +kernel
theorem dX12_number_28 : decode cX12_number 28 = .ok (.ifCond .ne 8, 3) := by decide +kernel
theorem dX12_number_31 : decode cX12_number 31 = .ok (.aload_n 0, 1) := by decide +kernel
theorem dX12_number_32 : decode cX12_number 32 = .ok (.iconst 3, 1) := by decide +kernel
theorem dX12_number_33 : decode cX12_number 33 = .ok (.invokevirtual 176, 3) := by decide +kernel
theorem dX12_number_36 : decode cX12_number 36 = .ok (.aload_n 0, 1) := by decide +kernel
theorem dX12_number_37 : decode cX12_number 37 = .ok (.getfield 157, 3) := by decide +kernel
theorem dX12_number_40 : decode cX12_number 40 = .ok (.istore_n 3, 1) := by decide +kernel
theorem dX12_number_41 : decode cX12_number 41 = .ok (.aload_n 0, 1) := by decide +kernel
theorem dX12_number_42 : decode cX12_number 42 = .ok (.getfield 160, 3) := by decide +kernel
theorem dX12_number_45 : decode cX12_number 45 = .ok (.ifCond .ne 7, 3) := by decide +kernel
theorem dX12_number_48 : decode cX12_number 48 = .ok (.aload_n 0, 1) := by decide +kernel
theorem dX12_number_49 : decode cX12_number 49 = .ok (.invokevirtual 180, 3) := by decide +kernel
theorem dX12_number_52 : decode cX12_number 52 = .ok (.aload_n 0, 1) := by decide +kernel
theorem dX12_number_53 : decode cX12_number 53 = .ok (.getfield 160, 3) := by decide +kernel
theorem dX12_number_56 : decode cX12_number 56 = .ok (.ifCond .ne 7, 3) := by decide +kernel
theorem dX12_number_59 : decode cX12_number 59 = .ok (.iload_n 3, 1) := by decide +kernel
theorem dX12_number_60 : decode cX12_number 60 = .ok (.goto 4, 3) := by decide +kernel
theorem dX12_number_63 : decode cX12_number 63 = .ok (.iload_n 1, 1) := by decide +kernel
theorem dX12_number_64 : decode cX12_number 64 = .ok (.ireturn, 1) := by decide +kernel
abbrev z_X12_number_174 : Z9 := (some .int, 1, 0, 0, 3, 42)
def m_X12_number_174_c52 (v1 v3 : Int) (d : D9) : Option R9 := if w32 (d 174 13) ≠ 0 then rt v1 d else rt v3 d
def m_X12_number_174_c36 (v1 : Int) (d : D9) : Option R9 := lt9v (d 174 12) (fun a1 => if w32 (d 174 13) ≠ 0 then m_X12_number_174_c52  v1 a1 d else cl (m_X12_next_174 d) (fun r2 d3 => m_X12_number_174_c52  v1 a1 d3))
def m_X12_number_174 (p1 p2 : Int) (d : D9) : Option R9 := if w32 (d 174 11) = w32 2 then cl (m_X12_within (w32 (d 174 12)) (w32 p1) (w32 p2) d) (fun r1 d2 => if w32 r1 ≠ 0 then m_X12_number_174_c36  p1 d2 else cl (m_X12_blames_174 3 d2) (fun r3 d4 => m_X12_number_174_c36  p1 d4)) else cl (m_X12_blames_174 2 d) (fun r5 d6 => m_X12_number_174_c36  p1 d6)
set_option maxRecDepth 100000 in
theorem s_X12_number_174_c52 {G : G9} {X : X9} (C : CX G X cX12_number 4 RX12 [] z_X12_number_174) : ∀ (v1 v3 : Int) (d : D9), SS G X 4 0 0 52 [(0, rf G 174), (1, i9 v1), (3, i9 v3)] [] d (m_X12_number_174_c52  v1 v3 d) := by
  intro v1 v3 d
  unfold m_X12_number_174_c52
  refine r_aload_n C 0 dX12_number_52 rfl rfl ?_
  refine r_getI C dX12_number_53 fl_X12_160 la_174 ly_174 rfl ?_
  refine r_if_ne C (b := 0) 63 dX12_number_56 (by decide) (fun _ => ?_) (fun _ => ?_)
  · refine r_iload_n C 1 dX12_number_63 rfl rfl ?_
    exact r_iret C dX12_number_64 (by decide) (by decide)
  · refine r_iload_n C 2 dX12_number_59 rfl rfl ?_
    refine r_goto C 64 dX12_number_60 (by decide) ?_
    exact r_iret C dX12_number_64 (by decide) (by decide)
set_option maxRecDepth 100000 in
theorem s_X12_number_174_c36 {G : G9} {X : X9} (C : CX G X cX12_number 4 RX12 [] z_X12_number_174) : ∀ (v1 : Int) (d : D9), SS G X 4 0 0 36 [(0, rf G 174), (1, i9 v1)] [] d (m_X12_number_174_c36  v1 d) := by
  intro v1 d
  unfold m_X12_number_174_c36
  refine r_aload_n C 0 dX12_number_36 rfl rfl ?_
  refine r_getI C dX12_number_37 fl_X12_157 la_174 ly_174 rfl ?_
  refine ss_lt (fun a1 => ?_)
  refine r_istore_n C [(3, i9 a1), (0, rf G 174), (1, i9 v1)] dX12_number_40 rfl (by decide) rfl ?_
  refine r_aload_n C 1 dX12_number_41 rfl rfl ?_
  refine r_getI C dX12_number_42 fl_X12_160 la_174 ly_174 rfl ?_
  refine r_if_ne C (b := 0) 52 dX12_number_45 (by decide) (fun _ => ?_) (fun _ => ?_)
  · refine ss_wide (k' := 0) (n' := 0) (by decide) (by decide) ?_
    refine ss_ls [(0, rf G 174), (1, i9 v1), (3, i9 a1)] [1, 2, 0] rfl ?_
    exact s_X12_number_174_c52 C  v1 a1 d
  · refine r_aload_n C 1 dX12_number_48 rfl rfl ?_
    refine r_callV C [rf G 174] dX12_number_49 (t_X12_next_174 C.h1 C.h2 d) mw_X12_180 mv_X12_next la_174 ly_174 rfl (by decide) (by decide) (by decide) rfl rfl (Nat.le_of_ble_eq_true rfl) (fun r2 d3 => ?_)
    show SS G X 4 _ _ 52 [(3, i9 a1), (0, rf G 174), (1, i9 v1)] [] d3 _
    refine ss_wide (k' := 0) (n' := 0) (by decide) (by decide) ?_
    refine ss_ls [(0, rf G 174), (1, i9 v1), (3, i9 a1)] [1, 2, 0] rfl ?_
    exact s_X12_number_174_c52 C  v1 a1 d3
set_option maxRecDepth 100000 in
theorem t_X12_number_174 {G : G9} {l : Launch} (h1 : va_D (A9 G) (wl G (fun _ _ => 0))) (h2 : l.stackTraces = false) (p1 p2 : Int) (d : D9) : MT G l yX12_number cX12_number 4 z_X12_number_174 [rf G 174, i9 p1, i9 p2] d (m_X12_number_174 p1 p2 d) := by
  refine mt_of (own := RX12) (by decide) rfl (Nat.le_of_ble_eq_true rfl) h1 h2 [(0, rf G 174), (1, i9 p1), (2, i9 p2)] rfl (fun X hX C => ?_)
  unfold m_X12_number_174
  refine r_aload_n C 0 dX12_number_0 rfl rfl ?_
  refine r_getI C dX12_number_1 fl_X12_145 la_174 ly_174 rfl ?_
  refine r_iconst C dX12_number_4 ?_
  refine r_icmp_eq C 16 dX12_number_5 (by decide) (fun _ => ?_) (fun _ => ?_)
  · refine r_aload_n C 0 dX12_number_16 rfl rfl ?_
    refine r_getI C dX12_number_17 fl_X12_157 la_174 ly_174 rfl ?_
    refine r_i2l C dX12_number_20 ?_
    refine r_iload_n C 1 dX12_number_21 rfl rfl ?_
    refine r_i2l C dX12_number_22 ?_
    refine r_iload_n C 2 dX12_number_23 rfl rfl ?_
    refine r_i2l C dX12_number_24 ?_
    refine r_callS C [l9 (w32 p2), l9 (w32 p1), l9 (w32 (d 174 12))] dX12_number_25 (t_X12_within C.h1 C.h2 (w32 (d 174 12)) (w32 p1) (w32 p2) d) mw_X12_79 ms_X12_within (by decide) (by decide) (by decide) rfl rfl (Nat.le_of_ble_eq_true rfl) (fun r1 d2 => ?_)
    show SS G X 4 _ _ 28 [(0, rf G 174), (1, i9 p1), (2, i9 p2)] [i9 r1] d2 _
    refine r_if_ne C (b := 0) 36 dX12_number_28 (by decide) (fun _ => ?_) (fun _ => ?_)
    · refine ss_wide (k' := 0) (n' := 0) (by decide) (by decide) ?_
      refine ss_ls [(0, rf G 174), (1, i9 p1)] [0, 1] rfl ?_
      exact s_X12_number_174_c36 C  p1 d2
    · refine r_aload_n C 0 dX12_number_31 rfl rfl ?_
      refine r_iconst C dX12_number_32 ?_
      refine r_callV C [i9 3, rf G 174] dX12_number_33 (t_X12_blames_174 C.h1 C.h2 3 d2) mw_X12_176 mv_X12_blames la_174 ly_174 rfl (by decide) (by decide) (by decide) rfl rfl (Nat.le_of_ble_eq_true rfl) (fun r3 d4 => ?_)
      show SS G X 4 _ _ 36 [(0, rf G 174), (1, i9 p1), (2, i9 p2)] [] d4 _
      refine ss_wide (k' := 0) (n' := 0) (by decide) (by decide) ?_
      refine ss_ls [(0, rf G 174), (1, i9 p1)] [0, 1] rfl ?_
      exact s_X12_number_174_c36 C  p1 d4
  · refine r_aload_n C 0 dX12_number_8 rfl rfl ?_
    refine r_iconst C dX12_number_9 ?_
    refine r_callV C [i9 2, rf G 174] dX12_number_10 (t_X12_blames_174 C.h1 C.h2 2 d) mw_X12_176 mv_X12_blames la_174 ly_174 rfl (by decide) (by decide) (by decide) rfl rfl (Nat.le_of_ble_eq_true rfl) (fun r5 d6 => ?_)
    show SS G X 4 _ _ 13 [(0, rf G 174), (1, i9 p1), (2, i9 p2)] [] d6 _
    refine r_goto C 36 dX12_number_13 (by decide) ?_
    refine ss_wide (k' := 0) (n' := 0) (by decide) (by decide) ?_
    refine ss_ls [(0, rf G 174), (1, i9 p1)] [0, 1] rfl ?_
    exact s_X12_number_174_c36 C  p1 d6
theorem dX12_stop_0 : decode cX12_stop 0 = .ok (.aload_n 0, 1) := by decide +kernel
theorem dX12_stop_1 : decode cX12_stop 1 = .ok (.getfield 160, 3) := by decide +kernel
theorem dX12_stop_4 : decode cX12_stop 4 = .ok (.ifCond .ne 16, 3) := by decide +kernel
theorem dX12_stop_7 : decode cX12_stop 7 = .ok (.aload_n 0, 1) := by decide +kernel
theorem dX12_stop_8 : decode cX12_stop 8 = .ok (.getfield 145, 3) := by decide +kernel
theorem dX12_stop_11 : decode cX12_stop 11 = .ok (.iconst 3, 1) := by decide +kernel
theorem dX12_stop_12 : decode cX12_stop 12 = .ok (.if_icmp .eq 8, 3) := by decide +kernel
theorem dX12_stop_15 : decode cX12_stop 15 = .ok (.aload_n 0, 1) := by decide +kernel
theorem dX12_stop_16 : decode cX12_stop 16 = .ok (.iconst 2, 1) := by decide +kernel
theorem dX12_stop_17 : decode cX12_stop 17 = .ok (.invokevirtual 176, 3) := by decide +kernel
theorem dX12_stop_20 : decode cX12_stop 20 = .ok (.aload_n 0, 1) := by decide +kernel
theorem dX12_stop_21 : decode cX12_stop 21 = .ok (.getfield 160, 3) := by decide +kernel
theorem dX12_stop_24 : decode cX12_stop 24 = .ok (.ifCond .ne 7, 3) := by decide +kernel
theorem dX12_stop_27 : decode cX12_stop 27 = .ok (.aload_n 0, 1) := by decide +kernel
theorem dX12_stop_28 : decode cX12_stop 28 = .ok (.invokevirtual 180, 3) := by decide +kernel
theorem dX12_stop_31 : decode cX12_stop 31 = .ok (.return_, 1) := by decide +kernel
abbrev z_X12_stop_174 : Z9 := (none, 0, 0, 0, 3, 42)
def m_X12_stop_174_c20 (d : D9) : Option R9 := if w32 (d 174 13) ≠ 0 then rt 0 d else cl (m_X12_next_174 d) (fun r1 d2 => rt 0 d2)
def m_X12_stop_174 (d : D9) : Option R9 := if w32 (d 174 13) ≠ 0 then m_X12_stop_174_c20   d else if w32 (d 174 11) = w32 3 then m_X12_stop_174_c20   d else cl (m_X12_blames_174 2 d) (fun r1 d2 => m_X12_stop_174_c20   d2)
set_option maxRecDepth 100000 in
theorem s_X12_stop_174_c20 {G : G9} {X : X9} (C : CX G X cX12_stop 1 RX12 [] z_X12_stop_174) : ∀ (d : D9), SS G X 1 0 0 20 [(0, rf G 174)] [] d (m_X12_stop_174_c20   d) := by
  intro  d
  unfold m_X12_stop_174_c20
  refine r_aload_n C 0 dX12_stop_20 rfl rfl ?_
  refine r_getI C dX12_stop_21 fl_X12_160 la_174 ly_174 rfl ?_
  refine r_if_ne C (b := 0) 31 dX12_stop_24 (by decide) (fun _ => ?_) (fun _ => ?_)
  · exact r_vret C dX12_stop_31 (by decide) (by decide)
  · refine r_aload_n C 0 dX12_stop_27 rfl rfl ?_
    refine r_callV C [rf G 174] dX12_stop_28 (t_X12_next_174 C.h1 C.h2 d) mw_X12_180 mv_X12_next la_174 ly_174 rfl (by decide) (by decide) (by decide) rfl rfl (Nat.le_of_ble_eq_true rfl) (fun r1 d2 => ?_)
    show SS G X 1 _ _ 31 [(0, rf G 174)] [] d2 _
    exact r_vret C dX12_stop_31 (by decide) (by decide)
set_option maxRecDepth 100000 in
theorem t_X12_stop_174 {G : G9} {l : Launch} (h1 : va_D (A9 G) (wl G (fun _ _ => 0))) (h2 : l.stackTraces = false) (d : D9) : MT G l yX12_stop cX12_stop 1 z_X12_stop_174 [rf G 174] d (m_X12_stop_174  d) := by
  refine mt_of (own := RX12) (by decide) rfl (Nat.le_of_ble_eq_true rfl) h1 h2 [(0, rf G 174)] rfl (fun X hX C => ?_)
  unfold m_X12_stop_174
  refine r_aload_n C 0 dX12_stop_0 rfl rfl ?_
  refine r_getI C dX12_stop_1 fl_X12_160 la_174 ly_174 rfl ?_
  refine r_if_ne C (b := 0) 20 dX12_stop_4 (by decide) (fun _ => ?_) (fun _ => ?_)
  · refine ss_wide (k' := 0) (n' := 0) (by decide) (by decide) ?_
    refine ss_ls [(0, rf G 174)] [0] rfl ?_
    exact s_X12_stop_174_c20 C   d
  · refine r_aload_n C 0 dX12_stop_7 rfl rfl ?_
    refine r_getI C dX12_stop_8 fl_X12_145 la_174 ly_174 rfl ?_
    refine r_iconst C dX12_stop_11 ?_
    refine r_icmp_eq C 20 dX12_stop_12 (by decide) (fun _ => ?_) (fun _ => ?_)
    · refine ss_wide (k' := 0) (n' := 0) (by decide) (by decide) ?_
      refine ss_ls [(0, rf G 174)] [0] rfl ?_
      exact s_X12_stop_174_c20 C   d
    · refine r_aload_n C 0 dX12_stop_15 rfl rfl ?_
      refine r_iconst C dX12_stop_16 ?_
      refine r_callV C [i9 2, rf G 174] dX12_stop_17 (t_X12_blames_174 C.h1 C.h2 2 d) mw_X12_176 mv_X12_blames la_174 ly_174 rfl (by decide) (by decide) (by decide) rfl rfl (Nat.le_of_ble_eq_true rfl) (fun r1 d2 => ?_)
      show SS G X 1 _ _ 20 [(0, rf G 174)] [] d2 _
      refine ss_wide (k' := 0) (n' := 0) (by decide) (by decide) ?_
      refine ss_ls [(0, rf G 174)] [0] rfl ?_
      exact s_X12_stop_174_c20 C   d2
abbrev z_X12_isWord_174_s21 : Z9 := (some .boolean, 1, 0, 0, 8, 250)
def b_X12_isWord_174_s21_c39 (k_X12_isWord_174_s21_c39 : Int → Int → D9 → Option R9) (v2 v3 : Int) (d : D9) : Option R9 := if w32 v2 = 0 then rt (v2 % 2) d else if w32 2 ≤ w32 v3 then rt (v2 % 2) d else ld d 178 400 ((d 174 10) + v3) (fun t1 => sch 21 v3 (fun t2 => if w32 t1 ≠ w32 t2 then k_X12_isWord_174_s21_c39 0 (v3 + 1) d else k_X12_isWord_174_s21_c39 1 (v3 + 1) d))
def m_X12_isWord_174_s21_c39 : Int → Int → D9 → Option R9 := fix9 (fun _ _ _ => none) (fun k => b_X12_isWord_174_s21_c39 k) FU
def m_X12_isWord_174_s21 (d : D9) : Option R9 := if w32 (d 174 13) ≠ 0 then m_X12_isWord_174_s21_c39  0 0 d else if w32 (d 174 11) ≠ w32 1 then m_X12_isWord_174_s21_c39  0 0 d else if w32 ((d 174 9) - (d 174 10)) ≠ w32 2 then m_X12_isWord_174_s21_c39  0 0 d else m_X12_isWord_174_s21_c39  1 0 d
set_option maxRecDepth 100000 in
theorem sb_X12_isWord_174_s21_c39 {G : G9} {X : X9} (C : CX G X cX12_isWord 4 RX12 [] z_X12_isWord_174_s21) (k_X12_isWord_174_s21_c39 : Int → Int → D9 → Option R9) (hk_X12_isWord_174_s21_c39 : ∀ (v2 v3 : Int) (d : D9), SS G X 4 0 0 39 [(0, rf G 174), (1, sf G 21), (2, i9 v2), (3, i9 v3)] [] d (k_X12_isWord_174_s21_c39 v2 v3 d)) : ∀ (v2 v3 : Int) (d : D9), SS G X 4 0 0 39 [(0, rf G 174), (1, sf G 21), (2, i9 v2), (3, i9 v3)] [] d (b_X12_isWord_174_s21_c39 k_X12_isWord_174_s21_c39 v2 v3 d) := by
  intro v2 v3 d
  unfold b_X12_isWord_174_s21_c39
  refine r_iload_n C 2 dX12_isWord_39 rfl rfl ?_
  refine r_if_eq C (b := 0) 82 dX12_isWord_40 (by decide) (fun _ => ?_) (fun _ => ?_)
  · refine r_iload_n C 2 dX12_isWord_82 rfl rfl ?_
    exact r_zret C dX12_isWord_83 (by decide) (by decide)
  · refine r_iload_n C 3 dX12_isWord_43 rfl rfl ?_
    refine r_aload_nS C 1 dX12_isWord_44 rfl rfl ?_
    refine r_slen C 21 dX12_isWord_45 mw_X12_166 rfl (by decide) (Nat.le_of_ble_eq_true rfl) ?_
    refine r_icmp_ge C 82 dX12_isWord_48 (by decide) (fun _ => ?_) (fun _ => ?_)
    · refine r_iload_n C 2 dX12_isWord_82 rfl rfl ?_
      exact r_zret C dX12_isWord_83 (by decide) (by decide)
    · refine r_aload_n C 0 dX12_isWord_51 rfl rfl ?_
      refine r_getR C 178 dX12_isWord_52 fl_X12_20 la_174 ly_174 rfl rfl ?_
      refine r_aload_n C 0 dX12_isWord_55 rfl rfl ?_
      refine r_getI C dX12_isWord_56 fl_X12_142 la_174 ly_174 rfl ?_
      refine r_iload_n C 3 dX12_isWord_59 rfl rfl ?_
      refine r_iadd C dX12_isWord_60 ?_
      refine r_iald C dX12_isWord_61 la_178 ly_178 (fun t1 => ?_)
      refine r_aload_nS C 1 dX12_isWord_62 rfl rfl ?_
      refine r_iload_n C 3 dX12_isWord_63 rfl rfl ?_
      refine r_schar C 21 dX12_isWord_64 mw_X12_172 (by decide) (Nat.le_of_ble_eq_true rfl) (fun t2 => ?_)
      refine r_icmp_ne C 74 dX12_isWord_67 (by decide) (fun _ => ?_) (fun _ => ?_)
      · refine r_iconst C dX12_isWord_74 ?_
        refine r_istore_n C [(2, i9 0), (0, rf G 174), (1, sf G 21), (3, i9 v3)] dX12_isWord_75 rfl (by decide) rfl ?_
        refine r_iinc C 3 [(3, i9 (v3 + 1)), (2, i9 0), (0, rf G 174), (1, sf G 21)] dX12_isWord_76 rfl (by decide) rfl ?_
        refine r_goto C 39 dX12_isWord_79 (by decide) ?_
        refine ss_wide (k' := 0) (n' := 0) (by decide) (by decide) ?_
        refine ss_ls [(0, rf G 174), (1, sf G 21), (2, i9 0), (3, i9 (v3 + 1))] [2, 3, 1, 0] rfl ?_
        exact hk_X12_isWord_174_s21_c39 0 (v3 + 1) d
      · refine r_iconst C dX12_isWord_70 ?_
        refine r_goto C 75 dX12_isWord_71 (by decide) ?_
        refine r_istore_n C [(2, i9 1), (0, rf G 174), (1, sf G 21), (3, i9 v3)] dX12_isWord_75 rfl (by decide) rfl ?_
        refine r_iinc C 3 [(3, i9 (v3 + 1)), (2, i9 1), (0, rf G 174), (1, sf G 21)] dX12_isWord_76 rfl (by decide) rfl ?_
        refine r_goto C 39 dX12_isWord_79 (by decide) ?_
        refine ss_wide (k' := 0) (n' := 0) (by decide) (by decide) ?_
        refine ss_ls [(0, rf G 174), (1, sf G 21), (2, i9 1), (3, i9 (v3 + 1))] [2, 3, 1, 0] rfl ?_
        exact hk_X12_isWord_174_s21_c39 1 (v3 + 1) d
theorem s_X12_isWord_174_s21_c39 {G : G9} {X : X9} (C : CX G X cX12_isWord 4 RX12 [] z_X12_isWord_174_s21) : ∀ (v2 v3 : Int) (d : D9), SS G X 4 0 0 39 [(0, rf G 174), (1, sf G 21), (2, i9 v2), (3, i9 v3)] [] d (m_X12_isWord_174_s21_c39  v2 v3 d) :=
  fix9_ind (P := fun k => ∀ (v2 v3 : Int) (d : D9), SS G X 4 0 0 39 [(0, rf G 174), (1, sf G 21), (2, i9 v2), (3, i9 v3)] [] d (k v2 v3 d)) (fun _ _ _ => ss_none) (fun k hk => sb_X12_isWord_174_s21_c39 C k hk) FU
set_option maxRecDepth 100000 in
theorem t_X12_isWord_174_s21 {G : G9} {l : Launch} (h1 : va_D (A9 G) (wl G (fun _ _ => 0))) (h2 : l.stackTraces = false) (d : D9) : MT G l yX12_isWord cX12_isWord 4 z_X12_isWord_174_s21 [rf G 174, sf G 21] d (m_X12_isWord_174_s21  d) := by
  refine mt_of (own := RX12) (by decide) rfl (Nat.le_of_ble_eq_true rfl) h1 h2 [(0, rf G 174), (1, sf G 21)] rfl (fun X hX C => ?_)
  unfold m_X12_isWord_174_s21
  refine r_aload_n C 0 dX12_isWord_0 rfl rfl ?_
  refine r_getI C dX12_isWord_1 fl_X12_160 la_174 ly_174 rfl ?_
  refine r_if_ne C (b := 0) 35 dX12_isWord_4 (by decide) (fun _ => ?_) (fun _ => ?_)
  · refine r_iconst C dX12_isWord_35 ?_
    refine r_istore_n C [(2, i9 0), (0, rf G 174), (1, sf G 21)] dX12_isWord_36 rfl (by decide) rfl ?_
    refine r_iconst C dX12_isWord_37 ?_
    refine r_istore_n C [(3, i9 0), (2, i9 0), (0, rf G 174), (1, sf G 21)] dX12_isWord_38 rfl (by decide) rfl ?_
    refine ss_wide (k' := 0) (n' := 0) (by decide) (by decide) ?_
    refine ss_ls [(0, rf G 174), (1, sf G 21), (2, i9 0), (3, i9 0)] [2, 3, 1, 0] rfl ?_
    exact s_X12_isWord_174_s21_c39 C  0 0 d
  · refine r_aload_n C 0 dX12_isWord_7 rfl rfl ?_
    refine r_getI C dX12_isWord_8 fl_X12_145 la_174 ly_174 rfl ?_
    refine r_iconst C dX12_isWord_11 ?_
    refine r_icmp_ne C 35 dX12_isWord_12 (by decide) (fun _ => ?_) (fun _ => ?_)
    · refine r_iconst C dX12_isWord_35 ?_
      refine r_istore_n C [(2, i9 0), (0, rf G 174), (1, sf G 21)] dX12_isWord_36 rfl (by decide) rfl ?_
      refine r_iconst C dX12_isWord_37 ?_
      refine r_istore_n C [(3, i9 0), (2, i9 0), (0, rf G 174), (1, sf G 21)] dX12_isWord_38 rfl (by decide) rfl ?_
      refine ss_wide (k' := 0) (n' := 0) (by decide) (by decide) ?_
      refine ss_ls [(0, rf G 174), (1, sf G 21), (2, i9 0), (3, i9 0)] [2, 3, 1, 0] rfl ?_
      exact s_X12_isWord_174_s21_c39 C  0 0 d
    · refine r_aload_n C 0 dX12_isWord_15 rfl rfl ?_
      refine r_getI C dX12_isWord_16 fl_X12_139 la_174 ly_174 rfl ?_
      refine r_aload_n C 0 dX12_isWord_19 rfl rfl ?_
      refine r_getI C dX12_isWord_20 fl_X12_142 la_174 ly_174 rfl ?_
      refine r_isub C dX12_isWord_23 ?_
      refine r_aload_nS C 1 dX12_isWord_24 rfl rfl ?_
      refine r_slen C 21 dX12_isWord_25 mw_X12_166 rfl (by decide) (Nat.le_of_ble_eq_true rfl) ?_
      refine r_icmp_ne C 35 dX12_isWord_28 (by decide) (fun _ => ?_) (fun _ => ?_)
      · refine r_iconst C dX12_isWord_35 ?_
        refine r_istore_n C [(2, i9 0), (0, rf G 174), (1, sf G 21)] dX12_isWord_36 rfl (by decide) rfl ?_
        refine r_iconst C dX12_isWord_37 ?_
        refine r_istore_n C [(3, i9 0), (2, i9 0), (0, rf G 174), (1, sf G 21)] dX12_isWord_38 rfl (by decide) rfl ?_
        refine ss_wide (k' := 0) (n' := 0) (by decide) (by decide) ?_
        refine ss_ls [(0, rf G 174), (1, sf G 21), (2, i9 0), (3, i9 0)] [2, 3, 1, 0] rfl ?_
        exact s_X12_isWord_174_s21_c39 C  0 0 d
      · refine r_iconst C dX12_isWord_31 ?_
        refine r_goto C 36 dX12_isWord_32 (by decide) ?_
        refine r_istore_n C [(2, i9 1), (0, rf G 174), (1, sf G 21)] dX12_isWord_36 rfl (by decide) rfl ?_
        refine r_iconst C dX12_isWord_37 ?_
        refine r_istore_n C [(3, i9 0), (2, i9 1), (0, rf G 174), (1, sf G 21)] dX12_isWord_38 rfl (by decide) rfl ?_
        refine ss_wide (k' := 0) (n' := 0) (by decide) (by decide) ?_
        refine ss_ls [(0, rf G 174), (1, sf G 21), (2, i9 1), (3, i9 0)] [2, 3, 1, 0] rfl ?_
        exact s_X12_isWord_174_s21_c39 C  1 0 d
theorem dX12_word_0 : decode cX12_word 0 = .ok (.aload_n 0, 1) := by decide +kernel
theorem dX12_word_1 : decode cX12_word 1 = .ok (.aload_n 1, 1) := by decide +kernel
theorem dX12_word_2 : decode cX12_word 2 = .ok (.invokevirtual 183, 3) := by decide +kernel
theorem dX12_word_5 : decode cX12_word 5 = .ok (.ifCond .ne 8, 3) := by decide +kernel
theorem dX12_word_8 : decode cX12_word 8 = .ok (.aload_n 0, 1) := by decide +kernel
theorem dX12_word_9 : decode cX12_word 9 = .ok (.iconst 2, 1) := by decide +kernel
theorem dX12_word_10 : decode cX12_word 10 = .ok (.invokevirtual 176, 3) := by decide +kernel
theorem dX12_word_13 : decode cX12_word 13 = .ok (.aload_n 0, 1) := by decide +kernel
theorem dX12_word_14 : decode cX12_word 14 = .ok (.getfield 160, 3) := by decide +kernel
theorem dX12_word_17 : decode cX12_word 17 = .ok (.ifCond .ne 7, 3) := by decide +kernel
theorem dX12_word_20 : decode cX12_word 20 = .ok (.aload_n 0, 1) := by decide +kernel
theorem dX12_word_21 : decode cX12_word 21 = .ok (.invokevirtual 180, 3) := by decide +kernel
theorem dX12_word_24 : decode cX12_word 24 = .ok (.return_, 1) := by decide +kernel
abbrev z_X12_word_174_s21 : Z9 := (none, 0, 0, 0, 9, 273)
def m_X12_word_174_s21_c13 (d : D9) : Option R9 := if w32 (d 174 13) ≠ 0 then rt 0 d else cl (m_X12_next_174 d) (fun r1 d2 => rt 0 d2)
def m_X12_word_174_s21 (d : D9) : Option R9 := cl (m_X12_isWord_174_s21 d) (fun r1 d2 => if w32 r1 ≠ 0 then m_X12_word_174_s21_c13   d2 else cl (m_X12_blames_174 2 d2) (fun r3 d4 => m_X12_word_174_s21_c13   d4))
set_option maxRecDepth 100000 in
theorem s_X12_word_174_s21_c13 {G : G9} {X : X9} (C : CX G X cX12_word 2 RX12 [] z_X12_word_174_s21) : ∀ (d : D9), SS G X 2 0 0 13 [(0, rf G 174)] [] d (m_X12_word_174_s21_c13   d) := by
  intro  d
  unfold m_X12_word_174_s21_c13
  refine r_aload_n C 0 dX12_word_13 rfl rfl ?_
  refine r_getI C dX12_word_14 fl_X12_160 la_174 ly_174 rfl ?_
  refine r_if_ne C (b := 0) 24 dX12_word_17 (by decide) (fun _ => ?_) (fun _ => ?_)
  · exact r_vret C dX12_word_24 (by decide) (by decide)
  · refine r_aload_n C 0 dX12_word_20 rfl rfl ?_
    refine r_callV C [rf G 174] dX12_word_21 (t_X12_next_174 C.h1 C.h2 d) mw_X12_180 mv_X12_next la_174 ly_174 rfl (by decide) (by decide) (by decide) rfl rfl (Nat.le_of_ble_eq_true rfl) (fun r1 d2 => ?_)
    show SS G X 2 _ _ 24 [(0, rf G 174)] [] d2 _
    exact r_vret C dX12_word_24 (by decide) (by decide)
set_option maxRecDepth 100000 in
theorem t_X12_word_174_s21 {G : G9} {l : Launch} (h1 : va_D (A9 G) (wl G (fun _ _ => 0))) (h2 : l.stackTraces = false) (d : D9) : MT G l yX12_word cX12_word 2 z_X12_word_174_s21 [rf G 174, sf G 21] d (m_X12_word_174_s21  d) := by
  refine mt_of (own := RX12) (by decide) rfl (Nat.le_of_ble_eq_true rfl) h1 h2 [(0, rf G 174), (1, sf G 21)] rfl (fun X hX C => ?_)
  unfold m_X12_word_174_s21
  refine r_aload_n C 0 dX12_word_0 rfl rfl ?_
  refine r_aload_nS C 1 dX12_word_1 rfl rfl ?_
  refine r_callV C [sf G 21, rf G 174] dX12_word_2 (t_X12_isWord_174_s21 C.h1 C.h2 d) mw_X12_183 mv_X12_isWord la_174 ly_174 rfl (by decide) (by decide) (by decide) rfl rfl (Nat.le_of_ble_eq_true rfl) (fun r1 d2 => ?_)
  show SS G X 2 _ _ 5 [(0, rf G 174), (1, sf G 21)] [i9 r1] d2 _
  refine r_if_ne C (b := 0) 13 dX12_word_5 (by decide) (fun _ => ?_) (fun _ => ?_)
  · refine ss_wide (k' := 0) (n' := 0) (by decide) (by decide) ?_
    refine ss_ls [(0, rf G 174)] [0] rfl ?_
    exact s_X12_word_174_s21_c13 C   d2
  · refine r_aload_n C 0 dX12_word_8 rfl rfl ?_
    refine r_iconst C dX12_word_9 ?_
    refine r_callV C [i9 2, rf G 174] dX12_word_10 (t_X12_blames_174 C.h1 C.h2 2 d2) mw_X12_176 mv_X12_blames la_174 ly_174 rfl (by decide) (by decide) (by decide) rfl rfl (Nat.le_of_ble_eq_true rfl) (fun r3 d4 => ?_)
    show SS G X 2 _ _ 13 [(0, rf G 174), (1, sf G 21)] [] d4 _
    refine ss_wide (k' := 0) (n' := 0) (by decide) (by decide) ?_
    refine ss_ls [(0, rf G 174)] [0] rfl ?_
    exact s_X12_word_174_s21_c13 C   d4

theorem dX12_age_0 : decode cX12_age 0 = .ok (.aload_n 0, 1) := by decide +kernel
theorem dX12_age_1 : decode cX12_age 1 = .ok (.iconst 0, 1) := by decide +kernel
theorem dX12_age_2 : decode cX12_age 2 = .ok (.putfield 76, 3) := by decide +kernel
theorem dX12_age_5 : decode cX12_age 5 = .ok (.iload_n 1, 1) := by decide +kernel
theorem dX12_age_6 : decode cX12_age 6 = .ok (.i2l, 1) := by decide +kernel
theorem dX12_age_7 : decode cX12_age 7 = .ok (.iload_n 2, 1) := by decide +kernel
theorem dX12_age_8 : decode cX12_age 8 = .ok (.i2l, 1) := by decide +kernel
theorem dX12_age_9 : decode cX12_age 9 = .ok (.iload_n 3, 1) := by decide +kernel
theorem dX12_age_10 : decode cX12_age 10 = .ok (.i2l, 1) := by decide +kernel
theorem dX12_age_11 : decode cX12_age 11 = .ok (.invokestatic 121, 3) := by decide +kernel
theorem dX12_age_14 : decode cX12_age 14 = .ok (.ifCond .eq 23, 3) := by decide +kernel
theorem dX12_age_17 : decode cX12_age 17 = .ok (.iload 4, 2) := by decide +kernel
theorem dX12_age_19 : decode cX12_age 19 = .ok (.invokestatic 300, 3) := by decide +kernel
theorem dX12_age_22 : decode cX12_age 22 = .ok (.ifCond .eq 15, 3) := by decide +kernel
theorem dX12_age_25 : decode cX12_age 25 = .ok (.aload_n 0, 1) := by decide +kernel
theorem dX12_age_26 : decode cX12_age 26 = .ok (.iload_n 1, 1) := by decide +kernel
theorem dX12_age_27 : decode cX12_age 27 = .ok (.iload_n 2, 1) := by decide +kernel
theorem dX12_age_28 : decode cX12_age 28 = .ok (.iload_n 3, 1) := by decide +kernel
theorem dX12_age_29 : decode cX12_age 29 = .ok (.iload 4, 2) := by decide +kernel
theorem dX12_age_31 : decode cX12_age 31 = .ok (.invokevirtual 303, 3) := by decide +kernel
theorem dX12_age_34 : decode cX12_age 34 = .ok (.goto 8, 3) := by decide +kernel
theorem dX12_age_37 : decode cX12_age 37 = .ok (.aload_n 0, 1) := by decide +kernel
theorem dX12_age_38 : decode cX12_age 38 = .ok (.iconst 1, 1) := by decide +kernel
theorem dX12_age_39 : decode cX12_age 39 = .ok (.invokevirtual 89, 3) := by decide +kernel
theorem dX12_age_42 : decode cX12_age 42 = .ok (.ireturn, 1) := by decide +kernel
abbrev z_X12_age_174 : Z9 := (some .int, 1, 0, 0, 4, 110)
def m_X12_age_174_c37 (d : D9) : Option R9 := cl (m_X12_fails_174 1 d) (fun r1 d2 => rt r1 d2)
def m_X12_age_174 (p1 p2 p3 p4 : Int) (d : D9) : Option R9 := pf d 174 3 0 (fun d1 => cl (m_X12_areCounts (w32 p1) (w32 p2) (w32 p3) d1) (fun r2 d3 => if w32 r2 = 0 then m_X12_age_174_c37   d3 else cl (m_X12_isShare p4 d3) (fun r4 d5 => if w32 r4 = 0 then m_X12_age_174_c37   d5 else cl (m_X12_clock_174 p1 p2 p3 p4 d5) (fun r6 d7 => rt r6 d7))))
set_option maxRecDepth 100000 in
theorem s_X12_age_174_c37 {G : G9} {X : X9} (C : CX G X cX12_age 5 RX12 [] z_X12_age_174) : ∀ (d : D9), SS G X 5 0 0 37 [(0, rf G 174)] [] d (m_X12_age_174_c37   d) := by
  intro  d
  unfold m_X12_age_174_c37
  refine r_aload_n C 0 dX12_age_37 rfl rfl ?_
  refine r_iconst C dX12_age_38 ?_
  refine r_callV C [i9 1, rf G 174] dX12_age_39 (t_X12_fails_174 C.h1 C.h2 1 d) mw_X12_89 mv_X12_fails la_174 ly_174 rfl (by decide) (by decide) (by decide) rfl rfl (Nat.le_of_ble_eq_true rfl) (fun r1 d2 => ?_)
  show SS G X 5 _ _ 42 [(0, rf G 174)] [i9 r1] d2 _
  exact r_iret C dX12_age_42 (by decide) (by decide)
set_option maxRecDepth 100000 in
theorem t_X12_age_174 {G : G9} {l : Launch} (h1 : va_D (A9 G) (wl G (fun _ _ => 0))) (h2 : l.stackTraces = false) (p1 p2 p3 p4 : Int) (d : D9) : MT G l yX12_age cX12_age 5 z_X12_age_174 [rf G 174, i9 p1, i9 p2, i9 p3, i9 p4] d (m_X12_age_174 p1 p2 p3 p4 d) := by
  refine mt_of (own := RX12) (by decide) rfl (Nat.le_of_ble_eq_true rfl) h1 h2 [(0, rf G 174), (1, i9 p1), (2, i9 p2), (3, i9 p3), (4, i9 p4)] rfl (fun X hX C => ?_)
  unfold m_X12_age_174
  refine r_aload_n C 0 dX12_age_0 rfl rfl ?_
  refine r_iconst C dX12_age_1 ?_
  refine r_putI C dX12_age_2 fp_X12_76 la_174 ly_174 rfl (fun d1 => ?_)
  refine r_iload_n C 1 dX12_age_5 rfl rfl ?_
  refine r_i2l C dX12_age_6 ?_
  refine r_iload_n C 2 dX12_age_7 rfl rfl ?_
  refine r_i2l C dX12_age_8 ?_
  refine r_iload_n C 3 dX12_age_9 rfl rfl ?_
  refine r_i2l C dX12_age_10 ?_
  refine r_callS C [l9 (w32 p3), l9 (w32 p2), l9 (w32 p1)] dX12_age_11 (t_X12_areCounts C.h1 C.h2 (w32 p1) (w32 p2) (w32 p3) d1) mw_X12_121 ms_X12_areCounts (by decide) (by decide) (by decide) rfl rfl (Nat.le_of_ble_eq_true rfl) (fun r2 d3 => ?_)
  show SS G X 5 _ _ 14 [(0, rf G 174), (1, i9 p1), (2, i9 p2), (3, i9 p3), (4, i9 p4)] [i9 r2] d3 _
  refine r_if_eq C (b := 0) 37 dX12_age_14 (by decide) (fun _ => ?_) (fun _ => ?_)
  · refine ss_wide (k' := 0) (n' := 0) (by decide) (by decide) ?_
    refine ss_ls [(0, rf G 174)] [0] rfl ?_
    exact s_X12_age_174_c37 C   d3
  · refine r_iload C 4 dX12_age_17 rfl ?_
    refine r_callS C [i9 p4] dX12_age_19 (t_X12_isShare C.h1 C.h2 p4 d3) mw_X12_300 ms_X12_isShare (by decide) (by decide) (by decide) rfl rfl (Nat.le_of_ble_eq_true rfl) (fun r4 d5 => ?_)
    show SS G X 5 _ _ 22 [(0, rf G 174), (1, i9 p1), (2, i9 p2), (3, i9 p3), (4, i9 p4)] [i9 r4] d5 _
    refine r_if_eq C (b := 0) 37 dX12_age_22 (by decide) (fun _ => ?_) (fun _ => ?_)
    · refine ss_wide (k' := 0) (n' := 0) (by decide) (by decide) ?_
      refine ss_ls [(0, rf G 174)] [0] rfl ?_
      exact s_X12_age_174_c37 C   d5
    · refine r_aload_n C 0 dX12_age_25 rfl rfl ?_
      refine r_iload_n C 1 dX12_age_26 rfl rfl ?_
      refine r_iload_n C 2 dX12_age_27 rfl rfl ?_
      refine r_iload_n C 3 dX12_age_28 rfl rfl ?_
      refine r_iload C 4 dX12_age_29 rfl ?_
      refine r_callV C [i9 p4, i9 p3, i9 p2, i9 p1, rf G 174] dX12_age_31 (t_X12_clock_174 C.h1 C.h2 p1 p2 p3 p4 d5) mw_X12_303 mv_X12_clock la_174 ly_174 rfl (by decide) (by decide) (by decide) rfl rfl (Nat.le_of_ble_eq_true rfl) (fun r6 d7 => ?_)
      show SS G X 5 _ _ 34 [(0, rf G 174), (1, i9 p1), (2, i9 p2), (3, i9 p3), (4, i9 p4)] [i9 r6] d7 _
      refine r_goto C 42 dX12_age_34 (by decide) ?_
      exact r_iret C dX12_age_42 (by decide) (by decide)
theorem dX12_peopleFault_0 : decode cX12_peopleFault 0 = .ok (.aload_n 0, 1) := by decide +kernel
theorem dX12_peopleFault_1 : decode cX12_peopleFault 1 = .ok (.iload_n 1, 1) := by decide +kernel
theorem dX12_peopleFault_2 : decode cX12_peopleFault 2 = .ok (.invokevirtual 95, 3) := by decide +kernel
theorem dX12_peopleFault_5 : decode cX12_peopleFault 5 = .ok (.ifCond .ne 7, 3) := by decide +kernel
theorem dX12_peopleFault_8 : decode cX12_peopleFault 8 = .ok (.iconst 1, 1) := by decide +kernel
theorem dX12_peopleFault_9 : decode cX12_peopleFault 9 = .ok (.goto 20, 3) := by decide +kernel
theorem dX12_peopleFault_12 : decode cX12_peopleFault 12 = .ok (.iload_n 2, 1) := by decide +kernel
theorem dX12_peopleFault_13 : decode cX12_peopleFault 13 = .ok (.i2l, 1) := by decide +kernel
theorem dX12_peopleFault_14 : decode cX12_peopleFault 14 = .ok (.lconst 0, 1) := by decide +kernel
theorem dX12_peopleFault_15 : decode cX12_peopleFault 15 = .ok (.ldc2_w 85, 3) := by decide +kernel
theorem dX12_peopleFault_18 : decode cX12_peopleFault 18 = .ok (.invokestatic 79, 3) := by decide +kernel
theorem dX12_peopleFault_21 : decode cX12_peopleFault 21 = .ok (.ifCond .eq 7, 3) := by decide +kernel
theorem dX12_peopleFault_24 : decode cX12_peopleFault 24 = .ok (.iconst 0, 1) := by decide +kernel
theorem dX12_peopleFault_25 : decode cX12_peopleFault 25 = .ok (.goto 4, 3) := by decide +kernel
theorem dX12_peopleFault_28 : decode cX12_peopleFault 28 = .ok (.iconst 2, 1) := by decide +kernel
theorem dX12_peopleFault_29 : decode cX12_peopleFault 29 = .ok (.ireturn, 1) := by decide +kernel
abbrev z_X12_peopleFault_174 : Z9 := (some .int, 1, 0, 0, 3, 46)
def m_X12_peopleFault_174 (p1 p2 : Int) (d : D9) : Option R9 := cl (m_X12_isPaint_174 p1 d) (fun r1 d2 => if w32 r1 ≠ 0 then cl (m_X12_within (w32 p2) 0 5 d2) (fun r3 d4 => if w32 r3 = 0 then rt 2 d4 else rt 0 d4) else rt 1 d2)
set_option maxRecDepth 100000 in
theorem t_X12_peopleFault_174 {G : G9} {l : Launch} (h1 : va_D (A9 G) (wl G (fun _ _ => 0))) (h2 : l.stackTraces = false) (p1 p2 : Int) (d : D9) : MT G l yX12_peopleFault cX12_peopleFault 3 z_X12_peopleFault_174 [rf G 174, i9 p1, i9 p2] d (m_X12_peopleFault_174 p1 p2 d) := by
  refine mt_of (own := RX12) (by decide) rfl (Nat.le_of_ble_eq_true rfl) h1 h2 [(0, rf G 174), (1, i9 p1), (2, i9 p2)] rfl (fun X hX C => ?_)
  unfold m_X12_peopleFault_174
  refine r_aload_n C 0 dX12_peopleFault_0 rfl rfl ?_
  refine r_iload_n C 1 dX12_peopleFault_1 rfl rfl ?_
  refine r_callV C [i9 p1, rf G 174] dX12_peopleFault_2 (t_X12_isPaint_174 C.h1 C.h2 p1 d) mw_X12_95 mv_X12_isPaint la_174 ly_174 rfl (by decide) (by decide) (by decide) rfl rfl (Nat.le_of_ble_eq_true rfl) (fun r1 d2 => ?_)
  show SS G X 3 _ _ 5 [(0, rf G 174), (1, i9 p1), (2, i9 p2)] [i9 r1] d2 _
  refine r_if_ne C (b := 0) 12 dX12_peopleFault_5 (by decide) (fun _ => ?_) (fun _ => ?_)
  · refine r_iload_n C 2 dX12_peopleFault_12 rfl rfl ?_
    refine r_i2l C dX12_peopleFault_13 ?_
    refine r_lconst C dX12_peopleFault_14 (a := 0) rfl ?_
    refine r_ldcL C dX12_peopleFault_15 kc_X12_85 ?_
    refine r_callS C [l9 5, l9 0, l9 (w32 p2)] dX12_peopleFault_18 (t_X12_within C.h1 C.h2 (w32 p2) 0 5 d2) mw_X12_79 ms_X12_within (by decide) (by decide) (by decide) rfl rfl (Nat.le_of_ble_eq_true rfl) (fun r3 d4 => ?_)
    show SS G X 3 _ _ 21 [(0, rf G 174), (1, i9 p1), (2, i9 p2)] [i9 r3] d4 _
    refine r_if_eq C (b := 0) 28 dX12_peopleFault_21 (by decide) (fun _ => ?_) (fun _ => ?_)
    · refine r_iconst C dX12_peopleFault_28 ?_
      exact r_iret C dX12_peopleFault_29 (by decide) (by decide)
    · refine r_iconst C dX12_peopleFault_24 ?_
      refine r_goto C 29 dX12_peopleFault_25 (by decide) ?_
      exact r_iret C dX12_peopleFault_29 (by decide) (by decide)
  · refine r_iconst C dX12_peopleFault_8 ?_
    refine r_goto C 29 dX12_peopleFault_9 (by decide) ?_
    exact r_iret C dX12_peopleFault_29 (by decide) (by decide)
theorem dX12_ofSkin_0 : decode cX12_ofSkin 0 = .ok (.aload_n 0, 1) := by decide +kernel
theorem dX12_ofSkin_1 : decode cX12_ofSkin 1 = .ok (.getfield 9, 3) := by decide +kernel
theorem dX12_ofSkin_4 : decode cX12_ofSkin 4 = .ok (.sipush 336, 3) := by decide +kernel
theorem dX12_ofSkin_7 : decode cX12_ofSkin 7 = .ok (.bipush 17, 2) := by decide +kernel
theorem dX12_ofSkin_9 : decode cX12_ofSkin 9 = .ok (.iload_n 1, 1) := by decide +kernel
theorem dX12_ofSkin_10 : decode cX12_ofSkin 10 = .ok (.imul, 1) := by decide +kernel
theorem dX12_ofSkin_11 : decode cX12_ofSkin 11 = .ok (.iadd, 1) := by decide +kernel
theorem dX12_ofSkin_12 : decode cX12_ofSkin 12 = .ok (.iload_n 2, 1) := by decide +kernel
theorem dX12_ofSkin_13 : decode cX12_ofSkin 13 = .ok (.iadd, 1) := by decide +kernel
theorem dX12_ofSkin_14 : decode cX12_ofSkin 14 = .ok (.iaload, 1) := by decide +kernel
theorem dX12_ofSkin_15 : decode cX12_ofSkin 15 = .ok (.ireturn, 1) := by decide +kernel
abbrev z_X12_ofSkin_174 : Z9 := (some .int, 1, 0, 0, 1, 0)
def m_X12_ofSkin_174 (p1 p2 : Int) (d : D9) : Option R9 := ld d 175 1604 ((336 + (17 * p1)) + p2) (fun t1 => rt t1 d)
set_option maxRecDepth 100000 in
theorem t_X12_ofSkin_174 {G : G9} {l : Launch} (h1 : va_D (A9 G) (wl G (fun _ _ => 0))) (h2 : l.stackTraces = false) (p1 p2 : Int) (d : D9) : MT G l yX12_ofSkin cX12_ofSkin 3 z_X12_ofSkin_174 [rf G 174, i9 p1, i9 p2] d (m_X12_ofSkin_174 p1 p2 d) := by
  refine mt_of (own := RX12) (by decide) rfl (Nat.le_of_ble_eq_true rfl) h1 h2 [(0, rf G 174), (1, i9 p1), (2, i9 p2)] rfl (fun X hX C => ?_)
  unfold m_X12_ofSkin_174
  refine r_aload_n C 0 dX12_ofSkin_0 rfl rfl ?_
  refine r_getR C 175 dX12_ofSkin_1 fl_X12_9 la_174 ly_174 rfl rfl ?_
  refine r_sipush C dX12_ofSkin_4 rfl ?_
  refine r_bipush C dX12_ofSkin_7 rfl ?_
  refine r_iload_n C 1 dX12_ofSkin_9 rfl rfl ?_
  refine r_imul C dX12_ofSkin_10 ?_
  refine r_iadd C dX12_ofSkin_11 ?_
  refine r_iload_n C 2 dX12_ofSkin_12 rfl rfl ?_
  refine r_iadd C dX12_ofSkin_13 ?_
  refine r_iald C dX12_ofSkin_14 la_175 ly_175 (fun t1 => ?_)
  exact r_iret C dX12_ofSkin_15 (by decide) (by decide)
theorem dX12_counted_0 : decode cX12_counted 0 = .ok (.aload_n 0, 1) := by decide +kernel
theorem dX12_counted_1 : decode cX12_counted 1 = .ok (.iload_n 1, 1) := by decide +kernel
theorem dX12_counted_2 : decode cX12_counted 2 = .ok (.iconst 5, 1) := by decide +kernel
theorem dX12_counted_3 : decode cX12_counted 3 = .ok (.iconst 3, 1) := by decide +kernel
theorem dX12_counted_4 : decode cX12_counted 4 = .ok (.iload_n 2, 1) := by decide +kernel
theorem dX12_counted_5 : decode cX12_counted 5 = .ok (.imul, 1) := by decide +kernel
theorem dX12_counted_6 : decode cX12_counted 6 = .ok (.iadd, 1) := by decide +kernel
theorem dX12_counted_7 : decode cX12_counted 7 = .ok (.iload_n 3, 1) := by decide +kernel
theorem dX12_counted_8 : decode cX12_counted 8 = .ok (.iadd, 1) := by decide +kernel
theorem dX12_counted_9 : decode cX12_counted 9 = .ok (.invokevirtual 124, 3) := by decide +kernel
theorem dX12_counted_12 : decode cX12_counted 12 = .ok (.ireturn, 1) := by decide +kernel
abbrev z_X12_counted_174 : Z9 := (some .int, 1, 0, 0, 2, 22)
def m_X12_counted_174 (p1 p2 p3 : Int) (d : D9) : Option R9 := cl (m_X12_ofSkin_174 p1 ((5 + (3 * p2)) + p3) d) (fun r1 d2 => rt r1 d2)
set_option maxRecDepth 100000 in
theorem t_X12_counted_174 {G : G9} {l : Launch} (h1 : va_D (A9 G) (wl G (fun _ _ => 0))) (h2 : l.stackTraces = false) (p1 p2 p3 : Int) (d : D9) : MT G l yX12_counted cX12_counted 4 z_X12_counted_174 [rf G 174, i9 p1, i9 p2, i9 p3] d (m_X12_counted_174 p1 p2 p3 d) := by
  refine mt_of (own := RX12) (by decide) rfl (Nat.le_of_ble_eq_true rfl) h1 h2 [(0, rf G 174), (1, i9 p1), (2, i9 p2), (3, i9 p3)] rfl (fun X hX C => ?_)
  unfold m_X12_counted_174
  refine r_aload_n C 0 dX12_counted_0 rfl rfl ?_
  refine r_iload_n C 1 dX12_counted_1 rfl rfl ?_
  refine r_iconst C dX12_counted_2 ?_
  refine r_iconst C dX12_counted_3 ?_
  refine r_iload_n C 2 dX12_counted_4 rfl rfl ?_
  refine r_imul C dX12_counted_5 ?_
  refine r_iadd C dX12_counted_6 ?_
  refine r_iload_n C 3 dX12_counted_7 rfl rfl ?_
  refine r_iadd C dX12_counted_8 ?_
  refine r_callV C [i9 ((5 + (3 * p2)) + p3), i9 p1, rf G 174] dX12_counted_9 (t_X12_ofSkin_174 C.h1 C.h2 p1 ((5 + (3 * p2)) + p3) d) mw_X12_124 mv_X12_ofSkin la_174 ly_174 rfl (by decide) (by decide) (by decide) rfl rfl (Nat.le_of_ble_eq_true rfl) (fun r1 d2 => ?_)
  show SS G X 4 _ _ 12 [(0, rf G 174), (1, i9 p1), (2, i9 p2), (3, i9 p3)] [i9 r1] d2 _
  exact r_iret C dX12_counted_12 (by decide) (by decide)
theorem dX12_isThin_0 : decode cX12_isThin 0 = .ok (.iload_n 1, 1) := by decide +kernel
theorem dX12_isThin_1 : decode cX12_isThin 1 = .ok (.aload_n 0, 1) := by decide +kernel
theorem dX12_isThin_2 : decode cX12_isThin 2 = .ok (.getfield 9, 3) := by decide +kernel
theorem dX12_isThin_5 : decode cX12_isThin 5 = .ok (.bipush 9, 2) := by decide +kernel
theorem dX12_isThin_7 : decode cX12_isThin 7 = .ok (.iaload, 1) := by decide +kernel
theorem dX12_isThin_8 : decode cX12_isThin 8 = .ok (.if_icmp .ge 7, 3) := by decide +kernel
theorem dX12_isThin_11 : decode cX12_isThin 11 = .ok (.iconst 1, 1) := by decide +kernel
theorem dX12_isThin_12 : decode cX12_isThin 12 = .ok (.goto 4, 3) := by decide +kernel
theorem dX12_isThin_15 : decode cX12_isThin 15 = .ok (.iconst 0, 1) := by decide +kernel
theorem dX12_isThin_16 : decode cX12_isThin 16 = .ok (.ireturn, 1) := by decide +kernel
abbrev z_X12_isThin_174 : Z9 := (some .boolean, 1, 0, 0, 1, 0)
def m_X12_isThin_174 (p1 : Int) (d : D9) : Option R9 := ld d 175 1604 9 (fun t1 => if w32 t1 ≤ w32 p1 then rt (0 % 2) d else rt (1 % 2) d)
set_option maxRecDepth 100000 in
theorem t_X12_isThin_174 {G : G9} {l : Launch} (h1 : va_D (A9 G) (wl G (fun _ _ => 0))) (h2 : l.stackTraces = false) (p1 : Int) (d : D9) : MT G l yX12_isThin cX12_isThin 2 z_X12_isThin_174 [rf G 174, i9 p1] d (m_X12_isThin_174 p1 d) := by
  refine mt_of (own := RX12) (by decide) rfl (Nat.le_of_ble_eq_true rfl) h1 h2 [(0, rf G 174), (1, i9 p1)] rfl (fun X hX C => ?_)
  unfold m_X12_isThin_174
  refine r_iload_n C 1 dX12_isThin_0 rfl rfl ?_
  refine r_aload_n C 0 dX12_isThin_1 rfl rfl ?_
  refine r_getR C 175 dX12_isThin_2 fl_X12_9 la_174 ly_174 rfl rfl ?_
  refine r_bipush C dX12_isThin_5 rfl ?_
  refine r_iald C dX12_isThin_7 la_175 ly_175 (fun t1 => ?_)
  refine r_icmp_ge C 15 dX12_isThin_8 (by decide) (fun _ => ?_) (fun _ => ?_)
  · refine r_iconst C dX12_isThin_15 ?_
    exact r_zret C dX12_isThin_16 (by decide) (by decide)
  · refine r_iconst C dX12_isThin_11 ?_
    refine r_goto C 16 dX12_isThin_12 (by decide) ?_
    exact r_zret C dX12_isThin_16 (by decide) (by decide)
theorem dX12_isThinAt_0 : decode cX12_isThinAt 0 = .ok (.aload_n 0, 1) := by decide +kernel
theorem dX12_isThinAt_1 : decode cX12_isThinAt 1 = .ok (.aload_n 0, 1) := by decide +kernel
theorem dX12_isThinAt_2 : decode cX12_isThinAt 2 = .ok (.iload_n 1, 1) := by decide +kernel
theorem dX12_isThinAt_3 : decode cX12_isThinAt 3 = .ok (.iload_n 2, 1) := by decide +kernel
theorem dX12_isThinAt_4 : decode cX12_isThinAt 4 = .ok (.iconst 1, 1) := by decide +kernel
theorem dX12_isThinAt_5 : decode cX12_isThinAt 5 = .ok (.invokevirtual 307, 3) := by decide +kernel
theorem dX12_isThinAt_8 : decode cX12_isThinAt 8 = .ok (.invokevirtual 311, 3) := by decide +kernel
theorem dX12_isThinAt_11 : decode cX12_isThinAt 11 = .ok (.ireturn, 1) := by decide +kernel
abbrev z_X12_isThinAt_174 : Z9 := (some .boolean, 1, 0, 0, 3, 45)
def m_X12_isThinAt_174 (p1 p2 : Int) (d : D9) : Option R9 := cl (m_X12_counted_174 p1 p2 1 d) (fun r1 d2 => cl (m_X12_isThin_174 r1 d2) (fun r3 d4 => rt (r3 % 2) d4))
set_option maxRecDepth 100000 in
theorem t_X12_isThinAt_174 {G : G9} {l : Launch} (h1 : va_D (A9 G) (wl G (fun _ _ => 0))) (h2 : l.stackTraces = false) (p1 p2 : Int) (d : D9) : MT G l yX12_isThinAt cX12_isThinAt 3 z_X12_isThinAt_174 [rf G 174, i9 p1, i9 p2] d (m_X12_isThinAt_174 p1 p2 d) := by
  refine mt_of (own := RX12) (by decide) rfl (Nat.le_of_ble_eq_true rfl) h1 h2 [(0, rf G 174), (1, i9 p1), (2, i9 p2)] rfl (fun X hX C => ?_)
  unfold m_X12_isThinAt_174
  refine r_aload_n C 0 dX12_isThinAt_0 rfl rfl ?_
  refine r_aload_n C 0 dX12_isThinAt_1 rfl rfl ?_
  refine r_iload_n C 1 dX12_isThinAt_2 rfl rfl ?_
  refine r_iload_n C 2 dX12_isThinAt_3 rfl rfl ?_
  refine r_iconst C dX12_isThinAt_4 ?_
  refine r_callV C [i9 1, i9 p2, i9 p1, rf G 174, rf G 174] dX12_isThinAt_5 (t_X12_counted_174 C.h1 C.h2 p1 p2 1 d) mw_X12_307 mv_X12_counted la_174 ly_174 rfl (by decide) (by decide) (by decide) rfl rfl (Nat.le_of_ble_eq_true rfl) (fun r1 d2 => ?_)
  show SS G X 3 _ _ 8 [(0, rf G 174), (1, i9 p1), (2, i9 p2)] [i9 r1, rf G 174] d2 _
  refine r_callV C [i9 r1, rf G 174] dX12_isThinAt_8 (t_X12_isThin_174 C.h1 C.h2 r1 d2) mw_X12_311 mv_X12_isThin la_174 ly_174 rfl (by decide) (by decide) (by decide) rfl rfl (Nat.le_of_ble_eq_true rfl) (fun r3 d4 => ?_)
  show SS G X 3 _ _ 11 [(0, rf G 174), (1, i9 p1), (2, i9 p2)] [i9 r3] d4 _
  exact r_zret C dX12_isThinAt_11 (by decide) (by decide)
theorem dX12_thick_0 : decode cX12_thick 0 = .ok (.iconst 0, 1) := by decide +kernel
theorem dX12_thick_1 : decode cX12_thick 1 = .ok (.istore_n 2, 1) := by decide +kernel
theorem dX12_thick_2 : decode cX12_thick 2 = .ok (.iconst 0, 1) := by decide +kernel
theorem dX12_thick_3 : decode cX12_thick 3 = .ok (.istore_n 3, 1) := by decide +kernel
theorem dX12_thick_4 : decode cX12_thick 4 = .ok (.iload_n 3, 1) := by decide +kernel
theorem dX12_thick_5 : decode cX12_thick 5 = .ok (.aload_n 0, 1) := by decide +kernel
theorem dX12_thick_6 : decode cX12_thick 6 = .ok (.iload_n 1, 1) := by decide +kernel
theorem dX12_thick_7 : decode cX12_thick 7 = .ok (.iconst 4, 1) := by decide +kernel
theorem dX12_thick_8 : decode cX12_thick 8 = .ok (.invokevirtual 124, 3) := by decide +kernel
theorem dX12_thick_11 : decode cX12_thick 11 = .ok (.if_icmp .ge 26, 3) := by decide +kernel
theorem dX12_thick_14 : decode cX12_thick 14 = .ok (.iload_n 2, 1) := by decide +kernel
theorem dX12_thick_15 : decode cX12_thick 15 = .ok (.aload_n 0, 1) := by decide +kernel
theorem dX12_thick_16 : decode cX12_thick 16 = .ok (.iload_n 1, 1) := by decide +kernel
theorem dX12_thick_17 : decode cX12_thick 17 = .ok (.iload_n 3, 1) := by decide +kernel
theorem dX12_thick_18 : decode cX12_thick 18 = .ok (.invokevirtual 318, 3) := by decide +kernel
theorem dX12_thick_21 : decode cX12_thick 21 = .ok (.ifCond .eq 7, 3) := by decide +kernel
theorem dX12_thick_24 : decode cX12_thick 24 = .ok (.iconst 0, 1) := by decide +kernel
theorem dX12_thick_25 : decode cX12_thick 25 = .ok (.goto 4, 3) := by decide +kernel
theorem dX12_thick_28 : decode cX12_thick 28 = .ok (.iconst 1, 1) := by decide +kernel
theorem dX12_thick_29 : decode cX12_thick 29 = .ok (.iadd, 1) := by decide +kernel
theorem dX12_thick_30 : decode cX12_thick 30 = .ok (.istore_n 2, 1) := by decide +kernel
theorem dX12_thick_31 : decode cX12_thick 31 = .ok (.iinc 3 1, 3) := by decide +kernel
theorem dX12_thick_34 : decode cX12_thick 34 = .ok (.goto (-30), 3) := by decide +kernel
theorem dX12_thick_37 : decode cX12_thick 37 = .ok (.iload_n 2, 1) := by decide +kernel
theorem dX12_thick_38 : decode cX12_thick 38 = .ok (.ireturn, 1) := by decide +kernel
abbrev z_X12_thick_174 : Z9 := (some .int, 1, 0, 0, 4, 67)
def b_X12_thick_174_c4 (k_X12_thick_174_c4 : Int → Int → Int → D9 → Option R9) (v1 v2 v3 : Int) (d : D9) : Option R9 := cl (m_X12_ofSkin_174 v1 4 d) (fun r1 d2 => if w32 r1 ≤ w32 v3 then rt v2 d2 else cl (m_X12_isThinAt_174 v1 v3 d2) (fun r3 d4 => if w32 r3 = 0 then lt9v (v2 + 1) (fun a5 => k_X12_thick_174_c4 v1 a5 (v3 + 1) d4) else lt9v (v2 + 0) (fun a6 => k_X12_thick_174_c4 v1 a6 (v3 + 1) d4)))
def m_X12_thick_174_c4 : Int → Int → Int → D9 → Option R9 := fix9 (fun _ _ _ _ => none) (fun k => b_X12_thick_174_c4 k) FU
def m_X12_thick_174 (p1 : Int) (d : D9) : Option R9 := m_X12_thick_174_c4  p1 0 0 d
set_option maxRecDepth 100000 in
theorem sb_X12_thick_174_c4 {G : G9} {X : X9} (C : CX G X cX12_thick 4 RX12 [] z_X12_thick_174) (k_X12_thick_174_c4 : Int → Int → Int → D9 → Option R9) (hk_X12_thick_174_c4 : ∀ (v1 v2 v3 : Int) (d : D9), SS G X 4 0 0 4 [(0, rf G 174), (1, i9 v1), (2, i9 v2), (3, i9 v3)] [] d (k_X12_thick_174_c4 v1 v2 v3 d)) : ∀ (v1 v2 v3 : Int) (d : D9), SS G X 4 0 0 4 [(0, rf G 174), (1, i9 v1), (2, i9 v2), (3, i9 v3)] [] d (b_X12_thick_174_c4 k_X12_thick_174_c4 v1 v2 v3 d) := by
  intro v1 v2 v3 d
  unfold b_X12_thick_174_c4
  refine r_iload_n C 3 dX12_thick_4 rfl rfl ?_
  refine r_aload_n C 0 dX12_thick_5 rfl rfl ?_
  refine r_iload_n C 1 dX12_thick_6 rfl rfl ?_
  refine r_iconst C dX12_thick_7 ?_
  refine r_callV C [i9 4, i9 v1, rf G 174, i9 v3] dX12_thick_8 (t_X12_ofSkin_174 C.h1 C.h2 v1 4 d) mw_X12_124 mv_X12_ofSkin la_174 ly_174 rfl (by decide) (by decide) (by decide) rfl rfl (Nat.le_of_ble_eq_true rfl) (fun r1 d2 => ?_)
  show SS G X 4 _ _ 11 [(0, rf G 174), (1, i9 v1), (2, i9 v2), (3, i9 v3)] [i9 r1, i9 v3] d2 _
  refine r_icmp_ge C 37 dX12_thick_11 (by decide) (fun _ => ?_) (fun _ => ?_)
  · refine r_iload_n C 2 dX12_thick_37 rfl rfl ?_
    exact r_iret C dX12_thick_38 (by decide) (by decide)
  · refine r_iload_n C 2 dX12_thick_14 rfl rfl ?_
    refine r_aload_n C 0 dX12_thick_15 rfl rfl ?_
    refine r_iload_n C 1 dX12_thick_16 rfl rfl ?_
    refine r_iload_n C 3 dX12_thick_17 rfl rfl ?_
    refine r_callV C [i9 v3, i9 v1, rf G 174, i9 v2] dX12_thick_18 (t_X12_isThinAt_174 C.h1 C.h2 v1 v3 d2) mw_X12_318 mv_X12_isThinAt la_174 ly_174 rfl (by decide) (by decide) (by decide) rfl rfl (Nat.le_of_ble_eq_true rfl) (fun r3 d4 => ?_)
    show SS G X 4 _ _ 21 [(0, rf G 174), (1, i9 v1), (2, i9 v2), (3, i9 v3)] [i9 r3, i9 v2] d4 _
    refine r_if_eq C (b := 0) 28 dX12_thick_21 (by decide) (fun _ => ?_) (fun _ => ?_)
    · refine r_iconst C dX12_thick_28 ?_
      refine r_iadd C dX12_thick_29 ?_
      refine ss_lt (fun a5 => ?_)
      refine r_istore_n C [(2, i9 a5), (0, rf G 174), (1, i9 v1), (3, i9 v3)] dX12_thick_30 rfl (by decide) rfl ?_
      refine r_iinc C 3 [(3, i9 (v3 + 1)), (2, i9 a5), (0, rf G 174), (1, i9 v1)] dX12_thick_31 rfl (by decide) rfl ?_
      refine r_goto C 4 dX12_thick_34 (by decide) ?_
      refine ss_wide (k' := 0) (n' := 0) (by decide) (by decide) ?_
      refine ss_ls [(0, rf G 174), (1, i9 v1), (2, i9 a5), (3, i9 (v3 + 1))] [2, 3, 1, 0] rfl ?_
      exact hk_X12_thick_174_c4 v1 a5 (v3 + 1) d4
    · refine r_iconst C dX12_thick_24 ?_
      refine r_goto C 29 dX12_thick_25 (by decide) ?_
      refine r_iadd C dX12_thick_29 ?_
      refine ss_lt (fun a6 => ?_)
      refine r_istore_n C [(2, i9 a6), (0, rf G 174), (1, i9 v1), (3, i9 v3)] dX12_thick_30 rfl (by decide) rfl ?_
      refine r_iinc C 3 [(3, i9 (v3 + 1)), (2, i9 a6), (0, rf G 174), (1, i9 v1)] dX12_thick_31 rfl (by decide) rfl ?_
      refine r_goto C 4 dX12_thick_34 (by decide) ?_
      refine ss_wide (k' := 0) (n' := 0) (by decide) (by decide) ?_
      refine ss_ls [(0, rf G 174), (1, i9 v1), (2, i9 a6), (3, i9 (v3 + 1))] [2, 3, 1, 0] rfl ?_
      exact hk_X12_thick_174_c4 v1 a6 (v3 + 1) d4
theorem s_X12_thick_174_c4 {G : G9} {X : X9} (C : CX G X cX12_thick 4 RX12 [] z_X12_thick_174) : ∀ (v1 v2 v3 : Int) (d : D9), SS G X 4 0 0 4 [(0, rf G 174), (1, i9 v1), (2, i9 v2), (3, i9 v3)] [] d (m_X12_thick_174_c4  v1 v2 v3 d) :=
  fix9_ind (P := fun k => ∀ (v1 v2 v3 : Int) (d : D9), SS G X 4 0 0 4 [(0, rf G 174), (1, i9 v1), (2, i9 v2), (3, i9 v3)] [] d (k v1 v2 v3 d)) (fun _ _ _ _ => ss_none) (fun k hk => sb_X12_thick_174_c4 C k hk) FU
set_option maxRecDepth 100000 in
theorem t_X12_thick_174 {G : G9} {l : Launch} (h1 : va_D (A9 G) (wl G (fun _ _ => 0))) (h2 : l.stackTraces = false) (p1 : Int) (d : D9) : MT G l yX12_thick cX12_thick 4 z_X12_thick_174 [rf G 174, i9 p1] d (m_X12_thick_174 p1 d) := by
  refine mt_of (own := RX12) (by decide) rfl (Nat.le_of_ble_eq_true rfl) h1 h2 [(0, rf G 174), (1, i9 p1)] rfl (fun X hX C => ?_)
  unfold m_X12_thick_174
  refine r_iconst C dX12_thick_0 ?_
  refine r_istore_n C [(2, i9 0), (0, rf G 174), (1, i9 p1)] dX12_thick_1 rfl (by decide) rfl ?_
  refine r_iconst C dX12_thick_2 ?_
  refine r_istore_n C [(3, i9 0), (2, i9 0), (0, rf G 174), (1, i9 p1)] dX12_thick_3 rfl (by decide) rfl ?_
  refine ss_wide (k' := 0) (n' := 0) (by decide) (by decide) ?_
  refine ss_ls [(0, rf G 174), (1, i9 p1), (2, i9 0), (3, i9 0)] [2, 3, 1, 0] rfl ?_
  exact s_X12_thick_174_c4 C  p1 0 0 d
theorem dX12_spanOf_0 : decode cX12_spanOf 0 = .ok (.iload 4, 2) := by decide +kernel
theorem dX12_spanOf_2 : decode cX12_spanOf 2 = .ok (.ifCond .eq 34, 3) := by decide +kernel
theorem dX12_spanOf_5 : decode cX12_spanOf 5 = .ok (.aload_n 0, 1) := by decide +kernel
theorem dX12_spanOf_6 : decode cX12_spanOf 6 = .ok (.iload_n 1, 1) := by decide +kernel
theorem dX12_spanOf_7 : decode cX12_spanOf 7 = .ok (.bipush 100, 2) := by decide +kernel
theorem dX12_spanOf_9 : decode cX12_spanOf 9 = .ok (.aload_n 0, 1) := by decide +kernel
theorem dX12_spanOf_10 : decode cX12_spanOf 10 = .ok (.getfield 9, 3) := by decide +kernel
theorem dX12_spanOf_13 : decode cX12_spanOf 13 = .ok (.bipush 10, 2) := by decide +kernel
theorem dX12_spanOf_15 : decode cX12_spanOf 15 = .ok (.iaload, 1) := by decide +kernel
theorem dX12_spanOf_16 : decode cX12_spanOf 16 = .ok (.iadd, 1) := by decide +kernel
theorem dX12_spanOf_17 : decode cX12_spanOf 17 = .ok (.imul, 1) := by decide +kernel
theorem dX12_spanOf_18 : decode cX12_spanOf 18 = .ok (.bipush 100, 2) := by decide +kernel
theorem dX12_spanOf_20 : decode cX12_spanOf 20 = .ok (.idiv, 1) := by decide +kernel
theorem dX12_spanOf_21 : decode cX12_spanOf 21 = .ok (.iload_n 2, 1) := by decide +kernel
theorem dX12_spanOf_22 : decode cX12_spanOf 22 = .ok (.iload_n 3, 1) := by decide +kernel
theorem dX12_spanOf_23 : decode cX12_spanOf 23 = .ok (.aload_n 0, 1) := by decide +kernel
theorem dX12_spanOf_24 : decode cX12_spanOf 24 = .ok (.getfield 9, 3) := by decide +kernel
theorem dX12_spanOf_27 : decode cX12_spanOf 27 = .ok (.bipush 7, 2) := by decide +kernel
theorem dX12_spanOf_29 : decode cX12_spanOf 29 = .ok (.iaload, 1) := by decide +kernel
theorem dX12_spanOf_30 : decode cX12_spanOf 30 = .ok (.invokevirtual 303, 3) := by decide +kernel
theorem dX12_spanOf_33 : decode cX12_spanOf 33 = .ok (.goto 31, 3) := by decide +kernel
theorem dX12_spanOf_36 : decode cX12_spanOf 36 = .ok (.aload_n 0, 1) := by decide +kernel
theorem dX12_spanOf_37 : decode cX12_spanOf 37 = .ok (.iload_n 1, 1) := by decide +kernel
theorem dX12_spanOf_38 : decode cX12_spanOf 38 = .ok (.bipush 100, 2) := by decide +kernel
theorem dX12_spanOf_40 : decode cX12_spanOf 40 = .ok (.aload_n 0, 1) := by decide +kernel
theorem dX12_spanOf_41 : decode cX12_spanOf 41 = .ok (.getfield 9, 3) := by decide +kernel
theorem dX12_spanOf_44 : decode cX12_spanOf 44 = .ok (.bipush 10, 2) := by decide +kernel
theorem dX12_spanOf_46 : decode cX12_spanOf 46 = .ok (.iaload, 1) := by decide +kernel
theorem dX12_spanOf_47 : decode cX12_spanOf 47 = .ok (.isub, 1) := by decide +kernel
theorem dX12_spanOf_48 : decode cX12_spanOf 48 = .ok (.imul, 1) := by decide +kernel
theorem dX12_spanOf_49 : decode cX12_spanOf 49 = .ok (.bipush 100, 2) := by decide +kernel
theorem dX12_spanOf_51 : decode cX12_spanOf 51 = .ok (.idiv, 1) := by decide +kernel
theorem dX12_spanOf_52 : decode cX12_spanOf 52 = .ok (.iload_n 2, 1) := by decide +kernel
theorem dX12_spanOf_53 : decode cX12_spanOf 53 = .ok (.iload_n 3, 1) := by decide +kernel
theorem dX12_spanOf_54 : decode cX12_spanOf 54 = .ok (.aload_n 0, 1) := by decide +kernel
theorem dX12_spanOf_55 : decode cX12_spanOf 55 = .ok (.getfield 9, 3) := by decide +kernel
theorem dX12_spanOf_58 : decode cX12_spanOf 58 = .ok (.bipush 8, 2) := by decide +kernel
theorem dX12_spanOf_60 : decode cX12_spanOf 60 = .ok (.iaload, 1) := by decide +kernel
theorem dX12_spanOf_61 : decode cX12_spanOf 61 = .ok (.invokevirtual 303, 3) := by decide +kernel
theorem dX12_spanOf_64 : decode cX12_spanOf 64 = .ok (.ireturn, 1) := by decide +kernel
abbrev z_X12_spanOf_174 : Z9 := (some .int, 1, 0, 0, 4, 110)
def m_X12_spanOf_174 (p1 p2 p3 p4 : Int) (d : D9) : Option R9 := if w32 p4 = 0 then ld d 175 1604 10 (fun t1 => ld d 175 1604 8 (fun t2 => cl (m_X12_clock_174 (div9 (p1 * (100 - t1)) 100) p2 p3 t2 d) (fun r3 d4 => rt r3 d4))) else ld d 175 1604 10 (fun t5 => ld d 175 1604 7 (fun t6 => cl (m_X12_clock_174 (div9 (p1 * (100 + t5)) 100) p2 p3 t6 d) (fun r7 d8 => rt r7 d8)))
set_option maxRecDepth 100000 in
theorem t_X12_spanOf_174 {G : G9} {l : Launch} (h1 : va_D (A9 G) (wl G (fun _ _ => 0))) (h2 : l.stackTraces = false) (p1 p2 p3 p4 : Int) (d : D9) : MT G l yX12_spanOf cX12_spanOf 5 z_X12_spanOf_174 [rf G 174, i9 p1, i9 p2, i9 p3, i9 p4] d (m_X12_spanOf_174 p1 p2 p3 p4 d) := by
  refine mt_of (own := RX12) (by decide) rfl (Nat.le_of_ble_eq_true rfl) h1 h2 [(0, rf G 174), (1, i9 p1), (2, i9 p2), (3, i9 p3), (4, i9 p4)] rfl (fun X hX C => ?_)
  unfold m_X12_spanOf_174
  refine r_iload C 4 dX12_spanOf_0 rfl ?_
  refine r_if_eq C (b := 0) 36 dX12_spanOf_2 (by decide) (fun _ => ?_) (fun _ => ?_)
  · refine r_aload_n C 0 dX12_spanOf_36 rfl rfl ?_
    refine r_iload_n C 1 dX12_spanOf_37 rfl rfl ?_
    refine r_bipush C dX12_spanOf_38 rfl ?_
    refine r_aload_n C 0 dX12_spanOf_40 rfl rfl ?_
    refine r_getR C 175 dX12_spanOf_41 fl_X12_9 la_174 ly_174 rfl rfl ?_
    refine r_bipush C dX12_spanOf_44 rfl ?_
    refine r_iald C dX12_spanOf_46 la_175 ly_175 (fun t1 => ?_)
    refine r_isub C dX12_spanOf_47 ?_
    refine r_imul C dX12_spanOf_48 ?_
    refine r_bipush C dX12_spanOf_49 rfl ?_
    refine r_idiv C dX12_spanOf_51 (by decide) ?_
    refine r_iload_n C 2 dX12_spanOf_52 rfl rfl ?_
    refine r_iload_n C 3 dX12_spanOf_53 rfl rfl ?_
    refine r_aload_n C 0 dX12_spanOf_54 rfl rfl ?_
    refine r_getR C 175 dX12_spanOf_55 fl_X12_9 la_174 ly_174 rfl rfl ?_
    refine r_bipush C dX12_spanOf_58 rfl ?_
    refine r_iald C dX12_spanOf_60 la_175 ly_175 (fun t2 => ?_)
    refine r_callV C [i9 t2, i9 p3, i9 p2, i9 (div9 (p1 * (100 - t1)) 100), rf G 174] dX12_spanOf_61 (t_X12_clock_174 C.h1 C.h2 (div9 (p1 * (100 - t1)) 100) p2 p3 t2 d) mw_X12_303 mv_X12_clock la_174 ly_174 rfl (by decide) (by decide) (by decide) rfl rfl (Nat.le_of_ble_eq_true rfl) (fun r3 d4 => ?_)
    show SS G X 5 _ _ 64 [(0, rf G 174), (1, i9 p1), (2, i9 p2), (3, i9 p3), (4, i9 p4)] [i9 r3] d4 _
    exact r_iret C dX12_spanOf_64 (by decide) (by decide)
  · refine r_aload_n C 0 dX12_spanOf_5 rfl rfl ?_
    refine r_iload_n C 1 dX12_spanOf_6 rfl rfl ?_
    refine r_bipush C dX12_spanOf_7 rfl ?_
    refine r_aload_n C 0 dX12_spanOf_9 rfl rfl ?_
    refine r_getR C 175 dX12_spanOf_10 fl_X12_9 la_174 ly_174 rfl rfl ?_
    refine r_bipush C dX12_spanOf_13 rfl ?_
    refine r_iald C dX12_spanOf_15 la_175 ly_175 (fun t5 => ?_)
    refine r_iadd C dX12_spanOf_16 ?_
    refine r_imul C dX12_spanOf_17 ?_
    refine r_bipush C dX12_spanOf_18 rfl ?_
    refine r_idiv C dX12_spanOf_20 (by decide) ?_
    refine r_iload_n C 2 dX12_spanOf_21 rfl rfl ?_
    refine r_iload_n C 3 dX12_spanOf_22 rfl rfl ?_
    refine r_aload_n C 0 dX12_spanOf_23 rfl rfl ?_
    refine r_getR C 175 dX12_spanOf_24 fl_X12_9 la_174 ly_174 rfl rfl ?_
    refine r_bipush C dX12_spanOf_27 rfl ?_
    refine r_iald C dX12_spanOf_29 la_175 ly_175 (fun t6 => ?_)
    refine r_callV C [i9 t6, i9 p3, i9 p2, i9 (div9 (p1 * (100 + t5)) 100), rf G 174] dX12_spanOf_30 (t_X12_clock_174 C.h1 C.h2 (div9 (p1 * (100 + t5)) 100) p2 p3 t6 d) mw_X12_303 mv_X12_clock la_174 ly_174 rfl (by decide) (by decide) (by decide) rfl rfl (Nat.le_of_ble_eq_true rfl) (fun r7 d8 => ?_)
    show SS G X 5 _ _ 33 [(0, rf G 174), (1, i9 p1), (2, i9 p2), (3, i9 p3), (4, i9 p4)] [i9 r7] d8 _
    refine r_goto C 64 dX12_spanOf_33 (by decide) ?_
    exact r_iret C dX12_spanOf_64 (by decide) (by decide)
theorem dX12_spanAt_0 : decode cX12_spanAt 0 = .ok (.aload_n 0, 1) := by decide +kernel
theorem dX12_spanAt_1 : decode cX12_spanAt 1 = .ok (.aload_n 0, 1) := by decide +kernel
theorem dX12_spanAt_2 : decode cX12_spanAt 2 = .ok (.iload_n 1, 1) := by decide +kernel
theorem dX12_spanAt_3 : decode cX12_spanAt 3 = .ok (.iload_n 2, 1) := by decide +kernel
theorem dX12_spanAt_4 : decode cX12_spanAt 4 = .ok (.iconst 0, 1) := by decide +kernel
theorem dX12_spanAt_5 : decode cX12_spanAt 5 = .ok (.invokevirtual 307, 3) := by decide +kernel
theorem dX12_spanAt_8 : decode cX12_spanAt 8 = .ok (.aload_n 0, 1) := by decide +kernel
theorem dX12_spanAt_9 : decode cX12_spanAt 9 = .ok (.iload_n 1, 1) := by decide +kernel
theorem dX12_spanAt_10 : decode cX12_spanAt 10 = .ok (.iload_n 2, 1) := by decide +kernel
theorem dX12_spanAt_11 : decode cX12_spanAt 11 = .ok (.iconst 1, 1) := by decide +kernel
theorem dX12_spanAt_12 : decode cX12_spanAt 12 = .ok (.invokevirtual 307, 3) := by decide +kernel
theorem dX12_spanAt_15 : decode cX12_spanAt 15 = .ok (.aload_n 0, 1) := by decide +kernel
theorem dX12_spanAt_16 : decode cX12_spanAt 16 = .ok (.iload_n 1, 1) := by decide +kernel
theorem dX12_spanAt_17 : decode cX12_spanAt 17 = .ok (.iload_n 2, 1) := by decide +kernel
theorem dX12_spanAt_18 : decode cX12_spanAt 18 = .ok (.iconst 2, 1) := by decide +kernel
theorem dX12_spanAt_19 : decode cX12_spanAt 19 = .ok (.invokevirtual 307, 3) := by decide +kernel
theorem dX12_spanAt_22 : decode cX12_spanAt 22 = .ok (.iload_n 3, 1) := by decide +kernel
theorem dX12_spanAt_23 : decode cX12_spanAt 23 = .ok (.invokevirtual 314, 3) := by decide +kernel
theorem dX12_spanAt_26 : decode cX12_spanAt 26 = .ok (.ireturn, 1) := by decide +kernel
abbrev z_X12_spanAt_174 : Z9 := (some .int, 1, 0, 0, 5, 134)
def m_X12_spanAt_174 (p1 p2 p3 : Int) (d : D9) : Option R9 := cl (m_X12_counted_174 p1 p2 0 d) (fun r1 d2 => cl (m_X12_counted_174 p1 p2 1 d2) (fun r3 d4 => cl (m_X12_counted_174 p1 p2 2 d4) (fun r5 d6 => cl (m_X12_spanOf_174 r1 r3 r5 p3 d6) (fun r7 d8 => rt r7 d8))))
set_option maxRecDepth 100000 in
theorem t_X12_spanAt_174 {G : G9} {l : Launch} (h1 : va_D (A9 G) (wl G (fun _ _ => 0))) (h2 : l.stackTraces = false) (p1 p2 p3 : Int) (d : D9) : MT G l yX12_spanAt cX12_spanAt 4 z_X12_spanAt_174 [rf G 174, i9 p1, i9 p2, i9 p3] d (m_X12_spanAt_174 p1 p2 p3 d) := by
  refine mt_of (own := RX12) (by decide) rfl (Nat.le_of_ble_eq_true rfl) h1 h2 [(0, rf G 174), (1, i9 p1), (2, i9 p2), (3, i9 p3)] rfl (fun X hX C => ?_)
  unfold m_X12_spanAt_174
  refine r_aload_n C 0 dX12_spanAt_0 rfl rfl ?_
  refine r_aload_n C 0 dX12_spanAt_1 rfl rfl ?_
  refine r_iload_n C 1 dX12_spanAt_2 rfl rfl ?_
  refine r_iload_n C 2 dX12_spanAt_3 rfl rfl ?_
  refine r_iconst C dX12_spanAt_4 ?_
  refine r_callV C [i9 0, i9 p2, i9 p1, rf G 174, rf G 174] dX12_spanAt_5 (t_X12_counted_174 C.h1 C.h2 p1 p2 0 d) mw_X12_307 mv_X12_counted la_174 ly_174 rfl (by decide) (by decide) (by decide) rfl rfl (Nat.le_of_ble_eq_true rfl) (fun r1 d2 => ?_)
  show SS G X 4 _ _ 8 [(0, rf G 174), (1, i9 p1), (2, i9 p2), (3, i9 p3)] [i9 r1, rf G 174] d2 _
  refine r_aload_n C 0 dX12_spanAt_8 rfl rfl ?_
  refine r_iload_n C 1 dX12_spanAt_9 rfl rfl ?_
  refine r_iload_n C 2 dX12_spanAt_10 rfl rfl ?_
  refine r_iconst C dX12_spanAt_11 ?_
  refine r_callV C [i9 1, i9 p2, i9 p1, rf G 174, i9 r1, rf G 174] dX12_spanAt_12 (t_X12_counted_174 C.h1 C.h2 p1 p2 1 d2) mw_X12_307 mv_X12_counted la_174 ly_174 rfl (by decide) (by decide) (by decide) rfl rfl (Nat.le_of_ble_eq_true rfl) (fun r3 d4 => ?_)
  show SS G X 4 _ _ 15 [(0, rf G 174), (1, i9 p1), (2, i9 p2), (3, i9 p3)] [i9 r3, i9 r1, rf G 174] d4 _
  refine r_aload_n C 0 dX12_spanAt_15 rfl rfl ?_
  refine r_iload_n C 1 dX12_spanAt_16 rfl rfl ?_
  refine r_iload_n C 2 dX12_spanAt_17 rfl rfl ?_
  refine r_iconst C dX12_spanAt_18 ?_
  refine r_callV C [i9 2, i9 p2, i9 p1, rf G 174, i9 r3, i9 r1, rf G 174] dX12_spanAt_19 (t_X12_counted_174 C.h1 C.h2 p1 p2 2 d4) mw_X12_307 mv_X12_counted la_174 ly_174 rfl (by decide) (by decide) (by decide) rfl rfl (Nat.le_of_ble_eq_true rfl) (fun r5 d6 => ?_)
  show SS G X 4 _ _ 22 [(0, rf G 174), (1, i9 p1), (2, i9 p2), (3, i9 p3)] [i9 r5, i9 r3, i9 r1, rf G 174] d6 _
  refine r_iload_n C 3 dX12_spanAt_22 rfl rfl ?_
  refine r_callV C [i9 p3, i9 r5, i9 r3, i9 r1, rf G 174] dX12_spanAt_23 (t_X12_spanOf_174 C.h1 C.h2 r1 r3 r5 p3 d6) mw_X12_314 mv_X12_spanOf la_174 ly_174 rfl (by decide) (by decide) (by decide) rfl rfl (Nat.le_of_ble_eq_true rfl) (fun r7 d8 => ?_)
  show SS G X 4 _ _ 26 [(0, rf G 174), (1, i9 p1), (2, i9 p2), (3, i9 p3)] [i9 r7] d8 _
  exact r_iret C dX12_spanAt_26 (by decide) (by decide)
theorem dX12_isTurned_0 : decode cX12_isTurned 0 = .ok (.iconst 0, 1) := by decide +kernel
theorem dX12_isTurned_1 : decode cX12_isTurned 1 = .ok (.istore_n 2, 1) := by decide +kernel
theorem dX12_isTurned_2 : decode cX12_isTurned 2 = .ok (.iload_n 2, 1) := by decide +kernel
theorem dX12_isTurned_3 : decode cX12_isTurned 3 = .ok (.aload_n 0, 1) := by decide +kernel
theorem dX12_isTurned_4 : decode cX12_isTurned 4 = .ok (.iload_n 1, 1) := by decide +kernel
theorem dX12_isTurned_5 : decode cX12_isTurned 5 = .ok (.iconst 4, 1) := by decide +kernel
theorem dX12_isTurned_6 : decode cX12_isTurned 6 = .ok (.invokevirtual 124, 3) := by decide +kernel
theorem dX12_isTurned_9 : decode cX12_isTurned 9 = .ok (.if_icmp .ge 66, 3) := by decide +kernel
theorem dX12_isTurned_12 : decode cX12_isTurned 12 = .ok (.iload_n 2, 1) := by decide +kernel
theorem dX12_isTurned_13 : decode cX12_isTurned 13 = .ok (.iconst 1, 1) := by decide +kernel
theorem dX12_isTurned_14 : decode cX12_isTurned 14 = .ok (.iadd, 1) := by decide +kernel
theorem dX12_isTurned_15 : decode cX12_isTurned 15 = .ok (.istore_n 3, 1) := by decide +kernel
theorem dX12_isTurned_16 : decode cX12_isTurned 16 = .ok (.iload_n 3, 1) := by decide +kernel
theorem dX12_isTurned_17 : decode cX12_isTurned 17 = .ok (.aload_n 0, 1) := by decide +kernel
theorem dX12_isTurned_18 : decode cX12_isTurned 18 = .ok (.iload_n 1, 1) := by decide +kernel
theorem dX12_isTurned_19 : decode cX12_isTurned 19 = .ok (.iconst 4, 1) := by decide +kernel
theorem dX12_isTurned_20 : decode cX12_isTurned 20 = .ok (.invokevirtual 124, 3) := by decide +kernel
theorem dX12_isTurned_23 : decode cX12_isTurned 23 = .ok (.if_icmp .ge 46, 3) := by decide +kernel
theorem dX12_isTurned_26 : decode cX12_isTurned 26 = .ok (.aload_n 0, 1) := by decide +kernel
theorem dX12_isTurned_27 : decode cX12_isTurned 27 = .ok (.iload_n 1, 1) := by decide +kernel
theorem dX12_isTurned_28 : decode cX12_isTurned 28 = .ok (.iload_n 2, 1) := by decide +kernel
theorem dX12_isTurned_29 : decode cX12_isTurned 29 = .ok (.invokevirtual 318, 3) := by decide +kernel
theorem dX12_isTurned_32 : decode cX12_isTurned 32 = .ok (.ifCond .ne 31, 3) := by decide +kernel
theorem dX12_isTurned_35 : decode cX12_isTurned 35 = .ok (.aload_n 0, 1) := by decide +kernel
theorem dX12_isTurned_36 : decode cX12_isTurned 36 = .ok (.iload_n 1, 1) := by decide +kernel
theorem dX12_isTurned_37 : decode cX12_isTurned 37 = .ok (.iload_n 3, 1) := by decide +kernel
theorem dX12_isTurned_38 : decode cX12_isTurned 38 = .ok (.invokevirtual 318, 3) := by decide +kernel
theorem dX12_isTurned_41 : decode cX12_isTurned 41 = .ok (.ifCond .ne 22, 3) := by decide +kernel
theorem dX12_isTurned_44 : decode cX12_isTurned 44 = .ok (.aload_n 0, 1) := by decide +kernel
theorem dX12_isTurned_45 : decode cX12_isTurned 45 = .ok (.iload_n 1, 1) := by decide +kernel
theorem dX12_isTurned_46 : decode cX12_isTurned 46 = .ok (.iload_n 2, 1) := by decide +kernel
theorem dX12_isTurned_47 : decode cX12_isTurned 47 = .ok (.iconst 0, 1) := by decide +kernel
theorem dX12_isTurned_48 : decode cX12_isTurned 48 = .ok (.invokevirtual 321, 3) := by decide +kernel
theorem dX12_isTurned_51 : decode cX12_isTurned 51 = .ok (.aload_n 0, 1) := by decide +kernel
theorem dX12_isTurned_52 : decode cX12_isTurned 52 = .ok (.iload_n 1, 1) := by decide +kernel
theorem dX12_isTurned_53 : decode cX12_isTurned 53 = .ok (.iload_n 3, 1) := by decide +kernel
theorem dX12_isTurned_54 : decode cX12_isTurned 54 = .ok (.iconst 1, 1) := by decide +kernel
theorem dX12_isTurned_55 : decode cX12_isTurned 55 = .ok (.invokevirtual 321, 3) := by decide +kernel
theorem dX12_isTurned_58 : decode cX12_isTurned 58 = .ok (.if_icmp .le 5, 3) := by decide +kernel
theorem dX12_isTurned_61 : decode cX12_isTurned 61 = .ok (.iconst 1, 1) := by decide +kernel
theorem dX12_isTurned_62 : decode cX12_isTurned 62 = .ok (.ireturn, 1) := by decide +kernel
theorem dX12_isTurned_63 : decode cX12_isTurned 63 = .ok (.iinc 3 1, 3) := by decide +kernel
theorem dX12_isTurned_66 : decode cX12_isTurned 66 = .ok (.goto (-50), 3) := by decide +kernel
theorem dX12_isTurned_69 : decode cX12_isTurned 69 = .ok (.iinc 2 1, 3) := by decide +kernel
theorem dX12_isTurned_72 : decode cX12_isTurned 72 = .ok (.goto (-70), 3) := by decide +kernel
theorem dX12_isTurned_75 : decode cX12_isTurned 75 = .ok (.iconst 0, 1) := by decide +kernel
theorem dX12_isTurned_76 : decode cX12_isTurned 76 = .ok (.ireturn, 1) := by decide +kernel
abbrev z_X12_isTurned_174 : Z9 := (some .boolean, 1, 0, 0, 6, 157)
def b_X12_isTurned_174_c16 (k_X12_isTurned_174_c2 : Int → Int → D9 → Option R9) (k_X12_isTurned_174_c16 : Int → Int → Int → D9 → Option R9) (v1 v2 v3 : Int) (d : D9) : Option R9 := cl (m_X12_ofSkin_174 v1 4 d) (fun r1 d2 => if w32 r1 ≤ w32 v3 then k_X12_isTurned_174_c2 v1 (v2 + 1) d2 else cl (m_X12_isThinAt_174 v1 v2 d2) (fun r3 d4 => if w32 r3 ≠ 0 then k_X12_isTurned_174_c16 v1 v2 (v3 + 1) d4 else cl (m_X12_isThinAt_174 v1 v3 d4) (fun r5 d6 => if w32 r5 ≠ 0 then k_X12_isTurned_174_c16 v1 v2 (v3 + 1) d6 else cl (m_X12_spanAt_174 v1 v2 0 d6) (fun r7 d8 => cl (m_X12_spanAt_174 v1 v3 1 d8) (fun r9 d10 => if w32 r7 ≤ w32 r9 then k_X12_isTurned_174_c16 v1 v2 (v3 + 1) d10 else rt (1 % 2) d10)))))
def m_X12_isTurned_174_c16 (k_X12_isTurned_174_c2 : Int → Int → D9 → Option R9) : Int → Int → Int → D9 → Option R9 := fix9 (fun _ _ _ _ => none) (fun k => b_X12_isTurned_174_c16 k_X12_isTurned_174_c2 k) FU
def b_X12_isTurned_174_c2 (k_X12_isTurned_174_c2 : Int → Int → D9 → Option R9) (v1 v2 : Int) (d : D9) : Option R9 := cl (m_X12_ofSkin_174 v1 4 d) (fun r1 d2 => if w32 r1 ≤ w32 v2 then rt (0 % 2) d2 else lt9v (v2 + 1) (fun a3 => m_X12_isTurned_174_c16 k_X12_isTurned_174_c2 v1 v2 a3 d2))
def m_X12_isTurned_174_c2 : Int → Int → D9 → Option R9 := fix9 (fun _ _ _ => none) (fun k => b_X12_isTurned_174_c2 k) FU
def m_X12_isTurned_174 (p1 : Int) (d : D9) : Option R9 := m_X12_isTurned_174_c2  p1 0 d
set_option maxRecDepth 100000 in
theorem sb_X12_isTurned_174_c16 {G : G9} {X : X9} (C : CX G X cX12_isTurned 4 RX12 [] z_X12_isTurned_174) (k_X12_isTurned_174_c2 : Int → Int → D9 → Option R9) (hk_X12_isTurned_174_c2 : ∀ (v1 v2 : Int) (d : D9), SS G X 4 0 0 2 [(0, rf G 174), (1, i9 v1), (2, i9 v2)] [] d (k_X12_isTurned_174_c2 v1 v2 d)) (k_X12_isTurned_174_c16 : Int → Int → Int → D9 → Option R9) (hk_X12_isTurned_174_c16 : ∀ (v1 v2 v3 : Int) (d : D9), SS G X 4 0 0 16 [(0, rf G 174), (1, i9 v1), (2, i9 v2), (3, i9 v3)] [] d (k_X12_isTurned_174_c16 v1 v2 v3 d)) : ∀ (v1 v2 v3 : Int) (d : D9), SS G X 4 0 0 16 [(0, rf G 174), (1, i9 v1), (2, i9 v2), (3, i9 v3)] [] d (b_X12_isTurned_174_c16 k_X12_isTurned_174_c2 k_X12_isTurned_174_c16 v1 v2 v3 d) := by
  intro v1 v2 v3 d
  unfold b_X12_isTurned_174_c16
  refine r_iload_n C 3 dX12_isTurned_16 rfl rfl ?_
  refine r_aload_n C 0 dX12_isTurned_17 rfl rfl ?_
  refine r_iload_n C 1 dX12_isTurned_18 rfl rfl ?_
  refine r_iconst C dX12_isTurned_19 ?_
  refine r_callV C [i9 4, i9 v1, rf G 174, i9 v3] dX12_isTurned_20 (t_X12_ofSkin_174 C.h1 C.h2 v1 4 d) mw_X12_124 mv_X12_ofSkin la_174 ly_174 rfl (by decide) (by decide) (by decide) rfl rfl (Nat.le_of_ble_eq_true rfl) (fun r1 d2 => ?_)
  show SS G X 4 _ _ 23 [(0, rf G 174), (1, i9 v1), (2, i9 v2), (3, i9 v3)] [i9 r1, i9 v3] d2 _
  refine r_icmp_ge C 69 dX12_isTurned_23 (by decide) (fun _ => ?_) (fun _ => ?_)
  · refine r_iinc C 2 [(2, i9 (v2 + 1)), (0, rf G 174), (1, i9 v1), (3, i9 v3)] dX12_isTurned_69 rfl (by decide) rfl ?_
    refine r_goto C 2 dX12_isTurned_72 (by decide) ?_
    refine ss_wide (k' := 0) (n' := 0) (by decide) (by decide) ?_
    refine ss_ls [(0, rf G 174), (1, i9 v1), (2, i9 (v2 + 1))] [1, 2, 0] rfl ?_
    exact hk_X12_isTurned_174_c2 v1 (v2 + 1) d2
  · refine r_aload_n C 0 dX12_isTurned_26 rfl rfl ?_
    refine r_iload_n C 1 dX12_isTurned_27 rfl rfl ?_
    refine r_iload_n C 2 dX12_isTurned_28 rfl rfl ?_
    refine r_callV C [i9 v2, i9 v1, rf G 174] dX12_isTurned_29 (t_X12_isThinAt_174 C.h1 C.h2 v1 v2 d2) mw_X12_318 mv_X12_isThinAt la_174 ly_174 rfl (by decide) (by decide) (by decide) rfl rfl (Nat.le_of_ble_eq_true rfl) (fun r3 d4 => ?_)
    show SS G X 4 _ _ 32 [(0, rf G 174), (1, i9 v1), (2, i9 v2), (3, i9 v3)] [i9 r3] d4 _
    refine r_if_ne C (b := 0) 63 dX12_isTurned_32 (by decide) (fun _ => ?_) (fun _ => ?_)
    · refine r_iinc C 3 [(3, i9 (v3 + 1)), (0, rf G 174), (1, i9 v1), (2, i9 v2)] dX12_isTurned_63 rfl (by decide) rfl ?_
      refine r_goto C 16 dX12_isTurned_66 (by decide) ?_
      refine ss_wide (k' := 0) (n' := 0) (by decide) (by decide) ?_
      refine ss_ls [(0, rf G 174), (1, i9 v1), (2, i9 v2), (3, i9 (v3 + 1))] [1, 2, 3, 0] rfl ?_
      exact hk_X12_isTurned_174_c16 v1 v2 (v3 + 1) d4
    · refine r_aload_n C 0 dX12_isTurned_35 rfl rfl ?_
      refine r_iload_n C 1 dX12_isTurned_36 rfl rfl ?_
      refine r_iload_n C 3 dX12_isTurned_37 rfl rfl ?_
      refine r_callV C [i9 v3, i9 v1, rf G 174] dX12_isTurned_38 (t_X12_isThinAt_174 C.h1 C.h2 v1 v3 d4) mw_X12_318 mv_X12_isThinAt la_174 ly_174 rfl (by decide) (by decide) (by decide) rfl rfl (Nat.le_of_ble_eq_true rfl) (fun r5 d6 => ?_)
      show SS G X 4 _ _ 41 [(0, rf G 174), (1, i9 v1), (2, i9 v2), (3, i9 v3)] [i9 r5] d6 _
      refine r_if_ne C (b := 0) 63 dX12_isTurned_41 (by decide) (fun _ => ?_) (fun _ => ?_)
      · refine r_iinc C 3 [(3, i9 (v3 + 1)), (0, rf G 174), (1, i9 v1), (2, i9 v2)] dX12_isTurned_63 rfl (by decide) rfl ?_
        refine r_goto C 16 dX12_isTurned_66 (by decide) ?_
        refine ss_wide (k' := 0) (n' := 0) (by decide) (by decide) ?_
        refine ss_ls [(0, rf G 174), (1, i9 v1), (2, i9 v2), (3, i9 (v3 + 1))] [1, 2, 3, 0] rfl ?_
        exact hk_X12_isTurned_174_c16 v1 v2 (v3 + 1) d6
      · refine r_aload_n C 0 dX12_isTurned_44 rfl rfl ?_
        refine r_iload_n C 1 dX12_isTurned_45 rfl rfl ?_
        refine r_iload_n C 2 dX12_isTurned_46 rfl rfl ?_
        refine r_iconst C dX12_isTurned_47 ?_
        refine r_callV C [i9 0, i9 v2, i9 v1, rf G 174] dX12_isTurned_48 (t_X12_spanAt_174 C.h1 C.h2 v1 v2 0 d6) mw_X12_321 mv_X12_spanAt la_174 ly_174 rfl (by decide) (by decide) (by decide) rfl rfl (Nat.le_of_ble_eq_true rfl) (fun r7 d8 => ?_)
        show SS G X 4 _ _ 51 [(0, rf G 174), (1, i9 v1), (2, i9 v2), (3, i9 v3)] [i9 r7] d8 _
        refine r_aload_n C 0 dX12_isTurned_51 rfl rfl ?_
        refine r_iload_n C 1 dX12_isTurned_52 rfl rfl ?_
        refine r_iload_n C 3 dX12_isTurned_53 rfl rfl ?_
        refine r_iconst C dX12_isTurned_54 ?_
        refine r_callV C [i9 1, i9 v3, i9 v1, rf G 174, i9 r7] dX12_isTurned_55 (t_X12_spanAt_174 C.h1 C.h2 v1 v3 1 d8) mw_X12_321 mv_X12_spanAt la_174 ly_174 rfl (by decide) (by decide) (by decide) rfl rfl (Nat.le_of_ble_eq_true rfl) (fun r9 d10 => ?_)
        show SS G X 4 _ _ 58 [(0, rf G 174), (1, i9 v1), (2, i9 v2), (3, i9 v3)] [i9 r9, i9 r7] d10 _
        refine r_icmp_le C 63 dX12_isTurned_58 (by decide) (fun _ => ?_) (fun _ => ?_)
        · refine r_iinc C 3 [(3, i9 (v3 + 1)), (0, rf G 174), (1, i9 v1), (2, i9 v2)] dX12_isTurned_63 rfl (by decide) rfl ?_
          refine r_goto C 16 dX12_isTurned_66 (by decide) ?_
          refine ss_wide (k' := 0) (n' := 0) (by decide) (by decide) ?_
          refine ss_ls [(0, rf G 174), (1, i9 v1), (2, i9 v2), (3, i9 (v3 + 1))] [1, 2, 3, 0] rfl ?_
          exact hk_X12_isTurned_174_c16 v1 v2 (v3 + 1) d10
        · refine r_iconst C dX12_isTurned_61 ?_
          exact r_zret C dX12_isTurned_62 (by decide) (by decide)
theorem s_X12_isTurned_174_c16 {G : G9} {X : X9} (C : CX G X cX12_isTurned 4 RX12 [] z_X12_isTurned_174) (k_X12_isTurned_174_c2 : Int → Int → D9 → Option R9) (hk_X12_isTurned_174_c2 : ∀ (v1 v2 : Int) (d : D9), SS G X 4 0 0 2 [(0, rf G 174), (1, i9 v1), (2, i9 v2)] [] d (k_X12_isTurned_174_c2 v1 v2 d)) : ∀ (v1 v2 v3 : Int) (d : D9), SS G X 4 0 0 16 [(0, rf G 174), (1, i9 v1), (2, i9 v2), (3, i9 v3)] [] d (m_X12_isTurned_174_c16 k_X12_isTurned_174_c2 v1 v2 v3 d) :=
  fix9_ind (P := fun k => ∀ (v1 v2 v3 : Int) (d : D9), SS G X 4 0 0 16 [(0, rf G 174), (1, i9 v1), (2, i9 v2), (3, i9 v3)] [] d (k v1 v2 v3 d)) (fun _ _ _ _ => ss_none) (fun k hk => sb_X12_isTurned_174_c16 C k_X12_isTurned_174_c2 hk_X12_isTurned_174_c2 k hk) FU
set_option maxRecDepth 100000 in
theorem sb_X12_isTurned_174_c2 {G : G9} {X : X9} (C : CX G X cX12_isTurned 4 RX12 [] z_X12_isTurned_174) (k_X12_isTurned_174_c2 : Int → Int → D9 → Option R9) (hk_X12_isTurned_174_c2 : ∀ (v1 v2 : Int) (d : D9), SS G X 4 0 0 2 [(0, rf G 174), (1, i9 v1), (2, i9 v2)] [] d (k_X12_isTurned_174_c2 v1 v2 d)) : ∀ (v1 v2 : Int) (d : D9), SS G X 4 0 0 2 [(0, rf G 174), (1, i9 v1), (2, i9 v2)] [] d (b_X12_isTurned_174_c2 k_X12_isTurned_174_c2 v1 v2 d) := by
  intro v1 v2 d
  unfold b_X12_isTurned_174_c2
  refine r_iload_n C 2 dX12_isTurned_2 rfl rfl ?_
  refine r_aload_n C 0 dX12_isTurned_3 rfl rfl ?_
  refine r_iload_n C 1 dX12_isTurned_4 rfl rfl ?_
  refine r_iconst C dX12_isTurned_5 ?_
  refine r_callV C [i9 4, i9 v1, rf G 174, i9 v2] dX12_isTurned_6 (t_X12_ofSkin_174 C.h1 C.h2 v1 4 d) mw_X12_124 mv_X12_ofSkin la_174 ly_174 rfl (by decide) (by decide) (by decide) rfl rfl (Nat.le_of_ble_eq_true rfl) (fun r1 d2 => ?_)
  show SS G X 4 _ _ 9 [(0, rf G 174), (1, i9 v1), (2, i9 v2)] [i9 r1, i9 v2] d2 _
  refine r_icmp_ge C 75 dX12_isTurned_9 (by decide) (fun _ => ?_) (fun _ => ?_)
  · refine r_iconst C dX12_isTurned_75 ?_
    exact r_zret C dX12_isTurned_76 (by decide) (by decide)
  · refine r_iload_n C 2 dX12_isTurned_12 rfl rfl ?_
    refine r_iconst C dX12_isTurned_13 ?_
    refine r_iadd C dX12_isTurned_14 ?_
    refine ss_lt (fun a3 => ?_)
    refine r_istore_n C [(3, i9 a3), (0, rf G 174), (1, i9 v1), (2, i9 v2)] dX12_isTurned_15 rfl (by decide) rfl ?_
    refine ss_wide (k' := 0) (n' := 0) (by decide) (by decide) ?_
    refine ss_ls [(0, rf G 174), (1, i9 v1), (2, i9 v2), (3, i9 a3)] [1, 2, 3, 0] rfl ?_
    exact s_X12_isTurned_174_c16 C k_X12_isTurned_174_c2 hk_X12_isTurned_174_c2 v1 v2 a3 d2
theorem s_X12_isTurned_174_c2 {G : G9} {X : X9} (C : CX G X cX12_isTurned 4 RX12 [] z_X12_isTurned_174) : ∀ (v1 v2 : Int) (d : D9), SS G X 4 0 0 2 [(0, rf G 174), (1, i9 v1), (2, i9 v2)] [] d (m_X12_isTurned_174_c2  v1 v2 d) :=
  fix9_ind (P := fun k => ∀ (v1 v2 : Int) (d : D9), SS G X 4 0 0 2 [(0, rf G 174), (1, i9 v1), (2, i9 v2)] [] d (k v1 v2 d)) (fun _ _ _ => ss_none) (fun k hk => sb_X12_isTurned_174_c2 C k hk) FU
set_option maxRecDepth 100000 in
theorem t_X12_isTurned_174 {G : G9} {l : Launch} (h1 : va_D (A9 G) (wl G (fun _ _ => 0))) (h2 : l.stackTraces = false) (p1 : Int) (d : D9) : MT G l yX12_isTurned cX12_isTurned 4 z_X12_isTurned_174 [rf G 174, i9 p1] d (m_X12_isTurned_174 p1 d) := by
  refine mt_of (own := RX12) (by decide) rfl (Nat.le_of_ble_eq_true rfl) h1 h2 [(0, rf G 174), (1, i9 p1)] rfl (fun X hX C => ?_)
  unfold m_X12_isTurned_174
  refine r_iconst C dX12_isTurned_0 ?_
  refine r_istore_n C [(2, i9 0), (0, rf G 174), (1, i9 p1)] dX12_isTurned_1 rfl (by decide) rfl ?_
  refine ss_wide (k' := 0) (n' := 0) (by decide) (by decide) ?_
  refine ss_ls [(0, rf G 174), (1, i9 p1), (2, i9 0)] [1, 2, 0] rfl ?_
  exact s_X12_isTurned_174_c2 C  p1 0 d
theorem dX12_sortOf_0 : decode cX12_sortOf 0 = .ok (.aload_n 0, 1) := by decide +kernel
theorem dX12_sortOf_1 : decode cX12_sortOf 1 = .ok (.iload_n 1, 1) := by decide +kernel
theorem dX12_sortOf_2 : decode cX12_sortOf 2 = .ok (.iconst 4, 1) := by decide +kernel
theorem dX12_sortOf_3 : decode cX12_sortOf 3 = .ok (.invokevirtual 124, 3) := by decide +kernel
theorem dX12_sortOf_6 : decode cX12_sortOf 6 = .ok (.ifCond .ne 7, 3) := by decide +kernel
theorem dX12_sortOf_9 : decode cX12_sortOf 9 = .ok (.iconst 0, 1) := by decide +kernel
theorem dX12_sortOf_10 : decode cX12_sortOf 10 = .ok (.goto 35, 3) := by decide +kernel
theorem dX12_sortOf_13 : decode cX12_sortOf 13 = .ok (.aload_n 0, 1) := by decide +kernel
theorem dX12_sortOf_14 : decode cX12_sortOf 14 = .ok (.iload_n 1, 1) := by decide +kernel
theorem dX12_sortOf_15 : decode cX12_sortOf 15 = .ok (.invokevirtual 325, 3) := by decide +kernel
theorem dX12_sortOf_18 : decode cX12_sortOf 18 = .ok (.ifCond .ne 7, 3) := by decide +kernel
theorem dX12_sortOf_21 : decode cX12_sortOf 21 = .ok (.iconst 1, 1) := by decide +kernel
theorem dX12_sortOf_22 : decode cX12_sortOf 22 = .ok (.goto 23, 3) := by decide +kernel
theorem dX12_sortOf_25 : decode cX12_sortOf 25 = .ok (.aload_n 0, 1) := by decide +kernel
theorem dX12_sortOf_26 : decode cX12_sortOf 26 = .ok (.iload_n 1, 1) := by decide +kernel
theorem dX12_sortOf_27 : decode cX12_sortOf 27 = .ok (.invokevirtual 328, 3) := by decide +kernel
theorem dX12_sortOf_30 : decode cX12_sortOf 30 = .ok (.ifCond .eq 7, 3) := by decide +kernel
theorem dX12_sortOf_33 : decode cX12_sortOf 33 = .ok (.iconst 2, 1) := by decide +kernel
theorem dX12_sortOf_34 : decode cX12_sortOf 34 = .ok (.goto 11, 3) := by decide +kernel
theorem dX12_sortOf_37 : decode cX12_sortOf 37 = .ok (.iconst 3, 1) := by decide +kernel
theorem dX12_sortOf_38 : decode cX12_sortOf 38 = .ok (.aload_n 0, 1) := by decide +kernel
theorem dX12_sortOf_39 : decode cX12_sortOf 39 = .ok (.iload_n 1, 1) := by decide +kernel
theorem dX12_sortOf_40 : decode cX12_sortOf 40 = .ok (.iconst 1, 1) := by decide +kernel
theorem dX12_sortOf_41 : decode cX12_sortOf 41 = .ok (.invokevirtual 124, 3) := by decide +kernel
theorem dX12_sortOf_44 : decode cX12_sortOf 44 = .ok (.iadd, 1) := by decide +kernel
theorem dX12_sortOf_45 : decode cX12_sortOf 45 = .ok (.ireturn, 1) := by decide +kernel
abbrev z_X12_sortOf_174 : Z9 := (some .int, 1, 0, 0, 7, 180)
def m_X12_sortOf_174 (p1 : Int) (d : D9) : Option R9 := cl (m_X12_ofSkin_174 p1 4 d) (fun r1 d2 => if w32 r1 ≠ 0 then cl (m_X12_thick_174 p1 d2) (fun r3 d4 => if w32 r3 ≠ 0 then cl (m_X12_isTurned_174 p1 d4) (fun r5 d6 => if w32 r5 = 0 then cl (m_X12_ofSkin_174 p1 1 d6) (fun r7 d8 => rt (3 + r7) d8) else rt 2 d6) else rt 1 d4) else rt 0 d2)
set_option maxRecDepth 100000 in
theorem t_X12_sortOf_174 {G : G9} {l : Launch} (h1 : va_D (A9 G) (wl G (fun _ _ => 0))) (h2 : l.stackTraces = false) (p1 : Int) (d : D9) : MT G l yX12_sortOf cX12_sortOf 2 z_X12_sortOf_174 [rf G 174, i9 p1] d (m_X12_sortOf_174 p1 d) := by
  refine mt_of (own := RX12) (by decide) rfl (Nat.le_of_ble_eq_true rfl) h1 h2 [(0, rf G 174), (1, i9 p1)] rfl (fun X hX C => ?_)
  unfold m_X12_sortOf_174
  refine r_aload_n C 0 dX12_sortOf_0 rfl rfl ?_
  refine r_iload_n C 1 dX12_sortOf_1 rfl rfl ?_
  refine r_iconst C dX12_sortOf_2 ?_
  refine r_callV C [i9 4, i9 p1, rf G 174] dX12_sortOf_3 (t_X12_ofSkin_174 C.h1 C.h2 p1 4 d) mw_X12_124 mv_X12_ofSkin la_174 ly_174 rfl (by decide) (by decide) (by decide) rfl rfl (Nat.le_of_ble_eq_true rfl) (fun r1 d2 => ?_)
  show SS G X 2 _ _ 6 [(0, rf G 174), (1, i9 p1)] [i9 r1] d2 _
  refine r_if_ne C (b := 0) 13 dX12_sortOf_6 (by decide) (fun _ => ?_) (fun _ => ?_)
  · refine r_aload_n C 0 dX12_sortOf_13 rfl rfl ?_
    refine r_iload_n C 1 dX12_sortOf_14 rfl rfl ?_
    refine r_callV C [i9 p1, rf G 174] dX12_sortOf_15 (t_X12_thick_174 C.h1 C.h2 p1 d2) mw_X12_325 mv_X12_thick la_174 ly_174 rfl (by decide) (by decide) (by decide) rfl rfl (Nat.le_of_ble_eq_true rfl) (fun r3 d4 => ?_)
    show SS G X 2 _ _ 18 [(0, rf G 174), (1, i9 p1)] [i9 r3] d4 _
    refine r_if_ne C (b := 0) 25 dX12_sortOf_18 (by decide) (fun _ => ?_) (fun _ => ?_)
    · refine r_aload_n C 0 dX12_sortOf_25 rfl rfl ?_
      refine r_iload_n C 1 dX12_sortOf_26 rfl rfl ?_
      refine r_callV C [i9 p1, rf G 174] dX12_sortOf_27 (t_X12_isTurned_174 C.h1 C.h2 p1 d4) mw_X12_328 mv_X12_isTurned la_174 ly_174 rfl (by decide) (by decide) (by decide) rfl rfl (Nat.le_of_ble_eq_true rfl) (fun r5 d6 => ?_)
      show SS G X 2 _ _ 30 [(0, rf G 174), (1, i9 p1)] [i9 r5] d6 _
      refine r_if_eq C (b := 0) 37 dX12_sortOf_30 (by decide) (fun _ => ?_) (fun _ => ?_)
      · refine r_iconst C dX12_sortOf_37 ?_
        refine r_aload_n C 0 dX12_sortOf_38 rfl rfl ?_
        refine r_iload_n C 1 dX12_sortOf_39 rfl rfl ?_
        refine r_iconst C dX12_sortOf_40 ?_
        refine r_callV C [i9 1, i9 p1, rf G 174, i9 3] dX12_sortOf_41 (t_X12_ofSkin_174 C.h1 C.h2 p1 1 d6) mw_X12_124 mv_X12_ofSkin la_174 ly_174 rfl (by decide) (by decide) (by decide) rfl rfl (Nat.le_of_ble_eq_true rfl) (fun r7 d8 => ?_)
        show SS G X 2 _ _ 44 [(0, rf G 174), (1, i9 p1)] [i9 r7, i9 3] d8 _
        refine r_iadd C dX12_sortOf_44 ?_
        exact r_iret C dX12_sortOf_45 (by decide) (by decide)
      · refine r_iconst C dX12_sortOf_33 ?_
        refine r_goto C 45 dX12_sortOf_34 (by decide) ?_
        exact r_iret C dX12_sortOf_45 (by decide) (by decide)
    · refine r_iconst C dX12_sortOf_21 ?_
      refine r_goto C 45 dX12_sortOf_22 (by decide) ?_
      exact r_iret C dX12_sortOf_45 (by decide) (by decide)
  · refine r_iconst C dX12_sortOf_9 ?_
    refine r_goto C 45 dX12_sortOf_10 (by decide) ?_
    exact r_iret C dX12_sortOf_45 (by decide) (by decide)
theorem dX12_saysOf_0 : decode cX12_saysOf 0 = .ok (.aload_n 0, 1) := by decide +kernel
theorem dX12_saysOf_1 : decode cX12_saysOf 1 = .ok (.iload_n 1, 1) := by decide +kernel
theorem dX12_saysOf_2 : decode cX12_saysOf 2 = .ok (.invokevirtual 331, 3) := by decide +kernel
theorem dX12_saysOf_5 : decode cX12_saysOf 5 = .ok (.istore_n 2, 1) := by decide +kernel
theorem dX12_saysOf_6 : decode cX12_saysOf 6 = .ok (.aload_n 0, 1) := by decide +kernel
theorem dX12_saysOf_7 : decode cX12_saysOf 7 = .ok (.iload_n 1, 1) := by decide +kernel
theorem dX12_saysOf_8 : decode cX12_saysOf 8 = .ok (.iconst 4, 1) := by decide +kernel
theorem dX12_saysOf_9 : decode cX12_saysOf 9 = .ok (.invokevirtual 124, 3) := by decide +kernel
theorem dX12_saysOf_12 : decode cX12_saysOf 12 = .ok (.istore_n 3, 1) := by decide +kernel
theorem dX12_saysOf_13 : decode cX12_saysOf 13 = .ok (.iload_n 2, 1) := by decide +kernel
theorem dX12_saysOf_14 : decode cX12_saysOf 14 = .ok (.iconst 4, 1) := by decide +kernel
theorem dX12_saysOf_15 : decode cX12_saysOf 15 = .ok (.if_icmp .ne 38, 3) := by decide +kernel
theorem dX12_saysOf_18 : decode cX12_saysOf 18 = .ok (.iload_n 3, 1) := by decide +kernel
theorem dX12_saysOf_19 : decode cX12_saysOf 19 = .ok (.iconst 1, 1) := by decide +kernel
theorem dX12_saysOf_20 : decode cX12_saysOf 20 = .ok (.isub, 1) := by decide +kernel
theorem dX12_saysOf_21 : decode cX12_saysOf 21 = .ok (.istore 4, 2) := by decide +kernel
theorem dX12_saysOf_23 : decode cX12_saysOf 23 = .ok (.iload 4, 2) := by decide +kernel
theorem dX12_saysOf_25 : decode cX12_saysOf 25 = .ok (.ifCond .lt 28, 3) := by decide +kernel
theorem dX12_saysOf_28 : decode cX12_saysOf 28 = .ok (.aload_n 0, 1) := by decide +kernel
theorem dX12_saysOf_29 : decode cX12_saysOf 29 = .ok (.iload_n 1, 1) := by decide +kernel
theorem dX12_saysOf_30 : decode cX12_saysOf 30 = .ok (.iload 4, 2) := by decide +kernel
theorem dX12_saysOf_32 : decode cX12_saysOf 32 = .ok (.invokevirtual 318, 3) := by decide +kernel
theorem dX12_saysOf_35 : decode cX12_saysOf 35 = .ok (.ifCond .ne 12, 3) := by decide +kernel
theorem dX12_saysOf_38 : decode cX12_saysOf 38 = .ok (.aload_n 0, 1) := by decide +kernel
theorem dX12_saysOf_39 : decode cX12_saysOf 39 = .ok (.iload_n 1, 1) := by decide +kernel
theorem dX12_saysOf_40 : decode cX12_saysOf 40 = .ok (.iload 4, 2) := by decide +kernel
theorem dX12_saysOf_42 : decode cX12_saysOf 42 = .ok (.iconst 0, 1) := by decide +kernel
theorem dX12_saysOf_43 : decode cX12_saysOf 43 = .ok (.invokevirtual 321, 3) := by decide +kernel
theorem dX12_saysOf_46 : decode cX12_saysOf 46 = .ok (.ireturn, 1) := by decide +kernel
theorem dX12_saysOf_47 : decode cX12_saysOf 47 = .ok (.iinc 4 (-1), 3) := by decide +kernel
theorem dX12_saysOf_50 : decode cX12_saysOf 50 = .ok (.goto (-27), 3) := by decide +kernel
theorem dX12_saysOf_53 : decode cX12_saysOf 53 = .ok (.iload_n 2, 1) := by decide +kernel
theorem dX12_saysOf_54 : decode cX12_saysOf 54 = .ok (.iconst 5, 1) := by decide +kernel
theorem dX12_saysOf_55 : decode cX12_saysOf 55 = .ok (.if_icmp .ne 37, 3) := by decide +kernel
theorem dX12_saysOf_58 : decode cX12_saysOf 58 = .ok (.iconst 0, 1) := by decide +kernel
theorem dX12_saysOf_59 : decode cX12_saysOf 59 = .ok (.istore 4, 2) := by decide +kernel
theorem dX12_saysOf_61 : decode cX12_saysOf 61 = .ok (.iload 4, 2) := by decide +kernel
theorem dX12_saysOf_63 : decode cX12_saysOf 63 = .ok (.iload_n 3, 1) := by decide +kernel
theorem dX12_saysOf_64 : decode cX12_saysOf 64 = .ok (.if_icmp .ge 28, 3) := by decide +kernel
theorem dX12_saysOf_67 : decode cX12_saysOf 67 = .ok (.aload_n 0, 1) := by decide +kernel
theorem dX12_saysOf_68 : decode cX12_saysOf 68 = .ok (.iload_n 1, 1) := by decide +kernel
theorem dX12_saysOf_69 : decode cX12_saysOf 69 = .ok (.iload 4, 2) := by decide +kernel
theorem dX12_saysOf_71 : decode cX12_saysOf 71 = .ok (.invokevirtual 318, 3) := by decide +kernel
theorem dX12_saysOf_74 : decode cX12_saysOf 74 = .ok (.ifCond .ne 12, 3) := by decide +kernel
theorem dX12_saysOf_77 : decode cX12_saysOf 77 = .ok (.aload_n 0, 1) := by decide +kernel
theorem dX12_saysOf_78 : decode cX12_saysOf 78 = .ok (.iload_n 1, 1) := by decide +kernel
theorem dX12_saysOf_79 : decode cX12_saysOf 79 = .ok (.iload 4, 2) := by decide +kernel
theorem dX12_saysOf_81 : decode cX12_saysOf 81 = .ok (.iconst 1, 1) := by decide +kernel
theorem dX12_saysOf_82 : decode cX12_saysOf 82 = .ok (.invokevirtual 321, 3) := by decide +kernel
theorem dX12_saysOf_85 : decode cX12_saysOf 85 = .ok (.ireturn, 1) := by decide +kernel
theorem dX12_saysOf_86 : decode cX12_saysOf 86 = .ok (.iinc 4 1, 3) := by decide +kernel
theorem dX12_saysOf_89 : decode cX12_saysOf 89 = .ok (.goto (-28), 3) := by decide +kernel
theorem dX12_saysOf_92 : decode cX12_saysOf 92 = .ok (.iconst (-1), 1) := by decide +kernel
theorem dX12_saysOf_93 : decode cX12_saysOf 93 = .ok (.ireturn, 1) := by decide +kernel
abbrev z_X12_saysOf_174 : Z9 := (some .int, 1, 0, 0, 8, 201)
def b_X12_saysOf_174_c61 (k_X12_saysOf_174_c61 : Int → Int → Int → D9 → Option R9) (v1 v3 v4 : Int) (d : D9) : Option R9 := if w32 v3 ≤ w32 v4 then rt (-1) d else cl (m_X12_isThinAt_174 v1 v4 d) (fun r1 d2 => if w32 r1 ≠ 0 then k_X12_saysOf_174_c61 v1 v3 (v4 + 1) d2 else cl (m_X12_spanAt_174 v1 v4 1 d2) (fun r3 d4 => rt r3 d4))
def m_X12_saysOf_174_c61 : Int → Int → Int → D9 → Option R9 := fix9 (fun _ _ _ _ => none) (fun k => b_X12_saysOf_174_c61 k) FU
def m_X12_saysOf_174_c53 (v1 v2 v3 : Int) (d : D9) : Option R9 := if w32 v2 ≠ w32 5 then rt (-1) d else m_X12_saysOf_174_c61  v1 v3 0 d
def b_X12_saysOf_174_c23 (k_X12_saysOf_174_c23 : Int → Int → Int → Int → D9 → Option R9) (v1 v2 v3 v4 : Int) (d : D9) : Option R9 := if w32 v4 < 0 then m_X12_saysOf_174_c53  v1 v2 v3 d else cl (m_X12_isThinAt_174 v1 v4 d) (fun r1 d2 => if w32 r1 ≠ 0 then k_X12_saysOf_174_c23 v1 v2 v3 (v4 + (-1)) d2 else cl (m_X12_spanAt_174 v1 v4 0 d2) (fun r3 d4 => rt r3 d4))
def m_X12_saysOf_174_c23 : Int → Int → Int → Int → D9 → Option R9 := fix9 (fun _ _ _ _ _ => none) (fun k => b_X12_saysOf_174_c23 k) FU
def m_X12_saysOf_174 (p1 : Int) (d : D9) : Option R9 := cl (m_X12_sortOf_174 p1 d) (fun r1 d2 => cl (m_X12_ofSkin_174 p1 4 d2) (fun r3 d4 => if w32 r1 ≠ w32 4 then m_X12_saysOf_174_c53  p1 r1 r3 d4 else lt9v (r3 - 1) (fun a5 => m_X12_saysOf_174_c23  p1 r1 r3 a5 d4)))
set_option maxRecDepth 100000 in
theorem sb_X12_saysOf_174_c61 {G : G9} {X : X9} (C : CX G X cX12_saysOf 5 RX12 [] z_X12_saysOf_174) (k_X12_saysOf_174_c61 : Int → Int → Int → D9 → Option R9) (hk_X12_saysOf_174_c61 : ∀ (v1 v3 v4 : Int) (d : D9), SS G X 5 0 0 61 [(0, rf G 174), (1, i9 v1), (3, i9 v3), (4, i9 v4)] [] d (k_X12_saysOf_174_c61 v1 v3 v4 d)) : ∀ (v1 v3 v4 : Int) (d : D9), SS G X 5 0 0 61 [(0, rf G 174), (1, i9 v1), (3, i9 v3), (4, i9 v4)] [] d (b_X12_saysOf_174_c61 k_X12_saysOf_174_c61 v1 v3 v4 d) := by
  intro v1 v3 v4 d
  unfold b_X12_saysOf_174_c61
  refine r_iload C 3 dX12_saysOf_61 rfl ?_
  refine r_iload_n C 2 dX12_saysOf_63 rfl rfl ?_
  refine r_icmp_ge C 92 dX12_saysOf_64 (by decide) (fun _ => ?_) (fun _ => ?_)
  · refine r_iconst C dX12_saysOf_92 ?_
    exact r_iret C dX12_saysOf_93 (by decide) (by decide)
  · refine r_aload_n C 0 dX12_saysOf_67 rfl rfl ?_
    refine r_iload_n C 1 dX12_saysOf_68 rfl rfl ?_
    refine r_iload C 3 dX12_saysOf_69 rfl ?_
    refine r_callV C [i9 v4, i9 v1, rf G 174] dX12_saysOf_71 (t_X12_isThinAt_174 C.h1 C.h2 v1 v4 d) mw_X12_318 mv_X12_isThinAt la_174 ly_174 rfl (by decide) (by decide) (by decide) rfl rfl (Nat.le_of_ble_eq_true rfl) (fun r1 d2 => ?_)
    show SS G X 5 _ _ 74 [(0, rf G 174), (1, i9 v1), (3, i9 v3), (4, i9 v4)] [i9 r1] d2 _
    refine r_if_ne C (b := 0) 86 dX12_saysOf_74 (by decide) (fun _ => ?_) (fun _ => ?_)
    · refine r_iinc C 3 [(4, i9 (v4 + 1)), (0, rf G 174), (1, i9 v1), (3, i9 v3)] dX12_saysOf_86 rfl (by decide) rfl ?_
      refine r_goto C 61 dX12_saysOf_89 (by decide) ?_
      refine ss_wide (k' := 0) (n' := 0) (by decide) (by decide) ?_
      refine ss_ls [(0, rf G 174), (1, i9 v1), (3, i9 v3), (4, i9 (v4 + 1))] [1, 2, 3, 0] rfl ?_
      exact hk_X12_saysOf_174_c61 v1 v3 (v4 + 1) d2
    · refine r_aload_n C 0 dX12_saysOf_77 rfl rfl ?_
      refine r_iload_n C 1 dX12_saysOf_78 rfl rfl ?_
      refine r_iload C 3 dX12_saysOf_79 rfl ?_
      refine r_iconst C dX12_saysOf_81 ?_
      refine r_callV C [i9 1, i9 v4, i9 v1, rf G 174] dX12_saysOf_82 (t_X12_spanAt_174 C.h1 C.h2 v1 v4 1 d2) mw_X12_321 mv_X12_spanAt la_174 ly_174 rfl (by decide) (by decide) (by decide) rfl rfl (Nat.le_of_ble_eq_true rfl) (fun r3 d4 => ?_)
      show SS G X 5 _ _ 85 [(0, rf G 174), (1, i9 v1), (3, i9 v3), (4, i9 v4)] [i9 r3] d4 _
      exact r_iret C dX12_saysOf_85 (by decide) (by decide)
theorem s_X12_saysOf_174_c61 {G : G9} {X : X9} (C : CX G X cX12_saysOf 5 RX12 [] z_X12_saysOf_174) : ∀ (v1 v3 v4 : Int) (d : D9), SS G X 5 0 0 61 [(0, rf G 174), (1, i9 v1), (3, i9 v3), (4, i9 v4)] [] d (m_X12_saysOf_174_c61  v1 v3 v4 d) :=
  fix9_ind (P := fun k => ∀ (v1 v3 v4 : Int) (d : D9), SS G X 5 0 0 61 [(0, rf G 174), (1, i9 v1), (3, i9 v3), (4, i9 v4)] [] d (k v1 v3 v4 d)) (fun _ _ _ _ => ss_none) (fun k hk => sb_X12_saysOf_174_c61 C k hk) FU
set_option maxRecDepth 100000 in
theorem s_X12_saysOf_174_c53 {G : G9} {X : X9} (C : CX G X cX12_saysOf 5 RX12 [] z_X12_saysOf_174) : ∀ (v1 v2 v3 : Int) (d : D9), SS G X 5 0 0 53 [(0, rf G 174), (1, i9 v1), (2, i9 v2), (3, i9 v3)] [] d (m_X12_saysOf_174_c53  v1 v2 v3 d) := by
  intro v1 v2 v3 d
  unfold m_X12_saysOf_174_c53
  refine r_iload_n C 2 dX12_saysOf_53 rfl rfl ?_
  refine r_iconst C dX12_saysOf_54 ?_
  refine r_icmp_ne C 92 dX12_saysOf_55 (by decide) (fun _ => ?_) (fun _ => ?_)
  · refine r_iconst C dX12_saysOf_92 ?_
    exact r_iret C dX12_saysOf_93 (by decide) (by decide)
  · refine r_iconst C dX12_saysOf_58 ?_
    refine r_istore C [(4, i9 0), (0, rf G 174), (1, i9 v1), (2, i9 v2), (3, i9 v3)] dX12_saysOf_59 (by decide) rfl ?_
    refine ss_wide (k' := 0) (n' := 0) (by decide) (by decide) ?_
    refine ss_ls [(0, rf G 174), (1, i9 v1), (3, i9 v3), (4, i9 0)] [1, 2, 4, 0] rfl ?_
    exact s_X12_saysOf_174_c61 C  v1 v3 0 d
set_option maxRecDepth 100000 in
theorem sb_X12_saysOf_174_c23 {G : G9} {X : X9} (C : CX G X cX12_saysOf 5 RX12 [] z_X12_saysOf_174) (k_X12_saysOf_174_c23 : Int → Int → Int → Int → D9 → Option R9) (hk_X12_saysOf_174_c23 : ∀ (v1 v2 v3 v4 : Int) (d : D9), SS G X 5 0 0 23 [(0, rf G 174), (1, i9 v1), (2, i9 v2), (3, i9 v3), (4, i9 v4)] [] d (k_X12_saysOf_174_c23 v1 v2 v3 v4 d)) : ∀ (v1 v2 v3 v4 : Int) (d : D9), SS G X 5 0 0 23 [(0, rf G 174), (1, i9 v1), (2, i9 v2), (3, i9 v3), (4, i9 v4)] [] d (b_X12_saysOf_174_c23 k_X12_saysOf_174_c23 v1 v2 v3 v4 d) := by
  intro v1 v2 v3 v4 d
  unfold b_X12_saysOf_174_c23
  refine r_iload C 4 dX12_saysOf_23 rfl ?_
  refine r_if_lt C (b := 0) 53 dX12_saysOf_25 (by decide) (fun _ => ?_) (fun _ => ?_)
  · refine ss_wide (k' := 0) (n' := 0) (by decide) (by decide) ?_
    refine ss_ls [(0, rf G 174), (1, i9 v1), (2, i9 v2), (3, i9 v3)] [0, 1, 2, 3] rfl ?_
    exact s_X12_saysOf_174_c53 C  v1 v2 v3 d
  · refine r_aload_n C 0 dX12_saysOf_28 rfl rfl ?_
    refine r_iload_n C 1 dX12_saysOf_29 rfl rfl ?_
    refine r_iload C 4 dX12_saysOf_30 rfl ?_
    refine r_callV C [i9 v4, i9 v1, rf G 174] dX12_saysOf_32 (t_X12_isThinAt_174 C.h1 C.h2 v1 v4 d) mw_X12_318 mv_X12_isThinAt la_174 ly_174 rfl (by decide) (by decide) (by decide) rfl rfl (Nat.le_of_ble_eq_true rfl) (fun r1 d2 => ?_)
    show SS G X 5 _ _ 35 [(0, rf G 174), (1, i9 v1), (2, i9 v2), (3, i9 v3), (4, i9 v4)] [i9 r1] d2 _
    refine r_if_ne C (b := 0) 47 dX12_saysOf_35 (by decide) (fun _ => ?_) (fun _ => ?_)
    · refine r_iinc C 4 [(4, i9 (v4 + (-1))), (0, rf G 174), (1, i9 v1), (2, i9 v2), (3, i9 v3)] dX12_saysOf_47 rfl (by decide) rfl ?_
      refine r_goto C 23 dX12_saysOf_50 (by decide) ?_
      refine ss_wide (k' := 0) (n' := 0) (by decide) (by decide) ?_
      refine ss_ls [(0, rf G 174), (1, i9 v1), (2, i9 v2), (3, i9 v3), (4, i9 (v4 + (-1)))] [1, 2, 3, 4, 0] rfl ?_
      exact hk_X12_saysOf_174_c23 v1 v2 v3 (v4 + (-1)) d2
    · refine r_aload_n C 0 dX12_saysOf_38 rfl rfl ?_
      refine r_iload_n C 1 dX12_saysOf_39 rfl rfl ?_
      refine r_iload C 4 dX12_saysOf_40 rfl ?_
      refine r_iconst C dX12_saysOf_42 ?_
      refine r_callV C [i9 0, i9 v4, i9 v1, rf G 174] dX12_saysOf_43 (t_X12_spanAt_174 C.h1 C.h2 v1 v4 0 d2) mw_X12_321 mv_X12_spanAt la_174 ly_174 rfl (by decide) (by decide) (by decide) rfl rfl (Nat.le_of_ble_eq_true rfl) (fun r3 d4 => ?_)
      show SS G X 5 _ _ 46 [(0, rf G 174), (1, i9 v1), (2, i9 v2), (3, i9 v3), (4, i9 v4)] [i9 r3] d4 _
      exact r_iret C dX12_saysOf_46 (by decide) (by decide)
theorem s_X12_saysOf_174_c23 {G : G9} {X : X9} (C : CX G X cX12_saysOf 5 RX12 [] z_X12_saysOf_174) : ∀ (v1 v2 v3 v4 : Int) (d : D9), SS G X 5 0 0 23 [(0, rf G 174), (1, i9 v1), (2, i9 v2), (3, i9 v3), (4, i9 v4)] [] d (m_X12_saysOf_174_c23  v1 v2 v3 v4 d) :=
  fix9_ind (P := fun k => ∀ (v1 v2 v3 v4 : Int) (d : D9), SS G X 5 0 0 23 [(0, rf G 174), (1, i9 v1), (2, i9 v2), (3, i9 v3), (4, i9 v4)] [] d (k v1 v2 v3 v4 d)) (fun _ _ _ _ _ => ss_none) (fun k hk => sb_X12_saysOf_174_c23 C k hk) FU
set_option maxRecDepth 100000 in
theorem t_X12_saysOf_174 {G : G9} {l : Launch} (h1 : va_D (A9 G) (wl G (fun _ _ => 0))) (h2 : l.stackTraces = false) (p1 : Int) (d : D9) : MT G l yX12_saysOf cX12_saysOf 5 z_X12_saysOf_174 [rf G 174, i9 p1] d (m_X12_saysOf_174 p1 d) := by
  refine mt_of (own := RX12) (by decide) rfl (Nat.le_of_ble_eq_true rfl) h1 h2 [(0, rf G 174), (1, i9 p1)] rfl (fun X hX C => ?_)
  unfold m_X12_saysOf_174
  refine r_aload_n C 0 dX12_saysOf_0 rfl rfl ?_
  refine r_iload_n C 1 dX12_saysOf_1 rfl rfl ?_
  refine r_callV C [i9 p1, rf G 174] dX12_saysOf_2 (t_X12_sortOf_174 C.h1 C.h2 p1 d) mw_X12_331 mv_X12_sortOf la_174 ly_174 rfl (by decide) (by decide) (by decide) rfl rfl (Nat.le_of_ble_eq_true rfl) (fun r1 d2 => ?_)
  show SS G X 5 _ _ 5 [(0, rf G 174), (1, i9 p1)] [i9 r1] d2 _
  refine r_istore_n C [(2, i9 r1), (0, rf G 174), (1, i9 p1)] dX12_saysOf_5 rfl (by decide) rfl ?_
  refine r_aload_n C 1 dX12_saysOf_6 rfl rfl ?_
  refine r_iload_n C 2 dX12_saysOf_7 rfl rfl ?_
  refine r_iconst C dX12_saysOf_8 ?_
  refine r_callV C [i9 4, i9 p1, rf G 174] dX12_saysOf_9 (t_X12_ofSkin_174 C.h1 C.h2 p1 4 d2) mw_X12_124 mv_X12_ofSkin la_174 ly_174 rfl (by decide) (by decide) (by decide) rfl rfl (Nat.le_of_ble_eq_true rfl) (fun r3 d4 => ?_)
  show SS G X 5 _ _ 12 [(2, i9 r1), (0, rf G 174), (1, i9 p1)] [i9 r3] d4 _
  refine r_istore_n C [(3, i9 r3), (2, i9 r1), (0, rf G 174), (1, i9 p1)] dX12_saysOf_12 rfl (by decide) rfl ?_
  refine r_iload_n C 1 dX12_saysOf_13 rfl rfl ?_
  refine r_iconst C dX12_saysOf_14 ?_
  refine r_icmp_ne C 53 dX12_saysOf_15 (by decide) (fun _ => ?_) (fun _ => ?_)
  · refine ss_wide (k' := 0) (n' := 0) (by decide) (by decide) ?_
    refine ss_ls [(0, rf G 174), (1, i9 p1), (2, i9 r1), (3, i9 r3)] [2, 3, 1, 0] rfl ?_
    exact s_X12_saysOf_174_c53 C  p1 r1 r3 d4
  · refine r_iload_n C 0 dX12_saysOf_18 rfl rfl ?_
    refine r_iconst C dX12_saysOf_19 ?_
    refine r_isub C dX12_saysOf_20 ?_
    refine ss_lt (fun a5 => ?_)
    refine r_istore C [(4, i9 a5), (3, i9 r3), (2, i9 r1), (0, rf G 174), (1, i9 p1)] dX12_saysOf_21 (by decide) rfl ?_
    refine ss_wide (k' := 0) (n' := 0) (by decide) (by decide) ?_
    refine ss_ls [(0, rf G 174), (1, i9 p1), (2, i9 r1), (3, i9 r3), (4, i9 a5)] [3, 4, 2, 1, 0] rfl ?_
    exact s_X12_saysOf_174_c23 C  p1 r1 r3 a5 d4
theorem dX12_boundOf_0 : decode cX12_boundOf 0 = .ok (.iload_n 2, 1) := by decide +kernel
theorem dX12_boundOf_1 : decode cX12_boundOf 1 = .ok (.ifCond .eq 9, 3) := by decide +kernel
theorem dX12_boundOf_4 : decode cX12_boundOf 4 = .ok (.sipush 400, 3) := by decide +kernel
theorem dX12_boundOf_7 : decode cX12_boundOf 7 = .ok (.goto 4, 3) := by decide +kernel
theorem dX12_boundOf_10 : decode cX12_boundOf 10 = .ok (.iconst 0, 1) := by decide +kernel
theorem dX12_boundOf_11 : decode cX12_boundOf 11 = .ok (.istore 4, 2) := by decide +kernel
theorem dX12_boundOf_13 : decode cX12_boundOf 13 = .ok (.iconst 0, 1) := by decide +kernel
theorem dX12_boundOf_14 : decode cX12_boundOf 14 = .ok (.istore 5, 2) := by decide +kernel
theorem dX12_boundOf_16 : decode cX12_boundOf 16 = .ok (.iload 5, 2) := by decide +kernel
theorem dX12_boundOf_18 : decode cX12_boundOf 18 = .ok (.aload_n 0, 1) := by decide +kernel
theorem dX12_boundOf_19 : decode cX12_boundOf 19 = .ok (.getfield 9, 3) := by decide +kernel
theorem dX12_boundOf_22 : decode cX12_boundOf 22 = .ok (.iconst 1, 1) := by decide +kernel
theorem dX12_boundOf_23 : decode cX12_boundOf 23 = .ok (.iaload, 1) := by decide +kernel
theorem dX12_boundOf_24 : decode cX12_boundOf 24 = .ok (.if_icmp .ge 119, 3) := by decide +kernel
theorem dX12_boundOf_27 : decode cX12_boundOf 27 = .ok (.iload 5, 2) := by decide +kernel
theorem dX12_boundOf_29 : decode cX12_boundOf 29 = .ok (.iload_n 3, 1) := by decide +kernel
theorem dX12_boundOf_30 : decode cX12_boundOf 30 = .ok (.if_icmp .eq 107, 3) := by decide +kernel
theorem dX12_boundOf_33 : decode cX12_boundOf 33 = .ok (.aload_n 0, 1) := by decide +kernel
theorem dX12_boundOf_34 : decode cX12_boundOf 34 = .ok (.iload 5, 2) := by decide +kernel
theorem dX12_boundOf_36 : decode cX12_boundOf 36 = .ok (.iconst 1, 1) := by decide +kernel
theorem dX12_boundOf_37 : decode cX12_boundOf 37 = .ok (.invokevirtual 124, 3) := by decide +kernel
theorem dX12_boundOf_40 : decode cX12_boundOf 40 = .ok (.iload_n 2, 1) := by decide +kernel
theorem dX12_boundOf_41 : decode cX12_boundOf 41 = .ok (.ifCond .eq 7, 3) := by decide +kernel
theorem dX12_boundOf_44 : decode cX12_boundOf 44 = .ok (.iconst 2, 1) := by decide +kernel
theorem dX12_boundOf_45 : decode cX12_boundOf 45 = .ok (.goto 4, 3) := by decide +kernel
theorem dX12_boundOf_48 : decode cX12_boundOf 48 = .ok (.iconst 1, 1) := by decide +kernel
theorem dX12_boundOf_49 : decode cX12_boundOf 49 = .ok (.if_icmp .eq 6, 3) := by decide +kernel
theorem dX12_boundOf_52 : decode cX12_boundOf 52 = .ok (.goto 85, 3) := by decide +kernel
theorem dX12_boundOf_55 : decode cX12_boundOf 55 = .ok (.aload_n 0, 1) := by decide +kernel
theorem dX12_boundOf_56 : decode cX12_boundOf 56 = .ok (.iload 5, 2) := by decide +kernel
theorem dX12_boundOf_58 : decode cX12_boundOf 58 = .ok (.iconst 2, 1) := by decide +kernel
theorem dX12_boundOf_59 : decode cX12_boundOf 59 = .ok (.invokevirtual 124, 3) := by decide +kernel
theorem dX12_boundOf_62 : decode cX12_boundOf 62 = .ok (.istore 6, 2) := by decide +kernel
theorem dX12_boundOf_64 : decode cX12_boundOf 64 = .ok (.iload 6, 2) := by decide +kernel
theorem dX12_boundOf_66 : decode cX12_boundOf 66 = .ok (.iload_n 1, 1) := by decide +kernel
theorem dX12_boundOf_67 : decode cX12_boundOf 67 = .ok (.if_icmp .eq 33, 3) := by decide +kernel
theorem dX12_boundOf_70 : decode cX12_boundOf 70 = .ok (.iload_n 2, 1) := by decide +kernel
theorem dX12_boundOf_71 : decode cX12_boundOf 71 = .ok (.ifCond .eq 16, 3) := by decide +kernel
theorem dX12_boundOf_74 : decode cX12_boundOf 74 = .ok (.aload_n 0, 1) := by decide +kernel
theorem dX12_boundOf_75 : decode cX12_boundOf 75 = .ok (.iload_n 1, 1) := by decide +kernel
theorem dX12_boundOf_76 : decode cX12_boundOf 76 = .ok (.iload 6, 2) := by decide +kernel
theorem dX12_boundOf_78 : decode cX12_boundOf 78 = .ok (.invokevirtual 378, 3) := by decide +kernel
theorem dX12_boundOf_81 : decode cX12_boundOf 81 = .ok (.ifCond .eq 56, 3) := by decide +kernel
theorem dX12_boundOf_84 : decode cX12_boundOf 84 = .ok (.goto 16, 3) := by decide +kernel
theorem dX12_boundOf_87 : decode cX12_boundOf 87 = .ok (.aload_n 0, 1) := by decide +kernel
theorem dX12_boundOf_88 : decode cX12_boundOf 88 = .ok (.iload 6, 2) := by decide +kernel
theorem dX12_boundOf_90 : decode cX12_boundOf 90 = .ok (.iload_n 1, 1) := by decide +kernel
theorem dX12_boundOf_91 : decode cX12_boundOf 91 = .ok (.invokevirtual 378, 3) := by decide +kernel
theorem dX12_boundOf_94 : decode cX12_boundOf 94 = .ok (.ifCond .ne 6, 3) := by decide +kernel
theorem dX12_boundOf_97 : decode cX12_boundOf 97 = .ok (.goto 40, 3) := by decide +kernel
theorem dX12_boundOf_100 : decode cX12_boundOf 100 = .ok (.aload_n 0, 1) := by decide +kernel
theorem dX12_boundOf_101 : decode cX12_boundOf 101 = .ok (.iload 5, 2) := by decide +kernel
theorem dX12_boundOf_103 : decode cX12_boundOf 103 = .ok (.invokevirtual 334, 3) := by decide +kernel
theorem dX12_boundOf_106 : decode cX12_boundOf 106 = .ok (.istore 7, 2) := by decide +kernel
theorem dX12_boundOf_108 : decode cX12_boundOf 108 = .ok (.iload 7, 2) := by decide +kernel
theorem dX12_boundOf_110 : decode cX12_boundOf 110 = .ok (.iconst (-1), 1) := by decide +kernel
theorem dX12_boundOf_111 : decode cX12_boundOf 111 = .ok (.if_icmp .eq 26, 3) := by decide +kernel
theorem dX12_boundOf_114 : decode cX12_boundOf 114 = .ok (.iload_n 2, 1) := by decide +kernel
theorem dX12_boundOf_115 : decode cX12_boundOf 115 = .ok (.ifCond .eq 13, 3) := by decide +kernel
theorem dX12_boundOf_118 : decode cX12_boundOf 118 = .ok (.iload 4, 2) := by decide +kernel
theorem dX12_boundOf_120 : decode cX12_boundOf 120 = .ok (.iload 7, 2) := by decide +kernel
theorem dX12_boundOf_122 : decode cX12_boundOf 122 = .ok (.invokestatic 363, 3) := by decide +kernel
theorem dX12_boundOf_125 : decode cX12_boundOf 125 = .ok (.goto 10, 3) := by decide +kernel
theorem dX12_boundOf_128 : decode cX12_boundOf 128 = .ok (.iload 4, 2) := by decide +kernel
theorem dX12_boundOf_130 : decode cX12_boundOf 130 = .ok (.iload 7, 2) := by decide +kernel
theorem dX12_boundOf_132 : decode cX12_boundOf 132 = .ok (.invokestatic 366, 3) := by decide +kernel
theorem dX12_boundOf_135 : decode cX12_boundOf 135 = .ok (.istore 4, 2) := by decide +kernel
theorem dX12_boundOf_137 : decode cX12_boundOf 137 = .ok (.iinc 5 1, 3) := by decide +kernel
theorem dX12_boundOf_140 : decode cX12_boundOf 140 = .ok (.goto (-124), 3) := by decide +kernel
theorem dX12_boundOf_143 : decode cX12_boundOf 143 = .ok (.iload 4, 2) := by decide +kernel
theorem dX12_boundOf_145 : decode cX12_boundOf 145 = .ok (.ireturn, 1) := by decide +kernel
abbrev z_X12_boundOf_174 : Z9 := (some .int, 1, 0, 0, 9, 225)
def m_X12_boundOf_174_c100 (k_X12_boundOf_174_c16 : Int → Int → Int → Int → Int → D9 → Option R9) (v1 v2 v3 v4 v5 : Int) (d : D9) : Option R9 := cl (m_X12_saysOf_174 v5 d) (fun r1 d2 => if w32 r1 = w32 (-1) then k_X12_boundOf_174_c16 v1 v2 v3 v4 (v5 + 1) d2 else if w32 v2 = 0 then lt9v (max9 v4 r1) (fun a3 => k_X12_boundOf_174_c16 v1 v2 v3 a3 (v5 + 1) d2) else lt9v (min9 v4 r1) (fun a4 => k_X12_boundOf_174_c16 v1 v2 v3 a4 (v5 + 1) d2))
def m_X12_boundOf_174_c49 (k_X12_boundOf_174_c16 : Int → Int → Int → Int → Int → D9 → Option R9) (v1 v2 v3 v4 v5 s0 s1 : Int) (d : D9) : Option R9 := if w32 s1 = w32 s0 then cl (m_X12_ofSkin_174 v5 2 d) (fun r1 d2 => if w32 r1 = w32 v1 then m_X12_boundOf_174_c100 k_X12_boundOf_174_c16 v1 v2 v3 v4 v5 d2 else if w32 v2 = 0 then cl (m_X12_isAbove_174 r1 v1 d2) (fun r3 d4 => if w32 r3 ≠ 0 then m_X12_boundOf_174_c100 k_X12_boundOf_174_c16 v1 v2 v3 v4 v5 d4 else k_X12_boundOf_174_c16 v1 v2 v3 v4 (v5 + 1) d4) else cl (m_X12_isAbove_174 v1 r1 d2) (fun r5 d6 => if w32 r5 = 0 then k_X12_boundOf_174_c16 v1 v2 v3 v4 (v5 + 1) d6 else m_X12_boundOf_174_c100 k_X12_boundOf_174_c16 v1 v2 v3 v4 v5 d6)) else k_X12_boundOf_174_c16 v1 v2 v3 v4 (v5 + 1) d
def b_X12_boundOf_174_c16 (k_X12_boundOf_174_c16 : Int → Int → Int → Int → Int → D9 → Option R9) (v1 v2 v3 v4 v5 : Int) (d : D9) : Option R9 := ld d 175 1604 1 (fun t1 => if w32 t1 ≤ w32 v5 then rt v4 d else if w32 v5 = w32 v3 then k_X12_boundOf_174_c16 v1 v2 v3 v4 (v5 + 1) d else cl (m_X12_ofSkin_174 v5 1 d) (fun r2 d3 => if w32 v2 = 0 then m_X12_boundOf_174_c49 k_X12_boundOf_174_c16 v1 v2 v3 v4 v5 1 r2 d3 else m_X12_boundOf_174_c49 k_X12_boundOf_174_c16 v1 v2 v3 v4 v5 2 r2 d3))
def m_X12_boundOf_174_c16 : Int → Int → Int → Int → Int → D9 → Option R9 := fix9 (fun _ _ _ _ _ _ => none) (fun k => b_X12_boundOf_174_c16 k) FU
def m_X12_boundOf_174 (p1 p2 p3 : Int) (d : D9) : Option R9 := if w32 p2 = 0 then m_X12_boundOf_174_c16  p1 p2 p3 0 0 d else m_X12_boundOf_174_c16  p1 p2 p3 400 0 d
set_option maxRecDepth 100000 in
theorem s_X12_boundOf_174_c100 {G : G9} {X : X9} (C : CX G X cX12_boundOf 8 RX12 [] z_X12_boundOf_174) (k_X12_boundOf_174_c16 : Int → Int → Int → Int → Int → D9 → Option R9) (hk_X12_boundOf_174_c16 : ∀ (v1 v2 v3 v4 v5 : Int) (d : D9), SS G X 8 0 0 16 [(0, rf G 174), (1, i9 v1), (2, i9 v2), (3, i9 v3), (4, i9 v4), (5, i9 v5)] [] d (k_X12_boundOf_174_c16 v1 v2 v3 v4 v5 d)) : ∀ (v1 v2 v3 v4 v5 : Int) (d : D9), SS G X 8 0 0 100 [(0, rf G 174), (1, i9 v1), (2, i9 v2), (3, i9 v3), (4, i9 v4), (5, i9 v5)] [] d (m_X12_boundOf_174_c100 k_X12_boundOf_174_c16 v1 v2 v3 v4 v5 d) := by
  intro v1 v2 v3 v4 v5 d
  unfold m_X12_boundOf_174_c100
  refine r_aload_n C 0 dX12_boundOf_100 rfl rfl ?_
  refine r_iload C 5 dX12_boundOf_101 rfl ?_
  refine r_callV C [i9 v5, rf G 174] dX12_boundOf_103 (t_X12_saysOf_174 C.h1 C.h2 v5 d) mw_X12_334 mv_X12_saysOf la_174 ly_174 rfl (by decide) (by decide) (by decide) rfl rfl (Nat.le_of_ble_eq_true rfl) (fun r1 d2 => ?_)
  show SS G X 8 _ _ 106 [(0, rf G 174), (1, i9 v1), (2, i9 v2), (3, i9 v3), (4, i9 v4), (5, i9 v5)] [i9 r1] d2 _
  refine r_istore C [(7, i9 r1), (0, rf G 174), (1, i9 v1), (2, i9 v2), (3, i9 v3), (4, i9 v4), (5, i9 v5)] dX12_boundOf_106 (by decide) rfl ?_
  refine r_iload C 0 dX12_boundOf_108 rfl ?_
  refine r_iconst C dX12_boundOf_110 ?_
  refine r_icmp_eq C 137 dX12_boundOf_111 (by decide) (fun _ => ?_) (fun _ => ?_)
  · refine r_iinc C 6 [(5, i9 (v5 + 1)), (7, i9 r1), (0, rf G 174), (1, i9 v1), (2, i9 v2), (3, i9 v3), (4, i9 v4)] dX12_boundOf_137 rfl (by decide) rfl ?_
    refine r_goto C 16 dX12_boundOf_140 (by decide) ?_
    refine ss_wide (k' := 0) (n' := 0) (by decide) (by decide) ?_
    refine ss_ls [(0, rf G 174), (1, i9 v1), (2, i9 v2), (3, i9 v3), (4, i9 v4), (5, i9 (v5 + 1))] [2, 3, 4, 5, 6, 0] rfl ?_
    exact hk_X12_boundOf_174_c16 v1 v2 v3 v4 (v5 + 1) d2
  · refine r_iload_n C 3 dX12_boundOf_114 rfl rfl ?_
    refine r_if_eq C (b := 0) 128 dX12_boundOf_115 (by decide) (fun _ => ?_) (fun _ => ?_)
    · refine r_iload C 5 dX12_boundOf_128 rfl ?_
      refine r_iload C 0 dX12_boundOf_130 rfl ?_
      refine r_mmax C dX12_boundOf_132 mm_X12_366 ⟨Nat.le_of_ble_eq_true rfl, Nat.le_of_ble_eq_true rfl⟩ (by decide) (by decide) ?_
      refine ss_lt (fun a3 => ?_)
      refine r_istore C [(4, i9 a3), (7, i9 r1), (0, rf G 174), (1, i9 v1), (2, i9 v2), (3, i9 v3), (5, i9 v5)] dX12_boundOf_135 (by decide) rfl ?_
      refine r_iinc C 6 [(5, i9 (v5 + 1)), (4, i9 a3), (7, i9 r1), (0, rf G 174), (1, i9 v1), (2, i9 v2), (3, i9 v3)] dX12_boundOf_137 rfl (by decide) rfl ?_
      refine r_goto C 16 dX12_boundOf_140 (by decide) ?_
      refine ss_wide (k' := 0) (n' := 0) (by decide) (by decide) ?_
      refine ss_ls [(0, rf G 174), (1, i9 v1), (2, i9 v2), (3, i9 v3), (4, i9 a3), (5, i9 (v5 + 1))] [3, 4, 5, 6, 1, 0] rfl ?_
      exact hk_X12_boundOf_174_c16 v1 v2 v3 a3 (v5 + 1) d2
    · refine r_iload C 5 dX12_boundOf_118 rfl ?_
      refine r_iload C 0 dX12_boundOf_120 rfl ?_
      refine r_mmin C dX12_boundOf_122 mm_X12_363 ⟨Nat.le_of_ble_eq_true rfl, Nat.le_of_ble_eq_true rfl⟩ (by decide) (by decide) ?_
      refine r_goto C 135 dX12_boundOf_125 (by decide) ?_
      refine ss_lt (fun a4 => ?_)
      refine r_istore C [(4, i9 a4), (7, i9 r1), (0, rf G 174), (1, i9 v1), (2, i9 v2), (3, i9 v3), (5, i9 v5)] dX12_boundOf_135 (by decide) rfl ?_
      refine r_iinc C 6 [(5, i9 (v5 + 1)), (4, i9 a4), (7, i9 r1), (0, rf G 174), (1, i9 v1), (2, i9 v2), (3, i9 v3)] dX12_boundOf_137 rfl (by decide) rfl ?_
      refine r_goto C 16 dX12_boundOf_140 (by decide) ?_
      refine ss_wide (k' := 0) (n' := 0) (by decide) (by decide) ?_
      refine ss_ls [(0, rf G 174), (1, i9 v1), (2, i9 v2), (3, i9 v3), (4, i9 a4), (5, i9 (v5 + 1))] [3, 4, 5, 6, 1, 0] rfl ?_
      exact hk_X12_boundOf_174_c16 v1 v2 v3 a4 (v5 + 1) d2
set_option maxRecDepth 100000 in
theorem s_X12_boundOf_174_c49 {G : G9} {X : X9} (C : CX G X cX12_boundOf 8 RX12 [] z_X12_boundOf_174) (k_X12_boundOf_174_c16 : Int → Int → Int → Int → Int → D9 → Option R9) (hk_X12_boundOf_174_c16 : ∀ (v1 v2 v3 v4 v5 : Int) (d : D9), SS G X 8 0 0 16 [(0, rf G 174), (1, i9 v1), (2, i9 v2), (3, i9 v3), (4, i9 v4), (5, i9 v5)] [] d (k_X12_boundOf_174_c16 v1 v2 v3 v4 v5 d)) : ∀ (v1 v2 v3 v4 v5 s0 s1 : Int) (d : D9), SS G X 8 0 0 49 [(0, rf G 174), (1, i9 v1), (2, i9 v2), (3, i9 v3), (4, i9 v4), (5, i9 v5)] [i9 s0, i9 s1] d (m_X12_boundOf_174_c49 k_X12_boundOf_174_c16 v1 v2 v3 v4 v5 s0 s1 d) := by
  intro v1 v2 v3 v4 v5 s0 s1 d
  unfold m_X12_boundOf_174_c49
  refine r_icmp_eq C 55 dX12_boundOf_49 (by decide) (fun _ => ?_) (fun _ => ?_)
  · refine r_aload_n C 0 dX12_boundOf_55 rfl rfl ?_
    refine r_iload C 5 dX12_boundOf_56 rfl ?_
    refine r_iconst C dX12_boundOf_58 ?_
    refine r_callV C [i9 2, i9 v5, rf G 174] dX12_boundOf_59 (t_X12_ofSkin_174 C.h1 C.h2 v5 2 d) mw_X12_124 mv_X12_ofSkin la_174 ly_174 rfl (by decide) (by decide) (by decide) rfl rfl (Nat.le_of_ble_eq_true rfl) (fun r1 d2 => ?_)
    show SS G X 8 _ _ 62 [(0, rf G 174), (1, i9 v1), (2, i9 v2), (3, i9 v3), (4, i9 v4), (5, i9 v5)] [i9 r1] d2 _
    refine r_istore C [(6, i9 r1), (0, rf G 174), (1, i9 v1), (2, i9 v2), (3, i9 v3), (4, i9 v4), (5, i9 v5)] dX12_boundOf_62 (by decide) rfl ?_
    refine r_iload C 0 dX12_boundOf_64 rfl ?_
    refine r_iload_n C 2 dX12_boundOf_66 rfl rfl ?_
    refine r_icmp_eq C 100 dX12_boundOf_67 (by decide) (fun _ => ?_) (fun _ => ?_)
    · refine ss_wide (k' := 0) (n' := 0) (by decide) (by decide) ?_
      refine ss_ls [(0, rf G 174), (1, i9 v1), (2, i9 v2), (3, i9 v3), (4, i9 v4), (5, i9 v5)] [1, 2, 3, 4, 5, 6] rfl ?_
      exact s_X12_boundOf_174_c100 C k_X12_boundOf_174_c16 hk_X12_boundOf_174_c16 v1 v2 v3 v4 v5 d2
    · refine r_iload_n C 3 dX12_boundOf_70 rfl rfl ?_
      refine r_if_eq C (b := 0) 87 dX12_boundOf_71 (by decide) (fun _ => ?_) (fun _ => ?_)
      · refine r_aload_n C 1 dX12_boundOf_87 rfl rfl ?_
        refine r_iload C 0 dX12_boundOf_88 rfl ?_
        refine r_iload_n C 2 dX12_boundOf_90 rfl rfl ?_
        refine r_callV C [i9 v1, i9 r1, rf G 174] dX12_boundOf_91 (t_X12_isAbove_174 C.h1 C.h2 r1 v1 d2) mw_X12_378 mv_X12_isAbove la_174 ly_174 rfl (by decide) (by decide) (by decide) rfl rfl (Nat.le_of_ble_eq_true rfl) (fun r3 d4 => ?_)
        show SS G X 8 _ _ 94 [(6, i9 r1), (0, rf G 174), (1, i9 v1), (2, i9 v2), (3, i9 v3), (4, i9 v4), (5, i9 v5)] [i9 r3] d4 _
        refine r_if_ne C (b := 0) 100 dX12_boundOf_94 (by decide) (fun _ => ?_) (fun _ => ?_)
        · refine ss_wide (k' := 0) (n' := 0) (by decide) (by decide) ?_
          refine ss_ls [(0, rf G 174), (1, i9 v1), (2, i9 v2), (3, i9 v3), (4, i9 v4), (5, i9 v5)] [1, 2, 3, 4, 5, 6] rfl ?_
          exact s_X12_boundOf_174_c100 C k_X12_boundOf_174_c16 hk_X12_boundOf_174_c16 v1 v2 v3 v4 v5 d4
        · refine r_goto C 137 dX12_boundOf_97 (by decide) ?_
          refine r_iinc C 6 [(5, i9 (v5 + 1)), (6, i9 r1), (0, rf G 174), (1, i9 v1), (2, i9 v2), (3, i9 v3), (4, i9 v4)] dX12_boundOf_137 rfl (by decide) rfl ?_
          refine r_goto C 16 dX12_boundOf_140 (by decide) ?_
          refine ss_wide (k' := 0) (n' := 0) (by decide) (by decide) ?_
          refine ss_ls [(0, rf G 174), (1, i9 v1), (2, i9 v2), (3, i9 v3), (4, i9 v4), (5, i9 (v5 + 1))] [2, 3, 4, 5, 6, 0] rfl ?_
          exact hk_X12_boundOf_174_c16 v1 v2 v3 v4 (v5 + 1) d4
      · refine r_aload_n C 1 dX12_boundOf_74 rfl rfl ?_
        refine r_iload_n C 2 dX12_boundOf_75 rfl rfl ?_
        refine r_iload C 0 dX12_boundOf_76 rfl ?_
        refine r_callV C [i9 r1, i9 v1, rf G 174] dX12_boundOf_78 (t_X12_isAbove_174 C.h1 C.h2 v1 r1 d2) mw_X12_378 mv_X12_isAbove la_174 ly_174 rfl (by decide) (by decide) (by decide) rfl rfl (Nat.le_of_ble_eq_true rfl) (fun r5 d6 => ?_)
        show SS G X 8 _ _ 81 [(6, i9 r1), (0, rf G 174), (1, i9 v1), (2, i9 v2), (3, i9 v3), (4, i9 v4), (5, i9 v5)] [i9 r5] d6 _
        refine r_if_eq C (b := 0) 137 dX12_boundOf_81 (by decide) (fun _ => ?_) (fun _ => ?_)
        · refine r_iinc C 6 [(5, i9 (v5 + 1)), (6, i9 r1), (0, rf G 174), (1, i9 v1), (2, i9 v2), (3, i9 v3), (4, i9 v4)] dX12_boundOf_137 rfl (by decide) rfl ?_
          refine r_goto C 16 dX12_boundOf_140 (by decide) ?_
          refine ss_wide (k' := 0) (n' := 0) (by decide) (by decide) ?_
          refine ss_ls [(0, rf G 174), (1, i9 v1), (2, i9 v2), (3, i9 v3), (4, i9 v4), (5, i9 (v5 + 1))] [2, 3, 4, 5, 6, 0] rfl ?_
          exact hk_X12_boundOf_174_c16 v1 v2 v3 v4 (v5 + 1) d6
        · refine r_goto C 100 dX12_boundOf_84 (by decide) ?_
          refine ss_wide (k' := 0) (n' := 0) (by decide) (by decide) ?_
          refine ss_ls [(0, rf G 174), (1, i9 v1), (2, i9 v2), (3, i9 v3), (4, i9 v4), (5, i9 v5)] [1, 2, 3, 4, 5, 6] rfl ?_
          exact s_X12_boundOf_174_c100 C k_X12_boundOf_174_c16 hk_X12_boundOf_174_c16 v1 v2 v3 v4 v5 d6
  · refine r_goto C 137 dX12_boundOf_52 (by decide) ?_
    refine r_iinc C 5 [(5, i9 (v5 + 1)), (0, rf G 174), (1, i9 v1), (2, i9 v2), (3, i9 v3), (4, i9 v4)] dX12_boundOf_137 rfl (by decide) rfl ?_
    refine r_goto C 16 dX12_boundOf_140 (by decide) ?_
    refine ss_wide (k' := 0) (n' := 0) (by decide) (by decide) ?_
    refine ss_ls [(0, rf G 174), (1, i9 v1), (2, i9 v2), (3, i9 v3), (4, i9 v4), (5, i9 (v5 + 1))] [1, 2, 3, 4, 5, 0] rfl ?_
    exact hk_X12_boundOf_174_c16 v1 v2 v3 v4 (v5 + 1) d
set_option maxRecDepth 100000 in
theorem sb_X12_boundOf_174_c16 {G : G9} {X : X9} (C : CX G X cX12_boundOf 8 RX12 [] z_X12_boundOf_174) (k_X12_boundOf_174_c16 : Int → Int → Int → Int → Int → D9 → Option R9) (hk_X12_boundOf_174_c16 : ∀ (v1 v2 v3 v4 v5 : Int) (d : D9), SS G X 8 0 0 16 [(0, rf G 174), (1, i9 v1), (2, i9 v2), (3, i9 v3), (4, i9 v4), (5, i9 v5)] [] d (k_X12_boundOf_174_c16 v1 v2 v3 v4 v5 d)) : ∀ (v1 v2 v3 v4 v5 : Int) (d : D9), SS G X 8 0 0 16 [(0, rf G 174), (1, i9 v1), (2, i9 v2), (3, i9 v3), (4, i9 v4), (5, i9 v5)] [] d (b_X12_boundOf_174_c16 k_X12_boundOf_174_c16 v1 v2 v3 v4 v5 d) := by
  intro v1 v2 v3 v4 v5 d
  unfold b_X12_boundOf_174_c16
  refine r_iload C 5 dX12_boundOf_16 rfl ?_
  refine r_aload_n C 0 dX12_boundOf_18 rfl rfl ?_
  refine r_getR C 175 dX12_boundOf_19 fl_X12_9 la_174 ly_174 rfl rfl ?_
  refine r_iconst C dX12_boundOf_22 ?_
  refine r_iald C dX12_boundOf_23 la_175 ly_175 (fun t1 => ?_)
  refine r_icmp_ge C 143 dX12_boundOf_24 (by decide) (fun _ => ?_) (fun _ => ?_)
  · refine r_iload C 4 dX12_boundOf_143 rfl ?_
    exact r_iret C dX12_boundOf_145 (by decide) (by decide)
  · refine r_iload C 5 dX12_boundOf_27 rfl ?_
    refine r_iload_n C 3 dX12_boundOf_29 rfl rfl ?_
    refine r_icmp_eq C 137 dX12_boundOf_30 (by decide) (fun _ => ?_) (fun _ => ?_)
    · refine r_iinc C 5 [(5, i9 (v5 + 1)), (0, rf G 174), (1, i9 v1), (2, i9 v2), (3, i9 v3), (4, i9 v4)] dX12_boundOf_137 rfl (by decide) rfl ?_
      refine r_goto C 16 dX12_boundOf_140 (by decide) ?_
      refine ss_wide (k' := 0) (n' := 0) (by decide) (by decide) ?_
      refine ss_ls [(0, rf G 174), (1, i9 v1), (2, i9 v2), (3, i9 v3), (4, i9 v4), (5, i9 (v5 + 1))] [1, 2, 3, 4, 5, 0] rfl ?_
      exact hk_X12_boundOf_174_c16 v1 v2 v3 v4 (v5 + 1) d
    · refine r_aload_n C 0 dX12_boundOf_33 rfl rfl ?_
      refine r_iload C 5 dX12_boundOf_34 rfl ?_
      refine r_iconst C dX12_boundOf_36 ?_
      refine r_callV C [i9 1, i9 v5, rf G 174] dX12_boundOf_37 (t_X12_ofSkin_174 C.h1 C.h2 v5 1 d) mw_X12_124 mv_X12_ofSkin la_174 ly_174 rfl (by decide) (by decide) (by decide) rfl rfl (Nat.le_of_ble_eq_true rfl) (fun r2 d3 => ?_)
      show SS G X 8 _ _ 40 [(0, rf G 174), (1, i9 v1), (2, i9 v2), (3, i9 v3), (4, i9 v4), (5, i9 v5)] [i9 r2] d3 _
      refine r_iload_n C 2 dX12_boundOf_40 rfl rfl ?_
      refine r_if_eq C (b := 0) 48 dX12_boundOf_41 (by decide) (fun _ => ?_) (fun _ => ?_)
      · refine r_iconst C dX12_boundOf_48 ?_
        refine ss_wide (k' := 0) (n' := 0) (by decide) (by decide) ?_
        refine ss_ls [(0, rf G 174), (1, i9 v1), (2, i9 v2), (3, i9 v3), (4, i9 v4), (5, i9 v5)] [0, 1, 2, 3, 4, 5] rfl ?_
        exact s_X12_boundOf_174_c49 C k_X12_boundOf_174_c16 hk_X12_boundOf_174_c16 v1 v2 v3 v4 v5 1 r2 d3
      · refine r_iconst C dX12_boundOf_44 ?_
        refine r_goto C 49 dX12_boundOf_45 (by decide) ?_
        refine ss_wide (k' := 0) (n' := 0) (by decide) (by decide) ?_
        refine ss_ls [(0, rf G 174), (1, i9 v1), (2, i9 v2), (3, i9 v3), (4, i9 v4), (5, i9 v5)] [0, 1, 2, 3, 4, 5] rfl ?_
        exact s_X12_boundOf_174_c49 C k_X12_boundOf_174_c16 hk_X12_boundOf_174_c16 v1 v2 v3 v4 v5 2 r2 d3
theorem s_X12_boundOf_174_c16 {G : G9} {X : X9} (C : CX G X cX12_boundOf 8 RX12 [] z_X12_boundOf_174) : ∀ (v1 v2 v3 v4 v5 : Int) (d : D9), SS G X 8 0 0 16 [(0, rf G 174), (1, i9 v1), (2, i9 v2), (3, i9 v3), (4, i9 v4), (5, i9 v5)] [] d (m_X12_boundOf_174_c16  v1 v2 v3 v4 v5 d) :=
  fix9_ind (P := fun k => ∀ (v1 v2 v3 v4 v5 : Int) (d : D9), SS G X 8 0 0 16 [(0, rf G 174), (1, i9 v1), (2, i9 v2), (3, i9 v3), (4, i9 v4), (5, i9 v5)] [] d (k v1 v2 v3 v4 v5 d)) (fun _ _ _ _ _ _ => ss_none) (fun k hk => sb_X12_boundOf_174_c16 C k hk) FU
set_option maxRecDepth 100000 in
theorem t_X12_boundOf_174 {G : G9} {l : Launch} (h1 : va_D (A9 G) (wl G (fun _ _ => 0))) (h2 : l.stackTraces = false) (p1 p2 p3 : Int) (d : D9) : MT G l yX12_boundOf cX12_boundOf 8 z_X12_boundOf_174 [rf G 174, i9 p1, i9 p2, i9 p3] d (m_X12_boundOf_174 p1 p2 p3 d) := by
  refine mt_of (own := RX12) (by decide) rfl (Nat.le_of_ble_eq_true rfl) h1 h2 [(0, rf G 174), (1, i9 p1), (2, i9 p2), (3, i9 p3)] rfl (fun X hX C => ?_)
  unfold m_X12_boundOf_174
  refine r_iload_n C 2 dX12_boundOf_0 rfl rfl ?_
  refine r_if_eq C (b := 0) 10 dX12_boundOf_1 (by decide) (fun _ => ?_) (fun _ => ?_)
  · refine r_iconst C dX12_boundOf_10 ?_
    refine r_istore C [(4, i9 0), (0, rf G 174), (1, i9 p1), (2, i9 p2), (3, i9 p3)] dX12_boundOf_11 (by decide) rfl ?_
    refine r_iconst C dX12_boundOf_13 ?_
    refine r_istore C [(5, i9 0), (4, i9 0), (0, rf G 174), (1, i9 p1), (2, i9 p2), (3, i9 p3)] dX12_boundOf_14 (by decide) rfl ?_
    refine ss_wide (k' := 0) (n' := 0) (by decide) (by decide) ?_
    refine ss_ls [(0, rf G 174), (1, i9 p1), (2, i9 p2), (3, i9 p3), (4, i9 0), (5, i9 0)] [2, 3, 4, 5, 1, 0] rfl ?_
    exact s_X12_boundOf_174_c16 C  p1 p2 p3 0 0 d
  · refine r_sipush C dX12_boundOf_4 rfl ?_
    refine r_goto C 11 dX12_boundOf_7 (by decide) ?_
    refine r_istore C [(4, i9 400), (0, rf G 174), (1, i9 p1), (2, i9 p2), (3, i9 p3)] dX12_boundOf_11 (by decide) rfl ?_
    refine r_iconst C dX12_boundOf_13 ?_
    refine r_istore C [(5, i9 0), (4, i9 400), (0, rf G 174), (1, i9 p1), (2, i9 p2), (3, i9 p3)] dX12_boundOf_14 (by decide) rfl ?_
    refine ss_wide (k' := 0) (n' := 0) (by decide) (by decide) ?_
    refine ss_ls [(0, rf G 174), (1, i9 p1), (2, i9 p2), (3, i9 p3), (4, i9 400), (5, i9 0)] [2, 3, 4, 5, 1, 0] rfl ?_
    exact s_X12_boundOf_174_c16 C  p1 p2 p3 400 0 d
theorem dX12_ofPaint_0 : decode cX12_ofPaint 0 = .ok (.aload_n 0, 1) := by decide +kernel
theorem dX12_ofPaint_1 : decode cX12_ofPaint 1 = .ok (.getfield 9, 3) := by decide +kernel
theorem dX12_ofPaint_4 : decode cX12_ofPaint 4 = .ok (.bipush 16, 2) := by decide +kernel
theorem dX12_ofPaint_6 : decode cX12_ofPaint 6 = .ok (.bipush 8, 2) := by decide +kernel
theorem dX12_ofPaint_8 : decode cX12_ofPaint 8 = .ok (.iload_n 1, 1) := by decide +kernel
theorem dX12_ofPaint_9 : decode cX12_ofPaint 9 = .ok (.imul, 1) := by decide +kernel
theorem dX12_ofPaint_10 : decode cX12_ofPaint 10 = .ok (.iadd, 1) := by decide +kernel
theorem dX12_ofPaint_11 : decode cX12_ofPaint 11 = .ok (.iload_n 2, 1) := by decide +kernel
theorem dX12_ofPaint_12 : decode cX12_ofPaint 12 = .ok (.iadd, 1) := by decide +kernel
theorem dX12_ofPaint_13 : decode cX12_ofPaint 13 = .ok (.iaload, 1) := by decide +kernel
theorem dX12_ofPaint_14 : decode cX12_ofPaint 14 = .ok (.ireturn, 1) := by decide +kernel
abbrev z_X12_ofPaint_174 : Z9 := (some .int, 1, 0, 0, 1, 0)
def m_X12_ofPaint_174 (p1 p2 : Int) (d : D9) : Option R9 := ld d 175 1604 ((16 + (8 * p1)) + p2) (fun t1 => rt t1 d)
set_option maxRecDepth 100000 in
theorem t_X12_ofPaint_174 {G : G9} {l : Launch} (h1 : va_D (A9 G) (wl G (fun _ _ => 0))) (h2 : l.stackTraces = false) (p1 p2 : Int) (d : D9) : MT G l yX12_ofPaint cX12_ofPaint 3 z_X12_ofPaint_174 [rf G 174, i9 p1, i9 p2] d (m_X12_ofPaint_174 p1 p2 d) := by
  refine mt_of (own := RX12) (by decide) rfl (Nat.le_of_ble_eq_true rfl) h1 h2 [(0, rf G 174), (1, i9 p1), (2, i9 p2)] rfl (fun X hX C => ?_)
  unfold m_X12_ofPaint_174
  refine r_aload_n C 0 dX12_ofPaint_0 rfl rfl ?_
  refine r_getR C 175 dX12_ofPaint_1 fl_X12_9 la_174 ly_174 rfl rfl ?_
  refine r_bipush C dX12_ofPaint_4 rfl ?_
  refine r_bipush C dX12_ofPaint_6 rfl ?_
  refine r_iload_n C 1 dX12_ofPaint_8 rfl rfl ?_
  refine r_imul C dX12_ofPaint_9 ?_
  refine r_iadd C dX12_ofPaint_10 ?_
  refine r_iload_n C 2 dX12_ofPaint_11 rfl rfl ?_
  refine r_iadd C dX12_ofPaint_12 ?_
  refine r_iald C dX12_ofPaint_13 la_175 ly_175 (fun t1 => ?_)
  exact r_iret C dX12_ofPaint_14 (by decide) (by decide)
theorem dX12_wasThere_0 : decode cX12_wasThere 0 = .ok (.sipush 1086, 3) := by decide +kernel
theorem dX12_wasThere_3 : decode cX12_wasThere 3 = .ok (.istore 4, 2) := by decide +kernel
theorem dX12_wasThere_5 : decode cX12_wasThere 5 = .ok (.iload 4, 2) := by decide +kernel
theorem dX12_wasThere_7 : decode cX12_wasThere 7 = .ok (.sipush 1086, 3) := by decide +kernel
theorem dX12_wasThere_10 : decode cX12_wasThere 10 = .ok (.iconst 4, 1) := by decide +kernel
theorem dX12_wasThere_11 : decode cX12_wasThere 11 = .ok (.aload_n 0, 1) := by decide +kernel
theorem dX12_wasThere_12 : decode cX12_wasThere 12 = .ok (.getfield 9, 3) := by decide +kernel
theorem dX12_wasThere_15 : decode cX12_wasThere 15 = .ok (.iconst 5, 1) := by decide +kernel
theorem dX12_wasThere_16 : decode cX12_wasThere 16 = .ok (.iaload, 1) := by decide +kernel
theorem dX12_wasThere_17 : decode cX12_wasThere 17 = .ok (.imul, 1) := by decide +kernel
theorem dX12_wasThere_18 : decode cX12_wasThere 18 = .ok (.iadd, 1) := by decide +kernel
theorem dX12_wasThere_19 : decode cX12_wasThere 19 = .ok (.if_icmp .ge 63, 3) := by decide +kernel
theorem dX12_wasThere_22 : decode cX12_wasThere 22 = .ok (.aload_n 0, 1) := by decide +kernel
theorem dX12_wasThere_23 : decode cX12_wasThere 23 = .ok (.getfield 9, 3) := by decide +kernel
theorem dX12_wasThere_26 : decode cX12_wasThere 26 = .ok (.iload 4, 2) := by decide +kernel
theorem dX12_wasThere_28 : decode cX12_wasThere 28 = .ok (.iaload, 1) := by decide +kernel
theorem dX12_wasThere_29 : decode cX12_wasThere 29 = .ok (.iload_n 1, 1) := by decide +kernel
theorem dX12_wasThere_30 : decode cX12_wasThere 30 = .ok (.if_icmp .ne 46, 3) := by decide +kernel
theorem dX12_wasThere_33 : decode cX12_wasThere 33 = .ok (.aload_n 0, 1) := by decide +kernel
theorem dX12_wasThere_34 : decode cX12_wasThere 34 = .ok (.getfield 9, 3) := by decide +kernel
theorem dX12_wasThere_37 : decode cX12_wasThere 37 = .ok (.iload 4, 2) := by decide +kernel
theorem dX12_wasThere_39 : decode cX12_wasThere 39 = .ok (.iconst 1, 1) := by decide +kernel
theorem dX12_wasThere_40 : decode cX12_wasThere 40 = .ok (.iadd, 1) := by decide +kernel
theorem dX12_wasThere_41 : decode cX12_wasThere 41 = .ok (.iaload, 1) := by decide +kernel
theorem dX12_wasThere_42 : decode cX12_wasThere 42 = .ok (.iload_n 2, 1) := by decide +kernel
theorem dX12_wasThere_43 : decode cX12_wasThere 43 = .ok (.if_icmp .ne 33, 3) := by decide +kernel
theorem dX12_wasThere_46 : decode cX12_wasThere 46 = .ok (.iload_n 3, 1) := by decide +kernel
theorem dX12_wasThere_47 : decode cX12_wasThere 47 = .ok (.i2l, 1) := by decide +kernel
theorem dX12_wasThere_48 : decode cX12_wasThere 48 = .ok (.aload_n 0, 1) := by decide +kernel
theorem dX12_wasThere_49 : decode cX12_wasThere 49 = .ok (.getfield 9, 3) := by decide +kernel
theorem dX12_wasThere_52 : decode cX12_wasThere 52 = .ok (.iload 4, 2) := by decide +kernel
theorem dX12_wasThere_54 : decode cX12_wasThere 54 = .ok (.iconst 2, 1) := by decide +kernel
theorem dX12_wasThere_55 : decode cX12_wasThere 55 = .ok (.iadd, 1) := by decide +kernel
theorem dX12_wasThere_56 : decode cX12_wasThere 56 = .ok (.iaload, 1) := by decide +kernel
theorem dX12_wasThere_57 : decode cX12_wasThere 57 = .ok (.i2l, 1) := by decide +kernel
theorem dX12_wasThere_58 : decode cX12_wasThere 58 = .ok (.aload_n 0, 1) := by decide +kernel
theorem dX12_wasThere_59 : decode cX12_wasThere 59 = .ok (.getfield 9, 3) := by decide +kernel
theorem dX12_wasThere_62 : decode cX12_wasThere 62 = .ok (.iload 4, 2) := by decide +kernel
theorem dX12_wasThere_64 : decode cX12_wasThere 64 = .ok (.iconst 3, 1) := by decide +kernel
theorem dX12_wasThere_65 : decode cX12_wasThere 65 = .ok (.iadd, 1) := by decide +kernel
theorem dX12_wasThere_66 : decode cX12_wasThere 66 = .ok (.iaload, 1) := by decide +kernel
theorem dX12_wasThere_67 : decode cX12_wasThere 67 = .ok (.i2l, 1) := by decide +kernel
theorem dX12_wasThere_68 : decode cX12_wasThere 68 = .ok (.invokestatic 79, 3) := by decide +kernel
theorem dX12_wasThere_71 : decode cX12_wasThere 71 = .ok (.ifCond .eq 5, 3) := by decide +kernel
theorem dX12_wasThere_74 : decode cX12_wasThere 74 = .ok (.iconst 1, 1) := by decide +kernel
theorem dX12_wasThere_75 : decode cX12_wasThere 75 = .ok (.ireturn, 1) := by decide +kernel
theorem dX12_wasThere_76 : decode cX12_wasThere 76 = .ok (.iinc 4 4, 3) := by decide +kernel
theorem dX12_wasThere_79 : decode cX12_wasThere 79 = .ok (.goto (-74), 3) := by decide +kernel
theorem dX12_wasThere_82 : decode cX12_wasThere 82 = .ok (.iconst 0, 1) := by decide +kernel
theorem dX12_wasThere_83 : decode cX12_wasThere 83 = .ok (.ireturn, 1) := by decide +kernel
abbrev z_X12_wasThere_174 : Z9 := (some .boolean, 1, 0, 0, 2, 25)
def b_X12_wasThere_174_c5 (k_X12_wasThere_174_c5 : Int → Int → Int → Int → D9 → Option R9) (v1 v2 v3 v4 : Int) (d : D9) : Option R9 := ld d 175 1604 5 (fun t1 => if w32 (1086 + (4 * t1)) ≤ w32 v4 then rt (0 % 2) d else ld d 175 1604 v4 (fun t2 => if w32 t2 ≠ w32 v1 then k_X12_wasThere_174_c5 v1 v2 v3 (v4 + 4) d else ld d 175 1604 (v4 + 1) (fun t3 => if w32 t3 ≠ w32 v2 then k_X12_wasThere_174_c5 v1 v2 v3 (v4 + 4) d else ld d 175 1604 (v4 + 2) (fun t4 => ld d 175 1604 (v4 + 3) (fun t5 => cl (m_X12_within (w32 v3) (w32 t4) (w32 t5) d) (fun r6 d7 => if w32 r6 = 0 then k_X12_wasThere_174_c5 v1 v2 v3 (v4 + 4) d7 else rt (1 % 2) d7))))))
def m_X12_wasThere_174_c5 : Int → Int → Int → Int → D9 → Option R9 := fix9 (fun _ _ _ _ _ => none) (fun k => b_X12_wasThere_174_c5 k) FU
def m_X12_wasThere_174 (p1 p2 p3 : Int) (d : D9) : Option R9 := m_X12_wasThere_174_c5  p1 p2 p3 1086 d
set_option maxRecDepth 100000 in
theorem sb_X12_wasThere_174_c5 {G : G9} {X : X9} (C : CX G X cX12_wasThere 5 RX12 [] z_X12_wasThere_174) (k_X12_wasThere_174_c5 : Int → Int → Int → Int → D9 → Option R9) (hk_X12_wasThere_174_c5 : ∀ (v1 v2 v3 v4 : Int) (d : D9), SS G X 5 0 0 5 [(0, rf G 174), (1, i9 v1), (2, i9 v2), (3, i9 v3), (4, i9 v4)] [] d (k_X12_wasThere_174_c5 v1 v2 v3 v4 d)) : ∀ (v1 v2 v3 v4 : Int) (d : D9), SS G X 5 0 0 5 [(0, rf G 174), (1, i9 v1), (2, i9 v2), (3, i9 v3), (4, i9 v4)] [] d (b_X12_wasThere_174_c5 k_X12_wasThere_174_c5 v1 v2 v3 v4 d) := by
  intro v1 v2 v3 v4 d
  unfold b_X12_wasThere_174_c5
  refine r_iload C 4 dX12_wasThere_5 rfl ?_
  refine r_sipush C dX12_wasThere_7 rfl ?_
  refine r_iconst C dX12_wasThere_10 ?_
  refine r_aload_n C 0 dX12_wasThere_11 rfl rfl ?_
  refine r_getR C 175 dX12_wasThere_12 fl_X12_9 la_174 ly_174 rfl rfl ?_
  refine r_iconst C dX12_wasThere_15 ?_
  refine r_iald C dX12_wasThere_16 la_175 ly_175 (fun t1 => ?_)
  refine r_imul C dX12_wasThere_17 ?_
  refine r_iadd C dX12_wasThere_18 ?_
  refine r_icmp_ge C 82 dX12_wasThere_19 (by decide) (fun _ => ?_) (fun _ => ?_)
  · refine r_iconst C dX12_wasThere_82 ?_
    exact r_zret C dX12_wasThere_83 (by decide) (by decide)
  · refine r_aload_n C 0 dX12_wasThere_22 rfl rfl ?_
    refine r_getR C 175 dX12_wasThere_23 fl_X12_9 la_174 ly_174 rfl rfl ?_
    refine r_iload C 4 dX12_wasThere_26 rfl ?_
    refine r_iald C dX12_wasThere_28 la_175 ly_175 (fun t2 => ?_)
    refine r_iload_n C 1 dX12_wasThere_29 rfl rfl ?_
    refine r_icmp_ne C 76 dX12_wasThere_30 (by decide) (fun _ => ?_) (fun _ => ?_)
    · refine r_iinc C 4 [(4, i9 (v4 + 4)), (0, rf G 174), (1, i9 v1), (2, i9 v2), (3, i9 v3)] dX12_wasThere_76 rfl (by decide) rfl ?_
      refine r_goto C 5 dX12_wasThere_79 (by decide) ?_
      refine ss_wide (k' := 0) (n' := 0) (by decide) (by decide) ?_
      refine ss_ls [(0, rf G 174), (1, i9 v1), (2, i9 v2), (3, i9 v3), (4, i9 (v4 + 4))] [1, 2, 3, 4, 0] rfl ?_
      exact hk_X12_wasThere_174_c5 v1 v2 v3 (v4 + 4) d
    · refine r_aload_n C 0 dX12_wasThere_33 rfl rfl ?_
      refine r_getR C 175 dX12_wasThere_34 fl_X12_9 la_174 ly_174 rfl rfl ?_
      refine r_iload C 4 dX12_wasThere_37 rfl ?_
      refine r_iconst C dX12_wasThere_39 ?_
      refine r_iadd C dX12_wasThere_40 ?_
      refine r_iald C dX12_wasThere_41 la_175 ly_175 (fun t3 => ?_)
      refine r_iload_n C 2 dX12_wasThere_42 rfl rfl ?_
      refine r_icmp_ne C 76 dX12_wasThere_43 (by decide) (fun _ => ?_) (fun _ => ?_)
      · refine r_iinc C 4 [(4, i9 (v4 + 4)), (0, rf G 174), (1, i9 v1), (2, i9 v2), (3, i9 v3)] dX12_wasThere_76 rfl (by decide) rfl ?_
        refine r_goto C 5 dX12_wasThere_79 (by decide) ?_
        refine ss_wide (k' := 0) (n' := 0) (by decide) (by decide) ?_
        refine ss_ls [(0, rf G 174), (1, i9 v1), (2, i9 v2), (3, i9 v3), (4, i9 (v4 + 4))] [1, 2, 3, 4, 0] rfl ?_
        exact hk_X12_wasThere_174_c5 v1 v2 v3 (v4 + 4) d
      · refine r_iload_n C 3 dX12_wasThere_46 rfl rfl ?_
        refine r_i2l C dX12_wasThere_47 ?_
        refine r_aload_n C 0 dX12_wasThere_48 rfl rfl ?_
        refine r_getR C 175 dX12_wasThere_49 fl_X12_9 la_174 ly_174 rfl rfl ?_
        refine r_iload C 4 dX12_wasThere_52 rfl ?_
        refine r_iconst C dX12_wasThere_54 ?_
        refine r_iadd C dX12_wasThere_55 ?_
        refine r_iald C dX12_wasThere_56 la_175 ly_175 (fun t4 => ?_)
        refine r_i2l C dX12_wasThere_57 ?_
        refine r_aload_n C 0 dX12_wasThere_58 rfl rfl ?_
        refine r_getR C 175 dX12_wasThere_59 fl_X12_9 la_174 ly_174 rfl rfl ?_
        refine r_iload C 4 dX12_wasThere_62 rfl ?_
        refine r_iconst C dX12_wasThere_64 ?_
        refine r_iadd C dX12_wasThere_65 ?_
        refine r_iald C dX12_wasThere_66 la_175 ly_175 (fun t5 => ?_)
        refine r_i2l C dX12_wasThere_67 ?_
        refine r_callS C [l9 (w32 t5), l9 (w32 t4), l9 (w32 v3)] dX12_wasThere_68 (t_X12_within C.h1 C.h2 (w32 v3) (w32 t4) (w32 t5) d) mw_X12_79 ms_X12_within (by decide) (by decide) (by decide) rfl rfl (Nat.le_of_ble_eq_true rfl) (fun r6 d7 => ?_)
        show SS G X 5 _ _ 71 [(0, rf G 174), (1, i9 v1), (2, i9 v2), (3, i9 v3), (4, i9 v4)] [i9 r6] d7 _
        refine r_if_eq C (b := 0) 76 dX12_wasThere_71 (by decide) (fun _ => ?_) (fun _ => ?_)
        · refine r_iinc C 4 [(4, i9 (v4 + 4)), (0, rf G 174), (1, i9 v1), (2, i9 v2), (3, i9 v3)] dX12_wasThere_76 rfl (by decide) rfl ?_
          refine r_goto C 5 dX12_wasThere_79 (by decide) ?_
          refine ss_wide (k' := 0) (n' := 0) (by decide) (by decide) ?_
          refine ss_ls [(0, rf G 174), (1, i9 v1), (2, i9 v2), (3, i9 v3), (4, i9 (v4 + 4))] [1, 2, 3, 4, 0] rfl ?_
          exact hk_X12_wasThere_174_c5 v1 v2 v3 (v4 + 4) d7
        · refine r_iconst C dX12_wasThere_74 ?_
          exact r_zret C dX12_wasThere_75 (by decide) (by decide)
theorem s_X12_wasThere_174_c5 {G : G9} {X : X9} (C : CX G X cX12_wasThere 5 RX12 [] z_X12_wasThere_174) : ∀ (v1 v2 v3 v4 : Int) (d : D9), SS G X 5 0 0 5 [(0, rf G 174), (1, i9 v1), (2, i9 v2), (3, i9 v3), (4, i9 v4)] [] d (m_X12_wasThere_174_c5  v1 v2 v3 v4 d) :=
  fix9_ind (P := fun k => ∀ (v1 v2 v3 v4 : Int) (d : D9), SS G X 5 0 0 5 [(0, rf G 174), (1, i9 v1), (2, i9 v2), (3, i9 v3), (4, i9 v4)] [] d (k v1 v2 v3 v4 d)) (fun _ _ _ _ _ => ss_none) (fun k hk => sb_X12_wasThere_174_c5 C k hk) FU
set_option maxRecDepth 100000 in
theorem t_X12_wasThere_174 {G : G9} {l : Launch} (h1 : va_D (A9 G) (wl G (fun _ _ => 0))) (h2 : l.stackTraces = false) (p1 p2 p3 : Int) (d : D9) : MT G l yX12_wasThere cX12_wasThere 5 z_X12_wasThere_174 [rf G 174, i9 p1, i9 p2, i9 p3] d (m_X12_wasThere_174 p1 p2 p3 d) := by
  refine mt_of (own := RX12) (by decide) rfl (Nat.le_of_ble_eq_true rfl) h1 h2 [(0, rf G 174), (1, i9 p1), (2, i9 p2), (3, i9 p3)] rfl (fun X hX C => ?_)
  unfold m_X12_wasThere_174
  refine r_sipush C dX12_wasThere_0 rfl ?_
  refine r_istore C [(4, i9 1086), (0, rf G 174), (1, i9 p1), (2, i9 p2), (3, i9 p3)] dX12_wasThere_3 (by decide) rfl ?_
  refine ss_wide (k' := 0) (n' := 0) (by decide) (by decide) ?_
  refine ss_ls [(0, rf G 174), (1, i9 p1), (2, i9 p2), (3, i9 p3), (4, i9 1086)] [1, 2, 3, 4, 0] rfl ?_
  exact s_X12_wasThere_174_c5 C  p1 p2 p3 1086 d
theorem dX12_layTimes_0 : decode cX12_layTimes 0 = .ok (.aload_n 0, 1) := by decide +kernel
theorem dX12_layTimes_1 : decode cX12_layTimes 1 = .ok (.invokevirtual 381, 3) := by decide +kernel
theorem dX12_layTimes_4 : decode cX12_layTimes 4 = .ok (.aload_n 0, 1) := by decide +kernel
theorem dX12_layTimes_5 : decode cX12_layTimes 5 = .ok (.iload_n 1, 1) := by decide +kernel
theorem dX12_layTimes_6 : decode cX12_layTimes 6 = .ok (.iconst 0, 1) := by decide +kernel
theorem dX12_layTimes_7 : decode cX12_layTimes 7 = .ok (.iconst (-1), 1) := by decide +kernel
theorem dX12_layTimes_8 : decode cX12_layTimes 8 = .ok (.invokevirtual 384, 3) := by decide +kernel
theorem dX12_layTimes_11 : decode cX12_layTimes 11 = .ok (.istore_n 2, 1) := by decide +kernel
theorem dX12_layTimes_12 : decode cX12_layTimes 12 = .ok (.aload_n 0, 1) := by decide +kernel
theorem dX12_layTimes_13 : decode cX12_layTimes 13 = .ok (.iload_n 1, 1) := by decide +kernel
theorem dX12_layTimes_14 : decode cX12_layTimes 14 = .ok (.iconst 1, 1) := by decide +kernel
theorem dX12_layTimes_15 : decode cX12_layTimes 15 = .ok (.iconst (-1), 1) := by decide +kernel
theorem dX12_layTimes_16 : decode cX12_layTimes 16 = .ok (.invokevirtual 384, 3) := by decide +kernel
theorem dX12_layTimes_19 : decode cX12_layTimes 19 = .ok (.istore_n 3, 1) := by decide +kernel
theorem dX12_layTimes_20 : decode cX12_layTimes 20 = .ok (.iconst 0, 1) := by decide +kernel
theorem dX12_layTimes_21 : decode cX12_layTimes 21 = .ok (.istore 4, 2) := by decide +kernel
theorem dX12_layTimes_23 : decode cX12_layTimes 23 = .ok (.iconst 0, 1) := by decide +kernel
theorem dX12_layTimes_24 : decode cX12_layTimes 24 = .ok (.istore 5, 2) := by decide +kernel
theorem dX12_layTimes_26 : decode cX12_layTimes 26 = .ok (.iload 5, 2) := by decide +kernel
theorem dX12_layTimes_28 : decode cX12_layTimes 28 = .ok (.sipush 400, 3) := by decide +kernel
theorem dX12_layTimes_31 : decode cX12_layTimes 31 = .ok (.if_icmp .gt 79, 3) := by decide +kernel
theorem dX12_layTimes_34 : decode cX12_layTimes 34 = .ok (.aload_n 0, 1) := by decide +kernel
theorem dX12_layTimes_35 : decode cX12_layTimes 35 = .ok (.getfield 49, 3) := by decide +kernel
theorem dX12_layTimes_38 : decode cX12_layTimes 38 = .ok (.iload 5, 2) := by decide +kernel
theorem dX12_layTimes_40 : decode cX12_layTimes 40 = .ok (.iload 5, 2) := by decide +kernel
theorem dX12_layTimes_42 : decode cX12_layTimes 42 = .ok (.iload_n 2, 1) := by decide +kernel
theorem dX12_layTimes_43 : decode cX12_layTimes 43 = .ok (.if_icmp .lt 39, 3) := by decide +kernel
theorem dX12_layTimes_46 : decode cX12_layTimes 46 = .ok (.iload 5, 2) := by decide +kernel
theorem dX12_layTimes_48 : decode cX12_layTimes 48 = .ok (.iload_n 3, 1) := by decide +kernel
theorem dX12_layTimes_49 : decode cX12_layTimes 49 = .ok (.if_icmp .gt 33, 3) := by decide +kernel
theorem dX12_layTimes_52 : decode cX12_layTimes 52 = .ok (.aload_n 0, 1) := by decide +kernel
theorem dX12_layTimes_53 : decode cX12_layTimes 53 = .ok (.iload_n 1, 1) := by decide +kernel
theorem dX12_layTimes_54 : decode cX12_layTimes 54 = .ok (.iconst 0, 1) := by decide +kernel
theorem dX12_layTimes_55 : decode cX12_layTimes 55 = .ok (.invokevirtual 99, 3) := by decide +kernel
theorem dX12_layTimes_58 : decode cX12_layTimes 58 = .ok (.iconst 2, 1) := by decide +kernel
theorem dX12_layTimes_59 : decode cX12_layTimes 59 = .ok (.if_icmp .ne 19, 3) := by decide +kernel
theorem dX12_layTimes_62 : decode cX12_layTimes 62 = .ok (.aload_n 0, 1) := by decide +kernel
theorem dX12_layTimes_63 : decode cX12_layTimes 63 = .ok (.iconst 0, 1) := by decide +kernel
theorem dX12_layTimes_64 : decode cX12_layTimes 64 = .ok (.aload_n 0, 1) := by decide +kernel
theorem dX12_layTimes_65 : decode cX12_layTimes 65 = .ok (.iload_n 1, 1) := by decide +kernel
theorem dX12_layTimes_66 : decode cX12_layTimes 66 = .ok (.iconst 2, 1) := by decide +kernel
theorem dX12_layTimes_67 : decode cX12_layTimes 67 = .ok (.invokevirtual 99, 3) := by decide +kernel
theorem dX12_layTimes_70 : decode cX12_layTimes 70 = .ok (.iload 5, 2) := by decide +kernel
theorem dX12_layTimes_72 : decode cX12_layTimes 72 = .ok (.invokevirtual 430, 3) := by decide +kernel
theorem dX12_layTimes_75 : decode cX12_layTimes 75 = .ok (.ifCond .eq 7, 3) := by decide +kernel
theorem dX12_layTimes_78 : decode cX12_layTimes 78 = .ok (.iconst 1, 1) := by decide +kernel
theorem dX12_layTimes_79 : decode cX12_layTimes 79 = .ok (.goto 4, 3) := by decide +kernel
theorem dX12_layTimes_82 : decode cX12_layTimes 82 = .ok (.iconst 0, 1) := by decide +kernel
theorem dX12_layTimes_83 : decode cX12_layTimes 83 = .ok (.bastore, 1) := by decide +kernel
theorem dX12_layTimes_84 : decode cX12_layTimes 84 = .ok (.iload 4, 2) := by decide +kernel
theorem dX12_layTimes_86 : decode cX12_layTimes 86 = .ok (.aload_n 0, 1) := by decide +kernel
theorem dX12_layTimes_87 : decode cX12_layTimes 87 = .ok (.getfield 49, 3) := by decide +kernel
theorem dX12_layTimes_90 : decode cX12_layTimes 90 = .ok (.iload 5, 2) := by decide +kernel
theorem dX12_layTimes_92 : decode cX12_layTimes 92 = .ok (.baload, 1) := by decide +kernel
theorem dX12_layTimes_93 : decode cX12_layTimes 93 = .ok (.ifCond .eq 7, 3) := by decide +kernel
theorem dX12_layTimes_96 : decode cX12_layTimes 96 = .ok (.iconst 1, 1) := by decide +kernel
theorem dX12_layTimes_97 : decode cX12_layTimes 97 = .ok (.goto 4, 3) := by decide +kernel
theorem dX12_layTimes_100 : decode cX12_layTimes 100 = .ok (.iconst 0, 1) := by decide +kernel
theorem dX12_layTimes_101 : decode cX12_layTimes 101 = .ok (.iadd, 1) := by decide +kernel
theorem dX12_layTimes_102 : decode cX12_layTimes 102 = .ok (.istore 4, 2) := by decide +kernel
theorem dX12_layTimes_104 : decode cX12_layTimes 104 = .ok (.iinc 5 1, 3) := by decide +kernel
theorem dX12_layTimes_107 : decode cX12_layTimes 107 = .ok (.goto (-81), 3) := by decide +kernel
theorem dX12_layTimes_110 : decode cX12_layTimes 110 = .ok (.iload 4, 2) := by decide +kernel
theorem dX12_layTimes_112 : decode cX12_layTimes 112 = .ok (.ireturn, 1) := by decide +kernel
abbrev z_X12_layTimes_174 : Z9 := (some .int, 1, 0, 0, 10, 252)
def m_X12_layTimes_174_c83 (k_X12_layTimes_174_c26 : Int → Int → Int → Int → Int → D9 → Option R9) (v1 v2 v3 v4 v5 s0 s1 : Int) (d : D9) : Option R9 := sd d 186 401 s1 (s0 % 2) (fun d1 => ld d1 186 401 v5 (fun t2 => if w32 t2 = 0 then lt9v (v4 + 0) (fun a3 => k_X12_layTimes_174_c26 v1 v2 v3 a3 (v5 + 1) d1) else lt9v (v4 + 1) (fun a4 => k_X12_layTimes_174_c26 v1 v2 v3 a4 (v5 + 1) d1)))
def b_X12_layTimes_174_c26 (k_X12_layTimes_174_c26 : Int → Int → Int → Int → Int → D9 → Option R9) (v1 v2 v3 v4 v5 : Int) (d : D9) : Option R9 := if w32 400 < w32 v5 then rt v4 d else if w32 v5 < w32 v2 then m_X12_layTimes_174_c83 k_X12_layTimes_174_c26 v1 v2 v3 v4 v5 0 v5 d else if w32 v3 < w32 v5 then m_X12_layTimes_174_c83 k_X12_layTimes_174_c26 v1 v2 v3 v4 v5 0 v5 d else cl (m_X12_ofPaint_174 v1 0 d) (fun r1 d2 => if w32 r1 ≠ w32 2 then m_X12_layTimes_174_c83 k_X12_layTimes_174_c26 v1 v2 v3 v4 v5 1 v5 d2 else cl (m_X12_ofPaint_174 v1 2 d2) (fun r3 d4 => cl (m_X12_wasThere_174 0 r3 v5 d4) (fun r5 d6 => if w32 r5 = 0 then m_X12_layTimes_174_c83 k_X12_layTimes_174_c26 v1 v2 v3 v4 v5 0 v5 d6 else m_X12_layTimes_174_c83 k_X12_layTimes_174_c26 v1 v2 v3 v4 v5 1 v5 d6)))
def m_X12_layTimes_174_c26 : Int → Int → Int → Int → Int → D9 → Option R9 := fix9 (fun _ _ _ _ _ _ => none) (fun k => b_X12_layTimes_174_c26 k) FU
def m_X12_layTimes_174 (p1 : Int) (d : D9) : Option R9 := cl (m_X12_layReach_174 d) (fun r1 d2 => cl (m_X12_boundOf_174 p1 0 (-1) d2) (fun r3 d4 => cl (m_X12_boundOf_174 p1 1 (-1) d4) (fun r5 d6 => m_X12_layTimes_174_c26  p1 r3 r5 0 0 d6)))
set_option maxRecDepth 100000 in
theorem s_X12_layTimes_174_c83 {G : G9} {X : X9} (C : CX G X cX12_layTimes 6 RX12 [] z_X12_layTimes_174) (k_X12_layTimes_174_c26 : Int → Int → Int → Int → Int → D9 → Option R9) (hk_X12_layTimes_174_c26 : ∀ (v1 v2 v3 v4 v5 : Int) (d : D9), SS G X 6 0 0 26 [(0, rf G 174), (1, i9 v1), (2, i9 v2), (3, i9 v3), (4, i9 v4), (5, i9 v5)] [] d (k_X12_layTimes_174_c26 v1 v2 v3 v4 v5 d)) : ∀ (v1 v2 v3 v4 v5 s0 s1 : Int) (d : D9), SS G X 6 0 0 83 [(0, rf G 174), (1, i9 v1), (2, i9 v2), (3, i9 v3), (4, i9 v4), (5, i9 v5)] [i9 s0, i9 s1, rf G 186] d (m_X12_layTimes_174_c83 k_X12_layTimes_174_c26 v1 v2 v3 v4 v5 s0 s1 d) := by
  intro v1 v2 v3 v4 v5 s0 s1 d
  unfold m_X12_layTimes_174_c83
  refine r_zast C dX12_layTimes_83 la_186 ly_186 (fun d1 => ?_)
  refine r_iload C 4 dX12_layTimes_84 rfl ?_
  refine r_aload_n C 0 dX12_layTimes_86 rfl rfl ?_
  refine r_getR C 186 dX12_layTimes_87 fl_X12_49 la_174 ly_174 rfl rfl ?_
  refine r_iload C 5 dX12_layTimes_90 rfl ?_
  refine r_zald C dX12_layTimes_92 la_186 ly_186 (fun t2 => ?_)
  refine r_if_eq C (b := 0) 100 dX12_layTimes_93 (by decide) (fun _ => ?_) (fun _ => ?_)
  · refine r_iconst C dX12_layTimes_100 ?_
    refine r_iadd C dX12_layTimes_101 ?_
    refine ss_lt (fun a3 => ?_)
    refine r_istore C [(4, i9 a3), (0, rf G 174), (1, i9 v1), (2, i9 v2), (3, i9 v3), (5, i9 v5)] dX12_layTimes_102 (by decide) rfl ?_
    refine r_iinc C 5 [(5, i9 (v5 + 1)), (4, i9 a3), (0, rf G 174), (1, i9 v1), (2, i9 v2), (3, i9 v3)] dX12_layTimes_104 rfl (by decide) rfl ?_
    refine r_goto C 26 dX12_layTimes_107 (by decide) ?_
    refine ss_wide (k' := 0) (n' := 0) (by decide) (by decide) ?_
    refine ss_ls [(0, rf G 174), (1, i9 v1), (2, i9 v2), (3, i9 v3), (4, i9 a3), (5, i9 (v5 + 1))] [2, 3, 4, 5, 1, 0] rfl ?_
    exact hk_X12_layTimes_174_c26 v1 v2 v3 a3 (v5 + 1) d1
  · refine r_iconst C dX12_layTimes_96 ?_
    refine r_goto C 101 dX12_layTimes_97 (by decide) ?_
    refine r_iadd C dX12_layTimes_101 ?_
    refine ss_lt (fun a4 => ?_)
    refine r_istore C [(4, i9 a4), (0, rf G 174), (1, i9 v1), (2, i9 v2), (3, i9 v3), (5, i9 v5)] dX12_layTimes_102 (by decide) rfl ?_
    refine r_iinc C 5 [(5, i9 (v5 + 1)), (4, i9 a4), (0, rf G 174), (1, i9 v1), (2, i9 v2), (3, i9 v3)] dX12_layTimes_104 rfl (by decide) rfl ?_
    refine r_goto C 26 dX12_layTimes_107 (by decide) ?_
    refine ss_wide (k' := 0) (n' := 0) (by decide) (by decide) ?_
    refine ss_ls [(0, rf G 174), (1, i9 v1), (2, i9 v2), (3, i9 v3), (4, i9 a4), (5, i9 (v5 + 1))] [2, 3, 4, 5, 1, 0] rfl ?_
    exact hk_X12_layTimes_174_c26 v1 v2 v3 a4 (v5 + 1) d1
set_option maxRecDepth 100000 in
theorem sb_X12_layTimes_174_c26 {G : G9} {X : X9} (C : CX G X cX12_layTimes 6 RX12 [] z_X12_layTimes_174) (k_X12_layTimes_174_c26 : Int → Int → Int → Int → Int → D9 → Option R9) (hk_X12_layTimes_174_c26 : ∀ (v1 v2 v3 v4 v5 : Int) (d : D9), SS G X 6 0 0 26 [(0, rf G 174), (1, i9 v1), (2, i9 v2), (3, i9 v3), (4, i9 v4), (5, i9 v5)] [] d (k_X12_layTimes_174_c26 v1 v2 v3 v4 v5 d)) : ∀ (v1 v2 v3 v4 v5 : Int) (d : D9), SS G X 6 0 0 26 [(0, rf G 174), (1, i9 v1), (2, i9 v2), (3, i9 v3), (4, i9 v4), (5, i9 v5)] [] d (b_X12_layTimes_174_c26 k_X12_layTimes_174_c26 v1 v2 v3 v4 v5 d) := by
  intro v1 v2 v3 v4 v5 d
  unfold b_X12_layTimes_174_c26
  refine r_iload C 5 dX12_layTimes_26 rfl ?_
  refine r_sipush C dX12_layTimes_28 rfl ?_
  refine r_icmp_gt C 110 dX12_layTimes_31 (by decide) (fun _ => ?_) (fun _ => ?_)
  · refine r_iload C 4 dX12_layTimes_110 rfl ?_
    exact r_iret C dX12_layTimes_112 (by decide) (by decide)
  · refine r_aload_n C 0 dX12_layTimes_34 rfl rfl ?_
    refine r_getR C 186 dX12_layTimes_35 fl_X12_49 la_174 ly_174 rfl rfl ?_
    refine r_iload C 5 dX12_layTimes_38 rfl ?_
    refine r_iload C 5 dX12_layTimes_40 rfl ?_
    refine r_iload_n C 2 dX12_layTimes_42 rfl rfl ?_
    refine r_icmp_lt C 82 dX12_layTimes_43 (by decide) (fun _ => ?_) (fun _ => ?_)
    · refine r_iconst C dX12_layTimes_82 ?_
      refine ss_wide (k' := 0) (n' := 0) (by decide) (by decide) ?_
      refine ss_ls [(0, rf G 174), (1, i9 v1), (2, i9 v2), (3, i9 v3), (4, i9 v4), (5, i9 v5)] [0, 1, 2, 3, 4, 5] rfl ?_
      exact s_X12_layTimes_174_c83 C k_X12_layTimes_174_c26 hk_X12_layTimes_174_c26 v1 v2 v3 v4 v5 0 v5 d
    · refine r_iload C 5 dX12_layTimes_46 rfl ?_
      refine r_iload_n C 3 dX12_layTimes_48 rfl rfl ?_
      refine r_icmp_gt C 82 dX12_layTimes_49 (by decide) (fun _ => ?_) (fun _ => ?_)
      · refine r_iconst C dX12_layTimes_82 ?_
        refine ss_wide (k' := 0) (n' := 0) (by decide) (by decide) ?_
        refine ss_ls [(0, rf G 174), (1, i9 v1), (2, i9 v2), (3, i9 v3), (4, i9 v4), (5, i9 v5)] [0, 1, 2, 3, 4, 5] rfl ?_
        exact s_X12_layTimes_174_c83 C k_X12_layTimes_174_c26 hk_X12_layTimes_174_c26 v1 v2 v3 v4 v5 0 v5 d
      · refine r_aload_n C 0 dX12_layTimes_52 rfl rfl ?_
        refine r_iload_n C 1 dX12_layTimes_53 rfl rfl ?_
        refine r_iconst C dX12_layTimes_54 ?_
        refine r_callV C [i9 0, i9 v1, rf G 174, i9 v5, rf G 186] dX12_layTimes_55 (t_X12_ofPaint_174 C.h1 C.h2 v1 0 d) mw_X12_99 mv_X12_ofPaint la_174 ly_174 rfl (by decide) (by decide) (by decide) rfl rfl (Nat.le_of_ble_eq_true rfl) (fun r1 d2 => ?_)
        show SS G X 6 _ _ 58 [(0, rf G 174), (1, i9 v1), (2, i9 v2), (3, i9 v3), (4, i9 v4), (5, i9 v5)] [i9 r1, i9 v5, rf G 186] d2 _
        refine r_iconst C dX12_layTimes_58 ?_
        refine r_icmp_ne C 78 dX12_layTimes_59 (by decide) (fun _ => ?_) (fun _ => ?_)
        · refine r_iconst C dX12_layTimes_78 ?_
          refine r_goto C 83 dX12_layTimes_79 (by decide) ?_
          refine ss_wide (k' := 0) (n' := 0) (by decide) (by decide) ?_
          refine ss_ls [(0, rf G 174), (1, i9 v1), (2, i9 v2), (3, i9 v3), (4, i9 v4), (5, i9 v5)] [0, 1, 2, 3, 4, 5] rfl ?_
          exact s_X12_layTimes_174_c83 C k_X12_layTimes_174_c26 hk_X12_layTimes_174_c26 v1 v2 v3 v4 v5 1 v5 d2
        · refine r_aload_n C 0 dX12_layTimes_62 rfl rfl ?_
          refine r_iconst C dX12_layTimes_63 ?_
          refine r_aload_n C 0 dX12_layTimes_64 rfl rfl ?_
          refine r_iload_n C 1 dX12_layTimes_65 rfl rfl ?_
          refine r_iconst C dX12_layTimes_66 ?_
          refine r_callV C [i9 2, i9 v1, rf G 174, i9 0, rf G 174, i9 v5, rf G 186] dX12_layTimes_67 (t_X12_ofPaint_174 C.h1 C.h2 v1 2 d2) mw_X12_99 mv_X12_ofPaint la_174 ly_174 rfl (by decide) (by decide) (by decide) rfl rfl (Nat.le_of_ble_eq_true rfl) (fun r3 d4 => ?_)
          show SS G X 6 _ _ 70 [(0, rf G 174), (1, i9 v1), (2, i9 v2), (3, i9 v3), (4, i9 v4), (5, i9 v5)] [i9 r3, i9 0, rf G 174, i9 v5, rf G 186] d4 _
          refine r_iload C 5 dX12_layTimes_70 rfl ?_
          refine r_callV C [i9 v5, i9 r3, i9 0, rf G 174, i9 v5, rf G 186] dX12_layTimes_72 (t_X12_wasThere_174 C.h1 C.h2 0 r3 v5 d4) mw_X12_430 mv_X12_wasThere la_174 ly_174 rfl (by decide) (by decide) (by decide) rfl rfl (Nat.le_of_ble_eq_true rfl) (fun r5 d6 => ?_)
          show SS G X 6 _ _ 75 [(0, rf G 174), (1, i9 v1), (2, i9 v2), (3, i9 v3), (4, i9 v4), (5, i9 v5)] [i9 r5, i9 v5, rf G 186] d6 _
          refine r_if_eq C (b := 0) 82 dX12_layTimes_75 (by decide) (fun _ => ?_) (fun _ => ?_)
          · refine r_iconst C dX12_layTimes_82 ?_
            refine ss_wide (k' := 0) (n' := 0) (by decide) (by decide) ?_
            refine ss_ls [(0, rf G 174), (1, i9 v1), (2, i9 v2), (3, i9 v3), (4, i9 v4), (5, i9 v5)] [0, 1, 2, 3, 4, 5] rfl ?_
            exact s_X12_layTimes_174_c83 C k_X12_layTimes_174_c26 hk_X12_layTimes_174_c26 v1 v2 v3 v4 v5 0 v5 d6
          · refine r_iconst C dX12_layTimes_78 ?_
            refine r_goto C 83 dX12_layTimes_79 (by decide) ?_
            refine ss_wide (k' := 0) (n' := 0) (by decide) (by decide) ?_
            refine ss_ls [(0, rf G 174), (1, i9 v1), (2, i9 v2), (3, i9 v3), (4, i9 v4), (5, i9 v5)] [0, 1, 2, 3, 4, 5] rfl ?_
            exact s_X12_layTimes_174_c83 C k_X12_layTimes_174_c26 hk_X12_layTimes_174_c26 v1 v2 v3 v4 v5 1 v5 d6
theorem s_X12_layTimes_174_c26 {G : G9} {X : X9} (C : CX G X cX12_layTimes 6 RX12 [] z_X12_layTimes_174) : ∀ (v1 v2 v3 v4 v5 : Int) (d : D9), SS G X 6 0 0 26 [(0, rf G 174), (1, i9 v1), (2, i9 v2), (3, i9 v3), (4, i9 v4), (5, i9 v5)] [] d (m_X12_layTimes_174_c26  v1 v2 v3 v4 v5 d) :=
  fix9_ind (P := fun k => ∀ (v1 v2 v3 v4 v5 : Int) (d : D9), SS G X 6 0 0 26 [(0, rf G 174), (1, i9 v1), (2, i9 v2), (3, i9 v3), (4, i9 v4), (5, i9 v5)] [] d (k v1 v2 v3 v4 v5 d)) (fun _ _ _ _ _ _ => ss_none) (fun k hk => sb_X12_layTimes_174_c26 C k hk) FU
set_option maxRecDepth 100000 in
theorem t_X12_layTimes_174 {G : G9} {l : Launch} (h1 : va_D (A9 G) (wl G (fun _ _ => 0))) (h2 : l.stackTraces = false) (p1 : Int) (d : D9) : MT G l yX12_layTimes cX12_layTimes 6 z_X12_layTimes_174 [rf G 174, i9 p1] d (m_X12_layTimes_174 p1 d) := by
  refine mt_of (own := RX12) (by decide) rfl (Nat.le_of_ble_eq_true rfl) h1 h2 [(0, rf G 174), (1, i9 p1)] rfl (fun X hX C => ?_)
  unfold m_X12_layTimes_174
  refine r_aload_n C 0 dX12_layTimes_0 rfl rfl ?_
  refine r_callV C [rf G 174] dX12_layTimes_1 (t_X12_layReach_174 C.h1 C.h2 d) mw_X12_381 mv_X12_layReach la_174 ly_174 rfl (by decide) (by decide) (by decide) rfl rfl (Nat.le_of_ble_eq_true rfl) (fun r1 d2 => ?_)
  show SS G X 6 _ _ 4 [(0, rf G 174), (1, i9 p1)] [] d2 _
  refine r_aload_n C 0 dX12_layTimes_4 rfl rfl ?_
  refine r_iload_n C 1 dX12_layTimes_5 rfl rfl ?_
  refine r_iconst C dX12_layTimes_6 ?_
  refine r_iconst C dX12_layTimes_7 ?_
  refine r_callV C [i9 (-1), i9 0, i9 p1, rf G 174] dX12_layTimes_8 (t_X12_boundOf_174 C.h1 C.h2 p1 0 (-1) d2) mw_X12_384 mv_X12_boundOf la_174 ly_174 rfl (by decide) (by decide) (by decide) rfl rfl (Nat.le_of_ble_eq_true rfl) (fun r3 d4 => ?_)
  show SS G X 6 _ _ 11 [(0, rf G 174), (1, i9 p1)] [i9 r3] d4 _
  refine r_istore_n C [(2, i9 r3), (0, rf G 174), (1, i9 p1)] dX12_layTimes_11 rfl (by decide) rfl ?_
  refine r_aload_n C 1 dX12_layTimes_12 rfl rfl ?_
  refine r_iload_n C 2 dX12_layTimes_13 rfl rfl ?_
  refine r_iconst C dX12_layTimes_14 ?_
  refine r_iconst C dX12_layTimes_15 ?_
  refine r_callV C [i9 (-1), i9 1, i9 p1, rf G 174] dX12_layTimes_16 (t_X12_boundOf_174 C.h1 C.h2 p1 1 (-1) d4) mw_X12_384 mv_X12_boundOf la_174 ly_174 rfl (by decide) (by decide) (by decide) rfl rfl (Nat.le_of_ble_eq_true rfl) (fun r5 d6 => ?_)
  show SS G X 6 _ _ 19 [(2, i9 r3), (0, rf G 174), (1, i9 p1)] [i9 r5] d6 _
  refine r_istore_n C [(3, i9 r5), (2, i9 r3), (0, rf G 174), (1, i9 p1)] dX12_layTimes_19 rfl (by decide) rfl ?_
  refine r_iconst C dX12_layTimes_20 ?_
  refine r_istore C [(4, i9 0), (3, i9 r5), (2, i9 r3), (0, rf G 174), (1, i9 p1)] dX12_layTimes_21 (by decide) rfl ?_
  refine r_iconst C dX12_layTimes_23 ?_
  refine r_istore C [(5, i9 0), (4, i9 0), (3, i9 r5), (2, i9 r3), (0, rf G 174), (1, i9 p1)] dX12_layTimes_24 (by decide) rfl ?_
  refine ss_wide (k' := 0) (n' := 0) (by decide) (by decide) ?_
  refine ss_ls [(0, rf G 174), (1, i9 p1), (2, i9 r3), (3, i9 r5), (4, i9 0), (5, i9 0)] [4, 5, 3, 2, 1, 0] rfl ?_
  exact s_X12_layTimes_174_c26 C  p1 r3 r5 0 0 d6
theorem dX12_isOnly_0 : decode cX12_isOnly 0 = .ok (.iconst 0, 1) := by decide +kernel
theorem dX12_isOnly_1 : decode cX12_isOnly 1 = .ok (.istore_n 3, 1) := by decide +kernel
theorem dX12_isOnly_2 : decode cX12_isOnly 2 = .ok (.iload_n 3, 1) := by decide +kernel
theorem dX12_isOnly_3 : decode cX12_isOnly 3 = .ok (.bipush 6, 2) := by decide +kernel
theorem dX12_isOnly_5 : decode cX12_isOnly 5 = .ok (.if_icmp .ge 31, 3) := by decide +kernel
theorem dX12_isOnly_8 : decode cX12_isOnly 8 = .ok (.aload_n 0, 1) := by decide +kernel
theorem dX12_isOnly_9 : decode cX12_isOnly 9 = .ok (.iconst 1, 1) := by decide +kernel
theorem dX12_isOnly_10 : decode cX12_isOnly 10 = .ok (.iload_n 3, 1) := by decide +kernel
theorem dX12_isOnly_11 : decode cX12_isOnly 11 = .ok (.iload_n 2, 1) := by decide +kernel
theorem dX12_isOnly_12 : decode cX12_isOnly 12 = .ok (.invokevirtual 430, 3) := by decide +kernel
theorem dX12_isOnly_15 : decode cX12_isOnly 15 = .ok (.iload_n 3, 1) := by decide +kernel
theorem dX12_isOnly_16 : decode cX12_isOnly 16 = .ok (.iload_n 1, 1) := by decide +kernel
theorem dX12_isOnly_17 : decode cX12_isOnly 17 = .ok (.if_icmp .ne 7, 3) := by decide +kernel
theorem dX12_isOnly_20 : decode cX12_isOnly 20 = .ok (.iconst 1, 1) := by decide +kernel
theorem dX12_isOnly_21 : decode cX12_isOnly 21 = .ok (.goto 4, 3) := by decide +kernel
theorem dX12_isOnly_24 : decode cX12_isOnly 24 = .ok (.iconst 0, 1) := by decide +kernel
theorem dX12_isOnly_25 : decode cX12_isOnly 25 = .ok (.if_icmp .eq 5, 3) := by decide +kernel
theorem dX12_isOnly_28 : decode cX12_isOnly 28 = .ok (.iconst 0, 1) := by decide +kernel
theorem dX12_isOnly_29 : decode cX12_isOnly 29 = .ok (.ireturn, 1) := by decide +kernel
theorem dX12_isOnly_30 : decode cX12_isOnly 30 = .ok (.iinc 3 1, 3) := by decide +kernel
theorem dX12_isOnly_33 : decode cX12_isOnly 33 = .ok (.goto (-31), 3) := by decide +kernel
theorem dX12_isOnly_36 : decode cX12_isOnly 36 = .ok (.iconst 1, 1) := by decide +kernel
theorem dX12_isOnly_37 : decode cX12_isOnly 37 = .ok (.ireturn, 1) := by decide +kernel
abbrev z_X12_isOnly_174 : Z9 := (some .boolean, 1, 0, 0, 3, 49)
def m_X12_isOnly_174_c25 (k_X12_isOnly_174_c2 : Int → Int → Int → D9 → Option R9) (v1 v2 v3 s0 s1 : Int) (d : D9) : Option R9 := if w32 s1 = w32 s0 then k_X12_isOnly_174_c2 v1 v2 (v3 + 1) d else rt (0 % 2) d
def b_X12_isOnly_174_c2 (k_X12_isOnly_174_c2 : Int → Int → Int → D9 → Option R9) (v1 v2 v3 : Int) (d : D9) : Option R9 := if w32 6 ≤ w32 v3 then rt (1 % 2) d else cl (m_X12_wasThere_174 1 v3 v2 d) (fun r1 d2 => if w32 v3 ≠ w32 v1 then m_X12_isOnly_174_c25 k_X12_isOnly_174_c2 v1 v2 v3 0 r1 d2 else m_X12_isOnly_174_c25 k_X12_isOnly_174_c2 v1 v2 v3 1 r1 d2)
def m_X12_isOnly_174_c2 : Int → Int → Int → D9 → Option R9 := fix9 (fun _ _ _ _ => none) (fun k => b_X12_isOnly_174_c2 k) FU
def m_X12_isOnly_174 (p1 p2 : Int) (d : D9) : Option R9 := m_X12_isOnly_174_c2  p1 p2 0 d
set_option maxRecDepth 100000 in
theorem s_X12_isOnly_174_c25 {G : G9} {X : X9} (C : CX G X cX12_isOnly 4 RX12 [] z_X12_isOnly_174) (k_X12_isOnly_174_c2 : Int → Int → Int → D9 → Option R9) (hk_X12_isOnly_174_c2 : ∀ (v1 v2 v3 : Int) (d : D9), SS G X 4 0 0 2 [(0, rf G 174), (1, i9 v1), (2, i9 v2), (3, i9 v3)] [] d (k_X12_isOnly_174_c2 v1 v2 v3 d)) : ∀ (v1 v2 v3 s0 s1 : Int) (d : D9), SS G X 4 0 0 25 [(0, rf G 174), (1, i9 v1), (2, i9 v2), (3, i9 v3)] [i9 s0, i9 s1] d (m_X12_isOnly_174_c25 k_X12_isOnly_174_c2 v1 v2 v3 s0 s1 d) := by
  intro v1 v2 v3 s0 s1 d
  unfold m_X12_isOnly_174_c25
  refine r_icmp_eq C 30 dX12_isOnly_25 (by decide) (fun _ => ?_) (fun _ => ?_)
  · refine r_iinc C 3 [(3, i9 (v3 + 1)), (0, rf G 174), (1, i9 v1), (2, i9 v2)] dX12_isOnly_30 rfl (by decide) rfl ?_
    refine r_goto C 2 dX12_isOnly_33 (by decide) ?_
    refine ss_wide (k' := 0) (n' := 0) (by decide) (by decide) ?_
    refine ss_ls [(0, rf G 174), (1, i9 v1), (2, i9 v2), (3, i9 (v3 + 1))] [1, 2, 3, 0] rfl ?_
    exact hk_X12_isOnly_174_c2 v1 v2 (v3 + 1) d
  · refine r_iconst C dX12_isOnly_28 ?_
    exact r_zret C dX12_isOnly_29 (by decide) (by decide)
set_option maxRecDepth 100000 in
theorem sb_X12_isOnly_174_c2 {G : G9} {X : X9} (C : CX G X cX12_isOnly 4 RX12 [] z_X12_isOnly_174) (k_X12_isOnly_174_c2 : Int → Int → Int → D9 → Option R9) (hk_X12_isOnly_174_c2 : ∀ (v1 v2 v3 : Int) (d : D9), SS G X 4 0 0 2 [(0, rf G 174), (1, i9 v1), (2, i9 v2), (3, i9 v3)] [] d (k_X12_isOnly_174_c2 v1 v2 v3 d)) : ∀ (v1 v2 v3 : Int) (d : D9), SS G X 4 0 0 2 [(0, rf G 174), (1, i9 v1), (2, i9 v2), (3, i9 v3)] [] d (b_X12_isOnly_174_c2 k_X12_isOnly_174_c2 v1 v2 v3 d) := by
  intro v1 v2 v3 d
  unfold b_X12_isOnly_174_c2
  refine r_iload_n C 3 dX12_isOnly_2 rfl rfl ?_
  refine r_bipush C dX12_isOnly_3 rfl ?_
  refine r_icmp_ge C 36 dX12_isOnly_5 (by decide) (fun _ => ?_) (fun _ => ?_)
  · refine r_iconst C dX12_isOnly_36 ?_
    exact r_zret C dX12_isOnly_37 (by decide) (by decide)
  · refine r_aload_n C 0 dX12_isOnly_8 rfl rfl ?_
    refine r_iconst C dX12_isOnly_9 ?_
    refine r_iload_n C 3 dX12_isOnly_10 rfl rfl ?_
    refine r_iload_n C 2 dX12_isOnly_11 rfl rfl ?_
    refine r_callV C [i9 v2, i9 v3, i9 1, rf G 174] dX12_isOnly_12 (t_X12_wasThere_174 C.h1 C.h2 1 v3 v2 d) mw_X12_430 mv_X12_wasThere la_174 ly_174 rfl (by decide) (by decide) (by decide) rfl rfl (Nat.le_of_ble_eq_true rfl) (fun r1 d2 => ?_)
    show SS G X 4 _ _ 15 [(0, rf G 174), (1, i9 v1), (2, i9 v2), (3, i9 v3)] [i9 r1] d2 _
    refine r_iload_n C 3 dX12_isOnly_15 rfl rfl ?_
    refine r_iload_n C 1 dX12_isOnly_16 rfl rfl ?_
    refine r_icmp_ne C 24 dX12_isOnly_17 (by decide) (fun _ => ?_) (fun _ => ?_)
    · refine r_iconst C dX12_isOnly_24 ?_
      refine ss_wide (k' := 0) (n' := 0) (by decide) (by decide) ?_
      refine ss_ls [(0, rf G 174), (1, i9 v1), (2, i9 v2), (3, i9 v3)] [0, 1, 2, 3] rfl ?_
      exact s_X12_isOnly_174_c25 C k_X12_isOnly_174_c2 hk_X12_isOnly_174_c2 v1 v2 v3 0 r1 d2
    · refine r_iconst C dX12_isOnly_20 ?_
      refine r_goto C 25 dX12_isOnly_21 (by decide) ?_
      refine ss_wide (k' := 0) (n' := 0) (by decide) (by decide) ?_
      refine ss_ls [(0, rf G 174), (1, i9 v1), (2, i9 v2), (3, i9 v3)] [0, 1, 2, 3] rfl ?_
      exact s_X12_isOnly_174_c25 C k_X12_isOnly_174_c2 hk_X12_isOnly_174_c2 v1 v2 v3 1 r1 d2
theorem s_X12_isOnly_174_c2 {G : G9} {X : X9} (C : CX G X cX12_isOnly 4 RX12 [] z_X12_isOnly_174) : ∀ (v1 v2 v3 : Int) (d : D9), SS G X 4 0 0 2 [(0, rf G 174), (1, i9 v1), (2, i9 v2), (3, i9 v3)] [] d (m_X12_isOnly_174_c2  v1 v2 v3 d) :=
  fix9_ind (P := fun k => ∀ (v1 v2 v3 : Int) (d : D9), SS G X 4 0 0 2 [(0, rf G 174), (1, i9 v1), (2, i9 v2), (3, i9 v3)] [] d (k v1 v2 v3 d)) (fun _ _ _ _ => ss_none) (fun k hk => sb_X12_isOnly_174_c2 C k hk) FU
set_option maxRecDepth 100000 in
theorem t_X12_isOnly_174 {G : G9} {l : Launch} (h1 : va_D (A9 G) (wl G (fun _ _ => 0))) (h2 : l.stackTraces = false) (p1 p2 : Int) (d : D9) : MT G l yX12_isOnly cX12_isOnly 4 z_X12_isOnly_174 [rf G 174, i9 p1, i9 p2] d (m_X12_isOnly_174 p1 p2 d) := by
  refine mt_of (own := RX12) (by decide) rfl (Nat.le_of_ble_eq_true rfl) h1 h2 [(0, rf G 174), (1, i9 p1), (2, i9 p2)] rfl (fun X hX C => ?_)
  unfold m_X12_isOnly_174
  refine r_iconst C dX12_isOnly_0 ?_
  refine r_istore_n C [(3, i9 0), (0, rf G 174), (1, i9 p1), (2, i9 p2)] dX12_isOnly_1 rfl (by decide) rfl ?_
  refine ss_wide (k' := 0) (n' := 0) (by decide) (by decide) ?_
  refine ss_ls [(0, rf G 174), (1, i9 p1), (2, i9 p2), (3, i9 0)] [1, 2, 3, 0] rfl ?_
  exact s_X12_isOnly_174_c2 C  p1 p2 0 d
theorem dX12_aloneIn_0 : decode cX12_aloneIn 0 = .ok (.iconst 0, 1) := by decide +kernel
theorem dX12_aloneIn_1 : decode cX12_aloneIn 1 = .ok (.istore_n 2, 1) := by decide +kernel
theorem dX12_aloneIn_2 : decode cX12_aloneIn 2 = .ok (.iconst 0, 1) := by decide +kernel
theorem dX12_aloneIn_3 : decode cX12_aloneIn 3 = .ok (.istore_n 3, 1) := by decide +kernel
theorem dX12_aloneIn_4 : decode cX12_aloneIn 4 = .ok (.iload_n 3, 1) := by decide +kernel
theorem dX12_aloneIn_5 : decode cX12_aloneIn 5 = .ok (.sipush 400, 3) := by decide +kernel
theorem dX12_aloneIn_8 : decode cX12_aloneIn 8 = .ok (.if_icmp .gt 35, 3) := by decide +kernel
theorem dX12_aloneIn_11 : decode cX12_aloneIn 11 = .ok (.iload_n 2, 1) := by decide +kernel
theorem dX12_aloneIn_12 : decode cX12_aloneIn 12 = .ok (.aload_n 0, 1) := by decide +kernel
theorem dX12_aloneIn_13 : decode cX12_aloneIn 13 = .ok (.getfield 49, 3) := by decide +kernel
theorem dX12_aloneIn_16 : decode cX12_aloneIn 16 = .ok (.iload_n 3, 1) := by decide +kernel
theorem dX12_aloneIn_17 : decode cX12_aloneIn 17 = .ok (.baload, 1) := by decide +kernel
theorem dX12_aloneIn_18 : decode cX12_aloneIn 18 = .ok (.ifCond .eq 16, 3) := by decide +kernel
theorem dX12_aloneIn_21 : decode cX12_aloneIn 21 = .ok (.aload_n 0, 1) := by decide +kernel
theorem dX12_aloneIn_22 : decode cX12_aloneIn 22 = .ok (.iload_n 1, 1) := by decide +kernel
theorem dX12_aloneIn_23 : decode cX12_aloneIn 23 = .ok (.iload_n 3, 1) := by decide +kernel
theorem dX12_aloneIn_24 : decode cX12_aloneIn 24 = .ok (.invokevirtual 439, 3) := by decide +kernel
theorem dX12_aloneIn_27 : decode cX12_aloneIn 27 = .ok (.ifCond .eq 7, 3) := by decide +kernel
theorem dX12_aloneIn_30 : decode cX12_aloneIn 30 = .ok (.iconst 1, 1) := by decide +kernel
theorem dX12_aloneIn_31 : decode cX12_aloneIn 31 = .ok (.goto 4, 3) := by decide +kernel
theorem dX12_aloneIn_34 : decode cX12_aloneIn 34 = .ok (.iconst 0, 1) := by decide +kernel
theorem dX12_aloneIn_35 : decode cX12_aloneIn 35 = .ok (.iadd, 1) := by decide +kernel
theorem dX12_aloneIn_36 : decode cX12_aloneIn 36 = .ok (.istore_n 2, 1) := by decide +kernel
theorem dX12_aloneIn_37 : decode cX12_aloneIn 37 = .ok (.iinc 3 1, 3) := by decide +kernel
theorem dX12_aloneIn_40 : decode cX12_aloneIn 40 = .ok (.goto (-36), 3) := by decide +kernel
theorem dX12_aloneIn_43 : decode cX12_aloneIn 43 = .ok (.iload_n 2, 1) := by decide +kernel
theorem dX12_aloneIn_44 : decode cX12_aloneIn 44 = .ok (.ireturn, 1) := by decide +kernel
abbrev z_X12_aloneIn_174 : Z9 := (some .int, 1, 0, 0, 4, 72)
def b_X12_aloneIn_174_c4 (k_X12_aloneIn_174_c4 : Int → Int → Int → D9 → Option R9) (v1 v2 v3 : Int) (d : D9) : Option R9 := if w32 400 < w32 v3 then rt v2 d else ld d 186 401 v3 (fun t1 => if w32 t1 = 0 then lt9v (v2 + 0) (fun a2 => k_X12_aloneIn_174_c4 v1 a2 (v3 + 1) d) else cl (m_X12_isOnly_174 v1 v3 d) (fun r3 d4 => if w32 r3 = 0 then lt9v (v2 + 0) (fun a5 => k_X12_aloneIn_174_c4 v1 a5 (v3 + 1) d4) else lt9v (v2 + 1) (fun a6 => k_X12_aloneIn_174_c4 v1 a6 (v3 + 1) d4)))
def m_X12_aloneIn_174_c4 : Int → Int → Int → D9 → Option R9 := fix9 (fun _ _ _ _ => none) (fun k => b_X12_aloneIn_174_c4 k) FU
def m_X12_aloneIn_174 (p1 : Int) (d : D9) : Option R9 := m_X12_aloneIn_174_c4  p1 0 0 d
set_option maxRecDepth 100000 in
theorem sb_X12_aloneIn_174_c4 {G : G9} {X : X9} (C : CX G X cX12_aloneIn 4 RX12 [] z_X12_aloneIn_174) (k_X12_aloneIn_174_c4 : Int → Int → Int → D9 → Option R9) (hk_X12_aloneIn_174_c4 : ∀ (v1 v2 v3 : Int) (d : D9), SS G X 4 0 0 4 [(0, rf G 174), (1, i9 v1), (2, i9 v2), (3, i9 v3)] [] d (k_X12_aloneIn_174_c4 v1 v2 v3 d)) : ∀ (v1 v2 v3 : Int) (d : D9), SS G X 4 0 0 4 [(0, rf G 174), (1, i9 v1), (2, i9 v2), (3, i9 v3)] [] d (b_X12_aloneIn_174_c4 k_X12_aloneIn_174_c4 v1 v2 v3 d) := by
  intro v1 v2 v3 d
  unfold b_X12_aloneIn_174_c4
  refine r_iload_n C 3 dX12_aloneIn_4 rfl rfl ?_
  refine r_sipush C dX12_aloneIn_5 rfl ?_
  refine r_icmp_gt C 43 dX12_aloneIn_8 (by decide) (fun _ => ?_) (fun _ => ?_)
  · refine r_iload_n C 2 dX12_aloneIn_43 rfl rfl ?_
    exact r_iret C dX12_aloneIn_44 (by decide) (by decide)
  · refine r_iload_n C 2 dX12_aloneIn_11 rfl rfl ?_
    refine r_aload_n C 0 dX12_aloneIn_12 rfl rfl ?_
    refine r_getR C 186 dX12_aloneIn_13 fl_X12_49 la_174 ly_174 rfl rfl ?_
    refine r_iload_n C 3 dX12_aloneIn_16 rfl rfl ?_
    refine r_zald C dX12_aloneIn_17 la_186 ly_186 (fun t1 => ?_)
    refine r_if_eq C (b := 0) 34 dX12_aloneIn_18 (by decide) (fun _ => ?_) (fun _ => ?_)
    · refine r_iconst C dX12_aloneIn_34 ?_
      refine r_iadd C dX12_aloneIn_35 ?_
      refine ss_lt (fun a2 => ?_)
      refine r_istore_n C [(2, i9 a2), (0, rf G 174), (1, i9 v1), (3, i9 v3)] dX12_aloneIn_36 rfl (by decide) rfl ?_
      refine r_iinc C 3 [(3, i9 (v3 + 1)), (2, i9 a2), (0, rf G 174), (1, i9 v1)] dX12_aloneIn_37 rfl (by decide) rfl ?_
      refine r_goto C 4 dX12_aloneIn_40 (by decide) ?_
      refine ss_wide (k' := 0) (n' := 0) (by decide) (by decide) ?_
      refine ss_ls [(0, rf G 174), (1, i9 v1), (2, i9 a2), (3, i9 (v3 + 1))] [2, 3, 1, 0] rfl ?_
      exact hk_X12_aloneIn_174_c4 v1 a2 (v3 + 1) d
    · refine r_aload_n C 0 dX12_aloneIn_21 rfl rfl ?_
      refine r_iload_n C 1 dX12_aloneIn_22 rfl rfl ?_
      refine r_iload_n C 3 dX12_aloneIn_23 rfl rfl ?_
      refine r_callV C [i9 v3, i9 v1, rf G 174, i9 v2] dX12_aloneIn_24 (t_X12_isOnly_174 C.h1 C.h2 v1 v3 d) mw_X12_439 mv_X12_isOnly la_174 ly_174 rfl (by decide) (by decide) (by decide) rfl rfl (Nat.le_of_ble_eq_true rfl) (fun r3 d4 => ?_)
      show SS G X 4 _ _ 27 [(0, rf G 174), (1, i9 v1), (2, i9 v2), (3, i9 v3)] [i9 r3, i9 v2] d4 _
      refine r_if_eq C (b := 0) 34 dX12_aloneIn_27 (by decide) (fun _ => ?_) (fun _ => ?_)
      · refine r_iconst C dX12_aloneIn_34 ?_
        refine r_iadd C dX12_aloneIn_35 ?_
        refine ss_lt (fun a5 => ?_)
        refine r_istore_n C [(2, i9 a5), (0, rf G 174), (1, i9 v1), (3, i9 v3)] dX12_aloneIn_36 rfl (by decide) rfl ?_
        refine r_iinc C 3 [(3, i9 (v3 + 1)), (2, i9 a5), (0, rf G 174), (1, i9 v1)] dX12_aloneIn_37 rfl (by decide) rfl ?_
        refine r_goto C 4 dX12_aloneIn_40 (by decide) ?_
        refine ss_wide (k' := 0) (n' := 0) (by decide) (by decide) ?_
        refine ss_ls [(0, rf G 174), (1, i9 v1), (2, i9 a5), (3, i9 (v3 + 1))] [2, 3, 1, 0] rfl ?_
        exact hk_X12_aloneIn_174_c4 v1 a5 (v3 + 1) d4
      · refine r_iconst C dX12_aloneIn_30 ?_
        refine r_goto C 35 dX12_aloneIn_31 (by decide) ?_
        refine r_iadd C dX12_aloneIn_35 ?_
        refine ss_lt (fun a6 => ?_)
        refine r_istore_n C [(2, i9 a6), (0, rf G 174), (1, i9 v1), (3, i9 v3)] dX12_aloneIn_36 rfl (by decide) rfl ?_
        refine r_iinc C 3 [(3, i9 (v3 + 1)), (2, i9 a6), (0, rf G 174), (1, i9 v1)] dX12_aloneIn_37 rfl (by decide) rfl ?_
        refine r_goto C 4 dX12_aloneIn_40 (by decide) ?_
        refine ss_wide (k' := 0) (n' := 0) (by decide) (by decide) ?_
        refine ss_ls [(0, rf G 174), (1, i9 v1), (2, i9 a6), (3, i9 (v3 + 1))] [2, 3, 1, 0] rfl ?_
        exact hk_X12_aloneIn_174_c4 v1 a6 (v3 + 1) d4
theorem s_X12_aloneIn_174_c4 {G : G9} {X : X9} (C : CX G X cX12_aloneIn 4 RX12 [] z_X12_aloneIn_174) : ∀ (v1 v2 v3 : Int) (d : D9), SS G X 4 0 0 4 [(0, rf G 174), (1, i9 v1), (2, i9 v2), (3, i9 v3)] [] d (m_X12_aloneIn_174_c4  v1 v2 v3 d) :=
  fix9_ind (P := fun k => ∀ (v1 v2 v3 : Int) (d : D9), SS G X 4 0 0 4 [(0, rf G 174), (1, i9 v1), (2, i9 v2), (3, i9 v3)] [] d (k v1 v2 v3 d)) (fun _ _ _ _ => ss_none) (fun k hk => sb_X12_aloneIn_174_c4 C k hk) FU
set_option maxRecDepth 100000 in
theorem t_X12_aloneIn_174 {G : G9} {l : Launch} (h1 : va_D (A9 G) (wl G (fun _ _ => 0))) (h2 : l.stackTraces = false) (p1 : Int) (d : D9) : MT G l yX12_aloneIn cX12_aloneIn 4 z_X12_aloneIn_174 [rf G 174, i9 p1] d (m_X12_aloneIn_174 p1 d) := by
  refine mt_of (own := RX12) (by decide) rfl (Nat.le_of_ble_eq_true rfl) h1 h2 [(0, rf G 174), (1, i9 p1)] rfl (fun X hX C => ?_)
  unfold m_X12_aloneIn_174
  refine r_iconst C dX12_aloneIn_0 ?_
  refine r_istore_n C [(2, i9 0), (0, rf G 174), (1, i9 p1)] dX12_aloneIn_1 rfl (by decide) rfl ?_
  refine r_iconst C dX12_aloneIn_2 ?_
  refine r_istore_n C [(3, i9 0), (2, i9 0), (0, rf G 174), (1, i9 p1)] dX12_aloneIn_3 rfl (by decide) rfl ?_
  refine ss_wide (k' := 0) (n' := 0) (by decide) (by decide) ?_
  refine ss_ls [(0, rf G 174), (1, i9 p1), (2, i9 0), (3, i9 0)] [2, 3, 1, 0] rfl ?_
  exact s_X12_aloneIn_174_c4 C  p1 0 0 d
theorem dX12_alone_0 : decode cX12_alone 0 = .ok (.aload_n 0, 1) := by decide +kernel
theorem dX12_alone_1 : decode cX12_alone 1 = .ok (.aload_n 0, 1) := by decide +kernel
theorem dX12_alone_2 : decode cX12_alone 2 = .ok (.iload_n 1, 1) := by decide +kernel
theorem dX12_alone_3 : decode cX12_alone 3 = .ok (.iload_n 2, 1) := by decide +kernel
theorem dX12_alone_4 : decode cX12_alone 4 = .ok (.invokevirtual 436, 3) := by decide +kernel
theorem dX12_alone_7 : decode cX12_alone 7 = .ok (.putfield 76, 3) := by decide +kernel
theorem dX12_alone_10 : decode cX12_alone 10 = .ok (.aload_n 0, 1) := by decide +kernel
theorem dX12_alone_11 : decode cX12_alone 11 = .ok (.getfield 76, 3) := by decide +kernel
theorem dX12_alone_14 : decode cX12_alone 14 = .ok (.ifCond .le 5, 3) := by decide +kernel
theorem dX12_alone_17 : decode cX12_alone 17 = .ok (.iconst 0, 1) := by decide +kernel
theorem dX12_alone_18 : decode cX12_alone 18 = .ok (.ireturn, 1) := by decide +kernel
theorem dX12_alone_19 : decode cX12_alone 19 = .ok (.aload_n 0, 1) := by decide +kernel
theorem dX12_alone_20 : decode cX12_alone 20 = .ok (.iload_n 1, 1) := by decide +kernel
theorem dX12_alone_21 : decode cX12_alone 21 = .ok (.invokevirtual 433, 3) := by decide +kernel
theorem dX12_alone_24 : decode cX12_alone 24 = .ok (.pop, 1) := by decide +kernel
theorem dX12_alone_25 : decode cX12_alone 25 = .ok (.aload_n 0, 1) := by decide +kernel
theorem dX12_alone_26 : decode cX12_alone 26 = .ok (.iload_n 2, 1) := by decide +kernel
theorem dX12_alone_27 : decode cX12_alone 27 = .ok (.invokevirtual 442, 3) := by decide +kernel
theorem dX12_alone_30 : decode cX12_alone 30 = .ok (.ireturn, 1) := by decide +kernel
abbrev z_X12_alone_174 : Z9 := (some .int, 1, 0, 0, 11, 277)
def m_X12_alone_174 (p1 p2 : Int) (d : D9) : Option R9 := cl (m_X12_peopleFault_174 p1 p2 d) (fun r1 d2 => pf d2 174 3 r1 (fun d3 => if w32 (d3 174 3) ≤ 0 then cl (m_X12_layTimes_174 p1 d3) (fun r4 d5 => cl (m_X12_aloneIn_174 p2 d5) (fun r6 d7 => rt r6 d7)) else rt 0 d3))
set_option maxRecDepth 100000 in
theorem t_X12_alone_174 {G : G9} {l : Launch} (h1 : va_D (A9 G) (wl G (fun _ _ => 0))) (h2 : l.stackTraces = false) (p1 p2 : Int) (d : D9) : MT G l yX12_alone cX12_alone 3 z_X12_alone_174 [rf G 174, i9 p1, i9 p2] d (m_X12_alone_174 p1 p2 d) := by
  refine mt_of (own := RX12) (by decide) rfl (Nat.le_of_ble_eq_true rfl) h1 h2 [(0, rf G 174), (1, i9 p1), (2, i9 p2)] rfl (fun X hX C => ?_)
  unfold m_X12_alone_174
  refine r_aload_n C 0 dX12_alone_0 rfl rfl ?_
  refine r_aload_n C 0 dX12_alone_1 rfl rfl ?_
  refine r_iload_n C 1 dX12_alone_2 rfl rfl ?_
  refine r_iload_n C 2 dX12_alone_3 rfl rfl ?_
  refine r_callV C [i9 p2, i9 p1, rf G 174, rf G 174] dX12_alone_4 (t_X12_peopleFault_174 C.h1 C.h2 p1 p2 d) mw_X12_436 mv_X12_peopleFault la_174 ly_174 rfl (by decide) (by decide) (by decide) rfl rfl (Nat.le_of_ble_eq_true rfl) (fun r1 d2 => ?_)
  show SS G X 3 _ _ 7 [(0, rf G 174), (1, i9 p1), (2, i9 p2)] [i9 r1, rf G 174] d2 _
  refine r_putI C dX12_alone_7 fp_X12_76 la_174 ly_174 rfl (fun d3 => ?_)
  refine r_aload_n C 0 dX12_alone_10 rfl rfl ?_
  refine r_getI C dX12_alone_11 fl_X12_76 la_174 ly_174 rfl ?_
  refine r_if_le C (b := 0) 19 dX12_alone_14 (by decide) (fun _ => ?_) (fun _ => ?_)
  · refine r_aload_n C 0 dX12_alone_19 rfl rfl ?_
    refine r_iload_n C 1 dX12_alone_20 rfl rfl ?_
    refine r_callV C [i9 p1, rf G 174] dX12_alone_21 (t_X12_layTimes_174 C.h1 C.h2 p1 d3) mw_X12_433 mv_X12_layTimes la_174 ly_174 rfl (by decide) (by decide) (by decide) rfl rfl (Nat.le_of_ble_eq_true rfl) (fun r4 d5 => ?_)
    show SS G X 3 _ _ 24 [(0, rf G 174), (1, i9 p1), (2, i9 p2)] [i9 r4] d5 _
    refine r_pop C dX12_alone_24 rfl ?_
    refine r_aload_n C 0 dX12_alone_25 rfl rfl ?_
    refine r_iload_n C 2 dX12_alone_26 rfl rfl ?_
    refine r_callV C [i9 p2, rf G 174] dX12_alone_27 (t_X12_aloneIn_174 C.h1 C.h2 p2 d5) mw_X12_442 mv_X12_aloneIn la_174 ly_174 rfl (by decide) (by decide) (by decide) rfl rfl (Nat.le_of_ble_eq_true rfl) (fun r6 d7 => ?_)
    show SS G X 3 _ _ 30 [(0, rf G 174), (1, i9 p1), (2, i9 p2)] [i9 r6] d7 _
    exact r_iret C dX12_alone_30 (by decide) (by decide)
  · refine r_iconst C dX12_alone_17 ?_
    exact r_iret C dX12_alone_18 (by decide) (by decide)
theorem dX12_isBare_0 : decode cX12_isBare 0 = .ok (.iconst 0, 1) := by decide +kernel
theorem dX12_isBare_1 : decode cX12_isBare 1 = .ok (.istore_n 2, 1) := by decide +kernel
theorem dX12_isBare_2 : decode cX12_isBare 2 = .ok (.iload_n 2, 1) := by decide +kernel
theorem dX12_isBare_3 : decode cX12_isBare 3 = .ok (.aload_n 0, 1) := by decide +kernel
theorem dX12_isBare_4 : decode cX12_isBare 4 = .ok (.getfield 9, 3) := by decide +kernel
theorem dX12_isBare_7 : decode cX12_isBare 7 = .ok (.iconst 1, 1) := by decide +kernel
theorem dX12_isBare_8 : decode cX12_isBare 8 = .ok (.iaload, 1) := by decide +kernel
theorem dX12_isBare_9 : decode cX12_isBare 9 = .ok (.if_icmp .ge 48, 3) := by decide +kernel
theorem dX12_isBare_12 : decode cX12_isBare 12 = .ok (.aload_n 0, 1) := by decide +kernel
theorem dX12_isBare_13 : decode cX12_isBare 13 = .ok (.iload_n 2, 1) := by decide +kernel
theorem dX12_isBare_14 : decode cX12_isBare 14 = .ok (.iconst 1, 1) := by decide +kernel
theorem dX12_isBare_15 : decode cX12_isBare 15 = .ok (.invokevirtual 124, 3) := by decide +kernel
theorem dX12_isBare_18 : decode cX12_isBare 18 = .ok (.ifCond .le 33, 3) := by decide +kernel
theorem dX12_isBare_21 : decode cX12_isBare 21 = .ok (.aload_n 0, 1) := by decide +kernel
theorem dX12_isBare_22 : decode cX12_isBare 22 = .ok (.iload_n 2, 1) := by decide +kernel
theorem dX12_isBare_23 : decode cX12_isBare 23 = .ok (.iconst 2, 1) := by decide +kernel
theorem dX12_isBare_24 : decode cX12_isBare 24 = .ok (.invokevirtual 124, 3) := by decide +kernel
theorem dX12_isBare_27 : decode cX12_isBare 27 = .ok (.iload_n 1, 1) := by decide +kernel
theorem dX12_isBare_28 : decode cX12_isBare 28 = .ok (.if_icmp .ne 23, 3) := by decide +kernel
theorem dX12_isBare_31 : decode cX12_isBare 31 = .ok (.aload_n 0, 1) := by decide +kernel
theorem dX12_isBare_32 : decode cX12_isBare 32 = .ok (.iload_n 2, 1) := by decide +kernel
theorem dX12_isBare_33 : decode cX12_isBare 33 = .ok (.iconst 4, 1) := by decide +kernel
theorem dX12_isBare_34 : decode cX12_isBare 34 = .ok (.invokevirtual 124, 3) := by decide +kernel
theorem dX12_isBare_37 : decode cX12_isBare 37 = .ok (.ifCond .gt 12, 3) := by decide +kernel
theorem dX12_isBare_40 : decode cX12_isBare 40 = .ok (.aload_n 0, 1) := by decide +kernel
theorem dX12_isBare_41 : decode cX12_isBare 41 = .ok (.getfield 55, 3) := by decide +kernel
theorem dX12_isBare_44 : decode cX12_isBare 44 = .ok (.iload_n 2, 1) := by decide +kernel
theorem dX12_isBare_45 : decode cX12_isBare 45 = .ok (.baload, 1) := by decide +kernel
theorem dX12_isBare_46 : decode cX12_isBare 46 = .ok (.ifCond .eq 5, 3) := by decide +kernel
theorem dX12_isBare_49 : decode cX12_isBare 49 = .ok (.iconst 0, 1) := by decide +kernel
theorem dX12_isBare_50 : decode cX12_isBare 50 = .ok (.ireturn, 1) := by decide +kernel
theorem dX12_isBare_51 : decode cX12_isBare 51 = .ok (.iinc 2 1, 3) := by decide +kernel
theorem dX12_isBare_54 : decode cX12_isBare 54 = .ok (.goto (-52), 3) := by decide +kernel
theorem dX12_isBare_57 : decode cX12_isBare 57 = .ok (.iconst 1, 1) := by decide +kernel
theorem dX12_isBare_58 : decode cX12_isBare 58 = .ok (.ireturn, 1) := by decide +kernel
abbrev z_X12_isBare_174 : Z9 := (some .boolean, 1, 0, 0, 2, 22)
def b_X12_isBare_174_c2 (k_X12_isBare_174_c2 : Int → Int → D9 → Option R9) (v1 v2 : Int) (d : D9) : Option R9 := ld d 175 1604 1 (fun t1 => if w32 t1 ≤ w32 v2 then rt (1 % 2) d else cl (m_X12_ofSkin_174 v2 1 d) (fun r2 d3 => if w32 r2 ≤ 0 then k_X12_isBare_174_c2 v1 (v2 + 1) d3 else cl (m_X12_ofSkin_174 v2 2 d3) (fun r4 d5 => if w32 r4 ≠ w32 v1 then k_X12_isBare_174_c2 v1 (v2 + 1) d5 else cl (m_X12_ofSkin_174 v2 4 d5) (fun r6 d7 => if 0 < w32 r6 then rt (0 % 2) d7 else ld d7 188 30 v2 (fun t8 => if w32 t8 = 0 then k_X12_isBare_174_c2 v1 (v2 + 1) d7 else rt (0 % 2) d7)))))
def m_X12_isBare_174_c2 : Int → Int → D9 → Option R9 := fix9 (fun _ _ _ => none) (fun k => b_X12_isBare_174_c2 k) FU
def m_X12_isBare_174 (p1 : Int) (d : D9) : Option R9 := m_X12_isBare_174_c2  p1 0 d
set_option maxRecDepth 100000 in
theorem sb_X12_isBare_174_c2 {G : G9} {X : X9} (C : CX G X cX12_isBare 3 RX12 [] z_X12_isBare_174) (k_X12_isBare_174_c2 : Int → Int → D9 → Option R9) (hk_X12_isBare_174_c2 : ∀ (v1 v2 : Int) (d : D9), SS G X 3 0 0 2 [(0, rf G 174), (1, i9 v1), (2, i9 v2)] [] d (k_X12_isBare_174_c2 v1 v2 d)) : ∀ (v1 v2 : Int) (d : D9), SS G X 3 0 0 2 [(0, rf G 174), (1, i9 v1), (2, i9 v2)] [] d (b_X12_isBare_174_c2 k_X12_isBare_174_c2 v1 v2 d) := by
  intro v1 v2 d
  unfold b_X12_isBare_174_c2
  refine r_iload_n C 2 dX12_isBare_2 rfl rfl ?_
  refine r_aload_n C 0 dX12_isBare_3 rfl rfl ?_
  refine r_getR C 175 dX12_isBare_4 fl_X12_9 la_174 ly_174 rfl rfl ?_
  refine r_iconst C dX12_isBare_7 ?_
  refine r_iald C dX12_isBare_8 la_175 ly_175 (fun t1 => ?_)
  refine r_icmp_ge C 57 dX12_isBare_9 (by decide) (fun _ => ?_) (fun _ => ?_)
  · refine r_iconst C dX12_isBare_57 ?_
    exact r_zret C dX12_isBare_58 (by decide) (by decide)
  · refine r_aload_n C 0 dX12_isBare_12 rfl rfl ?_
    refine r_iload_n C 2 dX12_isBare_13 rfl rfl ?_
    refine r_iconst C dX12_isBare_14 ?_
    refine r_callV C [i9 1, i9 v2, rf G 174] dX12_isBare_15 (t_X12_ofSkin_174 C.h1 C.h2 v2 1 d) mw_X12_124 mv_X12_ofSkin la_174 ly_174 rfl (by decide) (by decide) (by decide) rfl rfl (Nat.le_of_ble_eq_true rfl) (fun r2 d3 => ?_)
    show SS G X 3 _ _ 18 [(0, rf G 174), (1, i9 v1), (2, i9 v2)] [i9 r2] d3 _
    refine r_if_le C (b := 0) 51 dX12_isBare_18 (by decide) (fun _ => ?_) (fun _ => ?_)
    · refine r_iinc C 2 [(2, i9 (v2 + 1)), (0, rf G 174), (1, i9 v1)] dX12_isBare_51 rfl (by decide) rfl ?_
      refine r_goto C 2 dX12_isBare_54 (by decide) ?_
      refine ss_wide (k' := 0) (n' := 0) (by decide) (by decide) ?_
      refine ss_ls [(0, rf G 174), (1, i9 v1), (2, i9 (v2 + 1))] [1, 2, 0] rfl ?_
      exact hk_X12_isBare_174_c2 v1 (v2 + 1) d3
    · refine r_aload_n C 0 dX12_isBare_21 rfl rfl ?_
      refine r_iload_n C 2 dX12_isBare_22 rfl rfl ?_
      refine r_iconst C dX12_isBare_23 ?_
      refine r_callV C [i9 2, i9 v2, rf G 174] dX12_isBare_24 (t_X12_ofSkin_174 C.h1 C.h2 v2 2 d3) mw_X12_124 mv_X12_ofSkin la_174 ly_174 rfl (by decide) (by decide) (by decide) rfl rfl (Nat.le_of_ble_eq_true rfl) (fun r4 d5 => ?_)
      show SS G X 3 _ _ 27 [(0, rf G 174), (1, i9 v1), (2, i9 v2)] [i9 r4] d5 _
      refine r_iload_n C 1 dX12_isBare_27 rfl rfl ?_
      refine r_icmp_ne C 51 dX12_isBare_28 (by decide) (fun _ => ?_) (fun _ => ?_)
      · refine r_iinc C 2 [(2, i9 (v2 + 1)), (0, rf G 174), (1, i9 v1)] dX12_isBare_51 rfl (by decide) rfl ?_
        refine r_goto C 2 dX12_isBare_54 (by decide) ?_
        refine ss_wide (k' := 0) (n' := 0) (by decide) (by decide) ?_
        refine ss_ls [(0, rf G 174), (1, i9 v1), (2, i9 (v2 + 1))] [1, 2, 0] rfl ?_
        exact hk_X12_isBare_174_c2 v1 (v2 + 1) d5
      · refine r_aload_n C 0 dX12_isBare_31 rfl rfl ?_
        refine r_iload_n C 2 dX12_isBare_32 rfl rfl ?_
        refine r_iconst C dX12_isBare_33 ?_
        refine r_callV C [i9 4, i9 v2, rf G 174] dX12_isBare_34 (t_X12_ofSkin_174 C.h1 C.h2 v2 4 d5) mw_X12_124 mv_X12_ofSkin la_174 ly_174 rfl (by decide) (by decide) (by decide) rfl rfl (Nat.le_of_ble_eq_true rfl) (fun r6 d7 => ?_)
        show SS G X 3 _ _ 37 [(0, rf G 174), (1, i9 v1), (2, i9 v2)] [i9 r6] d7 _
        refine r_if_gt C (b := 0) 49 dX12_isBare_37 (by decide) (fun _ => ?_) (fun _ => ?_)
        · refine r_iconst C dX12_isBare_49 ?_
          exact r_zret C dX12_isBare_50 (by decide) (by decide)
        · refine r_aload_n C 0 dX12_isBare_40 rfl rfl ?_
          refine r_getR C 188 dX12_isBare_41 fl_X12_55 la_174 ly_174 rfl rfl ?_
          refine r_iload_n C 2 dX12_isBare_44 rfl rfl ?_
          refine r_zald C dX12_isBare_45 la_188 ly_188 (fun t8 => ?_)
          refine r_if_eq C (b := 0) 51 dX12_isBare_46 (by decide) (fun _ => ?_) (fun _ => ?_)
          · refine r_iinc C 2 [(2, i9 (v2 + 1)), (0, rf G 174), (1, i9 v1)] dX12_isBare_51 rfl (by decide) rfl ?_
            refine r_goto C 2 dX12_isBare_54 (by decide) ?_
            refine ss_wide (k' := 0) (n' := 0) (by decide) (by decide) ?_
            refine ss_ls [(0, rf G 174), (1, i9 v1), (2, i9 (v2 + 1))] [1, 2, 0] rfl ?_
            exact hk_X12_isBare_174_c2 v1 (v2 + 1) d7
          · refine r_iconst C dX12_isBare_49 ?_
            exact r_zret C dX12_isBare_50 (by decide) (by decide)
theorem s_X12_isBare_174_c2 {G : G9} {X : X9} (C : CX G X cX12_isBare 3 RX12 [] z_X12_isBare_174) : ∀ (v1 v2 : Int) (d : D9), SS G X 3 0 0 2 [(0, rf G 174), (1, i9 v1), (2, i9 v2)] [] d (m_X12_isBare_174_c2  v1 v2 d) :=
  fix9_ind (P := fun k => ∀ (v1 v2 : Int) (d : D9), SS G X 3 0 0 2 [(0, rf G 174), (1, i9 v1), (2, i9 v2)] [] d (k v1 v2 d)) (fun _ _ _ => ss_none) (fun k hk => sb_X12_isBare_174_c2 C k hk) FU
set_option maxRecDepth 100000 in
theorem t_X12_isBare_174 {G : G9} {l : Launch} (h1 : va_D (A9 G) (wl G (fun _ _ => 0))) (h2 : l.stackTraces = false) (p1 : Int) (d : D9) : MT G l yX12_isBare cX12_isBare 3 z_X12_isBare_174 [rf G 174, i9 p1] d (m_X12_isBare_174 p1 d) := by
  refine mt_of (own := RX12) (by decide) rfl (Nat.le_of_ble_eq_true rfl) h1 h2 [(0, rf G 174), (1, i9 p1)] rfl (fun X hX C => ?_)
  unfold m_X12_isBare_174
  refine r_iconst C dX12_isBare_0 ?_
  refine r_istore_n C [(2, i9 0), (0, rf G 174), (1, i9 p1)] dX12_isBare_1 rfl (by decide) rfl ?_
  refine ss_wide (k' := 0) (n' := 0) (by decide) (by decide) ?_
  refine ss_ls [(0, rf G 174), (1, i9 p1), (2, i9 0)] [1, 2, 0] rfl ?_
  exact s_X12_isBare_174_c2 C  p1 0 d
theorem dX12_isFact_0 : decode cX12_isFact 0 = .ok (.iload_n 1, 1) := by decide +kernel
theorem dX12_isFact_1 : decode cX12_isFact 1 = .ok (.sipush 300, 3) := by decide +kernel
theorem dX12_isFact_4 : decode cX12_isFact 4 = .ok (.if_icmp .lt 23, 3) := by decide +kernel
theorem dX12_isFact_7 : decode cX12_isFact 7 = .ok (.aload_n 0, 1) := by decide +kernel
theorem dX12_isFact_8 : decode cX12_isFact 8 = .ok (.iload_n 2, 1) := by decide +kernel
theorem dX12_isFact_9 : decode cX12_isFact 9 = .ok (.iconst 0, 1) := by decide +kernel
theorem dX12_isFact_10 : decode cX12_isFact 10 = .ok (.invokevirtual 124, 3) := by decide +kernel
theorem dX12_isFact_13 : decode cX12_isFact 13 = .ok (.iload_n 1, 1) := by decide +kernel
theorem dX12_isFact_14 : decode cX12_isFact 14 = .ok (.sipush 300, 3) := by decide +kernel
theorem dX12_isFact_17 : decode cX12_isFact 17 = .ok (.isub, 1) := by decide +kernel
theorem dX12_isFact_18 : decode cX12_isFact 18 = .ok (.if_icmp .ne 7, 3) := by decide +kernel
theorem dX12_isFact_21 : decode cX12_isFact 21 = .ok (.iconst 1, 1) := by decide +kernel
theorem dX12_isFact_22 : decode cX12_isFact 22 = .ok (.goto 4, 3) := by decide +kernel
theorem dX12_isFact_25 : decode cX12_isFact 25 = .ok (.iconst 0, 1) := by decide +kernel
theorem dX12_isFact_26 : decode cX12_isFact 26 = .ok (.ireturn, 1) := by decide +kernel
theorem dX12_isFact_27 : decode cX12_isFact 27 = .ok (.iload_n 1, 1) := by decide +kernel
theorem dX12_isFact_28 : decode cX12_isFact 28 = .ok (.bipush 100, 2) := by decide +kernel
theorem dX12_isFact_30 : decode cX12_isFact 30 = .ok (.if_icmp .lt 22, 3) := by decide +kernel
theorem dX12_isFact_33 : decode cX12_isFact 33 = .ok (.aload_n 0, 1) := by decide +kernel
theorem dX12_isFact_34 : decode cX12_isFact 34 = .ok (.iload_n 2, 1) := by decide +kernel
theorem dX12_isFact_35 : decode cX12_isFact 35 = .ok (.iconst 3, 1) := by decide +kernel
theorem dX12_isFact_36 : decode cX12_isFact 36 = .ok (.invokevirtual 124, 3) := by decide +kernel
theorem dX12_isFact_39 : decode cX12_isFact 39 = .ok (.iload_n 1, 1) := by decide +kernel
theorem dX12_isFact_40 : decode cX12_isFact 40 = .ok (.bipush 100, 2) := by decide +kernel
theorem dX12_isFact_42 : decode cX12_isFact 42 = .ok (.isub, 1) := by decide +kernel
theorem dX12_isFact_43 : decode cX12_isFact 43 = .ok (.if_icmp .gt 7, 3) := by decide +kernel
theorem dX12_isFact_46 : decode cX12_isFact 46 = .ok (.iconst 1, 1) := by decide +kernel
theorem dX12_isFact_47 : decode cX12_isFact 47 = .ok (.goto 4, 3) := by decide +kernel
theorem dX12_isFact_50 : decode cX12_isFact 50 = .ok (.iconst 0, 1) := by decide +kernel
theorem dX12_isFact_51 : decode cX12_isFact 51 = .ok (.ireturn, 1) := by decide +kernel
theorem dX12_isFact_52 : decode cX12_isFact 52 = .ok (.aload_n 0, 1) := by decide +kernel
theorem dX12_isFact_53 : decode cX12_isFact 53 = .ok (.iload_n 2, 1) := by decide +kernel
theorem dX12_isFact_54 : decode cX12_isFact 54 = .ok (.iconst 1, 1) := by decide +kernel
theorem dX12_isFact_55 : decode cX12_isFact 55 = .ok (.invokevirtual 124, 3) := by decide +kernel
theorem dX12_isFact_58 : decode cX12_isFact 58 = .ok (.ifCond .ne 5, 3) := by decide +kernel
theorem dX12_isFact_61 : decode cX12_isFact 61 = .ok (.iconst 0, 1) := by decide +kernel
theorem dX12_isFact_62 : decode cX12_isFact 62 = .ok (.ireturn, 1) := by decide +kernel
theorem dX12_isFact_63 : decode cX12_isFact 63 = .ok (.aload_n 0, 1) := by decide +kernel
theorem dX12_isFact_64 : decode cX12_isFact 64 = .ok (.iload_n 2, 1) := by decide +kernel
theorem dX12_isFact_65 : decode cX12_isFact 65 = .ok (.iconst 2, 1) := by decide +kernel
theorem dX12_isFact_66 : decode cX12_isFact 66 = .ok (.invokevirtual 124, 3) := by decide +kernel
theorem dX12_isFact_69 : decode cX12_isFact 69 = .ok (.istore_n 3, 1) := by decide +kernel
theorem dX12_isFact_70 : decode cX12_isFact 70 = .ok (.iload_n 1, 1) := by decide +kernel
theorem dX12_isFact_71 : decode cX12_isFact 71 = .ok (.iconst 5, 1) := by decide +kernel
theorem dX12_isFact_72 : decode cX12_isFact 72 = .ok (.if_icmp .ne 11, 3) := by decide +kernel
theorem dX12_isFact_75 : decode cX12_isFact 75 = .ok (.aload_n 0, 1) := by decide +kernel
theorem dX12_isFact_76 : decode cX12_isFact 76 = .ok (.iload_n 3, 1) := by decide +kernel
theorem dX12_isFact_77 : decode cX12_isFact 77 = .ok (.invokevirtual 467, 3) := by decide +kernel
theorem dX12_isFact_80 : decode cX12_isFact 80 = .ok (.goto 57, 3) := by decide +kernel
theorem dX12_isFact_83 : decode cX12_isFact 83 = .ok (.iload_n 1, 1) := by decide +kernel
theorem dX12_isFact_84 : decode cX12_isFact 84 = .ok (.bipush 6, 2) := by decide +kernel
theorem dX12_isFact_86 : decode cX12_isFact 86 = .ok (.if_icmp .ne 34, 3) := by decide +kernel
theorem dX12_isFact_89 : decode cX12_isFact 89 = .ok (.aload_n 0, 1) := by decide +kernel
theorem dX12_isFact_90 : decode cX12_isFact 90 = .ok (.iload_n 3, 1) := by decide +kernel
theorem dX12_isFact_91 : decode cX12_isFact 91 = .ok (.iconst 0, 1) := by decide +kernel
theorem dX12_isFact_92 : decode cX12_isFact 92 = .ok (.iconst (-1), 1) := by decide +kernel
theorem dX12_isFact_93 : decode cX12_isFact 93 = .ok (.invokevirtual 384, 3) := by decide +kernel
theorem dX12_isFact_96 : decode cX12_isFact 96 = .ok (.ifCond .ne 20, 3) := by decide +kernel
theorem dX12_isFact_99 : decode cX12_isFact 99 = .ok (.aload_n 0, 1) := by decide +kernel
theorem dX12_isFact_100 : decode cX12_isFact 100 = .ok (.iload_n 3, 1) := by decide +kernel
theorem dX12_isFact_101 : decode cX12_isFact 101 = .ok (.iconst 1, 1) := by decide +kernel
theorem dX12_isFact_102 : decode cX12_isFact 102 = .ok (.iconst (-1), 1) := by decide +kernel
theorem dX12_isFact_103 : decode cX12_isFact 103 = .ok (.invokevirtual 384, 3) := by decide +kernel
theorem dX12_isFact_106 : decode cX12_isFact 106 = .ok (.sipush 400, 3) := by decide +kernel
theorem dX12_isFact_109 : decode cX12_isFact 109 = .ok (.if_icmp .ne 7, 3) := by decide +kernel
theorem dX12_isFact_112 : decode cX12_isFact 112 = .ok (.iconst 1, 1) := by decide +kernel
theorem dX12_isFact_113 : decode cX12_isFact 113 = .ok (.goto 24, 3) := by decide +kernel
theorem dX12_isFact_116 : decode cX12_isFact 116 = .ok (.iconst 0, 1) := by decide +kernel
theorem dX12_isFact_117 : decode cX12_isFact 117 = .ok (.goto 20, 3) := by decide +kernel
theorem dX12_isFact_120 : decode cX12_isFact 120 = .ok (.aload_n 0, 1) := by decide +kernel
theorem dX12_isFact_121 : decode cX12_isFact 121 = .ok (.iload_n 3, 1) := by decide +kernel
theorem dX12_isFact_122 : decode cX12_isFact 122 = .ok (.iconst 0, 1) := by decide +kernel
theorem dX12_isFact_123 : decode cX12_isFact 123 = .ok (.invokevirtual 99, 3) := by decide +kernel
theorem dX12_isFact_126 : decode cX12_isFact 126 = .ok (.iload_n 1, 1) := by decide +kernel
theorem dX12_isFact_127 : decode cX12_isFact 127 = .ok (.iconst 1, 1) := by decide +kernel
theorem dX12_isFact_128 : decode cX12_isFact 128 = .ok (.isub, 1) := by decide +kernel
theorem dX12_isFact_129 : decode cX12_isFact 129 = .ok (.if_icmp .ne 7, 3) := by decide +kernel
theorem dX12_isFact_132 : decode cX12_isFact 132 = .ok (.iconst 1, 1) := by decide +kernel
theorem dX12_isFact_133 : decode cX12_isFact 133 = .ok (.goto 4, 3) := by decide +kernel
theorem dX12_isFact_136 : decode cX12_isFact 136 = .ok (.iconst 0, 1) := by decide +kernel
theorem dX12_isFact_137 : decode cX12_isFact 137 = .ok (.ireturn, 1) := by decide +kernel
abbrev z_X12_isFact_174 : Z9 := (some .boolean, 1, 0, 0, 10, 252)
def m_X12_isFact_174 (p1 p2 : Int) (d : D9) : Option R9 := if w32 p1 < w32 300 then if w32 p1 < w32 100 then cl (m_X12_ofSkin_174 p2 1 d) (fun r1 d2 => if w32 r1 ≠ 0 then cl (m_X12_ofSkin_174 p2 2 d2) (fun r3 d4 => if w32 p1 ≠ w32 5 then if w32 p1 ≠ w32 6 then cl (m_X12_ofPaint_174 r3 0 d4) (fun r5 d6 => if w32 r5 ≠ w32 (p1 - 1) then rt (0 % 2) d6 else rt (1 % 2) d6) else cl (m_X12_boundOf_174 r3 0 (-1) d4) (fun r7 d8 => if w32 r7 ≠ 0 then rt (0 % 2) d8 else cl (m_X12_boundOf_174 r3 1 (-1) d8) (fun r9 d10 => if w32 r9 ≠ w32 400 then rt (0 % 2) d10 else rt (1 % 2) d10)) else cl (m_X12_isBare_174 r3 d4) (fun r11 d12 => rt (r11 % 2) d12)) else rt (0 % 2) d2) else cl (m_X12_ofSkin_174 p2 3 d) (fun r13 d14 => if w32 (p1 - 100) < w32 r13 then rt (0 % 2) d14 else rt (1 % 2) d14) else cl (m_X12_ofSkin_174 p2 0 d) (fun r15 d16 => if w32 r15 ≠ w32 (p1 - 300) then rt (0 % 2) d16 else rt (1 % 2) d16)
set_option maxRecDepth 100000 in
theorem t_X12_isFact_174 {G : G9} {l : Launch} (h1 : va_D (A9 G) (wl G (fun _ _ => 0))) (h2 : l.stackTraces = false) (p1 p2 : Int) (d : D9) : MT G l yX12_isFact cX12_isFact 4 z_X12_isFact_174 [rf G 174, i9 p1, i9 p2] d (m_X12_isFact_174 p1 p2 d) := by
  refine mt_of (own := RX12) (by decide) rfl (Nat.le_of_ble_eq_true rfl) h1 h2 [(0, rf G 174), (1, i9 p1), (2, i9 p2)] rfl (fun X hX C => ?_)
  unfold m_X12_isFact_174
  refine r_iload_n C 1 dX12_isFact_0 rfl rfl ?_
  refine r_sipush C dX12_isFact_1 rfl ?_
  refine r_icmp_lt C 27 dX12_isFact_4 (by decide) (fun _ => ?_) (fun _ => ?_)
  · refine r_iload_n C 1 dX12_isFact_27 rfl rfl ?_
    refine r_bipush C dX12_isFact_28 rfl ?_
    refine r_icmp_lt C 52 dX12_isFact_30 (by decide) (fun _ => ?_) (fun _ => ?_)
    · refine r_aload_n C 0 dX12_isFact_52 rfl rfl ?_
      refine r_iload_n C 2 dX12_isFact_53 rfl rfl ?_
      refine r_iconst C dX12_isFact_54 ?_
      refine r_callV C [i9 1, i9 p2, rf G 174] dX12_isFact_55 (t_X12_ofSkin_174 C.h1 C.h2 p2 1 d) mw_X12_124 mv_X12_ofSkin la_174 ly_174 rfl (by decide) (by decide) (by decide) rfl rfl (Nat.le_of_ble_eq_true rfl) (fun r1 d2 => ?_)
      show SS G X 4 _ _ 58 [(0, rf G 174), (1, i9 p1), (2, i9 p2)] [i9 r1] d2 _
      refine r_if_ne C (b := 0) 63 dX12_isFact_58 (by decide) (fun _ => ?_) (fun _ => ?_)
      · refine r_aload_n C 0 dX12_isFact_63 rfl rfl ?_
        refine r_iload_n C 2 dX12_isFact_64 rfl rfl ?_
        refine r_iconst C dX12_isFact_65 ?_
        refine r_callV C [i9 2, i9 p2, rf G 174] dX12_isFact_66 (t_X12_ofSkin_174 C.h1 C.h2 p2 2 d2) mw_X12_124 mv_X12_ofSkin la_174 ly_174 rfl (by decide) (by decide) (by decide) rfl rfl (Nat.le_of_ble_eq_true rfl) (fun r3 d4 => ?_)
        show SS G X 4 _ _ 69 [(0, rf G 174), (1, i9 p1), (2, i9 p2)] [i9 r3] d4 _
        refine r_istore_n C [(3, i9 r3), (0, rf G 174), (1, i9 p1), (2, i9 p2)] dX12_isFact_69 rfl (by decide) rfl ?_
        refine r_iload_n C 2 dX12_isFact_70 rfl rfl ?_
        refine r_iconst C dX12_isFact_71 ?_
        refine r_icmp_ne C 83 dX12_isFact_72 (by decide) (fun _ => ?_) (fun _ => ?_)
        · refine r_iload_n C 2 dX12_isFact_83 rfl rfl ?_
          refine r_bipush C dX12_isFact_84 rfl ?_
          refine r_icmp_ne C 120 dX12_isFact_86 (by decide) (fun _ => ?_) (fun _ => ?_)
          · refine r_aload_n C 1 dX12_isFact_120 rfl rfl ?_
            refine r_iload_n C 0 dX12_isFact_121 rfl rfl ?_
            refine r_iconst C dX12_isFact_122 ?_
            refine r_callV C [i9 0, i9 r3, rf G 174] dX12_isFact_123 (t_X12_ofPaint_174 C.h1 C.h2 r3 0 d4) mw_X12_99 mv_X12_ofPaint la_174 ly_174 rfl (by decide) (by decide) (by decide) rfl rfl (Nat.le_of_ble_eq_true rfl) (fun r5 d6 => ?_)
            show SS G X 4 _ _ 126 [(3, i9 r3), (0, rf G 174), (1, i9 p1), (2, i9 p2)] [i9 r5] d6 _
            refine r_iload_n C 2 dX12_isFact_126 rfl rfl ?_
            refine r_iconst C dX12_isFact_127 ?_
            refine r_isub C dX12_isFact_128 ?_
            refine r_icmp_ne C 136 dX12_isFact_129 (by decide) (fun _ => ?_) (fun _ => ?_)
            · refine r_iconst C dX12_isFact_136 ?_
              exact r_zret C dX12_isFact_137 (by decide) (by decide)
            · refine r_iconst C dX12_isFact_132 ?_
              refine r_goto C 137 dX12_isFact_133 (by decide) ?_
              exact r_zret C dX12_isFact_137 (by decide) (by decide)
          · refine r_aload_n C 1 dX12_isFact_89 rfl rfl ?_
            refine r_iload_n C 0 dX12_isFact_90 rfl rfl ?_
            refine r_iconst C dX12_isFact_91 ?_
            refine r_iconst C dX12_isFact_92 ?_
            refine r_callV C [i9 (-1), i9 0, i9 r3, rf G 174] dX12_isFact_93 (t_X12_boundOf_174 C.h1 C.h2 r3 0 (-1) d4) mw_X12_384 mv_X12_boundOf la_174 ly_174 rfl (by decide) (by decide) (by decide) rfl rfl (Nat.le_of_ble_eq_true rfl) (fun r7 d8 => ?_)
            show SS G X 4 _ _ 96 [(3, i9 r3), (0, rf G 174), (1, i9 p1), (2, i9 p2)] [i9 r7] d8 _
            refine r_if_ne C (b := 0) 116 dX12_isFact_96 (by decide) (fun _ => ?_) (fun _ => ?_)
            · refine r_iconst C dX12_isFact_116 ?_
              refine r_goto C 137 dX12_isFact_117 (by decide) ?_
              exact r_zret C dX12_isFact_137 (by decide) (by decide)
            · refine r_aload_n C 1 dX12_isFact_99 rfl rfl ?_
              refine r_iload_n C 0 dX12_isFact_100 rfl rfl ?_
              refine r_iconst C dX12_isFact_101 ?_
              refine r_iconst C dX12_isFact_102 ?_
              refine r_callV C [i9 (-1), i9 1, i9 r3, rf G 174] dX12_isFact_103 (t_X12_boundOf_174 C.h1 C.h2 r3 1 (-1) d8) mw_X12_384 mv_X12_boundOf la_174 ly_174 rfl (by decide) (by decide) (by decide) rfl rfl (Nat.le_of_ble_eq_true rfl) (fun r9 d10 => ?_)
              show SS G X 4 _ _ 106 [(3, i9 r3), (0, rf G 174), (1, i9 p1), (2, i9 p2)] [i9 r9] d10 _
              refine r_sipush C dX12_isFact_106 rfl ?_
              refine r_icmp_ne C 116 dX12_isFact_109 (by decide) (fun _ => ?_) (fun _ => ?_)
              · refine r_iconst C dX12_isFact_116 ?_
                refine r_goto C 137 dX12_isFact_117 (by decide) ?_
                exact r_zret C dX12_isFact_137 (by decide) (by decide)
              · refine r_iconst C dX12_isFact_112 ?_
                refine r_goto C 137 dX12_isFact_113 (by decide) ?_
                exact r_zret C dX12_isFact_137 (by decide) (by decide)
        · refine r_aload_n C 1 dX12_isFact_75 rfl rfl ?_
          refine r_iload_n C 0 dX12_isFact_76 rfl rfl ?_
          refine r_callV C [i9 r3, rf G 174] dX12_isFact_77 (t_X12_isBare_174 C.h1 C.h2 r3 d4) mw_X12_467 mv_X12_isBare la_174 ly_174 rfl (by decide) (by decide) (by decide) rfl rfl (Nat.le_of_ble_eq_true rfl) (fun r11 d12 => ?_)
          show SS G X 4 _ _ 80 [(3, i9 r3), (0, rf G 174), (1, i9 p1), (2, i9 p2)] [i9 r11] d12 _
          refine r_goto C 137 dX12_isFact_80 (by decide) ?_
          exact r_zret C dX12_isFact_137 (by decide) (by decide)
      · refine r_iconst C dX12_isFact_61 ?_
        exact r_zret C dX12_isFact_62 (by decide) (by decide)
    · refine r_aload_n C 0 dX12_isFact_33 rfl rfl ?_
      refine r_iload_n C 2 dX12_isFact_34 rfl rfl ?_
      refine r_iconst C dX12_isFact_35 ?_
      refine r_callV C [i9 3, i9 p2, rf G 174] dX12_isFact_36 (t_X12_ofSkin_174 C.h1 C.h2 p2 3 d) mw_X12_124 mv_X12_ofSkin la_174 ly_174 rfl (by decide) (by decide) (by decide) rfl rfl (Nat.le_of_ble_eq_true rfl) (fun r13 d14 => ?_)
      show SS G X 4 _ _ 39 [(0, rf G 174), (1, i9 p1), (2, i9 p2)] [i9 r13] d14 _
      refine r_iload_n C 1 dX12_isFact_39 rfl rfl ?_
      refine r_bipush C dX12_isFact_40 rfl ?_
      refine r_isub C dX12_isFact_42 ?_
      refine r_icmp_gt C 50 dX12_isFact_43 (by decide) (fun _ => ?_) (fun _ => ?_)
      · refine r_iconst C dX12_isFact_50 ?_
        exact r_zret C dX12_isFact_51 (by decide) (by decide)
      · refine r_iconst C dX12_isFact_46 ?_
        refine r_goto C 51 dX12_isFact_47 (by decide) ?_
        exact r_zret C dX12_isFact_51 (by decide) (by decide)
  · refine r_aload_n C 0 dX12_isFact_7 rfl rfl ?_
    refine r_iload_n C 2 dX12_isFact_8 rfl rfl ?_
    refine r_iconst C dX12_isFact_9 ?_
    refine r_callV C [i9 0, i9 p2, rf G 174] dX12_isFact_10 (t_X12_ofSkin_174 C.h1 C.h2 p2 0 d) mw_X12_124 mv_X12_ofSkin la_174 ly_174 rfl (by decide) (by decide) (by decide) rfl rfl (Nat.le_of_ble_eq_true rfl) (fun r15 d16 => ?_)
    show SS G X 4 _ _ 13 [(0, rf G 174), (1, i9 p1), (2, i9 p2)] [i9 r15] d16 _
    refine r_iload_n C 1 dX12_isFact_13 rfl rfl ?_
    refine r_sipush C dX12_isFact_14 rfl ?_
    refine r_isub C dX12_isFact_17 ?_
    refine r_icmp_ne C 25 dX12_isFact_18 (by decide) (fun _ => ?_) (fun _ => ?_)
    · refine r_iconst C dX12_isFact_25 ?_
      exact r_zret C dX12_isFact_26 (by decide) (by decide)
    · refine r_iconst C dX12_isFact_21 ?_
      refine r_goto C 26 dX12_isFact_22 (by decide) ?_
      exact r_zret C dX12_isFact_26 (by decide) (by decide)
theorem dX12_isSo_0 : decode cX12_isSo 0 = .ok (.iconst 0, 1) := by decide +kernel
theorem dX12_isSo_1 : decode cX12_isSo 1 = .ok (.istore 4, 2) := by decide +kernel
theorem dX12_isSo_3 : decode cX12_isSo 3 = .ok (.iload_n 1, 1) := by decide +kernel
theorem dX12_isSo_4 : decode cX12_isSo 4 = .ok (.istore 5, 2) := by decide +kernel
theorem dX12_isSo_6 : decode cX12_isSo 6 = .ok (.iload 5, 2) := by decide +kernel
theorem dX12_isSo_8 : decode cX12_isSo 8 = .ok (.iload_n 1, 1) := by decide +kernel
theorem dX12_isSo_9 : decode cX12_isSo 9 = .ok (.iload_n 2, 1) := by decide +kernel
theorem dX12_isSo_10 : decode cX12_isSo 10 = .ok (.iadd, 1) := by decide +kernel
theorem dX12_isSo_11 : decode cX12_isSo 11 = .ok (.if_icmp .ge 164, 3) := by decide +kernel
theorem dX12_isSo_14 : decode cX12_isSo 14 = .ok (.aload_n 0, 1) := by decide +kernel
theorem dX12_isSo_15 : decode cX12_isSo 15 = .ok (.getfield 9, 3) := by decide +kernel
theorem dX12_isSo_18 : decode cX12_isSo 18 = .ok (.iload 5, 2) := by decide +kernel
theorem dX12_isSo_20 : decode cX12_isSo 20 = .ok (.iaload, 1) := by decide +kernel
theorem dX12_isSo_21 : decode cX12_isSo 21 = .ok (.istore 6, 2) := by decide +kernel
theorem dX12_isSo_23 : decode cX12_isSo 23 = .ok (.iload 6, 2) := by decide +kernel
theorem dX12_isSo_25 : decode cX12_isSo 25 = .ok (.bipush 7, 2) := by decide +kernel
theorem dX12_isSo_27 : decode cX12_isSo 27 = .ok (.if_icmp .ne 32, 3) := by decide +kernel
theorem dX12_isSo_30 : decode cX12_isSo 30 = .ok (.aload_n 0, 1) := by decide +kernel
theorem dX12_isSo_31 : decode cX12_isSo 31 = .ok (.getfield 58, 3) := by decide +kernel
theorem dX12_isSo_34 : decode cX12_isSo 34 = .ok (.iload 4, 2) := by decide +kernel
theorem dX12_isSo_36 : decode cX12_isSo 36 = .ok (.iconst 1, 1) := by decide +kernel
theorem dX12_isSo_37 : decode cX12_isSo 37 = .ok (.isub, 1) := by decide +kernel
theorem dX12_isSo_38 : decode cX12_isSo 38 = .ok (.aload_n 0, 1) := by decide +kernel
theorem dX12_isSo_39 : decode cX12_isSo 39 = .ok (.getfield 58, 3) := by decide +kernel
theorem dX12_isSo_42 : decode cX12_isSo 42 = .ok (.iload 4, 2) := by decide +kernel
theorem dX12_isSo_44 : decode cX12_isSo 44 = .ok (.iconst 1, 1) := by decide +kernel
theorem dX12_isSo_45 : decode cX12_isSo 45 = .ok (.isub, 1) := by decide +kernel
theorem dX12_isSo_46 : decode cX12_isSo 46 = .ok (.baload, 1) := by decide +kernel
theorem dX12_isSo_47 : decode cX12_isSo 47 = .ok (.ifCond .ne 7, 3) := by decide +kernel
theorem dX12_isSo_50 : decode cX12_isSo 50 = .ok (.iconst 1, 1) := by decide +kernel
theorem dX12_isSo_51 : decode cX12_isSo 51 = .ok (.goto 4, 3) := by decide +kernel
theorem dX12_isSo_54 : decode cX12_isSo 54 = .ok (.iconst 0, 1) := by decide +kernel
theorem dX12_isSo_55 : decode cX12_isSo 55 = .ok (.bastore, 1) := by decide +kernel
theorem dX12_isSo_56 : decode cX12_isSo 56 = .ok (.goto 113, 3) := by decide +kernel
theorem dX12_isSo_59 : decode cX12_isSo 59 = .ok (.iload 6, 2) := by decide +kernel
theorem dX12_isSo_61 : decode cX12_isSo 61 = .ok (.bipush 8, 2) := by decide +kernel
theorem dX12_isSo_63 : decode cX12_isSo 63 = .ok (.if_icmp .eq 10, 3) := by decide +kernel
theorem dX12_isSo_66 : decode cX12_isSo 66 = .ok (.iload 6, 2) := by decide +kernel
theorem dX12_isSo_68 : decode cX12_isSo 68 = .ok (.bipush 9, 2) := by decide +kernel
theorem dX12_isSo_70 : decode cX12_isSo 70 = .ok (.if_icmp .ne 82, 3) := by decide +kernel
theorem dX12_isSo_73 : decode cX12_isSo 73 = .ok (.iinc 4 (-1), 3) := by decide +kernel
theorem dX12_isSo_76 : decode cX12_isSo 76 = .ok (.aload_n 0, 1) := by decide +kernel
theorem dX12_isSo_77 : decode cX12_isSo 77 = .ok (.getfield 58, 3) := by decide +kernel
theorem dX12_isSo_80 : decode cX12_isSo 80 = .ok (.iload 4, 2) := by decide +kernel
theorem dX12_isSo_82 : decode cX12_isSo 82 = .ok (.iconst 1, 1) := by decide +kernel
theorem dX12_isSo_83 : decode cX12_isSo 83 = .ok (.isub, 1) := by decide +kernel
theorem dX12_isSo_84 : decode cX12_isSo 84 = .ok (.iload 6, 2) := by decide +kernel
theorem dX12_isSo_86 : decode cX12_isSo 86 = .ok (.bipush 8, 2) := by decide +kernel
theorem dX12_isSo_88 : decode cX12_isSo 88 = .ok (.if_icmp .ne 33, 3) := by decide +kernel
theorem dX12_isSo_91 : decode cX12_isSo 91 = .ok (.aload_n 0, 1) := by decide +kernel
theorem dX12_isSo_92 : decode cX12_isSo 92 = .ok (.getfield 58, 3) := by decide +kernel
theorem dX12_isSo_95 : decode cX12_isSo 95 = .ok (.iload 4, 2) := by decide +kernel
theorem dX12_isSo_97 : decode cX12_isSo 97 = .ok (.iconst 1, 1) := by decide +kernel
theorem dX12_isSo_98 : decode cX12_isSo 98 = .ok (.isub, 1) := by decide +kernel
theorem dX12_isSo_99 : decode cX12_isSo 99 = .ok (.baload, 1) := by decide +kernel
theorem dX12_isSo_100 : decode cX12_isSo 100 = .ok (.ifCond .eq 17, 3) := by decide +kernel
theorem dX12_isSo_103 : decode cX12_isSo 103 = .ok (.aload_n 0, 1) := by decide +kernel
theorem dX12_isSo_104 : decode cX12_isSo 104 = .ok (.getfield 58, 3) := by decide +kernel
theorem dX12_isSo_107 : decode cX12_isSo 107 = .ok (.iload 4, 2) := by decide +kernel
theorem dX12_isSo_109 : decode cX12_isSo 109 = .ok (.baload, 1) := by decide +kernel
theorem dX12_isSo_110 : decode cX12_isSo 110 = .ok (.ifCond .eq 7, 3) := by decide +kernel
theorem dX12_isSo_113 : decode cX12_isSo 113 = .ok (.iconst 1, 1) := by decide +kernel
theorem dX12_isSo_114 : decode cX12_isSo 114 = .ok (.goto 34, 3) := by decide +kernel
theorem dX12_isSo_117 : decode cX12_isSo 117 = .ok (.iconst 0, 1) := by decide +kernel
theorem dX12_isSo_118 : decode cX12_isSo 118 = .ok (.goto 30, 3) := by decide +kernel
theorem dX12_isSo_121 : decode cX12_isSo 121 = .ok (.aload_n 0, 1) := by decide +kernel
theorem dX12_isSo_122 : decode cX12_isSo 122 = .ok (.getfield 58, 3) := by decide +kernel
theorem dX12_isSo_125 : decode cX12_isSo 125 = .ok (.iload 4, 2) := by decide +kernel
theorem dX12_isSo_127 : decode cX12_isSo 127 = .ok (.iconst 1, 1) := by decide +kernel
theorem dX12_isSo_128 : decode cX12_isSo 128 = .ok (.isub, 1) := by decide +kernel
theorem dX12_isSo_129 : decode cX12_isSo 129 = .ok (.baload, 1) := by decide +kernel
theorem dX12_isSo_130 : decode cX12_isSo 130 = .ok (.ifCond .ne 13, 3) := by decide +kernel
theorem dX12_isSo_133 : decode cX12_isSo 133 = .ok (.aload_n 0, 1) := by decide +kernel
theorem dX12_isSo_134 : decode cX12_isSo 134 = .ok (.getfield 58, 3) := by decide +kernel
theorem dX12_isSo_137 : decode cX12_isSo 137 = .ok (.iload 4, 2) := by decide +kernel
theorem dX12_isSo_139 : decode cX12_isSo 139 = .ok (.baload, 1) := by decide +kernel
theorem dX12_isSo_140 : decode cX12_isSo 140 = .ok (.ifCond .eq 7, 3) := by decide +kernel
theorem dX12_isSo_143 : decode cX12_isSo 143 = .ok (.iconst 1, 1) := by decide +kernel
theorem dX12_isSo_144 : decode cX12_isSo 144 = .ok (.goto 4, 3) := by decide +kernel
theorem dX12_isSo_147 : decode cX12_isSo 147 = .ok (.iconst 0, 1) := by decide +kernel
theorem dX12_isSo_148 : decode cX12_isSo 148 = .ok (.bastore, 1) := by decide +kernel
theorem dX12_isSo_149 : decode cX12_isSo 149 = .ok (.goto 20, 3) := by decide +kernel
theorem dX12_isSo_152 : decode cX12_isSo 152 = .ok (.aload_n 0, 1) := by decide +kernel
theorem dX12_isSo_153 : decode cX12_isSo 153 = .ok (.getfield 58, 3) := by decide +kernel
theorem dX12_isSo_156 : decode cX12_isSo 156 = .ok (.iload 4, 2) := by decide +kernel
theorem dX12_isSo_158 : decode cX12_isSo 158 = .ok (.aload_n 0, 1) := by decide +kernel
theorem dX12_isSo_159 : decode cX12_isSo 159 = .ok (.iload 6, 2) := by decide +kernel
theorem dX12_isSo_161 : decode cX12_isSo 161 = .ok (.iload_n 3, 1) := by decide +kernel
theorem dX12_isSo_162 : decode cX12_isSo 162 = .ok (.invokevirtual 470, 3) := by decide +kernel
theorem dX12_isSo_165 : decode cX12_isSo 165 = .ok (.bastore, 1) := by decide +kernel
theorem dX12_isSo_166 : decode cX12_isSo 166 = .ok (.iinc 4 1, 3) := by decide +kernel
theorem dX12_isSo_169 : decode cX12_isSo 169 = .ok (.iinc 5 1, 3) := by decide +kernel
theorem dX12_isSo_172 : decode cX12_isSo 172 = .ok (.goto (-166), 3) := by decide +kernel
theorem dX12_isSo_175 : decode cX12_isSo 175 = .ok (.iload_n 2, 1) := by decide +kernel
theorem dX12_isSo_176 : decode cX12_isSo 176 = .ok (.ifCond .eq 12, 3) := by decide +kernel
theorem dX12_isSo_179 : decode cX12_isSo 179 = .ok (.aload_n 0, 1) := by decide +kernel
theorem dX12_isSo_180 : decode cX12_isSo 180 = .ok (.getfield 58, 3) := by decide +kernel
theorem dX12_isSo_183 : decode cX12_isSo 183 = .ok (.iconst 0, 1) := by decide +kernel
theorem dX12_isSo_184 : decode cX12_isSo 184 = .ok (.baload, 1) := by decide +kernel
theorem dX12_isSo_185 : decode cX12_isSo 185 = .ok (.ifCond .eq 7, 3) := by decide +kernel
theorem dX12_isSo_188 : decode cX12_isSo 188 = .ok (.iconst 1, 1) := by decide +kernel
theorem dX12_isSo_189 : decode cX12_isSo 189 = .ok (.goto 4, 3) := by decide +kernel
theorem dX12_isSo_192 : decode cX12_isSo 192 = .ok (.iconst 0, 1) := by decide +kernel
theorem dX12_isSo_193 : decode cX12_isSo 193 = .ok (.ireturn, 1) := by decide +kernel
abbrev z_X12_isSo_174 : Z9 := (some .boolean, 1, 0, 0, 11, 275)
def m_X12_isSo_174_c73 (k_X12_isSo_174_c6 : Int → Int → Int → Int → Int → D9 → Option R9) (v1 v2 v3 v4 v5 v6 : Int) (d : D9) : Option R9 := if w32 v6 ≠ w32 8 then ld d 189 460 ((v4 + (-1)) - 1) (fun t1 => if w32 t1 ≠ 0 then sd d 189 460 ((v4 + (-1)) - 1) (1 % 2) (fun d2 => k_X12_isSo_174_c6 v1 v2 v3 (v4 + (-1)) (v5 + 1) d2) else ld d 189 460 (v4 + (-1)) (fun t3 => if w32 t3 = 0 then sd d 189 460 ((v4 + (-1)) - 1) (0 % 2) (fun d4 => k_X12_isSo_174_c6 v1 v2 v3 (v4 + (-1)) (v5 + 1) d4) else sd d 189 460 ((v4 + (-1)) - 1) (1 % 2) (fun d5 => k_X12_isSo_174_c6 v1 v2 v3 (v4 + (-1)) (v5 + 1) d5))) else ld d 189 460 ((v4 + (-1)) - 1) (fun t6 => if w32 t6 = 0 then sd d 189 460 ((v4 + (-1)) - 1) (0 % 2) (fun d7 => k_X12_isSo_174_c6 v1 v2 v3 (v4 + (-1)) (v5 + 1) d7) else ld d 189 460 (v4 + (-1)) (fun t8 => if w32 t8 = 0 then sd d 189 460 ((v4 + (-1)) - 1) (0 % 2) (fun d9 => k_X12_isSo_174_c6 v1 v2 v3 (v4 + (-1)) (v5 + 1) d9) else sd d 189 460 ((v4 + (-1)) - 1) (1 % 2) (fun d10 => k_X12_isSo_174_c6 v1 v2 v3 (v4 + (-1)) (v5 + 1) d10)))
def b_X12_isSo_174_c6 (k_X12_isSo_174_c6 : Int → Int → Int → Int → Int → D9 → Option R9) (v1 v2 v3 v4 v5 : Int) (d : D9) : Option R9 := if w32 (v1 + v2) ≤ w32 v5 then if w32 v2 = 0 then rt (1 % 2) d else ld d 189 460 0 (fun t1 => if w32 t1 = 0 then rt (0 % 2) d else rt (1 % 2) d) else ld d 175 1604 v5 (fun t2 => if w32 t2 ≠ w32 7 then if w32 t2 = w32 8 then m_X12_isSo_174_c73 k_X12_isSo_174_c6 v1 v2 v3 v4 v5 t2 d else if w32 t2 ≠ w32 9 then cl (m_X12_isFact_174 t2 v3 d) (fun r3 d4 => sd d4 189 460 v4 (r3 % 2) (fun d5 => k_X12_isSo_174_c6 v1 v2 v3 (v4 + 1) (v5 + 1) d5)) else m_X12_isSo_174_c73 k_X12_isSo_174_c6 v1 v2 v3 v4 v5 t2 d else ld d 189 460 (v4 - 1) (fun t6 => if w32 t6 ≠ 0 then sd d 189 460 (v4 - 1) (0 % 2) (fun d7 => k_X12_isSo_174_c6 v1 v2 v3 v4 (v5 + 1) d7) else sd d 189 460 (v4 - 1) (1 % 2) (fun d8 => k_X12_isSo_174_c6 v1 v2 v3 v4 (v5 + 1) d8)))
def m_X12_isSo_174_c6 : Int → Int → Int → Int → Int → D9 → Option R9 := fix9 (fun _ _ _ _ _ _ => none) (fun k => b_X12_isSo_174_c6 k) FU
def m_X12_isSo_174 (p1 p2 p3 : Int) (d : D9) : Option R9 := m_X12_isSo_174_c6  p1 p2 p3 0 p1 d
set_option maxRecDepth 100000 in
theorem s_X12_isSo_174_c73 {G : G9} {X : X9} (C : CX G X cX12_isSo 7 RX12 [] z_X12_isSo_174) (k_X12_isSo_174_c6 : Int → Int → Int → Int → Int → D9 → Option R9) (hk_X12_isSo_174_c6 : ∀ (v1 v2 v3 v4 v5 : Int) (d : D9), SS G X 7 0 0 6 [(0, rf G 174), (1, i9 v1), (2, i9 v2), (3, i9 v3), (4, i9 v4), (5, i9 v5)] [] d (k_X12_isSo_174_c6 v1 v2 v3 v4 v5 d)) : ∀ (v1 v2 v3 v4 v5 v6 : Int) (d : D9), SS G X 7 0 0 73 [(0, rf G 174), (1, i9 v1), (2, i9 v2), (3, i9 v3), (4, i9 v4), (5, i9 v5), (6, i9 v6)] [] d (m_X12_isSo_174_c73 k_X12_isSo_174_c6 v1 v2 v3 v4 v5 v6 d) := by
  intro v1 v2 v3 v4 v5 v6 d
  unfold m_X12_isSo_174_c73
  refine r_iinc C 4 [(4, i9 (v4 + (-1))), (0, rf G 174), (1, i9 v1), (2, i9 v2), (3, i9 v3), (5, i9 v5), (6, i9 v6)] dX12_isSo_73 rfl (by decide) rfl ?_
  refine r_aload_n C 1 dX12_isSo_76 rfl rfl ?_
  refine r_getR C 189 dX12_isSo_77 fl_X12_58 la_174 ly_174 rfl rfl ?_
  refine r_iload C 0 dX12_isSo_80 rfl ?_
  refine r_iconst C dX12_isSo_82 ?_
  refine r_isub C dX12_isSo_83 ?_
  refine r_iload C 6 dX12_isSo_84 rfl ?_
  refine r_bipush C dX12_isSo_86 rfl ?_
  refine r_icmp_ne C 121 dX12_isSo_88 (by decide) (fun _ => ?_) (fun _ => ?_)
  · refine r_aload_n C 1 dX12_isSo_121 rfl rfl ?_
    refine r_getR C 189 dX12_isSo_122 fl_X12_58 la_174 ly_174 rfl rfl ?_
    refine r_iload C 0 dX12_isSo_125 rfl ?_
    refine r_iconst C dX12_isSo_127 ?_
    refine r_isub C dX12_isSo_128 ?_
    refine r_zald C dX12_isSo_129 la_189 ly_189 (fun t1 => ?_)
    refine r_if_ne C (b := 0) 143 dX12_isSo_130 (by decide) (fun _ => ?_) (fun _ => ?_)
    · refine r_iconst C dX12_isSo_143 ?_
      refine r_goto C 148 dX12_isSo_144 (by decide) ?_
      refine r_zast C dX12_isSo_148 la_189 ly_189 (fun d2 => ?_)
      refine r_goto C 169 dX12_isSo_149 (by decide) ?_
      refine r_iinc C 5 [(5, i9 (v5 + 1)), (4, i9 (v4 + (-1))), (0, rf G 174), (1, i9 v1), (2, i9 v2), (3, i9 v3), (6, i9 v6)] dX12_isSo_169 rfl (by decide) rfl ?_
      refine r_goto C 6 dX12_isSo_172 (by decide) ?_
      refine ss_wide (k' := 0) (n' := 0) (by decide) (by decide) ?_
      refine ss_ls [(0, rf G 174), (1, i9 v1), (2, i9 v2), (3, i9 v3), (4, i9 (v4 + (-1))), (5, i9 (v5 + 1))] [2, 3, 4, 5, 1, 0] rfl ?_
      exact hk_X12_isSo_174_c6 v1 v2 v3 (v4 + (-1)) (v5 + 1) d2
    · refine r_aload_n C 1 dX12_isSo_133 rfl rfl ?_
      refine r_getR C 189 dX12_isSo_134 fl_X12_58 la_174 ly_174 rfl rfl ?_
      refine r_iload C 0 dX12_isSo_137 rfl ?_
      refine r_zald C dX12_isSo_139 la_189 ly_189 (fun t3 => ?_)
      refine r_if_eq C (b := 0) 147 dX12_isSo_140 (by decide) (fun _ => ?_) (fun _ => ?_)
      · refine r_iconst C dX12_isSo_147 ?_
        refine r_zast C dX12_isSo_148 la_189 ly_189 (fun d4 => ?_)
        refine r_goto C 169 dX12_isSo_149 (by decide) ?_
        refine r_iinc C 5 [(5, i9 (v5 + 1)), (4, i9 (v4 + (-1))), (0, rf G 174), (1, i9 v1), (2, i9 v2), (3, i9 v3), (6, i9 v6)] dX12_isSo_169 rfl (by decide) rfl ?_
        refine r_goto C 6 dX12_isSo_172 (by decide) ?_
        refine ss_wide (k' := 0) (n' := 0) (by decide) (by decide) ?_
        refine ss_ls [(0, rf G 174), (1, i9 v1), (2, i9 v2), (3, i9 v3), (4, i9 (v4 + (-1))), (5, i9 (v5 + 1))] [2, 3, 4, 5, 1, 0] rfl ?_
        exact hk_X12_isSo_174_c6 v1 v2 v3 (v4 + (-1)) (v5 + 1) d4
      · refine r_iconst C dX12_isSo_143 ?_
        refine r_goto C 148 dX12_isSo_144 (by decide) ?_
        refine r_zast C dX12_isSo_148 la_189 ly_189 (fun d5 => ?_)
        refine r_goto C 169 dX12_isSo_149 (by decide) ?_
        refine r_iinc C 5 [(5, i9 (v5 + 1)), (4, i9 (v4 + (-1))), (0, rf G 174), (1, i9 v1), (2, i9 v2), (3, i9 v3), (6, i9 v6)] dX12_isSo_169 rfl (by decide) rfl ?_
        refine r_goto C 6 dX12_isSo_172 (by decide) ?_
        refine ss_wide (k' := 0) (n' := 0) (by decide) (by decide) ?_
        refine ss_ls [(0, rf G 174), (1, i9 v1), (2, i9 v2), (3, i9 v3), (4, i9 (v4 + (-1))), (5, i9 (v5 + 1))] [2, 3, 4, 5, 1, 0] rfl ?_
        exact hk_X12_isSo_174_c6 v1 v2 v3 (v4 + (-1)) (v5 + 1) d5
  · refine r_aload_n C 1 dX12_isSo_91 rfl rfl ?_
    refine r_getR C 189 dX12_isSo_92 fl_X12_58 la_174 ly_174 rfl rfl ?_
    refine r_iload C 0 dX12_isSo_95 rfl ?_
    refine r_iconst C dX12_isSo_97 ?_
    refine r_isub C dX12_isSo_98 ?_
    refine r_zald C dX12_isSo_99 la_189 ly_189 (fun t6 => ?_)
    refine r_if_eq C (b := 0) 117 dX12_isSo_100 (by decide) (fun _ => ?_) (fun _ => ?_)
    · refine r_iconst C dX12_isSo_117 ?_
      refine r_goto C 148 dX12_isSo_118 (by decide) ?_
      refine r_zast C dX12_isSo_148 la_189 ly_189 (fun d7 => ?_)
      refine r_goto C 169 dX12_isSo_149 (by decide) ?_
      refine r_iinc C 5 [(5, i9 (v5 + 1)), (4, i9 (v4 + (-1))), (0, rf G 174), (1, i9 v1), (2, i9 v2), (3, i9 v3), (6, i9 v6)] dX12_isSo_169 rfl (by decide) rfl ?_
      refine r_goto C 6 dX12_isSo_172 (by decide) ?_
      refine ss_wide (k' := 0) (n' := 0) (by decide) (by decide) ?_
      refine ss_ls [(0, rf G 174), (1, i9 v1), (2, i9 v2), (3, i9 v3), (4, i9 (v4 + (-1))), (5, i9 (v5 + 1))] [2, 3, 4, 5, 1, 0] rfl ?_
      exact hk_X12_isSo_174_c6 v1 v2 v3 (v4 + (-1)) (v5 + 1) d7
    · refine r_aload_n C 1 dX12_isSo_103 rfl rfl ?_
      refine r_getR C 189 dX12_isSo_104 fl_X12_58 la_174 ly_174 rfl rfl ?_
      refine r_iload C 0 dX12_isSo_107 rfl ?_
      refine r_zald C dX12_isSo_109 la_189 ly_189 (fun t8 => ?_)
      refine r_if_eq C (b := 0) 117 dX12_isSo_110 (by decide) (fun _ => ?_) (fun _ => ?_)
      · refine r_iconst C dX12_isSo_117 ?_
        refine r_goto C 148 dX12_isSo_118 (by decide) ?_
        refine r_zast C dX12_isSo_148 la_189 ly_189 (fun d9 => ?_)
        refine r_goto C 169 dX12_isSo_149 (by decide) ?_
        refine r_iinc C 5 [(5, i9 (v5 + 1)), (4, i9 (v4 + (-1))), (0, rf G 174), (1, i9 v1), (2, i9 v2), (3, i9 v3), (6, i9 v6)] dX12_isSo_169 rfl (by decide) rfl ?_
        refine r_goto C 6 dX12_isSo_172 (by decide) ?_
        refine ss_wide (k' := 0) (n' := 0) (by decide) (by decide) ?_
        refine ss_ls [(0, rf G 174), (1, i9 v1), (2, i9 v2), (3, i9 v3), (4, i9 (v4 + (-1))), (5, i9 (v5 + 1))] [2, 3, 4, 5, 1, 0] rfl ?_
        exact hk_X12_isSo_174_c6 v1 v2 v3 (v4 + (-1)) (v5 + 1) d9
      · refine r_iconst C dX12_isSo_113 ?_
        refine r_goto C 148 dX12_isSo_114 (by decide) ?_
        refine r_zast C dX12_isSo_148 la_189 ly_189 (fun d10 => ?_)
        refine r_goto C 169 dX12_isSo_149 (by decide) ?_
        refine r_iinc C 5 [(5, i9 (v5 + 1)), (4, i9 (v4 + (-1))), (0, rf G 174), (1, i9 v1), (2, i9 v2), (3, i9 v3), (6, i9 v6)] dX12_isSo_169 rfl (by decide) rfl ?_
        refine r_goto C 6 dX12_isSo_172 (by decide) ?_
        refine ss_wide (k' := 0) (n' := 0) (by decide) (by decide) ?_
        refine ss_ls [(0, rf G 174), (1, i9 v1), (2, i9 v2), (3, i9 v3), (4, i9 (v4 + (-1))), (5, i9 (v5 + 1))] [2, 3, 4, 5, 1, 0] rfl ?_
        exact hk_X12_isSo_174_c6 v1 v2 v3 (v4 + (-1)) (v5 + 1) d10
set_option maxRecDepth 100000 in
theorem sb_X12_isSo_174_c6 {G : G9} {X : X9} (C : CX G X cX12_isSo 7 RX12 [] z_X12_isSo_174) (k_X12_isSo_174_c6 : Int → Int → Int → Int → Int → D9 → Option R9) (hk_X12_isSo_174_c6 : ∀ (v1 v2 v3 v4 v5 : Int) (d : D9), SS G X 7 0 0 6 [(0, rf G 174), (1, i9 v1), (2, i9 v2), (3, i9 v3), (4, i9 v4), (5, i9 v5)] [] d (k_X12_isSo_174_c6 v1 v2 v3 v4 v5 d)) : ∀ (v1 v2 v3 v4 v5 : Int) (d : D9), SS G X 7 0 0 6 [(0, rf G 174), (1, i9 v1), (2, i9 v2), (3, i9 v3), (4, i9 v4), (5, i9 v5)] [] d (b_X12_isSo_174_c6 k_X12_isSo_174_c6 v1 v2 v3 v4 v5 d) := by
  intro v1 v2 v3 v4 v5 d
  unfold b_X12_isSo_174_c6
  refine r_iload C 5 dX12_isSo_6 rfl ?_
  refine r_iload_n C 1 dX12_isSo_8 rfl rfl ?_
  refine r_iload_n C 2 dX12_isSo_9 rfl rfl ?_
  refine r_iadd C dX12_isSo_10 ?_
  refine r_icmp_ge C 175 dX12_isSo_11 (by decide) (fun _ => ?_) (fun _ => ?_)
  · refine r_iload_n C 2 dX12_isSo_175 rfl rfl ?_
    refine r_if_eq C (b := 0) 188 dX12_isSo_176 (by decide) (fun _ => ?_) (fun _ => ?_)
    · refine r_iconst C dX12_isSo_188 ?_
      refine r_goto C 193 dX12_isSo_189 (by decide) ?_
      exact r_zret C dX12_isSo_193 (by decide) (by decide)
    · refine r_aload_n C 0 dX12_isSo_179 rfl rfl ?_
      refine r_getR C 189 dX12_isSo_180 fl_X12_58 la_174 ly_174 rfl rfl ?_
      refine r_iconst C dX12_isSo_183 ?_
      refine r_zald C dX12_isSo_184 la_189 ly_189 (fun t1 => ?_)
      refine r_if_eq C (b := 0) 192 dX12_isSo_185 (by decide) (fun _ => ?_) (fun _ => ?_)
      · refine r_iconst C dX12_isSo_192 ?_
        exact r_zret C dX12_isSo_193 (by decide) (by decide)
      · refine r_iconst C dX12_isSo_188 ?_
        refine r_goto C 193 dX12_isSo_189 (by decide) ?_
        exact r_zret C dX12_isSo_193 (by decide) (by decide)
  · refine r_aload_n C 0 dX12_isSo_14 rfl rfl ?_
    refine r_getR C 175 dX12_isSo_15 fl_X12_9 la_174 ly_174 rfl rfl ?_
    refine r_iload C 5 dX12_isSo_18 rfl ?_
    refine r_iald C dX12_isSo_20 la_175 ly_175 (fun t2 => ?_)
    refine r_istore C [(6, i9 t2), (0, rf G 174), (1, i9 v1), (2, i9 v2), (3, i9 v3), (4, i9 v4), (5, i9 v5)] dX12_isSo_21 (by decide) rfl ?_
    refine r_iload C 0 dX12_isSo_23 rfl ?_
    refine r_bipush C dX12_isSo_25 rfl ?_
    refine r_icmp_ne C 59 dX12_isSo_27 (by decide) (fun _ => ?_) (fun _ => ?_)
    · refine r_iload C 0 dX12_isSo_59 rfl ?_
      refine r_bipush C dX12_isSo_61 rfl ?_
      refine r_icmp_eq C 73 dX12_isSo_63 (by decide) (fun _ => ?_) (fun _ => ?_)
      · refine ss_wide (k' := 0) (n' := 0) (by decide) (by decide) ?_
        refine ss_ls [(0, rf G 174), (1, i9 v1), (2, i9 v2), (3, i9 v3), (4, i9 v4), (5, i9 v5), (6, i9 t2)] [1, 2, 3, 4, 5, 6, 0] rfl ?_
        exact s_X12_isSo_174_c73 C k_X12_isSo_174_c6 hk_X12_isSo_174_c6 v1 v2 v3 v4 v5 t2 d
      · refine r_iload C 0 dX12_isSo_66 rfl ?_
        refine r_bipush C dX12_isSo_68 rfl ?_
        refine r_icmp_ne C 152 dX12_isSo_70 (by decide) (fun _ => ?_) (fun _ => ?_)
        · refine r_aload_n C 1 dX12_isSo_152 rfl rfl ?_
          refine r_getR C 189 dX12_isSo_153 fl_X12_58 la_174 ly_174 rfl rfl ?_
          refine r_iload C 5 dX12_isSo_156 rfl ?_
          refine r_aload_n C 1 dX12_isSo_158 rfl rfl ?_
          refine r_iload C 0 dX12_isSo_159 rfl ?_
          refine r_iload_n C 4 dX12_isSo_161 rfl rfl ?_
          refine r_callV C [i9 v3, i9 t2, rf G 174, i9 v4, rf G 189] dX12_isSo_162 (t_X12_isFact_174 C.h1 C.h2 t2 v3 d) mw_X12_470 mv_X12_isFact la_174 ly_174 rfl (by decide) (by decide) (by decide) rfl rfl (Nat.le_of_ble_eq_true rfl) (fun r3 d4 => ?_)
          show SS G X 7 _ _ 165 [(6, i9 t2), (0, rf G 174), (1, i9 v1), (2, i9 v2), (3, i9 v3), (4, i9 v4), (5, i9 v5)] [i9 r3, i9 v4, rf G 189] d4 _
          refine r_zast C dX12_isSo_165 la_189 ly_189 (fun d5 => ?_)
          refine r_iinc C 5 [(4, i9 (v4 + 1)), (6, i9 t2), (0, rf G 174), (1, i9 v1), (2, i9 v2), (3, i9 v3), (5, i9 v5)] dX12_isSo_166 rfl (by decide) rfl ?_
          refine r_iinc C 6 [(5, i9 (v5 + 1)), (4, i9 (v4 + 1)), (6, i9 t2), (0, rf G 174), (1, i9 v1), (2, i9 v2), (3, i9 v3)] dX12_isSo_169 rfl (by decide) rfl ?_
          refine r_goto C 6 dX12_isSo_172 (by decide) ?_
          refine ss_wide (k' := 0) (n' := 0) (by decide) (by decide) ?_
          refine ss_ls [(0, rf G 174), (1, i9 v1), (2, i9 v2), (3, i9 v3), (4, i9 (v4 + 1)), (5, i9 (v5 + 1))] [3, 4, 5, 6, 1, 0] rfl ?_
          exact hk_X12_isSo_174_c6 v1 v2 v3 (v4 + 1) (v5 + 1) d5
        · refine ss_wide (k' := 0) (n' := 0) (by decide) (by decide) ?_
          refine ss_ls [(0, rf G 174), (1, i9 v1), (2, i9 v2), (3, i9 v3), (4, i9 v4), (5, i9 v5), (6, i9 t2)] [1, 2, 3, 4, 5, 6, 0] rfl ?_
          exact s_X12_isSo_174_c73 C k_X12_isSo_174_c6 hk_X12_isSo_174_c6 v1 v2 v3 v4 v5 t2 d
    · refine r_aload_n C 1 dX12_isSo_30 rfl rfl ?_
      refine r_getR C 189 dX12_isSo_31 fl_X12_58 la_174 ly_174 rfl rfl ?_
      refine r_iload C 5 dX12_isSo_34 rfl ?_
      refine r_iconst C dX12_isSo_36 ?_
      refine r_isub C dX12_isSo_37 ?_
      refine r_aload_n C 1 dX12_isSo_38 rfl rfl ?_
      refine r_getR C 189 dX12_isSo_39 fl_X12_58 la_174 ly_174 rfl rfl ?_
      refine r_iload C 5 dX12_isSo_42 rfl ?_
      refine r_iconst C dX12_isSo_44 ?_
      refine r_isub C dX12_isSo_45 ?_
      refine r_zald C dX12_isSo_46 la_189 ly_189 (fun t6 => ?_)
      refine r_if_ne C (b := 0) 54 dX12_isSo_47 (by decide) (fun _ => ?_) (fun _ => ?_)
      · refine r_iconst C dX12_isSo_54 ?_
        refine r_zast C dX12_isSo_55 la_189 ly_189 (fun d7 => ?_)
        refine r_goto C 169 dX12_isSo_56 (by decide) ?_
        refine r_iinc C 6 [(5, i9 (v5 + 1)), (6, i9 t2), (0, rf G 174), (1, i9 v1), (2, i9 v2), (3, i9 v3), (4, i9 v4)] dX12_isSo_169 rfl (by decide) rfl ?_
        refine r_goto C 6 dX12_isSo_172 (by decide) ?_
        refine ss_wide (k' := 0) (n' := 0) (by decide) (by decide) ?_
        refine ss_ls [(0, rf G 174), (1, i9 v1), (2, i9 v2), (3, i9 v3), (4, i9 v4), (5, i9 (v5 + 1))] [2, 3, 4, 5, 6, 0] rfl ?_
        exact hk_X12_isSo_174_c6 v1 v2 v3 v4 (v5 + 1) d7
      · refine r_iconst C dX12_isSo_50 ?_
        refine r_goto C 55 dX12_isSo_51 (by decide) ?_
        refine r_zast C dX12_isSo_55 la_189 ly_189 (fun d8 => ?_)
        refine r_goto C 169 dX12_isSo_56 (by decide) ?_
        refine r_iinc C 6 [(5, i9 (v5 + 1)), (6, i9 t2), (0, rf G 174), (1, i9 v1), (2, i9 v2), (3, i9 v3), (4, i9 v4)] dX12_isSo_169 rfl (by decide) rfl ?_
        refine r_goto C 6 dX12_isSo_172 (by decide) ?_
        refine ss_wide (k' := 0) (n' := 0) (by decide) (by decide) ?_
        refine ss_ls [(0, rf G 174), (1, i9 v1), (2, i9 v2), (3, i9 v3), (4, i9 v4), (5, i9 (v5 + 1))] [2, 3, 4, 5, 6, 0] rfl ?_
        exact hk_X12_isSo_174_c6 v1 v2 v3 v4 (v5 + 1) d8
theorem s_X12_isSo_174_c6 {G : G9} {X : X9} (C : CX G X cX12_isSo 7 RX12 [] z_X12_isSo_174) : ∀ (v1 v2 v3 v4 v5 : Int) (d : D9), SS G X 7 0 0 6 [(0, rf G 174), (1, i9 v1), (2, i9 v2), (3, i9 v3), (4, i9 v4), (5, i9 v5)] [] d (m_X12_isSo_174_c6  v1 v2 v3 v4 v5 d) :=
  fix9_ind (P := fun k => ∀ (v1 v2 v3 v4 v5 : Int) (d : D9), SS G X 7 0 0 6 [(0, rf G 174), (1, i9 v1), (2, i9 v2), (3, i9 v3), (4, i9 v4), (5, i9 v5)] [] d (k v1 v2 v3 v4 v5 d)) (fun _ _ _ _ _ _ => ss_none) (fun k hk => sb_X12_isSo_174_c6 C k hk) FU
set_option maxRecDepth 100000 in
theorem t_X12_isSo_174 {G : G9} {l : Launch} (h1 : va_D (A9 G) (wl G (fun _ _ => 0))) (h2 : l.stackTraces = false) (p1 p2 p3 : Int) (d : D9) : MT G l yX12_isSo cX12_isSo 7 z_X12_isSo_174 [rf G 174, i9 p1, i9 p2, i9 p3] d (m_X12_isSo_174 p1 p2 p3 d) := by
  refine mt_of (own := RX12) (by decide) rfl (Nat.le_of_ble_eq_true rfl) h1 h2 [(0, rf G 174), (1, i9 p1), (2, i9 p2), (3, i9 p3)] rfl (fun X hX C => ?_)
  unfold m_X12_isSo_174
  refine r_iconst C dX12_isSo_0 ?_
  refine r_istore C [(4, i9 0), (0, rf G 174), (1, i9 p1), (2, i9 p2), (3, i9 p3)] dX12_isSo_1 (by decide) rfl ?_
  refine r_iload_n C 2 dX12_isSo_3 rfl rfl ?_
  refine r_istore C [(5, i9 p1), (4, i9 0), (0, rf G 174), (1, i9 p1), (2, i9 p2), (3, i9 p3)] dX12_isSo_4 (by decide) rfl ?_
  refine ss_wide (k' := 0) (n' := 0) (by decide) (by decide) ?_
  refine ss_ls [(0, rf G 174), (1, i9 p1), (2, i9 p2), (3, i9 p3), (4, i9 0), (5, i9 p1)] [2, 3, 4, 5, 1, 0] rfl ?_
  exact s_X12_isSo_174_c6 C  p1 p2 p3 0 p1 d
theorem dX12_nextBy_0 : decode cX12_nextBy 0 = .ok (.sipush 1145, 3) := by decide +kernel
theorem dX12_nextBy_3 : decode cX12_nextBy 3 = .ok (.istore_n 2, 1) := by decide +kernel
theorem dX12_nextBy_4 : decode cX12_nextBy 4 = .ok (.iconst 0, 1) := by decide +kernel
theorem dX12_nextBy_5 : decode cX12_nextBy 5 = .ok (.istore_n 3, 1) := by decide +kernel
theorem dX12_nextBy_6 : decode cX12_nextBy 6 = .ok (.iload_n 3, 1) := by decide +kernel
theorem dX12_nextBy_7 : decode cX12_nextBy 7 = .ok (.aload_n 0, 1) := by decide +kernel
theorem dX12_nextBy_8 : decode cX12_nextBy 8 = .ok (.getfield 9, 3) := by decide +kernel
theorem dX12_nextBy_11 : decode cX12_nextBy 11 = .ok (.sipush 1144, 3) := by decide +kernel
theorem dX12_nextBy_14 : decode cX12_nextBy 14 = .ok (.iaload, 1) := by decide +kernel
theorem dX12_nextBy_15 : decode cX12_nextBy 15 = .ok (.if_icmp .ge 151, 3) := by decide +kernel
theorem dX12_nextBy_18 : decode cX12_nextBy 18 = .ok (.iconst (-1), 1) := by decide +kernel
theorem dX12_nextBy_19 : decode cX12_nextBy 19 = .ok (.istore 4, 2) := by decide +kernel
theorem dX12_nextBy_21 : decode cX12_nextBy 21 = .ok (.iconst 0, 1) := by decide +kernel
theorem dX12_nextBy_22 : decode cX12_nextBy 22 = .ok (.istore 5, 2) := by decide +kernel
theorem dX12_nextBy_24 : decode cX12_nextBy 24 = .ok (.iload 5, 2) := by decide +kernel
theorem dX12_nextBy_26 : decode cX12_nextBy 26 = .ok (.aload_n 0, 1) := by decide +kernel
theorem dX12_nextBy_27 : decode cX12_nextBy 27 = .ok (.getfield 9, 3) := by decide +kernel
theorem dX12_nextBy_30 : decode cX12_nextBy 30 = .ok (.iconst 1, 1) := by decide +kernel
theorem dX12_nextBy_31 : decode cX12_nextBy 31 = .ok (.iaload, 1) := by decide +kernel
theorem dX12_nextBy_32 : decode cX12_nextBy 32 = .ok (.if_icmp .ge 106, 3) := by decide +kernel
theorem dX12_nextBy_35 : decode cX12_nextBy 35 = .ok (.aload_n 0, 1) := by decide +kernel
theorem dX12_nextBy_36 : decode cX12_nextBy 36 = .ok (.getfield 55, 3) := by decide +kernel
theorem dX12_nextBy_39 : decode cX12_nextBy 39 = .ok (.iload 5, 2) := by decide +kernel
theorem dX12_nextBy_41 : decode cX12_nextBy 41 = .ok (.baload, 1) := by decide +kernel
theorem dX12_nextBy_42 : decode cX12_nextBy 42 = .ok (.ifCond .ne 90, 3) := by decide +kernel
theorem dX12_nextBy_45 : decode cX12_nextBy 45 = .ok (.aload_n 0, 1) := by decide +kernel
theorem dX12_nextBy_46 : decode cX12_nextBy 46 = .ok (.iload 5, 2) := by decide +kernel
theorem dX12_nextBy_48 : decode cX12_nextBy 48 = .ok (.iconst 4, 1) := by decide +kernel
theorem dX12_nextBy_49 : decode cX12_nextBy 49 = .ok (.invokevirtual 124, 3) := by decide +kernel
theorem dX12_nextBy_52 : decode cX12_nextBy 52 = .ok (.ifCond .gt 80, 3) := by decide +kernel
theorem dX12_nextBy_55 : decode cX12_nextBy 55 = .ok (.aload_n 0, 1) := by decide +kernel
theorem dX12_nextBy_56 : decode cX12_nextBy 56 = .ok (.iload 5, 2) := by decide +kernel
theorem dX12_nextBy_58 : decode cX12_nextBy 58 = .ok (.iconst 1, 1) := by decide +kernel
theorem dX12_nextBy_59 : decode cX12_nextBy 59 = .ok (.invokevirtual 124, 3) := by decide +kernel
theorem dX12_nextBy_62 : decode cX12_nextBy 62 = .ok (.aload_n 0, 1) := by decide +kernel
theorem dX12_nextBy_63 : decode cX12_nextBy 63 = .ok (.getfield 9, 3) := by decide +kernel
theorem dX12_nextBy_66 : decode cX12_nextBy 66 = .ok (.iload_n 2, 1) := by decide +kernel
theorem dX12_nextBy_67 : decode cX12_nextBy 67 = .ok (.iaload, 1) := by decide +kernel
theorem dX12_nextBy_68 : decode cX12_nextBy 68 = .ok (.if_icmp .ne 64, 3) := by decide +kernel
theorem dX12_nextBy_71 : decode cX12_nextBy 71 = .ok (.aload_n 0, 1) := by decide +kernel
theorem dX12_nextBy_72 : decode cX12_nextBy 72 = .ok (.iload 5, 2) := by decide +kernel
theorem dX12_nextBy_74 : decode cX12_nextBy 74 = .ok (.iconst 3, 1) := by decide +kernel
theorem dX12_nextBy_75 : decode cX12_nextBy 75 = .ok (.invokevirtual 124, 3) := by decide +kernel
theorem dX12_nextBy_78 : decode cX12_nextBy 78 = .ok (.iload_n 1, 1) := by decide +kernel
theorem dX12_nextBy_79 : decode cX12_nextBy 79 = .ok (.if_icmp .gt 53, 3) := by decide +kernel
theorem dX12_nextBy_82 : decode cX12_nextBy 82 = .ok (.aload_n 0, 1) := by decide +kernel
theorem dX12_nextBy_83 : decode cX12_nextBy 83 = .ok (.iload_n 2, 1) := by decide +kernel
theorem dX12_nextBy_84 : decode cX12_nextBy 84 = .ok (.iconst 2, 1) := by decide +kernel
theorem dX12_nextBy_85 : decode cX12_nextBy 85 = .ok (.iadd, 1) := by decide +kernel
theorem dX12_nextBy_86 : decode cX12_nextBy 86 = .ok (.aload_n 0, 1) := by decide +kernel
theorem dX12_nextBy_87 : decode cX12_nextBy 87 = .ok (.getfield 9, 3) := by decide +kernel
theorem dX12_nextBy_90 : decode cX12_nextBy 90 = .ok (.iload_n 2, 1) := by decide +kernel
theorem dX12_nextBy_91 : decode cX12_nextBy 91 = .ok (.iconst 1, 1) := by decide +kernel
theorem dX12_nextBy_92 : decode cX12_nextBy 92 = .ok (.iadd, 1) := by decide +kernel
theorem dX12_nextBy_93 : decode cX12_nextBy 93 = .ok (.iaload, 1) := by decide +kernel
theorem dX12_nextBy_94 : decode cX12_nextBy 94 = .ok (.iload 5, 2) := by decide +kernel
theorem dX12_nextBy_96 : decode cX12_nextBy 96 = .ok (.invokevirtual 473, 3) := by decide +kernel
theorem dX12_nextBy_99 : decode cX12_nextBy 99 = .ok (.ifCond .ne 6, 3) := by decide +kernel
theorem dX12_nextBy_102 : decode cX12_nextBy 102 = .ok (.goto 30, 3) := by decide +kernel
theorem dX12_nextBy_105 : decode cX12_nextBy 105 = .ok (.iload 4, 2) := by decide +kernel
theorem dX12_nextBy_107 : decode cX12_nextBy 107 = .ok (.iconst (-1), 1) := by decide +kernel
theorem dX12_nextBy_108 : decode cX12_nextBy 108 = .ok (.if_icmp .eq 20, 3) := by decide +kernel
theorem dX12_nextBy_111 : decode cX12_nextBy 111 = .ok (.aload_n 0, 1) := by decide +kernel
theorem dX12_nextBy_112 : decode cX12_nextBy 112 = .ok (.iload 5, 2) := by decide +kernel
theorem dX12_nextBy_114 : decode cX12_nextBy 114 = .ok (.iconst 3, 1) := by decide +kernel
theorem dX12_nextBy_115 : decode cX12_nextBy 115 = .ok (.invokevirtual 124, 3) := by decide +kernel
theorem dX12_nextBy_118 : decode cX12_nextBy 118 = .ok (.aload_n 0, 1) := by decide +kernel
theorem dX12_nextBy_119 : decode cX12_nextBy 119 = .ok (.iload 4, 2) := by decide +kernel
theorem dX12_nextBy_121 : decode cX12_nextBy 121 = .ok (.iconst 3, 1) := by decide +kernel
theorem dX12_nextBy_122 : decode cX12_nextBy 122 = .ok (.invokevirtual 124, 3) := by decide +kernel
theorem dX12_nextBy_125 : decode cX12_nextBy 125 = .ok (.if_icmp .ge 7, 3) := by decide +kernel
theorem dX12_nextBy_128 : decode cX12_nextBy 128 = .ok (.iload 5, 2) := by decide +kernel
theorem dX12_nextBy_130 : decode cX12_nextBy 130 = .ok (.istore 4, 2) := by decide +kernel
theorem dX12_nextBy_132 : decode cX12_nextBy 132 = .ok (.iinc 5 1, 3) := by decide +kernel
theorem dX12_nextBy_135 : decode cX12_nextBy 135 = .ok (.goto (-111), 3) := by decide +kernel
theorem dX12_nextBy_138 : decode cX12_nextBy 138 = .ok (.iload 4, 2) := by decide +kernel
theorem dX12_nextBy_140 : decode cX12_nextBy 140 = .ok (.iconst (-1), 1) := by decide +kernel
theorem dX12_nextBy_141 : decode cX12_nextBy 141 = .ok (.if_icmp .eq 6, 3) := by decide +kernel
theorem dX12_nextBy_144 : decode cX12_nextBy 144 = .ok (.iload 4, 2) := by decide +kernel
theorem dX12_nextBy_146 : decode cX12_nextBy 146 = .ok (.ireturn, 1) := by decide +kernel
theorem dX12_nextBy_147 : decode cX12_nextBy 147 = .ok (.iload_n 2, 1) := by decide +kernel
theorem dX12_nextBy_148 : decode cX12_nextBy 148 = .ok (.iconst 2, 1) := by decide +kernel
theorem dX12_nextBy_149 : decode cX12_nextBy 149 = .ok (.aload_n 0, 1) := by decide +kernel
theorem dX12_nextBy_150 : decode cX12_nextBy 150 = .ok (.getfield 9, 3) := by decide +kernel
theorem dX12_nextBy_153 : decode cX12_nextBy 153 = .ok (.iload_n 2, 1) := by decide +kernel
theorem dX12_nextBy_154 : decode cX12_nextBy 154 = .ok (.iconst 1, 1) := by decide +kernel
theorem dX12_nextBy_155 : decode cX12_nextBy 155 = .ok (.iadd, 1) := by decide +kernel
theorem dX12_nextBy_156 : decode cX12_nextBy 156 = .ok (.iaload, 1) := by decide +kernel
theorem dX12_nextBy_157 : decode cX12_nextBy 157 = .ok (.iadd, 1) := by decide +kernel
theorem dX12_nextBy_158 : decode cX12_nextBy 158 = .ok (.iadd, 1) := by decide +kernel
theorem dX12_nextBy_159 : decode cX12_nextBy 159 = .ok (.istore_n 2, 1) := by decide +kernel
theorem dX12_nextBy_160 : decode cX12_nextBy 160 = .ok (.iinc 3 1, 3) := by decide +kernel
theorem dX12_nextBy_163 : decode cX12_nextBy 163 = .ok (.goto (-157), 3) := by decide +kernel
theorem dX12_nextBy_166 : decode cX12_nextBy 166 = .ok (.iconst (-1), 1) := by decide +kernel
theorem dX12_nextBy_167 : decode cX12_nextBy 167 = .ok (.ireturn, 1) := by decide +kernel
abbrev z_X12_nextBy_174 : Z9 := (some .int, 1, 0, 0, 12, 301)
def b_X12_nextBy_174_c24 (k_X12_nextBy_174_c6 : Int → Int → Int → D9 → Option R9) (k_X12_nextBy_174_c24 : Int → Int → Int → Int → Int → D9 → Option R9) (v1 v2 v3 v4 v5 : Int) (d : D9) : Option R9 := ld d 175 1604 1 (fun t1 => if w32 t1 ≤ w32 v5 then if w32 v4 = w32 (-1) then ld d 175 1604 (v2 + 1) (fun t2 => lt9v (v2 + (2 + t2)) (fun a3 => k_X12_nextBy_174_c6 v1 a3 (v3 + 1) d)) else rt v4 d else ld d 188 30 v5 (fun t4 => if w32 t4 ≠ 0 then k_X12_nextBy_174_c24 v1 v2 v3 v4 (v5 + 1) d else cl (m_X12_ofSkin_174 v5 4 d) (fun r5 d6 => if 0 < w32 r5 then k_X12_nextBy_174_c24 v1 v2 v3 v4 (v5 + 1) d6 else cl (m_X12_ofSkin_174 v5 1 d6) (fun r7 d8 => ld d8 175 1604 v2 (fun t9 => if w32 r7 ≠ w32 t9 then k_X12_nextBy_174_c24 v1 v2 v3 v4 (v5 + 1) d8 else cl (m_X12_ofSkin_174 v5 3 d8) (fun r10 d11 => if w32 v1 < w32 r10 then k_X12_nextBy_174_c24 v1 v2 v3 v4 (v5 + 1) d11 else ld d11 175 1604 (v2 + 1) (fun t12 => cl (m_X12_isSo_174 (v2 + 2) t12 v5 d11) (fun r13 d14 => if w32 r13 ≠ 0 then if w32 v4 = w32 (-1) then k_X12_nextBy_174_c24 v1 v2 v3 v5 (v5 + 1) d14 else cl (m_X12_ofSkin_174 v5 3 d14) (fun r15 d16 => cl (m_X12_ofSkin_174 v4 3 d16) (fun r17 d18 => if w32 r17 ≤ w32 r15 then k_X12_nextBy_174_c24 v1 v2 v3 v4 (v5 + 1) d18 else k_X12_nextBy_174_c24 v1 v2 v3 v5 (v5 + 1) d18)) else k_X12_nextBy_174_c24 v1 v2 v3 v4 (v5 + 1) d14))))))))
def m_X12_nextBy_174_c24 (k_X12_nextBy_174_c6 : Int → Int → Int → D9 → Option R9) : Int → Int → Int → Int → Int → D9 → Option R9 := fix9 (fun _ _ _ _ _ _ => none) (fun k => b_X12_nextBy_174_c24 k_X12_nextBy_174_c6 k) FU
def b_X12_nextBy_174_c6 (k_X12_nextBy_174_c6 : Int → Int → Int → D9 → Option R9) (v1 v2 v3 : Int) (d : D9) : Option R9 := ld d 175 1604 1144 (fun t1 => if w32 t1 ≤ w32 v3 then rt (-1) d else m_X12_nextBy_174_c24 k_X12_nextBy_174_c6 v1 v2 v3 (-1) 0 d)
def m_X12_nextBy_174_c6 : Int → Int → Int → D9 → Option R9 := fix9 (fun _ _ _ _ => none) (fun k => b_X12_nextBy_174_c6 k) FU
def m_X12_nextBy_174 (p1 : Int) (d : D9) : Option R9 := m_X12_nextBy_174_c6  p1 1145 0 d
set_option maxRecDepth 100000 in
theorem sb_X12_nextBy_174_c24 {G : G9} {X : X9} (C : CX G X cX12_nextBy 6 RX12 [] z_X12_nextBy_174) (k_X12_nextBy_174_c6 : Int → Int → Int → D9 → Option R9) (hk_X12_nextBy_174_c6 : ∀ (v1 v2 v3 : Int) (d : D9), SS G X 6 0 0 6 [(0, rf G 174), (1, i9 v1), (2, i9 v2), (3, i9 v3)] [] d (k_X12_nextBy_174_c6 v1 v2 v3 d)) (k_X12_nextBy_174_c24 : Int → Int → Int → Int → Int → D9 → Option R9) (hk_X12_nextBy_174_c24 : ∀ (v1 v2 v3 v4 v5 : Int) (d : D9), SS G X 6 0 0 24 [(0, rf G 174), (1, i9 v1), (2, i9 v2), (3, i9 v3), (4, i9 v4), (5, i9 v5)] [] d (k_X12_nextBy_174_c24 v1 v2 v3 v4 v5 d)) : ∀ (v1 v2 v3 v4 v5 : Int) (d : D9), SS G X 6 0 0 24 [(0, rf G 174), (1, i9 v1), (2, i9 v2), (3, i9 v3), (4, i9 v4), (5, i9 v5)] [] d (b_X12_nextBy_174_c24 k_X12_nextBy_174_c6 k_X12_nextBy_174_c24 v1 v2 v3 v4 v5 d) := by
  intro v1 v2 v3 v4 v5 d
  unfold b_X12_nextBy_174_c24
  refine r_iload C 5 dX12_nextBy_24 rfl ?_
  refine r_aload_n C 0 dX12_nextBy_26 rfl rfl ?_
  refine r_getR C 175 dX12_nextBy_27 fl_X12_9 la_174 ly_174 rfl rfl ?_
  refine r_iconst C dX12_nextBy_30 ?_
  refine r_iald C dX12_nextBy_31 la_175 ly_175 (fun t1 => ?_)
  refine r_icmp_ge C 138 dX12_nextBy_32 (by decide) (fun _ => ?_) (fun _ => ?_)
  · refine r_iload C 4 dX12_nextBy_138 rfl ?_
    refine r_iconst C dX12_nextBy_140 ?_
    refine r_icmp_eq C 147 dX12_nextBy_141 (by decide) (fun _ => ?_) (fun _ => ?_)
    · refine r_iload_n C 2 dX12_nextBy_147 rfl rfl ?_
      refine r_iconst C dX12_nextBy_148 ?_
      refine r_aload_n C 0 dX12_nextBy_149 rfl rfl ?_
      refine r_getR C 175 dX12_nextBy_150 fl_X12_9 la_174 ly_174 rfl rfl ?_
      refine r_iload_n C 2 dX12_nextBy_153 rfl rfl ?_
      refine r_iconst C dX12_nextBy_154 ?_
      refine r_iadd C dX12_nextBy_155 ?_
      refine r_iald C dX12_nextBy_156 la_175 ly_175 (fun t2 => ?_)
      refine r_iadd C dX12_nextBy_157 ?_
      refine r_iadd C dX12_nextBy_158 ?_
      refine ss_lt (fun a3 => ?_)
      refine r_istore_n C [(2, i9 a3), (0, rf G 174), (1, i9 v1), (3, i9 v3), (4, i9 v4), (5, i9 v5)] dX12_nextBy_159 rfl (by decide) rfl ?_
      refine r_iinc C 3 [(3, i9 (v3 + 1)), (2, i9 a3), (0, rf G 174), (1, i9 v1), (4, i9 v4), (5, i9 v5)] dX12_nextBy_160 rfl (by decide) rfl ?_
      refine r_goto C 6 dX12_nextBy_163 (by decide) ?_
      refine ss_wide (k' := 0) (n' := 0) (by decide) (by decide) ?_
      refine ss_ls [(0, rf G 174), (1, i9 v1), (2, i9 a3), (3, i9 (v3 + 1))] [2, 3, 1, 0] rfl ?_
      exact hk_X12_nextBy_174_c6 v1 a3 (v3 + 1) d
    · refine r_iload C 4 dX12_nextBy_144 rfl ?_
      exact r_iret C dX12_nextBy_146 (by decide) (by decide)
  · refine r_aload_n C 0 dX12_nextBy_35 rfl rfl ?_
    refine r_getR C 188 dX12_nextBy_36 fl_X12_55 la_174 ly_174 rfl rfl ?_
    refine r_iload C 5 dX12_nextBy_39 rfl ?_
    refine r_zald C dX12_nextBy_41 la_188 ly_188 (fun t4 => ?_)
    refine r_if_ne C (b := 0) 132 dX12_nextBy_42 (by decide) (fun _ => ?_) (fun _ => ?_)
    · refine r_iinc C 5 [(5, i9 (v5 + 1)), (0, rf G 174), (1, i9 v1), (2, i9 v2), (3, i9 v3), (4, i9 v4)] dX12_nextBy_132 rfl (by decide) rfl ?_
      refine r_goto C 24 dX12_nextBy_135 (by decide) ?_
      refine ss_wide (k' := 0) (n' := 0) (by decide) (by decide) ?_
      refine ss_ls [(0, rf G 174), (1, i9 v1), (2, i9 v2), (3, i9 v3), (4, i9 v4), (5, i9 (v5 + 1))] [1, 2, 3, 4, 5, 0] rfl ?_
      exact hk_X12_nextBy_174_c24 v1 v2 v3 v4 (v5 + 1) d
    · refine r_aload_n C 0 dX12_nextBy_45 rfl rfl ?_
      refine r_iload C 5 dX12_nextBy_46 rfl ?_
      refine r_iconst C dX12_nextBy_48 ?_
      refine r_callV C [i9 4, i9 v5, rf G 174] dX12_nextBy_49 (t_X12_ofSkin_174 C.h1 C.h2 v5 4 d) mw_X12_124 mv_X12_ofSkin la_174 ly_174 rfl (by decide) (by decide) (by decide) rfl rfl (Nat.le_of_ble_eq_true rfl) (fun r5 d6 => ?_)
      show SS G X 6 _ _ 52 [(0, rf G 174), (1, i9 v1), (2, i9 v2), (3, i9 v3), (4, i9 v4), (5, i9 v5)] [i9 r5] d6 _
      refine r_if_gt C (b := 0) 132 dX12_nextBy_52 (by decide) (fun _ => ?_) (fun _ => ?_)
      · refine r_iinc C 5 [(5, i9 (v5 + 1)), (0, rf G 174), (1, i9 v1), (2, i9 v2), (3, i9 v3), (4, i9 v4)] dX12_nextBy_132 rfl (by decide) rfl ?_
        refine r_goto C 24 dX12_nextBy_135 (by decide) ?_
        refine ss_wide (k' := 0) (n' := 0) (by decide) (by decide) ?_
        refine ss_ls [(0, rf G 174), (1, i9 v1), (2, i9 v2), (3, i9 v3), (4, i9 v4), (5, i9 (v5 + 1))] [1, 2, 3, 4, 5, 0] rfl ?_
        exact hk_X12_nextBy_174_c24 v1 v2 v3 v4 (v5 + 1) d6
      · refine r_aload_n C 0 dX12_nextBy_55 rfl rfl ?_
        refine r_iload C 5 dX12_nextBy_56 rfl ?_
        refine r_iconst C dX12_nextBy_58 ?_
        refine r_callV C [i9 1, i9 v5, rf G 174] dX12_nextBy_59 (t_X12_ofSkin_174 C.h1 C.h2 v5 1 d6) mw_X12_124 mv_X12_ofSkin la_174 ly_174 rfl (by decide) (by decide) (by decide) rfl rfl (Nat.le_of_ble_eq_true rfl) (fun r7 d8 => ?_)
        show SS G X 6 _ _ 62 [(0, rf G 174), (1, i9 v1), (2, i9 v2), (3, i9 v3), (4, i9 v4), (5, i9 v5)] [i9 r7] d8 _
        refine r_aload_n C 0 dX12_nextBy_62 rfl rfl ?_
        refine r_getR C 175 dX12_nextBy_63 fl_X12_9 la_174 ly_174 rfl rfl ?_
        refine r_iload_n C 2 dX12_nextBy_66 rfl rfl ?_
        refine r_iald C dX12_nextBy_67 la_175 ly_175 (fun t9 => ?_)
        refine r_icmp_ne C 132 dX12_nextBy_68 (by decide) (fun _ => ?_) (fun _ => ?_)
        · refine r_iinc C 5 [(5, i9 (v5 + 1)), (0, rf G 174), (1, i9 v1), (2, i9 v2), (3, i9 v3), (4, i9 v4)] dX12_nextBy_132 rfl (by decide) rfl ?_
          refine r_goto C 24 dX12_nextBy_135 (by decide) ?_
          refine ss_wide (k' := 0) (n' := 0) (by decide) (by decide) ?_
          refine ss_ls [(0, rf G 174), (1, i9 v1), (2, i9 v2), (3, i9 v3), (4, i9 v4), (5, i9 (v5 + 1))] [1, 2, 3, 4, 5, 0] rfl ?_
          exact hk_X12_nextBy_174_c24 v1 v2 v3 v4 (v5 + 1) d8
        · refine r_aload_n C 0 dX12_nextBy_71 rfl rfl ?_
          refine r_iload C 5 dX12_nextBy_72 rfl ?_
          refine r_iconst C dX12_nextBy_74 ?_
          refine r_callV C [i9 3, i9 v5, rf G 174] dX12_nextBy_75 (t_X12_ofSkin_174 C.h1 C.h2 v5 3 d8) mw_X12_124 mv_X12_ofSkin la_174 ly_174 rfl (by decide) (by decide) (by decide) rfl rfl (Nat.le_of_ble_eq_true rfl) (fun r10 d11 => ?_)
          show SS G X 6 _ _ 78 [(0, rf G 174), (1, i9 v1), (2, i9 v2), (3, i9 v3), (4, i9 v4), (5, i9 v5)] [i9 r10] d11 _
          refine r_iload_n C 1 dX12_nextBy_78 rfl rfl ?_
          refine r_icmp_gt C 132 dX12_nextBy_79 (by decide) (fun _ => ?_) (fun _ => ?_)
          · refine r_iinc C 5 [(5, i9 (v5 + 1)), (0, rf G 174), (1, i9 v1), (2, i9 v2), (3, i9 v3), (4, i9 v4)] dX12_nextBy_132 rfl (by decide) rfl ?_
            refine r_goto C 24 dX12_nextBy_135 (by decide) ?_
            refine ss_wide (k' := 0) (n' := 0) (by decide) (by decide) ?_
            refine ss_ls [(0, rf G 174), (1, i9 v1), (2, i9 v2), (3, i9 v3), (4, i9 v4), (5, i9 (v5 + 1))] [1, 2, 3, 4, 5, 0] rfl ?_
            exact hk_X12_nextBy_174_c24 v1 v2 v3 v4 (v5 + 1) d11
          · refine r_aload_n C 0 dX12_nextBy_82 rfl rfl ?_
            refine r_iload_n C 2 dX12_nextBy_83 rfl rfl ?_
            refine r_iconst C dX12_nextBy_84 ?_
            refine r_iadd C dX12_nextBy_85 ?_
            refine r_aload_n C 0 dX12_nextBy_86 rfl rfl ?_
            refine r_getR C 175 dX12_nextBy_87 fl_X12_9 la_174 ly_174 rfl rfl ?_
            refine r_iload_n C 2 dX12_nextBy_90 rfl rfl ?_
            refine r_iconst C dX12_nextBy_91 ?_
            refine r_iadd C dX12_nextBy_92 ?_
            refine r_iald C dX12_nextBy_93 la_175 ly_175 (fun t12 => ?_)
            refine r_iload C 5 dX12_nextBy_94 rfl ?_
            refine r_callV C [i9 v5, i9 t12, i9 (v2 + 2), rf G 174] dX12_nextBy_96 (t_X12_isSo_174 C.h1 C.h2 (v2 + 2) t12 v5 d11) mw_X12_473 mv_X12_isSo la_174 ly_174 rfl (by decide) (by decide) (by decide) rfl rfl (Nat.le_of_ble_eq_true rfl) (fun r13 d14 => ?_)
            show SS G X 6 _ _ 99 [(0, rf G 174), (1, i9 v1), (2, i9 v2), (3, i9 v3), (4, i9 v4), (5, i9 v5)] [i9 r13] d14 _
            refine r_if_ne C (b := 0) 105 dX12_nextBy_99 (by decide) (fun _ => ?_) (fun _ => ?_)
            · refine r_iload C 4 dX12_nextBy_105 rfl ?_
              refine r_iconst C dX12_nextBy_107 ?_
              refine r_icmp_eq C 128 dX12_nextBy_108 (by decide) (fun _ => ?_) (fun _ => ?_)
              · refine r_iload C 5 dX12_nextBy_128 rfl ?_
                refine r_istore C [(4, i9 v5), (0, rf G 174), (1, i9 v1), (2, i9 v2), (3, i9 v3), (5, i9 v5)] dX12_nextBy_130 (by decide) rfl ?_
                refine r_iinc C 5 [(5, i9 (v5 + 1)), (4, i9 v5), (0, rf G 174), (1, i9 v1), (2, i9 v2), (3, i9 v3)] dX12_nextBy_132 rfl (by decide) rfl ?_
                refine r_goto C 24 dX12_nextBy_135 (by decide) ?_
                refine ss_wide (k' := 0) (n' := 0) (by decide) (by decide) ?_
                refine ss_ls [(0, rf G 174), (1, i9 v1), (2, i9 v2), (3, i9 v3), (4, i9 v5), (5, i9 (v5 + 1))] [2, 3, 4, 5, 1, 0] rfl ?_
                exact hk_X12_nextBy_174_c24 v1 v2 v3 v5 (v5 + 1) d14
              · refine r_aload_n C 0 dX12_nextBy_111 rfl rfl ?_
                refine r_iload C 5 dX12_nextBy_112 rfl ?_
                refine r_iconst C dX12_nextBy_114 ?_
                refine r_callV C [i9 3, i9 v5, rf G 174] dX12_nextBy_115 (t_X12_ofSkin_174 C.h1 C.h2 v5 3 d14) mw_X12_124 mv_X12_ofSkin la_174 ly_174 rfl (by decide) (by decide) (by decide) rfl rfl (Nat.le_of_ble_eq_true rfl) (fun r15 d16 => ?_)
                show SS G X 6 _ _ 118 [(0, rf G 174), (1, i9 v1), (2, i9 v2), (3, i9 v3), (4, i9 v4), (5, i9 v5)] [i9 r15] d16 _
                refine r_aload_n C 0 dX12_nextBy_118 rfl rfl ?_
                refine r_iload C 4 dX12_nextBy_119 rfl ?_
                refine r_iconst C dX12_nextBy_121 ?_
                refine r_callV C [i9 3, i9 v4, rf G 174, i9 r15] dX12_nextBy_122 (t_X12_ofSkin_174 C.h1 C.h2 v4 3 d16) mw_X12_124 mv_X12_ofSkin la_174 ly_174 rfl (by decide) (by decide) (by decide) rfl rfl (Nat.le_of_ble_eq_true rfl) (fun r17 d18 => ?_)
                show SS G X 6 _ _ 125 [(0, rf G 174), (1, i9 v1), (2, i9 v2), (3, i9 v3), (4, i9 v4), (5, i9 v5)] [i9 r17, i9 r15] d18 _
                refine r_icmp_ge C 132 dX12_nextBy_125 (by decide) (fun _ => ?_) (fun _ => ?_)
                · refine r_iinc C 5 [(5, i9 (v5 + 1)), (0, rf G 174), (1, i9 v1), (2, i9 v2), (3, i9 v3), (4, i9 v4)] dX12_nextBy_132 rfl (by decide) rfl ?_
                  refine r_goto C 24 dX12_nextBy_135 (by decide) ?_
                  refine ss_wide (k' := 0) (n' := 0) (by decide) (by decide) ?_
                  refine ss_ls [(0, rf G 174), (1, i9 v1), (2, i9 v2), (3, i9 v3), (4, i9 v4), (5, i9 (v5 + 1))] [1, 2, 3, 4, 5, 0] rfl ?_
                  exact hk_X12_nextBy_174_c24 v1 v2 v3 v4 (v5 + 1) d18
                · refine r_iload C 5 dX12_nextBy_128 rfl ?_
                  refine r_istore C [(4, i9 v5), (0, rf G 174), (1, i9 v1), (2, i9 v2), (3, i9 v3), (5, i9 v5)] dX12_nextBy_130 (by decide) rfl ?_
                  refine r_iinc C 5 [(5, i9 (v5 + 1)), (4, i9 v5), (0, rf G 174), (1, i9 v1), (2, i9 v2), (3, i9 v3)] dX12_nextBy_132 rfl (by decide) rfl ?_
                  refine r_goto C 24 dX12_nextBy_135 (by decide) ?_
                  refine ss_wide (k' := 0) (n' := 0) (by decide) (by decide) ?_
                  refine ss_ls [(0, rf G 174), (1, i9 v1), (2, i9 v2), (3, i9 v3), (4, i9 v5), (5, i9 (v5 + 1))] [2, 3, 4, 5, 1, 0] rfl ?_
                  exact hk_X12_nextBy_174_c24 v1 v2 v3 v5 (v5 + 1) d18
            · refine r_goto C 132 dX12_nextBy_102 (by decide) ?_
              refine r_iinc C 5 [(5, i9 (v5 + 1)), (0, rf G 174), (1, i9 v1), (2, i9 v2), (3, i9 v3), (4, i9 v4)] dX12_nextBy_132 rfl (by decide) rfl ?_
              refine r_goto C 24 dX12_nextBy_135 (by decide) ?_
              refine ss_wide (k' := 0) (n' := 0) (by decide) (by decide) ?_
              refine ss_ls [(0, rf G 174), (1, i9 v1), (2, i9 v2), (3, i9 v3), (4, i9 v4), (5, i9 (v5 + 1))] [1, 2, 3, 4, 5, 0] rfl ?_
              exact hk_X12_nextBy_174_c24 v1 v2 v3 v4 (v5 + 1) d14
theorem s_X12_nextBy_174_c24 {G : G9} {X : X9} (C : CX G X cX12_nextBy 6 RX12 [] z_X12_nextBy_174) (k_X12_nextBy_174_c6 : Int → Int → Int → D9 → Option R9) (hk_X12_nextBy_174_c6 : ∀ (v1 v2 v3 : Int) (d : D9), SS G X 6 0 0 6 [(0, rf G 174), (1, i9 v1), (2, i9 v2), (3, i9 v3)] [] d (k_X12_nextBy_174_c6 v1 v2 v3 d)) : ∀ (v1 v2 v3 v4 v5 : Int) (d : D9), SS G X 6 0 0 24 [(0, rf G 174), (1, i9 v1), (2, i9 v2), (3, i9 v3), (4, i9 v4), (5, i9 v5)] [] d (m_X12_nextBy_174_c24 k_X12_nextBy_174_c6 v1 v2 v3 v4 v5 d) :=
  fix9_ind (P := fun k => ∀ (v1 v2 v3 v4 v5 : Int) (d : D9), SS G X 6 0 0 24 [(0, rf G 174), (1, i9 v1), (2, i9 v2), (3, i9 v3), (4, i9 v4), (5, i9 v5)] [] d (k v1 v2 v3 v4 v5 d)) (fun _ _ _ _ _ _ => ss_none) (fun k hk => sb_X12_nextBy_174_c24 C k_X12_nextBy_174_c6 hk_X12_nextBy_174_c6 k hk) FU
set_option maxRecDepth 100000 in
theorem sb_X12_nextBy_174_c6 {G : G9} {X : X9} (C : CX G X cX12_nextBy 6 RX12 [] z_X12_nextBy_174) (k_X12_nextBy_174_c6 : Int → Int → Int → D9 → Option R9) (hk_X12_nextBy_174_c6 : ∀ (v1 v2 v3 : Int) (d : D9), SS G X 6 0 0 6 [(0, rf G 174), (1, i9 v1), (2, i9 v2), (3, i9 v3)] [] d (k_X12_nextBy_174_c6 v1 v2 v3 d)) : ∀ (v1 v2 v3 : Int) (d : D9), SS G X 6 0 0 6 [(0, rf G 174), (1, i9 v1), (2, i9 v2), (3, i9 v3)] [] d (b_X12_nextBy_174_c6 k_X12_nextBy_174_c6 v1 v2 v3 d) := by
  intro v1 v2 v3 d
  unfold b_X12_nextBy_174_c6
  refine r_iload_n C 3 dX12_nextBy_6 rfl rfl ?_
  refine r_aload_n C 0 dX12_nextBy_7 rfl rfl ?_
  refine r_getR C 175 dX12_nextBy_8 fl_X12_9 la_174 ly_174 rfl rfl ?_
  refine r_sipush C dX12_nextBy_11 rfl ?_
  refine r_iald C dX12_nextBy_14 la_175 ly_175 (fun t1 => ?_)
  refine r_icmp_ge C 166 dX12_nextBy_15 (by decide) (fun _ => ?_) (fun _ => ?_)
  · refine r_iconst C dX12_nextBy_166 ?_
    exact r_iret C dX12_nextBy_167 (by decide) (by decide)
  · refine r_iconst C dX12_nextBy_18 ?_
    refine r_istore C [(4, i9 (-1)), (0, rf G 174), (1, i9 v1), (2, i9 v2), (3, i9 v3)] dX12_nextBy_19 (by decide) rfl ?_
    refine r_iconst C dX12_nextBy_21 ?_
    refine r_istore C [(5, i9 0), (4, i9 (-1)), (0, rf G 174), (1, i9 v1), (2, i9 v2), (3, i9 v3)] dX12_nextBy_22 (by decide) rfl ?_
    refine ss_wide (k' := 0) (n' := 0) (by decide) (by decide) ?_
    refine ss_ls [(0, rf G 174), (1, i9 v1), (2, i9 v2), (3, i9 v3), (4, i9 (-1)), (5, i9 0)] [2, 3, 4, 5, 1, 0] rfl ?_
    exact s_X12_nextBy_174_c24 C k_X12_nextBy_174_c6 hk_X12_nextBy_174_c6 v1 v2 v3 (-1) 0 d
theorem s_X12_nextBy_174_c6 {G : G9} {X : X9} (C : CX G X cX12_nextBy 6 RX12 [] z_X12_nextBy_174) : ∀ (v1 v2 v3 : Int) (d : D9), SS G X 6 0 0 6 [(0, rf G 174), (1, i9 v1), (2, i9 v2), (3, i9 v3)] [] d (m_X12_nextBy_174_c6  v1 v2 v3 d) :=
  fix9_ind (P := fun k => ∀ (v1 v2 v3 : Int) (d : D9), SS G X 6 0 0 6 [(0, rf G 174), (1, i9 v1), (2, i9 v2), (3, i9 v3)] [] d (k v1 v2 v3 d)) (fun _ _ _ _ => ss_none) (fun k hk => sb_X12_nextBy_174_c6 C k hk) FU
set_option maxRecDepth 100000 in
theorem t_X12_nextBy_174 {G : G9} {l : Launch} (h1 : va_D (A9 G) (wl G (fun _ _ => 0))) (h2 : l.stackTraces = false) (p1 : Int) (d : D9) : MT G l yX12_nextBy cX12_nextBy 6 z_X12_nextBy_174 [rf G 174, i9 p1] d (m_X12_nextBy_174 p1 d) := by
  refine mt_of (own := RX12) (by decide) rfl (Nat.le_of_ble_eq_true rfl) h1 h2 [(0, rf G 174), (1, i9 p1)] rfl (fun X hX C => ?_)
  unfold m_X12_nextBy_174
  refine r_sipush C dX12_nextBy_0 rfl ?_
  refine r_istore_n C [(2, i9 1145), (0, rf G 174), (1, i9 p1)] dX12_nextBy_3 rfl (by decide) rfl ?_
  refine r_iconst C dX12_nextBy_4 ?_
  refine r_istore_n C [(3, i9 0), (2, i9 1145), (0, rf G 174), (1, i9 p1)] dX12_nextBy_5 rfl (by decide) rfl ?_
  refine ss_wide (k' := 0) (n' := 0) (by decide) (by decide) ?_
  refine ss_ls [(0, rf G 174), (1, i9 p1), (2, i9 1145), (3, i9 0)] [2, 3, 1, 0] rfl ?_
  exact s_X12_nextBy_174_c6 C  p1 1145 0 d
theorem dX12_layFollowed_0 : decode cX12_layFollowed 0 = .ok (.aload_n 0, 1) := by decide +kernel
theorem dX12_layFollowed_1 : decode cX12_layFollowed 1 = .ok (.invokevirtual 381, 3) := by decide +kernel
theorem dX12_layFollowed_4 : decode cX12_layFollowed 4 = .ok (.iconst 0, 1) := by decide +kernel
theorem dX12_layFollowed_5 : decode cX12_layFollowed 5 = .ok (.istore_n 2, 1) := by decide +kernel
theorem dX12_layFollowed_6 : decode cX12_layFollowed 6 = .ok (.iload_n 2, 1) := by decide +kernel
theorem dX12_layFollowed_7 : decode cX12_layFollowed 7 = .ok (.bipush 30, 2) := by decide +kernel
theorem dX12_layFollowed_9 : decode cX12_layFollowed 9 = .ok (.if_icmp .ge 16, 3) := by decide +kernel
theorem dX12_layFollowed_12 : decode cX12_layFollowed 12 = .ok (.aload_n 0, 1) := by decide +kernel
theorem dX12_layFollowed_13 : decode cX12_layFollowed 13 = .ok (.getfield 55, 3) := by decide +kernel
theorem dX12_layFollowed_16 : decode cX12_layFollowed 16 = .ok (.iload_n 2, 1) := by decide +kernel
theorem dX12_layFollowed_17 : decode cX12_layFollowed 17 = .ok (.iconst 0, 1) := by decide +kernel
theorem dX12_layFollowed_18 : decode cX12_layFollowed 18 = .ok (.bastore, 1) := by decide +kernel
theorem dX12_layFollowed_19 : decode cX12_layFollowed 19 = .ok (.iinc 2 1, 3) := by decide +kernel
theorem dX12_layFollowed_22 : decode cX12_layFollowed 22 = .ok (.goto (-16), 3) := by decide +kernel
theorem dX12_layFollowed_25 : decode cX12_layFollowed 25 = .ok (.aload_n 0, 1) := by decide +kernel
theorem dX12_layFollowed_26 : decode cX12_layFollowed 26 = .ok (.iconst 0, 1) := by decide +kernel
theorem dX12_layFollowed_27 : decode cX12_layFollowed 27 = .ok (.putfield 476, 3) := by decide +kernel
theorem dX12_layFollowed_30 : decode cX12_layFollowed 30 = .ok (.iload_n 1, 1) := by decide +kernel
theorem dX12_layFollowed_31 : decode cX12_layFollowed 31 = .ok (.istore_n 2, 1) := by decide +kernel
theorem dX12_layFollowed_32 : decode cX12_layFollowed 32 = .ok (.aload_n 0, 1) := by decide +kernel
theorem dX12_layFollowed_33 : decode cX12_layFollowed 33 = .ok (.iload_n 2, 1) := by decide +kernel
theorem dX12_layFollowed_34 : decode cX12_layFollowed 34 = .ok (.invokevirtual 479, 3) := by decide +kernel
theorem dX12_layFollowed_37 : decode cX12_layFollowed 37 = .ok (.istore_n 3, 1) := by decide +kernel
theorem dX12_layFollowed_38 : decode cX12_layFollowed 38 = .ok (.iload_n 3, 1) := by decide +kernel
theorem dX12_layFollowed_39 : decode cX12_layFollowed 39 = .ok (.iconst (-1), 1) := by decide +kernel
theorem dX12_layFollowed_40 : decode cX12_layFollowed 40 = .ok (.if_icmp .eq 48, 3) := by decide +kernel
theorem dX12_layFollowed_43 : decode cX12_layFollowed 43 = .ok (.aload_n 0, 1) := by decide +kernel
theorem dX12_layFollowed_44 : decode cX12_layFollowed 44 = .ok (.getfield 55, 3) := by decide +kernel
theorem dX12_layFollowed_47 : decode cX12_layFollowed 47 = .ok (.iload_n 3, 1) := by decide +kernel
theorem dX12_layFollowed_48 : decode cX12_layFollowed 48 = .ok (.iconst 1, 1) := by decide +kernel
theorem dX12_layFollowed_49 : decode cX12_layFollowed 49 = .ok (.bastore, 1) := by decide +kernel
theorem dX12_layFollowed_50 : decode cX12_layFollowed 50 = .ok (.aload_n 0, 1) := by decide +kernel
theorem dX12_layFollowed_51 : decode cX12_layFollowed 51 = .ok (.getfield 61, 3) := by decide +kernel
theorem dX12_layFollowed_54 : decode cX12_layFollowed 54 = .ok (.aload_n 0, 1) := by decide +kernel
theorem dX12_layFollowed_55 : decode cX12_layFollowed 55 = .ok (.getfield 476, 3) := by decide +kernel
theorem dX12_layFollowed_58 : decode cX12_layFollowed 58 = .ok (.iload_n 3, 1) := by decide +kernel
theorem dX12_layFollowed_59 : decode cX12_layFollowed 59 = .ok (.iastore, 1) := by decide +kernel
theorem dX12_layFollowed_60 : decode cX12_layFollowed 60 = .ok (.aload_n 0, 1) := by decide +kernel
theorem dX12_layFollowed_61 : decode cX12_layFollowed 61 = .ok (.dup, 1) := by decide +kernel
theorem dX12_layFollowed_62 : decode cX12_layFollowed 62 = .ok (.getfield 476, 3) := by decide +kernel
theorem dX12_layFollowed_65 : decode cX12_layFollowed 65 = .ok (.iconst 1, 1) := by decide +kernel
theorem dX12_layFollowed_66 : decode cX12_layFollowed 66 = .ok (.iadd, 1) := by decide +kernel
theorem dX12_layFollowed_67 : decode cX12_layFollowed 67 = .ok (.putfield 476, 3) := by decide +kernel
theorem dX12_layFollowed_70 : decode cX12_layFollowed 70 = .ok (.iload_n 2, 1) := by decide +kernel
theorem dX12_layFollowed_71 : decode cX12_layFollowed 71 = .ok (.aload_n 0, 1) := by decide +kernel
theorem dX12_layFollowed_72 : decode cX12_layFollowed 72 = .ok (.iload_n 3, 1) := by decide +kernel
theorem dX12_layFollowed_73 : decode cX12_layFollowed 73 = .ok (.iconst 3, 1) := by decide +kernel
theorem dX12_layFollowed_74 : decode cX12_layFollowed 74 = .ok (.invokevirtual 124, 3) := by decide +kernel
theorem dX12_layFollowed_77 : decode cX12_layFollowed 77 = .ok (.isub, 1) := by decide +kernel
theorem dX12_layFollowed_78 : decode cX12_layFollowed 78 = .ok (.istore_n 2, 1) := by decide +kernel
theorem dX12_layFollowed_79 : decode cX12_layFollowed 79 = .ok (.aload_n 0, 1) := by decide +kernel
theorem dX12_layFollowed_80 : decode cX12_layFollowed 80 = .ok (.iload_n 2, 1) := by decide +kernel
theorem dX12_layFollowed_81 : decode cX12_layFollowed 81 = .ok (.invokevirtual 479, 3) := by decide +kernel
theorem dX12_layFollowed_84 : decode cX12_layFollowed 84 = .ok (.istore_n 3, 1) := by decide +kernel
theorem dX12_layFollowed_85 : decode cX12_layFollowed 85 = .ok (.goto (-47), 3) := by decide +kernel
theorem dX12_layFollowed_88 : decode cX12_layFollowed 88 = .ok (.return_, 1) := by decide +kernel
abbrev z_X12_layFollowed_174 : Z9 := (none, 0, 0, 0, 13, 326)
def b_X12_layFollowed_174_c38 (k_X12_layFollowed_174_c38 : Int → Int → D9 → Option R9) (v2 v3 : Int) (d : D9) : Option R9 := if w32 v3 = w32 (-1) then rt 0 d else sd d 188 30 v3 (1 % 2) (fun d1 => sd d1 190 30 (d1 174 35) v3 (fun d2 => pf d2 174 35 ((d2 174 35) + 1) (fun d3 => cl (m_X12_ofSkin_174 v3 3 d3) (fun r4 d5 => lt9v (v2 - r4) (fun a6 => cl (m_X12_nextBy_174 a6 d5) (fun r7 d8 => k_X12_layFollowed_174_c38 a6 r7 d8))))))
def m_X12_layFollowed_174_c38 : Int → Int → D9 → Option R9 := fix9 (fun _ _ _ => none) (fun k => b_X12_layFollowed_174_c38 k) FU
def b_X12_layFollowed_174_c6 (k_X12_layFollowed_174_c6 : Int → Int → D9 → Option R9) (v1 v2 : Int) (d : D9) : Option R9 := if w32 30 ≤ w32 v2 then pf d 174 35 0 (fun d1 => cl (m_X12_nextBy_174 v1 d1) (fun r2 d3 => m_X12_layFollowed_174_c38  v1 r2 d3)) else sd d 188 30 v2 (0 % 2) (fun d4 => k_X12_layFollowed_174_c6 v1 (v2 + 1) d4)
def m_X12_layFollowed_174_c6 : Int → Int → D9 → Option R9 := fix9 (fun _ _ _ => none) (fun k => b_X12_layFollowed_174_c6 k) FU
def m_X12_layFollowed_174 (p1 : Int) (d : D9) : Option R9 := cl (m_X12_layReach_174 d) (fun r1 d2 => m_X12_layFollowed_174_c6  p1 0 d2)
set_option maxRecDepth 100000 in
theorem sb_X12_layFollowed_174_c38 {G : G9} {X : X9} (C : CX G X cX12_layFollowed 4 RX12 [] z_X12_layFollowed_174) (k_X12_layFollowed_174_c38 : Int → Int → D9 → Option R9) (hk_X12_layFollowed_174_c38 : ∀ (v2 v3 : Int) (d : D9), SS G X 4 0 0 38 [(0, rf G 174), (2, i9 v2), (3, i9 v3)] [] d (k_X12_layFollowed_174_c38 v2 v3 d)) : ∀ (v2 v3 : Int) (d : D9), SS G X 4 0 0 38 [(0, rf G 174), (2, i9 v2), (3, i9 v3)] [] d (b_X12_layFollowed_174_c38 k_X12_layFollowed_174_c38 v2 v3 d) := by
  intro v2 v3 d
  unfold b_X12_layFollowed_174_c38
  refine r_iload_n C 2 dX12_layFollowed_38 rfl rfl ?_
  refine r_iconst C dX12_layFollowed_39 ?_
  refine r_icmp_eq C 88 dX12_layFollowed_40 (by decide) (fun _ => ?_) (fun _ => ?_)
  · exact r_vret C dX12_layFollowed_88 (by decide) (by decide)
  · refine r_aload_n C 0 dX12_layFollowed_43 rfl rfl ?_
    refine r_getR C 188 dX12_layFollowed_44 fl_X12_55 la_174 ly_174 rfl rfl ?_
    refine r_iload_n C 2 dX12_layFollowed_47 rfl rfl ?_
    refine r_iconst C dX12_layFollowed_48 ?_
    refine r_zast C dX12_layFollowed_49 la_188 ly_188 (fun d1 => ?_)
    refine r_aload_n C 0 dX12_layFollowed_50 rfl rfl ?_
    refine r_getR C 190 dX12_layFollowed_51 fl_X12_61 la_174 ly_174 rfl rfl ?_
    refine r_aload_n C 0 dX12_layFollowed_54 rfl rfl ?_
    refine r_getI C dX12_layFollowed_55 fl_X12_476 la_174 ly_174 rfl ?_
    refine r_iload_n C 2 dX12_layFollowed_58 rfl rfl ?_
    refine r_iast C dX12_layFollowed_59 la_190 ly_190 (fun d2 => ?_)
    refine r_aload_n C 0 dX12_layFollowed_60 rfl rfl ?_
    refine r_dup C dX12_layFollowed_61 rfl ?_
    refine r_getI C dX12_layFollowed_62 fl_X12_476 la_174 ly_174 rfl ?_
    refine r_iconst C dX12_layFollowed_65 ?_
    refine r_iadd C dX12_layFollowed_66 ?_
    refine r_putI C dX12_layFollowed_67 fp_X12_476 la_174 ly_174 rfl (fun d3 => ?_)
    refine r_iload_n C 1 dX12_layFollowed_70 rfl rfl ?_
    refine r_aload_n C 0 dX12_layFollowed_71 rfl rfl ?_
    refine r_iload_n C 2 dX12_layFollowed_72 rfl rfl ?_
    refine r_iconst C dX12_layFollowed_73 ?_
    refine r_callV C [i9 3, i9 v3, rf G 174, i9 v2] dX12_layFollowed_74 (t_X12_ofSkin_174 C.h1 C.h2 v3 3 d3) mw_X12_124 mv_X12_ofSkin la_174 ly_174 rfl (by decide) (by decide) (by decide) rfl rfl (Nat.le_of_ble_eq_true rfl) (fun r4 d5 => ?_)
    show SS G X 4 _ _ 77 [(0, rf G 174), (2, i9 v2), (3, i9 v3)] [i9 r4, i9 v2] d5 _
    refine r_isub C dX12_layFollowed_77 ?_
    refine ss_lt (fun a6 => ?_)
    refine r_istore_n C [(2, i9 a6), (0, rf G 174), (3, i9 v3)] dX12_layFollowed_78 rfl (by decide) rfl ?_
    refine r_aload_n C 1 dX12_layFollowed_79 rfl rfl ?_
    refine r_iload_n C 0 dX12_layFollowed_80 rfl rfl ?_
    refine r_callV C [i9 a6, rf G 174] dX12_layFollowed_81 (t_X12_nextBy_174 C.h1 C.h2 a6 d5) mw_X12_479 mv_X12_nextBy la_174 ly_174 rfl (by decide) (by decide) (by decide) rfl rfl (Nat.le_of_ble_eq_true rfl) (fun r7 d8 => ?_)
    show SS G X 4 _ _ 84 [(2, i9 a6), (0, rf G 174), (3, i9 v3)] [i9 r7] d8 _
    refine r_istore_n C [(3, i9 r7), (2, i9 a6), (0, rf G 174)] dX12_layFollowed_84 rfl (by decide) rfl ?_
    refine r_goto C 38 dX12_layFollowed_85 (by decide) ?_
    refine ss_wide (k' := 0) (n' := 0) (by decide) (by decide) ?_
    refine ss_ls [(0, rf G 174), (2, i9 a6), (3, i9 r7)] [2, 1, 0] rfl ?_
    exact hk_X12_layFollowed_174_c38 a6 r7 d8
theorem s_X12_layFollowed_174_c38 {G : G9} {X : X9} (C : CX G X cX12_layFollowed 4 RX12 [] z_X12_layFollowed_174) : ∀ (v2 v3 : Int) (d : D9), SS G X 4 0 0 38 [(0, rf G 174), (2, i9 v2), (3, i9 v3)] [] d (m_X12_layFollowed_174_c38  v2 v3 d) :=
  fix9_ind (P := fun k => ∀ (v2 v3 : Int) (d : D9), SS G X 4 0 0 38 [(0, rf G 174), (2, i9 v2), (3, i9 v3)] [] d (k v2 v3 d)) (fun _ _ _ => ss_none) (fun k hk => sb_X12_layFollowed_174_c38 C k hk) FU
set_option maxRecDepth 100000 in
theorem sb_X12_layFollowed_174_c6 {G : G9} {X : X9} (C : CX G X cX12_layFollowed 4 RX12 [] z_X12_layFollowed_174) (k_X12_layFollowed_174_c6 : Int → Int → D9 → Option R9) (hk_X12_layFollowed_174_c6 : ∀ (v1 v2 : Int) (d : D9), SS G X 4 0 0 6 [(0, rf G 174), (1, i9 v1), (2, i9 v2)] [] d (k_X12_layFollowed_174_c6 v1 v2 d)) : ∀ (v1 v2 : Int) (d : D9), SS G X 4 0 0 6 [(0, rf G 174), (1, i9 v1), (2, i9 v2)] [] d (b_X12_layFollowed_174_c6 k_X12_layFollowed_174_c6 v1 v2 d) := by
  intro v1 v2 d
  unfold b_X12_layFollowed_174_c6
  refine r_iload_n C 2 dX12_layFollowed_6 rfl rfl ?_
  refine r_bipush C dX12_layFollowed_7 rfl ?_
  refine r_icmp_ge C 25 dX12_layFollowed_9 (by decide) (fun _ => ?_) (fun _ => ?_)
  · refine r_aload_n C 0 dX12_layFollowed_25 rfl rfl ?_
    refine r_iconst C dX12_layFollowed_26 ?_
    refine r_putI C dX12_layFollowed_27 fp_X12_476 la_174 ly_174 rfl (fun d1 => ?_)
    refine r_iload_n C 1 dX12_layFollowed_30 rfl rfl ?_
    refine r_istore_n C [(2, i9 v1), (0, rf G 174), (1, i9 v1)] dX12_layFollowed_31 rfl (by decide) rfl ?_
    refine r_aload_n C 1 dX12_layFollowed_32 rfl rfl ?_
    refine r_iload_n C 0 dX12_layFollowed_33 rfl rfl ?_
    refine r_callV C [i9 v1, rf G 174] dX12_layFollowed_34 (t_X12_nextBy_174 C.h1 C.h2 v1 d1) mw_X12_479 mv_X12_nextBy la_174 ly_174 rfl (by decide) (by decide) (by decide) rfl rfl (Nat.le_of_ble_eq_true rfl) (fun r2 d3 => ?_)
    show SS G X 4 _ _ 37 [(2, i9 v1), (0, rf G 174), (1, i9 v1)] [i9 r2] d3 _
    refine r_istore_n C [(3, i9 r2), (2, i9 v1), (0, rf G 174), (1, i9 v1)] dX12_layFollowed_37 rfl (by decide) rfl ?_
    refine ss_wide (k' := 0) (n' := 0) (by decide) (by decide) ?_
    refine ss_ls [(0, rf G 174), (2, i9 v1), (3, i9 r2)] [2, 1, 0] rfl ?_
    exact s_X12_layFollowed_174_c38 C  v1 r2 d3
  · refine r_aload_n C 0 dX12_layFollowed_12 rfl rfl ?_
    refine r_getR C 188 dX12_layFollowed_13 fl_X12_55 la_174 ly_174 rfl rfl ?_
    refine r_iload_n C 2 dX12_layFollowed_16 rfl rfl ?_
    refine r_iconst C dX12_layFollowed_17 ?_
    refine r_zast C dX12_layFollowed_18 la_188 ly_188 (fun d4 => ?_)
    refine r_iinc C 2 [(2, i9 (v2 + 1)), (0, rf G 174), (1, i9 v1)] dX12_layFollowed_19 rfl (by decide) rfl ?_
    refine r_goto C 6 dX12_layFollowed_22 (by decide) ?_
    refine ss_wide (k' := 0) (n' := 0) (by decide) (by decide) ?_
    refine ss_ls [(0, rf G 174), (1, i9 v1), (2, i9 (v2 + 1))] [1, 2, 0] rfl ?_
    exact hk_X12_layFollowed_174_c6 v1 (v2 + 1) d4
theorem s_X12_layFollowed_174_c6 {G : G9} {X : X9} (C : CX G X cX12_layFollowed 4 RX12 [] z_X12_layFollowed_174) : ∀ (v1 v2 : Int) (d : D9), SS G X 4 0 0 6 [(0, rf G 174), (1, i9 v1), (2, i9 v2)] [] d (m_X12_layFollowed_174_c6  v1 v2 d) :=
  fix9_ind (P := fun k => ∀ (v1 v2 : Int) (d : D9), SS G X 4 0 0 6 [(0, rf G 174), (1, i9 v1), (2, i9 v2)] [] d (k v1 v2 d)) (fun _ _ _ => ss_none) (fun k hk => sb_X12_layFollowed_174_c6 C k hk) FU
set_option maxRecDepth 100000 in
theorem t_X12_layFollowed_174 {G : G9} {l : Launch} (h1 : va_D (A9 G) (wl G (fun _ _ => 0))) (h2 : l.stackTraces = false) (p1 : Int) (d : D9) : MT G l yX12_layFollowed cX12_layFollowed 4 z_X12_layFollowed_174 [rf G 174, i9 p1] d (m_X12_layFollowed_174 p1 d) := by
  refine mt_of (own := RX12) (by decide) rfl (Nat.le_of_ble_eq_true rfl) h1 h2 [(0, rf G 174), (1, i9 p1)] rfl (fun X hX C => ?_)
  unfold m_X12_layFollowed_174
  refine r_aload_n C 0 dX12_layFollowed_0 rfl rfl ?_
  refine r_callV C [rf G 174] dX12_layFollowed_1 (t_X12_layReach_174 C.h1 C.h2 d) mw_X12_381 mv_X12_layReach la_174 ly_174 rfl (by decide) (by decide) (by decide) rfl rfl (Nat.le_of_ble_eq_true rfl) (fun r1 d2 => ?_)
  show SS G X 4 _ _ 4 [(0, rf G 174), (1, i9 p1)] [] d2 _
  refine r_iconst C dX12_layFollowed_4 ?_
  refine r_istore_n C [(2, i9 0), (0, rf G 174), (1, i9 p1)] dX12_layFollowed_5 rfl (by decide) rfl ?_
  refine ss_wide (k' := 0) (n' := 0) (by decide) (by decide) ?_
  refine ss_ls [(0, rf G 174), (1, i9 p1), (2, i9 0)] [1, 2, 0] rfl ?_
  exact s_X12_layFollowed_174_c6 C  p1 0 d2

theorem dX8_isSign_0 : decode cX8_isSign 0 = .ok (.aload_n 0, 1) := by decide +kernel
theorem dX8_isSign_1 : decode cX8_isSign 1 = .ok (.getfield 34, 3) := by decide +kernel
theorem dX8_isSign_4 : decode cX8_isSign 4 = .ok (.ifCond .ne 15, 3) := by decide +kernel
theorem dX8_isSign_7 : decode cX8_isSign 7 = .ok (.aload_n 0, 1) := by decide +kernel
theorem dX8_isSign_8 : decode cX8_isSign 8 = .ok (.getfield 40, 3) := by decide +kernel
theorem dX8_isSign_11 : decode cX8_isSign 11 = .ok (.iload_n 1, 1) := by decide +kernel
theorem dX8_isSign_12 : decode cX8_isSign 12 = .ok (.if_icmp .ne 7, 3) := by decide +kernel
theorem dX8_isSign_15 : decode cX8_isSign 15 = .ok (.iconst 1, 1) := by decide +kernel
theorem dX8_isSign_16 : decode cX8_isSign 16 = .ok (.goto 4, 3) := by decide +kernel
theorem dX8_isSign_19 : decode cX8_isSign 19 = .ok (.iconst 0, 1) := by decide +kernel
theorem dX8_isSign_20 : decode cX8_isSign 20 = .ok (.ireturn, 1) := by decide +kernel
abbrev z_X8_isSign_51 : Z9 := (some .boolean, 1, 0, 0, 1, 0)
def m_X8_isSign_51 (p1 : Int) (d : D9) : Option R9 := if w32 (d 51 2) ≠ 0 then rt (0 % 2) d else if w32 (d 51 7) ≠ w32 p1 then rt (0 % 2) d else rt (1 % 2) d
set_option maxRecDepth 100000 in
theorem t_X8_isSign_51 {G : G9} {l : Launch} (h1 : va_D (A9 G) (wl G (fun _ _ => 0))) (h2 : l.stackTraces = false) (p1 : Int) (d : D9) : MT G l yX8_isSign cX8_isSign 2 z_X8_isSign_51 [rf G 51, i9 p1] d (m_X8_isSign_51 p1 d) := by
  refine mt_of (own := RX8) (by decide) rfl (Nat.le_of_ble_eq_true rfl) h1 h2 [(0, rf G 51), (1, i9 p1)] rfl (fun X hX C => ?_)
  unfold m_X8_isSign_51
  refine r_aload_n C 0 dX8_isSign_0 rfl rfl ?_
  refine r_getI C dX8_isSign_1 fl_X8_34 la_51 ly_51 rfl ?_
  refine r_if_ne C (b := 0) 19 dX8_isSign_4 (by decide) (fun _ => ?_) (fun _ => ?_)
  · refine r_iconst C dX8_isSign_19 ?_
    exact r_zret C dX8_isSign_20 (by decide) (by decide)
  · refine r_aload_n C 0 dX8_isSign_7 rfl rfl ?_
    refine r_getI C dX8_isSign_8 fl_X8_40 la_51 ly_51 rfl ?_
    refine r_iload_n C 1 dX8_isSign_11 rfl rfl ?_
    refine r_icmp_ne C 19 dX8_isSign_12 (by decide) (fun _ => ?_) (fun _ => ?_)
    · refine r_iconst C dX8_isSign_19 ?_
      exact r_zret C dX8_isSign_20 (by decide) (by decide)
    · refine r_iconst C dX8_isSign_15 ?_
      refine r_goto C 20 dX8_isSign_16 (by decide) ?_
      exact r_zret C dX8_isSign_20 (by decide) (by decide)
theorem dX8_needSign_0 : decode cX8_needSign 0 = .ok (.aload_n 0, 1) := by decide +kernel
theorem dX8_needSign_1 : decode cX8_needSign 1 = .ok (.iload_n 1, 1) := by decide +kernel
theorem dX8_needSign_2 : decode cX8_needSign 2 = .ok (.invokevirtual 88, 3) := by decide +kernel
theorem dX8_needSign_5 : decode cX8_needSign 5 = .ok (.ifCond .eq 10, 3) := by decide +kernel
theorem dX8_needSign_8 : decode cX8_needSign 8 = .ok (.aload_n 0, 1) := by decide +kernel
theorem dX8_needSign_9 : decode cX8_needSign 9 = .ok (.invokevirtual 37, 3) := by decide +kernel
theorem dX8_needSign_12 : decode cX8_needSign 12 = .ok (.goto 7, 3) := by decide +kernel
theorem dX8_needSign_15 : decode cX8_needSign 15 = .ok (.aload_n 0, 1) := by decide +kernel
theorem dX8_needSign_16 : decode cX8_needSign 16 = .ok (.invokevirtual 85, 3) := by decide +kernel
theorem dX8_needSign_19 : decode cX8_needSign 19 = .ok (.return_, 1) := by decide +kernel
abbrev z_X8_needSign_51 : Z9 := (none, 0, 0, 0, 10, 295)
def m_X8_needSign_51 (p1 : Int) (d : D9) : Option R9 := cl (m_X8_isSign_51 p1 d) (fun r1 d2 => if w32 r1 = 0 then cl (m_X8_refuse_51 d2) (fun r3 d4 => rt 0 d4) else cl (m_X8_advance_51 d2) (fun r5 d6 => rt 0 d6))
set_option maxRecDepth 100000 in
theorem t_X8_needSign_51 {G : G9} {l : Launch} (h1 : va_D (A9 G) (wl G (fun _ _ => 0))) (h2 : l.stackTraces = false) (p1 : Int) (d : D9) : MT G l yX8_needSign cX8_needSign 2 z_X8_needSign_51 [rf G 51, i9 p1] d (m_X8_needSign_51 p1 d) := by
  refine mt_of (own := RX8) (by decide) rfl (Nat.le_of_ble_eq_true rfl) h1 h2 [(0, rf G 51), (1, i9 p1)] rfl (fun X hX C => ?_)
  unfold m_X8_needSign_51
  refine r_aload_n C 0 dX8_needSign_0 rfl rfl ?_
  refine r_iload_n C 1 dX8_needSign_1 rfl rfl ?_
  refine r_callV C [i9 p1, rf G 51] dX8_needSign_2 (t_X8_isSign_51 C.h1 C.h2 p1 d) mw_X8_88 mv_X8_isSign la_51 ly_51 rfl (by decide) (by decide) (by decide) rfl rfl (Nat.le_of_ble_eq_true rfl) (fun r1 d2 => ?_)
  show SS G X 2 _ _ 5 [(0, rf G 51), (1, i9 p1)] [i9 r1] d2 _
  refine r_if_eq C (b := 0) 15 dX8_needSign_5 (by decide) (fun _ => ?_) (fun _ => ?_)
  · refine r_aload_n C 0 dX8_needSign_15 rfl rfl ?_
    refine r_callV C [rf G 51] dX8_needSign_16 (t_X8_refuse_51 C.h1 C.h2 d2) mw_X8_85 mv_X8_refuse la_51 ly_51 rfl (by decide) (by decide) (by decide) rfl rfl (Nat.le_of_ble_eq_true rfl) (fun r3 d4 => ?_)
    show SS G X 2 _ _ 19 [(0, rf G 51), (1, i9 p1)] [] d4 _
    exact r_vret C dX8_needSign_19 (by decide) (by decide)
  · refine r_aload_n C 0 dX8_needSign_8 rfl rfl ?_
    refine r_callV C [rf G 51] dX8_needSign_9 (t_X8_advance_51 C.h1 C.h2 d2) mw_X8_37 mv_X8_advance la_51 ly_51 rfl (by decide) (by decide) (by decide) rfl rfl (Nat.le_of_ble_eq_true rfl) (fun r5 d6 => ?_)
    show SS G X 2 _ _ 12 [(0, rf G 51), (1, i9 p1)] [] d6 _
    refine r_goto C 19 dX8_needSign_12 (by decide) ?_
    exact r_vret C dX8_needSign_19 (by decide) (by decide)
theorem dX2_readFrom_0 : decode cX2_readFrom 0 = .ok (.aload_n 0, 1) := by decide +kernel
theorem dX2_readFrom_1 : decode cX2_readFrom 1 = .ok (.invokevirtual 9, 3) := by decide +kernel
theorem dX2_readFrom_4 : decode cX2_readFrom 4 = .ok (.iconst 0, 1) := by decide +kernel
theorem dX2_readFrom_5 : decode cX2_readFrom 5 = .ok (.istore_n 2, 1) := by decide +kernel
theorem dX2_readFrom_6 : decode cX2_readFrom 6 = .ok (.iload_n 2, 1) := by decide +kernel
theorem dX2_readFrom_7 : decode cX2_readFrom 7 = .ok (.bipush 12, 2) := by decide +kernel
theorem dX2_readFrom_9 : decode cX2_readFrom 9 = .ok (.if_icmp .gt 41, 3) := by decide +kernel
theorem dX2_readFrom_12 : decode cX2_readFrom 12 = .ok (.aload_n 1, 1) := by decide +kernel
theorem dX2_readFrom_13 : decode cX2_readFrom 13 = .ok (.invokevirtual 39, 3) := by decide +kernel
theorem dX2_readFrom_16 : decode cX2_readFrom 16 = .ok (.ifCond .eq 34, 3) := by decide +kernel
theorem dX2_readFrom_19 : decode cX2_readFrom 19 = .ok (.aload_n 0, 1) := by decide +kernel
theorem dX2_readFrom_20 : decode cX2_readFrom 20 = .ok (.aload_n 1, 1) := by decide +kernel
theorem dX2_readFrom_21 : decode cX2_readFrom 21 = .ok (.aload_n 1, 1) := by decide +kernel
theorem dX2_readFrom_22 : decode cX2_readFrom 22 = .ok (.iconst 0, 1) := by decide +kernel
theorem dX2_readFrom_23 : decode cX2_readFrom 23 = .ok (.iconst 5, 1) := by decide +kernel
theorem dX2_readFrom_24 : decode cX2_readFrom 24 = .ok (.iload_n 2, 1) := by decide +kernel
theorem dX2_readFrom_25 : decode cX2_readFrom 25 = .ok (.invokevirtual 45, 3) := by decide +kernel
theorem dX2_readFrom_28 : decode cX2_readFrom 28 = .ok (.invokevirtual 49, 3) := by decide +kernel
theorem dX2_readFrom_31 : decode cX2_readFrom 31 = .ok (.aload_n 1, 1) := by decide +kernel
theorem dX2_readFrom_32 : decode cX2_readFrom 32 = .ok (.bipush 59, 2) := by decide +kernel
theorem dX2_readFrom_34 : decode cX2_readFrom 34 = .ok (.invokevirtual 53, 3) := by decide +kernel
theorem dX2_readFrom_37 : decode cX2_readFrom 37 = .ok (.aload_n 0, 1) := by decide +kernel
theorem dX2_readFrom_38 : decode cX2_readFrom 38 = .ok (.iload_n 2, 1) := by decide +kernel
theorem dX2_readFrom_39 : decode cX2_readFrom 39 = .ok (.iconst 1, 1) := by decide +kernel
theorem dX2_readFrom_40 : decode cX2_readFrom 40 = .ok (.iadd, 1) := by decide +kernel
theorem dX2_readFrom_41 : decode cX2_readFrom 41 = .ok (.putfield 14, 3) := by decide +kernel
theorem dX2_readFrom_44 : decode cX2_readFrom 44 = .ok (.iinc 2 1, 3) := by decide +kernel
theorem dX2_readFrom_47 : decode cX2_readFrom 47 = .ok (.goto (-41), 3) := by decide +kernel
theorem dX2_readFrom_50 : decode cX2_readFrom 50 = .ok (.return_, 1) := by decide +kernel
abbrev z_X2_readFrom_40_51 : Z9 := (none, 0, 0, 0, 13, 360)
def b_X2_readFrom_40_51_c6 (k_X2_readFrom_40_51_c6 : Int → D9 → Option R9) (v2 : Int) (d : D9) : Option R9 := if w32 12 < w32 v2 then rt 0 d else cl (m_X8_goesOn_51 d) (fun r1 d2 => if w32 r1 = 0 then rt 0 d2 else cl (m_X8_firstWord_51 0 5 v2 d2) (fun r3 d4 => cl (m_X2_readLine_40_51 r3 d4) (fun r5 d6 => cl (m_X8_needSign_51 59 d6) (fun r7 d8 => pf d8 40 0 (v2 + 1) (fun d9 => k_X2_readFrom_40_51_c6 (v2 + 1) d9)))))
def m_X2_readFrom_40_51_c6 : Int → D9 → Option R9 := fix9 (fun _ _ => none) (fun k => b_X2_readFrom_40_51_c6 k) FU
def m_X2_readFrom_40_51 (d : D9) : Option R9 := cl (m_X2_reset_40 d) (fun r1 d2 => m_X2_readFrom_40_51_c6  0 d2)
set_option maxRecDepth 100000 in
theorem sb_X2_readFrom_40_51_c6 {G : G9} {X : X9} (C : CX G X cX2_readFrom 3 RX2 [] z_X2_readFrom_40_51) (k_X2_readFrom_40_51_c6 : Int → D9 → Option R9) (hk_X2_readFrom_40_51_c6 : ∀ (v2 : Int) (d : D9), SS G X 3 0 0 6 [(0, rf G 40), (1, rf G 51), (2, i9 v2)] [] d (k_X2_readFrom_40_51_c6 v2 d)) : ∀ (v2 : Int) (d : D9), SS G X 3 0 0 6 [(0, rf G 40), (1, rf G 51), (2, i9 v2)] [] d (b_X2_readFrom_40_51_c6 k_X2_readFrom_40_51_c6 v2 d) := by
  intro v2 d
  unfold b_X2_readFrom_40_51_c6
  refine r_iload_n C 2 dX2_readFrom_6 rfl rfl ?_
  refine r_bipush C dX2_readFrom_7 rfl ?_
  refine r_icmp_gt C 50 dX2_readFrom_9 (by decide) (fun _ => ?_) (fun _ => ?_)
  · exact r_vret C dX2_readFrom_50 (by decide) (by decide)
  · refine r_aload_n C 1 dX2_readFrom_12 rfl rfl ?_
    refine r_callV C [rf G 51] dX2_readFrom_13 (t_X8_goesOn_51 C.h1 C.h2 d) mw_X2_39 mv_X8_goesOn la_51 ly_51 rfl (by decide) (by decide) (by decide) rfl rfl (Nat.le_of_ble_eq_true rfl) (fun r1 d2 => ?_)
    show SS G X 3 _ _ 16 [(0, rf G 40), (1, rf G 51), (2, i9 v2)] [i9 r1] d2 _
    refine r_if_eq C (b := 0) 50 dX2_readFrom_16 (by decide) (fun _ => ?_) (fun _ => ?_)
    · exact r_vret C dX2_readFrom_50 (by decide) (by decide)
    · refine r_aload_n C 0 dX2_readFrom_19 rfl rfl ?_
      refine r_aload_n C 1 dX2_readFrom_20 rfl rfl ?_
      refine r_aload_n C 1 dX2_readFrom_21 rfl rfl ?_
      refine r_iconst C dX2_readFrom_22 ?_
      refine r_iconst C dX2_readFrom_23 ?_
      refine r_iload_n C 2 dX2_readFrom_24 rfl rfl ?_
      refine r_callV C [i9 v2, i9 5, i9 0, rf G 51, rf G 51, rf G 40] dX2_readFrom_25 (t_X8_firstWord_51 C.h1 C.h2 0 5 v2 d2) mw_X2_45 mv_X8_firstWord la_51 ly_51 rfl (by decide) (by decide) (by decide) rfl rfl (Nat.le_of_ble_eq_true rfl) (fun r3 d4 => ?_)
      show SS G X 3 _ _ 28 [(0, rf G 40), (1, rf G 51), (2, i9 v2)] [i9 r3, rf G 51, rf G 40] d4 _
      refine r_callV C [i9 r3, rf G 51, rf G 40] dX2_readFrom_28 (t_X2_readLine_40_51 C.h1 C.h2 r3 d4) mw_X2_49 mv_X2_readLine la_40 ly_40 rfl (by decide) (by decide) (by decide) rfl rfl (Nat.le_of_ble_eq_true rfl) (fun r5 d6 => ?_)
      show SS G X 3 _ _ 31 [(0, rf G 40), (1, rf G 51), (2, i9 v2)] [] d6 _
      refine r_aload_n C 1 dX2_readFrom_31 rfl rfl ?_
      refine r_bipush C dX2_readFrom_32 rfl ?_
      refine r_callV C [i9 59, rf G 51] dX2_readFrom_34 (t_X8_needSign_51 C.h1 C.h2 59 d6) mw_X2_53 mv_X8_needSign la_51 ly_51 rfl (by decide) (by decide) (by decide) rfl rfl (Nat.le_of_ble_eq_true rfl) (fun r7 d8 => ?_)
      show SS G X 3 _ _ 37 [(0, rf G 40), (1, rf G 51), (2, i9 v2)] [] d8 _
      refine r_aload_n C 0 dX2_readFrom_37 rfl rfl ?_
      refine r_iload_n C 2 dX2_readFrom_38 rfl rfl ?_
      refine r_iconst C dX2_readFrom_39 ?_
      refine r_iadd C dX2_readFrom_40 ?_
      refine r_putI C dX2_readFrom_41 fp_X2_14 la_40 ly_40 rfl (fun d9 => ?_)
      refine r_iinc C 2 [(2, i9 (v2 + 1)), (0, rf G 40), (1, rf G 51)] dX2_readFrom_44 rfl (by decide) rfl ?_
      refine r_goto C 6 dX2_readFrom_47 (by decide) ?_
      refine ss_wide (k' := 0) (n' := 0) (by decide) (by decide) ?_
      refine ss_ls [(0, rf G 40), (1, rf G 51), (2, i9 (v2 + 1))] [1, 2, 0] rfl ?_
      exact hk_X2_readFrom_40_51_c6 (v2 + 1) d9
theorem s_X2_readFrom_40_51_c6 {G : G9} {X : X9} (C : CX G X cX2_readFrom 3 RX2 [] z_X2_readFrom_40_51) : ∀ (v2 : Int) (d : D9), SS G X 3 0 0 6 [(0, rf G 40), (1, rf G 51), (2, i9 v2)] [] d (m_X2_readFrom_40_51_c6  v2 d) :=
  fix9_ind (P := fun k => ∀ (v2 : Int) (d : D9), SS G X 3 0 0 6 [(0, rf G 40), (1, rf G 51), (2, i9 v2)] [] d (k v2 d)) (fun _ _ => ss_none) (fun k hk => sb_X2_readFrom_40_51_c6 C k hk) FU
set_option maxRecDepth 100000 in
theorem t_X2_readFrom_40_51 {G : G9} {l : Launch} (h1 : va_D (A9 G) (wl G (fun _ _ => 0))) (h2 : l.stackTraces = false) (d : D9) : MT G l yX2_readFrom cX2_readFrom 3 z_X2_readFrom_40_51 [rf G 40, rf G 51] d (m_X2_readFrom_40_51  d) := by
  refine mt_of (own := RX2) (by decide) rfl (Nat.le_of_ble_eq_true rfl) h1 h2 [(0, rf G 40), (1, rf G 51)] rfl (fun X hX C => ?_)
  unfold m_X2_readFrom_40_51
  refine r_aload_n C 0 dX2_readFrom_0 rfl rfl ?_
  refine r_callV C [rf G 40] dX2_readFrom_1 (t_X2_reset_40 C.h1 C.h2 d) mw_X2_9 mv_X2_reset la_40 ly_40 rfl (by decide) (by decide) (by decide) rfl rfl (Nat.le_of_ble_eq_true rfl) (fun r1 d2 => ?_)
  show SS G X 3 _ _ 4 [(0, rf G 40), (1, rf G 51)] [] d2 _
  refine r_iconst C dX2_readFrom_4 ?_
  refine r_istore_n C [(2, i9 0), (0, rf G 40), (1, rf G 51)] dX2_readFrom_5 rfl (by decide) rfl ?_
  refine ss_wide (k' := 0) (n' := 0) (by decide) (by decide) ?_
  refine ss_ls [(0, rf G 40), (1, rf G 51), (2, i9 0)] [1, 2, 0] rfl ?_
  exact s_X2_readFrom_40_51_c6 C  0 d2
theorem dX8_failed_0 : decode cX8_failed 0 = .ok (.aload_n 0, 1) := by decide +kernel
theorem dX8_failed_1 : decode cX8_failed 1 = .ok (.getfield 34, 3) := by decide +kernel
theorem dX8_failed_4 : decode cX8_failed 4 = .ok (.ifCond .eq 7, 3) := by decide +kernel
theorem dX8_failed_7 : decode cX8_failed 7 = .ok (.iconst 1, 1) := by decide +kernel
theorem dX8_failed_8 : decode cX8_failed 8 = .ok (.goto 4, 3) := by decide +kernel
theorem dX8_failed_11 : decode cX8_failed 11 = .ok (.iconst 0, 1) := by decide +kernel
theorem dX8_failed_12 : decode cX8_failed 12 = .ok (.ireturn, 1) := by decide +kernel
abbrev z_X8_failed_51 : Z9 := (some .boolean, 1, 0, 0, 1, 0)
def m_X8_failed_51 (d : D9) : Option R9 := if w32 (d 51 2) = 0 then rt (0 % 2) d else rt (1 % 2) d
set_option maxRecDepth 100000 in
theorem t_X8_failed_51 {G : G9} {l : Launch} (h1 : va_D (A9 G) (wl G (fun _ _ => 0))) (h2 : l.stackTraces = false) (d : D9) : MT G l yX8_failed cX8_failed 1 z_X8_failed_51 [rf G 51] d (m_X8_failed_51  d) := by
  refine mt_of (own := RX8) (by decide) rfl (Nat.le_of_ble_eq_true rfl) h1 h2 [(0, rf G 51)] rfl (fun X hX C => ?_)
  unfold m_X8_failed_51
  refine r_aload_n C 0 dX8_failed_0 rfl rfl ?_
  refine r_getI C dX8_failed_1 fl_X8_34 la_51 ly_51 rfl ?_
  refine r_if_eq C (b := 0) 11 dX8_failed_4 (by decide) (fun _ => ?_) (fun _ => ?_)
  · refine r_iconst C dX8_failed_11 ?_
    exact r_zret C dX8_failed_12 (by decide) (by decide)
  · refine r_iconst C dX8_failed_7 ?_
    refine r_goto C 12 dX8_failed_8 (by decide) ?_
    exact r_zret C dX8_failed_12 (by decide) (by decide)
theorem dX2_clocksLike_0 : decode cX2_clocksLike 0 = .ok (.aload_n 0, 1) := by decide +kernel
theorem dX2_clocksLike_1 : decode cX2_clocksLike 1 = .ok (.getfield 18, 3) := by decide +kernel
theorem dX2_clocksLike_4 : decode cX2_clocksLike 4 = .ok (.aload_n 1, 1) := by decide +kernel
theorem dX2_clocksLike_5 : decode cX2_clocksLike 5 = .ok (.getfield 18, 3) := by decide +kernel
theorem dX2_clocksLike_8 : decode cX2_clocksLike 8 = .ok (.if_icmp .ne 51, 3) := by decide +kernel
theorem dX2_clocksLike_11 : decode cX2_clocksLike 11 = .ok (.aload_n 0, 1) := by decide +kernel
theorem dX2_clocksLike_12 : decode cX2_clocksLike 12 = .ok (.getfield 21, 3) := by decide +kernel
theorem dX2_clocksLike_15 : decode cX2_clocksLike 15 = .ok (.aload_n 1, 1) := by decide +kernel
theorem dX2_clocksLike_16 : decode cX2_clocksLike 16 = .ok (.getfield 21, 3) := by decide +kernel
theorem dX2_clocksLike_19 : decode cX2_clocksLike 19 = .ok (.if_icmp .ne 40, 3) := by decide +kernel
theorem dX2_clocksLike_22 : decode cX2_clocksLike 22 = .ok (.aload_n 0, 1) := by decide +kernel
theorem dX2_clocksLike_23 : decode cX2_clocksLike 23 = .ok (.getfield 24, 3) := by decide +kernel
theorem dX2_clocksLike_26 : decode cX2_clocksLike 26 = .ok (.aload_n 1, 1) := by decide +kernel
theorem dX2_clocksLike_27 : decode cX2_clocksLike 27 = .ok (.getfield 24, 3) := by decide +kernel
theorem dX2_clocksLike_30 : decode cX2_clocksLike 30 = .ok (.if_icmp .ne 29, 3) := by decide +kernel
theorem dX2_clocksLike_33 : decode cX2_clocksLike 33 = .ok (.aload_n 0, 1) := by decide +kernel
theorem dX2_clocksLike_34 : decode cX2_clocksLike 34 = .ok (.getfield 27, 3) := by decide +kernel
theorem dX2_clocksLike_37 : decode cX2_clocksLike 37 = .ok (.aload_n 1, 1) := by decide +kernel
theorem dX2_clocksLike_38 : decode cX2_clocksLike 38 = .ok (.getfield 27, 3) := by decide +kernel
theorem dX2_clocksLike_41 : decode cX2_clocksLike 41 = .ok (.if_icmp .ne 18, 3) := by decide +kernel
theorem dX2_clocksLike_44 : decode cX2_clocksLike 44 = .ok (.aload_n 0, 1) := by decide +kernel
theorem dX2_clocksLike_45 : decode cX2_clocksLike 45 = .ok (.getfield 30, 3) := by decide +kernel
theorem dX2_clocksLike_48 : decode cX2_clocksLike 48 = .ok (.aload_n 1, 1) := by decide +kernel
theorem dX2_clocksLike_49 : decode cX2_clocksLike 49 = .ok (.getfield 30, 3) := by decide +kernel
theorem dX2_clocksLike_52 : decode cX2_clocksLike 52 = .ok (.if_icmp .ne 7, 3) := by decide +kernel
theorem dX2_clocksLike_55 : decode cX2_clocksLike 55 = .ok (.iconst 1, 1) := by decide +kernel
theorem dX2_clocksLike_56 : decode cX2_clocksLike 56 = .ok (.goto 4, 3) := by decide +kernel
theorem dX2_clocksLike_59 : decode cX2_clocksLike 59 = .ok (.iconst 0, 1) := by decide +kernel
theorem dX2_clocksLike_60 : decode cX2_clocksLike 60 = .ok (.ireturn, 1) := by decide +kernel
abbrev z_X2_clocksLike_40_22 : Z9 := (some .boolean, 1, 0, 0, 1, 0)
def m_X2_clocksLike_40_22 (d : D9) : Option R9 := if w32 (d 40 1) ≠ w32 (d 22 1) then rt (0 % 2) d else if w32 (d 40 2) ≠ w32 (d 22 2) then rt (0 % 2) d else if w32 (d 40 3) ≠ w32 (d 22 3) then rt (0 % 2) d else if w32 (d 40 4) ≠ w32 (d 22 4) then rt (0 % 2) d else if w32 (d 40 5) ≠ w32 (d 22 5) then rt (0 % 2) d else rt (1 % 2) d
set_option maxRecDepth 100000 in
theorem t_X2_clocksLike_40_22 {G : G9} {l : Launch} (h1 : va_D (A9 G) (wl G (fun _ _ => 0))) (h2 : l.stackTraces = false) (d : D9) : MT G l yX2_clocksLike cX2_clocksLike 2 z_X2_clocksLike_40_22 [rf G 40, rf G 22] d (m_X2_clocksLike_40_22  d) := by
  refine mt_of (own := RX2) (by decide) rfl (Nat.le_of_ble_eq_true rfl) h1 h2 [(0, rf G 40), (1, rf G 22)] rfl (fun X hX C => ?_)
  unfold m_X2_clocksLike_40_22
  refine r_aload_n C 0 dX2_clocksLike_0 rfl rfl ?_
  refine r_getI C dX2_clocksLike_1 fl_X2_18 la_40 ly_40 rfl ?_
  refine r_aload_n C 1 dX2_clocksLike_4 rfl rfl ?_
  refine r_getI C dX2_clocksLike_5 fl_X2_18 la_22 ly_22 rfl ?_
  refine r_icmp_ne C 59 dX2_clocksLike_8 (by decide) (fun _ => ?_) (fun _ => ?_)
  · refine r_iconst C dX2_clocksLike_59 ?_
    exact r_zret C dX2_clocksLike_60 (by decide) (by decide)
  · refine r_aload_n C 0 dX2_clocksLike_11 rfl rfl ?_
    refine r_getI C dX2_clocksLike_12 fl_X2_21 la_40 ly_40 rfl ?_
    refine r_aload_n C 1 dX2_clocksLike_15 rfl rfl ?_
    refine r_getI C dX2_clocksLike_16 fl_X2_21 la_22 ly_22 rfl ?_
    refine r_icmp_ne C 59 dX2_clocksLike_19 (by decide) (fun _ => ?_) (fun _ => ?_)
    · refine r_iconst C dX2_clocksLike_59 ?_
      exact r_zret C dX2_clocksLike_60 (by decide) (by decide)
    · refine r_aload_n C 0 dX2_clocksLike_22 rfl rfl ?_
      refine r_getI C dX2_clocksLike_23 fl_X2_24 la_40 ly_40 rfl ?_
      refine r_aload_n C 1 dX2_clocksLike_26 rfl rfl ?_
      refine r_getI C dX2_clocksLike_27 fl_X2_24 la_22 ly_22 rfl ?_
      refine r_icmp_ne C 59 dX2_clocksLike_30 (by decide) (fun _ => ?_) (fun _ => ?_)
      · refine r_iconst C dX2_clocksLike_59 ?_
        exact r_zret C dX2_clocksLike_60 (by decide) (by decide)
      · refine r_aload_n C 0 dX2_clocksLike_33 rfl rfl ?_
        refine r_getI C dX2_clocksLike_34 fl_X2_27 la_40 ly_40 rfl ?_
        refine r_aload_n C 1 dX2_clocksLike_37 rfl rfl ?_
        refine r_getI C dX2_clocksLike_38 fl_X2_27 la_22 ly_22 rfl ?_
        refine r_icmp_ne C 59 dX2_clocksLike_41 (by decide) (fun _ => ?_) (fun _ => ?_)
        · refine r_iconst C dX2_clocksLike_59 ?_
          exact r_zret C dX2_clocksLike_60 (by decide) (by decide)
        · refine r_aload_n C 0 dX2_clocksLike_44 rfl rfl ?_
          refine r_getI C dX2_clocksLike_45 fl_X2_30 la_40 ly_40 rfl ?_
          refine r_aload_n C 1 dX2_clocksLike_48 rfl rfl ?_
          refine r_getI C dX2_clocksLike_49 fl_X2_30 la_22 ly_22 rfl ?_
          refine r_icmp_ne C 59 dX2_clocksLike_52 (by decide) (fun _ => ?_) (fun _ => ?_)
          · refine r_iconst C dX2_clocksLike_59 ?_
            exact r_zret C dX2_clocksLike_60 (by decide) (by decide)
          · refine r_iconst C dX2_clocksLike_55 ?_
            refine r_goto C 60 dX2_clocksLike_56 (by decide) ?_
            exact r_zret C dX2_clocksLike_60 (by decide) (by decide)
abbrev z_X2_copyFrom_22_40 : Z9 := (none, 0, 0, 0, 1, 0)
def m_X2_copyFrom_22_40 (d : D9) : Option R9 := pf d 22 0 (d 40 0) (fun d1 => pf d1 22 1 (d1 40 1) (fun d2 => pf d2 22 2 (d2 40 2) (fun d3 => pf d3 22 3 (d3 40 3) (fun d4 => pf d4 22 4 (d4 40 4) (fun d5 => pf d5 22 5 (d5 40 5) (fun d6 => pf d6 22 6 (d6 40 6) (fun d7 => pf d7 22 7 (d7 40 7) (fun d8 => rt 0 d8))))))))
set_option maxRecDepth 100000 in
theorem t_X2_copyFrom_22_40 {G : G9} {l : Launch} (h1 : va_D (A9 G) (wl G (fun _ _ => 0))) (h2 : l.stackTraces = false) (d : D9) : MT G l yX2_copyFrom cX2_copyFrom 2 z_X2_copyFrom_22_40 [rf G 22, rf G 40] d (m_X2_copyFrom_22_40  d) := by
  refine mt_of (own := RX2) (by decide) rfl (Nat.le_of_ble_eq_true rfl) h1 h2 [(0, rf G 22), (1, rf G 40)] rfl (fun X hX C => ?_)
  unfold m_X2_copyFrom_22_40
  refine r_aload_n C 0 dX2_copyFrom_0 rfl rfl ?_
  refine r_aload_n C 1 dX2_copyFrom_1 rfl rfl ?_
  refine r_getI C dX2_copyFrom_2 fl_X2_14 la_40 ly_40 rfl ?_
  refine r_putI C dX2_copyFrom_5 fp_X2_14 la_22 ly_22 rfl (fun d1 => ?_)
  refine r_aload_n C 0 dX2_copyFrom_8 rfl rfl ?_
  refine r_aload_n C 1 dX2_copyFrom_9 rfl rfl ?_
  refine r_getI C dX2_copyFrom_10 fl_X2_18 la_40 ly_40 rfl ?_
  refine r_putI C dX2_copyFrom_13 fp_X2_18 la_22 ly_22 rfl (fun d2 => ?_)
  refine r_aload_n C 0 dX2_copyFrom_16 rfl rfl ?_
  refine r_aload_n C 1 dX2_copyFrom_17 rfl rfl ?_
  refine r_getI C dX2_copyFrom_18 fl_X2_21 la_40 ly_40 rfl ?_
  refine r_putI C dX2_copyFrom_21 fp_X2_21 la_22 ly_22 rfl (fun d3 => ?_)
  refine r_aload_n C 0 dX2_copyFrom_24 rfl rfl ?_
  refine r_aload_n C 1 dX2_copyFrom_25 rfl rfl ?_
  refine r_getI C dX2_copyFrom_26 fl_X2_24 la_40 ly_40 rfl ?_
  refine r_putI C dX2_copyFrom_29 fp_X2_24 la_22 ly_22 rfl (fun d4 => ?_)
  refine r_aload_n C 0 dX2_copyFrom_32 rfl rfl ?_
  refine r_aload_n C 1 dX2_copyFrom_33 rfl rfl ?_
  refine r_getI C dX2_copyFrom_34 fl_X2_27 la_40 ly_40 rfl ?_
  refine r_putI C dX2_copyFrom_37 fp_X2_27 la_22 ly_22 rfl (fun d5 => ?_)
  refine r_aload_n C 0 dX2_copyFrom_40 rfl rfl ?_
  refine r_aload_n C 1 dX2_copyFrom_41 rfl rfl ?_
  refine r_getI C dX2_copyFrom_42 fl_X2_30 la_40 ly_40 rfl ?_
  refine r_putI C dX2_copyFrom_45 fp_X2_30 la_22 ly_22 rfl (fun d6 => ?_)
  refine r_aload_n C 0 dX2_copyFrom_48 rfl rfl ?_
  refine r_aload_n C 1 dX2_copyFrom_49 rfl rfl ?_
  refine r_getI C dX2_copyFrom_50 fl_X2_33 la_40 ly_40 rfl ?_
  refine r_putI C dX2_copyFrom_53 fp_X2_33 la_22 ly_22 rfl (fun d7 => ?_)
  refine r_aload_n C 0 dX2_copyFrom_56 rfl rfl ?_
  refine r_aload_n C 1 dX2_copyFrom_57 rfl rfl ?_
  refine r_getI C dX2_copyFrom_58 fl_X2_36 la_40 ly_40 rfl ?_
  refine r_putI C dX2_copyFrom_61 fp_X2_36 la_22 ly_22 rfl (fun d8 => ?_)
  exact r_vret C dX2_copyFrom_64 (by decide) (by decide)
theorem dX6_clockAll_0 : decode cX6_clockAll 0 = .ok (.iconst 0, 1) := by decide +kernel
theorem dX6_clockAll_1 : decode cX6_clockAll 1 = .ok (.istore_n 2, 1) := by decide +kernel
theorem dX6_clockAll_2 : decode cX6_clockAll 2 = .ok (.iload_n 2, 1) := by decide +kernel
theorem dX6_clockAll_3 : decode cX6_clockAll 3 = .ok (.aload_n 0, 1) := by decide +kernel
theorem dX6_clockAll_4 : decode cX6_clockAll 4 = .ok (.getfield 48, 3) := by decide +kernel
theorem dX6_clockAll_7 : decode cX6_clockAll 7 = .ok (.if_icmp .ge 42, 3) := by decide +kernel
theorem dX6_clockAll_10 : decode cX6_clockAll 10 = .ok (.iconst 0, 1) := by decide +kernel
theorem dX6_clockAll_11 : decode cX6_clockAll 11 = .ok (.istore_n 3, 1) := by decide +kernel
theorem dX6_clockAll_12 : decode cX6_clockAll 12 = .ok (.iload_n 3, 1) := by decide +kernel
theorem dX6_clockAll_13 : decode cX6_clockAll 13 = .ok (.aload_n 0, 1) := by decide +kernel
theorem dX6_clockAll_14 : decode cX6_clockAll 14 = .ok (.getfield 24, 3) := by decide +kernel
theorem dX6_clockAll_17 : decode cX6_clockAll 17 = .ok (.iload_n 2, 1) := by decide +kernel
theorem dX6_clockAll_18 : decode cX6_clockAll 18 = .ok (.iaload, 1) := by decide +kernel
theorem dX6_clockAll_19 : decode cX6_clockAll 19 = .ok (.if_icmp .ge 19, 3) := by decide +kernel
theorem dX6_clockAll_22 : decode cX6_clockAll 22 = .ok (.aload_n 0, 1) := by decide +kernel
theorem dX6_clockAll_23 : decode cX6_clockAll 23 = .ok (.iload_n 2, 1) := by decide +kernel
theorem dX6_clockAll_24 : decode cX6_clockAll 24 = .ok (.iconst 4, 1) := by decide +kernel
theorem dX6_clockAll_25 : decode cX6_clockAll 25 = .ok (.imul, 1) := by decide +kernel
theorem dX6_clockAll_26 : decode cX6_clockAll 26 = .ok (.iload_n 3, 1) := by decide +kernel
theorem dX6_clockAll_27 : decode cX6_clockAll 27 = .ok (.iadd, 1) := by decide +kernel
theorem dX6_clockAll_28 : decode cX6_clockAll 28 = .ok (.aload_n 1, 1) := by decide +kernel
theorem dX6_clockAll_29 : decode cX6_clockAll 29 = .ok (.invokevirtual 56, 3) := by decide +kernel
theorem dX6_clockAll_32 : decode cX6_clockAll 32 = .ok (.iinc 3 1, 3) := by decide +kernel
theorem dX6_clockAll_35 : decode cX6_clockAll 35 = .ok (.goto (-23), 3) := by decide +kernel
theorem dX6_clockAll_38 : decode cX6_clockAll 38 = .ok (.aload_n 0, 1) := by decide +kernel
theorem dX6_clockAll_39 : decode cX6_clockAll 39 = .ok (.iload_n 2, 1) := by decide +kernel
theorem dX6_clockAll_40 : decode cX6_clockAll 40 = .ok (.invokevirtual 60, 3) := by decide +kernel
theorem dX6_clockAll_43 : decode cX6_clockAll 43 = .ok (.iinc 2 1, 3) := by decide +kernel
theorem dX6_clockAll_46 : decode cX6_clockAll 46 = .ok (.goto (-44), 3) := by decide +kernel
theorem dX6_clockAll_49 : decode cX6_clockAll 49 = .ok (.return_, 1) := by decide +kernel
abbrev z_X6_clockAll_9_22 : Z9 := (none, 0, 0, 0, 6, 155)
def b_X6_clockAll_9_22_c12 (k_X6_clockAll_9_22_c2 : Int → D9 → Option R9) (k_X6_clockAll_9_22_c12 : Int → Int → D9 → Option R9) (v2 v3 : Int) (d : D9) : Option R9 := ld d 14 30 v2 (fun t1 => if w32 t1 ≤ w32 v3 then cl (m_X6_judge_9 v2 d) (fun r2 d3 => k_X6_clockAll_9_22_c2 (v2 + 1) d3) else cl (m_X6_clockCell_9_22 ((v2 * 4) + v3) d) (fun r4 d5 => k_X6_clockAll_9_22_c12 v2 (v3 + 1) d5))
def m_X6_clockAll_9_22_c12 (k_X6_clockAll_9_22_c2 : Int → D9 → Option R9) : Int → Int → D9 → Option R9 := fix9 (fun _ _ _ => none) (fun k => b_X6_clockAll_9_22_c12 k_X6_clockAll_9_22_c2 k) FU
def b_X6_clockAll_9_22_c2 (k_X6_clockAll_9_22_c2 : Int → D9 → Option R9) (v2 : Int) (d : D9) : Option R9 := if w32 (d 9 0) ≤ w32 v2 then rt 0 d else m_X6_clockAll_9_22_c12 k_X6_clockAll_9_22_c2 v2 0 d
def m_X6_clockAll_9_22_c2 : Int → D9 → Option R9 := fix9 (fun _ _ => none) (fun k => b_X6_clockAll_9_22_c2 k) FU
def m_X6_clockAll_9_22 (d : D9) : Option R9 := m_X6_clockAll_9_22_c2  0 d
set_option maxRecDepth 100000 in
theorem sb_X6_clockAll_9_22_c12 {G : G9} {X : X9} (C : CX G X cX6_clockAll 4 RX6 [] z_X6_clockAll_9_22) (k_X6_clockAll_9_22_c2 : Int → D9 → Option R9) (hk_X6_clockAll_9_22_c2 : ∀ (v2 : Int) (d : D9), SS G X 4 0 0 2 [(0, rf G 9), (1, rf G 22), (2, i9 v2)] [] d (k_X6_clockAll_9_22_c2 v2 d)) (k_X6_clockAll_9_22_c12 : Int → Int → D9 → Option R9) (hk_X6_clockAll_9_22_c12 : ∀ (v2 v3 : Int) (d : D9), SS G X 4 0 0 12 [(0, rf G 9), (1, rf G 22), (2, i9 v2), (3, i9 v3)] [] d (k_X6_clockAll_9_22_c12 v2 v3 d)) : ∀ (v2 v3 : Int) (d : D9), SS G X 4 0 0 12 [(0, rf G 9), (1, rf G 22), (2, i9 v2), (3, i9 v3)] [] d (b_X6_clockAll_9_22_c12 k_X6_clockAll_9_22_c2 k_X6_clockAll_9_22_c12 v2 v3 d) := by
  intro v2 v3 d
  unfold b_X6_clockAll_9_22_c12
  refine r_iload_n C 3 dX6_clockAll_12 rfl rfl ?_
  refine r_aload_n C 0 dX6_clockAll_13 rfl rfl ?_
  refine r_getR C 14 dX6_clockAll_14 fl_X6_24 la_9 ly_9 rfl rfl ?_
  refine r_iload_n C 2 dX6_clockAll_17 rfl rfl ?_
  refine r_iald C dX6_clockAll_18 la_14 ly_14 (fun t1 => ?_)
  refine r_icmp_ge C 38 dX6_clockAll_19 (by decide) (fun _ => ?_) (fun _ => ?_)
  · refine r_aload_n C 0 dX6_clockAll_38 rfl rfl ?_
    refine r_iload_n C 2 dX6_clockAll_39 rfl rfl ?_
    refine r_callV C [i9 v2, rf G 9] dX6_clockAll_40 (t_X6_judge_9 C.h1 C.h2 v2 d) mw_X6_60 mv_X6_judge la_9 ly_9 rfl (by decide) (by decide) (by decide) rfl rfl (Nat.le_of_ble_eq_true rfl) (fun r2 d3 => ?_)
    show SS G X 4 _ _ 43 [(0, rf G 9), (1, rf G 22), (2, i9 v2), (3, i9 v3)] [] d3 _
    refine r_iinc C 2 [(2, i9 (v2 + 1)), (0, rf G 9), (1, rf G 22), (3, i9 v3)] dX6_clockAll_43 rfl (by decide) rfl ?_
    refine r_goto C 2 dX6_clockAll_46 (by decide) ?_
    refine ss_wide (k' := 0) (n' := 0) (by decide) (by decide) ?_
    refine ss_ls [(0, rf G 9), (1, rf G 22), (2, i9 (v2 + 1))] [1, 2, 0] rfl ?_
    exact hk_X6_clockAll_9_22_c2 (v2 + 1) d3
  · refine r_aload_n C 0 dX6_clockAll_22 rfl rfl ?_
    refine r_iload_n C 2 dX6_clockAll_23 rfl rfl ?_
    refine r_iconst C dX6_clockAll_24 ?_
    refine r_imul C dX6_clockAll_25 ?_
    refine r_iload_n C 3 dX6_clockAll_26 rfl rfl ?_
    refine r_iadd C dX6_clockAll_27 ?_
    refine r_aload_n C 1 dX6_clockAll_28 rfl rfl ?_
    refine r_callV C [rf G 22, i9 ((v2 * 4) + v3), rf G 9] dX6_clockAll_29 (t_X6_clockCell_9_22 C.h1 C.h2 ((v2 * 4) + v3) d) mw_X6_56 mv_X6_clockCell la_9 ly_9 rfl (by decide) (by decide) (by decide) rfl rfl (Nat.le_of_ble_eq_true rfl) (fun r4 d5 => ?_)
    show SS G X 4 _ _ 32 [(0, rf G 9), (1, rf G 22), (2, i9 v2), (3, i9 v3)] [] d5 _
    refine r_iinc C 3 [(3, i9 (v3 + 1)), (0, rf G 9), (1, rf G 22), (2, i9 v2)] dX6_clockAll_32 rfl (by decide) rfl ?_
    refine r_goto C 12 dX6_clockAll_35 (by decide) ?_
    refine ss_wide (k' := 0) (n' := 0) (by decide) (by decide) ?_
    refine ss_ls [(0, rf G 9), (1, rf G 22), (2, i9 v2), (3, i9 (v3 + 1))] [1, 2, 3, 0] rfl ?_
    exact hk_X6_clockAll_9_22_c12 v2 (v3 + 1) d5
theorem s_X6_clockAll_9_22_c12 {G : G9} {X : X9} (C : CX G X cX6_clockAll 4 RX6 [] z_X6_clockAll_9_22) (k_X6_clockAll_9_22_c2 : Int → D9 → Option R9) (hk_X6_clockAll_9_22_c2 : ∀ (v2 : Int) (d : D9), SS G X 4 0 0 2 [(0, rf G 9), (1, rf G 22), (2, i9 v2)] [] d (k_X6_clockAll_9_22_c2 v2 d)) : ∀ (v2 v3 : Int) (d : D9), SS G X 4 0 0 12 [(0, rf G 9), (1, rf G 22), (2, i9 v2), (3, i9 v3)] [] d (m_X6_clockAll_9_22_c12 k_X6_clockAll_9_22_c2 v2 v3 d) :=
  fix9_ind (P := fun k => ∀ (v2 v3 : Int) (d : D9), SS G X 4 0 0 12 [(0, rf G 9), (1, rf G 22), (2, i9 v2), (3, i9 v3)] [] d (k v2 v3 d)) (fun _ _ _ => ss_none) (fun k hk => sb_X6_clockAll_9_22_c12 C k_X6_clockAll_9_22_c2 hk_X6_clockAll_9_22_c2 k hk) FU
set_option maxRecDepth 100000 in
theorem sb_X6_clockAll_9_22_c2 {G : G9} {X : X9} (C : CX G X cX6_clockAll 4 RX6 [] z_X6_clockAll_9_22) (k_X6_clockAll_9_22_c2 : Int → D9 → Option R9) (hk_X6_clockAll_9_22_c2 : ∀ (v2 : Int) (d : D9), SS G X 4 0 0 2 [(0, rf G 9), (1, rf G 22), (2, i9 v2)] [] d (k_X6_clockAll_9_22_c2 v2 d)) : ∀ (v2 : Int) (d : D9), SS G X 4 0 0 2 [(0, rf G 9), (1, rf G 22), (2, i9 v2)] [] d (b_X6_clockAll_9_22_c2 k_X6_clockAll_9_22_c2 v2 d) := by
  intro v2 d
  unfold b_X6_clockAll_9_22_c2
  refine r_iload_n C 2 dX6_clockAll_2 rfl rfl ?_
  refine r_aload_n C 0 dX6_clockAll_3 rfl rfl ?_
  refine r_getI C dX6_clockAll_4 fl_X6_48 la_9 ly_9 rfl ?_
  refine r_icmp_ge C 49 dX6_clockAll_7 (by decide) (fun _ => ?_) (fun _ => ?_)
  · exact r_vret C dX6_clockAll_49 (by decide) (by decide)
  · refine r_iconst C dX6_clockAll_10 ?_
    refine r_istore_n C [(3, i9 0), (0, rf G 9), (1, rf G 22), (2, i9 v2)] dX6_clockAll_11 rfl (by decide) rfl ?_
    refine ss_wide (k' := 0) (n' := 0) (by decide) (by decide) ?_
    refine ss_ls [(0, rf G 9), (1, rf G 22), (2, i9 v2), (3, i9 0)] [1, 2, 3, 0] rfl ?_
    exact s_X6_clockAll_9_22_c12 C k_X6_clockAll_9_22_c2 hk_X6_clockAll_9_22_c2 v2 0 d
theorem s_X6_clockAll_9_22_c2 {G : G9} {X : X9} (C : CX G X cX6_clockAll 4 RX6 [] z_X6_clockAll_9_22) : ∀ (v2 : Int) (d : D9), SS G X 4 0 0 2 [(0, rf G 9), (1, rf G 22), (2, i9 v2)] [] d (m_X6_clockAll_9_22_c2  v2 d) :=
  fix9_ind (P := fun k => ∀ (v2 : Int) (d : D9), SS G X 4 0 0 2 [(0, rf G 9), (1, rf G 22), (2, i9 v2)] [] d (k v2 d)) (fun _ _ => ss_none) (fun k hk => sb_X6_clockAll_9_22_c2 C k hk) FU
set_option maxRecDepth 100000 in
theorem t_X6_clockAll_9_22 {G : G9} {l : Launch} (h1 : va_D (A9 G) (wl G (fun _ _ => 0))) (h2 : l.stackTraces = false) (d : D9) : MT G l yX6_clockAll cX6_clockAll 4 z_X6_clockAll_9_22 [rf G 9, rf G 22] d (m_X6_clockAll_9_22  d) := by
  refine mt_of (own := RX6) (by decide) rfl (Nat.le_of_ble_eq_true rfl) h1 h2 [(0, rf G 9), (1, rf G 22)] rfl (fun X hX C => ?_)
  unfold m_X6_clockAll_9_22
  refine r_iconst C dX6_clockAll_0 ?_
  refine r_istore_n C [(2, i9 0), (0, rf G 9), (1, rf G 22)] dX6_clockAll_1 rfl (by decide) rfl ?_
  refine ss_wide (k' := 0) (n' := 0) (by decide) (by decide) ?_
  refine ss_ls [(0, rf G 9), (1, rf G 22), (2, i9 0)] [1, 2, 0] rfl ?_
  exact s_X6_clockAll_9_22_c2 C  0 d
theorem dX11_law_0 : decode cX11_law 0 = .ok (.iload_n 1, 1) := by decide +kernel
theorem dX11_law_1 : decode cX11_law 1 = .ok (.iconst 0, 1) := by decide +kernel
theorem dX11_law_2 : decode cX11_law 2 = .ok (.aload_n 0, 1) := by decide +kernel
theorem dX11_law_3 : decode cX11_law 3 = .ok (.getfield 48, 3) := by decide +kernel
theorem dX11_law_6 : decode cX11_law 6 = .ok (.getfield 159, 3) := by decide +kernel
theorem dX11_law_9 : decode cX11_law 9 = .ok (.invokestatic 73, 3) := by decide +kernel
theorem dX11_law_12 : decode cX11_law 12 = .ok (.aload_n 0, 1) := by decide +kernel
theorem dX11_law_13 : decode cX11_law 13 = .ok (.getfield 48, 3) := by decide +kernel
theorem dX11_law_16 : decode cX11_law 16 = .ok (.iload_n 1, 1) := by decide +kernel
theorem dX11_law_17 : decode cX11_law 17 = .ok (.invokevirtual 166, 3) := by decide +kernel
theorem dX11_law_20 : decode cX11_law 20 = .ok (.aload_n 0, 1) := by decide +kernel
theorem dX11_law_21 : decode cX11_law 21 = .ok (.getfield 27, 3) := by decide +kernel
theorem dX11_law_24 : decode cX11_law 24 = .ok (.aload_n 0, 1) := by decide +kernel
theorem dX11_law_25 : decode cX11_law 25 = .ok (.getfield 48, 3) := by decide +kernel
theorem dX11_law_28 : decode cX11_law 28 = .ok (.invokevirtual 169, 3) := by decide +kernel
theorem dX11_law_31 : decode cX11_law 31 = .ok (.aload_n 0, 1) := by decide +kernel
theorem dX11_law_32 : decode cX11_law 32 = .ok (.getfield 48, 3) := by decide +kernel
theorem dX11_law_35 : decode cX11_law 35 = .ok (.invokevirtual 173, 3) := by decide +kernel
theorem dX11_law_38 : decode cX11_law 38 = .ok (.ifCond .eq 14, 3) := by decide +kernel
theorem dX11_law_41 : decode cX11_law 41 = .ok (.bipush (-10), 2) := by decide +kernel
theorem dX11_law_43 : decode cX11_law 43 = .ok (.aload_n 0, 1) := by decide +kernel
theorem dX11_law_44 : decode cX11_law 44 = .ok (.getfield 48, 3) := by decide +kernel
theorem dX11_law_47 : decode cX11_law 47 = .ok (.getfield 177, 3) := by decide +kernel
theorem dX11_law_50 : decode cX11_law 50 = .ok (.isub, 1) := by decide +kernel
theorem dX11_law_51 : decode cX11_law 51 = .ok (.ireturn, 1) := by decide +kernel
theorem dX11_law_52 : decode cX11_law 52 = .ok (.aload_n 0, 1) := by decide +kernel
theorem dX11_law_53 : decode cX11_law 53 = .ok (.getfield 27, 3) := by decide +kernel
theorem dX11_law_56 : decode cX11_law 56 = .ok (.aload_n 0, 1) := by decide +kernel
theorem dX11_law_57 : decode cX11_law 57 = .ok (.getfield 10, 3) := by decide +kernel
theorem dX11_law_60 : decode cX11_law 60 = .ok (.getfield 137, 3) := by decide +kernel
theorem dX11_law_63 : decode cX11_law 63 = .ok (.invokevirtual 180, 3) := by decide +kernel
theorem dX11_law_66 : decode cX11_law 66 = .ok (.istore_n 2, 1) := by decide +kernel
theorem dX11_law_67 : decode cX11_law 67 = .ok (.aload_n 0, 1) := by decide +kernel
theorem dX11_law_68 : decode cX11_law 68 = .ok (.getfield 10, 3) := by decide +kernel
theorem dX11_law_71 : decode cX11_law 71 = .ok (.getfield 137, 3) := by decide +kernel
theorem dX11_law_74 : decode cX11_law 74 = .ok (.aload_n 0, 1) := by decide +kernel
theorem dX11_law_75 : decode cX11_law 75 = .ok (.getfield 27, 3) := by decide +kernel
theorem dX11_law_78 : decode cX11_law 78 = .ok (.invokevirtual 184, 3) := by decide +kernel
theorem dX11_law_81 : decode cX11_law 81 = .ok (.iload_n 2, 1) := by decide +kernel
theorem dX11_law_82 : decode cX11_law 82 = .ok (.ifCond .ne 20, 3) := by decide +kernel
theorem dX11_law_85 : decode cX11_law 85 = .ok (.aload_n 0, 1) := by decide +kernel
theorem dX11_law_86 : decode cX11_law 86 = .ok (.getfield 10, 3) := by decide +kernel
theorem dX11_law_89 : decode cX11_law 89 = .ok (.getfield 122, 3) := by decide +kernel
theorem dX11_law_92 : decode cX11_law 92 = .ok (.aload_n 0, 1) := by decide +kernel
theorem dX11_law_93 : decode cX11_law 93 = .ok (.getfield 10, 3) := by decide +kernel
theorem dX11_law_96 : decode cX11_law 96 = .ok (.getfield 137, 3) := by decide +kernel
theorem dX11_law_99 : decode cX11_law 99 = .ok (.invokevirtual 188, 3) := by decide +kernel
theorem dX11_law_102 : decode cX11_law 102 = .ok (.aload_n 0, 1) := by decide +kernel
theorem dX11_law_103 : decode cX11_law 103 = .ok (.getfield 10, 3) := by decide +kernel
theorem dX11_law_106 : decode cX11_law 106 = .ok (.getfield 137, 3) := by decide +kernel
theorem dX11_law_109 : decode cX11_law 109 = .ok (.getfield 191, 3) := by decide +kernel
theorem dX11_law_112 : decode cX11_law 112 = .ok (.ireturn, 1) := by decide +kernel
abbrev z_X11_law_0 : Z9 := (some .int, 1, 1, 6, 14, 382)
def m_X11_law_0 (p1 : Int) (d : D9) : Option R9 := cl (m_X11_askWithin p1 0 (d 51 1) d) (fun r1 d2 => cl (m_X8_begin_51 p1 d2) (fun r3 d4 => cl (m_X2_readFrom_40_51 d4) (fun r5 d6 => cl (m_X8_failed_51 d6) (fun r7 d8 => if w32 r7 = 0 then cl (m_X2_clocksLike_40_22 d8) (fun r9 d10 => cl (m_X2_copyFrom_22_40 d10) (fun r11 d12 => if w32 r9 ≠ 0 then rt (d12 22 0) d12 else cl (m_X6_clockAll_9_22 d12) (fun r13 d14 => rt (d14 22 0) d14))) else rt ((-10) - (d8 51 2)) d8))))
set_option maxRecDepth 100000 in
theorem t_X11_law_0 {G : G9} {l : Launch} (h1 : va_D (A9 G) (wl G (fun _ _ => 0))) (h2 : l.stackTraces = false) (p1 : Int) (d : D9) : MT G l yX11_law cX11_law 3 z_X11_law_0 [rf G 0, i9 p1] d (m_X11_law_0 p1 d) := by
  refine mt_of (own := RX11) (by decide) rfl (Nat.le_of_ble_eq_true rfl) h1 h2 [(0, rf G 0), (1, i9 p1)] rfl (fun X hX C => ?_)
  unfold m_X11_law_0
  refine r_iload_n C 1 dX11_law_0 rfl rfl ?_
  refine r_iconst C dX11_law_1 ?_
  refine r_aload_n C 0 dX11_law_2 rfl rfl ?_
  refine r_getR C 51 dX11_law_3 fl_X11_48 la_0 ly_0 rfl rfl ?_
  refine r_getI C dX11_law_6 fl_X11_159 la_51 ly_51 rfl ?_
  refine r_callS C [i9 (d 51 1), i9 0, i9 p1] dX11_law_9 (t_X11_askWithin C.h1 C.h2 p1 0 (d 51 1) d) mw_X11_73 ms_X11_askWithin (by decide) (by decide) (by decide) rfl rfl (Nat.le_of_ble_eq_true rfl) (fun r1 d2 => ?_)
  show SS G X 3 _ _ 12 [(0, rf G 0), (1, i9 p1)] [] d2 _
  refine r_aload_n C 0 dX11_law_12 rfl rfl ?_
  refine r_getR C 51 dX11_law_13 fl_X11_48 la_0 ly_0 rfl rfl ?_
  refine r_iload_n C 1 dX11_law_16 rfl rfl ?_
  refine r_callV C [i9 p1, rf G 51] dX11_law_17 (t_X8_begin_51 C.h1 C.h2 p1 d2) mw_X11_166 mv_X8_begin la_51 ly_51 rfl (by decide) (by decide) (by decide) rfl rfl (Nat.le_of_ble_eq_true rfl) (fun r3 d4 => ?_)
  show SS G X 3 _ _ 20 [(0, rf G 0), (1, i9 p1)] [] d4 _
  refine r_aload_n C 0 dX11_law_20 rfl rfl ?_
  refine r_getR C 40 dX11_law_21 fl_X11_27 la_0 ly_0 rfl rfl ?_
  refine r_aload_n C 0 dX11_law_24 rfl rfl ?_
  refine r_getR C 51 dX11_law_25 fl_X11_48 la_0 ly_0 rfl rfl ?_
  refine r_callV C [rf G 51, rf G 40] dX11_law_28 (t_X2_readFrom_40_51 C.h1 C.h2 d4) mw_X11_169 mv_X2_readFrom la_40 ly_40 rfl (by decide) (by decide) (by decide) rfl rfl (Nat.le_of_ble_eq_true rfl) (fun r5 d6 => ?_)
  show SS G X 3 _ _ 31 [(0, rf G 0), (1, i9 p1)] [] d6 _
  refine r_aload_n C 0 dX11_law_31 rfl rfl ?_
  refine r_getR C 51 dX11_law_32 fl_X11_48 la_0 ly_0 rfl rfl ?_
  refine r_callV C [rf G 51] dX11_law_35 (t_X8_failed_51 C.h1 C.h2 d6) mw_X11_173 mv_X8_failed la_51 ly_51 rfl (by decide) (by decide) (by decide) rfl rfl (Nat.le_of_ble_eq_true rfl) (fun r7 d8 => ?_)
  show SS G X 3 _ _ 38 [(0, rf G 0), (1, i9 p1)] [i9 r7] d8 _
  refine r_if_eq C (b := 0) 52 dX11_law_38 (by decide) (fun _ => ?_) (fun _ => ?_)
  · refine r_aload_n C 0 dX11_law_52 rfl rfl ?_
    refine r_getR C 40 dX11_law_53 fl_X11_27 la_0 ly_0 rfl rfl ?_
    refine r_aload_n C 0 dX11_law_56 rfl rfl ?_
    refine r_getR C 1 dX11_law_57 fl_X11_10 la_0 ly_0 rfl rfl ?_
    refine r_getR C 22 dX11_law_60 fl_X11_137 la_1 ly_1 rfl rfl ?_
    refine r_callV C [rf G 22, rf G 40] dX11_law_63 (t_X2_clocksLike_40_22 C.h1 C.h2 d8) mw_X11_180 mv_X2_clocksLike la_40 ly_40 rfl (by decide) (by decide) (by decide) rfl rfl (Nat.le_of_ble_eq_true rfl) (fun r9 d10 => ?_)
    show SS G X 3 _ _ 66 [(0, rf G 0), (1, i9 p1)] [i9 r9] d10 _
    refine r_istore_n C [(2, i9 r9), (0, rf G 0), (1, i9 p1)] dX11_law_66 rfl (by decide) rfl ?_
    refine r_aload_n C 1 dX11_law_67 rfl rfl ?_
    refine r_getR C 1 dX11_law_68 fl_X11_10 la_0 ly_0 rfl rfl ?_
    refine r_getR C 22 dX11_law_71 fl_X11_137 la_1 ly_1 rfl rfl ?_
    refine r_aload_n C 1 dX11_law_74 rfl rfl ?_
    refine r_getR C 40 dX11_law_75 fl_X11_27 la_0 ly_0 rfl rfl ?_
    refine r_callV C [rf G 40, rf G 22] dX11_law_78 (t_X2_copyFrom_22_40 C.h1 C.h2 d10) mw_X11_184 mv_X2_copyFrom la_22 ly_22 rfl (by decide) (by decide) (by decide) rfl rfl (Nat.le_of_ble_eq_true rfl) (fun r11 d12 => ?_)
    show SS G X 3 _ _ 81 [(2, i9 r9), (0, rf G 0), (1, i9 p1)] [] d12 _
    refine r_iload_n C 0 dX11_law_81 rfl rfl ?_
    refine r_if_ne C (b := 0) 102 dX11_law_82 (by decide) (fun _ => ?_) (fun _ => ?_)
    · refine r_aload_n C 1 dX11_law_102 rfl rfl ?_
      refine r_getR C 1 dX11_law_103 fl_X11_10 la_0 ly_0 rfl rfl ?_
      refine r_getR C 22 dX11_law_106 fl_X11_137 la_1 ly_1 rfl rfl ?_
      refine r_getI C dX11_law_109 fl_X11_191 la_22 ly_22 rfl ?_
      exact r_iret C dX11_law_112 (by decide) (by decide)
    · refine r_aload_n C 1 dX11_law_85 rfl rfl ?_
      refine r_getR C 1 dX11_law_86 fl_X11_10 la_0 ly_0 rfl rfl ?_
      refine r_getR C 9 dX11_law_89 fl_X11_122 la_1 ly_1 rfl rfl ?_
      refine r_aload_n C 1 dX11_law_92 rfl rfl ?_
      refine r_getR C 1 dX11_law_93 fl_X11_10 la_0 ly_0 rfl rfl ?_
      refine r_getR C 22 dX11_law_96 fl_X11_137 la_1 ly_1 rfl rfl ?_
      refine r_callV C [rf G 22, rf G 9] dX11_law_99 (t_X6_clockAll_9_22 C.h1 C.h2 d12) mw_X11_188 mv_X6_clockAll la_9 ly_9 rfl (by decide) (by decide) (by decide) rfl rfl (Nat.le_of_ble_eq_true rfl) (fun r13 d14 => ?_)
      show SS G X 3 _ _ 102 [(2, i9 r9), (0, rf G 0), (1, i9 p1)] [] d14 _
      refine r_aload_n C 1 dX11_law_102 rfl rfl ?_
      refine r_getR C 1 dX11_law_103 fl_X11_10 la_0 ly_0 rfl rfl ?_
      refine r_getR C 22 dX11_law_106 fl_X11_137 la_1 ly_1 rfl rfl ?_
      refine r_getI C dX11_law_109 fl_X11_191 la_22 ly_22 rfl ?_
      exact r_iret C dX11_law_112 (by decide) (by decide)
  · refine r_bipush C dX11_law_41 rfl ?_
    refine r_aload_n C 0 dX11_law_43 rfl rfl ?_
    refine r_getR C 51 dX11_law_44 fl_X11_48 la_0 ly_0 rfl rfl ?_
    refine r_getI C dX11_law_47 fl_X11_177 la_51 ly_51 rfl ?_
    refine r_isub C dX11_law_50 ?_
    exact r_iret C dX11_law_51 (by decide) (by decide)
theorem dX11_layer_0 : decode cX11_layer 0 = .ok (.aload_n 0, 1) := by decide +kernel
theorem dX11_layer_1 : decode cX11_layer 1 = .ok (.iload_n 1, 1) := by decide +kernel
theorem dX11_layer_2 : decode cX11_layer 2 = .ok (.invokevirtual 131, 3) := by decide +kernel
theorem dX11_layer_5 : decode cX11_layer 5 = .ok (.iload_n 2, 1) := by decide +kernel
theorem dX11_layer_6 : decode cX11_layer 6 = .ok (.iconst 0, 1) := by decide +kernel
theorem dX11_layer_7 : decode cX11_layer 7 = .ok (.sipush 9999, 3) := by decide +kernel
theorem dX11_layer_10 : decode cX11_layer 10 = .ok (.invokestatic 73, 3) := by decide +kernel
theorem dX11_layer_13 : decode cX11_layer 13 = .ok (.iload_n 3, 1) := by decide +kernel
theorem dX11_layer_14 : decode cX11_layer 14 = .ok (.iconst 0, 1) := by decide +kernel
theorem dX11_layer_15 : decode cX11_layer 15 = .ok (.sipush 9999, 3) := by decide +kernel
theorem dX11_layer_18 : decode cX11_layer 18 = .ok (.invokestatic 73, 3) := by decide +kernel
theorem dX11_layer_21 : decode cX11_layer 21 = .ok (.iload 4, 2) := by decide +kernel
theorem dX11_layer_23 : decode cX11_layer 23 = .ok (.iconst 0, 1) := by decide +kernel
theorem dX11_layer_24 : decode cX11_layer 24 = .ok (.sipush 9999, 3) := by decide +kernel
theorem dX11_layer_27 : decode cX11_layer 27 = .ok (.invokestatic 73, 3) := by decide +kernel
theorem dX11_layer_30 : decode cX11_layer 30 = .ok (.aload_n 0, 1) := by decide +kernel
theorem dX11_layer_31 : decode cX11_layer 31 = .ok (.getfield 10, 3) := by decide +kernel
theorem dX11_layer_34 : decode cX11_layer 34 = .ok (.getfield 122, 3) := by decide +kernel
theorem dX11_layer_37 : decode cX11_layer 37 = .ok (.getfield 134, 3) := by decide +kernel
theorem dX11_layer_40 : decode cX11_layer 40 = .ok (.iload_n 1, 1) := by decide +kernel
theorem dX11_layer_41 : decode cX11_layer 41 = .ok (.iaload, 1) := by decide +kernel
theorem dX11_layer_42 : decode cX11_layer 42 = .ok (.iconst 4, 1) := by decide +kernel
theorem dX11_layer_43 : decode cX11_layer 43 = .ok (.if_icmp .lt 5, 3) := by decide +kernel
theorem dX11_layer_46 : decode cX11_layer 46 = .ok (.iconst (-1), 1) := by decide +kernel
theorem dX11_layer_47 : decode cX11_layer 47 = .ok (.ireturn, 1) := by decide +kernel
theorem dX11_layer_48 : decode cX11_layer 48 = .ok (.aload_n 0, 1) := by decide +kernel
theorem dX11_layer_49 : decode cX11_layer 49 = .ok (.getfield 10, 3) := by decide +kernel
theorem dX11_layer_52 : decode cX11_layer 52 = .ok (.getfield 122, 3) := by decide +kernel
theorem dX11_layer_55 : decode cX11_layer 55 = .ok (.iload_n 1, 1) := by decide +kernel
theorem dX11_layer_56 : decode cX11_layer 56 = .ok (.iload_n 2, 1) := by decide +kernel
theorem dX11_layer_57 : decode cX11_layer 57 = .ok (.iload_n 3, 1) := by decide +kernel
theorem dX11_layer_58 : decode cX11_layer 58 = .ok (.iload 4, 2) := by decide +kernel
theorem dX11_layer_60 : decode cX11_layer 60 = .ok (.aload_n 0, 1) := by decide +kernel
theorem dX11_layer_61 : decode cX11_layer 61 = .ok (.getfield 10, 3) := by decide +kernel
theorem dX11_layer_64 : decode cX11_layer 64 = .ok (.getfield 137, 3) := by decide +kernel
theorem dX11_layer_67 : decode cX11_layer 67 = .ok (.invokevirtual 140, 3) := by decide +kernel
theorem dX11_layer_70 : decode cX11_layer 70 = .ok (.ireturn, 1) := by decide +kernel
abbrev z_X11_layer_0 : Z9 := (some .int, 1, 4, 24, 7, 182)
def m_X11_layer_0 (p1 p2 p3 p4 : Int) (d : D9) : Option R9 := cl (m_X11_askSkin_0 p1 d) (fun r1 d2 => cl (m_X11_askWithin p2 0 9999 d2) (fun r3 d4 => cl (m_X11_askWithin p3 0 9999 d4) (fun r5 d6 => cl (m_X11_askWithin p4 0 9999 d6) (fun r7 d8 => ld d8 14 30 p1 (fun t9 => if w32 t9 < w32 4 then cl (m_X6_addLayer_9_22 p1 p2 p3 p4 d8) (fun r10 d11 => rt r10 d11) else rt (-1) d8)))))
set_option maxRecDepth 100000 in
theorem t_X11_layer_0 {G : G9} {l : Launch} (h1 : va_D (A9 G) (wl G (fun _ _ => 0))) (h2 : l.stackTraces = false) (p1 p2 p3 p4 : Int) (d : D9) : MT G l yX11_layer cX11_layer 5 z_X11_layer_0 [rf G 0, i9 p1, i9 p2, i9 p3, i9 p4] d (m_X11_layer_0 p1 p2 p3 p4 d) := by
  refine mt_of (own := RX11) (by decide) rfl (Nat.le_of_ble_eq_true rfl) h1 h2 [(0, rf G 0), (1, i9 p1), (2, i9 p2), (3, i9 p3), (4, i9 p4)] rfl (fun X hX C => ?_)
  unfold m_X11_layer_0
  refine r_aload_n C 0 dX11_layer_0 rfl rfl ?_
  refine r_iload_n C 1 dX11_layer_1 rfl rfl ?_
  refine r_callV C [i9 p1, rf G 0] dX11_layer_2 (t_X11_askSkin_0 C.h1 C.h2 p1 d) mw_X11_131 mv_X11_askSkin la_0 ly_0 rfl (by decide) (by decide) (by decide) rfl rfl (Nat.le_of_ble_eq_true rfl) (fun r1 d2 => ?_)
  show SS G X 5 _ _ 5 [(0, rf G 0), (1, i9 p1), (2, i9 p2), (3, i9 p3), (4, i9 p4)] [] d2 _
  refine r_iload_n C 2 dX11_layer_5 rfl rfl ?_
  refine r_iconst C dX11_layer_6 ?_
  refine r_sipush C dX11_layer_7 rfl ?_
  refine r_callS C [i9 9999, i9 0, i9 p2] dX11_layer_10 (t_X11_askWithin C.h1 C.h2 p2 0 9999 d2) mw_X11_73 ms_X11_askWithin (by decide) (by decide) (by decide) rfl rfl (Nat.le_of_ble_eq_true rfl) (fun r3 d4 => ?_)
  show SS G X 5 _ _ 13 [(0, rf G 0), (1, i9 p1), (2, i9 p2), (3, i9 p3), (4, i9 p4)] [] d4 _
  refine r_iload_n C 3 dX11_layer_13 rfl rfl ?_
  refine r_iconst C dX11_layer_14 ?_
  refine r_sipush C dX11_layer_15 rfl ?_
  refine r_callS C [i9 9999, i9 0, i9 p3] dX11_layer_18 (t_X11_askWithin C.h1 C.h2 p3 0 9999 d4) mw_X11_73 ms_X11_askWithin (by decide) (by decide) (by decide) rfl rfl (Nat.le_of_ble_eq_true rfl) (fun r5 d6 => ?_)
  show SS G X 5 _ _ 21 [(0, rf G 0), (1, i9 p1), (2, i9 p2), (3, i9 p3), (4, i9 p4)] [] d6 _
  refine r_iload C 4 dX11_layer_21 rfl ?_
  refine r_iconst C dX11_layer_23 ?_
  refine r_sipush C dX11_layer_24 rfl ?_
  refine r_callS C [i9 9999, i9 0, i9 p4] dX11_layer_27 (t_X11_askWithin C.h1 C.h2 p4 0 9999 d6) mw_X11_73 ms_X11_askWithin (by decide) (by decide) (by decide) rfl rfl (Nat.le_of_ble_eq_true rfl) (fun r7 d8 => ?_)
  show SS G X 5 _ _ 30 [(0, rf G 0), (1, i9 p1), (2, i9 p2), (3, i9 p3), (4, i9 p4)] [] d8 _
  refine r_aload_n C 0 dX11_layer_30 rfl rfl ?_
  refine r_getR C 1 dX11_layer_31 fl_X11_10 la_0 ly_0 rfl rfl ?_
  refine r_getR C 9 dX11_layer_34 fl_X11_122 la_1 ly_1 rfl rfl ?_
  refine r_getR C 14 dX11_layer_37 fl_X11_134 la_9 ly_9 rfl rfl ?_
  refine r_iload_n C 1 dX11_layer_40 rfl rfl ?_
  refine r_iald C dX11_layer_41 la_14 ly_14 (fun t9 => ?_)
  refine r_iconst C dX11_layer_42 ?_
  refine r_icmp_lt C 48 dX11_layer_43 (by decide) (fun _ => ?_) (fun _ => ?_)
  · refine r_aload_n C 0 dX11_layer_48 rfl rfl ?_
    refine r_getR C 1 dX11_layer_49 fl_X11_10 la_0 ly_0 rfl rfl ?_
    refine r_getR C 9 dX11_layer_52 fl_X11_122 la_1 ly_1 rfl rfl ?_
    refine r_iload_n C 1 dX11_layer_55 rfl rfl ?_
    refine r_iload_n C 2 dX11_layer_56 rfl rfl ?_
    refine r_iload_n C 3 dX11_layer_57 rfl rfl ?_
    refine r_iload C 4 dX11_layer_58 rfl ?_
    refine r_aload_n C 0 dX11_layer_60 rfl rfl ?_
    refine r_getR C 1 dX11_layer_61 fl_X11_10 la_0 ly_0 rfl rfl ?_
    refine r_getR C 22 dX11_layer_64 fl_X11_137 la_1 ly_1 rfl rfl ?_
    refine r_callV C [rf G 22, i9 p4, i9 p3, i9 p2, i9 p1, rf G 9] dX11_layer_67 (t_X6_addLayer_9_22 C.h1 C.h2 p1 p2 p3 p4 d8) mw_X11_140 mv_X6_addLayer la_9 ly_9 rfl (by decide) (by decide) (by decide) rfl rfl (Nat.le_of_ble_eq_true rfl) (fun r10 d11 => ?_)
    show SS G X 5 _ _ 70 [(0, rf G 0), (1, i9 p1), (2, i9 p2), (3, i9 p3), (4, i9 p4)] [i9 r10] d11 _
    exact r_iret C dX11_layer_70 (by decide) (by decide)
  · refine r_iconst C dX11_layer_46 ?_
    exact r_iret C dX11_layer_47 (by decide) (by decide)
theorem dX10_leakUpper_0 : decode cX10_leakUpper 0 = .ok (.aload_n 0, 1) := by decide +kernel
theorem dX10_leakUpper_1 : decode cX10_leakUpper 1 = .ok (.getfield 21, 3) := by decide +kernel
theorem dX10_leakUpper_4 : decode cX10_leakUpper 4 = .ok (.getfield 108, 3) := by decide +kernel
theorem dX10_leakUpper_7 : decode cX10_leakUpper 7 = .ok (.iload_n 1, 1) := by decide +kernel
theorem dX10_leakUpper_8 : decode cX10_leakUpper 8 = .ok (.iaload, 1) := by decide +kernel
theorem dX10_leakUpper_9 : decode cX10_leakUpper 9 = .ok (.iconst 2, 1) := by decide +kernel
theorem dX10_leakUpper_10 : decode cX10_leakUpper 10 = .ok (.if_icmp .ne 7, 3) := by decide +kernel
theorem dX10_leakUpper_13 : decode cX10_leakUpper 13 = .ok (.iconst 1, 1) := by decide +kernel
theorem dX10_leakUpper_14 : decode cX10_leakUpper 14 = .ok (.goto 10, 3) := by decide +kernel
theorem dX10_leakUpper_17 : decode cX10_leakUpper 17 = .ok (.aload_n 0, 1) := by decide +kernel
theorem dX10_leakUpper_18 : decode cX10_leakUpper 18 = .ok (.getfield 28, 3) := by decide +kernel
theorem dX10_leakUpper_21 : decode cX10_leakUpper 21 = .ok (.getfield 111, 3) := by decide +kernel
theorem dX10_leakUpper_24 : decode cX10_leakUpper 24 = .ok (.ireturn, 1) := by decide +kernel
abbrev z_X10_leakUpper_1 : Z9 := (some .int, 1, 0, 0, 1, 0)
def m_X10_leakUpper_1 (p1 : Int) (d : D9) : Option R9 := ld d 15 30 p1 (fun t1 => if w32 t1 ≠ w32 2 then rt (d 22 6) d else rt 1 d)
set_option maxRecDepth 100000 in
theorem t_X10_leakUpper_1 {G : G9} {l : Launch} (h1 : va_D (A9 G) (wl G (fun _ _ => 0))) (h2 : l.stackTraces = false) (p1 : Int) (d : D9) : MT G l yX10_leakUpper cX10_leakUpper 2 z_X10_leakUpper_1 [rf G 1, i9 p1] d (m_X10_leakUpper_1 p1 d) := by
  refine mt_of (own := RX10) (by decide) rfl (Nat.le_of_ble_eq_true rfl) h1 h2 [(0, rf G 1), (1, i9 p1)] rfl (fun X hX C => ?_)
  unfold m_X10_leakUpper_1
  refine r_aload_n C 0 dX10_leakUpper_0 rfl rfl ?_
  refine r_getR C 9 dX10_leakUpper_1 fl_X10_21 la_1 ly_1 rfl rfl ?_
  refine r_getR C 15 dX10_leakUpper_4 fl_X10_108 la_9 ly_9 rfl rfl ?_
  refine r_iload_n C 1 dX10_leakUpper_7 rfl rfl ?_
  refine r_iald C dX10_leakUpper_8 la_15 ly_15 (fun t1 => ?_)
  refine r_iconst C dX10_leakUpper_9 ?_
  refine r_icmp_ne C 17 dX10_leakUpper_10 (by decide) (fun _ => ?_) (fun _ => ?_)
  · refine r_aload_n C 0 dX10_leakUpper_17 rfl rfl ?_
    refine r_getR C 22 dX10_leakUpper_18 fl_X10_28 la_1 ly_1 rfl rfl ?_
    refine r_getI C dX10_leakUpper_21 fl_X10_111 la_22 ly_22 rfl ?_
    exact r_iret C dX10_leakUpper_24 (by decide) (by decide)
  · refine r_iconst C dX10_leakUpper_13 ?_
    refine r_goto C 24 dX10_leakUpper_14 (by decide) ?_
    exact r_iret C dX10_leakUpper_24 (by decide) (by decide)
theorem dX6_waysToLie_0 : decode cX6_waysToLie 0 = .ok (.iconst 1, 1) := by decide +kernel
theorem dX6_waysToLie_1 : decode cX6_waysToLie 1 = .ok (.istore_n 2, 1) := by decide +kernel
theorem dX6_waysToLie_2 : decode cX6_waysToLie 2 = .ok (.aload_n 0, 1) := by decide +kernel
theorem dX6_waysToLie_3 : decode cX6_waysToLie 3 = .ok (.iload_n 1, 1) := by decide +kernel
theorem dX6_waysToLie_4 : decode cX6_waysToLie 4 = .ok (.invokevirtual 87, 3) := by decide +kernel
theorem dX6_waysToLie_7 : decode cX6_waysToLie 7 = .ok (.istore_n 3, 1) := by decide +kernel
theorem dX6_waysToLie_8 : decode cX6_waysToLie 8 = .ok (.iconst 2, 1) := by decide +kernel
theorem dX6_waysToLie_9 : decode cX6_waysToLie 9 = .ok (.istore 4, 2) := by decide +kernel
theorem dX6_waysToLie_11 : decode cX6_waysToLie 11 = .ok (.iload 4, 2) := by decide +kernel
theorem dX6_waysToLie_13 : decode cX6_waysToLie 13 = .ok (.iload_n 3, 1) := by decide +kernel
theorem dX6_waysToLie_14 : decode cX6_waysToLie 14 = .ok (.if_icmp .gt 14, 3) := by decide +kernel
theorem dX6_waysToLie_17 : decode cX6_waysToLie 17 = .ok (.iload_n 2, 1) := by decide +kernel
theorem dX6_waysToLie_18 : decode cX6_waysToLie 18 = .ok (.iload 4, 2) := by decide +kernel
theorem dX6_waysToLie_20 : decode cX6_waysToLie 20 = .ok (.imul, 1) := by decide +kernel
theorem dX6_waysToLie_21 : decode cX6_waysToLie 21 = .ok (.istore_n 2, 1) := by decide +kernel
theorem dX6_waysToLie_22 : decode cX6_waysToLie 22 = .ok (.iinc 4 1, 3) := by decide +kernel
theorem dX6_waysToLie_25 : decode cX6_waysToLie 25 = .ok (.goto (-14), 3) := by decide +kernel
theorem dX6_waysToLie_28 : decode cX6_waysToLie 28 = .ok (.iload_n 2, 1) := by decide +kernel
theorem dX6_waysToLie_29 : decode cX6_waysToLie 29 = .ok (.ireturn, 1) := by decide +kernel
abbrev z_X6_waysToLie_9 : Z9 := (some .int, 1, 0, 0, 2, 23)
def b_X6_waysToLie_9_c11 (k_X6_waysToLie_9_c11 : Int → Int → Int → D9 → Option R9) (v2 v3 v4 : Int) (d : D9) : Option R9 := if w32 v3 < w32 v4 then rt v2 d else lt9v (v2 * v4) (fun a1 => k_X6_waysToLie_9_c11 a1 v3 (v4 + 1) d)
def m_X6_waysToLie_9_c11 : Int → Int → Int → D9 → Option R9 := fix9 (fun _ _ _ _ => none) (fun k => b_X6_waysToLie_9_c11 k) FU
def m_X6_waysToLie_9 (p1 : Int) (d : D9) : Option R9 := cl (m_X6_thick_9 p1 d) (fun r1 d2 => m_X6_waysToLie_9_c11  1 r1 2 d2)
set_option maxRecDepth 100000 in
theorem sb_X6_waysToLie_9_c11 {G : G9} {X : X9} (C : CX G X cX6_waysToLie 5 RX6 [] z_X6_waysToLie_9) (k_X6_waysToLie_9_c11 : Int → Int → Int → D9 → Option R9) (hk_X6_waysToLie_9_c11 : ∀ (v2 v3 v4 : Int) (d : D9), SS G X 5 0 0 11 [(2, i9 v2), (3, i9 v3), (4, i9 v4)] [] d (k_X6_waysToLie_9_c11 v2 v3 v4 d)) : ∀ (v2 v3 v4 : Int) (d : D9), SS G X 5 0 0 11 [(2, i9 v2), (3, i9 v3), (4, i9 v4)] [] d (b_X6_waysToLie_9_c11 k_X6_waysToLie_9_c11 v2 v3 v4 d) := by
  intro v2 v3 v4 d
  unfold b_X6_waysToLie_9_c11
  refine r_iload C 2 dX6_waysToLie_11 rfl ?_
  refine r_iload_n C 1 dX6_waysToLie_13 rfl rfl ?_
  refine r_icmp_gt C 28 dX6_waysToLie_14 (by decide) (fun _ => ?_) (fun _ => ?_)
  · refine r_iload_n C 0 dX6_waysToLie_28 rfl rfl ?_
    exact r_iret C dX6_waysToLie_29 (by decide) (by decide)
  · refine r_iload_n C 0 dX6_waysToLie_17 rfl rfl ?_
    refine r_iload C 2 dX6_waysToLie_18 rfl ?_
    refine r_imul C dX6_waysToLie_20 ?_
    refine ss_lt (fun a1 => ?_)
    refine r_istore_n C [(2, i9 a1), (3, i9 v3), (4, i9 v4)] dX6_waysToLie_21 rfl (by decide) rfl ?_
    refine r_iinc C 2 [(4, i9 (v4 + 1)), (2, i9 a1), (3, i9 v3)] dX6_waysToLie_22 rfl (by decide) rfl ?_
    refine r_goto C 11 dX6_waysToLie_25 (by decide) ?_
    refine ss_wide (k' := 0) (n' := 0) (by decide) (by decide) ?_
    refine ss_ls [(2, i9 a1), (3, i9 v3), (4, i9 (v4 + 1))] [1, 2, 0] rfl ?_
    exact hk_X6_waysToLie_9_c11 a1 v3 (v4 + 1) d
theorem s_X6_waysToLie_9_c11 {G : G9} {X : X9} (C : CX G X cX6_waysToLie 5 RX6 [] z_X6_waysToLie_9) : ∀ (v2 v3 v4 : Int) (d : D9), SS G X 5 0 0 11 [(2, i9 v2), (3, i9 v3), (4, i9 v4)] [] d (m_X6_waysToLie_9_c11  v2 v3 v4 d) :=
  fix9_ind (P := fun k => ∀ (v2 v3 v4 : Int) (d : D9), SS G X 5 0 0 11 [(2, i9 v2), (3, i9 v3), (4, i9 v4)] [] d (k v2 v3 v4 d)) (fun _ _ _ _ => ss_none) (fun k hk => sb_X6_waysToLie_9_c11 C k hk) FU
set_option maxRecDepth 100000 in
theorem t_X6_waysToLie_9 {G : G9} {l : Launch} (h1 : va_D (A9 G) (wl G (fun _ _ => 0))) (h2 : l.stackTraces = false) (p1 : Int) (d : D9) : MT G l yX6_waysToLie cX6_waysToLie 5 z_X6_waysToLie_9 [rf G 9, i9 p1] d (m_X6_waysToLie_9 p1 d) := by
  refine mt_of (own := RX6) (by decide) rfl (Nat.le_of_ble_eq_true rfl) h1 h2 [(0, rf G 9), (1, i9 p1)] rfl (fun X hX C => ?_)
  unfold m_X6_waysToLie_9
  refine r_iconst C dX6_waysToLie_0 ?_
  refine r_istore_n C [(2, i9 1), (0, rf G 9), (1, i9 p1)] dX6_waysToLie_1 rfl (by decide) rfl ?_
  refine r_aload_n C 1 dX6_waysToLie_2 rfl rfl ?_
  refine r_iload_n C 2 dX6_waysToLie_3 rfl rfl ?_
  refine r_callV C [i9 p1, rf G 9] dX6_waysToLie_4 (t_X6_thick_9 C.h1 C.h2 p1 d) mw_X6_87 mv_X6_thick la_9 ly_9 rfl (by decide) (by decide) (by decide) rfl rfl (Nat.le_of_ble_eq_true rfl) (fun r1 d2 => ?_)
  show SS G X 5 _ _ 7 [(2, i9 1), (0, rf G 9), (1, i9 p1)] [i9 r1] d2 _
  refine r_istore_n C [(3, i9 r1), (2, i9 1), (0, rf G 9), (1, i9 p1)] dX6_waysToLie_7 rfl (by decide) rfl ?_
  refine r_iconst C dX6_waysToLie_8 ?_
  refine r_istore C [(4, i9 2), (3, i9 r1), (2, i9 1), (0, rf G 9), (1, i9 p1)] dX6_waysToLie_9 (by decide) rfl ?_
  refine ss_wide (k' := 0) (n' := 0) (by decide) (by decide) ?_
  refine ss_ls [(2, i9 1), (3, i9 r1), (4, i9 2)] [2, 1, 0] rfl ?_
  exact s_X6_waysToLie_9_c11 C  1 r1 2 d2
theorem dX10_leakLower_0 : decode cX10_leakLower 0 = .ok (.aload_n 0, 1) := by decide +kernel
theorem dX10_leakLower_1 : decode cX10_leakLower 1 = .ok (.getfield 21, 3) := by decide +kernel
theorem dX10_leakLower_4 : decode cX10_leakLower 4 = .ok (.getfield 108, 3) := by decide +kernel
theorem dX10_leakLower_7 : decode cX10_leakLower 7 = .ok (.iload_n 1, 1) := by decide +kernel
theorem dX10_leakLower_8 : decode cX10_leakLower 8 = .ok (.iaload, 1) := by decide +kernel
theorem dX10_leakLower_9 : decode cX10_leakLower 9 = .ok (.iconst 2, 1) := by decide +kernel
theorem dX10_leakLower_10 : decode cX10_leakLower 10 = .ok (.if_icmp .ne 5, 3) := by decide +kernel
theorem dX10_leakLower_13 : decode cX10_leakLower 13 = .ok (.iconst 1, 1) := by decide +kernel
theorem dX10_leakLower_14 : decode cX10_leakLower 14 = .ok (.ireturn, 1) := by decide +kernel
theorem dX10_leakLower_15 : decode cX10_leakLower 15 = .ok (.aload_n 0, 1) := by decide +kernel
theorem dX10_leakLower_16 : decode cX10_leakLower 16 = .ok (.getfield 28, 3) := by decide +kernel
theorem dX10_leakLower_19 : decode cX10_leakLower 19 = .ok (.getfield 111, 3) := by decide +kernel
theorem dX10_leakLower_22 : decode cX10_leakLower 22 = .ok (.bipush 100, 2) := by decide +kernel
theorem dX10_leakLower_24 : decode cX10_leakLower 24 = .ok (.aload_n 0, 1) := by decide +kernel
theorem dX10_leakLower_25 : decode cX10_leakLower 25 = .ok (.getfield 28, 3) := by decide +kernel
theorem dX10_leakLower_28 : decode cX10_leakLower 28 = .ok (.getfield 111, 3) := by decide +kernel
theorem dX10_leakLower_31 : decode cX10_leakLower 31 = .ok (.isub, 1) := by decide +kernel
theorem dX10_leakLower_32 : decode cX10_leakLower 32 = .ok (.aload_n 0, 1) := by decide +kernel
theorem dX10_leakLower_33 : decode cX10_leakLower 33 = .ok (.getfield 21, 3) := by decide +kernel
theorem dX10_leakLower_36 : decode cX10_leakLower 36 = .ok (.iload_n 1, 1) := by decide +kernel
theorem dX10_leakLower_37 : decode cX10_leakLower 37 = .ok (.invokevirtual 114, 3) := by decide +kernel
theorem dX10_leakLower_40 : decode cX10_leakLower 40 = .ok (.imul, 1) := by decide +kernel
theorem dX10_leakLower_41 : decode cX10_leakLower 41 = .ok (.iadd, 1) := by decide +kernel
theorem dX10_leakLower_42 : decode cX10_leakLower 42 = .ok (.ireturn, 1) := by decide +kernel
abbrev z_X10_leakLower_1 : Z9 := (some .int, 1, 0, 0, 3, 47)
def m_X10_leakLower_1 (p1 : Int) (d : D9) : Option R9 := ld d 15 30 p1 (fun t1 => if w32 t1 ≠ w32 2 then cl (m_X6_waysToLie_9 p1 d) (fun r2 d3 => rt ((d 22 6) + ((100 - (d 22 6)) * r2)) d3) else rt 1 d)
set_option maxRecDepth 100000 in
theorem t_X10_leakLower_1 {G : G9} {l : Launch} (h1 : va_D (A9 G) (wl G (fun _ _ => 0))) (h2 : l.stackTraces = false) (p1 : Int) (d : D9) : MT G l yX10_leakLower cX10_leakLower 2 z_X10_leakLower_1 [rf G 1, i9 p1] d (m_X10_leakLower_1 p1 d) := by
  refine mt_of (own := RX10) (by decide) rfl (Nat.le_of_ble_eq_true rfl) h1 h2 [(0, rf G 1), (1, i9 p1)] rfl (fun X hX C => ?_)
  unfold m_X10_leakLower_1
  refine r_aload_n C 0 dX10_leakLower_0 rfl rfl ?_
  refine r_getR C 9 dX10_leakLower_1 fl_X10_21 la_1 ly_1 rfl rfl ?_
  refine r_getR C 15 dX10_leakLower_4 fl_X10_108 la_9 ly_9 rfl rfl ?_
  refine r_iload_n C 1 dX10_leakLower_7 rfl rfl ?_
  refine r_iald C dX10_leakLower_8 la_15 ly_15 (fun t1 => ?_)
  refine r_iconst C dX10_leakLower_9 ?_
  refine r_icmp_ne C 15 dX10_leakLower_10 (by decide) (fun _ => ?_) (fun _ => ?_)
  · refine r_aload_n C 0 dX10_leakLower_15 rfl rfl ?_
    refine r_getR C 22 dX10_leakLower_16 fl_X10_28 la_1 ly_1 rfl rfl ?_
    refine r_getI C dX10_leakLower_19 fl_X10_111 la_22 ly_22 rfl ?_
    refine r_bipush C dX10_leakLower_22 rfl ?_
    refine r_aload_n C 0 dX10_leakLower_24 rfl rfl ?_
    refine r_getR C 22 dX10_leakLower_25 fl_X10_28 la_1 ly_1 rfl rfl ?_
    refine r_getI C dX10_leakLower_28 fl_X10_111 la_22 ly_22 rfl ?_
    refine r_isub C dX10_leakLower_31 ?_
    refine r_aload_n C 0 dX10_leakLower_32 rfl rfl ?_
    refine r_getR C 9 dX10_leakLower_33 fl_X10_21 la_1 ly_1 rfl rfl ?_
    refine r_iload_n C 1 dX10_leakLower_36 rfl rfl ?_
    refine r_callV C [i9 p1, rf G 9, i9 (100 - (d 22 6)), i9 (d 22 6)] dX10_leakLower_37 (t_X6_waysToLie_9 C.h1 C.h2 p1 d) mw_X10_114 mv_X6_waysToLie la_9 ly_9 rfl (by decide) (by decide) (by decide) rfl rfl (Nat.le_of_ble_eq_true rfl) (fun r2 d3 => ?_)
    show SS G X 2 _ _ 40 [(0, rf G 1), (1, i9 p1)] [i9 r2, i9 (100 - (d 22 6)), i9 (d 22 6)] d3 _
    refine r_imul C dX10_leakLower_40 ?_
    refine r_iadd C dX10_leakLower_41 ?_
    exact r_iret C dX10_leakLower_42 (by decide) (by decide)
  · refine r_iconst C dX10_leakLower_13 ?_
    exact r_iret C dX10_leakLower_14 (by decide) (by decide)
theorem dX11_leaked_0 : decode cX11_leaked 0 = .ok (.aload_n 0, 1) := by decide +kernel
theorem dX11_leaked_1 : decode cX11_leaked 1 = .ok (.iload_n 1, 1) := by decide +kernel
theorem dX11_leaked_2 : decode cX11_leaked 2 = .ok (.invokevirtual 131, 3) := by decide +kernel
theorem dX11_leaked_5 : decode cX11_leaked 5 = .ok (.aload_n 0, 1) := by decide +kernel
theorem dX11_leaked_6 : decode cX11_leaked 6 = .ok (.getfield 55, 3) := by decide +kernel
theorem dX11_leaked_9 : decode cX11_leaked 9 = .ok (.aload_n 0, 1) := by decide +kernel
theorem dX11_leaked_10 : decode cX11_leaked 10 = .ok (.getfield 10, 3) := by decide +kernel
theorem dX11_leaked_13 : decode cX11_leaked 13 = .ok (.iload_n 1, 1) := by decide +kernel
theorem dX11_leaked_14 : decode cX11_leaked 14 = .ok (.invokevirtual 235, 3) := by decide +kernel
theorem dX11_leaked_17 : decode cX11_leaked 17 = .ok (.i2l, 1) := by decide +kernel
theorem dX11_leaked_18 : decode cX11_leaked 18 = .ok (.aload_n 0, 1) := by decide +kernel
theorem dX11_leaked_19 : decode cX11_leaked 19 = .ok (.getfield 10, 3) := by decide +kernel
theorem dX11_leaked_22 : decode cX11_leaked 22 = .ok (.iload_n 1, 1) := by decide +kernel
theorem dX11_leaked_23 : decode cX11_leaked 23 = .ok (.invokevirtual 238, 3) := by decide +kernel
theorem dX11_leaked_26 : decode cX11_leaked 26 = .ok (.i2l, 1) := by decide +kernel
theorem dX11_leaked_27 : decode cX11_leaked 27 = .ok (.invokevirtual 241, 3) := by decide +kernel
theorem dX11_leaked_30 : decode cX11_leaked 30 = .ok (.pop, 1) := by decide +kernel
theorem dX11_leaked_31 : decode cX11_leaked 31 = .ok (.return_, 1) := by decide +kernel
abbrev z_X11_leaked_0 : Z9 := (none, 0, 1, 6, 7, 121)
def m_X11_leaked_0 (p1 : Int) (d : D9) : Option R9 := cl (m_X11_askSkin_0 p1 d) (fun r1 d2 => cl (m_X10_leakUpper_1 p1 d2) (fun r3 d4 => cl (m_X10_leakLower_1 p1 d4) (fun r5 d6 => cl (m_X0_put_53 (w32 r3) (w32 r5) d6) (fun r7 d8 => rt 0 d8))))
set_option maxRecDepth 100000 in
theorem t_X11_leaked_0 {G : G9} {l : Launch} (h1 : va_D (A9 G) (wl G (fun _ _ => 0))) (h2 : l.stackTraces = false) (p1 : Int) (d : D9) : MT G l yX11_leaked cX11_leaked 2 z_X11_leaked_0 [rf G 0, i9 p1] d (m_X11_leaked_0 p1 d) := by
  refine mt_of (own := RX11) (by decide) rfl (Nat.le_of_ble_eq_true rfl) h1 h2 [(0, rf G 0), (1, i9 p1)] rfl (fun X hX C => ?_)
  unfold m_X11_leaked_0
  refine r_aload_n C 0 dX11_leaked_0 rfl rfl ?_
  refine r_iload_n C 1 dX11_leaked_1 rfl rfl ?_
  refine r_callV C [i9 p1, rf G 0] dX11_leaked_2 (t_X11_askSkin_0 C.h1 C.h2 p1 d) mw_X11_131 mv_X11_askSkin la_0 ly_0 rfl (by decide) (by decide) (by decide) rfl rfl (Nat.le_of_ble_eq_true rfl) (fun r1 d2 => ?_)
  show SS G X 2 _ _ 5 [(0, rf G 0), (1, i9 p1)] [] d2 _
  refine r_aload_n C 0 dX11_leaked_5 rfl rfl ?_
  refine r_getR C 53 dX11_leaked_6 fl_X11_55 la_0 ly_0 rfl rfl ?_
  refine r_aload_n C 0 dX11_leaked_9 rfl rfl ?_
  refine r_getR C 1 dX11_leaked_10 fl_X11_10 la_0 ly_0 rfl rfl ?_
  refine r_iload_n C 1 dX11_leaked_13 rfl rfl ?_
  refine r_callV C [i9 p1, rf G 1, rf G 53] dX11_leaked_14 (t_X10_leakUpper_1 C.h1 C.h2 p1 d2) mw_X11_235 mv_X10_leakUpper la_1 ly_1 rfl (by decide) (by decide) (by decide) rfl rfl (Nat.le_of_ble_eq_true rfl) (fun r3 d4 => ?_)
  show SS G X 2 _ _ 17 [(0, rf G 0), (1, i9 p1)] [i9 r3, rf G 53] d4 _
  refine r_i2l C dX11_leaked_17 ?_
  refine r_aload_n C 0 dX11_leaked_18 rfl rfl ?_
  refine r_getR C 1 dX11_leaked_19 fl_X11_10 la_0 ly_0 rfl rfl ?_
  refine r_iload_n C 1 dX11_leaked_22 rfl rfl ?_
  refine r_callV C [i9 p1, rf G 1, l9 (w32 r3), rf G 53] dX11_leaked_23 (t_X10_leakLower_1 C.h1 C.h2 p1 d4) mw_X11_238 mv_X10_leakLower la_1 ly_1 rfl (by decide) (by decide) (by decide) rfl rfl (Nat.le_of_ble_eq_true rfl) (fun r5 d6 => ?_)
  show SS G X 2 _ _ 26 [(0, rf G 0), (1, i9 p1)] [i9 r5, l9 (w32 r3), rf G 53] d6 _
  refine r_i2l C dX11_leaked_26 ?_
  refine r_callV C [l9 (w32 r5), l9 (w32 r3), rf G 53] dX11_leaked_27 (t_X0_put_53 C.h1 C.h2 (w32 r3) (w32 r5) d6) mw_X11_241 mv_X0_put la_53 ly_53 rfl (by decide) (by decide) (by decide) rfl rfl (Nat.le_of_ble_eq_true rfl) (fun r7 d8 => ?_)
  show SS G X 2 _ _ 30 [(0, rf G 0), (1, i9 p1)] [i9 r7] d8 _
  refine r_pop C dX11_leaked_30 rfl ?_
  exact r_vret C dX11_leaked_31 (by decide) (by decide)
theorem dX10_likesOf_0 : decode cX10_likesOf 0 = .ok (.iconst 0, 1) := by decide +kernel
theorem dX10_likesOf_1 : decode cX10_likesOf 1 = .ok (.istore 4, 2) := by decide +kernel
theorem dX10_likesOf_3 : decode cX10_likesOf 3 = .ok (.iconst 0, 1) := by decide +kernel
theorem dX10_likesOf_4 : decode cX10_likesOf 4 = .ok (.istore 5, 2) := by decide +kernel
theorem dX10_likesOf_6 : decode cX10_likesOf 6 = .ok (.iload 5, 2) := by decide +kernel
theorem dX10_likesOf_8 : decode cX10_likesOf 8 = .ok (.aload_n 0, 1) := by decide +kernel
theorem dX10_likesOf_9 : decode cX10_likesOf 9 = .ok (.getfield 49, 3) := by decide +kernel
theorem dX10_likesOf_12 : decode cX10_likesOf 12 = .ok (.getfield 133, 3) := by decide +kernel
theorem dX10_likesOf_15 : decode cX10_likesOf 15 = .ok (.if_icmp .ge 42, 3) := by decide +kernel
theorem dX10_likesOf_18 : decode cX10_likesOf 18 = .ok (.iload_n 3, 1) := by decide +kernel
theorem dX10_likesOf_19 : decode cX10_likesOf 19 = .ok (.iconst (-1), 1) := by decide +kernel
theorem dX10_likesOf_20 : decode cX10_likesOf 20 = .ok (.if_icmp .eq 17, 3) := by decide +kernel
theorem dX10_likesOf_23 : decode cX10_likesOf 23 = .ok (.aload_n 0, 1) := by decide +kernel
theorem dX10_likesOf_24 : decode cX10_likesOf 24 = .ok (.getfield 49, 3) := by decide +kernel
theorem dX10_likesOf_27 : decode cX10_likesOf 27 = .ok (.getfield 134, 3) := by decide +kernel
theorem dX10_likesOf_30 : decode cX10_likesOf 30 = .ok (.iload 5, 2) := by decide +kernel
theorem dX10_likesOf_32 : decode cX10_likesOf 32 = .ok (.iaload, 1) := by decide +kernel
theorem dX10_likesOf_33 : decode cX10_likesOf 33 = .ok (.iload_n 3, 1) := by decide +kernel
theorem dX10_likesOf_34 : decode cX10_likesOf 34 = .ok (.if_icmp .ne 17, 3) := by decide +kernel
theorem dX10_likesOf_37 : decode cX10_likesOf 37 = .ok (.aload_n 0, 1) := by decide +kernel
theorem dX10_likesOf_38 : decode cX10_likesOf 38 = .ok (.iload 5, 2) := by decide +kernel
theorem dX10_likesOf_40 : decode cX10_likesOf 40 = .ok (.iload_n 1, 1) := by decide +kernel
theorem dX10_likesOf_41 : decode cX10_likesOf 41 = .ok (.iload_n 2, 1) := by decide +kernel
theorem dX10_likesOf_42 : decode cX10_likesOf 42 = .ok (.invokevirtual 135, 3) := by decide +kernel
theorem dX10_likesOf_45 : decode cX10_likesOf 45 = .ok (.ifCond .eq 6, 3) := by decide +kernel
theorem dX10_likesOf_48 : decode cX10_likesOf 48 = .ok (.iinc 4 1, 3) := by decide +kernel
theorem dX10_likesOf_51 : decode cX10_likesOf 51 = .ok (.iinc 5 1, 3) := by decide +kernel
theorem dX10_likesOf_54 : decode cX10_likesOf 54 = .ok (.goto (-48), 3) := by decide +kernel
theorem dX10_likesOf_57 : decode cX10_likesOf 57 = .ok (.iload 4, 2) := by decide +kernel
theorem dX10_likesOf_59 : decode cX10_likesOf 59 = .ok (.ireturn, 1) := by decide +kernel
abbrev z_X10_likesOf_1 : Z9 := (some .int, 1, 0, 0, 3, 86)
def m_X10_likesOf_1_c37 (k_X10_likesOf_1_c6 : Int → Int → Int → Int → Int → D9 → Option R9) (v1 v2 v3 v4 v5 : Int) (d : D9) : Option R9 := cl (m_X10_isLike_1 v5 v1 v2 d) (fun r1 d2 => if w32 r1 = 0 then k_X10_likesOf_1_c6 v1 v2 v3 v4 (v5 + 1) d2 else k_X10_likesOf_1_c6 v1 v2 v3 (v4 + 1) (v5 + 1) d2)
def b_X10_likesOf_1_c6 (k_X10_likesOf_1_c6 : Int → Int → Int → Int → Int → D9 → Option R9) (v1 v2 v3 v4 v5 : Int) (d : D9) : Option R9 := if w32 (d 33 0) ≤ w32 v5 then rt v4 d else if w32 v3 = w32 (-1) then m_X10_likesOf_1_c37 k_X10_likesOf_1_c6 v1 v2 v3 v4 v5 d else ld d 34 40 v5 (fun t1 => if w32 t1 ≠ w32 v3 then k_X10_likesOf_1_c6 v1 v2 v3 v4 (v5 + 1) d else m_X10_likesOf_1_c37 k_X10_likesOf_1_c6 v1 v2 v3 v4 v5 d)
def m_X10_likesOf_1_c6 : Int → Int → Int → Int → Int → D9 → Option R9 := fix9 (fun _ _ _ _ _ _ => none) (fun k => b_X10_likesOf_1_c6 k) FU
def m_X10_likesOf_1 (p1 p2 p3 : Int) (d : D9) : Option R9 := m_X10_likesOf_1_c6  p1 p2 p3 0 0 d
set_option maxRecDepth 100000 in
theorem s_X10_likesOf_1_c37 {G : G9} {X : X9} (C : CX G X cX10_likesOf 6 RX10 [] z_X10_likesOf_1) (k_X10_likesOf_1_c6 : Int → Int → Int → Int → Int → D9 → Option R9) (hk_X10_likesOf_1_c6 : ∀ (v1 v2 v3 v4 v5 : Int) (d : D9), SS G X 6 0 0 6 [(0, rf G 1), (1, i9 v1), (2, i9 v2), (3, i9 v3), (4, i9 v4), (5, i9 v5)] [] d (k_X10_likesOf_1_c6 v1 v2 v3 v4 v5 d)) : ∀ (v1 v2 v3 v4 v5 : Int) (d : D9), SS G X 6 0 0 37 [(0, rf G 1), (1, i9 v1), (2, i9 v2), (3, i9 v3), (4, i9 v4), (5, i9 v5)] [] d (m_X10_likesOf_1_c37 k_X10_likesOf_1_c6 v1 v2 v3 v4 v5 d) := by
  intro v1 v2 v3 v4 v5 d
  unfold m_X10_likesOf_1_c37
  refine r_aload_n C 0 dX10_likesOf_37 rfl rfl ?_
  refine r_iload C 5 dX10_likesOf_38 rfl ?_
  refine r_iload_n C 1 dX10_likesOf_40 rfl rfl ?_
  refine r_iload_n C 2 dX10_likesOf_41 rfl rfl ?_
  refine r_callV C [i9 v2, i9 v1, i9 v5, rf G 1] dX10_likesOf_42 (t_X10_isLike_1 C.h1 C.h2 v5 v1 v2 d) mw_X10_135 mv_X10_isLike la_1 ly_1 rfl (by decide) (by decide) (by decide) rfl rfl (Nat.le_of_ble_eq_true rfl) (fun r1 d2 => ?_)
  show SS G X 6 _ _ 45 [(0, rf G 1), (1, i9 v1), (2, i9 v2), (3, i9 v3), (4, i9 v4), (5, i9 v5)] [i9 r1] d2 _
  refine r_if_eq C (b := 0) 51 dX10_likesOf_45 (by decide) (fun _ => ?_) (fun _ => ?_)
  · refine r_iinc C 5 [(5, i9 (v5 + 1)), (0, rf G 1), (1, i9 v1), (2, i9 v2), (3, i9 v3), (4, i9 v4)] dX10_likesOf_51 rfl (by decide) rfl ?_
    refine r_goto C 6 dX10_likesOf_54 (by decide) ?_
    refine ss_wide (k' := 0) (n' := 0) (by decide) (by decide) ?_
    refine ss_ls [(0, rf G 1), (1, i9 v1), (2, i9 v2), (3, i9 v3), (4, i9 v4), (5, i9 (v5 + 1))] [1, 2, 3, 4, 5, 0] rfl ?_
    exact hk_X10_likesOf_1_c6 v1 v2 v3 v4 (v5 + 1) d2
  · refine r_iinc C 4 [(4, i9 (v4 + 1)), (0, rf G 1), (1, i9 v1), (2, i9 v2), (3, i9 v3), (5, i9 v5)] dX10_likesOf_48 rfl (by decide) rfl ?_
    refine r_iinc C 5 [(5, i9 (v5 + 1)), (4, i9 (v4 + 1)), (0, rf G 1), (1, i9 v1), (2, i9 v2), (3, i9 v3)] dX10_likesOf_51 rfl (by decide) rfl ?_
    refine r_goto C 6 dX10_likesOf_54 (by decide) ?_
    refine ss_wide (k' := 0) (n' := 0) (by decide) (by decide) ?_
    refine ss_ls [(0, rf G 1), (1, i9 v1), (2, i9 v2), (3, i9 v3), (4, i9 (v4 + 1)), (5, i9 (v5 + 1))] [2, 3, 4, 5, 1, 0] rfl ?_
    exact hk_X10_likesOf_1_c6 v1 v2 v3 (v4 + 1) (v5 + 1) d2
set_option maxRecDepth 100000 in
theorem sb_X10_likesOf_1_c6 {G : G9} {X : X9} (C : CX G X cX10_likesOf 6 RX10 [] z_X10_likesOf_1) (k_X10_likesOf_1_c6 : Int → Int → Int → Int → Int → D9 → Option R9) (hk_X10_likesOf_1_c6 : ∀ (v1 v2 v3 v4 v5 : Int) (d : D9), SS G X 6 0 0 6 [(0, rf G 1), (1, i9 v1), (2, i9 v2), (3, i9 v3), (4, i9 v4), (5, i9 v5)] [] d (k_X10_likesOf_1_c6 v1 v2 v3 v4 v5 d)) : ∀ (v1 v2 v3 v4 v5 : Int) (d : D9), SS G X 6 0 0 6 [(0, rf G 1), (1, i9 v1), (2, i9 v2), (3, i9 v3), (4, i9 v4), (5, i9 v5)] [] d (b_X10_likesOf_1_c6 k_X10_likesOf_1_c6 v1 v2 v3 v4 v5 d) := by
  intro v1 v2 v3 v4 v5 d
  unfold b_X10_likesOf_1_c6
  refine r_iload C 5 dX10_likesOf_6 rfl ?_
  refine r_aload_n C 0 dX10_likesOf_8 rfl rfl ?_
  refine r_getR C 33 dX10_likesOf_9 fl_X10_49 la_1 ly_1 rfl rfl ?_
  refine r_getI C dX10_likesOf_12 fl_X10_133 la_33 ly_33 rfl ?_
  refine r_icmp_ge C 57 dX10_likesOf_15 (by decide) (fun _ => ?_) (fun _ => ?_)
  · refine r_iload C 4 dX10_likesOf_57 rfl ?_
    exact r_iret C dX10_likesOf_59 (by decide) (by decide)
  · refine r_iload_n C 3 dX10_likesOf_18 rfl rfl ?_
    refine r_iconst C dX10_likesOf_19 ?_
    refine r_icmp_eq C 37 dX10_likesOf_20 (by decide) (fun _ => ?_) (fun _ => ?_)
    · refine ss_wide (k' := 0) (n' := 0) (by decide) (by decide) ?_
      refine ss_ls [(0, rf G 1), (1, i9 v1), (2, i9 v2), (3, i9 v3), (4, i9 v4), (5, i9 v5)] [0, 1, 2, 3, 4, 5] rfl ?_
      exact s_X10_likesOf_1_c37 C k_X10_likesOf_1_c6 hk_X10_likesOf_1_c6 v1 v2 v3 v4 v5 d
    · refine r_aload_n C 0 dX10_likesOf_23 rfl rfl ?_
      refine r_getR C 33 dX10_likesOf_24 fl_X10_49 la_1 ly_1 rfl rfl ?_
      refine r_getR C 34 dX10_likesOf_27 fl_X10_134 la_33 ly_33 rfl rfl ?_
      refine r_iload C 5 dX10_likesOf_30 rfl ?_
      refine r_iald C dX10_likesOf_32 la_34 ly_34 (fun t1 => ?_)
      refine r_iload_n C 3 dX10_likesOf_33 rfl rfl ?_
      refine r_icmp_ne C 51 dX10_likesOf_34 (by decide) (fun _ => ?_) (fun _ => ?_)
      · refine r_iinc C 5 [(5, i9 (v5 + 1)), (0, rf G 1), (1, i9 v1), (2, i9 v2), (3, i9 v3), (4, i9 v4)] dX10_likesOf_51 rfl (by decide) rfl ?_
        refine r_goto C 6 dX10_likesOf_54 (by decide) ?_
        refine ss_wide (k' := 0) (n' := 0) (by decide) (by decide) ?_
        refine ss_ls [(0, rf G 1), (1, i9 v1), (2, i9 v2), (3, i9 v3), (4, i9 v4), (5, i9 (v5 + 1))] [1, 2, 3, 4, 5, 0] rfl ?_
        exact hk_X10_likesOf_1_c6 v1 v2 v3 v4 (v5 + 1) d
      · refine ss_wide (k' := 0) (n' := 0) (by decide) (by decide) ?_
        refine ss_ls [(0, rf G 1), (1, i9 v1), (2, i9 v2), (3, i9 v3), (4, i9 v4), (5, i9 v5)] [0, 1, 2, 3, 4, 5] rfl ?_
        exact s_X10_likesOf_1_c37 C k_X10_likesOf_1_c6 hk_X10_likesOf_1_c6 v1 v2 v3 v4 v5 d
theorem s_X10_likesOf_1_c6 {G : G9} {X : X9} (C : CX G X cX10_likesOf 6 RX10 [] z_X10_likesOf_1) : ∀ (v1 v2 v3 v4 v5 : Int) (d : D9), SS G X 6 0 0 6 [(0, rf G 1), (1, i9 v1), (2, i9 v2), (3, i9 v3), (4, i9 v4), (5, i9 v5)] [] d (m_X10_likesOf_1_c6  v1 v2 v3 v4 v5 d) :=
  fix9_ind (P := fun k => ∀ (v1 v2 v3 v4 v5 : Int) (d : D9), SS G X 6 0 0 6 [(0, rf G 1), (1, i9 v1), (2, i9 v2), (3, i9 v3), (4, i9 v4), (5, i9 v5)] [] d (k v1 v2 v3 v4 v5 d)) (fun _ _ _ _ _ _ => ss_none) (fun k hk => sb_X10_likesOf_1_c6 C k hk) FU
set_option maxRecDepth 100000 in
theorem t_X10_likesOf_1 {G : G9} {l : Launch} (h1 : va_D (A9 G) (wl G (fun _ _ => 0))) (h2 : l.stackTraces = false) (p1 p2 p3 : Int) (d : D9) : MT G l yX10_likesOf cX10_likesOf 6 z_X10_likesOf_1 [rf G 1, i9 p1, i9 p2, i9 p3] d (m_X10_likesOf_1 p1 p2 p3 d) := by
  refine mt_of (own := RX10) (by decide) rfl (Nat.le_of_ble_eq_true rfl) h1 h2 [(0, rf G 1), (1, i9 p1), (2, i9 p2), (3, i9 p3)] rfl (fun X hX C => ?_)
  unfold m_X10_likesOf_1
  refine r_iconst C dX10_likesOf_0 ?_
  refine r_istore C [(4, i9 0), (0, rf G 1), (1, i9 p1), (2, i9 p2), (3, i9 p3)] dX10_likesOf_1 (by decide) rfl ?_
  refine r_iconst C dX10_likesOf_3 ?_
  refine r_istore C [(5, i9 0), (4, i9 0), (0, rf G 1), (1, i9 p1), (2, i9 p2), (3, i9 p3)] dX10_likesOf_4 (by decide) rfl ?_
  refine ss_wide (k' := 0) (n' := 0) (by decide) (by decide) ?_
  refine ss_ls [(0, rf G 1), (1, i9 p1), (2, i9 p2), (3, i9 p3), (4, i9 0), (5, i9 0)] [2, 3, 4, 5, 1, 0] rfl ?_
  exact s_X10_likesOf_1_c6 C  p1 p2 p3 0 0 d
theorem dX11_like_0 : decode cX11_like 0 = .ok (.aload_n 0, 1) := by decide +kernel
theorem dX11_like_1 : decode cX11_like 1 = .ok (.iload_n 1, 1) := by decide +kernel
theorem dX11_like_2 : decode cX11_like 2 = .ok (.invokevirtual 87, 3) := by decide +kernel
theorem dX11_like_5 : decode cX11_like 5 = .ok (.iload_n 2, 1) := by decide +kernel
theorem dX11_like_6 : decode cX11_like 6 = .ok (.iconst (-1), 1) := by decide +kernel
theorem dX11_like_7 : decode cX11_like 7 = .ok (.iconst 4, 1) := by decide +kernel
theorem dX11_like_8 : decode cX11_like 8 = .ok (.invokestatic 73, 3) := by decide +kernel
theorem dX11_like_11 : decode cX11_like 11 = .ok (.aload_n 0, 1) := by decide +kernel
theorem dX11_like_12 : decode cX11_like 12 = .ok (.getfield 10, 3) := by decide +kernel
theorem dX11_like_15 : decode cX11_like 15 = .ok (.iload_n 1, 1) := by decide +kernel
theorem dX11_like_16 : decode cX11_like 16 = .ok (.iload_n 2, 1) := by decide +kernel
theorem dX11_like_17 : decode cX11_like 17 = .ok (.iconst (-1), 1) := by decide +kernel
theorem dX11_like_18 : decode cX11_like 18 = .ok (.invokevirtual 322, 3) := by decide +kernel
theorem dX11_like_21 : decode cX11_like 21 = .ok (.ireturn, 1) := by decide +kernel
abbrev z_X11_like_0 : Z9 := (some .int, 1, 3, 18, 8, 142)
def m_X11_like_0 (p1 p2 : Int) (d : D9) : Option R9 := cl (m_X11_askHand_0 p1 d) (fun r1 d2 => cl (m_X11_askWithin p2 (-1) 4 d2) (fun r3 d4 => cl (m_X10_likesOf_1 p1 p2 (-1) d4) (fun r5 d6 => rt r5 d6)))
set_option maxRecDepth 100000 in
theorem t_X11_like_0 {G : G9} {l : Launch} (h1 : va_D (A9 G) (wl G (fun _ _ => 0))) (h2 : l.stackTraces = false) (p1 p2 : Int) (d : D9) : MT G l yX11_like cX11_like 3 z_X11_like_0 [rf G 0, i9 p1, i9 p2] d (m_X11_like_0 p1 p2 d) := by
  refine mt_of (own := RX11) (by decide) rfl (Nat.le_of_ble_eq_true rfl) h1 h2 [(0, rf G 0), (1, i9 p1), (2, i9 p2)] rfl (fun X hX C => ?_)
  unfold m_X11_like_0
  refine r_aload_n C 0 dX11_like_0 rfl rfl ?_
  refine r_iload_n C 1 dX11_like_1 rfl rfl ?_
  refine r_callV C [i9 p1, rf G 0] dX11_like_2 (t_X11_askHand_0 C.h1 C.h2 p1 d) mw_X11_87 mv_X11_askHand la_0 ly_0 rfl (by decide) (by decide) (by decide) rfl rfl (Nat.le_of_ble_eq_true rfl) (fun r1 d2 => ?_)
  show SS G X 3 _ _ 5 [(0, rf G 0), (1, i9 p1), (2, i9 p2)] [] d2 _
  refine r_iload_n C 2 dX11_like_5 rfl rfl ?_
  refine r_iconst C dX11_like_6 ?_
  refine r_iconst C dX11_like_7 ?_
  refine r_callS C [i9 4, i9 (-1), i9 p2] dX11_like_8 (t_X11_askWithin C.h1 C.h2 p2 (-1) 4 d2) mw_X11_73 ms_X11_askWithin (by decide) (by decide) (by decide) rfl rfl (Nat.le_of_ble_eq_true rfl) (fun r3 d4 => ?_)
  show SS G X 3 _ _ 11 [(0, rf G 0), (1, i9 p1), (2, i9 p2)] [] d4 _
  refine r_aload_n C 0 dX11_like_11 rfl rfl ?_
  refine r_getR C 1 dX11_like_12 fl_X11_10 la_0 ly_0 rfl rfl ?_
  refine r_iload_n C 1 dX11_like_15 rfl rfl ?_
  refine r_iload_n C 2 dX11_like_16 rfl rfl ?_
  refine r_iconst C dX11_like_17 ?_
  refine r_callV C [i9 (-1), i9 p2, i9 p1, rf G 1] dX11_like_18 (t_X10_likesOf_1 C.h1 C.h2 p1 p2 (-1) d4) mw_X11_322 mv_X10_likesOf la_1 ly_1 rfl (by decide) (by decide) (by decide) rfl rfl (Nat.le_of_ble_eq_true rfl) (fun r5 d6 => ?_)
  show SS G X 3 _ _ 21 [(0, rf G 0), (1, i9 p1), (2, i9 p2)] [i9 r5] d6 _
  exact r_iret C dX11_like_21 (by decide) (by decide)
theorem dX11_lower_0 : decode cX11_lower 0 = .ok (.aload_n 0, 1) := by decide +kernel
theorem dX11_lower_1 : decode cX11_lower 1 = .ok (.getfield 55, 3) := by decide +kernel
theorem dX11_lower_4 : decode cX11_lower 4 = .ok (.getfield 310, 3) := by decide +kernel
theorem dX11_lower_7 : decode cX11_lower 7 = .ok (.lreturn, 1) := by decide +kernel
abbrev z_X11_lower_0 : Z9 := (some .long, 2, 0, 0, 1, 0)
def m_X11_lower_0 (d : D9) : Option R9 := rt (d 53 1) d
set_option maxRecDepth 100000 in
theorem t_X11_lower_0 {G : G9} {l : Launch} (h1 : va_D (A9 G) (wl G (fun _ _ => 0))) (h2 : l.stackTraces = false) (d : D9) : MT G l yX11_lower cX11_lower 1 z_X11_lower_0 [rf G 0] d (m_X11_lower_0  d) := by
  refine mt_of (own := RX11) (by decide) rfl (Nat.le_of_ble_eq_true rfl) h1 h2 [(0, rf G 0)] rfl (fun X hX C => ?_)
  unfold m_X11_lower_0
  refine r_aload_n C 0 dX11_lower_0 rfl rfl ?_
  refine r_getR C 53 dX11_lower_1 fl_X11_55 la_0 ly_0 rfl rfl ?_
  refine r_getL C dX11_lower_4 fl_X11_310 la_53 ly_53 rfl ?_
  exact r_lret C dX11_lower_7 (by decide) (by decide)
theorem dX11_many_0 : decode cX11_many 0 = .ok (.iload_n 1, 1) := by decide +kernel
theorem dX11_many_1 : decode cX11_many 1 = .ok (.iconst 1, 1) := by decide +kernel
theorem dX11_many_2 : decode cX11_many 2 = .ok (.bipush 9, 2) := by decide +kernel
theorem dX11_many_4 : decode cX11_many 4 = .ok (.invokestatic 73, 3) := by decide +kernel
theorem dX11_many_7 : decode cX11_many 7 = .ok (.lconst 1, 1) := by decide +kernel
theorem dX11_many_8 : decode cX11_many 8 = .ok (.lstore_n 2, 1) := by decide +kernel
theorem dX11_many_9 : decode cX11_many 9 = .ok (.lconst 1, 1) := by decide +kernel
theorem dX11_many_10 : decode cX11_many 10 = .ok (.lstore 4, 2) := by decide +kernel
theorem dX11_many_12 : decode cX11_many 12 = .ok (.iconst 0, 1) := by decide +kernel
theorem dX11_many_13 : decode cX11_many 13 = .ok (.istore 6, 2) := by decide +kernel
theorem dX11_many_15 : decode cX11_many 15 = .ok (.iload 6, 2) := by decide +kernel
theorem dX11_many_17 : decode cX11_many 17 = .ok (.iload_n 1, 1) := by decide +kernel
theorem dX11_many_18 : decode cX11_many 18 = .ok (.if_icmp .ge 34, 3) := by decide +kernel
theorem dX11_many_21 : decode cX11_many 21 = .ok (.lload_n 2, 1) := by decide +kernel
theorem dX11_many_22 : decode cX11_many 22 = .ok (.bipush 100, 2) := by decide +kernel
theorem dX11_many_24 : decode cX11_many 24 = .ok (.aload_n 0, 1) := by decide +kernel
theorem dX11_many_25 : decode cX11_many 25 = .ok (.getfield 10, 3) := by decide +kernel
theorem dX11_many_28 : decode cX11_many 28 = .ok (.getfield 137, 3) := by decide +kernel
theorem dX11_many_31 : decode cX11_many 31 = .ok (.getfield 301, 3) := by decide +kernel
theorem dX11_many_34 : decode cX11_many 34 = .ok (.isub, 1) := by decide +kernel
theorem dX11_many_35 : decode cX11_many 35 = .ok (.i2l, 1) := by decide +kernel
theorem dX11_many_36 : decode cX11_many 36 = .ok (.lmul, 1) := by decide +kernel
theorem dX11_many_37 : decode cX11_many 37 = .ok (.lstore_n 2, 1) := by decide +kernel
theorem dX11_many_38 : decode cX11_many 38 = .ok (.lload 4, 2) := by decide +kernel
theorem dX11_many_40 : decode cX11_many 40 = .ok (.ldc2_w 304, 3) := by decide +kernel
theorem dX11_many_43 : decode cX11_many 43 = .ok (.lmul, 1) := by decide +kernel
theorem dX11_many_44 : decode cX11_many 44 = .ok (.lstore 4, 2) := by decide +kernel
theorem dX11_many_46 : decode cX11_many 46 = .ok (.iinc 6 1, 3) := by decide +kernel
theorem dX11_many_49 : decode cX11_many 49 = .ok (.goto (-34), 3) := by decide +kernel
theorem dX11_many_52 : decode cX11_many 52 = .ok (.aload_n 0, 1) := by decide +kernel
theorem dX11_many_53 : decode cX11_many 53 = .ok (.getfield 55, 3) := by decide +kernel
theorem dX11_many_56 : decode cX11_many 56 = .ok (.lload 4, 2) := by decide +kernel
theorem dX11_many_58 : decode cX11_many 58 = .ok (.lload_n 2, 1) := by decide +kernel
theorem dX11_many_59 : decode cX11_many 59 = .ok (.lsub, 1) := by decide +kernel
theorem dX11_many_60 : decode cX11_many 60 = .ok (.lload 4, 2) := by decide +kernel
theorem dX11_many_62 : decode cX11_many 62 = .ok (.invokevirtual 241, 3) := by decide +kernel
theorem dX11_many_65 : decode cX11_many 65 = .ok (.pop, 1) := by decide +kernel
theorem dX11_many_66 : decode cX11_many 66 = .ok (.return_, 1) := by decide +kernel
abbrev z_X11_many_0 : Z9 := (none, 0, 1, 6, 7, 122)
def b_X11_many_0_c15 (k_X11_many_0_c15 : Int → Int → Int → Int → D9 → Option R9) (v1 v2 v4 v6 : Int) (d : D9) : Option R9 := if w32 v1 ≤ w32 v6 then cl (m_X0_put_53 (v4 - v2) v4 d) (fun r1 d2 => rt 0 d2) else lt9v (v2 * (w32 (100 - (d 22 6)))) (fun a3 => lt9v (v4 * 100) (fun a4 => k_X11_many_0_c15 v1 a3 a4 (v6 + 1) d))
def m_X11_many_0_c15 : Int → Int → Int → Int → D9 → Option R9 := fix9 (fun _ _ _ _ _ => none) (fun k => b_X11_many_0_c15 k) FU
def m_X11_many_0 (p1 : Int) (d : D9) : Option R9 := cl (m_X11_askWithin p1 1 9 d) (fun r1 d2 => m_X11_many_0_c15  p1 1 1 0 d2)
set_option maxRecDepth 100000 in
theorem sb_X11_many_0_c15 {G : G9} {X : X9} (C : CX G X cX11_many 7 RX11 [] z_X11_many_0) (k_X11_many_0_c15 : Int → Int → Int → Int → D9 → Option R9) (hk_X11_many_0_c15 : ∀ (v1 v2 v4 v6 : Int) (d : D9), SS G X 7 1 6 15 [(0, rf G 0), (1, i9 v1), (2, l9 v2), (4, l9 v4), (6, i9 v6)] [] d (k_X11_many_0_c15 v1 v2 v4 v6 d)) : ∀ (v1 v2 v4 v6 : Int) (d : D9), SS G X 7 1 6 15 [(0, rf G 0), (1, i9 v1), (2, l9 v2), (4, l9 v4), (6, i9 v6)] [] d (b_X11_many_0_c15 k_X11_many_0_c15 v1 v2 v4 v6 d) := by
  intro v1 v2 v4 v6 d
  unfold b_X11_many_0_c15
  refine r_iload C 4 dX11_many_15 rfl ?_
  refine r_iload_n C 1 dX11_many_17 rfl rfl ?_
  refine r_icmp_ge C 52 dX11_many_18 (by decide) (fun _ => ?_) (fun _ => ?_)
  · refine r_aload_n C 0 dX11_many_52 rfl rfl ?_
    refine r_getR C 53 dX11_many_53 fl_X11_55 la_0 ly_0 rfl rfl ?_
    refine r_lload C 3 dX11_many_56 rfl ?_
    refine r_lload_n C 2 dX11_many_58 rfl rfl ?_
    refine r_lsub C dX11_many_59 ?_
    refine r_lload C 3 dX11_many_60 rfl ?_
    refine r_callV C [l9 v4, l9 (v4 - v2), rf G 53] dX11_many_62 (t_X0_put_53 C.h1 C.h2 (v4 - v2) v4 d) mw_X11_241 mv_X0_put la_53 ly_53 rfl (by decide) (by decide) (by decide) rfl rfl (Nat.le_of_ble_eq_true rfl) (fun r1 d2 => ?_)
    show SS G X 7 _ _ 65 [(0, rf G 0), (1, i9 v1), (2, l9 v2), (4, l9 v4), (6, i9 v6)] [i9 r1] d2 _
    refine r_pop C dX11_many_65 rfl ?_
    exact r_vret C dX11_many_66 (by decide) (by decide)
  · refine r_lload_n C 2 dX11_many_21 rfl rfl ?_
    refine r_bipush C dX11_many_22 rfl ?_
    refine r_aload_n C 0 dX11_many_24 rfl rfl ?_
    refine r_getR C 1 dX11_many_25 fl_X11_10 la_0 ly_0 rfl rfl ?_
    refine r_getR C 22 dX11_many_28 fl_X11_137 la_1 ly_1 rfl rfl ?_
    refine r_getI C dX11_many_31 fl_X11_301 la_22 ly_22 rfl ?_
    refine r_isub C dX11_many_34 ?_
    refine r_i2l C dX11_many_35 ?_
    refine r_lmul C dX11_many_36 ?_
    refine ss_ltL (fun a3 => ?_)
    refine r_lstore_n C [(2, l9 a3), (0, rf G 0), (1, i9 v1), (4, l9 v4), (6, i9 v6)] dX11_many_37 rfl (by decide) rfl ?_
    refine r_lload C 3 dX11_many_38 rfl ?_
    refine r_ldcL C dX11_many_40 kc_X11_304 ?_
    refine r_lmul C dX11_many_43 ?_
    refine ss_ltL (fun a4 => ?_)
    refine r_lstore C [(4, l9 a4), (2, l9 a3), (0, rf G 0), (1, i9 v1), (6, i9 v6)] dX11_many_44 (by decide) rfl ?_
    refine r_iinc C 4 [(6, i9 (v6 + 1)), (4, l9 a4), (2, l9 a3), (0, rf G 0), (1, i9 v1)] dX11_many_46 rfl (by decide) rfl ?_
    refine r_goto C 15 dX11_many_49 (by decide) ?_
    refine ss_wide (k' := 1) (n' := 6) (by decide) (by decide) ?_
    refine ss_ls [(0, rf G 0), (1, i9 v1), (2, l9 a3), (4, l9 a4), (6, i9 (v6 + 1))] [3, 4, 2, 1, 0] rfl ?_
    exact hk_X11_many_0_c15 v1 a3 a4 (v6 + 1) d
theorem s_X11_many_0_c15 {G : G9} {X : X9} (C : CX G X cX11_many 7 RX11 [] z_X11_many_0) : ∀ (v1 v2 v4 v6 : Int) (d : D9), SS G X 7 1 6 15 [(0, rf G 0), (1, i9 v1), (2, l9 v2), (4, l9 v4), (6, i9 v6)] [] d (m_X11_many_0_c15  v1 v2 v4 v6 d) :=
  fix9_ind (P := fun k => ∀ (v1 v2 v4 v6 : Int) (d : D9), SS G X 7 1 6 15 [(0, rf G 0), (1, i9 v1), (2, l9 v2), (4, l9 v4), (6, i9 v6)] [] d (k v1 v2 v4 v6 d)) (fun _ _ _ _ _ => ss_none) (fun k hk => sb_X11_many_0_c15 C k hk) FU
set_option maxRecDepth 100000 in
theorem t_X11_many_0 {G : G9} {l : Launch} (h1 : va_D (A9 G) (wl G (fun _ _ => 0))) (h2 : l.stackTraces = false) (p1 : Int) (d : D9) : MT G l yX11_many cX11_many 7 z_X11_many_0 [rf G 0, i9 p1] d (m_X11_many_0 p1 d) := by
  refine mt_of (own := RX11) (by decide) rfl (Nat.le_of_ble_eq_true rfl) h1 h2 [(0, rf G 0), (1, i9 p1)] rfl (fun X hX C => ?_)
  unfold m_X11_many_0
  refine r_iload_n C 1 dX11_many_0 rfl rfl ?_
  refine r_iconst C dX11_many_1 ?_
  refine r_bipush C dX11_many_2 rfl ?_
  refine r_callS C [i9 9, i9 1, i9 p1] dX11_many_4 (t_X11_askWithin C.h1 C.h2 p1 1 9 d) mw_X11_73 ms_X11_askWithin (by decide) (by decide) (by decide) rfl rfl (Nat.le_of_ble_eq_true rfl) (fun r1 d2 => ?_)
  show SS G X 7 _ _ 7 [(0, rf G 0), (1, i9 p1)] [] d2 _
  refine r_lconst C dX11_many_7 (a := 1) rfl ?_
  refine r_lstore_n C [(2, l9 1), (0, rf G 0), (1, i9 p1)] dX11_many_8 rfl (by decide) rfl ?_
  refine r_lconst C dX11_many_9 (a := 1) rfl ?_
  refine r_lstore C [(4, l9 1), (2, l9 1), (0, rf G 0), (1, i9 p1)] dX11_many_10 (by decide) rfl ?_
  refine r_iconst C dX11_many_12 ?_
  refine r_istore C [(6, i9 0), (4, l9 1), (2, l9 1), (0, rf G 0), (1, i9 p1)] dX11_many_13 (by decide) rfl ?_
  refine ss_wide (k' := 1) (n' := 6) (by decide) (by decide) ?_
  refine ss_ls [(0, rf G 0), (1, i9 p1), (2, l9 1), (4, l9 1), (6, i9 0)] [3, 4, 2, 1, 0] rfl ?_
  exact s_X11_many_0_c15 C  p1 1 1 0 d2
theorem dX11_of_0 : decode cX11_of 0 = .ok (.aload_n 0, 1) := by decide +kernel
theorem dX11_of_1 : decode cX11_of 1 = .ok (.iload_n 1, 1) := by decide +kernel
theorem dX11_of_2 : decode cX11_of 2 = .ok (.invokevirtual 103, 3) := by decide +kernel
theorem dX11_of_5 : decode cX11_of 5 = .ok (.iload_n 2, 1) := by decide +kernel
theorem dX11_of_6 : decode cX11_of 6 = .ok (.iconst 0, 1) := by decide +kernel
theorem dX11_of_7 : decode cX11_of 7 = .ok (.bipush 8, 2) := by decide +kernel
theorem dX11_of_9 : decode cX11_of 9 = .ok (.invokestatic 73, 3) := by decide +kernel
theorem dX11_of_12 : decode cX11_of 12 = .ok (.aload_n 0, 1) := by decide +kernel
theorem dX11_of_13 : decode cX11_of 13 = .ok (.getfield 10, 3) := by decide +kernel
theorem dX11_of_16 : decode cX11_of 16 = .ok (.getfield 77, 3) := by decide +kernel
theorem dX11_of_19 : decode cX11_of 19 = .ok (.astore_n 3, 1) := by decide +kernel
theorem dX11_of_20 : decode cX11_of 20 = .ok (.iload_n 2, 1) := by decide +kernel
theorem dX11_of_21 : decode cX11_of 21 = .ok (.ifCond .ne 10, 3) := by decide +kernel
theorem dX11_of_24 : decode cX11_of 24 = .ok (.aload_n 3, 1) := by decide +kernel
theorem dX11_of_25 : decode cX11_of 25 = .ok (.getfield 144, 3) := by decide +kernel
theorem dX11_of_28 : decode cX11_of 28 = .ok (.iload_n 1, 1) := by decide +kernel
theorem dX11_of_29 : decode cX11_of 29 = .ok (.iaload, 1) := by decide +kernel
theorem dX11_of_30 : decode cX11_of 30 = .ok (.ireturn, 1) := by decide +kernel
theorem dX11_of_31 : decode cX11_of 31 = .ok (.iload_n 2, 1) := by decide +kernel
theorem dX11_of_32 : decode cX11_of 32 = .ok (.iconst 1, 1) := by decide +kernel
theorem dX11_of_33 : decode cX11_of 33 = .ok (.if_icmp .ne 10, 3) := by decide +kernel
theorem dX11_of_36 : decode cX11_of 36 = .ok (.aload_n 3, 1) := by decide +kernel
theorem dX11_of_37 : decode cX11_of 37 = .ok (.getfield 106, 3) := by decide +kernel
theorem dX11_of_40 : decode cX11_of 40 = .ok (.iload_n 1, 1) := by decide +kernel
theorem dX11_of_41 : decode cX11_of 41 = .ok (.iaload, 1) := by decide +kernel
theorem dX11_of_42 : decode cX11_of 42 = .ok (.ireturn, 1) := by decide +kernel
theorem dX11_of_43 : decode cX11_of 43 = .ok (.iload_n 2, 1) := by decide +kernel
theorem dX11_of_44 : decode cX11_of 44 = .ok (.iconst 2, 1) := by decide +kernel
theorem dX11_of_45 : decode cX11_of 45 = .ok (.if_icmp .ne 10, 3) := by decide +kernel
theorem dX11_of_48 : decode cX11_of 48 = .ok (.aload_n 3, 1) := by decide +kernel
theorem dX11_of_49 : decode cX11_of 49 = .ok (.getfield 147, 3) := by decide +kernel
theorem dX11_of_52 : decode cX11_of 52 = .ok (.iload_n 1, 1) := by decide +kernel
theorem dX11_of_53 : decode cX11_of 53 = .ok (.iaload, 1) := by decide +kernel
theorem dX11_of_54 : decode cX11_of 54 = .ok (.ireturn, 1) := by decide +kernel
theorem dX11_of_55 : decode cX11_of 55 = .ok (.iload_n 2, 1) := by decide +kernel
theorem dX11_of_56 : decode cX11_of 56 = .ok (.bipush 8, 2) := by decide +kernel
theorem dX11_of_58 : decode cX11_of 58 = .ok (.if_icmp .ne 15, 3) := by decide +kernel
theorem dX11_of_61 : decode cX11_of 61 = .ok (.aload_n 3, 1) := by decide +kernel
theorem dX11_of_62 : decode cX11_of 62 = .ok (.getfield 150, 3) := by decide +kernel
theorem dX11_of_65 : decode cX11_of 65 = .ok (.iload_n 1, 1) := by decide +kernel
theorem dX11_of_66 : decode cX11_of 66 = .ok (.iaload, 1) := by decide +kernel
theorem dX11_of_67 : decode cX11_of 67 = .ok (.invokestatic 153, 3) := by decide +kernel
theorem dX11_of_70 : decode cX11_of 70 = .ok (.goto 15, 3) := by decide +kernel
theorem dX11_of_73 : decode cX11_of 73 = .ok (.aload_n 3, 1) := by decide +kernel
theorem dX11_of_74 : decode cX11_of 74 = .ok (.getfield 95, 3) := by decide +kernel
theorem dX11_of_77 : decode cX11_of 77 = .ok (.iload_n 1, 1) := by decide +kernel
theorem dX11_of_78 : decode cX11_of 78 = .ok (.iconst 5, 1) := by decide +kernel
theorem dX11_of_79 : decode cX11_of 79 = .ok (.imul, 1) := by decide +kernel
theorem dX11_of_80 : decode cX11_of 80 = .ok (.iload_n 2, 1) := by decide +kernel
theorem dX11_of_81 : decode cX11_of 81 = .ok (.iadd, 1) := by decide +kernel
theorem dX11_of_82 : decode cX11_of 82 = .ok (.iconst 3, 1) := by decide +kernel
theorem dX11_of_83 : decode cX11_of 83 = .ok (.isub, 1) := by decide +kernel
theorem dX11_of_84 : decode cX11_of 84 = .ok (.iaload, 1) := by decide +kernel
theorem dX11_of_85 : decode cX11_of 85 = .ok (.ireturn, 1) := by decide +kernel
abbrev z_X11_of_0 : Z9 := (some .int, 1, 2, 12, 7, 122)
def m_X11_of_0 (p1 p2 : Int) (d : D9) : Option R9 := cl (m_X11_askPaint_0 p1 d) (fun r1 d2 => cl (m_X11_askWithin p2 0 8 d2) (fun r3 d4 => if w32 p2 ≠ 0 then if w32 p2 ≠ w32 1 then if w32 p2 ≠ w32 2 then if w32 p2 ≠ w32 8 then ld d4 6 150 (((p1 * 5) + p2) - 3) (fun t5 => rt t5 d4) else ld d4 7 30 p1 (fun t6 => cl (m_J6_bitCount_0f7a4 t6 d4) (fun r7 d8 => rt r7 d8)) else ld d4 5 30 p1 (fun t9 => rt t9 d4) else ld d4 4 30 p1 (fun t10 => rt t10 d4) else ld d4 3 30 p1 (fun t11 => rt t11 d4)))
set_option maxRecDepth 100000 in
theorem t_X11_of_0 {G : G9} {l : Launch} (h1 : va_D (A9 G) (wl G (fun _ _ => 0))) (h2 : l.stackTraces = false) (p1 p2 : Int) (d : D9) : MT G l yX11_of cX11_of 4 z_X11_of_0 [rf G 0, i9 p1, i9 p2] d (m_X11_of_0 p1 p2 d) := by
  refine mt_of (own := RX11) (by decide) rfl (Nat.le_of_ble_eq_true rfl) h1 h2 [(0, rf G 0), (1, i9 p1), (2, i9 p2)] rfl (fun X hX C => ?_)
  unfold m_X11_of_0
  refine r_aload_n C 0 dX11_of_0 rfl rfl ?_
  refine r_iload_n C 1 dX11_of_1 rfl rfl ?_
  refine r_callV C [i9 p1, rf G 0] dX11_of_2 (t_X11_askPaint_0 C.h1 C.h2 p1 d) mw_X11_103 mv_X11_askPaint la_0 ly_0 rfl (by decide) (by decide) (by decide) rfl rfl (Nat.le_of_ble_eq_true rfl) (fun r1 d2 => ?_)
  show SS G X 4 _ _ 5 [(0, rf G 0), (1, i9 p1), (2, i9 p2)] [] d2 _
  refine r_iload_n C 2 dX11_of_5 rfl rfl ?_
  refine r_iconst C dX11_of_6 ?_
  refine r_bipush C dX11_of_7 rfl ?_
  refine r_callS C [i9 8, i9 0, i9 p2] dX11_of_9 (t_X11_askWithin C.h1 C.h2 p2 0 8 d2) mw_X11_73 ms_X11_askWithin (by decide) (by decide) (by decide) rfl rfl (Nat.le_of_ble_eq_true rfl) (fun r3 d4 => ?_)
  show SS G X 4 _ _ 12 [(0, rf G 0), (1, i9 p1), (2, i9 p2)] [] d4 _
  refine r_aload_n C 0 dX11_of_12 rfl rfl ?_
  refine r_getR C 1 dX11_of_13 fl_X11_10 la_0 ly_0 rfl rfl ?_
  refine r_getR C 2 dX11_of_16 fl_X11_77 la_1 ly_1 rfl rfl ?_
  refine r_astore_n C [(3, rf G 2), (0, rf G 0), (1, i9 p1), (2, i9 p2)] dX11_of_19 rfl (by decide) rfl ?_
  refine r_iload_n C 3 dX11_of_20 rfl rfl ?_
  refine r_if_ne C (b := 0) 31 dX11_of_21 (by decide) (fun _ => ?_) (fun _ => ?_)
  · refine r_iload_n C 3 dX11_of_31 rfl rfl ?_
    refine r_iconst C dX11_of_32 ?_
    refine r_icmp_ne C 43 dX11_of_33 (by decide) (fun _ => ?_) (fun _ => ?_)
    · refine r_iload_n C 3 dX11_of_43 rfl rfl ?_
      refine r_iconst C dX11_of_44 ?_
      refine r_icmp_ne C 55 dX11_of_45 (by decide) (fun _ => ?_) (fun _ => ?_)
      · refine r_iload_n C 3 dX11_of_55 rfl rfl ?_
        refine r_bipush C dX11_of_56 rfl ?_
        refine r_icmp_ne C 73 dX11_of_58 (by decide) (fun _ => ?_) (fun _ => ?_)
        · refine r_aload_n C 0 dX11_of_73 rfl rfl ?_
          refine r_getR C 6 dX11_of_74 fl_X11_95 la_2 ly_2 rfl rfl ?_
          refine r_iload_n C 2 dX11_of_77 rfl rfl ?_
          refine r_iconst C dX11_of_78 ?_
          refine r_imul C dX11_of_79 ?_
          refine r_iload_n C 3 dX11_of_80 rfl rfl ?_
          refine r_iadd C dX11_of_81 ?_
          refine r_iconst C dX11_of_82 ?_
          refine r_isub C dX11_of_83 ?_
          refine r_iald C dX11_of_84 la_6 ly_6 (fun t5 => ?_)
          exact r_iret C dX11_of_85 (by decide) (by decide)
        · refine r_aload_n C 0 dX11_of_61 rfl rfl ?_
          refine r_getR C 7 dX11_of_62 fl_X11_150 la_2 ly_2 rfl rfl ?_
          refine r_iload_n C 2 dX11_of_65 rfl rfl ?_
          refine r_iald C dX11_of_66 la_7 ly_7 (fun t6 => ?_)
          refine r_callS C [i9 t6] dX11_of_67 (t_J6_bitCount_0f7a4 C.h1 C.h2 t6 d4) mw_X11_153 ms_J6_bitCount_0f7a4 (by decide) (by decide) (by decide) rfl rfl (Nat.le_of_ble_eq_true rfl) (fun r7 d8 => ?_)
          show SS G X 4 _ _ 70 [(3, rf G 2), (0, rf G 0), (1, i9 p1), (2, i9 p2)] [i9 r7] d8 _
          refine r_goto C 85 dX11_of_70 (by decide) ?_
          exact r_iret C dX11_of_85 (by decide) (by decide)
      · refine r_aload_n C 0 dX11_of_48 rfl rfl ?_
        refine r_getR C 5 dX11_of_49 fl_X11_147 la_2 ly_2 rfl rfl ?_
        refine r_iload_n C 2 dX11_of_52 rfl rfl ?_
        refine r_iald C dX11_of_53 la_5 ly_5 (fun t9 => ?_)
        exact r_iret C dX11_of_54 (by decide) (by decide)
    · refine r_aload_n C 0 dX11_of_36 rfl rfl ?_
      refine r_getR C 4 dX11_of_37 fl_X11_106 la_2 ly_2 rfl rfl ?_
      refine r_iload_n C 2 dX11_of_40 rfl rfl ?_
      refine r_iald C dX11_of_41 la_4 ly_4 (fun t10 => ?_)
      exact r_iret C dX11_of_42 (by decide) (by decide)
  · refine r_aload_n C 0 dX11_of_24 rfl rfl ?_
    refine r_getR C 3 dX11_of_25 fl_X11_144 la_2 ly_2 rfl rfl ?_
    refine r_iload_n C 2 dX11_of_28 rfl rfl ?_
    refine r_iald C dX11_of_29 la_3 ly_3 (fun t11 => ?_)
    exact r_iret C dX11_of_30 (by decide) (by decide)
theorem dX6_nextOldest_0 : decode cX6_nextOldest 0 = .ok (.iconst (-1), 1) := by decide +kernel
theorem dX6_nextOldest_1 : decode cX6_nextOldest 1 = .ok (.istore 4, 2) := by decide +kernel
theorem dX6_nextOldest_3 : decode cX6_nextOldest 3 = .ok (.iconst 0, 1) := by decide +kernel
theorem dX6_nextOldest_4 : decode cX6_nextOldest 4 = .ok (.istore 5, 2) := by decide +kernel
theorem dX6_nextOldest_6 : decode cX6_nextOldest 6 = .ok (.iload 5, 2) := by decide +kernel
theorem dX6_nextOldest_8 : decode cX6_nextOldest 8 = .ok (.aload_n 0, 1) := by decide +kernel
theorem dX6_nextOldest_9 : decode cX6_nextOldest 9 = .ok (.getfield 48, 3) := by decide +kernel
theorem dX6_nextOldest_12 : decode cX6_nextOldest 12 = .ok (.if_icmp .ge 67, 3) := by decide +kernel
theorem dX6_nextOldest_15 : decode cX6_nextOldest 15 = .ok (.iload_n 3, 1) := by decide +kernel
theorem dX6_nextOldest_16 : decode cX6_nextOldest 16 = .ok (.iload 5, 2) := by decide +kernel
theorem dX6_nextOldest_18 : decode cX6_nextOldest 18 = .ok (.invokestatic 93, 3) := by decide +kernel
theorem dX6_nextOldest_21 : decode cX6_nextOldest 21 = .ok (.ifCond .ne 52, 3) := by decide +kernel
theorem dX6_nextOldest_24 : decode cX6_nextOldest 24 = .ok (.aload_n 0, 1) := by decide +kernel
theorem dX6_nextOldest_25 : decode cX6_nextOldest 25 = .ok (.iload 5, 2) := by decide +kernel
theorem dX6_nextOldest_27 : decode cX6_nextOldest 27 = .ok (.iconst 1, 1) := by decide +kernel
theorem dX6_nextOldest_28 : decode cX6_nextOldest 28 = .ok (.iload_n 1, 1) := by decide +kernel
theorem dX6_nextOldest_29 : decode cX6_nextOldest 29 = .ok (.invokevirtual 97, 3) := by decide +kernel
theorem dX6_nextOldest_32 : decode cX6_nextOldest 32 = .ok (.ifCond .eq 41, 3) := by decide +kernel
theorem dX6_nextOldest_35 : decode cX6_nextOldest 35 = .ok (.aload_n 0, 1) := by decide +kernel
theorem dX6_nextOldest_36 : decode cX6_nextOldest 36 = .ok (.getfield 30, 3) := by decide +kernel
theorem dX6_nextOldest_39 : decode cX6_nextOldest 39 = .ok (.iload 5, 2) := by decide +kernel
theorem dX6_nextOldest_41 : decode cX6_nextOldest 41 = .ok (.iaload, 1) := by decide +kernel
theorem dX6_nextOldest_42 : decode cX6_nextOldest 42 = .ok (.iload_n 2, 1) := by decide +kernel
theorem dX6_nextOldest_43 : decode cX6_nextOldest 43 = .ok (.if_icmp .lt 30, 3) := by decide +kernel
theorem dX6_nextOldest_46 : decode cX6_nextOldest 46 = .ok (.iload 4, 2) := by decide +kernel
theorem dX6_nextOldest_48 : decode cX6_nextOldest 48 = .ok (.iconst (-1), 1) := by decide +kernel
theorem dX6_nextOldest_49 : decode cX6_nextOldest 49 = .ok (.if_icmp .eq 20, 3) := by decide +kernel
theorem dX6_nextOldest_52 : decode cX6_nextOldest 52 = .ok (.aload_n 0, 1) := by decide +kernel
theorem dX6_nextOldest_53 : decode cX6_nextOldest 53 = .ok (.getfield 30, 3) := by decide +kernel
theorem dX6_nextOldest_56 : decode cX6_nextOldest 56 = .ok (.iload 5, 2) := by decide +kernel
theorem dX6_nextOldest_58 : decode cX6_nextOldest 58 = .ok (.iaload, 1) := by decide +kernel
theorem dX6_nextOldest_59 : decode cX6_nextOldest 59 = .ok (.aload_n 0, 1) := by decide +kernel
theorem dX6_nextOldest_60 : decode cX6_nextOldest 60 = .ok (.getfield 30, 3) := by decide +kernel
theorem dX6_nextOldest_63 : decode cX6_nextOldest 63 = .ok (.iload 4, 2) := by decide +kernel
theorem dX6_nextOldest_65 : decode cX6_nextOldest 65 = .ok (.iaload, 1) := by decide +kernel
theorem dX6_nextOldest_66 : decode cX6_nextOldest 66 = .ok (.if_icmp .le 7, 3) := by decide +kernel
theorem dX6_nextOldest_69 : decode cX6_nextOldest 69 = .ok (.iload 5, 2) := by decide +kernel
theorem dX6_nextOldest_71 : decode cX6_nextOldest 71 = .ok (.istore 4, 2) := by decide +kernel
theorem dX6_nextOldest_73 : decode cX6_nextOldest 73 = .ok (.iinc 5 1, 3) := by decide +kernel
theorem dX6_nextOldest_76 : decode cX6_nextOldest 76 = .ok (.goto (-70), 3) := by decide +kernel
theorem dX6_nextOldest_79 : decode cX6_nextOldest 79 = .ok (.iload 4, 2) := by decide +kernel
theorem dX6_nextOldest_81 : decode cX6_nextOldest 81 = .ok (.ireturn, 1) := by decide +kernel
abbrev z_X6_nextOldest_9 : Z9 := (some .int, 1, 0, 0, 3, 44)
def b_X6_nextOldest_9_c6 (k_X6_nextOldest_9_c6 : Int → Int → Int → Int → Int → D9 → Option R9) (v1 v2 v3 v4 v5 : Int) (d : D9) : Option R9 := if w32 (d 9 0) ≤ w32 v5 then rt v4 d else cl (m_X11_isIn v3 v5 d) (fun r1 d2 => if w32 r1 ≠ 0 then k_X6_nextOldest_9_c6 v1 v2 v3 v4 (v5 + 1) d2 else cl (m_X6_speaks_9 v5 1 v1 d2) (fun r3 d4 => if w32 r3 = 0 then k_X6_nextOldest_9_c6 v1 v2 v3 v4 (v5 + 1) d4 else ld d4 16 30 v5 (fun t5 => if w32 t5 < w32 v2 then k_X6_nextOldest_9_c6 v1 v2 v3 v4 (v5 + 1) d4 else if w32 v4 = w32 (-1) then k_X6_nextOldest_9_c6 v1 v2 v3 v5 (v5 + 1) d4 else ld d4 16 30 v5 (fun t6 => ld d4 16 30 v4 (fun t7 => if w32 t6 ≤ w32 t7 then k_X6_nextOldest_9_c6 v1 v2 v3 v4 (v5 + 1) d4 else k_X6_nextOldest_9_c6 v1 v2 v3 v5 (v5 + 1) d4)))))
def m_X6_nextOldest_9_c6 : Int → Int → Int → Int → Int → D9 → Option R9 := fix9 (fun _ _ _ _ _ _ => none) (fun k => b_X6_nextOldest_9_c6 k) FU
def m_X6_nextOldest_9 (p1 p2 p3 : Int) (d : D9) : Option R9 := m_X6_nextOldest_9_c6  p1 p2 p3 (-1) 0 d
set_option maxRecDepth 100000 in
theorem sb_X6_nextOldest_9_c6 {G : G9} {X : X9} (C : CX G X cX6_nextOldest 6 RX6 [] z_X6_nextOldest_9) (k_X6_nextOldest_9_c6 : Int → Int → Int → Int → Int → D9 → Option R9) (hk_X6_nextOldest_9_c6 : ∀ (v1 v2 v3 v4 v5 : Int) (d : D9), SS G X 6 0 0 6 [(0, rf G 9), (1, i9 v1), (2, i9 v2), (3, i9 v3), (4, i9 v4), (5, i9 v5)] [] d (k_X6_nextOldest_9_c6 v1 v2 v3 v4 v5 d)) : ∀ (v1 v2 v3 v4 v5 : Int) (d : D9), SS G X 6 0 0 6 [(0, rf G 9), (1, i9 v1), (2, i9 v2), (3, i9 v3), (4, i9 v4), (5, i9 v5)] [] d (b_X6_nextOldest_9_c6 k_X6_nextOldest_9_c6 v1 v2 v3 v4 v5 d) := by
  intro v1 v2 v3 v4 v5 d
  unfold b_X6_nextOldest_9_c6
  refine r_iload C 5 dX6_nextOldest_6 rfl ?_
  refine r_aload_n C 0 dX6_nextOldest_8 rfl rfl ?_
  refine r_getI C dX6_nextOldest_9 fl_X6_48 la_9 ly_9 rfl ?_
  refine r_icmp_ge C 79 dX6_nextOldest_12 (by decide) (fun _ => ?_) (fun _ => ?_)
  · refine r_iload C 4 dX6_nextOldest_79 rfl ?_
    exact r_iret C dX6_nextOldest_81 (by decide) (by decide)
  · refine r_iload_n C 3 dX6_nextOldest_15 rfl rfl ?_
    refine r_iload C 5 dX6_nextOldest_16 rfl ?_
    refine r_callN C [i9 v5, i9 v3] dX6_nextOldest_18 (t_X11_isIn C.h1 C.h2 v3 v5 d) (n_X11_isIn v3 v5 d) mn_X6_93 ms_X11_isIn (by decide) (by decide) (by decide) rfl rfl (Nat.le_of_ble_eq_true rfl) (fun r1 d2 => ?_)
    show SS G X 6 _ _ 21 [(0, rf G 9), (1, i9 v1), (2, i9 v2), (3, i9 v3), (4, i9 v4), (5, i9 v5)] [i9 r1] d2 _
    refine r_if_ne C (b := 0) 73 dX6_nextOldest_21 (by decide) (fun _ => ?_) (fun _ => ?_)
    · refine r_iinc C 5 [(5, i9 (v5 + 1)), (0, rf G 9), (1, i9 v1), (2, i9 v2), (3, i9 v3), (4, i9 v4)] dX6_nextOldest_73 rfl (by decide) rfl ?_
      refine r_goto C 6 dX6_nextOldest_76 (by decide) ?_
      refine ss_wide (k' := 0) (n' := 0) (by decide) (by decide) ?_
      refine ss_ls [(0, rf G 9), (1, i9 v1), (2, i9 v2), (3, i9 v3), (4, i9 v4), (5, i9 (v5 + 1))] [1, 2, 3, 4, 5, 0] rfl ?_
      exact hk_X6_nextOldest_9_c6 v1 v2 v3 v4 (v5 + 1) d2
    · refine r_aload_n C 0 dX6_nextOldest_24 rfl rfl ?_
      refine r_iload C 5 dX6_nextOldest_25 rfl ?_
      refine r_iconst C dX6_nextOldest_27 ?_
      refine r_iload_n C 1 dX6_nextOldest_28 rfl rfl ?_
      refine r_callV C [i9 v1, i9 1, i9 v5, rf G 9] dX6_nextOldest_29 (t_X6_speaks_9 C.h1 C.h2 v5 1 v1 d2) mw_X6_97 mv_X6_speaks la_9 ly_9 rfl (by decide) (by decide) (by decide) rfl rfl (Nat.le_of_ble_eq_true rfl) (fun r3 d4 => ?_)
      show SS G X 6 _ _ 32 [(0, rf G 9), (1, i9 v1), (2, i9 v2), (3, i9 v3), (4, i9 v4), (5, i9 v5)] [i9 r3] d4 _
      refine r_if_eq C (b := 0) 73 dX6_nextOldest_32 (by decide) (fun _ => ?_) (fun _ => ?_)
      · refine r_iinc C 5 [(5, i9 (v5 + 1)), (0, rf G 9), (1, i9 v1), (2, i9 v2), (3, i9 v3), (4, i9 v4)] dX6_nextOldest_73 rfl (by decide) rfl ?_
        refine r_goto C 6 dX6_nextOldest_76 (by decide) ?_
        refine ss_wide (k' := 0) (n' := 0) (by decide) (by decide) ?_
        refine ss_ls [(0, rf G 9), (1, i9 v1), (2, i9 v2), (3, i9 v3), (4, i9 v4), (5, i9 (v5 + 1))] [1, 2, 3, 4, 5, 0] rfl ?_
        exact hk_X6_nextOldest_9_c6 v1 v2 v3 v4 (v5 + 1) d4
      · refine r_aload_n C 0 dX6_nextOldest_35 rfl rfl ?_
        refine r_getR C 16 dX6_nextOldest_36 fl_X6_30 la_9 ly_9 rfl rfl ?_
        refine r_iload C 5 dX6_nextOldest_39 rfl ?_
        refine r_iald C dX6_nextOldest_41 la_16 ly_16 (fun t5 => ?_)
        refine r_iload_n C 2 dX6_nextOldest_42 rfl rfl ?_
        refine r_icmp_lt C 73 dX6_nextOldest_43 (by decide) (fun _ => ?_) (fun _ => ?_)
        · refine r_iinc C 5 [(5, i9 (v5 + 1)), (0, rf G 9), (1, i9 v1), (2, i9 v2), (3, i9 v3), (4, i9 v4)] dX6_nextOldest_73 rfl (by decide) rfl ?_
          refine r_goto C 6 dX6_nextOldest_76 (by decide) ?_
          refine ss_wide (k' := 0) (n' := 0) (by decide) (by decide) ?_
          refine ss_ls [(0, rf G 9), (1, i9 v1), (2, i9 v2), (3, i9 v3), (4, i9 v4), (5, i9 (v5 + 1))] [1, 2, 3, 4, 5, 0] rfl ?_
          exact hk_X6_nextOldest_9_c6 v1 v2 v3 v4 (v5 + 1) d4
        · refine r_iload C 4 dX6_nextOldest_46 rfl ?_
          refine r_iconst C dX6_nextOldest_48 ?_
          refine r_icmp_eq C 69 dX6_nextOldest_49 (by decide) (fun _ => ?_) (fun _ => ?_)
          · refine r_iload C 5 dX6_nextOldest_69 rfl ?_
            refine r_istore C [(4, i9 v5), (0, rf G 9), (1, i9 v1), (2, i9 v2), (3, i9 v3), (5, i9 v5)] dX6_nextOldest_71 (by decide) rfl ?_
            refine r_iinc C 5 [(5, i9 (v5 + 1)), (4, i9 v5), (0, rf G 9), (1, i9 v1), (2, i9 v2), (3, i9 v3)] dX6_nextOldest_73 rfl (by decide) rfl ?_
            refine r_goto C 6 dX6_nextOldest_76 (by decide) ?_
            refine ss_wide (k' := 0) (n' := 0) (by decide) (by decide) ?_
            refine ss_ls [(0, rf G 9), (1, i9 v1), (2, i9 v2), (3, i9 v3), (4, i9 v5), (5, i9 (v5 + 1))] [2, 3, 4, 5, 1, 0] rfl ?_
            exact hk_X6_nextOldest_9_c6 v1 v2 v3 v5 (v5 + 1) d4
          · refine r_aload_n C 0 dX6_nextOldest_52 rfl rfl ?_
            refine r_getR C 16 dX6_nextOldest_53 fl_X6_30 la_9 ly_9 rfl rfl ?_
            refine r_iload C 5 dX6_nextOldest_56 rfl ?_
            refine r_iald C dX6_nextOldest_58 la_16 ly_16 (fun t6 => ?_)
            refine r_aload_n C 0 dX6_nextOldest_59 rfl rfl ?_
            refine r_getR C 16 dX6_nextOldest_60 fl_X6_30 la_9 ly_9 rfl rfl ?_
            refine r_iload C 4 dX6_nextOldest_63 rfl ?_
            refine r_iald C dX6_nextOldest_65 la_16 ly_16 (fun t7 => ?_)
            refine r_icmp_le C 73 dX6_nextOldest_66 (by decide) (fun _ => ?_) (fun _ => ?_)
            · refine r_iinc C 5 [(5, i9 (v5 + 1)), (0, rf G 9), (1, i9 v1), (2, i9 v2), (3, i9 v3), (4, i9 v4)] dX6_nextOldest_73 rfl (by decide) rfl ?_
              refine r_goto C 6 dX6_nextOldest_76 (by decide) ?_
              refine ss_wide (k' := 0) (n' := 0) (by decide) (by decide) ?_
              refine ss_ls [(0, rf G 9), (1, i9 v1), (2, i9 v2), (3, i9 v3), (4, i9 v4), (5, i9 (v5 + 1))] [1, 2, 3, 4, 5, 0] rfl ?_
              exact hk_X6_nextOldest_9_c6 v1 v2 v3 v4 (v5 + 1) d4
            · refine r_iload C 5 dX6_nextOldest_69 rfl ?_
              refine r_istore C [(4, i9 v5), (0, rf G 9), (1, i9 v1), (2, i9 v2), (3, i9 v3), (5, i9 v5)] dX6_nextOldest_71 (by decide) rfl ?_
              refine r_iinc C 5 [(5, i9 (v5 + 1)), (4, i9 v5), (0, rf G 9), (1, i9 v1), (2, i9 v2), (3, i9 v3)] dX6_nextOldest_73 rfl (by decide) rfl ?_
              refine r_goto C 6 dX6_nextOldest_76 (by decide) ?_
              refine ss_wide (k' := 0) (n' := 0) (by decide) (by decide) ?_
              refine ss_ls [(0, rf G 9), (1, i9 v1), (2, i9 v2), (3, i9 v3), (4, i9 v5), (5, i9 (v5 + 1))] [2, 3, 4, 5, 1, 0] rfl ?_
              exact hk_X6_nextOldest_9_c6 v1 v2 v3 v5 (v5 + 1) d4
theorem s_X6_nextOldest_9_c6 {G : G9} {X : X9} (C : CX G X cX6_nextOldest 6 RX6 [] z_X6_nextOldest_9) : ∀ (v1 v2 v3 v4 v5 : Int) (d : D9), SS G X 6 0 0 6 [(0, rf G 9), (1, i9 v1), (2, i9 v2), (3, i9 v3), (4, i9 v4), (5, i9 v5)] [] d (m_X6_nextOldest_9_c6  v1 v2 v3 v4 v5 d) :=
  fix9_ind (P := fun k => ∀ (v1 v2 v3 v4 v5 : Int) (d : D9), SS G X 6 0 0 6 [(0, rf G 9), (1, i9 v1), (2, i9 v2), (3, i9 v3), (4, i9 v4), (5, i9 v5)] [] d (k v1 v2 v3 v4 v5 d)) (fun _ _ _ _ _ _ => ss_none) (fun k hk => sb_X6_nextOldest_9_c6 C k hk) FU
set_option maxRecDepth 100000 in
theorem t_X6_nextOldest_9 {G : G9} {l : Launch} (h1 : va_D (A9 G) (wl G (fun _ _ => 0))) (h2 : l.stackTraces = false) (p1 p2 p3 : Int) (d : D9) : MT G l yX6_nextOldest cX6_nextOldest 6 z_X6_nextOldest_9 [rf G 9, i9 p1, i9 p2, i9 p3] d (m_X6_nextOldest_9 p1 p2 p3 d) := by
  refine mt_of (own := RX6) (by decide) rfl (Nat.le_of_ble_eq_true rfl) h1 h2 [(0, rf G 9), (1, i9 p1), (2, i9 p2), (3, i9 p3)] rfl (fun X hX C => ?_)
  unfold m_X6_nextOldest_9
  refine r_iconst C dX6_nextOldest_0 ?_
  refine r_istore C [(4, i9 (-1)), (0, rf G 9), (1, i9 p1), (2, i9 p2), (3, i9 p3)] dX6_nextOldest_1 (by decide) rfl ?_
  refine r_iconst C dX6_nextOldest_3 ?_
  refine r_istore C [(5, i9 0), (4, i9 (-1)), (0, rf G 9), (1, i9 p1), (2, i9 p2), (3, i9 p3)] dX6_nextOldest_4 (by decide) rfl ?_
  refine ss_wide (k' := 0) (n' := 0) (by decide) (by decide) ?_
  refine ss_ls [(0, rf G 9), (1, i9 p1), (2, i9 p2), (3, i9 p3), (4, i9 (-1)), (5, i9 0)] [2, 3, 4, 5, 1, 0] rfl ?_
  exact s_X6_nextOldest_9_c6 C  p1 p2 p3 (-1) 0 d
theorem dX10_olderInto_0 : decode cX10_olderInto 0 = .ok (.aload_n 0, 1) := by decide +kernel
theorem dX10_olderInto_1 : decode cX10_olderInto 1 = .ok (.getfield 12, 3) := by decide +kernel
theorem dX10_olderInto_4 : decode cX10_olderInto 4 = .ok (.iload_n 1, 1) := by decide +kernel
theorem dX10_olderInto_5 : decode cX10_olderInto 5 = .ok (.invokevirtual 72, 3) := by decide +kernel
theorem dX10_olderInto_8 : decode cX10_olderInto 8 = .ok (.istore 4, 2) := by decide +kernel
theorem dX10_olderInto_10 : decode cX10_olderInto 10 = .ok (.iconst 0, 1) := by decide +kernel
theorem dX10_olderInto_11 : decode cX10_olderInto 11 = .ok (.istore 5, 2) := by decide +kernel
theorem dX10_olderInto_13 : decode cX10_olderInto 13 = .ok (.lconst 1, 1) := by decide +kernel
theorem dX10_olderInto_14 : decode cX10_olderInto 14 = .ok (.lstore 6, 2) := by decide +kernel
theorem dX10_olderInto_16 : decode cX10_olderInto 16 = .ok (.lconst 1, 1) := by decide +kernel
theorem dX10_olderInto_17 : decode cX10_olderInto 17 = .ok (.lstore 8, 2) := by decide +kernel
theorem dX10_olderInto_19 : decode cX10_olderInto 19 = .ok (.iconst 0, 1) := by decide +kernel
theorem dX10_olderInto_20 : decode cX10_olderInto 20 = .ok (.istore 10, 2) := by decide +kernel
theorem dX10_olderInto_22 : decode cX10_olderInto 22 = .ok (.iload 10, 2) := by decide +kernel
theorem dX10_olderInto_24 : decode cX10_olderInto 24 = .ok (.iconst 5, 1) := by decide +kernel
theorem dX10_olderInto_25 : decode cX10_olderInto 25 = .ok (.if_icmp .ge 65, 3) := by decide +kernel
theorem dX10_olderInto_28 : decode cX10_olderInto 28 = .ok (.aload_n 0, 1) := by decide +kernel
theorem dX10_olderInto_29 : decode cX10_olderInto 29 = .ok (.getfield 21, 3) := by decide +kernel
theorem dX10_olderInto_32 : decode cX10_olderInto 32 = .ok (.iload 4, 2) := by decide +kernel
theorem dX10_olderInto_34 : decode cX10_olderInto 34 = .ok (.iload_n 2, 1) := by decide +kernel
theorem dX10_olderInto_35 : decode cX10_olderInto 35 = .ok (.iload 5, 2) := by decide +kernel
theorem dX10_olderInto_37 : decode cX10_olderInto 37 = .ok (.invokevirtual 117, 3) := by decide +kernel
theorem dX10_olderInto_40 : decode cX10_olderInto 40 = .ok (.istore 11, 2) := by decide +kernel
theorem dX10_olderInto_42 : decode cX10_olderInto 42 = .ok (.iload 11, 2) := by decide +kernel
theorem dX10_olderInto_44 : decode cX10_olderInto 44 = .ok (.iconst (-1), 1) := by decide +kernel
theorem dX10_olderInto_45 : decode cX10_olderInto 45 = .ok (.if_icmp .ne 6, 3) := by decide +kernel
theorem dX10_olderInto_48 : decode cX10_olderInto 48 = .ok (.goto 42, 3) := by decide +kernel
theorem dX10_olderInto_51 : decode cX10_olderInto 51 = .ok (.iload 5, 2) := by decide +kernel
theorem dX10_olderInto_53 : decode cX10_olderInto 53 = .ok (.iconst 1, 1) := by decide +kernel
theorem dX10_olderInto_54 : decode cX10_olderInto 54 = .ok (.iload 11, 2) := by decide +kernel
theorem dX10_olderInto_56 : decode cX10_olderInto 56 = .ok (.ishl, 1) := by decide +kernel
theorem dX10_olderInto_57 : decode cX10_olderInto 57 = .ok (.ior, 1) := by decide +kernel
theorem dX10_olderInto_58 : decode cX10_olderInto 58 = .ok (.istore 5, 2) := by decide +kernel
theorem dX10_olderInto_60 : decode cX10_olderInto 60 = .ok (.lload 6, 2) := by decide +kernel
theorem dX10_olderInto_62 : decode cX10_olderInto 62 = .ok (.aload_n 0, 1) := by decide +kernel
theorem dX10_olderInto_63 : decode cX10_olderInto 63 = .ok (.iload 11, 2) := by decide +kernel
theorem dX10_olderInto_65 : decode cX10_olderInto 65 = .ok (.invokevirtual 121, 3) := by decide +kernel
theorem dX10_olderInto_68 : decode cX10_olderInto 68 = .ok (.i2l, 1) := by decide +kernel
theorem dX10_olderInto_69 : decode cX10_olderInto 69 = .ok (.lmul, 1) := by decide +kernel
theorem dX10_olderInto_70 : decode cX10_olderInto 70 = .ok (.lstore 6, 2) := by decide +kernel
theorem dX10_olderInto_72 : decode cX10_olderInto 72 = .ok (.lload 8, 2) := by decide +kernel
theorem dX10_olderInto_74 : decode cX10_olderInto 74 = .ok (.aload_n 0, 1) := by decide +kernel
theorem dX10_olderInto_75 : decode cX10_olderInto 75 = .ok (.iload 11, 2) := by decide +kernel
theorem dX10_olderInto_77 : decode cX10_olderInto 77 = .ok (.invokevirtual 124, 3) := by decide +kernel
theorem dX10_olderInto_80 : decode cX10_olderInto 80 = .ok (.i2l, 1) := by decide +kernel
theorem dX10_olderInto_81 : decode cX10_olderInto 81 = .ok (.lmul, 1) := by decide +kernel
theorem dX10_olderInto_82 : decode cX10_olderInto 82 = .ok (.lstore 8, 2) := by decide +kernel
theorem dX10_olderInto_84 : decode cX10_olderInto 84 = .ok (.iinc 10 1, 3) := by decide +kernel
theorem dX10_olderInto_87 : decode cX10_olderInto 87 = .ok (.goto (-65), 3) := by decide +kernel
theorem dX10_olderInto_90 : decode cX10_olderInto 90 = .ok (.aload_n 3, 1) := by decide +kernel
theorem dX10_olderInto_91 : decode cX10_olderInto 91 = .ok (.lload 8, 2) := by decide +kernel
theorem dX10_olderInto_93 : decode cX10_olderInto 93 = .ok (.lload 6, 2) := by decide +kernel
theorem dX10_olderInto_95 : decode cX10_olderInto 95 = .ok (.lsub, 1) := by decide +kernel
theorem dX10_olderInto_96 : decode cX10_olderInto 96 = .ok (.lload 8, 2) := by decide +kernel
theorem dX10_olderInto_98 : decode cX10_olderInto 98 = .ok (.invokevirtual 127, 3) := by decide +kernel
theorem dX10_olderInto_101 : decode cX10_olderInto 101 = .ok (.pop, 1) := by decide +kernel
theorem dX10_olderInto_102 : decode cX10_olderInto 102 = .ok (.return_, 1) := by decide +kernel
abbrev z_X10_olderInto_1_53 : Z9 := (none, 0, 0, 0, 4, 69)
def m_X10_olderInto_1_53_c90 (v6 v8 : Int) (d : D9) : Option R9 := cl (m_X0_put_53 (v8 - v6) v8 d) (fun r1 d2 => rt 0 d2)
def b_X10_olderInto_1_53_c22 (k_X10_olderInto_1_53_c22 : Int → Int → Int → Int → Int → Int → D9 → Option R9) (v2 v4 v5 v6 v8 v10 : Int) (d : D9) : Option R9 := if w32 5 ≤ w32 v10 then m_X10_olderInto_1_53_c90  v6 v8 d else cl (m_X6_nextOldest_9 v4 v2 v5 d) (fun r1 d2 => if w32 r1 ≠ w32 (-1) then lt9v (or9 v5 (shl9 1 r1)) (fun a3 => cl (m_X10_leakUpper_1 r1 d2) (fun r4 d5 => lt9v (v6 * (w32 r4)) (fun a6 => cl (m_X10_leakLower_1 r1 d5) (fun r7 d8 => lt9v (v8 * (w32 r7)) (fun a9 => k_X10_olderInto_1_53_c22 v2 v4 a3 a6 a9 (v10 + 1) d8))))) else m_X10_olderInto_1_53_c90  v6 v8 d2)
def m_X10_olderInto_1_53_c22 : Int → Int → Int → Int → Int → Int → D9 → Option R9 := fix9 (fun _ _ _ _ _ _ _ => none) (fun k => b_X10_olderInto_1_53_c22 k) FU
def m_X10_olderInto_1_53 (p1 p2 : Int) (d : D9) : Option R9 := cl (m_X3_withAbove_2 p1 d) (fun r1 d2 => m_X10_olderInto_1_53_c22  p2 r1 0 1 1 0 d2)
set_option maxRecDepth 100000 in
theorem s_X10_olderInto_1_53_c90 {G : G9} {X : X9} (C : CX G X cX10_olderInto 12 RX10 [] z_X10_olderInto_1_53) : ∀ (v6 v8 : Int) (d : D9), SS G X 12 0 0 90 [(3, rf G 53), (6, l9 v6), (8, l9 v8)] [] d (m_X10_olderInto_1_53_c90  v6 v8 d) := by
  intro v6 v8 d
  unfold m_X10_olderInto_1_53_c90
  refine r_aload_n C 0 dX10_olderInto_90 rfl rfl ?_
  refine r_lload C 2 dX10_olderInto_91 rfl ?_
  refine r_lload C 1 dX10_olderInto_93 rfl ?_
  refine r_lsub C dX10_olderInto_95 ?_
  refine r_lload C 2 dX10_olderInto_96 rfl ?_
  refine r_callV C [l9 v8, l9 (v8 - v6), rf G 53] dX10_olderInto_98 (t_X0_put_53 C.h1 C.h2 (v8 - v6) v8 d) mw_X10_127 mv_X0_put la_53 ly_53 rfl (by decide) (by decide) (by decide) rfl rfl (Nat.le_of_ble_eq_true rfl) (fun r1 d2 => ?_)
  show SS G X 12 _ _ 101 [(3, rf G 53), (6, l9 v6), (8, l9 v8)] [i9 r1] d2 _
  refine r_pop C dX10_olderInto_101 rfl ?_
  exact r_vret C dX10_olderInto_102 (by decide) (by decide)
set_option maxRecDepth 100000 in
theorem sb_X10_olderInto_1_53_c22 {G : G9} {X : X9} (C : CX G X cX10_olderInto 12 RX10 [] z_X10_olderInto_1_53) (k_X10_olderInto_1_53_c22 : Int → Int → Int → Int → Int → Int → D9 → Option R9) (hk_X10_olderInto_1_53_c22 : ∀ (v2 v4 v5 v6 v8 v10 : Int) (d : D9), SS G X 12 0 0 22 [(0, rf G 1), (2, i9 v2), (3, rf G 53), (4, i9 v4), (5, i9 v5), (6, l9 v6), (8, l9 v8), (10, i9 v10)] [] d (k_X10_olderInto_1_53_c22 v2 v4 v5 v6 v8 v10 d)) : ∀ (v2 v4 v5 v6 v8 v10 : Int) (d : D9), SS G X 12 0 0 22 [(0, rf G 1), (2, i9 v2), (3, rf G 53), (4, i9 v4), (5, i9 v5), (6, l9 v6), (8, l9 v8), (10, i9 v10)] [] d (b_X10_olderInto_1_53_c22 k_X10_olderInto_1_53_c22 v2 v4 v5 v6 v8 v10 d) := by
  intro v2 v4 v5 v6 v8 v10 d
  unfold b_X10_olderInto_1_53_c22
  refine r_iload C 7 dX10_olderInto_22 rfl ?_
  refine r_iconst C dX10_olderInto_24 ?_
  refine r_icmp_ge C 90 dX10_olderInto_25 (by decide) (fun _ => ?_) (fun _ => ?_)
  · refine ss_wide (k' := 0) (n' := 0) (by decide) (by decide) ?_
    refine ss_ls [(3, rf G 53), (6, l9 v6), (8, l9 v8)] [2, 5, 6] rfl ?_
    exact s_X10_olderInto_1_53_c90 C  v6 v8 d
  · refine r_aload_n C 0 dX10_olderInto_28 rfl rfl ?_
    refine r_getR C 9 dX10_olderInto_29 fl_X10_21 la_1 ly_1 rfl rfl ?_
    refine r_iload C 3 dX10_olderInto_32 rfl ?_
    refine r_iload_n C 1 dX10_olderInto_34 rfl rfl ?_
    refine r_iload C 4 dX10_olderInto_35 rfl ?_
    refine r_callV C [i9 v5, i9 v2, i9 v4, rf G 9] dX10_olderInto_37 (t_X6_nextOldest_9 C.h1 C.h2 v4 v2 v5 d) mw_X10_117 mv_X6_nextOldest la_9 ly_9 rfl (by decide) (by decide) (by decide) rfl rfl (Nat.le_of_ble_eq_true rfl) (fun r1 d2 => ?_)
    show SS G X 12 _ _ 40 [(0, rf G 1), (2, i9 v2), (3, rf G 53), (4, i9 v4), (5, i9 v5), (6, l9 v6), (8, l9 v8), (10, i9 v10)] [i9 r1] d2 _
    refine r_istore C [(11, i9 r1), (0, rf G 1), (2, i9 v2), (3, rf G 53), (4, i9 v4), (5, i9 v5), (6, l9 v6), (8, l9 v8), (10, i9 v10)] dX10_olderInto_40 (by decide) rfl ?_
    refine r_iload C 0 dX10_olderInto_42 rfl ?_
    refine r_iconst C dX10_olderInto_44 ?_
    refine r_icmp_ne C 51 dX10_olderInto_45 (by decide) (fun _ => ?_) (fun _ => ?_)
    · refine r_iload C 5 dX10_olderInto_51 rfl ?_
      refine r_iconst C dX10_olderInto_53 ?_
      refine r_iload C 0 dX10_olderInto_54 rfl ?_
      refine r_ishl C dX10_olderInto_56 ?_
      refine r_ior C dX10_olderInto_57 ?_
      refine ss_lt (fun a3 => ?_)
      refine r_istore C [(5, i9 a3), (11, i9 r1), (0, rf G 1), (2, i9 v2), (3, rf G 53), (4, i9 v4), (6, l9 v6), (8, l9 v8), (10, i9 v10)] dX10_olderInto_58 (by decide) rfl ?_
      refine r_lload C 6 dX10_olderInto_60 rfl ?_
      refine r_aload_n C 2 dX10_olderInto_62 rfl rfl ?_
      refine r_iload C 1 dX10_olderInto_63 rfl ?_
      refine r_callV C [i9 r1, rf G 1, l9 v6] dX10_olderInto_65 (t_X10_leakUpper_1 C.h1 C.h2 r1 d2) mw_X10_121 mv_X10_leakUpper la_1 ly_1 rfl (by decide) (by decide) (by decide) rfl rfl (Nat.le_of_ble_eq_true rfl) (fun r4 d5 => ?_)
      show SS G X 12 _ _ 68 [(5, i9 a3), (11, i9 r1), (0, rf G 1), (2, i9 v2), (3, rf G 53), (4, i9 v4), (6, l9 v6), (8, l9 v8), (10, i9 v10)] [i9 r4, l9 v6] d5 _
      refine r_i2l C dX10_olderInto_68 ?_
      refine r_lmul C dX10_olderInto_69 ?_
      refine ss_ltL (fun a6 => ?_)
      refine r_lstore C [(6, l9 a6), (5, i9 a3), (11, i9 r1), (0, rf G 1), (2, i9 v2), (3, rf G 53), (4, i9 v4), (8, l9 v8), (10, i9 v10)] dX10_olderInto_70 (by decide) rfl ?_
      refine r_lload C 7 dX10_olderInto_72 rfl ?_
      refine r_aload_n C 3 dX10_olderInto_74 rfl rfl ?_
      refine r_iload C 2 dX10_olderInto_75 rfl ?_
      refine r_callV C [i9 r1, rf G 1, l9 v8] dX10_olderInto_77 (t_X10_leakLower_1 C.h1 C.h2 r1 d5) mw_X10_124 mv_X10_leakLower la_1 ly_1 rfl (by decide) (by decide) (by decide) rfl rfl (Nat.le_of_ble_eq_true rfl) (fun r7 d8 => ?_)
      show SS G X 12 _ _ 80 [(6, l9 a6), (5, i9 a3), (11, i9 r1), (0, rf G 1), (2, i9 v2), (3, rf G 53), (4, i9 v4), (8, l9 v8), (10, i9 v10)] [i9 r7, l9 v8] d8 _
      refine r_i2l C dX10_olderInto_80 ?_
      refine r_lmul C dX10_olderInto_81 ?_
      refine ss_ltL (fun a9 => ?_)
      refine r_lstore C [(8, l9 a9), (6, l9 a6), (5, i9 a3), (11, i9 r1), (0, rf G 1), (2, i9 v2), (3, rf G 53), (4, i9 v4), (10, i9 v10)] dX10_olderInto_82 (by decide) rfl ?_
      refine r_iinc C 8 [(10, i9 (v10 + 1)), (8, l9 a9), (6, l9 a6), (5, i9 a3), (11, i9 r1), (0, rf G 1), (2, i9 v2), (3, rf G 53), (4, i9 v4)] dX10_olderInto_84 rfl (by decide) rfl ?_
      refine r_goto C 22 dX10_olderInto_87 (by decide) ?_
      refine ss_wide (k' := 0) (n' := 0) (by decide) (by decide) ?_
      refine ss_ls [(0, rf G 1), (2, i9 v2), (3, rf G 53), (4, i9 v4), (5, i9 a3), (6, l9 a6), (8, l9 a9), (10, i9 (v10 + 1))] [5, 6, 7, 8, 3, 2, 1, 0] rfl ?_
      exact hk_X10_olderInto_1_53_c22 v2 v4 a3 a6 a9 (v10 + 1) d8
    · refine r_goto C 90 dX10_olderInto_48 (by decide) ?_
      refine ss_wide (k' := 0) (n' := 0) (by decide) (by decide) ?_
      refine ss_ls [(3, rf G 53), (6, l9 v6), (8, l9 v8)] [3, 6, 7] rfl ?_
      exact s_X10_olderInto_1_53_c90 C  v6 v8 d2
theorem s_X10_olderInto_1_53_c22 {G : G9} {X : X9} (C : CX G X cX10_olderInto 12 RX10 [] z_X10_olderInto_1_53) : ∀ (v2 v4 v5 v6 v8 v10 : Int) (d : D9), SS G X 12 0 0 22 [(0, rf G 1), (2, i9 v2), (3, rf G 53), (4, i9 v4), (5, i9 v5), (6, l9 v6), (8, l9 v8), (10, i9 v10)] [] d (m_X10_olderInto_1_53_c22  v2 v4 v5 v6 v8 v10 d) :=
  fix9_ind (P := fun k => ∀ (v2 v4 v5 v6 v8 v10 : Int) (d : D9), SS G X 12 0 0 22 [(0, rf G 1), (2, i9 v2), (3, rf G 53), (4, i9 v4), (5, i9 v5), (6, l9 v6), (8, l9 v8), (10, i9 v10)] [] d (k v2 v4 v5 v6 v8 v10 d)) (fun _ _ _ _ _ _ _ => ss_none) (fun k hk => sb_X10_olderInto_1_53_c22 C k hk) FU
set_option maxRecDepth 100000 in
theorem t_X10_olderInto_1_53 {G : G9} {l : Launch} (h1 : va_D (A9 G) (wl G (fun _ _ => 0))) (h2 : l.stackTraces = false) (p1 p2 : Int) (d : D9) : MT G l yX10_olderInto cX10_olderInto 12 z_X10_olderInto_1_53 [rf G 1, i9 p1, i9 p2, rf G 53] d (m_X10_olderInto_1_53 p1 p2 d) := by
  refine mt_of (own := RX10) (by decide) rfl (Nat.le_of_ble_eq_true rfl) h1 h2 [(0, rf G 1), (1, i9 p1), (2, i9 p2), (3, rf G 53)] rfl (fun X hX C => ?_)
  unfold m_X10_olderInto_1_53
  refine r_aload_n C 0 dX10_olderInto_0 rfl rfl ?_
  refine r_getR C 2 dX10_olderInto_1 fl_X10_12 la_1 ly_1 rfl rfl ?_
  refine r_iload_n C 1 dX10_olderInto_4 rfl rfl ?_
  refine r_callV C [i9 p1, rf G 2] dX10_olderInto_5 (t_X3_withAbove_2 C.h1 C.h2 p1 d) mw_X10_72 mv_X3_withAbove la_2 ly_2 rfl (by decide) (by decide) (by decide) rfl rfl (Nat.le_of_ble_eq_true rfl) (fun r1 d2 => ?_)
  show SS G X 12 _ _ 8 [(0, rf G 1), (1, i9 p1), (2, i9 p2), (3, rf G 53)] [i9 r1] d2 _
  refine r_istore C [(4, i9 r1), (0, rf G 1), (1, i9 p1), (2, i9 p2), (3, rf G 53)] dX10_olderInto_8 (by decide) rfl ?_
  refine r_iconst C dX10_olderInto_10 ?_
  refine r_istore C [(5, i9 0), (4, i9 r1), (0, rf G 1), (1, i9 p1), (2, i9 p2), (3, rf G 53)] dX10_olderInto_11 (by decide) rfl ?_
  refine r_lconst C dX10_olderInto_13 (a := 1) rfl ?_
  refine r_lstore C [(6, l9 1), (5, i9 0), (4, i9 r1), (0, rf G 1), (1, i9 p1), (2, i9 p2), (3, rf G 53)] dX10_olderInto_14 (by decide) rfl ?_
  refine r_lconst C dX10_olderInto_16 (a := 1) rfl ?_
  refine r_lstore C [(8, l9 1), (6, l9 1), (5, i9 0), (4, i9 r1), (0, rf G 1), (1, i9 p1), (2, i9 p2), (3, rf G 53)] dX10_olderInto_17 (by decide) rfl ?_
  refine r_iconst C dX10_olderInto_19 ?_
  refine r_istore C [(10, i9 0), (8, l9 1), (6, l9 1), (5, i9 0), (4, i9 r1), (0, rf G 1), (1, i9 p1), (2, i9 p2), (3, rf G 53)] dX10_olderInto_20 (by decide) rfl ?_
  refine ss_wide (k' := 0) (n' := 0) (by decide) (by decide) ?_
  refine ss_ls [(0, rf G 1), (2, i9 p2), (3, rf G 53), (4, i9 r1), (5, i9 0), (6, l9 1), (8, l9 1), (10, i9 0)] [5, 7, 8, 4, 3, 2, 1, 0] rfl ?_
  exact s_X10_olderInto_1_53_c22 C  p2 r1 0 1 1 0 d2
theorem dX11_older_0 : decode cX11_older 0 = .ok (.aload_n 0, 1) := by decide +kernel
theorem dX11_older_1 : decode cX11_older 1 = .ok (.iload_n 1, 1) := by decide +kernel
theorem dX11_older_2 : decode cX11_older 2 = .ok (.invokevirtual 103, 3) := by decide +kernel
theorem dX11_older_5 : decode cX11_older 5 = .ok (.iload_n 2, 1) := by decide +kernel
theorem dX11_older_6 : decode cX11_older 6 = .ok (.iconst 1, 1) := by decide +kernel
theorem dX11_older_7 : decode cX11_older 7 = .ok (.sipush 400, 3) := by decide +kernel
theorem dX11_older_10 : decode cX11_older 10 = .ok (.invokestatic 73, 3) := by decide +kernel
theorem dX11_older_13 : decode cX11_older 13 = .ok (.aload_n 0, 1) := by decide +kernel
theorem dX11_older_14 : decode cX11_older 14 = .ok (.getfield 10, 3) := by decide +kernel
theorem dX11_older_17 : decode cX11_older 17 = .ok (.iload_n 1, 1) := by decide +kernel
theorem dX11_older_18 : decode cX11_older 18 = .ok (.iload_n 2, 1) := by decide +kernel
theorem dX11_older_19 : decode cX11_older 19 = .ok (.aload_n 0, 1) := by decide +kernel
theorem dX11_older_20 : decode cX11_older 20 = .ok (.getfield 55, 3) := by decide +kernel
theorem dX11_older_23 : decode cX11_older 23 = .ok (.invokevirtual 297, 3) := by decide +kernel
theorem dX11_older_26 : decode cX11_older 26 = .ok (.return_, 1) := by decide +kernel
abbrev z_X11_older_0 : Z9 := (none, 0, 2, 12, 7, 122)
def m_X11_older_0 (p1 p2 : Int) (d : D9) : Option R9 := cl (m_X11_askPaint_0 p1 d) (fun r1 d2 => cl (m_X11_askWithin p2 1 400 d2) (fun r3 d4 => cl (m_X10_olderInto_1_53 p1 p2 d4) (fun r5 d6 => rt 0 d6)))
set_option maxRecDepth 100000 in
theorem t_X11_older_0 {G : G9} {l : Launch} (h1 : va_D (A9 G) (wl G (fun _ _ => 0))) (h2 : l.stackTraces = false) (p1 p2 : Int) (d : D9) : MT G l yX11_older cX11_older 3 z_X11_older_0 [rf G 0, i9 p1, i9 p2] d (m_X11_older_0 p1 p2 d) := by
  refine mt_of (own := RX11) (by decide) rfl (Nat.le_of_ble_eq_true rfl) h1 h2 [(0, rf G 0), (1, i9 p1), (2, i9 p2)] rfl (fun X hX C => ?_)
  unfold m_X11_older_0
  refine r_aload_n C 0 dX11_older_0 rfl rfl ?_
  refine r_iload_n C 1 dX11_older_1 rfl rfl ?_
  refine r_callV C [i9 p1, rf G 0] dX11_older_2 (t_X11_askPaint_0 C.h1 C.h2 p1 d) mw_X11_103 mv_X11_askPaint la_0 ly_0 rfl (by decide) (by decide) (by decide) rfl rfl (Nat.le_of_ble_eq_true rfl) (fun r1 d2 => ?_)
  show SS G X 3 _ _ 5 [(0, rf G 0), (1, i9 p1), (2, i9 p2)] [] d2 _
  refine r_iload_n C 2 dX11_older_5 rfl rfl ?_
  refine r_iconst C dX11_older_6 ?_
  refine r_sipush C dX11_older_7 rfl ?_
  refine r_callS C [i9 400, i9 1, i9 p2] dX11_older_10 (t_X11_askWithin C.h1 C.h2 p2 1 400 d2) mw_X11_73 ms_X11_askWithin (by decide) (by decide) (by decide) rfl rfl (Nat.le_of_ble_eq_true rfl) (fun r3 d4 => ?_)
  show SS G X 3 _ _ 13 [(0, rf G 0), (1, i9 p1), (2, i9 p2)] [] d4 _
  refine r_aload_n C 0 dX11_older_13 rfl rfl ?_
  refine r_getR C 1 dX11_older_14 fl_X11_10 la_0 ly_0 rfl rfl ?_
  refine r_iload_n C 1 dX11_older_17 rfl rfl ?_
  refine r_iload_n C 2 dX11_older_18 rfl rfl ?_
  refine r_aload_n C 0 dX11_older_19 rfl rfl ?_
  refine r_getR C 53 dX11_older_20 fl_X11_55 la_0 ly_0 rfl rfl ?_
  refine r_callV C [rf G 53, i9 p2, i9 p1, rf G 1] dX11_older_23 (t_X10_olderInto_1_53 C.h1 C.h2 p1 p2 d4) mw_X11_297 mv_X10_olderInto la_1 ly_1 rfl (by decide) (by decide) (by decide) rfl rfl (Nat.le_of_ble_eq_true rfl) (fun r5 d6 => ?_)
  show SS G X 3 _ _ 26 [(0, rf G 0), (1, i9 p1), (2, i9 p2)] [] d6 _
  exact r_vret C dX11_older_26 (by decide) (by decide)
theorem dX3_layOver_0 : decode cX3_layOver 0 = .ok (.aload_n 0, 1) := by decide +kernel
theorem dX3_layOver_1 : decode cX3_layOver 1 = .ok (.getfield 34, 3) := by decide +kernel
theorem dX3_layOver_4 : decode cX3_layOver 4 = .ok (.bipush 40, 2) := by decide +kernel
theorem dX3_layOver_6 : decode cX3_layOver 6 = .ok (.if_icmp .ge 29, 3) := by decide +kernel
theorem dX3_layOver_9 : decode cX3_layOver 9 = .ok (.aload_n 0, 1) := by decide +kernel
theorem dX3_layOver_10 : decode cX3_layOver 10 = .ok (.getfield 24, 3) := by decide +kernel
theorem dX3_layOver_13 : decode cX3_layOver 13 = .ok (.iload_n 2, 1) := by decide +kernel
theorem dX3_layOver_14 : decode cX3_layOver 14 = .ok (.iaload, 1) := by decide +kernel
theorem dX3_layOver_15 : decode cX3_layOver 15 = .ok (.iload_n 1, 1) := by decide +kernel
theorem dX3_layOver_16 : decode cX3_layOver 16 = .ok (.invokestatic 41, 3) := by decide +kernel
theorem dX3_layOver_19 : decode cX3_layOver 19 = .ok (.ifCond .ne 16, 3) := by decide +kernel
theorem dX3_layOver_22 : decode cX3_layOver 22 = .ok (.aload_n 0, 1) := by decide +kernel
theorem dX3_layOver_23 : decode cX3_layOver 23 = .ok (.getfield 24, 3) := by decide +kernel
theorem dX3_layOver_26 : decode cX3_layOver 26 = .ok (.iload_n 1, 1) := by decide +kernel
theorem dX3_layOver_27 : decode cX3_layOver 27 = .ok (.iaload, 1) := by decide +kernel
theorem dX3_layOver_28 : decode cX3_layOver 28 = .ok (.iload_n 2, 1) := by decide +kernel
theorem dX3_layOver_29 : decode cX3_layOver 29 = .ok (.invokestatic 41, 3) := by decide +kernel
theorem dX3_layOver_32 : decode cX3_layOver 32 = .ok (.ifCond .eq 5, 3) := by decide +kernel
theorem dX3_layOver_35 : decode cX3_layOver 35 = .ok (.iconst 0, 1) := by decide +kernel
theorem dX3_layOver_36 : decode cX3_layOver 36 = .ok (.ireturn, 1) := by decide +kernel
theorem dX3_layOver_37 : decode cX3_layOver 37 = .ok (.aload_n 0, 1) := by decide +kernel
theorem dX3_layOver_38 : decode cX3_layOver 38 = .ok (.getfield 24, 3) := by decide +kernel
theorem dX3_layOver_41 : decode cX3_layOver 41 = .ok (.iload_n 2, 1) := by decide +kernel
theorem dX3_layOver_42 : decode cX3_layOver 42 = .ok (.dup2, 1) := by decide +kernel
theorem dX3_layOver_43 : decode cX3_layOver 43 = .ok (.iaload, 1) := by decide +kernel
theorem dX3_layOver_44 : decode cX3_layOver 44 = .ok (.iconst 1, 1) := by decide +kernel
theorem dX3_layOver_45 : decode cX3_layOver 45 = .ok (.iload_n 1, 1) := by decide +kernel
theorem dX3_layOver_46 : decode cX3_layOver 46 = .ok (.ishl, 1) := by decide +kernel
theorem dX3_layOver_47 : decode cX3_layOver 47 = .ok (.ior, 1) := by decide +kernel
theorem dX3_layOver_48 : decode cX3_layOver 48 = .ok (.iastore, 1) := by decide +kernel
theorem dX3_layOver_49 : decode cX3_layOver 49 = .ok (.aload_n 0, 1) := by decide +kernel
theorem dX3_layOver_50 : decode cX3_layOver 50 = .ok (.getfield 27, 3) := by decide +kernel
theorem dX3_layOver_53 : decode cX3_layOver 53 = .ok (.iload_n 1, 1) := by decide +kernel
theorem dX3_layOver_54 : decode cX3_layOver 54 = .ok (.dup2, 1) := by decide +kernel
theorem dX3_layOver_55 : decode cX3_layOver 55 = .ok (.iaload, 1) := by decide +kernel
theorem dX3_layOver_56 : decode cX3_layOver 56 = .ok (.iconst 1, 1) := by decide +kernel
theorem dX3_layOver_57 : decode cX3_layOver 57 = .ok (.iload_n 2, 1) := by decide +kernel
theorem dX3_layOver_58 : decode cX3_layOver 58 = .ok (.ishl, 1) := by decide +kernel
theorem dX3_layOver_59 : decode cX3_layOver 59 = .ok (.ior, 1) := by decide +kernel
theorem dX3_layOver_60 : decode cX3_layOver 60 = .ok (.iastore, 1) := by decide +kernel
theorem dX3_layOver_61 : decode cX3_layOver 61 = .ok (.aload_n 0, 1) := by decide +kernel
theorem dX3_layOver_62 : decode cX3_layOver 62 = .ok (.dup, 1) := by decide +kernel
theorem dX3_layOver_63 : decode cX3_layOver 63 = .ok (.getfield 34, 3) := by decide +kernel
theorem dX3_layOver_66 : decode cX3_layOver 66 = .ok (.iconst 1, 1) := by decide +kernel
theorem dX3_layOver_67 : decode cX3_layOver 67 = .ok (.iadd, 1) := by decide +kernel
theorem dX3_layOver_68 : decode cX3_layOver 68 = .ok (.putfield 34, 3) := by decide +kernel
theorem dX3_layOver_71 : decode cX3_layOver 71 = .ok (.iconst 1, 1) := by decide +kernel
theorem dX3_layOver_72 : decode cX3_layOver 72 = .ok (.ireturn, 1) := by decide +kernel
abbrev z_X3_layOver_2 : Z9 := (some .boolean, 1, 0, 0, 2, 21)
def m_X3_layOver_2 (p1 p2 : Int) (d : D9) : Option R9 := if w32 40 ≤ w32 (d 2 1) then rt (0 % 2) d else ld d 7 30 p2 (fun t1 => cl (m_X11_isIn t1 p1 d) (fun r2 d3 => if w32 r2 ≠ 0 then rt (0 % 2) d3 else ld d3 7 30 p1 (fun t4 => cl (m_X11_isIn t4 p2 d3) (fun r5 d6 => if w32 r5 = 0 then ld d6 7 30 p2 (fun t7 => sd d6 7 30 p2 (or9 t7 (shl9 1 p1)) (fun d8 => ld d8 8 30 p1 (fun t9 => sd d8 8 30 p1 (or9 t9 (shl9 1 p2)) (fun d10 => pf d10 2 1 ((d10 2 1) + 1) (fun d11 => rt (1 % 2) d11))))) else rt (0 % 2) d6))))
set_option maxRecDepth 100000 in
theorem t_X3_layOver_2 {G : G9} {l : Launch} (h1 : va_D (A9 G) (wl G (fun _ _ => 0))) (h2 : l.stackTraces = false) (p1 p2 : Int) (d : D9) : MT G l yX3_layOver cX3_layOver 3 z_X3_layOver_2 [rf G 2, i9 p1, i9 p2] d (m_X3_layOver_2 p1 p2 d) := by
  refine mt_of (own := RX3) (by decide) rfl (Nat.le_of_ble_eq_true rfl) h1 h2 [(0, rf G 2), (1, i9 p1), (2, i9 p2)] rfl (fun X hX C => ?_)
  unfold m_X3_layOver_2
  refine r_aload_n C 0 dX3_layOver_0 rfl rfl ?_
  refine r_getI C dX3_layOver_1 fl_X3_34 la_2 ly_2 rfl ?_
  refine r_bipush C dX3_layOver_4 rfl ?_
  refine r_icmp_ge C 35 dX3_layOver_6 (by decide) (fun _ => ?_) (fun _ => ?_)
  · refine r_iconst C dX3_layOver_35 ?_
    exact r_zret C dX3_layOver_36 (by decide) (by decide)
  · refine r_aload_n C 0 dX3_layOver_9 rfl rfl ?_
    refine r_getR C 7 dX3_layOver_10 fl_X3_24 la_2 ly_2 rfl rfl ?_
    refine r_iload_n C 2 dX3_layOver_13 rfl rfl ?_
    refine r_iald C dX3_layOver_14 la_7 ly_7 (fun t1 => ?_)
    refine r_iload_n C 1 dX3_layOver_15 rfl rfl ?_
    refine r_callN C [i9 p1, i9 t1] dX3_layOver_16 (t_X11_isIn C.h1 C.h2 t1 p1 d) (n_X11_isIn t1 p1 d) mn_X3_41 ms_X11_isIn (by decide) (by decide) (by decide) rfl rfl (Nat.le_of_ble_eq_true rfl) (fun r2 d3 => ?_)
    show SS G X 3 _ _ 19 [(0, rf G 2), (1, i9 p1), (2, i9 p2)] [i9 r2] d3 _
    refine r_if_ne C (b := 0) 35 dX3_layOver_19 (by decide) (fun _ => ?_) (fun _ => ?_)
    · refine r_iconst C dX3_layOver_35 ?_
      exact r_zret C dX3_layOver_36 (by decide) (by decide)
    · refine r_aload_n C 0 dX3_layOver_22 rfl rfl ?_
      refine r_getR C 7 dX3_layOver_23 fl_X3_24 la_2 ly_2 rfl rfl ?_
      refine r_iload_n C 1 dX3_layOver_26 rfl rfl ?_
      refine r_iald C dX3_layOver_27 la_7 ly_7 (fun t4 => ?_)
      refine r_iload_n C 2 dX3_layOver_28 rfl rfl ?_
      refine r_callN C [i9 p2, i9 t4] dX3_layOver_29 (t_X11_isIn C.h1 C.h2 t4 p2 d3) (n_X11_isIn t4 p2 d3) mn_X3_41 ms_X11_isIn (by decide) (by decide) (by decide) rfl rfl (Nat.le_of_ble_eq_true rfl) (fun r5 d6 => ?_)
      show SS G X 3 _ _ 32 [(0, rf G 2), (1, i9 p1), (2, i9 p2)] [i9 r5] d6 _
      refine r_if_eq C (b := 0) 37 dX3_layOver_32 (by decide) (fun _ => ?_) (fun _ => ?_)
      · refine r_aload_n C 0 dX3_layOver_37 rfl rfl ?_
        refine r_getR C 7 dX3_layOver_38 fl_X3_24 la_2 ly_2 rfl rfl ?_
        refine r_iload_n C 2 dX3_layOver_41 rfl rfl ?_
        refine r_dup2 C dX3_layOver_42 rfl rfl ?_
        refine r_iald C dX3_layOver_43 la_7 ly_7 (fun t7 => ?_)
        refine r_iconst C dX3_layOver_44 ?_
        refine r_iload_n C 1 dX3_layOver_45 rfl rfl ?_
        refine r_ishl C dX3_layOver_46 ?_
        refine r_ior C dX3_layOver_47 ?_
        refine r_iast C dX3_layOver_48 la_7 ly_7 (fun d8 => ?_)
        refine r_aload_n C 0 dX3_layOver_49 rfl rfl ?_
        refine r_getR C 8 dX3_layOver_50 fl_X3_27 la_2 ly_2 rfl rfl ?_
        refine r_iload_n C 1 dX3_layOver_53 rfl rfl ?_
        refine r_dup2 C dX3_layOver_54 rfl rfl ?_
        refine r_iald C dX3_layOver_55 la_8 ly_8 (fun t9 => ?_)
        refine r_iconst C dX3_layOver_56 ?_
        refine r_iload_n C 2 dX3_layOver_57 rfl rfl ?_
        refine r_ishl C dX3_layOver_58 ?_
        refine r_ior C dX3_layOver_59 ?_
        refine r_iast C dX3_layOver_60 la_8 ly_8 (fun d10 => ?_)
        refine r_aload_n C 0 dX3_layOver_61 rfl rfl ?_
        refine r_dup C dX3_layOver_62 rfl ?_
        refine r_getI C dX3_layOver_63 fl_X3_34 la_2 ly_2 rfl ?_
        refine r_iconst C dX3_layOver_66 ?_
        refine r_iadd C dX3_layOver_67 ?_
        refine r_putI C dX3_layOver_68 fp_X3_34 la_2 ly_2 rfl (fun d11 => ?_)
        refine r_iconst C dX3_layOver_71 ?_
        exact r_zret C dX3_layOver_72 (by decide) (by decide)
      · refine r_iconst C dX3_layOver_35 ?_
        exact r_zret C dX3_layOver_36 (by decide) (by decide)
theorem dX11_over_0 : decode cX11_over 0 = .ok (.aload_n 0, 1) := by decide +kernel
theorem dX11_over_1 : decode cX11_over 1 = .ok (.iload_n 1, 1) := by decide +kernel
theorem dX11_over_2 : decode cX11_over 2 = .ok (.invokevirtual 103, 3) := by decide +kernel
theorem dX11_over_5 : decode cX11_over 5 = .ok (.aload_n 0, 1) := by decide +kernel
theorem dX11_over_6 : decode cX11_over 6 = .ok (.iload_n 2, 1) := by decide +kernel
theorem dX11_over_7 : decode cX11_over 7 = .ok (.invokevirtual 103, 3) := by decide +kernel
theorem dX11_over_10 : decode cX11_over 10 = .ok (.aload_n 0, 1) := by decide +kernel
theorem dX11_over_11 : decode cX11_over 11 = .ok (.getfield 10, 3) := by decide +kernel
theorem dX11_over_14 : decode cX11_over 14 = .ok (.getfield 77, 3) := by decide +kernel
theorem dX11_over_17 : decode cX11_over 17 = .ok (.astore_n 3, 1) := by decide +kernel
theorem dX11_over_18 : decode cX11_over 18 = .ok (.iload_n 1, 1) := by decide +kernel
theorem dX11_over_19 : decode cX11_over 19 = .ok (.iload_n 2, 1) := by decide +kernel
theorem dX11_over_20 : decode cX11_over 20 = .ok (.if_icmp .eq 18, 3) := by decide +kernel
theorem dX11_over_23 : decode cX11_over 23 = .ok (.aload_n 3, 1) := by decide +kernel
theorem dX11_over_24 : decode cX11_over 24 = .ok (.getfield 106, 3) := by decide +kernel
theorem dX11_over_27 : decode cX11_over 27 = .ok (.iload_n 1, 1) := by decide +kernel
theorem dX11_over_28 : decode cX11_over 28 = .ok (.iaload, 1) := by decide +kernel
theorem dX11_over_29 : decode cX11_over 29 = .ok (.aload_n 3, 1) := by decide +kernel
theorem dX11_over_30 : decode cX11_over 30 = .ok (.getfield 106, 3) := by decide +kernel
theorem dX11_over_33 : decode cX11_over 33 = .ok (.iload_n 2, 1) := by decide +kernel
theorem dX11_over_34 : decode cX11_over 34 = .ok (.iaload, 1) := by decide +kernel
theorem dX11_over_35 : decode cX11_over 35 = .ok (.if_icmp .eq 13, 3) := by decide +kernel
theorem dX11_over_38 : decode cX11_over 38 = .ok (.new 109, 3) := by decide +kernel
theorem dX11_over_41 : decode cX11_over 41 = .ok (.dup, 1) := by decide +kernel
theorem dX11_over_42 : decode cX11_over 42 = .ok (.ldc 111, 2) := by decide +kernel
theorem dX11_over_44 : decode cX11_over 44 = .ok (.invokespecial 113, 3) := by decide +kernel
theorem dX11_over_47 : decode cX11_over 47 = .ok (.athrow, 1) := by decide +kernel
theorem dX11_over_48 : decode cX11_over 48 = .ok (.aload_n 3, 1) := by decide +kernel
theorem dX11_over_49 : decode cX11_over 49 = .ok (.iload_n 1, 1) := by decide +kernel
theorem dX11_over_50 : decode cX11_over 50 = .ok (.iload_n 2, 1) := by decide +kernel
theorem dX11_over_51 : decode cX11_over 51 = .ok (.invokevirtual 116, 3) := by decide +kernel
theorem dX11_over_54 : decode cX11_over 54 = .ok (.ireturn, 1) := by decide +kernel
abbrev z_X11_over_0 : Z9 := (some .boolean, 1, 3, 18, 7, 121)
def m_X11_over_0_c38 (d : D9) : Option R9 := th 0 d
def m_X11_over_0 (p1 p2 : Int) (d : D9) : Option R9 := cl (m_X11_askPaint_0 p1 d) (fun r1 d2 => cl (m_X11_askPaint_0 p2 d2) (fun r3 d4 => if w32 p1 = w32 p2 then m_X11_over_0_c38   d4 else ld d4 4 30 p1 (fun t5 => ld d4 4 30 p2 (fun t6 => if w32 t5 = w32 t6 then cl (m_X3_layOver_2 p1 p2 d4) (fun r7 d8 => rt (r7 % 2) d8) else m_X11_over_0_c38   d4))))
set_option maxRecDepth 100000 in
theorem s_X11_over_0_c38 {G : G9} {X : X9} (C : CX G X cX11_over 4 RX11 [] z_X11_over_0) : ∀ (d : D9), SS G X 4 2 12 38 [] [] d (m_X11_over_0_c38   d) := by
  intro  d
  unfold m_X11_over_0_c38
  exact r_throwS C (e := 0) 3 rfl tw_0_113 tc_0 dX11_over_38 dX11_over_41 dX11_over_42 dX11_over_44 dX11_over_47 (by decide) (by decide) (by decide) (by decide)
set_option maxRecDepth 100000 in
theorem t_X11_over_0 {G : G9} {l : Launch} (h1 : va_D (A9 G) (wl G (fun _ _ => 0))) (h2 : l.stackTraces = false) (p1 p2 : Int) (d : D9) : MT G l yX11_over cX11_over 4 z_X11_over_0 [rf G 0, i9 p1, i9 p2] d (m_X11_over_0 p1 p2 d) := by
  refine mt_of (own := RX11) (by decide) rfl (Nat.le_of_ble_eq_true rfl) h1 h2 [(0, rf G 0), (1, i9 p1), (2, i9 p2)] rfl (fun X hX C => ?_)
  unfold m_X11_over_0
  refine r_aload_n C 0 dX11_over_0 rfl rfl ?_
  refine r_iload_n C 1 dX11_over_1 rfl rfl ?_
  refine r_callV C [i9 p1, rf G 0] dX11_over_2 (t_X11_askPaint_0 C.h1 C.h2 p1 d) mw_X11_103 mv_X11_askPaint la_0 ly_0 rfl (by decide) (by decide) (by decide) rfl rfl (Nat.le_of_ble_eq_true rfl) (fun r1 d2 => ?_)
  show SS G X 4 _ _ 5 [(0, rf G 0), (1, i9 p1), (2, i9 p2)] [] d2 _
  refine r_aload_n C 0 dX11_over_5 rfl rfl ?_
  refine r_iload_n C 2 dX11_over_6 rfl rfl ?_
  refine r_callV C [i9 p2, rf G 0] dX11_over_7 (t_X11_askPaint_0 C.h1 C.h2 p2 d2) mw_X11_103 mv_X11_askPaint la_0 ly_0 rfl (by decide) (by decide) (by decide) rfl rfl (Nat.le_of_ble_eq_true rfl) (fun r3 d4 => ?_)
  show SS G X 4 _ _ 10 [(0, rf G 0), (1, i9 p1), (2, i9 p2)] [] d4 _
  refine r_aload_n C 0 dX11_over_10 rfl rfl ?_
  refine r_getR C 1 dX11_over_11 fl_X11_10 la_0 ly_0 rfl rfl ?_
  refine r_getR C 2 dX11_over_14 fl_X11_77 la_1 ly_1 rfl rfl ?_
  refine r_astore_n C [(3, rf G 2), (0, rf G 0), (1, i9 p1), (2, i9 p2)] dX11_over_17 rfl (by decide) rfl ?_
  refine r_iload_n C 2 dX11_over_18 rfl rfl ?_
  refine r_iload_n C 3 dX11_over_19 rfl rfl ?_
  refine r_icmp_eq C 38 dX11_over_20 (by decide) (fun _ => ?_) (fun _ => ?_)
  · refine ss_wide (k' := 2) (n' := 12) (by decide) (by decide) ?_
    refine ss_ls [] [] rfl ?_
    exact s_X11_over_0_c38 C   d4
  · refine r_aload_n C 0 dX11_over_23 rfl rfl ?_
    refine r_getR C 4 dX11_over_24 fl_X11_106 la_2 ly_2 rfl rfl ?_
    refine r_iload_n C 2 dX11_over_27 rfl rfl ?_
    refine r_iald C dX11_over_28 la_4 ly_4 (fun t5 => ?_)
    refine r_aload_n C 0 dX11_over_29 rfl rfl ?_
    refine r_getR C 4 dX11_over_30 fl_X11_106 la_2 ly_2 rfl rfl ?_
    refine r_iload_n C 3 dX11_over_33 rfl rfl ?_
    refine r_iald C dX11_over_34 la_4 ly_4 (fun t6 => ?_)
    refine r_icmp_eq C 48 dX11_over_35 (by decide) (fun _ => ?_) (fun _ => ?_)
    · refine r_aload_n C 0 dX11_over_48 rfl rfl ?_
      refine r_iload_n C 2 dX11_over_49 rfl rfl ?_
      refine r_iload_n C 3 dX11_over_50 rfl rfl ?_
      refine r_callV C [i9 p2, i9 p1, rf G 2] dX11_over_51 (t_X3_layOver_2 C.h1 C.h2 p1 p2 d4) mw_X11_116 mv_X3_layOver la_2 ly_2 rfl (by decide) (by decide) (by decide) rfl rfl (Nat.le_of_ble_eq_true rfl) (fun r7 d8 => ?_)
      show SS G X 4 _ _ 54 [(3, rf G 2), (0, rf G 0), (1, i9 p1), (2, i9 p2)] [i9 r7] d8 _
      exact r_zret C dX11_over_54 (by decide) (by decide)
    · refine ss_wide (k' := 2) (n' := 12) (by decide) (by decide) ?_
      refine ss_ls [] [] rfl ?_
      exact s_X11_over_0_c38 C   d4
theorem dX3_add_0 : decode cX3_add 0 = .ok (.aload_n 0, 1) := by decide +kernel
theorem dX3_add_1 : decode cX3_add 1 = .ok (.getfield 30, 3) := by decide +kernel
theorem dX3_add_4 : decode cX3_add 4 = .ok (.bipush 30, 2) := by decide +kernel
theorem dX3_add_6 : decode cX3_add 6 = .ok (.if_icmp .lt 5, 3) := by decide +kernel
theorem dX3_add_9 : decode cX3_add 9 = .ok (.iconst (-1), 1) := by decide +kernel
theorem dX3_add_10 : decode cX3_add 10 = .ok (.ireturn, 1) := by decide +kernel
theorem dX3_add_11 : decode cX3_add 11 = .ok (.aload_n 0, 1) := by decide +kernel
theorem dX3_add_12 : decode cX3_add 12 = .ok (.getfield 9, 3) := by decide +kernel
theorem dX3_add_15 : decode cX3_add 15 = .ok (.aload_n 0, 1) := by decide +kernel
theorem dX3_add_16 : decode cX3_add 16 = .ok (.getfield 30, 3) := by decide +kernel
theorem dX3_add_19 : decode cX3_add 19 = .ok (.iload_n 1, 1) := by decide +kernel
theorem dX3_add_20 : decode cX3_add 20 = .ok (.iastore, 1) := by decide +kernel
theorem dX3_add_21 : decode cX3_add 21 = .ok (.aload_n 0, 1) := by decide +kernel
theorem dX3_add_22 : decode cX3_add 22 = .ok (.getfield 15, 3) := by decide +kernel
theorem dX3_add_25 : decode cX3_add 25 = .ok (.aload_n 0, 1) := by decide +kernel
theorem dX3_add_26 : decode cX3_add 26 = .ok (.getfield 30, 3) := by decide +kernel
theorem dX3_add_29 : decode cX3_add 29 = .ok (.iload_n 2, 1) := by decide +kernel
theorem dX3_add_30 : decode cX3_add 30 = .ok (.iastore, 1) := by decide +kernel
theorem dX3_add_31 : decode cX3_add 31 = .ok (.aload_n 0, 1) := by decide +kernel
theorem dX3_add_32 : decode cX3_add 32 = .ok (.getfield 18, 3) := by decide +kernel
theorem dX3_add_35 : decode cX3_add 35 = .ok (.aload_n 0, 1) := by decide +kernel
theorem dX3_add_36 : decode cX3_add 36 = .ok (.getfield 30, 3) := by decide +kernel
theorem dX3_add_39 : decode cX3_add 39 = .ok (.iload_n 3, 1) := by decide +kernel
theorem dX3_add_40 : decode cX3_add 40 = .ok (.iastore, 1) := by decide +kernel
theorem dX3_add_41 : decode cX3_add 41 = .ok (.aload_n 0, 1) := by decide +kernel
theorem dX3_add_42 : decode cX3_add 42 = .ok (.dup, 1) := by decide +kernel
theorem dX3_add_43 : decode cX3_add 43 = .ok (.getfield 30, 3) := by decide +kernel
theorem dX3_add_46 : decode cX3_add 46 = .ok (.iconst 1, 1) := by decide +kernel
theorem dX3_add_47 : decode cX3_add 47 = .ok (.iadd, 1) := by decide +kernel
theorem dX3_add_48 : decode cX3_add 48 = .ok (.putfield 30, 3) := by decide +kernel
theorem dX3_add_51 : decode cX3_add 51 = .ok (.aload_n 0, 1) := by decide +kernel
theorem dX3_add_52 : decode cX3_add 52 = .ok (.getfield 30, 3) := by decide +kernel
theorem dX3_add_55 : decode cX3_add 55 = .ok (.iconst 1, 1) := by decide +kernel
theorem dX3_add_56 : decode cX3_add 56 = .ok (.isub, 1) := by decide +kernel
theorem dX3_add_57 : decode cX3_add 57 = .ok (.ireturn, 1) := by decide +kernel
abbrev z_X3_add_2 : Z9 := (some .int, 1, 0, 0, 1, 0)
def m_X3_add_2 (p1 p2 p3 : Int) (d : D9) : Option R9 := if w32 (d 2 0) < w32 30 then sd d 3 30 (d 2 0) p1 (fun d1 => sd d1 4 30 (d1 2 0) p2 (fun d2 => sd d2 5 30 (d2 2 0) p3 (fun d3 => pf d3 2 0 ((d3 2 0) + 1) (fun d4 => rt ((d4 2 0) - 1) d4)))) else rt (-1) d
set_option maxRecDepth 100000 in
theorem t_X3_add_2 {G : G9} {l : Launch} (h1 : va_D (A9 G) (wl G (fun _ _ => 0))) (h2 : l.stackTraces = false) (p1 p2 p3 : Int) (d : D9) : MT G l yX3_add cX3_add 4 z_X3_add_2 [rf G 2, i9 p1, i9 p2, i9 p3] d (m_X3_add_2 p1 p2 p3 d) := by
  refine mt_of (own := RX3) (by decide) rfl (Nat.le_of_ble_eq_true rfl) h1 h2 [(0, rf G 2), (1, i9 p1), (2, i9 p2), (3, i9 p3)] rfl (fun X hX C => ?_)
  unfold m_X3_add_2
  refine r_aload_n C 0 dX3_add_0 rfl rfl ?_
  refine r_getI C dX3_add_1 fl_X3_30 la_2 ly_2 rfl ?_
  refine r_bipush C dX3_add_4 rfl ?_
  refine r_icmp_lt C 11 dX3_add_6 (by decide) (fun _ => ?_) (fun _ => ?_)
  · refine r_aload_n C 0 dX3_add_11 rfl rfl ?_
    refine r_getR C 3 dX3_add_12 fl_X3_9 la_2 ly_2 rfl rfl ?_
    refine r_aload_n C 0 dX3_add_15 rfl rfl ?_
    refine r_getI C dX3_add_16 fl_X3_30 la_2 ly_2 rfl ?_
    refine r_iload_n C 1 dX3_add_19 rfl rfl ?_
    refine r_iast C dX3_add_20 la_3 ly_3 (fun d1 => ?_)
    refine r_aload_n C 0 dX3_add_21 rfl rfl ?_
    refine r_getR C 4 dX3_add_22 fl_X3_15 la_2 ly_2 rfl rfl ?_
    refine r_aload_n C 0 dX3_add_25 rfl rfl ?_
    refine r_getI C dX3_add_26 fl_X3_30 la_2 ly_2 rfl ?_
    refine r_iload_n C 2 dX3_add_29 rfl rfl ?_
    refine r_iast C dX3_add_30 la_4 ly_4 (fun d2 => ?_)
    refine r_aload_n C 0 dX3_add_31 rfl rfl ?_
    refine r_getR C 5 dX3_add_32 fl_X3_18 la_2 ly_2 rfl rfl ?_
    refine r_aload_n C 0 dX3_add_35 rfl rfl ?_
    refine r_getI C dX3_add_36 fl_X3_30 la_2 ly_2 rfl ?_
    refine r_iload_n C 3 dX3_add_39 rfl rfl ?_
    refine r_iast C dX3_add_40 la_5 ly_5 (fun d3 => ?_)
    refine r_aload_n C 0 dX3_add_41 rfl rfl ?_
    refine r_dup C dX3_add_42 rfl ?_
    refine r_getI C dX3_add_43 fl_X3_30 la_2 ly_2 rfl ?_
    refine r_iconst C dX3_add_46 ?_
    refine r_iadd C dX3_add_47 ?_
    refine r_putI C dX3_add_48 fp_X3_30 la_2 ly_2 rfl (fun d4 => ?_)
    refine r_aload_n C 0 dX3_add_51 rfl rfl ?_
    refine r_getI C dX3_add_52 fl_X3_30 la_2 ly_2 rfl ?_
    refine r_iconst C dX3_add_55 ?_
    refine r_isub C dX3_add_56 ?_
    exact r_iret C dX3_add_57 (by decide) (by decide)
  · refine r_iconst C dX3_add_9 ?_
    exact r_iret C dX3_add_10 (by decide) (by decide)
theorem dX11_paint_0 : decode cX11_paint 0 = .ok (.iload_n 1, 1) := by decide +kernel
theorem dX11_paint_1 : decode cX11_paint 1 = .ok (.iconst 0, 1) := by decide +kernel
theorem dX11_paint_2 : decode cX11_paint 2 = .ok (.iconst 3, 1) := by decide +kernel
theorem dX11_paint_3 : decode cX11_paint 3 = .ok (.invokestatic 73, 3) := by decide +kernel
theorem dX11_paint_6 : decode cX11_paint 6 = .ok (.iload_n 2, 1) := by decide +kernel
theorem dX11_paint_7 : decode cX11_paint 7 = .ok (.iconst 0, 1) := by decide +kernel
theorem dX11_paint_8 : decode cX11_paint 8 = .ok (.iconst 5, 1) := by decide +kernel
theorem dX11_paint_9 : decode cX11_paint 9 = .ok (.invokestatic 73, 3) := by decide +kernel
theorem dX11_paint_12 : decode cX11_paint 12 = .ok (.iload_n 3, 1) := by decide +kernel
theorem dX11_paint_13 : decode cX11_paint 13 = .ok (.iconst 0, 1) := by decide +kernel
theorem dX11_paint_14 : decode cX11_paint 14 = .ok (.bipush 9, 2) := by decide +kernel
theorem dX11_paint_16 : decode cX11_paint 16 = .ok (.invokestatic 73, 3) := by decide +kernel
theorem dX11_paint_19 : decode cX11_paint 19 = .ok (.aload_n 0, 1) := by decide +kernel
theorem dX11_paint_20 : decode cX11_paint 20 = .ok (.getfield 10, 3) := by decide +kernel
theorem dX11_paint_23 : decode cX11_paint 23 = .ok (.getfield 77, 3) := by decide +kernel
theorem dX11_paint_26 : decode cX11_paint 26 = .ok (.iload_n 1, 1) := by decide +kernel
theorem dX11_paint_27 : decode cX11_paint 27 = .ok (.iload_n 2, 1) := by decide +kernel
theorem dX11_paint_28 : decode cX11_paint 28 = .ok (.iload_n 3, 1) := by decide +kernel
theorem dX11_paint_29 : decode cX11_paint 29 = .ok (.invokevirtual 81, 3) := by decide +kernel
theorem dX11_paint_32 : decode cX11_paint 32 = .ok (.ireturn, 1) := by decide +kernel
abbrev z_X11_paint_0 : Z9 := (some .int, 1, 3, 18, 7, 122)
def m_X11_paint_0 (p1 p2 p3 : Int) (d : D9) : Option R9 := cl (m_X11_askWithin p1 0 3 d) (fun r1 d2 => cl (m_X11_askWithin p2 0 5 d2) (fun r3 d4 => cl (m_X11_askWithin p3 0 9 d4) (fun r5 d6 => cl (m_X3_add_2 p1 p2 p3 d6) (fun r7 d8 => rt r7 d8))))
set_option maxRecDepth 100000 in
theorem t_X11_paint_0 {G : G9} {l : Launch} (h1 : va_D (A9 G) (wl G (fun _ _ => 0))) (h2 : l.stackTraces = false) (p1 p2 p3 : Int) (d : D9) : MT G l yX11_paint cX11_paint 4 z_X11_paint_0 [rf G 0, i9 p1, i9 p2, i9 p3] d (m_X11_paint_0 p1 p2 p3 d) := by
  refine mt_of (own := RX11) (by decide) rfl (Nat.le_of_ble_eq_true rfl) h1 h2 [(0, rf G 0), (1, i9 p1), (2, i9 p2), (3, i9 p3)] rfl (fun X hX C => ?_)
  unfold m_X11_paint_0
  refine r_iload_n C 1 dX11_paint_0 rfl rfl ?_
  refine r_iconst C dX11_paint_1 ?_
  refine r_iconst C dX11_paint_2 ?_
  refine r_callS C [i9 3, i9 0, i9 p1] dX11_paint_3 (t_X11_askWithin C.h1 C.h2 p1 0 3 d) mw_X11_73 ms_X11_askWithin (by decide) (by decide) (by decide) rfl rfl (Nat.le_of_ble_eq_true rfl) (fun r1 d2 => ?_)
  show SS G X 4 _ _ 6 [(0, rf G 0), (1, i9 p1), (2, i9 p2), (3, i9 p3)] [] d2 _
  refine r_iload_n C 2 dX11_paint_6 rfl rfl ?_
  refine r_iconst C dX11_paint_7 ?_
  refine r_iconst C dX11_paint_8 ?_
  refine r_callS C [i9 5, i9 0, i9 p2] dX11_paint_9 (t_X11_askWithin C.h1 C.h2 p2 0 5 d2) mw_X11_73 ms_X11_askWithin (by decide) (by decide) (by decide) rfl rfl (Nat.le_of_ble_eq_true rfl) (fun r3 d4 => ?_)
  show SS G X 4 _ _ 12 [(0, rf G 0), (1, i9 p1), (2, i9 p2), (3, i9 p3)] [] d4 _
  refine r_iload_n C 3 dX11_paint_12 rfl rfl ?_
  refine r_iconst C dX11_paint_13 ?_
  refine r_bipush C dX11_paint_14 rfl ?_
  refine r_callS C [i9 9, i9 0, i9 p3] dX11_paint_16 (t_X11_askWithin C.h1 C.h2 p3 0 9 d4) mw_X11_73 ms_X11_askWithin (by decide) (by decide) (by decide) rfl rfl (Nat.le_of_ble_eq_true rfl) (fun r5 d6 => ?_)
  show SS G X 4 _ _ 19 [(0, rf G 0), (1, i9 p1), (2, i9 p2), (3, i9 p3)] [] d6 _
  refine r_aload_n C 0 dX11_paint_19 rfl rfl ?_
  refine r_getR C 1 dX11_paint_20 fl_X11_10 la_0 ly_0 rfl rfl ?_
  refine r_getR C 2 dX11_paint_23 fl_X11_77 la_1 ly_1 rfl rfl ?_
  refine r_iload_n C 1 dX11_paint_26 rfl rfl ?_
  refine r_iload_n C 2 dX11_paint_27 rfl rfl ?_
  refine r_iload_n C 3 dX11_paint_28 rfl rfl ?_
  refine r_callV C [i9 p3, i9 p2, i9 p1, rf G 2] dX11_paint_29 (t_X3_add_2 C.h1 C.h2 p1 p2 p3 d6) mw_X11_81 mv_X3_add la_2 ly_2 rfl (by decide) (by decide) (by decide) rfl rfl (Nat.le_of_ble_eq_true rfl) (fun r7 d8 => ?_)
  show SS G X 4 _ _ 32 [(0, rf G 0), (1, i9 p1), (2, i9 p2), (3, i9 p3)] [i9 r7] d8 _
  exact r_iret C dX11_paint_32 (by decide) (by decide)
theorem dX11_plan_0 : decode cX11_plan 0 = .ok (.iload_n 1, 1) := by decide +kernel
theorem dX11_plan_1 : decode cX11_plan 1 = .ok (.iconst 0, 1) := by decide +kernel
theorem dX11_plan_2 : decode cX11_plan 2 = .ok (.sipush 999, 3) := by decide +kernel
theorem dX11_plan_5 : decode cX11_plan 5 = .ok (.invokestatic 73, 3) := by decide +kernel
theorem dX11_plan_8 : decode cX11_plan 8 = .ok (.iload_n 2, 1) := by decide +kernel
theorem dX11_plan_9 : decode cX11_plan 9 = .ok (.iconst 0, 1) := by decide +kernel
theorem dX11_plan_10 : decode cX11_plan 10 = .ok (.iconst 2, 1) := by decide +kernel
theorem dX11_plan_11 : decode cX11_plan 11 = .ok (.invokestatic 73, 3) := by decide +kernel
theorem dX11_plan_14 : decode cX11_plan 14 = .ok (.aload_n 0, 1) := by decide +kernel
theorem dX11_plan_15 : decode cX11_plan 15 = .ok (.getfield 69, 3) := by decide +kernel
theorem dX11_plan_18 : decode cX11_plan 18 = .ok (.aload_n 0, 1) := by decide +kernel
theorem dX11_plan_19 : decode cX11_plan 19 = .ok (.getfield 10, 3) := by decide +kernel
theorem dX11_plan_22 : decode cX11_plan 22 = .ok (.getfield 122, 3) := by decide +kernel
theorem dX11_plan_25 : decode cX11_plan 25 = .ok (.iload_n 1, 1) := by decide +kernel
theorem dX11_plan_26 : decode cX11_plan 26 = .ok (.invokevirtual 375, 3) := by decide +kernel
theorem dX11_plan_29 : decode cX11_plan 29 = .ok (.iload_n 2, 1) := by decide +kernel
theorem dX11_plan_30 : decode cX11_plan 30 = .ok (.ifCond .ne 11, 3) := by decide +kernel
theorem dX11_plan_33 : decode cX11_plan 33 = .ok (.aload_n 0, 1) := by decide +kernel
theorem dX11_plan_34 : decode cX11_plan 34 = .ok (.getfield 69, 3) := by decide +kernel
theorem dX11_plan_37 : decode cX11_plan 37 = .ok (.getfield 379, 3) := by decide +kernel
theorem dX11_plan_40 : decode cX11_plan 40 = .ok (.ireturn, 1) := by decide +kernel
theorem dX11_plan_41 : decode cX11_plan 41 = .ok (.iload_n 2, 1) := by decide +kernel
theorem dX11_plan_42 : decode cX11_plan 42 = .ok (.iconst 1, 1) := by decide +kernel
theorem dX11_plan_43 : decode cX11_plan 43 = .ok (.if_icmp .ne 13, 3) := by decide +kernel
theorem dX11_plan_46 : decode cX11_plan 46 = .ok (.aload_n 0, 1) := by decide +kernel
theorem dX11_plan_47 : decode cX11_plan 47 = .ok (.getfield 69, 3) := by decide +kernel
theorem dX11_plan_50 : decode cX11_plan 50 = .ok (.getfield 382, 3) := by decide +kernel
theorem dX11_plan_53 : decode cX11_plan 53 = .ok (.goto 10, 3) := by decide +kernel
theorem dX11_plan_56 : decode cX11_plan 56 = .ok (.aload_n 0, 1) := by decide +kernel
theorem dX11_plan_57 : decode cX11_plan 57 = .ok (.getfield 69, 3) := by decide +kernel
theorem dX11_plan_60 : decode cX11_plan 60 = .ok (.getfield 385, 3) := by decide +kernel
theorem dX11_plan_63 : decode cX11_plan 63 = .ok (.ireturn, 1) := by decide +kernel
abbrev z_X11_plan_0 : Z9 := (some .int, 1, 2, 12, 7, 122)
def m_X11_plan_0 (p1 p2 : Int) (d : D9) : Option R9 := cl (m_X11_askWithin p1 0 999 d) (fun r1 d2 => cl (m_X11_askWithin p2 0 2 d2) (fun r3 d4 => cl (m_X5_makePlan_58_9 p1 d4) (fun r5 d6 => if w32 p2 ≠ 0 then if w32 p2 ≠ w32 1 then rt (d6 58 2) d6 else rt (d6 58 1) d6 else rt (d6 58 0) d6)))
set_option maxRecDepth 100000 in
theorem t_X11_plan_0 {G : G9} {l : Launch} (h1 : va_D (A9 G) (wl G (fun _ _ => 0))) (h2 : l.stackTraces = false) (p1 p2 : Int) (d : D9) : MT G l yX11_plan cX11_plan 3 z_X11_plan_0 [rf G 0, i9 p1, i9 p2] d (m_X11_plan_0 p1 p2 d) := by
  refine mt_of (own := RX11) (by decide) rfl (Nat.le_of_ble_eq_true rfl) h1 h2 [(0, rf G 0), (1, i9 p1), (2, i9 p2)] rfl (fun X hX C => ?_)
  unfold m_X11_plan_0
  refine r_iload_n C 1 dX11_plan_0 rfl rfl ?_
  refine r_iconst C dX11_plan_1 ?_
  refine r_sipush C dX11_plan_2 rfl ?_
  refine r_callS C [i9 999, i9 0, i9 p1] dX11_plan_5 (t_X11_askWithin C.h1 C.h2 p1 0 999 d) mw_X11_73 ms_X11_askWithin (by decide) (by decide) (by decide) rfl rfl (Nat.le_of_ble_eq_true rfl) (fun r1 d2 => ?_)
  show SS G X 3 _ _ 8 [(0, rf G 0), (1, i9 p1), (2, i9 p2)] [] d2 _
  refine r_iload_n C 2 dX11_plan_8 rfl rfl ?_
  refine r_iconst C dX11_plan_9 ?_
  refine r_iconst C dX11_plan_10 ?_
  refine r_callS C [i9 2, i9 0, i9 p2] dX11_plan_11 (t_X11_askWithin C.h1 C.h2 p2 0 2 d2) mw_X11_73 ms_X11_askWithin (by decide) (by decide) (by decide) rfl rfl (Nat.le_of_ble_eq_true rfl) (fun r3 d4 => ?_)
  show SS G X 3 _ _ 14 [(0, rf G 0), (1, i9 p1), (2, i9 p2)] [] d4 _
  refine r_aload_n C 0 dX11_plan_14 rfl rfl ?_
  refine r_getR C 58 dX11_plan_15 fl_X11_69 la_0 ly_0 rfl rfl ?_
  refine r_aload_n C 0 dX11_plan_18 rfl rfl ?_
  refine r_getR C 1 dX11_plan_19 fl_X11_10 la_0 ly_0 rfl rfl ?_
  refine r_getR C 9 dX11_plan_22 fl_X11_122 la_1 ly_1 rfl rfl ?_
  refine r_iload_n C 1 dX11_plan_25 rfl rfl ?_
  refine r_callV C [i9 p1, rf G 9, rf G 58] dX11_plan_26 (t_X5_makePlan_58_9 C.h1 C.h2 p1 d4) mw_X11_375 mv_X5_makePlan la_58 ly_58 rfl (by decide) (by decide) (by decide) rfl rfl (Nat.le_of_ble_eq_true rfl) (fun r5 d6 => ?_)
  show SS G X 3 _ _ 29 [(0, rf G 0), (1, i9 p1), (2, i9 p2)] [] d6 _
  refine r_iload_n C 2 dX11_plan_29 rfl rfl ?_
  refine r_if_ne C (b := 0) 41 dX11_plan_30 (by decide) (fun _ => ?_) (fun _ => ?_)
  · refine r_iload_n C 2 dX11_plan_41 rfl rfl ?_
    refine r_iconst C dX11_plan_42 ?_
    refine r_icmp_ne C 56 dX11_plan_43 (by decide) (fun _ => ?_) (fun _ => ?_)
    · refine r_aload_n C 0 dX11_plan_56 rfl rfl ?_
      refine r_getR C 58 dX11_plan_57 fl_X11_69 la_0 ly_0 rfl rfl ?_
      refine r_getI C dX11_plan_60 fl_X11_385 la_58 ly_58 rfl ?_
      exact r_iret C dX11_plan_63 (by decide) (by decide)
    · refine r_aload_n C 0 dX11_plan_46 rfl rfl ?_
      refine r_getR C 58 dX11_plan_47 fl_X11_69 la_0 ly_0 rfl rfl ?_
      refine r_getI C dX11_plan_50 fl_X11_382 la_58 ly_58 rfl ?_
      refine r_goto C 63 dX11_plan_53 (by decide) ?_
      exact r_iret C dX11_plan_63 (by decide) (by decide)
  · refine r_aload_n C 0 dX11_plan_33 rfl rfl ?_
    refine r_getR C 58 dX11_plan_34 fl_X11_69 la_0 ly_0 rfl rfl ?_
    refine r_getI C dX11_plan_37 fl_X11_379 la_58 ly_58 rfl ?_
    exact r_iret C dX11_plan_40 (by decide) (by decide)
theorem dX11_askTray_0 : decode cX11_askTray 0 = .ok (.iload_n 0, 1) := by decide +kernel
theorem dX11_askTray_1 : decode cX11_askTray 1 = .ok (.ifCond .lt 8, 3) := by decide +kernel
theorem dX11_askTray_4 : decode cX11_askTray 4 = .ok (.iload_n 0, 1) := by decide +kernel
theorem dX11_askTray_5 : decode cX11_askTray 5 = .ok (.iconst 4, 1) := by decide +kernel
theorem dX11_askTray_6 : decode cX11_askTray 6 = .ok (.if_icmp .lt 14, 3) := by decide +kernel
theorem dX11_askTray_9 : decode cX11_askTray 9 = .ok (.new 218, 3) := by decide +kernel
theorem dX11_askTray_12 : decode cX11_askTray 12 = .ok (.dup, 1) := by decide +kernel
theorem dX11_askTray_13 : decode cX11_askTray 13 = .ok (.ldc_w 459, 3) := by decide +kernel
theorem dX11_askTray_16 : decode cX11_askTray 16 = .ok (.invokespecial 222, 3) := by decide +kernel
theorem dX11_askTray_19 : decode cX11_askTray 19 = .ok (.athrow, 1) := by decide +kernel
theorem dX11_askTray_20 : decode cX11_askTray 20 = .ok (.return_, 1) := by decide +kernel
abbrev z_X11_askTray : Z9 := (none, 0, 1, 6, 6, 100)
def m_X11_askTray_c9 (d : D9) : Option R9 := th 2 d
def m_X11_askTray (p0 : Int) (d : D9) : Option R9 := if w32 p0 < 0 then m_X11_askTray_c9   d else if w32 p0 < w32 4 then rt 0 d else m_X11_askTray_c9   d
set_option maxRecDepth 100000 in
theorem s_X11_askTray_c9 {G : G9} {X : X9} (C : CX G X cX11_askTray 1 RX11 [] z_X11_askTray) : ∀ (d : D9), SS G X 1 0 0 9 [] [] d (m_X11_askTray_c9   d) := by
  intro  d
  unfold m_X11_askTray_c9
  exact r_throwNW C 8 rfl tn_222 tc_2 dX11_askTray_9 dX11_askTray_12 dX11_askTray_13 dX11_askTray_16 dX11_askTray_19 (by decide) (by decide) (by decide) (by decide)
set_option maxRecDepth 100000 in
theorem t_X11_askTray {G : G9} {l : Launch} (h1 : va_D (A9 G) (wl G (fun _ _ => 0))) (h2 : l.stackTraces = false) (p0 : Int) (d : D9) : MT G l yX11_askTray cX11_askTray 1 z_X11_askTray [i9 p0] d (m_X11_askTray p0 d) := by
  refine mt_of (own := RX11) (by decide) rfl (Nat.le_of_ble_eq_true rfl) h1 h2 [(0, i9 p0)] rfl (fun X hX C => ?_)
  unfold m_X11_askTray
  refine r_iload_n C 0 dX11_askTray_0 rfl rfl ?_
  refine r_if_lt C (b := 0) 9 dX11_askTray_1 (by decide) (fun _ => ?_) (fun _ => ?_)
  · refine ss_wide (k' := 0) (n' := 0) (by decide) (by decide) ?_
    refine ss_ls [] [] rfl ?_
    exact s_X11_askTray_c9 C   d
  · refine r_iload_n C 0 dX11_askTray_4 rfl rfl ?_
    refine r_iconst C dX11_askTray_5 ?_
    refine r_icmp_lt C 20 dX11_askTray_6 (by decide) (fun _ => ?_) (fun _ => ?_)
    · exact r_vret C dX11_askTray_20 (by decide) (by decide)
    · refine ss_wide (k' := 0) (n' := 0) (by decide) (by decide) ?_
      refine ss_ls [] [] rfl ?_
      exact s_X11_askTray_c9 C   d
theorem dX11_askFilledTray_0 : decode cX11_askFilledTray 0 = .ok (.iload_n 1, 1) := by decide +kernel
theorem dX11_askFilledTray_1 : decode cX11_askFilledTray 1 = .ok (.invokestatic 404, 3) := by decide +kernel
theorem dX11_askFilledTray_4 : decode cX11_askFilledTray 4 = .ok (.aload_n 0, 1) := by decide +kernel
theorem dX11_askFilledTray_5 : decode cX11_askFilledTray 5 = .ok (.getfield 62, 3) := by decide +kernel
theorem dX11_askFilledTray_8 : decode cX11_askFilledTray 8 = .ok (.getfield 345, 3) := by decide +kernel
theorem dX11_askFilledTray_11 : decode cX11_askFilledTray 11 = .ok (.iload_n 1, 1) := by decide +kernel
theorem dX11_askFilledTray_12 : decode cX11_askFilledTray 12 = .ok (.iaload, 1) := by decide +kernel
theorem dX11_askFilledTray_13 : decode cX11_askFilledTray 13 = .ok (.iconst (-1), 1) := by decide +kernel
theorem dX11_askFilledTray_14 : decode cX11_askFilledTray 14 = .ok (.if_icmp .ne 14, 3) := by decide +kernel
theorem dX11_askFilledTray_17 : decode cX11_askFilledTray 17 = .ok (.new 430, 3) := by decide +kernel
theorem dX11_askFilledTray_20 : decode cX11_askFilledTray 20 = .ok (.dup, 1) := by decide +kernel
theorem dX11_askFilledTray_21 : decode cX11_askFilledTray 21 = .ok (.ldc_w 461, 3) := by decide +kernel
theorem dX11_askFilledTray_24 : decode cX11_askFilledTray 24 = .ok (.invokespecial 434, 3) := by decide +kernel
theorem dX11_askFilledTray_27 : decode cX11_askFilledTray 27 = .ok (.athrow, 1) := by decide +kernel
theorem dX11_askFilledTray_28 : decode cX11_askFilledTray 28 = .ok (.return_, 1) := by decide +kernel
abbrev z_X11_askFilledTray_0 : Z9 := (none, 0, 2, 12, 7, 120)
def m_X11_askFilledTray_0 (p1 : Int) (d : D9) : Option R9 := cl (m_X11_askTray p1 d) (fun r1 d2 => ld d2 56 4 p1 (fun t3 => if w32 t3 ≠ w32 (-1) then rt 0 d2 else th 1 d2))
set_option maxRecDepth 100000 in
theorem t_X11_askFilledTray_0 {G : G9} {l : Launch} (h1 : va_D (A9 G) (wl G (fun _ _ => 0))) (h2 : l.stackTraces = false) (p1 : Int) (d : D9) : MT G l yX11_askFilledTray cX11_askFilledTray 2 z_X11_askFilledTray_0 [rf G 0, i9 p1] d (m_X11_askFilledTray_0 p1 d) := by
  refine mt_of (own := RX11) (by decide) rfl (Nat.le_of_ble_eq_true rfl) h1 h2 [(0, rf G 0), (1, i9 p1)] rfl (fun X hX C => ?_)
  unfold m_X11_askFilledTray_0
  refine r_iload_n C 1 dX11_askFilledTray_0 rfl rfl ?_
  refine r_callS C [i9 p1] dX11_askFilledTray_1 (t_X11_askTray C.h1 C.h2 p1 d) mw_X11_404 ms_X11_askTray (by decide) (by decide) (by decide) rfl rfl (Nat.le_of_ble_eq_true rfl) (fun r1 d2 => ?_)
  show SS G X 2 _ _ 4 [(0, rf G 0), (1, i9 p1)] [] d2 _
  refine r_aload_n C 0 dX11_askFilledTray_4 rfl rfl ?_
  refine r_getR C 54 dX11_askFilledTray_5 fl_X11_62 la_0 ly_0 rfl rfl ?_
  refine r_getR C 56 dX11_askFilledTray_8 fl_X11_345 la_54 ly_54 rfl rfl ?_
  refine r_iload_n C 1 dX11_askFilledTray_11 rfl rfl ?_
  refine r_iald C dX11_askFilledTray_12 la_56 ly_56 (fun t3 => ?_)
  refine r_iconst C dX11_askFilledTray_13 ?_
  refine r_icmp_ne C 28 dX11_askFilledTray_14 (by decide) (fun _ => ?_) (fun _ => ?_)
  · exact r_vret C dX11_askFilledTray_28 (by decide) (by decide)
  · exact r_throwW C (e := 1) 9 rfl tw_1_434 tc_1 dX11_askFilledTray_17 dX11_askFilledTray_20 dX11_askFilledTray_21 dX11_askFilledTray_24 dX11_askFilledTray_27 (by decide) (by decide) (by decide) (by decide)
theorem dX9_allWithin_0 : decode cX9_allWithin 0 = .ok (.iconst 0, 1) := by decide +kernel
theorem dX9_allWithin_1 : decode cX9_allWithin 1 = .ok (.istore 6, 2) := by decide +kernel
theorem dX9_allWithin_3 : decode cX9_allWithin 3 = .ok (.iload 6, 2) := by decide +kernel
theorem dX9_allWithin_5 : decode cX9_allWithin 5 = .ok (.aload_n 0, 1) := by decide +kernel
theorem dX9_allWithin_6 : decode cX9_allWithin 6 = .ok (.getfield 15, 3) := by decide +kernel
theorem dX9_allWithin_9 : decode cX9_allWithin 9 = .ok (.iload_n 1, 1) := by decide +kernel
theorem dX9_allWithin_10 : decode cX9_allWithin 10 = .ok (.iaload, 1) := by decide +kernel
theorem dX9_allWithin_11 : decode cX9_allWithin 11 = .ok (.if_icmp .ge 40, 3) := by decide +kernel
theorem dX9_allWithin_14 : decode cX9_allWithin 14 = .ok (.aload_n 0, 1) := by decide +kernel
theorem dX9_allWithin_15 : decode cX9_allWithin 15 = .ok (.getfield 18, 3) := by decide +kernel
theorem dX9_allWithin_18 : decode cX9_allWithin 18 = .ok (.iload_n 1, 1) := by decide +kernel
theorem dX9_allWithin_19 : decode cX9_allWithin 19 = .ok (.bipush 40, 2) := by decide +kernel
theorem dX9_allWithin_21 : decode cX9_allWithin 21 = .ok (.imul, 1) := by decide +kernel
theorem dX9_allWithin_22 : decode cX9_allWithin 22 = .ok (.iload 6, 2) := by decide +kernel
theorem dX9_allWithin_24 : decode cX9_allWithin 24 = .ok (.iadd, 1) := by decide +kernel
theorem dX9_allWithin_25 : decode cX9_allWithin 25 = .ok (.laload, 1) := by decide +kernel
theorem dX9_allWithin_26 : decode cX9_allWithin 26 = .ok (.lstore 7, 2) := by decide +kernel
theorem dX9_allWithin_28 : decode cX9_allWithin 28 = .ok (.lload 7, 2) := by decide +kernel
theorem dX9_allWithin_30 : decode cX9_allWithin 30 = .ok (.lload_n 2, 1) := by decide +kernel
theorem dX9_allWithin_31 : decode cX9_allWithin 31 = .ok (.lcmp, 1) := by decide +kernel
theorem dX9_allWithin_32 : decode cX9_allWithin 32 = .ok (.ifCond .lt 11, 3) := by decide +kernel
theorem dX9_allWithin_35 : decode cX9_allWithin 35 = .ok (.lload 7, 2) := by decide +kernel
theorem dX9_allWithin_37 : decode cX9_allWithin 37 = .ok (.lload 4, 2) := by decide +kernel
theorem dX9_allWithin_39 : decode cX9_allWithin 39 = .ok (.lcmp, 1) := by decide +kernel
theorem dX9_allWithin_40 : decode cX9_allWithin 40 = .ok (.ifCond .le 5, 3) := by decide +kernel
theorem dX9_allWithin_43 : decode cX9_allWithin 43 = .ok (.iconst 0, 1) := by decide +kernel
theorem dX9_allWithin_44 : decode cX9_allWithin 44 = .ok (.ireturn, 1) := by decide +kernel
theorem dX9_allWithin_45 : decode cX9_allWithin 45 = .ok (.iinc 6 1, 3) := by decide +kernel
theorem dX9_allWithin_48 : decode cX9_allWithin 48 = .ok (.goto (-45), 3) := by decide +kernel
theorem dX9_allWithin_51 : decode cX9_allWithin 51 = .ok (.iconst 1, 1) := by decide +kernel
theorem dX9_allWithin_52 : decode cX9_allWithin 52 = .ok (.ireturn, 1) := by decide +kernel
abbrev z_X9_allWithin_54 : Z9 := (some .boolean, 1, 0, 0, 1, 0)
def b_X9_allWithin_54_c3 (k_X9_allWithin_54_c3 : Int → Int → Int → Int → D9 → Option R9) (v1 v2 v4 v6 : Int) (d : D9) : Option R9 := ld d 56 4 v1 (fun t1 => if w32 t1 ≤ w32 v6 then rt (1 % 2) d else ld d 57 160 ((v1 * 40) + v6) (fun t2 => if w64 t2 < w64 v2 then rt (0 % 2) d else if w64 t2 ≤ w64 v4 then k_X9_allWithin_54_c3 v1 v2 v4 (v6 + 1) d else rt (0 % 2) d))
def m_X9_allWithin_54_c3 : Int → Int → Int → Int → D9 → Option R9 := fix9 (fun _ _ _ _ _ => none) (fun k => b_X9_allWithin_54_c3 k) FU
def m_X9_allWithin_54 (p1 p2 p3 : Int) (d : D9) : Option R9 := m_X9_allWithin_54_c3  p1 p2 p3 0 d
set_option maxRecDepth 100000 in
theorem sb_X9_allWithin_54_c3 {G : G9} {X : X9} (C : CX G X cX9_allWithin 9 RX9 [] z_X9_allWithin_54) (k_X9_allWithin_54_c3 : Int → Int → Int → Int → D9 → Option R9) (hk_X9_allWithin_54_c3 : ∀ (v1 v2 v4 v6 : Int) (d : D9), SS G X 9 0 0 3 [(0, rf G 54), (1, i9 v1), (2, l9 v2), (4, l9 v4), (6, i9 v6)] [] d (k_X9_allWithin_54_c3 v1 v2 v4 v6 d)) : ∀ (v1 v2 v4 v6 : Int) (d : D9), SS G X 9 0 0 3 [(0, rf G 54), (1, i9 v1), (2, l9 v2), (4, l9 v4), (6, i9 v6)] [] d (b_X9_allWithin_54_c3 k_X9_allWithin_54_c3 v1 v2 v4 v6 d) := by
  intro v1 v2 v4 v6 d
  unfold b_X9_allWithin_54_c3
  refine r_iload C 4 dX9_allWithin_3 rfl ?_
  refine r_aload_n C 0 dX9_allWithin_5 rfl rfl ?_
  refine r_getR C 56 dX9_allWithin_6 fl_X9_15 la_54 ly_54 rfl rfl ?_
  refine r_iload_n C 1 dX9_allWithin_9 rfl rfl ?_
  refine r_iald C dX9_allWithin_10 la_56 ly_56 (fun t1 => ?_)
  refine r_icmp_ge C 51 dX9_allWithin_11 (by decide) (fun _ => ?_) (fun _ => ?_)
  · refine r_iconst C dX9_allWithin_51 ?_
    exact r_zret C dX9_allWithin_52 (by decide) (by decide)
  · refine r_aload_n C 0 dX9_allWithin_14 rfl rfl ?_
    refine r_getR C 57 dX9_allWithin_15 fl_X9_18 la_54 ly_54 rfl rfl ?_
    refine r_iload_n C 1 dX9_allWithin_18 rfl rfl ?_
    refine r_bipush C dX9_allWithin_19 rfl ?_
    refine r_imul C dX9_allWithin_21 ?_
    refine r_iload C 4 dX9_allWithin_22 rfl ?_
    refine r_iadd C dX9_allWithin_24 ?_
    refine r_lald C dX9_allWithin_25 la_57 ly_57 (fun t2 => ?_)
    refine r_lstore C [(7, l9 t2), (0, rf G 54), (1, i9 v1), (2, l9 v2), (4, l9 v4), (6, i9 v6)] dX9_allWithin_26 (by decide) rfl ?_
    refine r_lload C 0 dX9_allWithin_28 rfl ?_
    refine r_lload_n C 3 dX9_allWithin_30 rfl rfl ?_
    refine r_lcmp_lt C 43 dX9_allWithin_31 dX9_allWithin_32 (by decide) (fun _ => ?_) (fun _ => ?_)
    · refine r_iconst C dX9_allWithin_43 ?_
      exact r_zret C dX9_allWithin_44 (by decide) (by decide)
    · refine r_lload C 0 dX9_allWithin_35 rfl ?_
      refine r_lload C 4 dX9_allWithin_37 rfl ?_
      refine r_lcmp_le C 45 dX9_allWithin_39 dX9_allWithin_40 (by decide) (fun _ => ?_) (fun _ => ?_)
      · refine r_iinc C 5 [(6, i9 (v6 + 1)), (7, l9 t2), (0, rf G 54), (1, i9 v1), (2, l9 v2), (4, l9 v4)] dX9_allWithin_45 rfl (by decide) rfl ?_
        refine r_goto C 3 dX9_allWithin_48 (by decide) ?_
        refine ss_wide (k' := 0) (n' := 0) (by decide) (by decide) ?_
        refine ss_ls [(0, rf G 54), (1, i9 v1), (2, l9 v2), (4, l9 v4), (6, i9 (v6 + 1))] [2, 3, 4, 5, 0] rfl ?_
        exact hk_X9_allWithin_54_c3 v1 v2 v4 (v6 + 1) d
      · refine r_iconst C dX9_allWithin_43 ?_
        exact r_zret C dX9_allWithin_44 (by decide) (by decide)
theorem s_X9_allWithin_54_c3 {G : G9} {X : X9} (C : CX G X cX9_allWithin 9 RX9 [] z_X9_allWithin_54) : ∀ (v1 v2 v4 v6 : Int) (d : D9), SS G X 9 0 0 3 [(0, rf G 54), (1, i9 v1), (2, l9 v2), (4, l9 v4), (6, i9 v6)] [] d (m_X9_allWithin_54_c3  v1 v2 v4 v6 d) :=
  fix9_ind (P := fun k => ∀ (v1 v2 v4 v6 : Int) (d : D9), SS G X 9 0 0 3 [(0, rf G 54), (1, i9 v1), (2, l9 v2), (4, l9 v4), (6, i9 v6)] [] d (k v1 v2 v4 v6 d)) (fun _ _ _ _ _ => ss_none) (fun k hk => sb_X9_allWithin_54_c3 C k hk) FU
set_option maxRecDepth 100000 in
theorem t_X9_allWithin_54 {G : G9} {l : Launch} (h1 : va_D (A9 G) (wl G (fun _ _ => 0))) (h2 : l.stackTraces = false) (p1 p2 p3 : Int) (d : D9) : MT G l yX9_allWithin cX9_allWithin 9 z_X9_allWithin_54 [rf G 54, i9 p1, l9 p2, l9 p3] d (m_X9_allWithin_54 p1 p2 p3 d) := by
  refine mt_of (own := RX9) (by decide) rfl (Nat.le_of_ble_eq_true rfl) h1 h2 [(0, rf G 54), (1, i9 p1), (2, l9 p2), (4, l9 p3)] rfl (fun X hX C => ?_)
  unfold m_X9_allWithin_54
  refine r_iconst C dX9_allWithin_0 ?_
  refine r_istore C [(6, i9 0), (0, rf G 54), (1, i9 p1), (2, l9 p2), (4, l9 p3)] dX9_allWithin_1 (by decide) rfl ?_
  refine ss_wide (k' := 0) (n' := 0) (by decide) (by decide) ?_
  refine ss_ls [(0, rf G 54), (1, i9 p1), (2, l9 p2), (4, l9 p3), (6, i9 0)] [1, 2, 3, 4, 0] rfl ?_
  exact s_X9_allWithin_54_c3 C  p1 p2 p3 0 d
theorem dX9_numberAt_0 : decode cX9_numberAt 0 = .ok (.aload_n 0, 1) := by decide +kernel
theorem dX9_numberAt_1 : decode cX9_numberAt 1 = .ok (.getfield 18, 3) := by decide +kernel
theorem dX9_numberAt_4 : decode cX9_numberAt 4 = .ok (.iload_n 1, 1) := by decide +kernel
theorem dX9_numberAt_5 : decode cX9_numberAt 5 = .ok (.bipush 40, 2) := by decide +kernel
theorem dX9_numberAt_7 : decode cX9_numberAt 7 = .ok (.imul, 1) := by decide +kernel
theorem dX9_numberAt_8 : decode cX9_numberAt 8 = .ok (.iload_n 2, 1) := by decide +kernel
theorem dX9_numberAt_9 : decode cX9_numberAt 9 = .ok (.iadd, 1) := by decide +kernel
theorem dX9_numberAt_10 : decode cX9_numberAt 10 = .ok (.laload, 1) := by decide +kernel
theorem dX9_numberAt_11 : decode cX9_numberAt 11 = .ok (.l2i, 1) := by decide +kernel
theorem dX9_numberAt_12 : decode cX9_numberAt 12 = .ok (.ireturn, 1) := by decide +kernel
abbrev z_X9_numberAt_54 : Z9 := (some .int, 1, 0, 0, 1, 0)
def m_X9_numberAt_54 (p1 p2 : Int) (d : D9) : Option R9 := ld d 57 160 ((p1 * 40) + p2) (fun t1 => rt t1 d)
set_option maxRecDepth 100000 in
theorem t_X9_numberAt_54 {G : G9} {l : Launch} (h1 : va_D (A9 G) (wl G (fun _ _ => 0))) (h2 : l.stackTraces = false) (p1 p2 : Int) (d : D9) : MT G l yX9_numberAt cX9_numberAt 3 z_X9_numberAt_54 [rf G 54, i9 p1, i9 p2] d (m_X9_numberAt_54 p1 p2 d) := by
  refine mt_of (own := RX9) (by decide) rfl (Nat.le_of_ble_eq_true rfl) h1 h2 [(0, rf G 54), (1, i9 p1), (2, i9 p2)] rfl (fun X hX C => ?_)
  unfold m_X9_numberAt_54
  refine r_aload_n C 0 dX9_numberAt_0 rfl rfl ?_
  refine r_getR C 57 dX9_numberAt_1 fl_X9_18 la_54 ly_54 rfl rfl ?_
  refine r_iload_n C 1 dX9_numberAt_4 rfl rfl ?_
  refine r_bipush C dX9_numberAt_5 rfl ?_
  refine r_imul C dX9_numberAt_7 ?_
  refine r_iload_n C 2 dX9_numberAt_8 rfl rfl ?_
  refine r_iadd C dX9_numberAt_9 ?_
  refine r_lald C dX9_numberAt_10 la_57 ly_57 (fun t1 => ?_)
  refine r_l2i C dX9_numberAt_11 ?_
  exact r_iret C dX9_numberAt_12 (by decide) (by decide)
theorem dX11_pour_0 : decode cX11_pour 0 = .ok (.aload_n 0, 1) := by decide +kernel
theorem dX11_pour_1 : decode cX11_pour 1 = .ok (.iload_n 1, 1) := by decide +kernel
theorem dX11_pour_2 : decode cX11_pour 2 = .ok (.invokevirtual 131, 3) := by decide +kernel
theorem dX11_pour_5 : decode cX11_pour 5 = .ok (.aload_n 0, 1) := by decide +kernel
theorem dX11_pour_6 : decode cX11_pour 6 = .ok (.iload_n 2, 1) := by decide +kernel
theorem dX11_pour_7 : decode cX11_pour 7 = .ok (.invokevirtual 342, 3) := by decide +kernel
theorem dX11_pour_10 : decode cX11_pour 10 = .ok (.aload_n 0, 1) := by decide +kernel
theorem dX11_pour_11 : decode cX11_pour 11 = .ok (.getfield 62, 3) := by decide +kernel
theorem dX11_pour_14 : decode cX11_pour 14 = .ok (.getfield 345, 3) := by decide +kernel
theorem dX11_pour_17 : decode cX11_pour 17 = .ok (.iload_n 2, 1) := by decide +kernel
theorem dX11_pour_18 : decode cX11_pour 18 = .ok (.iaload, 1) := by decide +kernel
theorem dX11_pour_19 : decode cX11_pour 19 = .ok (.istore_n 3, 1) := by decide +kernel
theorem dX11_pour_20 : decode cX11_pour 20 = .ok (.iload_n 3, 1) := by decide +kernel
theorem dX11_pour_21 : decode cX11_pour 21 = .ok (.iconst 3, 1) := by decide +kernel
theorem dX11_pour_22 : decode cX11_pour 22 = .ok (.irem, 1) := by decide +kernel
theorem dX11_pour_23 : decode cX11_pour 23 = .ok (.ifCond .eq 14, 3) := by decide +kernel
theorem dX11_pour_26 : decode cX11_pour 26 = .ok (.new 410, 3) := by decide +kernel
theorem dX11_pour_29 : decode cX11_pour 29 = .ok (.dup, 1) := by decide +kernel
theorem dX11_pour_30 : decode cX11_pour 30 = .ok (.ldc_w 418, 3) := by decide +kernel
theorem dX11_pour_33 : decode cX11_pour 33 = .ok (.invokespecial 414, 3) := by decide +kernel
theorem dX11_pour_36 : decode cX11_pour 36 = .ok (.athrow, 1) := by decide +kernel
theorem dX11_pour_37 : decode cX11_pour 37 = .ok (.aload_n 0, 1) := by decide +kernel
theorem dX11_pour_38 : decode cX11_pour 38 = .ok (.getfield 62, 3) := by decide +kernel
theorem dX11_pour_41 : decode cX11_pour 41 = .ok (.iload_n 2, 1) := by decide +kernel
theorem dX11_pour_42 : decode cX11_pour 42 = .ok (.lconst 0, 1) := by decide +kernel
theorem dX11_pour_43 : decode cX11_pour 43 = .ok (.ldc2_w 420, 3) := by decide +kernel
theorem dX11_pour_46 : decode cX11_pour 46 = .ok (.invokevirtual 350, 3) := by decide +kernel
theorem dX11_pour_49 : decode cX11_pour 49 = .ok (.ifCond .ne 14, 3) := by decide +kernel
theorem dX11_pour_52 : decode cX11_pour 52 = .ok (.new 109, 3) := by decide +kernel
theorem dX11_pour_55 : decode cX11_pour 55 = .ok (.dup, 1) := by decide +kernel
theorem dX11_pour_56 : decode cX11_pour 56 = .ok (.ldc_w 422, 3) := by decide +kernel
theorem dX11_pour_59 : decode cX11_pour 59 = .ok (.invokespecial 113, 3) := by decide +kernel
theorem dX11_pour_62 : decode cX11_pour 62 = .ok (.athrow, 1) := by decide +kernel
theorem dX11_pour_63 : decode cX11_pour 63 = .ok (.iload_n 3, 1) := by decide +kernel
theorem dX11_pour_64 : decode cX11_pour 64 = .ok (.iconst 3, 1) := by decide +kernel
theorem dX11_pour_65 : decode cX11_pour 65 = .ok (.idiv, 1) := by decide +kernel
theorem dX11_pour_66 : decode cX11_pour 66 = .ok (.istore 4, 2) := by decide +kernel
theorem dX11_pour_68 : decode cX11_pour 68 = .ok (.aload_n 0, 1) := by decide +kernel
theorem dX11_pour_69 : decode cX11_pour 69 = .ok (.getfield 10, 3) := by decide +kernel
theorem dX11_pour_72 : decode cX11_pour 72 = .ok (.getfield 122, 3) := by decide +kernel
theorem dX11_pour_75 : decode cX11_pour 75 = .ok (.getfield 134, 3) := by decide +kernel
theorem dX11_pour_78 : decode cX11_pour 78 = .ok (.iload_n 1, 1) := by decide +kernel
theorem dX11_pour_79 : decode cX11_pour 79 = .ok (.iaload, 1) := by decide +kernel
theorem dX11_pour_80 : decode cX11_pour 80 = .ok (.iload 4, 2) := by decide +kernel
theorem dX11_pour_82 : decode cX11_pour 82 = .ok (.iadd, 1) := by decide +kernel
theorem dX11_pour_83 : decode cX11_pour 83 = .ok (.iconst 4, 1) := by decide +kernel
theorem dX11_pour_84 : decode cX11_pour 84 = .ok (.if_icmp .le 5, 3) := by decide +kernel
theorem dX11_pour_87 : decode cX11_pour 87 = .ok (.iconst (-1), 1) := by decide +kernel
theorem dX11_pour_88 : decode cX11_pour 88 = .ok (.ireturn, 1) := by decide +kernel
theorem dX11_pour_89 : decode cX11_pour 89 = .ok (.iconst 0, 1) := by decide +kernel
theorem dX11_pour_90 : decode cX11_pour 90 = .ok (.istore 5, 2) := by decide +kernel
theorem dX11_pour_92 : decode cX11_pour 92 = .ok (.iload 5, 2) := by decide +kernel
theorem dX11_pour_94 : decode cX11_pour 94 = .ok (.iconst 2, 1) := by decide +kernel
theorem dX11_pour_95 : decode cX11_pour 95 = .ok (.iadd, 1) := by decide +kernel
theorem dX11_pour_96 : decode cX11_pour 96 = .ok (.iload_n 3, 1) := by decide +kernel
theorem dX11_pour_97 : decode cX11_pour 97 = .ok (.if_icmp .ge 62, 3) := by decide +kernel
theorem dX11_pour_100 : decode cX11_pour 100 = .ok (.aload_n 0, 1) := by decide +kernel
theorem dX11_pour_101 : decode cX11_pour 101 = .ok (.getfield 10, 3) := by decide +kernel
theorem dX11_pour_104 : decode cX11_pour 104 = .ok (.getfield 122, 3) := by decide +kernel
theorem dX11_pour_107 : decode cX11_pour 107 = .ok (.iload_n 1, 1) := by decide +kernel
theorem dX11_pour_108 : decode cX11_pour 108 = .ok (.aload_n 0, 1) := by decide +kernel
theorem dX11_pour_109 : decode cX11_pour 109 = .ok (.getfield 62, 3) := by decide +kernel
theorem dX11_pour_112 : decode cX11_pour 112 = .ok (.iload_n 2, 1) := by decide +kernel
theorem dX11_pour_113 : decode cX11_pour 113 = .ok (.iload 5, 2) := by decide +kernel
theorem dX11_pour_115 : decode cX11_pour 115 = .ok (.invokevirtual 360, 3) := by decide +kernel
theorem dX11_pour_118 : decode cX11_pour 118 = .ok (.aload_n 0, 1) := by decide +kernel
theorem dX11_pour_119 : decode cX11_pour 119 = .ok (.getfield 62, 3) := by decide +kernel
theorem dX11_pour_122 : decode cX11_pour 122 = .ok (.iload_n 2, 1) := by decide +kernel
theorem dX11_pour_123 : decode cX11_pour 123 = .ok (.iload 5, 2) := by decide +kernel
theorem dX11_pour_125 : decode cX11_pour 125 = .ok (.iconst 1, 1) := by decide +kernel
theorem dX11_pour_126 : decode cX11_pour 126 = .ok (.iadd, 1) := by decide +kernel
theorem dX11_pour_127 : decode cX11_pour 127 = .ok (.invokevirtual 360, 3) := by decide +kernel
theorem dX11_pour_130 : decode cX11_pour 130 = .ok (.aload_n 0, 1) := by decide +kernel
theorem dX11_pour_131 : decode cX11_pour 131 = .ok (.getfield 62, 3) := by decide +kernel
theorem dX11_pour_134 : decode cX11_pour 134 = .ok (.iload_n 2, 1) := by decide +kernel
theorem dX11_pour_135 : decode cX11_pour 135 = .ok (.iload 5, 2) := by decide +kernel
theorem dX11_pour_137 : decode cX11_pour 137 = .ok (.iconst 2, 1) := by decide +kernel
theorem dX11_pour_138 : decode cX11_pour 138 = .ok (.iadd, 1) := by decide +kernel
theorem dX11_pour_139 : decode cX11_pour 139 = .ok (.invokevirtual 360, 3) := by decide +kernel
theorem dX11_pour_142 : decode cX11_pour 142 = .ok (.aload_n 0, 1) := by decide +kernel
theorem dX11_pour_143 : decode cX11_pour 143 = .ok (.getfield 10, 3) := by decide +kernel
theorem dX11_pour_146 : decode cX11_pour 146 = .ok (.getfield 137, 3) := by decide +kernel
theorem dX11_pour_149 : decode cX11_pour 149 = .ok (.invokevirtual 140, 3) := by decide +kernel
theorem dX11_pour_152 : decode cX11_pour 152 = .ok (.pop, 1) := by decide +kernel
theorem dX11_pour_153 : decode cX11_pour 153 = .ok (.iinc 5 3, 3) := by decide +kernel
theorem dX11_pour_156 : decode cX11_pour 156 = .ok (.goto (-64), 3) := by decide +kernel
theorem dX11_pour_159 : decode cX11_pour 159 = .ok (.iload 4, 2) := by decide +kernel
theorem dX11_pour_161 : decode cX11_pour 161 = .ok (.ireturn, 1) := by decide +kernel
abbrev z_X11_pour_0 : Z9 := (some .int, 1, 4, 24, 8, 182)
def b_X11_pour_0_c92 (k_X11_pour_0_c92 : Int → Int → Int → Int → Int → D9 → Option R9) (v1 v2 v3 v4 v5 : Int) (d : D9) : Option R9 := if w32 v3 ≤ w32 (v5 + 2) then rt v4 d else cl (m_X9_numberAt_54 v2 v5 d) (fun r1 d2 => cl (m_X9_numberAt_54 v2 (v5 + 1) d2) (fun r3 d4 => cl (m_X9_numberAt_54 v2 (v5 + 2) d4) (fun r5 d6 => cl (m_X6_addLayer_9_22 v1 r1 r3 r5 d6) (fun r7 d8 => k_X11_pour_0_c92 v1 v2 v3 v4 (v5 + 3) d8))))
def m_X11_pour_0_c92 : Int → Int → Int → Int → Int → D9 → Option R9 := fix9 (fun _ _ _ _ _ _ => none) (fun k => b_X11_pour_0_c92 k) FU
def m_X11_pour_0 (p1 p2 : Int) (d : D9) : Option R9 := cl (m_X11_askSkin_0 p1 d) (fun r1 d2 => cl (m_X11_askFilledTray_0 p2 d2) (fun r3 d4 => ld d4 56 4 p2 (fun t5 => if w32 (rem9 t5 3) = 0 then cl (m_X9_allWithin_54 p2 0 9999 d4) (fun r6 d7 => if w32 r6 ≠ 0 then lt9v (div9 t5 3) (fun a8 => ld d7 14 30 p1 (fun t9 => if w32 (t9 + a8) ≤ w32 4 then m_X11_pour_0_c92  p1 p2 t5 a8 0 d7 else rt (-1) d7)) else th 0 d7) else th 3 d4)))
set_option maxRecDepth 100000 in
theorem sb_X11_pour_0_c92 {G : G9} {X : X9} (C : CX G X cX11_pour 6 RX11 [] z_X11_pour_0) (k_X11_pour_0_c92 : Int → Int → Int → Int → Int → D9 → Option R9) (hk_X11_pour_0_c92 : ∀ (v1 v2 v3 v4 v5 : Int) (d : D9), SS G X 6 3 18 92 [(0, rf G 0), (1, i9 v1), (2, i9 v2), (3, i9 v3), (4, i9 v4), (5, i9 v5)] [] d (k_X11_pour_0_c92 v1 v2 v3 v4 v5 d)) : ∀ (v1 v2 v3 v4 v5 : Int) (d : D9), SS G X 6 3 18 92 [(0, rf G 0), (1, i9 v1), (2, i9 v2), (3, i9 v3), (4, i9 v4), (5, i9 v5)] [] d (b_X11_pour_0_c92 k_X11_pour_0_c92 v1 v2 v3 v4 v5 d) := by
  intro v1 v2 v3 v4 v5 d
  unfold b_X11_pour_0_c92
  refine r_iload C 5 dX11_pour_92 rfl ?_
  refine r_iconst C dX11_pour_94 ?_
  refine r_iadd C dX11_pour_95 ?_
  refine r_iload_n C 3 dX11_pour_96 rfl rfl ?_
  refine r_icmp_ge C 159 dX11_pour_97 (by decide) (fun _ => ?_) (fun _ => ?_)
  · refine r_iload C 4 dX11_pour_159 rfl ?_
    exact r_iret C dX11_pour_161 (by decide) (by decide)
  · refine r_aload_n C 0 dX11_pour_100 rfl rfl ?_
    refine r_getR C 1 dX11_pour_101 fl_X11_10 la_0 ly_0 rfl rfl ?_
    refine r_getR C 9 dX11_pour_104 fl_X11_122 la_1 ly_1 rfl rfl ?_
    refine r_iload_n C 1 dX11_pour_107 rfl rfl ?_
    refine r_aload_n C 0 dX11_pour_108 rfl rfl ?_
    refine r_getR C 54 dX11_pour_109 fl_X11_62 la_0 ly_0 rfl rfl ?_
    refine r_iload_n C 2 dX11_pour_112 rfl rfl ?_
    refine r_iload C 5 dX11_pour_113 rfl ?_
    refine r_callV C [i9 v5, i9 v2, rf G 54, i9 v1, rf G 9] dX11_pour_115 (t_X9_numberAt_54 C.h1 C.h2 v2 v5 d) mw_X11_360 mv_X9_numberAt la_54 ly_54 rfl (by decide) (by decide) (by decide) rfl rfl (Nat.le_of_ble_eq_true rfl) (fun r1 d2 => ?_)
    show SS G X 6 _ _ 118 [(0, rf G 0), (1, i9 v1), (2, i9 v2), (3, i9 v3), (4, i9 v4), (5, i9 v5)] [i9 r1, i9 v1, rf G 9] d2 _
    refine r_aload_n C 0 dX11_pour_118 rfl rfl ?_
    refine r_getR C 54 dX11_pour_119 fl_X11_62 la_0 ly_0 rfl rfl ?_
    refine r_iload_n C 2 dX11_pour_122 rfl rfl ?_
    refine r_iload C 5 dX11_pour_123 rfl ?_
    refine r_iconst C dX11_pour_125 ?_
    refine r_iadd C dX11_pour_126 ?_
    refine r_callV C [i9 (v5 + 1), i9 v2, rf G 54, i9 r1, i9 v1, rf G 9] dX11_pour_127 (t_X9_numberAt_54 C.h1 C.h2 v2 (v5 + 1) d2) mw_X11_360 mv_X9_numberAt la_54 ly_54 rfl (by decide) (by decide) (by decide) rfl rfl (Nat.le_of_ble_eq_true rfl) (fun r3 d4 => ?_)
    show SS G X 6 _ _ 130 [(0, rf G 0), (1, i9 v1), (2, i9 v2), (3, i9 v3), (4, i9 v4), (5, i9 v5)] [i9 r3, i9 r1, i9 v1, rf G 9] d4 _
    refine r_aload_n C 0 dX11_pour_130 rfl rfl ?_
    refine r_getR C 54 dX11_pour_131 fl_X11_62 la_0 ly_0 rfl rfl ?_
    refine r_iload_n C 2 dX11_pour_134 rfl rfl ?_
    refine r_iload C 5 dX11_pour_135 rfl ?_
    refine r_iconst C dX11_pour_137 ?_
    refine r_iadd C dX11_pour_138 ?_
    refine r_callV C [i9 (v5 + 2), i9 v2, rf G 54, i9 r3, i9 r1, i9 v1, rf G 9] dX11_pour_139 (t_X9_numberAt_54 C.h1 C.h2 v2 (v5 + 2) d4) mw_X11_360 mv_X9_numberAt la_54 ly_54 rfl (by decide) (by decide) (by decide) rfl rfl (Nat.le_of_ble_eq_true rfl) (fun r5 d6 => ?_)
    show SS G X 6 _ _ 142 [(0, rf G 0), (1, i9 v1), (2, i9 v2), (3, i9 v3), (4, i9 v4), (5, i9 v5)] [i9 r5, i9 r3, i9 r1, i9 v1, rf G 9] d6 _
    refine r_aload_n C 0 dX11_pour_142 rfl rfl ?_
    refine r_getR C 1 dX11_pour_143 fl_X11_10 la_0 ly_0 rfl rfl ?_
    refine r_getR C 22 dX11_pour_146 fl_X11_137 la_1 ly_1 rfl rfl ?_
    refine r_callV C [rf G 22, i9 r5, i9 r3, i9 r1, i9 v1, rf G 9] dX11_pour_149 (t_X6_addLayer_9_22 C.h1 C.h2 v1 r1 r3 r5 d6) mw_X11_140 mv_X6_addLayer la_9 ly_9 rfl (by decide) (by decide) (by decide) rfl rfl (Nat.le_of_ble_eq_true rfl) (fun r7 d8 => ?_)
    show SS G X 6 _ _ 152 [(0, rf G 0), (1, i9 v1), (2, i9 v2), (3, i9 v3), (4, i9 v4), (5, i9 v5)] [i9 r7] d8 _
    refine r_pop C dX11_pour_152 rfl ?_
    refine r_iinc C 5 [(5, i9 (v5 + 3)), (0, rf G 0), (1, i9 v1), (2, i9 v2), (3, i9 v3), (4, i9 v4)] dX11_pour_153 rfl (by decide) rfl ?_
    refine r_goto C 92 dX11_pour_156 (by decide) ?_
    refine ss_wide (k' := 3) (n' := 18) (by decide) (by decide) ?_
    refine ss_ls [(0, rf G 0), (1, i9 v1), (2, i9 v2), (3, i9 v3), (4, i9 v4), (5, i9 (v5 + 3))] [1, 2, 3, 4, 5, 0] rfl ?_
    exact hk_X11_pour_0_c92 v1 v2 v3 v4 (v5 + 3) d8
theorem s_X11_pour_0_c92 {G : G9} {X : X9} (C : CX G X cX11_pour 6 RX11 [] z_X11_pour_0) : ∀ (v1 v2 v3 v4 v5 : Int) (d : D9), SS G X 6 3 18 92 [(0, rf G 0), (1, i9 v1), (2, i9 v2), (3, i9 v3), (4, i9 v4), (5, i9 v5)] [] d (m_X11_pour_0_c92  v1 v2 v3 v4 v5 d) :=
  fix9_ind (P := fun k => ∀ (v1 v2 v3 v4 v5 : Int) (d : D9), SS G X 6 3 18 92 [(0, rf G 0), (1, i9 v1), (2, i9 v2), (3, i9 v3), (4, i9 v4), (5, i9 v5)] [] d (k v1 v2 v3 v4 v5 d)) (fun _ _ _ _ _ _ => ss_none) (fun k hk => sb_X11_pour_0_c92 C k hk) FU
set_option maxRecDepth 100000 in
theorem t_X11_pour_0 {G : G9} {l : Launch} (h1 : va_D (A9 G) (wl G (fun _ _ => 0))) (h2 : l.stackTraces = false) (p1 p2 : Int) (d : D9) : MT G l yX11_pour cX11_pour 6 z_X11_pour_0 [rf G 0, i9 p1, i9 p2] d (m_X11_pour_0 p1 p2 d) := by
  refine mt_of (own := RX11) (by decide) rfl (Nat.le_of_ble_eq_true rfl) h1 h2 [(0, rf G 0), (1, i9 p1), (2, i9 p2)] rfl (fun X hX C => ?_)
  unfold m_X11_pour_0
  refine r_aload_n C 0 dX11_pour_0 rfl rfl ?_
  refine r_iload_n C 1 dX11_pour_1 rfl rfl ?_
  refine r_callV C [i9 p1, rf G 0] dX11_pour_2 (t_X11_askSkin_0 C.h1 C.h2 p1 d) mw_X11_131 mv_X11_askSkin la_0 ly_0 rfl (by decide) (by decide) (by decide) rfl rfl (Nat.le_of_ble_eq_true rfl) (fun r1 d2 => ?_)
  show SS G X 6 _ _ 5 [(0, rf G 0), (1, i9 p1), (2, i9 p2)] [] d2 _
  refine r_aload_n C 0 dX11_pour_5 rfl rfl ?_
  refine r_iload_n C 2 dX11_pour_6 rfl rfl ?_
  refine r_callV C [i9 p2, rf G 0] dX11_pour_7 (t_X11_askFilledTray_0 C.h1 C.h2 p2 d2) mw_X11_342 mv_X11_askFilledTray la_0 ly_0 rfl (by decide) (by decide) (by decide) rfl rfl (Nat.le_of_ble_eq_true rfl) (fun r3 d4 => ?_)
  show SS G X 6 _ _ 10 [(0, rf G 0), (1, i9 p1), (2, i9 p2)] [] d4 _
  refine r_aload_n C 0 dX11_pour_10 rfl rfl ?_
  refine r_getR C 54 dX11_pour_11 fl_X11_62 la_0 ly_0 rfl rfl ?_
  refine r_getR C 56 dX11_pour_14 fl_X11_345 la_54 ly_54 rfl rfl ?_
  refine r_iload_n C 2 dX11_pour_17 rfl rfl ?_
  refine r_iald C dX11_pour_18 la_56 ly_56 (fun t5 => ?_)
  refine r_istore_n C [(3, i9 t5), (0, rf G 0), (1, i9 p1), (2, i9 p2)] dX11_pour_19 rfl (by decide) rfl ?_
  refine r_iload_n C 0 dX11_pour_20 rfl rfl ?_
  refine r_iconst C dX11_pour_21 ?_
  refine r_irem C dX11_pour_22 (by decide) ?_
  refine r_if_eq C (b := 0) 37 dX11_pour_23 (by decide) (fun _ => ?_) (fun _ => ?_)
  · refine r_aload_n C 1 dX11_pour_37 rfl rfl ?_
    refine r_getR C 54 dX11_pour_38 fl_X11_62 la_0 ly_0 rfl rfl ?_
    refine r_iload_n C 3 dX11_pour_41 rfl rfl ?_
    refine r_lconst C dX11_pour_42 (a := 0) rfl ?_
    refine r_ldcL C dX11_pour_43 kc_X11_420 ?_
    refine r_callV C [l9 9999, l9 0, i9 p2, rf G 54] dX11_pour_46 (t_X9_allWithin_54 C.h1 C.h2 p2 0 9999 d4) mw_X11_350 mv_X9_allWithin la_54 ly_54 rfl (by decide) (by decide) (by decide) rfl rfl (Nat.le_of_ble_eq_true rfl) (fun r6 d7 => ?_)
    show SS G X 6 _ _ 49 [(3, i9 t5), (0, rf G 0), (1, i9 p1), (2, i9 p2)] [i9 r6] d7 _
    refine r_if_ne C (b := 0) 63 dX11_pour_49 (by decide) (fun _ => ?_) (fun _ => ?_)
    · refine r_iload_n C 0 dX11_pour_63 rfl rfl ?_
      refine r_iconst C dX11_pour_64 ?_
      refine r_idiv C dX11_pour_65 (by decide) ?_
      refine ss_lt (fun a8 => ?_)
      refine r_istore C [(4, i9 a8), (3, i9 t5), (0, rf G 0), (1, i9 p1), (2, i9 p2)] dX11_pour_66 (by decide) rfl ?_
      refine r_aload_n C 2 dX11_pour_68 rfl rfl ?_
      refine r_getR C 1 dX11_pour_69 fl_X11_10 la_0 ly_0 rfl rfl ?_
      refine r_getR C 9 dX11_pour_72 fl_X11_122 la_1 ly_1 rfl rfl ?_
      refine r_getR C 14 dX11_pour_75 fl_X11_134 la_9 ly_9 rfl rfl ?_
      refine r_iload_n C 3 dX11_pour_78 rfl rfl ?_
      refine r_iald C dX11_pour_79 la_14 ly_14 (fun t9 => ?_)
      refine r_iload C 0 dX11_pour_80 rfl ?_
      refine r_iadd C dX11_pour_82 ?_
      refine r_iconst C dX11_pour_83 ?_
      refine r_icmp_le C 89 dX11_pour_84 (by decide) (fun _ => ?_) (fun _ => ?_)
      · refine r_iconst C dX11_pour_89 ?_
        refine r_istore C [(5, i9 0), (4, i9 a8), (3, i9 t5), (0, rf G 0), (1, i9 p1), (2, i9 p2)] dX11_pour_90 (by decide) rfl ?_
        refine ss_wide (k' := 3) (n' := 18) (by decide) (by decide) ?_
        refine ss_ls [(0, rf G 0), (1, i9 p1), (2, i9 p2), (3, i9 t5), (4, i9 a8), (5, i9 0)] [3, 4, 5, 2, 1, 0] rfl ?_
        exact s_X11_pour_0_c92 C  p1 p2 t5 a8 0 d7
      · refine r_iconst C dX11_pour_87 ?_
        exact r_iret C dX11_pour_88 (by decide) (by decide)
    · exact r_throwW C (e := 0) 12 rfl tw_0_113 tc_0 dX11_pour_52 dX11_pour_55 dX11_pour_56 dX11_pour_59 dX11_pour_62 (by decide) (by decide) (by decide) (by decide)
  · exact r_throwW C (e := 3) 11 rfl tw_3_414 tc_3 dX11_pour_26 dX11_pour_29 dX11_pour_30 dX11_pour_33 dX11_pour_36 (by decide) (by decide) (by decide) (by decide)
abbrev z_X11_copyRow_65_3 : Z9 := (none, 0, 0, 0, 2, 200)
def m_X11_copyRow_65_3 (d : D9) : Option R9 := cp9 d 65 30 3 30 (min9 30 30) (fun d1 => rt 0 d1)
set_option maxRecDepth 100000 in
theorem t_X11_copyRow_65_3 {G : G9} {l : Launch} (h1 : va_D (A9 G) (wl G (fun _ _ => 0))) (h2 : l.stackTraces = false) (d : D9) : MT G l yX11_copyRow cX11_copyRow 2 z_X11_copyRow_65_3 [rf G 65, rf G 3] d (m_X11_copyRow_65_3  d) := by
  refine mt_of (own := RX11) (by decide) rfl (Nat.le_of_ble_eq_true rfl) h1 h2 [(0, rf G 65), (1, rf G 3)] rfl (fun X hX C => ?_)
  unfold m_X11_copyRow_65_3
  refine r_aload_n C 0 dX11_copyRow_0 rfl rfl ?_
  refine r_iconst C dX11_copyRow_1 ?_
  refine r_aload_n C 1 dX11_copyRow_2 rfl rfl ?_
  refine r_iconst C dX11_copyRow_3 ?_
  refine r_aload_n C 0 dX11_copyRow_4 rfl rfl ?_
  refine r_alen C dX11_copyRow_5 la_65 ly_65 ?_
  refine r_aload_n C 1 dX11_copyRow_6 rfl rfl ?_
  refine r_alen C dX11_copyRow_7 la_3 ly_3 ?_
  refine r_mmin C dX11_copyRow_8 mm_X11_465 ⟨Nat.le_of_ble_eq_true rfl, Nat.le_of_ble_eq_true rfl⟩ (by decide) (by decide) ?_
  refine r_acopy C dX11_copyRow_11 aw_X11_470 la_65 ly_65 la_3 ly_3 (by decide) (Nat.le_of_ble_eq_true rfl) (fun d1 => ?_)
  exact r_vret C dX11_copyRow_14 (by decide) (by decide)
theorem n_X11_copyRow_65_3 (d : D9) : NT9 (m_X11_copyRow_65_3  d) := by
  unfold m_X11_copyRow_65_3
  repeat (first | exact nt_rt | exact nt_none | apply nt_if | refine nt_cl ?_ (fun _ _ => ?_) | refine nt_cp9 (fun _ => ?_))
abbrev z_X11_copyRow_66_4 : Z9 := (none, 0, 0, 0, 2, 200)
def m_X11_copyRow_66_4 (d : D9) : Option R9 := cp9 d 66 30 4 30 (min9 30 30) (fun d1 => rt 0 d1)
set_option maxRecDepth 100000 in
theorem t_X11_copyRow_66_4 {G : G9} {l : Launch} (h1 : va_D (A9 G) (wl G (fun _ _ => 0))) (h2 : l.stackTraces = false) (d : D9) : MT G l yX11_copyRow cX11_copyRow 2 z_X11_copyRow_66_4 [rf G 66, rf G 4] d (m_X11_copyRow_66_4  d) := by
  refine mt_of (own := RX11) (by decide) rfl (Nat.le_of_ble_eq_true rfl) h1 h2 [(0, rf G 66), (1, rf G 4)] rfl (fun X hX C => ?_)
  unfold m_X11_copyRow_66_4
  refine r_aload_n C 0 dX11_copyRow_0 rfl rfl ?_
  refine r_iconst C dX11_copyRow_1 ?_
  refine r_aload_n C 1 dX11_copyRow_2 rfl rfl ?_
  refine r_iconst C dX11_copyRow_3 ?_
  refine r_aload_n C 0 dX11_copyRow_4 rfl rfl ?_
  refine r_alen C dX11_copyRow_5 la_66 ly_66 ?_
  refine r_aload_n C 1 dX11_copyRow_6 rfl rfl ?_
  refine r_alen C dX11_copyRow_7 la_4 ly_4 ?_
  refine r_mmin C dX11_copyRow_8 mm_X11_465 ⟨Nat.le_of_ble_eq_true rfl, Nat.le_of_ble_eq_true rfl⟩ (by decide) (by decide) ?_
  refine r_acopy C dX11_copyRow_11 aw_X11_470 la_66 ly_66 la_4 ly_4 (by decide) (Nat.le_of_ble_eq_true rfl) (fun d1 => ?_)
  exact r_vret C dX11_copyRow_14 (by decide) (by decide)
theorem n_X11_copyRow_66_4 (d : D9) : NT9 (m_X11_copyRow_66_4  d) := by
  unfold m_X11_copyRow_66_4
  repeat (first | exact nt_rt | exact nt_none | apply nt_if | refine nt_cl ?_ (fun _ _ => ?_) | refine nt_cp9 (fun _ => ?_))

theorem dL_above_0 : decode cL_above 0 = .ok (.aload_n 3, 1) := by decide +kernel
theorem dL_above_1 : decode cL_above 1 = .ok (.iconst 0, 1) := by decide +kernel
theorem dL_above_2 : decode cL_above 2 = .ok (.aload_n 0, 1) := by decide +kernel
theorem dL_above_3 : decode cL_above 3 = .ok (.iload_n 1, 1) := by decide +kernel
theorem dL_above_4 : decode cL_above 4 = .ok (.iload_n 2, 1) := by decide +kernel
theorem dL_above_5 : decode cL_above 5 = .ok (.invokevirtual 81, 3) := by decide +kernel
theorem dL_above_8 : decode cL_above 8 = .ok (.ifCond .eq 7, 3) := by decide +kernel
theorem dL_above_11 : decode cL_above 11 = .ok (.lconst 1, 1) := by decide +kernel
theorem dL_above_12 : decode cL_above 12 = .ok (.goto 4, 3) := by decide +kernel
theorem dL_above_15 : decode cL_above 15 = .ok (.lconst 0, 1) := by decide +kernel
theorem dL_above_16 : decode cL_above 16 = .ok (.lastore, 1) := by decide +kernel
theorem dL_above_17 : decode cL_above 17 = .ok (.goto 7, 3) := by decide +kernel
theorem dL_above_20 : decode cL_above 20 = .ok (.astore 4, 2) := by decide +kernel
theorem dL_above_22 : decode cL_above 22 = .ok (.iconst 1, 1) := by decide +kernel
theorem dL_above_23 : decode cL_above 23 = .ok (.ireturn, 1) := by decide +kernel
theorem dL_above_24 : decode cL_above 24 = .ok (.iconst 0, 1) := by decide +kernel
theorem dL_above_25 : decode cL_above 25 = .ok (.ireturn, 1) := by decide +kernel
abbrev z_L_above : Z9 := (some .int, 1, 2, 12, 8, 143)
def m_L_above (p1 p2 : Int) (d : D9) : Option R9 := tc9 (m_X11_above_0 p1 p2 d) (fun r1 d2 => if w32 r1 = 0 then sd d2 194 1 0 0 (fun d3 => rt 0 d3) else sd d2 194 1 0 1 (fun d4 => rt 0 d4)) (fun e d => if e = 2 then rt 1 d else none)
set_option maxRecDepth 100000 in
theorem t_L_above {G : G9} {l : Launch} (h1 : va_D (A9 G) (wl G (fun _ _ => 0))) (h2 : l.stackTraces = false) (p1 p2 : Int) (d : D9) : MH G l yL_above cL_above 5 [(0, 17, 20, 19)] z_L_above [rf G 0, i9 p1, i9 p2, rf G 194] d (m_L_above p1 p2 d) := by
  refine mh_of (own := RL) (by decide) rfl (Nat.le_of_ble_eq_true rfl) h1 h2 [(0, rf G 0), (1, i9 p1), (2, i9 p2), (3, rf G 194)] rfl (fun X hX C hNc => ?_)
  unfold m_L_above
  refine r_aload_n C 3 dL_above_0 rfl rfl ?_
  refine r_iconst C dL_above_1 ?_
  refine r_aload_n C 0 dL_above_2 rfl rfl ?_
  refine r_iload_n C 1 dL_above_3 rfl rfl ?_
  refine r_iload_n C 2 dL_above_4 rfl rfl ?_
  refine r_callC C [i9 p2, i9 p1, rf G 0, i9 0, rf G 194] dL_above_5 (t_X11_above_0 C.h1 C.h2 p1 p2 d) mw_L_81 mv_X11_above la_0 ly_0 rfl (by decide) (by decide) (by decide) rfl rfl (Nat.le_of_ble_eq_true rfl) (fun e d => by
      by_cases q0 : e = 2
      · rw [if_pos q0]; subst q0; exact sx_catch C hNc (by decide) [] ⟨0, 17, 20, 19⟩ [] rfl (fun _ h => nomatch h) rfl (by decide) clk_19 cst_2 (r_hand C dL_above_20 dL_above_22 dL_above_23 (by decide) (by decide) (by decide))
      rw [if_neg q0]
      exact sx_none) (fun r1 d2 => ?_)
  show SS G X 5 _ _ 8 [(0, rf G 0), (1, i9 p1), (2, i9 p2), (3, rf G 194)] [i9 r1, i9 0, rf G 194] d2 _
  refine r_if_eq C (b := 0) 15 dL_above_8 (by decide) (fun _ => ?_) (fun _ => ?_)
  · refine r_lconst C dL_above_15 (a := 0) rfl ?_
    refine r_last C dL_above_16 la_194 ly_194 (fun d3 => ?_)
    refine r_goto C 24 dL_above_17 (by decide) ?_
    refine r_iconst C dL_above_24 ?_
    exact r_iret C dL_above_25 (by decide) (by decide)
  · refine r_lconst C dL_above_11 (a := 1) rfl ?_
    refine r_goto C 16 dL_above_12 (by decide) ?_
    refine r_last C dL_above_16 la_194 ly_194 (fun d4 => ?_)
    refine r_goto C 24 dL_above_17 (by decide) ?_
    refine r_iconst C dL_above_24 ?_
    exact r_iret C dL_above_25 (by decide) (by decide)
theorem dL_age_0 : decode cL_age 0 = .ok (.aload 5, 2) := by decide +kernel
theorem dL_age_2 : decode cL_age 2 = .ok (.iconst 0, 1) := by decide +kernel
theorem dL_age_3 : decode cL_age 3 = .ok (.aload_n 0, 1) := by decide +kernel
theorem dL_age_4 : decode cL_age 4 = .ok (.iload_n 1, 1) := by decide +kernel
theorem dL_age_5 : decode cL_age 5 = .ok (.iload_n 2, 1) := by decide +kernel
theorem dL_age_6 : decode cL_age 6 = .ok (.iload_n 3, 1) := by decide +kernel
theorem dL_age_7 : decode cL_age 7 = .ok (.iload 4, 2) := by decide +kernel
theorem dL_age_9 : decode cL_age 9 = .ok (.invokevirtual 48, 3) := by decide +kernel
theorem dL_age_12 : decode cL_age 12 = .ok (.i2l, 1) := by decide +kernel
theorem dL_age_13 : decode cL_age 13 = .ok (.lastore, 1) := by decide +kernel
theorem dL_age_14 : decode cL_age 14 = .ok (.goto 7, 3) := by decide +kernel
theorem dL_age_17 : decode cL_age 17 = .ok (.astore 6, 2) := by decide +kernel
theorem dL_age_19 : decode cL_age 19 = .ok (.iconst 1, 1) := by decide +kernel
theorem dL_age_20 : decode cL_age 20 = .ok (.ireturn, 1) := by decide +kernel
theorem dL_age_21 : decode cL_age 21 = .ok (.iconst 0, 1) := by decide +kernel
theorem dL_age_22 : decode cL_age 22 = .ok (.ireturn, 1) := by decide +kernel
abbrev z_L_age : Z9 := (some .int, 1, 4, 24, 8, 157)
def m_L_age (p1 p2 p3 p4 : Int) (d : D9) : Option R9 := tc9 (m_X11_age_0 p1 p2 p3 p4 d) (fun r1 d2 => sd d2 194 1 0 (w32 r1) (fun d3 => rt 0 d3)) (fun e d => if e = 0 then rt 1 d else none)
set_option maxRecDepth 100000 in
theorem t_L_age {G : G9} {l : Launch} (h1 : va_D (A9 G) (wl G (fun _ _ => 0))) (h2 : l.stackTraces = false) (p1 p2 p3 p4 : Int) (d : D9) : MH G l yL_age cL_age 7 [(0, 14, 17, 13)] z_L_age [rf G 0, i9 p1, i9 p2, i9 p3, i9 p4, rf G 194] d (m_L_age p1 p2 p3 p4 d) := by
  refine mh_of (own := RL) (by decide) rfl (Nat.le_of_ble_eq_true rfl) h1 h2 [(0, rf G 0), (1, i9 p1), (2, i9 p2), (3, i9 p3), (4, i9 p4), (5, rf G 194)] rfl (fun X hX C hNc => ?_)
  unfold m_L_age
  refine r_aload C 5 dL_age_0 rfl ?_
  refine r_iconst C dL_age_2 ?_
  refine r_aload_n C 0 dL_age_3 rfl rfl ?_
  refine r_iload_n C 1 dL_age_4 rfl rfl ?_
  refine r_iload_n C 2 dL_age_5 rfl rfl ?_
  refine r_iload_n C 3 dL_age_6 rfl rfl ?_
  refine r_iload C 4 dL_age_7 rfl ?_
  refine r_callC C [i9 p4, i9 p3, i9 p2, i9 p1, rf G 0, i9 0, rf G 194] dL_age_9 (t_X11_age_0 C.h1 C.h2 p1 p2 p3 p4 d) mw_L_48 mv_X11_age la_0 ly_0 rfl (by decide) (by decide) (by decide) rfl rfl (Nat.le_of_ble_eq_true rfl) (fun e d => by
      by_cases q0 : e = 0
      · rw [if_pos q0]; subst q0; exact sx_catch C hNc (by decide) [] ⟨0, 14, 17, 13⟩ [] rfl (fun _ h => nomatch h) rfl (by decide) clk_13 cst_0 (r_hand C dL_age_17 dL_age_19 dL_age_20 (by decide) (by decide) (by decide))
      rw [if_neg q0]
      exact sx_none) (fun r1 d2 => ?_)
  show SS G X 7 _ _ 12 [(0, rf G 0), (1, i9 p1), (2, i9 p2), (3, i9 p3), (4, i9 p4), (5, rf G 194)] [i9 r1, i9 0, rf G 194] d2 _
  refine r_i2l C dL_age_12 ?_
  refine r_last C dL_age_13 la_194 ly_194 (fun d3 => ?_)
  refine r_goto C 21 dL_age_14 (by decide) ?_
  refine r_iconst C dL_age_21 ?_
  exact r_iret C dL_age_22 (by decide) (by decide)
theorem dL_alone_0 : decode cL_alone 0 = .ok (.aload_n 3, 1) := by decide +kernel
theorem dL_alone_1 : decode cL_alone 1 = .ok (.iconst 0, 1) := by decide +kernel
theorem dL_alone_2 : decode cL_alone 2 = .ok (.aload_n 0, 1) := by decide +kernel
theorem dL_alone_3 : decode cL_alone 3 = .ok (.iload_n 1, 1) := by decide +kernel
theorem dL_alone_4 : decode cL_alone 4 = .ok (.iload_n 2, 1) := by decide +kernel
theorem dL_alone_5 : decode cL_alone 5 = .ok (.invokevirtual 125, 3) := by decide +kernel
theorem dL_alone_8 : decode cL_alone 8 = .ok (.i2l, 1) := by decide +kernel
theorem dL_alone_9 : decode cL_alone 9 = .ok (.lastore, 1) := by decide +kernel
theorem dL_alone_10 : decode cL_alone 10 = .ok (.goto 11, 3) := by decide +kernel
theorem dL_alone_13 : decode cL_alone 13 = .ok (.astore 4, 2) := by decide +kernel
theorem dL_alone_15 : decode cL_alone 15 = .ok (.iconst 1, 1) := by decide +kernel
theorem dL_alone_16 : decode cL_alone 16 = .ok (.ireturn, 1) := by decide +kernel
theorem dL_alone_17 : decode cL_alone 17 = .ok (.astore 4, 2) := by decide +kernel
theorem dL_alone_19 : decode cL_alone 19 = .ok (.iconst 2, 1) := by decide +kernel
theorem dL_alone_20 : decode cL_alone 20 = .ok (.ireturn, 1) := by decide +kernel
theorem dL_alone_21 : decode cL_alone 21 = .ok (.iconst 0, 1) := by decide +kernel
theorem dL_alone_22 : decode cL_alone 22 = .ok (.ireturn, 1) := by decide +kernel
abbrev z_L_alone : Z9 := (some .int, 1, 2, 12, 8, 152)
def m_L_alone (p1 p2 : Int) (d : D9) : Option R9 := tc9 (m_X11_alone_0 p1 p2 d) (fun r1 d2 => sd d2 194 1 0 (w32 r1) (fun d3 => rt 0 d3)) (fun e d => if e = 2 then rt 1 d else if e = 0 then rt 2 d else none)
set_option maxRecDepth 100000 in
theorem t_L_alone {G : G9} {l : Launch} (h1 : va_D (A9 G) (wl G (fun _ _ => 0))) (h2 : l.stackTraces = false) (p1 p2 : Int) (d : D9) : MH G l yL_alone cL_alone 5 [(0, 10, 13, 19), (0, 10, 17, 13)] z_L_alone [rf G 0, i9 p1, i9 p2, rf G 194] d (m_L_alone p1 p2 d) := by
  refine mh_of (own := RL) (by decide) rfl (Nat.le_of_ble_eq_true rfl) h1 h2 [(0, rf G 0), (1, i9 p1), (2, i9 p2), (3, rf G 194)] rfl (fun X hX C hNc => ?_)
  unfold m_L_alone
  refine r_aload_n C 3 dL_alone_0 rfl rfl ?_
  refine r_iconst C dL_alone_1 ?_
  refine r_aload_n C 0 dL_alone_2 rfl rfl ?_
  refine r_iload_n C 1 dL_alone_3 rfl rfl ?_
  refine r_iload_n C 2 dL_alone_4 rfl rfl ?_
  refine r_callC C [i9 p2, i9 p1, rf G 0, i9 0, rf G 194] dL_alone_5 (t_X11_alone_0 C.h1 C.h2 p1 p2 d) mw_L_125 mv_X11_alone la_0 ly_0 rfl (by decide) (by decide) (by decide) rfl rfl (Nat.le_of_ble_eq_true rfl) (fun e d => by
      by_cases q0 : e = 2
      · rw [if_pos q0]; subst q0; exact sx_catch C hNc (by decide) [] ⟨0, 10, 13, 19⟩ [⟨0, 10, 17, 13⟩] rfl (fun _ h => nomatch h) rfl (by decide) clk_19 cst_2 (r_hand C dL_alone_13 dL_alone_15 dL_alone_16 (by decide) (by decide) (by decide))
      rw [if_neg q0]
      by_cases q1 : e = 0
      · rw [if_pos q1]; subst q1; exact sx_catch C hNc (by decide) [⟨0, 10, 13, 19⟩] ⟨0, 10, 17, 13⟩ [] rfl (List.forall_mem_cons.mpr ⟨⟨by decide, 2, by decide, by decide, clk_19⟩, fun _ h => nomatch h⟩) rfl (by decide) clk_13 cst_0 (r_hand C dL_alone_17 dL_alone_19 dL_alone_20 (by decide) (by decide) (by decide))
      rw [if_neg q1]
      exact sx_none) (fun r1 d2 => ?_)
  show SS G X 5 _ _ 8 [(0, rf G 0), (1, i9 p1), (2, i9 p2), (3, rf G 194)] [i9 r1, i9 0, rf G 194] d2 _
  refine r_i2l C dL_alone_8 ?_
  refine r_last C dL_alone_9 la_194 ly_194 (fun d3 => ?_)
  refine r_goto C 21 dL_alone_10 (by decide) ?_
  refine r_iconst C dL_alone_21 ?_
  exact r_iret C dL_alone_22 (by decide) (by decide)
theorem dL_behind_0 : decode cL_behind 0 = .ok (.aload_n 2, 1) := by decide +kernel
theorem dL_behind_1 : decode cL_behind 1 = .ok (.iconst 0, 1) := by decide +kernel
theorem dL_behind_2 : decode cL_behind 2 = .ok (.aload_n 0, 1) := by decide +kernel
theorem dL_behind_3 : decode cL_behind 3 = .ok (.iload_n 1, 1) := by decide +kernel
theorem dL_behind_4 : decode cL_behind 4 = .ok (.invokevirtual 140, 3) := by decide +kernel
theorem dL_behind_7 : decode cL_behind 7 = .ok (.i2l, 1) := by decide +kernel
theorem dL_behind_8 : decode cL_behind 8 = .ok (.lastore, 1) := by decide +kernel
theorem dL_behind_9 : decode cL_behind 9 = .ok (.goto 6, 3) := by decide +kernel
theorem dL_behind_12 : decode cL_behind 12 = .ok (.astore_n 3, 1) := by decide +kernel
theorem dL_behind_13 : decode cL_behind 13 = .ok (.iconst 1, 1) := by decide +kernel
theorem dL_behind_14 : decode cL_behind 14 = .ok (.ireturn, 1) := by decide +kernel
theorem dL_behind_15 : decode cL_behind 15 = .ok (.iconst 0, 1) := by decide +kernel
theorem dL_behind_16 : decode cL_behind 16 = .ok (.ireturn, 1) := by decide +kernel
abbrev z_L_behind : Z9 := (some .int, 1, 1, 6, 8, 172)
def m_L_behind (p1 : Int) (d : D9) : Option R9 := tc9 (m_X11_behind_0 p1 d) (fun r1 d2 => sd d2 194 1 0 (w32 r1) (fun d3 => rt 0 d3)) (fun e d => if e = 0 then rt 1 d else none)
set_option maxRecDepth 100000 in
theorem t_L_behind {G : G9} {l : Launch} (h1 : va_D (A9 G) (wl G (fun _ _ => 0))) (h2 : l.stackTraces = false) (p1 : Int) (d : D9) : MH G l yL_behind cL_behind 4 [(0, 9, 12, 13)] z_L_behind [rf G 0, i9 p1, rf G 194] d (m_L_behind p1 d) := by
  refine mh_of (own := RL) (by decide) rfl (Nat.le_of_ble_eq_true rfl) h1 h2 [(0, rf G 0), (1, i9 p1), (2, rf G 194)] rfl (fun X hX C hNc => ?_)
  unfold m_L_behind
  refine r_aload_n C 2 dL_behind_0 rfl rfl ?_
  refine r_iconst C dL_behind_1 ?_
  refine r_aload_n C 0 dL_behind_2 rfl rfl ?_
  refine r_iload_n C 1 dL_behind_3 rfl rfl ?_
  refine r_callC C [i9 p1, rf G 0, i9 0, rf G 194] dL_behind_4 (t_X11_behind_0 C.h1 C.h2 p1 d) mw_L_140 mv_X11_behind la_0 ly_0 rfl (by decide) (by decide) (by decide) rfl rfl (Nat.le_of_ble_eq_true rfl) (fun e d => by
      by_cases q0 : e = 0
      · rw [if_pos q0]; subst q0; exact sx_catch C hNc (by decide) [] ⟨0, 9, 12, 13⟩ [] rfl (fun _ h => nomatch h) rfl (by decide) clk_13 cst_0 (r_hand_n C dL_behind_12 dL_behind_13 dL_behind_14 rfl (by decide) (by decide) (by decide))
      rw [if_neg q0]
      exact sx_none) (fun r1 d2 => ?_)
  show SS G X 4 _ _ 7 [(0, rf G 0), (1, i9 p1), (2, rf G 194)] [i9 r1, i9 0, rf G 194] d2 _
  refine r_i2l C dL_behind_7 ?_
  refine r_last C dL_behind_8 la_194 ly_194 (fun d3 => ?_)
  refine r_goto C 15 dL_behind_9 (by decide) ?_
  refine r_iconst C dL_behind_15 ?_
  exact r_iret C dL_behind_16 (by decide) (by decide)
theorem dL_bent_0 : decode cL_bent 0 = .ok (.aload_n 3, 1) := by decide +kernel
theorem dL_bent_1 : decode cL_bent 1 = .ok (.iconst 0, 1) := by decide +kernel
theorem dL_bent_2 : decode cL_bent 2 = .ok (.aload_n 0, 1) := by decide +kernel
theorem dL_bent_3 : decode cL_bent 3 = .ok (.iload_n 1, 1) := by decide +kernel
theorem dL_bent_4 : decode cL_bent 4 = .ok (.iload_n 2, 1) := by decide +kernel
theorem dL_bent_5 : decode cL_bent 5 = .ok (.invokevirtual 112, 3) := by decide +kernel
theorem dL_bent_8 : decode cL_bent 8 = .ok (.ifCond .eq 7, 3) := by decide +kernel
theorem dL_bent_11 : decode cL_bent 11 = .ok (.lconst 1, 1) := by decide +kernel
theorem dL_bent_12 : decode cL_bent 12 = .ok (.goto 4, 3) := by decide +kernel
theorem dL_bent_15 : decode cL_bent 15 = .ok (.lconst 0, 1) := by decide +kernel
theorem dL_bent_16 : decode cL_bent 16 = .ok (.lastore, 1) := by decide +kernel
theorem dL_bent_17 : decode cL_bent 17 = .ok (.goto 15, 3) := by decide +kernel
theorem dL_bent_20 : decode cL_bent 20 = .ok (.astore 4, 2) := by decide +kernel
theorem dL_bent_22 : decode cL_bent 22 = .ok (.iconst 1, 1) := by decide +kernel
theorem dL_bent_23 : decode cL_bent 23 = .ok (.ireturn, 1) := by decide +kernel
theorem dL_bent_24 : decode cL_bent 24 = .ok (.astore 4, 2) := by decide +kernel
theorem dL_bent_26 : decode cL_bent 26 = .ok (.iconst 2, 1) := by decide +kernel
theorem dL_bent_27 : decode cL_bent 27 = .ok (.ireturn, 1) := by decide +kernel
theorem dL_bent_28 : decode cL_bent 28 = .ok (.astore 4, 2) := by decide +kernel
theorem dL_bent_30 : decode cL_bent 30 = .ok (.iconst 3, 1) := by decide +kernel
theorem dL_bent_31 : decode cL_bent 31 = .ok (.ireturn, 1) := by decide +kernel
theorem dL_bent_32 : decode cL_bent 32 = .ok (.iconst 0, 1) := by decide +kernel
theorem dL_bent_33 : decode cL_bent 33 = .ok (.ireturn, 1) := by decide +kernel
abbrev z_L_bent : Z9 := (some .int, 1, 3, 18, 9, 164)
def m_L_bent (p1 p2 : Int) (d : D9) : Option R9 := tc9 (m_X11_bent_0 p1 p2 d) (fun r1 d2 => if w32 r1 = 0 then sd d2 194 1 0 0 (fun d3 => rt 0 d3) else sd d2 194 1 0 1 (fun d4 => rt 0 d4)) (fun e d => if e = 2 then rt 1 d else if e = 1 then rt 2 d else if e = 0 then rt 3 d else none)
set_option maxRecDepth 100000 in
theorem t_L_bent {G : G9} {l : Launch} (h1 : va_D (A9 G) (wl G (fun _ _ => 0))) (h2 : l.stackTraces = false) (p1 p2 : Int) (d : D9) : MH G l yL_bent cL_bent 5 [(0, 17, 20, 19), (0, 17, 24, 21), (0, 17, 28, 13)] z_L_bent [rf G 0, i9 p1, i9 p2, rf G 194] d (m_L_bent p1 p2 d) := by
  refine mh_of (own := RL) (by decide) rfl (Nat.le_of_ble_eq_true rfl) h1 h2 [(0, rf G 0), (1, i9 p1), (2, i9 p2), (3, rf G 194)] rfl (fun X hX C hNc => ?_)
  unfold m_L_bent
  refine r_aload_n C 3 dL_bent_0 rfl rfl ?_
  refine r_iconst C dL_bent_1 ?_
  refine r_aload_n C 0 dL_bent_2 rfl rfl ?_
  refine r_iload_n C 1 dL_bent_3 rfl rfl ?_
  refine r_iload_n C 2 dL_bent_4 rfl rfl ?_
  refine r_callC C [i9 p2, i9 p1, rf G 0, i9 0, rf G 194] dL_bent_5 (t_X11_bent_0 C.h1 C.h2 p1 p2 d) mw_L_112 mv_X11_bent la_0 ly_0 rfl (by decide) (by decide) (by decide) rfl rfl (Nat.le_of_ble_eq_true rfl) (fun e d => by
      by_cases q0 : e = 2
      · rw [if_pos q0]; subst q0; exact sx_catch C hNc (by decide) [] ⟨0, 17, 20, 19⟩ [⟨0, 17, 24, 21⟩, ⟨0, 17, 28, 13⟩] rfl (fun _ h => nomatch h) rfl (by decide) clk_19 cst_2 (r_hand C dL_bent_20 dL_bent_22 dL_bent_23 (by decide) (by decide) (by decide))
      rw [if_neg q0]
      by_cases q1 : e = 1
      · rw [if_pos q1]; subst q1; exact sx_catch C hNc (by decide) [⟨0, 17, 20, 19⟩] ⟨0, 17, 24, 21⟩ [⟨0, 17, 28, 13⟩] rfl (List.forall_mem_cons.mpr ⟨⟨by decide, 2, by decide, by decide, clk_19⟩, fun _ h => nomatch h⟩) rfl (by decide) clk_21 cst_1 (r_hand C dL_bent_24 dL_bent_26 dL_bent_27 (by decide) (by decide) (by decide))
      rw [if_neg q1]
      by_cases q2 : e = 0
      · rw [if_pos q2]; subst q2; exact sx_catch C hNc (by decide) [⟨0, 17, 20, 19⟩, ⟨0, 17, 24, 21⟩] ⟨0, 17, 28, 13⟩ [] rfl (List.forall_mem_cons.mpr ⟨⟨by decide, 2, by decide, by decide, clk_19⟩, List.forall_mem_cons.mpr ⟨⟨by decide, 1, by decide, by decide, clk_21⟩, fun _ h => nomatch h⟩⟩) rfl (by decide) clk_13 cst_0 (r_hand C dL_bent_28 dL_bent_30 dL_bent_31 (by decide) (by decide) (by decide))
      rw [if_neg q2]
      exact sx_none) (fun r1 d2 => ?_)
  show SS G X 5 _ _ 8 [(0, rf G 0), (1, i9 p1), (2, i9 p2), (3, rf G 194)] [i9 r1, i9 0, rf G 194] d2 _
  refine r_if_eq C (b := 0) 15 dL_bent_8 (by decide) (fun _ => ?_) (fun _ => ?_)
  · refine r_lconst C dL_bent_15 (a := 0) rfl ?_
    refine r_last C dL_bent_16 la_194 ly_194 (fun d3 => ?_)
    refine r_goto C 32 dL_bent_17 (by decide) ?_
    refine r_iconst C dL_bent_32 ?_
    exact r_iret C dL_bent_33 (by decide) (by decide)
  · refine r_lconst C dL_bent_11 (a := 1) rfl ?_
    refine r_goto C 16 dL_bent_12 (by decide) ?_
    refine r_last C dL_bent_16 la_194 ly_194 (fun d4 => ?_)
    refine r_goto C 32 dL_bent_17 (by decide) ?_
    refine r_iconst C dL_bent_32 ?_
    exact r_iret C dL_bent_33 (by decide) (by decide)
theorem dL_bound_0 : decode cL_bound 0 = .ok (.aload_n 3, 1) := by decide +kernel
theorem dL_bound_1 : decode cL_bound 1 = .ok (.iconst 0, 1) := by decide +kernel
theorem dL_bound_2 : decode cL_bound 2 = .ok (.aload_n 0, 1) := by decide +kernel
theorem dL_bound_3 : decode cL_bound 3 = .ok (.iload_n 1, 1) := by decide +kernel
theorem dL_bound_4 : decode cL_bound 4 = .ok (.iload_n 2, 1) := by decide +kernel
theorem dL_bound_5 : decode cL_bound 5 = .ok (.invokevirtual 73, 3) := by decide +kernel
theorem dL_bound_8 : decode cL_bound 8 = .ok (.i2l, 1) := by decide +kernel
theorem dL_bound_9 : decode cL_bound 9 = .ok (.lastore, 1) := by decide +kernel
theorem dL_bound_10 : decode cL_bound 10 = .ok (.goto 7, 3) := by decide +kernel
theorem dL_bound_13 : decode cL_bound 13 = .ok (.astore 4, 2) := by decide +kernel
theorem dL_bound_15 : decode cL_bound 15 = .ok (.iconst 1, 1) := by decide +kernel
theorem dL_bound_16 : decode cL_bound 16 = .ok (.ireturn, 1) := by decide +kernel
theorem dL_bound_17 : decode cL_bound 17 = .ok (.iconst 0, 1) := by decide +kernel
theorem dL_bound_18 : decode cL_bound 18 = .ok (.ireturn, 1) := by decide +kernel
abbrev z_L_bound : Z9 := (some .int, 1, 1, 6, 8, 143)
def m_L_bound (p1 p2 : Int) (d : D9) : Option R9 := tc9 (m_X11_bound_0 p1 p2 d) (fun r1 d2 => sd d2 194 1 0 (w32 r1) (fun d3 => rt 0 d3)) (fun e d => if e = 2 then rt 1 d else none)
set_option maxRecDepth 100000 in
theorem t_L_bound {G : G9} {l : Launch} (h1 : va_D (A9 G) (wl G (fun _ _ => 0))) (h2 : l.stackTraces = false) (p1 p2 : Int) (d : D9) : MH G l yL_bound cL_bound 5 [(0, 10, 13, 19)] z_L_bound [rf G 0, i9 p1, i9 p2, rf G 194] d (m_L_bound p1 p2 d) := by
  refine mh_of (own := RL) (by decide) rfl (Nat.le_of_ble_eq_true rfl) h1 h2 [(0, rf G 0), (1, i9 p1), (2, i9 p2), (3, rf G 194)] rfl (fun X hX C hNc => ?_)
  unfold m_L_bound
  refine r_aload_n C 3 dL_bound_0 rfl rfl ?_
  refine r_iconst C dL_bound_1 ?_
  refine r_aload_n C 0 dL_bound_2 rfl rfl ?_
  refine r_iload_n C 1 dL_bound_3 rfl rfl ?_
  refine r_iload_n C 2 dL_bound_4 rfl rfl ?_
  refine r_callC C [i9 p2, i9 p1, rf G 0, i9 0, rf G 194] dL_bound_5 (t_X11_bound_0 C.h1 C.h2 p1 p2 d) mw_L_73 mv_X11_bound la_0 ly_0 rfl (by decide) (by decide) (by decide) rfl rfl (Nat.le_of_ble_eq_true rfl) (fun e d => by
      by_cases q0 : e = 2
      · rw [if_pos q0]; subst q0; exact sx_catch C hNc (by decide) [] ⟨0, 10, 13, 19⟩ [] rfl (fun _ h => nomatch h) rfl (by decide) clk_19 cst_2 (r_hand C dL_bound_13 dL_bound_15 dL_bound_16 (by decide) (by decide) (by decide))
      rw [if_neg q0]
      exact sx_none) (fun r1 d2 => ?_)
  show SS G X 5 _ _ 8 [(0, rf G 0), (1, i9 p1), (2, i9 p2), (3, rf G 194)] [i9 r1, i9 0, rf G 194] d2 _
  refine r_i2l C dL_bound_8 ?_
  refine r_last C dL_bound_9 la_194 ly_194 (fun d3 => ?_)
  refine r_goto C 17 dL_bound_10 (by decide) ?_
  refine r_iconst C dL_bound_17 ?_
  exact r_iret C dL_bound_18 (by decide) (by decide)
theorem dL_drip_0 : decode cL_drip 0 = .ok (.aload 7, 2) := by decide +kernel
theorem dL_drip_2 : decode cL_drip 2 = .ok (.iconst 0, 1) := by decide +kernel
theorem dL_drip_3 : decode cL_drip 3 = .ok (.aload_n 0, 1) := by decide +kernel
theorem dL_drip_4 : decode cL_drip 4 = .ok (.iload_n 1, 1) := by decide +kernel
theorem dL_drip_5 : decode cL_drip 5 = .ok (.iload_n 2, 1) := by decide +kernel
theorem dL_drip_6 : decode cL_drip 6 = .ok (.iload_n 3, 1) := by decide +kernel
theorem dL_drip_7 : decode cL_drip 7 = .ok (.iload 4, 2) := by decide +kernel
theorem dL_drip_9 : decode cL_drip 9 = .ok (.iload 5, 2) := by decide +kernel
theorem dL_drip_11 : decode cL_drip 11 = .ok (.iload 6, 2) := by decide +kernel
theorem dL_drip_13 : decode cL_drip 13 = .ok (.invokevirtual 65, 3) := by decide +kernel
theorem dL_drip_16 : decode cL_drip 16 = .ok (.i2l, 1) := by decide +kernel
theorem dL_drip_17 : decode cL_drip 17 = .ok (.lastore, 1) := by decide +kernel
theorem dL_drip_18 : decode cL_drip 18 = .ok (.goto 11, 3) := by decide +kernel
theorem dL_drip_21 : decode cL_drip 21 = .ok (.astore 8, 2) := by decide +kernel
theorem dL_drip_23 : decode cL_drip 23 = .ok (.iconst 1, 1) := by decide +kernel
theorem dL_drip_24 : decode cL_drip 24 = .ok (.ireturn, 1) := by decide +kernel
theorem dL_drip_25 : decode cL_drip 25 = .ok (.astore 8, 2) := by decide +kernel
theorem dL_drip_27 : decode cL_drip 27 = .ok (.iconst 2, 1) := by decide +kernel
theorem dL_drip_28 : decode cL_drip 28 = .ok (.ireturn, 1) := by decide +kernel
theorem dL_drip_29 : decode cL_drip 29 = .ok (.iconst 0, 1) := by decide +kernel
theorem dL_drip_30 : decode cL_drip 30 = .ok (.ireturn, 1) := by decide +kernel
abbrev z_L_drip : Z9 := (some .int, 1, 5, 30, 9, 209)
def m_L_drip (p1 p2 p3 p4 p5 p6 : Int) (d : D9) : Option R9 := tc9 (m_X11_drip_0 p1 p2 p3 p4 p5 p6 d) (fun r1 d2 => sd d2 194 1 0 (w32 r1) (fun d3 => rt 0 d3)) (fun e d => if e = 2 then rt 1 d else if e = 0 then rt 2 d else none)
set_option maxRecDepth 100000 in
theorem t_L_drip {G : G9} {l : Launch} (h1 : va_D (A9 G) (wl G (fun _ _ => 0))) (h2 : l.stackTraces = false) (p1 p2 p3 p4 p5 p6 : Int) (d : D9) : MH G l yL_drip cL_drip 9 [(0, 18, 21, 19), (0, 18, 25, 13)] z_L_drip [rf G 0, i9 p1, i9 p2, i9 p3, i9 p4, i9 p5, i9 p6, rf G 194] d (m_L_drip p1 p2 p3 p4 p5 p6 d) := by
  refine mh_of (own := RL) (by decide) rfl (Nat.le_of_ble_eq_true rfl) h1 h2 [(0, rf G 0), (1, i9 p1), (2, i9 p2), (3, i9 p3), (4, i9 p4), (5, i9 p5), (6, i9 p6), (7, rf G 194)] rfl (fun X hX C hNc => ?_)
  unfold m_L_drip
  refine r_aload C 7 dL_drip_0 rfl ?_
  refine r_iconst C dL_drip_2 ?_
  refine r_aload_n C 0 dL_drip_3 rfl rfl ?_
  refine r_iload_n C 1 dL_drip_4 rfl rfl ?_
  refine r_iload_n C 2 dL_drip_5 rfl rfl ?_
  refine r_iload_n C 3 dL_drip_6 rfl rfl ?_
  refine r_iload C 4 dL_drip_7 rfl ?_
  refine r_iload C 5 dL_drip_9 rfl ?_
  refine r_iload C 6 dL_drip_11 rfl ?_
  refine r_callC C [i9 p6, i9 p5, i9 p4, i9 p3, i9 p2, i9 p1, rf G 0, i9 0, rf G 194] dL_drip_13 (t_X11_drip_0 C.h1 C.h2 p1 p2 p3 p4 p5 p6 d) mw_L_65 mv_X11_drip la_0 ly_0 rfl (by decide) (by decide) (by decide) rfl rfl (Nat.le_of_ble_eq_true rfl) (fun e d => by
      by_cases q0 : e = 2
      · rw [if_pos q0]; subst q0; exact sx_catch C hNc (by decide) [] ⟨0, 18, 21, 19⟩ [⟨0, 18, 25, 13⟩] rfl (fun _ h => nomatch h) rfl (by decide) clk_19 cst_2 (r_hand C dL_drip_21 dL_drip_23 dL_drip_24 (by decide) (by decide) (by decide))
      rw [if_neg q0]
      by_cases q1 : e = 0
      · rw [if_pos q1]; subst q1; exact sx_catch C hNc (by decide) [⟨0, 18, 21, 19⟩] ⟨0, 18, 25, 13⟩ [] rfl (List.forall_mem_cons.mpr ⟨⟨by decide, 2, by decide, by decide, clk_19⟩, fun _ h => nomatch h⟩) rfl (by decide) clk_13 cst_0 (r_hand C dL_drip_25 dL_drip_27 dL_drip_28 (by decide) (by decide) (by decide))
      rw [if_neg q1]
      exact sx_none) (fun r1 d2 => ?_)
  show SS G X 9 _ _ 16 [(0, rf G 0), (1, i9 p1), (2, i9 p2), (3, i9 p3), (4, i9 p4), (5, i9 p5), (6, i9 p6), (7, rf G 194)] [i9 r1, i9 0, rf G 194] d2 _
  refine r_i2l C dL_drip_16 ?_
  refine r_last C dL_drip_17 la_194 ly_194 (fun d3 => ?_)
  refine r_goto C 29 dL_drip_18 (by decide) ?_
  refine r_iconst C dL_drip_29 ?_
  exact r_iret C dL_drip_30 (by decide) (by decide)
theorem dL_due_0 : decode cL_due 0 = .ok (.aload_n 3, 1) := by decide +kernel
theorem dL_due_1 : decode cL_due 1 = .ok (.iconst 0, 1) := by decide +kernel
theorem dL_due_2 : decode cL_due 2 = .ok (.aload_n 0, 1) := by decide +kernel
theorem dL_due_3 : decode cL_due 3 = .ok (.iload_n 1, 1) := by decide +kernel
theorem dL_due_4 : decode cL_due 4 = .ok (.iload_n 2, 1) := by decide +kernel
theorem dL_due_5 : decode cL_due 5 = .ok (.invokevirtual 106, 3) := by decide +kernel
theorem dL_due_8 : decode cL_due 8 = .ok (.i2l, 1) := by decide +kernel
theorem dL_due_9 : decode cL_due 9 = .ok (.lastore, 1) := by decide +kernel
theorem dL_due_10 : decode cL_due 10 = .ok (.goto 15, 3) := by decide +kernel
theorem dL_due_13 : decode cL_due 13 = .ok (.astore 4, 2) := by decide +kernel
theorem dL_due_15 : decode cL_due 15 = .ok (.iconst 1, 1) := by decide +kernel
theorem dL_due_16 : decode cL_due 16 = .ok (.ireturn, 1) := by decide +kernel
theorem dL_due_17 : decode cL_due 17 = .ok (.astore 4, 2) := by decide +kernel
theorem dL_due_19 : decode cL_due 19 = .ok (.iconst 2, 1) := by decide +kernel
theorem dL_due_20 : decode cL_due 20 = .ok (.ireturn, 1) := by decide +kernel
theorem dL_due_21 : decode cL_due 21 = .ok (.astore 4, 2) := by decide +kernel
theorem dL_due_23 : decode cL_due 23 = .ok (.iconst 3, 1) := by decide +kernel
theorem dL_due_24 : decode cL_due 24 = .ok (.ireturn, 1) := by decide +kernel
theorem dL_due_25 : decode cL_due 25 = .ok (.iconst 0, 1) := by decide +kernel
theorem dL_due_26 : decode cL_due 26 = .ok (.ireturn, 1) := by decide +kernel
abbrev z_L_due : Z9 := (some .int, 1, 3, 18, 9, 164)
def m_L_due (p1 p2 : Int) (d : D9) : Option R9 := tc9 (m_X11_due_0 p1 p2 d) (fun r1 d2 => sd d2 194 1 0 (w32 r1) (fun d3 => rt 0 d3)) (fun e d => if e = 2 then rt 1 d else if e = 1 then rt 2 d else if e = 0 then rt 3 d else none)
set_option maxRecDepth 100000 in
theorem t_L_due {G : G9} {l : Launch} (h1 : va_D (A9 G) (wl G (fun _ _ => 0))) (h2 : l.stackTraces = false) (p1 p2 : Int) (d : D9) : MH G l yL_due cL_due 5 [(0, 10, 13, 19), (0, 10, 17, 21), (0, 10, 21, 13)] z_L_due [rf G 0, i9 p1, i9 p2, rf G 194] d (m_L_due p1 p2 d) := by
  refine mh_of (own := RL) (by decide) rfl (Nat.le_of_ble_eq_true rfl) h1 h2 [(0, rf G 0), (1, i9 p1), (2, i9 p2), (3, rf G 194)] rfl (fun X hX C hNc => ?_)
  unfold m_L_due
  refine r_aload_n C 3 dL_due_0 rfl rfl ?_
  refine r_iconst C dL_due_1 ?_
  refine r_aload_n C 0 dL_due_2 rfl rfl ?_
  refine r_iload_n C 1 dL_due_3 rfl rfl ?_
  refine r_iload_n C 2 dL_due_4 rfl rfl ?_
  refine r_callC C [i9 p2, i9 p1, rf G 0, i9 0, rf G 194] dL_due_5 (t_X11_due_0 C.h1 C.h2 p1 p2 d) mw_L_106 mv_X11_due la_0 ly_0 rfl (by decide) (by decide) (by decide) rfl rfl (Nat.le_of_ble_eq_true rfl) (fun e d => by
      by_cases q0 : e = 2
      · rw [if_pos q0]; subst q0; exact sx_catch C hNc (by decide) [] ⟨0, 10, 13, 19⟩ [⟨0, 10, 17, 21⟩, ⟨0, 10, 21, 13⟩] rfl (fun _ h => nomatch h) rfl (by decide) clk_19 cst_2 (r_hand C dL_due_13 dL_due_15 dL_due_16 (by decide) (by decide) (by decide))
      rw [if_neg q0]
      by_cases q1 : e = 1
      · rw [if_pos q1]; subst q1; exact sx_catch C hNc (by decide) [⟨0, 10, 13, 19⟩] ⟨0, 10, 17, 21⟩ [⟨0, 10, 21, 13⟩] rfl (List.forall_mem_cons.mpr ⟨⟨by decide, 2, by decide, by decide, clk_19⟩, fun _ h => nomatch h⟩) rfl (by decide) clk_21 cst_1 (r_hand C dL_due_17 dL_due_19 dL_due_20 (by decide) (by decide) (by decide))
      rw [if_neg q1]
      by_cases q2 : e = 0
      · rw [if_pos q2]; subst q2; exact sx_catch C hNc (by decide) [⟨0, 10, 13, 19⟩, ⟨0, 10, 17, 21⟩] ⟨0, 10, 21, 13⟩ [] rfl (List.forall_mem_cons.mpr ⟨⟨by decide, 2, by decide, by decide, clk_19⟩, List.forall_mem_cons.mpr ⟨⟨by decide, 1, by decide, by decide, clk_21⟩, fun _ h => nomatch h⟩⟩) rfl (by decide) clk_13 cst_0 (r_hand C dL_due_21 dL_due_23 dL_due_24 (by decide) (by decide) (by decide))
      rw [if_neg q2]
      exact sx_none) (fun r1 d2 => ?_)
  show SS G X 5 _ _ 8 [(0, rf G 0), (1, i9 p1), (2, i9 p2), (3, rf G 194)] [i9 r1, i9 0, rf G 194] d2 _
  refine r_i2l C dL_due_8 ?_
  refine r_last C dL_due_9 la_194 ly_194 (fun d3 => ?_)
  refine r_goto C 25 dL_due_10 (by decide) ?_
  refine r_iconst C dL_due_25 ?_
  exact r_iret C dL_due_26 (by decide) (by decide)
theorem dL_fingers_0 : decode cL_fingers 0 = .ok (.aload_n 0, 1) := by decide +kernel
theorem dL_fingers_1 : decode cL_fingers 1 = .ok (.iload_n 1, 1) := by decide +kernel
theorem dL_fingers_2 : decode cL_fingers 2 = .ok (.iload_n 2, 1) := by decide +kernel
theorem dL_fingers_3 : decode cL_fingers 3 = .ok (.iload_n 3, 1) := by decide +kernel
theorem dL_fingers_4 : decode cL_fingers 4 = .ok (.iload 4, 2) := by decide +kernel
theorem dL_fingers_6 : decode cL_fingers 6 = .ok (.iload 5, 2) := by decide +kernel
theorem dL_fingers_8 : decode cL_fingers 8 = .ok (.iload 6, 2) := by decide +kernel
theorem dL_fingers_10 : decode cL_fingers 10 = .ok (.invokevirtual 15, 3) := by decide +kernel
theorem dL_fingers_13 : decode cL_fingers 13 = .ok (.goto 15, 3) := by decide +kernel
theorem dL_fingers_16 : decode cL_fingers 16 = .ok (.astore 7, 2) := by decide +kernel
theorem dL_fingers_18 : decode cL_fingers 18 = .ok (.iconst 1, 1) := by decide +kernel
theorem dL_fingers_19 : decode cL_fingers 19 = .ok (.ireturn, 1) := by decide +kernel
theorem dL_fingers_20 : decode cL_fingers 20 = .ok (.astore 7, 2) := by decide +kernel
theorem dL_fingers_22 : decode cL_fingers 22 = .ok (.iconst 2, 1) := by decide +kernel
theorem dL_fingers_23 : decode cL_fingers 23 = .ok (.ireturn, 1) := by decide +kernel
theorem dL_fingers_24 : decode cL_fingers 24 = .ok (.astore 7, 2) := by decide +kernel
theorem dL_fingers_26 : decode cL_fingers 26 = .ok (.iconst 3, 1) := by decide +kernel
theorem dL_fingers_27 : decode cL_fingers 27 = .ok (.ireturn, 1) := by decide +kernel
theorem dL_fingers_28 : decode cL_fingers 28 = .ok (.iconst 0, 1) := by decide +kernel
theorem dL_fingers_29 : decode cL_fingers 29 = .ok (.ireturn, 1) := by decide +kernel
abbrev z_L_fingers : Z9 := (some .int, 1, 7, 42, 9, 173)
def m_L_fingers (p1 p2 p3 p4 p5 p6 : Int) (d : D9) : Option R9 := tc9 (m_X11_fingers_0 p1 p2 p3 p4 p5 p6 d) (fun r1 d2 => rt 0 d2) (fun e d => if e = 2 then rt 1 d else if e = 1 then rt 2 d else if e = 0 then rt 3 d else none)
set_option maxRecDepth 100000 in
theorem t_L_fingers {G : G9} {l : Launch} (h1 : va_D (A9 G) (wl G (fun _ _ => 0))) (h2 : l.stackTraces = false) (p1 p2 p3 p4 p5 p6 : Int) (d : D9) : MH G l yL_fingers cL_fingers 8 [(0, 13, 16, 19), (0, 13, 20, 21), (0, 13, 24, 13)] z_L_fingers [rf G 0, i9 p1, i9 p2, i9 p3, i9 p4, i9 p5, i9 p6] d (m_L_fingers p1 p2 p3 p4 p5 p6 d) := by
  refine mh_of (own := RL) (by decide) rfl (Nat.le_of_ble_eq_true rfl) h1 h2 [(0, rf G 0), (1, i9 p1), (2, i9 p2), (3, i9 p3), (4, i9 p4), (5, i9 p5), (6, i9 p6)] rfl (fun X hX C hNc => ?_)
  unfold m_L_fingers
  refine r_aload_n C 0 dL_fingers_0 rfl rfl ?_
  refine r_iload_n C 1 dL_fingers_1 rfl rfl ?_
  refine r_iload_n C 2 dL_fingers_2 rfl rfl ?_
  refine r_iload_n C 3 dL_fingers_3 rfl rfl ?_
  refine r_iload C 4 dL_fingers_4 rfl ?_
  refine r_iload C 5 dL_fingers_6 rfl ?_
  refine r_iload C 6 dL_fingers_8 rfl ?_
  refine r_callC C [i9 p6, i9 p5, i9 p4, i9 p3, i9 p2, i9 p1, rf G 0] dL_fingers_10 (t_X11_fingers_0 C.h1 C.h2 p1 p2 p3 p4 p5 p6 d) mw_L_15 mv_X11_fingers la_0 ly_0 rfl (by decide) (by decide) (by decide) rfl rfl (Nat.le_of_ble_eq_true rfl) (fun e d => by
      by_cases q0 : e = 2
      · rw [if_pos q0]; subst q0; exact sx_catch C hNc (by decide) [] ⟨0, 13, 16, 19⟩ [⟨0, 13, 20, 21⟩, ⟨0, 13, 24, 13⟩] rfl (fun _ h => nomatch h) rfl (by decide) clk_19 cst_2 (r_hand C dL_fingers_16 dL_fingers_18 dL_fingers_19 (by decide) (by decide) (by decide))
      rw [if_neg q0]
      by_cases q1 : e = 1
      · rw [if_pos q1]; subst q1; exact sx_catch C hNc (by decide) [⟨0, 13, 16, 19⟩] ⟨0, 13, 20, 21⟩ [⟨0, 13, 24, 13⟩] rfl (List.forall_mem_cons.mpr ⟨⟨by decide, 2, by decide, by decide, clk_19⟩, fun _ h => nomatch h⟩) rfl (by decide) clk_21 cst_1 (r_hand C dL_fingers_20 dL_fingers_22 dL_fingers_23 (by decide) (by decide) (by decide))
      rw [if_neg q1]
      by_cases q2 : e = 0
      · rw [if_pos q2]; subst q2; exact sx_catch C hNc (by decide) [⟨0, 13, 16, 19⟩, ⟨0, 13, 20, 21⟩] ⟨0, 13, 24, 13⟩ [] rfl (List.forall_mem_cons.mpr ⟨⟨by decide, 2, by decide, by decide, clk_19⟩, List.forall_mem_cons.mpr ⟨⟨by decide, 1, by decide, by decide, clk_21⟩, fun _ h => nomatch h⟩⟩) rfl (by decide) clk_13 cst_0 (r_hand C dL_fingers_24 dL_fingers_26 dL_fingers_27 (by decide) (by decide) (by decide))
      rw [if_neg q2]
      exact sx_none) (fun r1 d2 => ?_)
  show SS G X 8 _ _ 13 [(0, rf G 0), (1, i9 p1), (2, i9 p2), (3, i9 p3), (4, i9 p4), (5, i9 p5), (6, i9 p6)] [] d2 _
  refine r_goto C 28 dL_fingers_13 (by decide) ?_
  refine r_iconst C dL_fingers_28 ?_
  exact r_iret C dL_fingers_29 (by decide) (by decide)
theorem dL_first_0 : decode cL_first 0 = .ok (.aload_n 2, 1) := by decide +kernel
theorem dL_first_1 : decode cL_first 1 = .ok (.iconst 0, 1) := by decide +kernel
theorem dL_first_2 : decode cL_first 2 = .ok (.aload_n 0, 1) := by decide +kernel
theorem dL_first_3 : decode cL_first 3 = .ok (.iload_n 1, 1) := by decide +kernel
theorem dL_first_4 : decode cL_first 4 = .ok (.invokevirtual 131, 3) := by decide +kernel
theorem dL_first_7 : decode cL_first 7 = .ok (.i2l, 1) := by decide +kernel
theorem dL_first_8 : decode cL_first 8 = .ok (.lastore, 1) := by decide +kernel
theorem dL_first_9 : decode cL_first 9 = .ok (.goto 6, 3) := by decide +kernel
theorem dL_first_12 : decode cL_first 12 = .ok (.astore_n 3, 1) := by decide +kernel
theorem dL_first_13 : decode cL_first 13 = .ok (.iconst 1, 1) := by decide +kernel
theorem dL_first_14 : decode cL_first 14 = .ok (.ireturn, 1) := by decide +kernel
theorem dL_first_15 : decode cL_first 15 = .ok (.iconst 0, 1) := by decide +kernel
theorem dL_first_16 : decode cL_first 16 = .ok (.ireturn, 1) := by decide +kernel
abbrev z_L_first : Z9 := (some .int, 1, 1, 6, 8, 147)
def m_L_first (p1 : Int) (d : D9) : Option R9 := tc9 (m_X11_first_0 p1 d) (fun r1 d2 => sd d2 194 1 0 (w32 r1) (fun d3 => rt 0 d3)) (fun e d => if e = 0 then rt 1 d else none)
set_option maxRecDepth 100000 in
theorem t_L_first {G : G9} {l : Launch} (h1 : va_D (A9 G) (wl G (fun _ _ => 0))) (h2 : l.stackTraces = false) (p1 : Int) (d : D9) : MH G l yL_first cL_first 4 [(0, 9, 12, 13)] z_L_first [rf G 0, i9 p1, rf G 194] d (m_L_first p1 d) := by
  refine mh_of (own := RL) (by decide) rfl (Nat.le_of_ble_eq_true rfl) h1 h2 [(0, rf G 0), (1, i9 p1), (2, rf G 194)] rfl (fun X hX C hNc => ?_)
  unfold m_L_first
  refine r_aload_n C 2 dL_first_0 rfl rfl ?_
  refine r_iconst C dL_first_1 ?_
  refine r_aload_n C 0 dL_first_2 rfl rfl ?_
  refine r_iload_n C 1 dL_first_3 rfl rfl ?_
  refine r_callC C [i9 p1, rf G 0, i9 0, rf G 194] dL_first_4 (t_X11_first_0 C.h1 C.h2 p1 d) mw_L_131 mv_X11_first la_0 ly_0 rfl (by decide) (by decide) (by decide) rfl rfl (Nat.le_of_ble_eq_true rfl) (fun e d => by
      by_cases q0 : e = 0
      · rw [if_pos q0]; subst q0; exact sx_catch C hNc (by decide) [] ⟨0, 9, 12, 13⟩ [] rfl (fun _ h => nomatch h) rfl (by decide) clk_13 cst_0 (r_hand_n C dL_first_12 dL_first_13 dL_first_14 rfl (by decide) (by decide) (by decide))
      rw [if_neg q0]
      exact sx_none) (fun r1 d2 => ?_)
  show SS G X 4 _ _ 7 [(0, rf G 0), (1, i9 p1), (2, rf G 194)] [i9 r1, i9 0, rf G 194] d2 _
  refine r_i2l C dL_first_7 ?_
  refine r_last C dL_first_8 la_194 ly_194 (fun d3 => ?_)
  refine r_goto C 15 dL_first_9 (by decide) ?_
  refine r_iconst C dL_first_15 ?_
  exact r_iret C dL_first_16 (by decide) (by decide)
theorem dL_follow_0 : decode cL_follow 0 = .ok (.aload_n 3, 1) := by decide +kernel
theorem dL_follow_1 : decode cL_follow 1 = .ok (.iconst 0, 1) := by decide +kernel
theorem dL_follow_2 : decode cL_follow 2 = .ok (.aload_n 0, 1) := by decide +kernel
theorem dL_follow_3 : decode cL_follow 3 = .ok (.iload_n 1, 1) := by decide +kernel
theorem dL_follow_4 : decode cL_follow 4 = .ok (.iload_n 2, 1) := by decide +kernel
theorem dL_follow_5 : decode cL_follow 5 = .ok (.invokevirtual 137, 3) := by decide +kernel
theorem dL_follow_8 : decode cL_follow 8 = .ok (.i2l, 1) := by decide +kernel
theorem dL_follow_9 : decode cL_follow 9 = .ok (.lastore, 1) := by decide +kernel
theorem dL_follow_10 : decode cL_follow 10 = .ok (.goto 7, 3) := by decide +kernel
theorem dL_follow_13 : decode cL_follow 13 = .ok (.astore 4, 2) := by decide +kernel
theorem dL_follow_15 : decode cL_follow 15 = .ok (.iconst 1, 1) := by decide +kernel
theorem dL_follow_16 : decode cL_follow 16 = .ok (.ireturn, 1) := by decide +kernel
theorem dL_follow_17 : decode cL_follow 17 = .ok (.iconst 0, 1) := by decide +kernel
theorem dL_follow_18 : decode cL_follow 18 = .ok (.ireturn, 1) := by decide +kernel
abbrev z_L_follow : Z9 := (some .int, 1, 1, 6, 8, 173)
def m_L_follow (p1 p2 : Int) (d : D9) : Option R9 := tc9 (m_X11_follow_0 p1 p2 d) (fun r1 d2 => sd d2 194 1 0 (w32 r1) (fun d3 => rt 0 d3)) (fun e d => if e = 0 then rt 1 d else none)
set_option maxRecDepth 100000 in
theorem t_L_follow {G : G9} {l : Launch} (h1 : va_D (A9 G) (wl G (fun _ _ => 0))) (h2 : l.stackTraces = false) (p1 p2 : Int) (d : D9) : MH G l yL_follow cL_follow 5 [(0, 10, 13, 13)] z_L_follow [rf G 0, i9 p1, i9 p2, rf G 194] d (m_L_follow p1 p2 d) := by
  refine mh_of (own := RL) (by decide) rfl (Nat.le_of_ble_eq_true rfl) h1 h2 [(0, rf G 0), (1, i9 p1), (2, i9 p2), (3, rf G 194)] rfl (fun X hX C hNc => ?_)
  unfold m_L_follow
  refine r_aload_n C 3 dL_follow_0 rfl rfl ?_
  refine r_iconst C dL_follow_1 ?_
  refine r_aload_n C 0 dL_follow_2 rfl rfl ?_
  refine r_iload_n C 1 dL_follow_3 rfl rfl ?_
  refine r_iload_n C 2 dL_follow_4 rfl rfl ?_
  refine r_callC C [i9 p2, i9 p1, rf G 0, i9 0, rf G 194] dL_follow_5 (t_X11_follow_0 C.h1 C.h2 p1 p2 d) mw_L_137 mv_X11_follow la_0 ly_0 rfl (by decide) (by decide) (by decide) rfl rfl (Nat.le_of_ble_eq_true rfl) (fun e d => by
      by_cases q0 : e = 0
      · rw [if_pos q0]; subst q0; exact sx_catch C hNc (by decide) [] ⟨0, 10, 13, 13⟩ [] rfl (fun _ h => nomatch h) rfl (by decide) clk_13 cst_0 (r_hand C dL_follow_13 dL_follow_15 dL_follow_16 (by decide) (by decide) (by decide))
      rw [if_neg q0]
      exact sx_none) (fun r1 d2 => ?_)
  show SS G X 5 _ _ 8 [(0, rf G 0), (1, i9 p1), (2, i9 p2), (3, rf G 194)] [i9 r1, i9 0, rf G 194] d2 _
  refine r_i2l C dL_follow_8 ?_
  refine r_last C dL_follow_9 la_194 ly_194 (fun d3 => ?_)
  refine r_goto C 17 dL_follow_10 (by decide) ?_
  refine r_iconst C dL_follow_17 ?_
  exact r_iret C dL_follow_18 (by decide) (by decide)
theorem dL_image_0 : decode cL_image 0 = .ok (.aload_n 0, 1) := by decide +kernel
theorem dL_image_1 : decode cL_image 1 = .ok (.iload_n 1, 1) := by decide +kernel
theorem dL_image_2 : decode cL_image 2 = .ok (.invokevirtual 159, 3) := by decide +kernel
theorem dL_image_5 : decode cL_image 5 = .ok (.goto 6, 3) := by decide +kernel
theorem dL_image_8 : decode cL_image 8 = .ok (.astore_n 2, 1) := by decide +kernel
theorem dL_image_9 : decode cL_image 9 = .ok (.iconst 1, 1) := by decide +kernel
theorem dL_image_10 : decode cL_image 10 = .ok (.ireturn, 1) := by decide +kernel
theorem dL_image_11 : decode cL_image 11 = .ok (.iconst 0, 1) := by decide +kernel
theorem dL_image_12 : decode cL_image 12 = .ok (.ireturn, 1) := by decide +kernel
abbrev z_L_image : Z9 := (some .int, 1, 1, 6, 8, 285)
def m_L_image (p1 : Int) (d : D9) : Option R9 := tc9 (m_X11_image_0 p1 d) (fun r1 d2 => rt 0 d2) (fun e d => if e = 2 then rt 1 d else none)
set_option maxRecDepth 100000 in
theorem t_L_image {G : G9} {l : Launch} (h1 : va_D (A9 G) (wl G (fun _ _ => 0))) (h2 : l.stackTraces = false) (p1 : Int) (d : D9) : MH G l yL_image cL_image 3 [(0, 5, 8, 19)] z_L_image [rf G 0, i9 p1] d (m_L_image p1 d) := by
  refine mh_of (own := RL) (by decide) rfl (Nat.le_of_ble_eq_true rfl) h1 h2 [(0, rf G 0), (1, i9 p1)] rfl (fun X hX C hNc => ?_)
  unfold m_L_image
  refine r_aload_n C 0 dL_image_0 rfl rfl ?_
  refine r_iload_n C 1 dL_image_1 rfl rfl ?_
  refine r_callC C [i9 p1, rf G 0] dL_image_2 (t_X11_image_0 C.h1 C.h2 p1 d) mw_L_159 mv_X11_image la_0 ly_0 rfl (by decide) (by decide) (by decide) rfl rfl (Nat.le_of_ble_eq_true rfl) (fun e d => by
      by_cases q0 : e = 2
      · rw [if_pos q0]; subst q0; exact sx_catch C hNc (by decide) [] ⟨0, 5, 8, 19⟩ [] rfl (fun _ h => nomatch h) rfl (by decide) clk_19 cst_2 (r_hand_n C dL_image_8 dL_image_9 dL_image_10 rfl (by decide) (by decide) (by decide))
      rw [if_neg q0]
      exact sx_none) (fun r1 d2 => ?_)
  show SS G X 3 _ _ 5 [(0, rf G 0), (1, i9 p1)] [] d2 _
  refine r_goto C 11 dL_image_5 (by decide) ?_
  refine r_iconst C dL_image_11 ?_
  exact r_iret C dL_image_12 (by decide) (by decide)
theorem dL_law_0 : decode cL_law 0 = .ok (.aload_n 2, 1) := by decide +kernel
theorem dL_law_1 : decode cL_law 1 = .ok (.iconst 0, 1) := by decide +kernel
theorem dL_law_2 : decode cL_law 2 = .ok (.aload_n 0, 1) := by decide +kernel
theorem dL_law_3 : decode cL_law 3 = .ok (.iload_n 1, 1) := by decide +kernel
theorem dL_law_4 : decode cL_law 4 = .ok (.invokevirtual 38, 3) := by decide +kernel
theorem dL_law_7 : decode cL_law 7 = .ok (.i2l, 1) := by decide +kernel
theorem dL_law_8 : decode cL_law 8 = .ok (.lastore, 1) := by decide +kernel
theorem dL_law_9 : decode cL_law 9 = .ok (.goto 6, 3) := by decide +kernel
theorem dL_law_12 : decode cL_law 12 = .ok (.astore_n 3, 1) := by decide +kernel
theorem dL_law_13 : decode cL_law 13 = .ok (.iconst 1, 1) := by decide +kernel
theorem dL_law_14 : decode cL_law 14 = .ok (.ireturn, 1) := by decide +kernel
theorem dL_law_15 : decode cL_law 15 = .ok (.iconst 0, 1) := by decide +kernel
theorem dL_law_16 : decode cL_law 16 = .ok (.ireturn, 1) := by decide +kernel
abbrev z_L_law : Z9 := (some .int, 1, 1, 6, 15, 404)
def m_L_law (p1 : Int) (d : D9) : Option R9 := tc9 (m_X11_law_0 p1 d) (fun r1 d2 => sd d2 194 1 0 (w32 r1) (fun d3 => rt 0 d3)) (fun e d => if e = 0 then rt 1 d else none)
set_option maxRecDepth 100000 in
theorem t_L_law {G : G9} {l : Launch} (h1 : va_D (A9 G) (wl G (fun _ _ => 0))) (h2 : l.stackTraces = false) (p1 : Int) (d : D9) : MH G l yL_law cL_law 4 [(0, 9, 12, 13)] z_L_law [rf G 0, i9 p1, rf G 194] d (m_L_law p1 d) := by
  refine mh_of (own := RL) (by decide) rfl (Nat.le_of_ble_eq_true rfl) h1 h2 [(0, rf G 0), (1, i9 p1), (2, rf G 194)] rfl (fun X hX C hNc => ?_)
  unfold m_L_law
  refine r_aload_n C 2 dL_law_0 rfl rfl ?_
  refine r_iconst C dL_law_1 ?_
  refine r_aload_n C 0 dL_law_2 rfl rfl ?_
  refine r_iload_n C 1 dL_law_3 rfl rfl ?_
  refine r_callC C [i9 p1, rf G 0, i9 0, rf G 194] dL_law_4 (t_X11_law_0 C.h1 C.h2 p1 d) mw_L_38 mv_X11_law la_0 ly_0 rfl (by decide) (by decide) (by decide) rfl rfl (Nat.le_of_ble_eq_true rfl) (fun e d => by
      by_cases q0 : e = 0
      · rw [if_pos q0]; subst q0; exact sx_catch C hNc (by decide) [] ⟨0, 9, 12, 13⟩ [] rfl (fun _ h => nomatch h) rfl (by decide) clk_13 cst_0 (r_hand_n C dL_law_12 dL_law_13 dL_law_14 rfl (by decide) (by decide) (by decide))
      rw [if_neg q0]
      exact sx_none) (fun r1 d2 => ?_)
  show SS G X 4 _ _ 7 [(0, rf G 0), (1, i9 p1), (2, rf G 194)] [i9 r1, i9 0, rf G 194] d2 _
  refine r_i2l C dL_law_7 ?_
  refine r_last C dL_law_8 la_194 ly_194 (fun d3 => ?_)
  refine r_goto C 15 dL_law_9 (by decide) ?_
  refine r_iconst C dL_law_15 ?_
  exact r_iret C dL_law_16 (by decide) (by decide)
theorem dL_layer_0 : decode cL_layer 0 = .ok (.aload 5, 2) := by decide +kernel
theorem dL_layer_2 : decode cL_layer 2 = .ok (.iconst 0, 1) := by decide +kernel
theorem dL_layer_3 : decode cL_layer 3 = .ok (.aload_n 0, 1) := by decide +kernel
theorem dL_layer_4 : decode cL_layer 4 = .ok (.iload_n 1, 1) := by decide +kernel
theorem dL_layer_5 : decode cL_layer 5 = .ok (.iload_n 2, 1) := by decide +kernel
theorem dL_layer_6 : decode cL_layer 6 = .ok (.iload_n 3, 1) := by decide +kernel
theorem dL_layer_7 : decode cL_layer 7 = .ok (.iload 4, 2) := by decide +kernel
theorem dL_layer_9 : decode cL_layer 9 = .ok (.invokevirtual 31, 3) := by decide +kernel
theorem dL_layer_12 : decode cL_layer 12 = .ok (.i2l, 1) := by decide +kernel
theorem dL_layer_13 : decode cL_layer 13 = .ok (.lastore, 1) := by decide +kernel
theorem dL_layer_14 : decode cL_layer 14 = .ok (.goto 11, 3) := by decide +kernel
theorem dL_layer_17 : decode cL_layer 17 = .ok (.astore 6, 2) := by decide +kernel
theorem dL_layer_19 : decode cL_layer 19 = .ok (.iconst 1, 1) := by decide +kernel
theorem dL_layer_20 : decode cL_layer 20 = .ok (.ireturn, 1) := by decide +kernel
theorem dL_layer_21 : decode cL_layer 21 = .ok (.astore 6, 2) := by decide +kernel
theorem dL_layer_23 : decode cL_layer 23 = .ok (.iconst 2, 1) := by decide +kernel
theorem dL_layer_24 : decode cL_layer 24 = .ok (.ireturn, 1) := by decide +kernel
theorem dL_layer_25 : decode cL_layer 25 = .ok (.iconst 0, 1) := by decide +kernel
theorem dL_layer_26 : decode cL_layer 26 = .ok (.ireturn, 1) := by decide +kernel
abbrev z_L_layer : Z9 := (some .int, 1, 4, 24, 8, 206)
def m_L_layer (p1 p2 p3 p4 : Int) (d : D9) : Option R9 := tc9 (m_X11_layer_0 p1 p2 p3 p4 d) (fun r1 d2 => sd d2 194 1 0 (w32 r1) (fun d3 => rt 0 d3)) (fun e d => if e = 2 then rt 1 d else if e = 0 then rt 2 d else none)
set_option maxRecDepth 100000 in
theorem t_L_layer {G : G9} {l : Launch} (h1 : va_D (A9 G) (wl G (fun _ _ => 0))) (h2 : l.stackTraces = false) (p1 p2 p3 p4 : Int) (d : D9) : MH G l yL_layer cL_layer 7 [(0, 14, 17, 19), (0, 14, 21, 13)] z_L_layer [rf G 0, i9 p1, i9 p2, i9 p3, i9 p4, rf G 194] d (m_L_layer p1 p2 p3 p4 d) := by
  refine mh_of (own := RL) (by decide) rfl (Nat.le_of_ble_eq_true rfl) h1 h2 [(0, rf G 0), (1, i9 p1), (2, i9 p2), (3, i9 p3), (4, i9 p4), (5, rf G 194)] rfl (fun X hX C hNc => ?_)
  unfold m_L_layer
  refine r_aload C 5 dL_layer_0 rfl ?_
  refine r_iconst C dL_layer_2 ?_
  refine r_aload_n C 0 dL_layer_3 rfl rfl ?_
  refine r_iload_n C 1 dL_layer_4 rfl rfl ?_
  refine r_iload_n C 2 dL_layer_5 rfl rfl ?_
  refine r_iload_n C 3 dL_layer_6 rfl rfl ?_
  refine r_iload C 4 dL_layer_7 rfl ?_
  refine r_callC C [i9 p4, i9 p3, i9 p2, i9 p1, rf G 0, i9 0, rf G 194] dL_layer_9 (t_X11_layer_0 C.h1 C.h2 p1 p2 p3 p4 d) mw_L_31 mv_X11_layer la_0 ly_0 rfl (by decide) (by decide) (by decide) rfl rfl (Nat.le_of_ble_eq_true rfl) (fun e d => by
      by_cases q0 : e = 2
      · rw [if_pos q0]; subst q0; exact sx_catch C hNc (by decide) [] ⟨0, 14, 17, 19⟩ [⟨0, 14, 21, 13⟩] rfl (fun _ h => nomatch h) rfl (by decide) clk_19 cst_2 (r_hand C dL_layer_17 dL_layer_19 dL_layer_20 (by decide) (by decide) (by decide))
      rw [if_neg q0]
      by_cases q1 : e = 0
      · rw [if_pos q1]; subst q1; exact sx_catch C hNc (by decide) [⟨0, 14, 17, 19⟩] ⟨0, 14, 21, 13⟩ [] rfl (List.forall_mem_cons.mpr ⟨⟨by decide, 2, by decide, by decide, clk_19⟩, fun _ h => nomatch h⟩) rfl (by decide) clk_13 cst_0 (r_hand C dL_layer_21 dL_layer_23 dL_layer_24 (by decide) (by decide) (by decide))
      rw [if_neg q1]
      exact sx_none) (fun r1 d2 => ?_)
  show SS G X 7 _ _ 12 [(0, rf G 0), (1, i9 p1), (2, i9 p2), (3, i9 p3), (4, i9 p4), (5, rf G 194)] [i9 r1, i9 0, rf G 194] d2 _
  refine r_i2l C dL_layer_12 ?_
  refine r_last C dL_layer_13 la_194 ly_194 (fun d3 => ?_)
  refine r_goto C 25 dL_layer_14 (by decide) ?_
  refine r_iconst C dL_layer_25 ?_
  exact r_iret C dL_layer_26 (by decide) (by decide)
theorem dL_leaked_0 : decode cL_leaked 0 = .ok (.aload_n 0, 1) := by decide +kernel
theorem dL_leaked_1 : decode cL_leaked 1 = .ok (.iload_n 1, 1) := by decide +kernel
theorem dL_leaked_2 : decode cL_leaked 2 = .ok (.invokevirtual 61, 3) := by decide +kernel
theorem dL_leaked_5 : decode cL_leaked 5 = .ok (.goto 6, 3) := by decide +kernel
theorem dL_leaked_8 : decode cL_leaked 8 = .ok (.astore_n 2, 1) := by decide +kernel
theorem dL_leaked_9 : decode cL_leaked 9 = .ok (.iconst 1, 1) := by decide +kernel
theorem dL_leaked_10 : decode cL_leaked 10 = .ok (.ireturn, 1) := by decide +kernel
theorem dL_leaked_11 : decode cL_leaked 11 = .ok (.iconst 0, 1) := by decide +kernel
theorem dL_leaked_12 : decode cL_leaked 12 = .ok (.ireturn, 1) := by decide +kernel
abbrev z_L_leaked : Z9 := (some .int, 1, 1, 6, 8, 142)
def m_L_leaked (p1 : Int) (d : D9) : Option R9 := tc9 (m_X11_leaked_0 p1 d) (fun r1 d2 => rt 0 d2) (fun e d => if e = 2 then rt 1 d else none)
set_option maxRecDepth 100000 in
theorem t_L_leaked {G : G9} {l : Launch} (h1 : va_D (A9 G) (wl G (fun _ _ => 0))) (h2 : l.stackTraces = false) (p1 : Int) (d : D9) : MH G l yL_leaked cL_leaked 3 [(0, 5, 8, 19)] z_L_leaked [rf G 0, i9 p1] d (m_L_leaked p1 d) := by
  refine mh_of (own := RL) (by decide) rfl (Nat.le_of_ble_eq_true rfl) h1 h2 [(0, rf G 0), (1, i9 p1)] rfl (fun X hX C hNc => ?_)
  unfold m_L_leaked
  refine r_aload_n C 0 dL_leaked_0 rfl rfl ?_
  refine r_iload_n C 1 dL_leaked_1 rfl rfl ?_
  refine r_callC C [i9 p1, rf G 0] dL_leaked_2 (t_X11_leaked_0 C.h1 C.h2 p1 d) mw_L_61 mv_X11_leaked la_0 ly_0 rfl (by decide) (by decide) (by decide) rfl rfl (Nat.le_of_ble_eq_true rfl) (fun e d => by
      by_cases q0 : e = 2
      · rw [if_pos q0]; subst q0; exact sx_catch C hNc (by decide) [] ⟨0, 5, 8, 19⟩ [] rfl (fun _ h => nomatch h) rfl (by decide) clk_19 cst_2 (r_hand_n C dL_leaked_8 dL_leaked_9 dL_leaked_10 rfl (by decide) (by decide) (by decide))
      rw [if_neg q0]
      exact sx_none) (fun r1 d2 => ?_)
  show SS G X 3 _ _ 5 [(0, rf G 0), (1, i9 p1)] [] d2 _
  refine r_goto C 11 dL_leaked_5 (by decide) ?_
  refine r_iconst C dL_leaked_11 ?_
  exact r_iret C dL_leaked_12 (by decide) (by decide)
theorem dL_like_0 : decode cL_like 0 = .ok (.aload_n 3, 1) := by decide +kernel
theorem dL_like_1 : decode cL_like 1 = .ok (.iconst 0, 1) := by decide +kernel
theorem dL_like_2 : decode cL_like 2 = .ok (.aload_n 0, 1) := by decide +kernel
theorem dL_like_3 : decode cL_like 3 = .ok (.iload_n 1, 1) := by decide +kernel
theorem dL_like_4 : decode cL_like 4 = .ok (.iload_n 2, 1) := by decide +kernel
theorem dL_like_5 : decode cL_like 5 = .ok (.invokevirtual 97, 3) := by decide +kernel
theorem dL_like_8 : decode cL_like 8 = .ok (.i2l, 1) := by decide +kernel
theorem dL_like_9 : decode cL_like 9 = .ok (.lastore, 1) := by decide +kernel
theorem dL_like_10 : decode cL_like 10 = .ok (.goto 15, 3) := by decide +kernel
theorem dL_like_13 : decode cL_like 13 = .ok (.astore 4, 2) := by decide +kernel
theorem dL_like_15 : decode cL_like 15 = .ok (.iconst 1, 1) := by decide +kernel
theorem dL_like_16 : decode cL_like 16 = .ok (.ireturn, 1) := by decide +kernel
theorem dL_like_17 : decode cL_like 17 = .ok (.astore 4, 2) := by decide +kernel
theorem dL_like_19 : decode cL_like 19 = .ok (.iconst 2, 1) := by decide +kernel
theorem dL_like_20 : decode cL_like 20 = .ok (.ireturn, 1) := by decide +kernel
theorem dL_like_21 : decode cL_like 21 = .ok (.astore 4, 2) := by decide +kernel
theorem dL_like_23 : decode cL_like 23 = .ok (.iconst 3, 1) := by decide +kernel
theorem dL_like_24 : decode cL_like 24 = .ok (.ireturn, 1) := by decide +kernel
theorem dL_like_25 : decode cL_like 25 = .ok (.iconst 0, 1) := by decide +kernel
theorem dL_like_26 : decode cL_like 26 = .ok (.ireturn, 1) := by decide +kernel
abbrev z_L_like : Z9 := (some .int, 1, 3, 18, 9, 164)
def m_L_like (p1 p2 : Int) (d : D9) : Option R9 := tc9 (m_X11_like_0 p1 p2 d) (fun r1 d2 => sd d2 194 1 0 (w32 r1) (fun d3 => rt 0 d3)) (fun e d => if e = 2 then rt 1 d else if e = 1 then rt 2 d else if e = 0 then rt 3 d else none)
set_option maxRecDepth 100000 in
theorem t_L_like {G : G9} {l : Launch} (h1 : va_D (A9 G) (wl G (fun _ _ => 0))) (h2 : l.stackTraces = false) (p1 p2 : Int) (d : D9) : MH G l yL_like cL_like 5 [(0, 10, 13, 19), (0, 10, 17, 21), (0, 10, 21, 13)] z_L_like [rf G 0, i9 p1, i9 p2, rf G 194] d (m_L_like p1 p2 d) := by
  refine mh_of (own := RL) (by decide) rfl (Nat.le_of_ble_eq_true rfl) h1 h2 [(0, rf G 0), (1, i9 p1), (2, i9 p2), (3, rf G 194)] rfl (fun X hX C hNc => ?_)
  unfold m_L_like
  refine r_aload_n C 3 dL_like_0 rfl rfl ?_
  refine r_iconst C dL_like_1 ?_
  refine r_aload_n C 0 dL_like_2 rfl rfl ?_
  refine r_iload_n C 1 dL_like_3 rfl rfl ?_
  refine r_iload_n C 2 dL_like_4 rfl rfl ?_
  refine r_callC C [i9 p2, i9 p1, rf G 0, i9 0, rf G 194] dL_like_5 (t_X11_like_0 C.h1 C.h2 p1 p2 d) mw_L_97 mv_X11_like la_0 ly_0 rfl (by decide) (by decide) (by decide) rfl rfl (Nat.le_of_ble_eq_true rfl) (fun e d => by
      by_cases q0 : e = 2
      · rw [if_pos q0]; subst q0; exact sx_catch C hNc (by decide) [] ⟨0, 10, 13, 19⟩ [⟨0, 10, 17, 21⟩, ⟨0, 10, 21, 13⟩] rfl (fun _ h => nomatch h) rfl (by decide) clk_19 cst_2 (r_hand C dL_like_13 dL_like_15 dL_like_16 (by decide) (by decide) (by decide))
      rw [if_neg q0]
      by_cases q1 : e = 1
      · rw [if_pos q1]; subst q1; exact sx_catch C hNc (by decide) [⟨0, 10, 13, 19⟩] ⟨0, 10, 17, 21⟩ [⟨0, 10, 21, 13⟩] rfl (List.forall_mem_cons.mpr ⟨⟨by decide, 2, by decide, by decide, clk_19⟩, fun _ h => nomatch h⟩) rfl (by decide) clk_21 cst_1 (r_hand C dL_like_17 dL_like_19 dL_like_20 (by decide) (by decide) (by decide))
      rw [if_neg q1]
      by_cases q2 : e = 0
      · rw [if_pos q2]; subst q2; exact sx_catch C hNc (by decide) [⟨0, 10, 13, 19⟩, ⟨0, 10, 17, 21⟩] ⟨0, 10, 21, 13⟩ [] rfl (List.forall_mem_cons.mpr ⟨⟨by decide, 2, by decide, by decide, clk_19⟩, List.forall_mem_cons.mpr ⟨⟨by decide, 1, by decide, by decide, clk_21⟩, fun _ h => nomatch h⟩⟩) rfl (by decide) clk_13 cst_0 (r_hand C dL_like_21 dL_like_23 dL_like_24 (by decide) (by decide) (by decide))
      rw [if_neg q2]
      exact sx_none) (fun r1 d2 => ?_)
  show SS G X 5 _ _ 8 [(0, rf G 0), (1, i9 p1), (2, i9 p2), (3, rf G 194)] [i9 r1, i9 0, rf G 194] d2 _
  refine r_i2l C dL_like_8 ?_
  refine r_last C dL_like_9 la_194 ly_194 (fun d3 => ?_)
  refine r_goto C 25 dL_like_10 (by decide) ?_
  refine r_iconst C dL_like_25 ?_
  exact r_iret C dL_like_26 (by decide) (by decide)
theorem dL_many_0 : decode cL_many 0 = .ok (.aload_n 0, 1) := by decide +kernel
theorem dL_many_1 : decode cL_many 1 = .ok (.iload_n 1, 1) := by decide +kernel
theorem dL_many_2 : decode cL_many 2 = .ok (.invokevirtual 91, 3) := by decide +kernel
theorem dL_many_5 : decode cL_many 5 = .ok (.goto 6, 3) := by decide +kernel
theorem dL_many_8 : decode cL_many 8 = .ok (.astore_n 2, 1) := by decide +kernel
theorem dL_many_9 : decode cL_many 9 = .ok (.iconst 1, 1) := by decide +kernel
theorem dL_many_10 : decode cL_many 10 = .ok (.ireturn, 1) := by decide +kernel
theorem dL_many_11 : decode cL_many 11 = .ok (.iconst 0, 1) := by decide +kernel
theorem dL_many_12 : decode cL_many 12 = .ok (.ireturn, 1) := by decide +kernel
abbrev z_L_many : Z9 := (some .int, 1, 1, 6, 8, 148)
def m_L_many (p1 : Int) (d : D9) : Option R9 := tc9 (m_X11_many_0 p1 d) (fun r1 d2 => rt 0 d2) (fun e d => if e = 0 then rt 1 d else none)
set_option maxRecDepth 100000 in
theorem t_L_many {G : G9} {l : Launch} (h1 : va_D (A9 G) (wl G (fun _ _ => 0))) (h2 : l.stackTraces = false) (p1 : Int) (d : D9) : MH G l yL_many cL_many 3 [(0, 5, 8, 13)] z_L_many [rf G 0, i9 p1] d (m_L_many p1 d) := by
  refine mh_of (own := RL) (by decide) rfl (Nat.le_of_ble_eq_true rfl) h1 h2 [(0, rf G 0), (1, i9 p1)] rfl (fun X hX C hNc => ?_)
  unfold m_L_many
  refine r_aload_n C 0 dL_many_0 rfl rfl ?_
  refine r_iload_n C 1 dL_many_1 rfl rfl ?_
  refine r_callC C [i9 p1, rf G 0] dL_many_2 (t_X11_many_0 C.h1 C.h2 p1 d) mw_L_91 mv_X11_many la_0 ly_0 rfl (by decide) (by decide) (by decide) rfl rfl (Nat.le_of_ble_eq_true rfl) (fun e d => by
      by_cases q0 : e = 0
      · rw [if_pos q0]; subst q0; exact sx_catch C hNc (by decide) [] ⟨0, 5, 8, 13⟩ [] rfl (fun _ h => nomatch h) rfl (by decide) clk_13 cst_0 (r_hand_n C dL_many_8 dL_many_9 dL_many_10 rfl (by decide) (by decide) (by decide))
      rw [if_neg q0]
      exact sx_none) (fun r1 d2 => ?_)
  show SS G X 3 _ _ 5 [(0, rf G 0), (1, i9 p1)] [] d2 _
  refine r_goto C 11 dL_many_5 (by decide) ?_
  refine r_iconst C dL_many_11 ?_
  exact r_iret C dL_many_12 (by decide) (by decide)
theorem dL_of_0 : decode cL_of 0 = .ok (.aload_n 3, 1) := by decide +kernel
theorem dL_of_1 : decode cL_of 1 = .ok (.iconst 0, 1) := by decide +kernel
theorem dL_of_2 : decode cL_of 2 = .ok (.aload_n 0, 1) := by decide +kernel
theorem dL_of_3 : decode cL_of 3 = .ok (.iload_n 1, 1) := by decide +kernel
theorem dL_of_4 : decode cL_of 4 = .ok (.iload_n 2, 1) := by decide +kernel
theorem dL_of_5 : decode cL_of 5 = .ok (.invokevirtual 34, 3) := by decide +kernel
theorem dL_of_8 : decode cL_of 8 = .ok (.i2l, 1) := by decide +kernel
theorem dL_of_9 : decode cL_of 9 = .ok (.lastore, 1) := by decide +kernel
theorem dL_of_10 : decode cL_of 10 = .ok (.goto 11, 3) := by decide +kernel
theorem dL_of_13 : decode cL_of 13 = .ok (.astore 4, 2) := by decide +kernel
theorem dL_of_15 : decode cL_of 15 = .ok (.iconst 1, 1) := by decide +kernel
theorem dL_of_16 : decode cL_of 16 = .ok (.ireturn, 1) := by decide +kernel
theorem dL_of_17 : decode cL_of 17 = .ok (.astore 4, 2) := by decide +kernel
theorem dL_of_19 : decode cL_of 19 = .ok (.iconst 2, 1) := by decide +kernel
theorem dL_of_20 : decode cL_of 20 = .ok (.ireturn, 1) := by decide +kernel
theorem dL_of_21 : decode cL_of 21 = .ok (.iconst 0, 1) := by decide +kernel
theorem dL_of_22 : decode cL_of 22 = .ok (.ireturn, 1) := by decide +kernel
abbrev z_L_of : Z9 := (some .int, 1, 2, 12, 8, 145)
def m_L_of (p1 p2 : Int) (d : D9) : Option R9 := tc9 (m_X11_of_0 p1 p2 d) (fun r1 d2 => sd d2 194 1 0 (w32 r1) (fun d3 => rt 0 d3)) (fun e d => if e = 2 then rt 1 d else if e = 0 then rt 2 d else none)
set_option maxRecDepth 100000 in
theorem t_L_of {G : G9} {l : Launch} (h1 : va_D (A9 G) (wl G (fun _ _ => 0))) (h2 : l.stackTraces = false) (p1 p2 : Int) (d : D9) : MH G l yL_of cL_of 5 [(0, 10, 13, 19), (0, 10, 17, 13)] z_L_of [rf G 0, i9 p1, i9 p2, rf G 194] d (m_L_of p1 p2 d) := by
  refine mh_of (own := RL) (by decide) rfl (Nat.le_of_ble_eq_true rfl) h1 h2 [(0, rf G 0), (1, i9 p1), (2, i9 p2), (3, rf G 194)] rfl (fun X hX C hNc => ?_)
  unfold m_L_of
  refine r_aload_n C 3 dL_of_0 rfl rfl ?_
  refine r_iconst C dL_of_1 ?_
  refine r_aload_n C 0 dL_of_2 rfl rfl ?_
  refine r_iload_n C 1 dL_of_3 rfl rfl ?_
  refine r_iload_n C 2 dL_of_4 rfl rfl ?_
  refine r_callC C [i9 p2, i9 p1, rf G 0, i9 0, rf G 194] dL_of_5 (t_X11_of_0 C.h1 C.h2 p1 p2 d) mw_L_34 mv_X11_of la_0 ly_0 rfl (by decide) (by decide) (by decide) rfl rfl (Nat.le_of_ble_eq_true rfl) (fun e d => by
      by_cases q0 : e = 2
      · rw [if_pos q0]; subst q0; exact sx_catch C hNc (by decide) [] ⟨0, 10, 13, 19⟩ [⟨0, 10, 17, 13⟩] rfl (fun _ h => nomatch h) rfl (by decide) clk_19 cst_2 (r_hand C dL_of_13 dL_of_15 dL_of_16 (by decide) (by decide) (by decide))
      rw [if_neg q0]
      by_cases q1 : e = 0
      · rw [if_pos q1]; subst q1; exact sx_catch C hNc (by decide) [⟨0, 10, 13, 19⟩] ⟨0, 10, 17, 13⟩ [] rfl (List.forall_mem_cons.mpr ⟨⟨by decide, 2, by decide, by decide, clk_19⟩, fun _ h => nomatch h⟩) rfl (by decide) clk_13 cst_0 (r_hand C dL_of_17 dL_of_19 dL_of_20 (by decide) (by decide) (by decide))
      rw [if_neg q1]
      exact sx_none) (fun r1 d2 => ?_)
  show SS G X 5 _ _ 8 [(0, rf G 0), (1, i9 p1), (2, i9 p2), (3, rf G 194)] [i9 r1, i9 0, rf G 194] d2 _
  refine r_i2l C dL_of_8 ?_
  refine r_last C dL_of_9 la_194 ly_194 (fun d3 => ?_)
  refine r_goto C 21 dL_of_10 (by decide) ?_
  refine r_iconst C dL_of_21 ?_
  exact r_iret C dL_of_22 (by decide) (by decide)
theorem dL_older_0 : decode cL_older 0 = .ok (.aload_n 0, 1) := by decide +kernel
theorem dL_older_1 : decode cL_older 1 = .ok (.iload_n 1, 1) := by decide +kernel
theorem dL_older_2 : decode cL_older 2 = .ok (.iload_n 2, 1) := by decide +kernel
theorem dL_older_3 : decode cL_older 3 = .ok (.invokevirtual 87, 3) := by decide +kernel
theorem dL_older_6 : decode cL_older 6 = .ok (.goto 9, 3) := by decide +kernel
theorem dL_older_9 : decode cL_older 9 = .ok (.astore_n 3, 1) := by decide +kernel
theorem dL_older_10 : decode cL_older 10 = .ok (.iconst 1, 1) := by decide +kernel
theorem dL_older_11 : decode cL_older 11 = .ok (.ireturn, 1) := by decide +kernel
theorem dL_older_12 : decode cL_older 12 = .ok (.astore_n 3, 1) := by decide +kernel
theorem dL_older_13 : decode cL_older 13 = .ok (.iconst 2, 1) := by decide +kernel
theorem dL_older_14 : decode cL_older 14 = .ok (.ireturn, 1) := by decide +kernel
theorem dL_older_15 : decode cL_older 15 = .ok (.iconst 0, 1) := by decide +kernel
theorem dL_older_16 : decode cL_older 16 = .ok (.ireturn, 1) := by decide +kernel
abbrev z_L_older : Z9 := (some .int, 1, 2, 12, 8, 144)
def m_L_older (p1 p2 : Int) (d : D9) : Option R9 := tc9 (m_X11_older_0 p1 p2 d) (fun r1 d2 => rt 0 d2) (fun e d => if e = 2 then rt 1 d else if e = 0 then rt 2 d else none)
set_option maxRecDepth 100000 in
theorem t_L_older {G : G9} {l : Launch} (h1 : va_D (A9 G) (wl G (fun _ _ => 0))) (h2 : l.stackTraces = false) (p1 p2 : Int) (d : D9) : MH G l yL_older cL_older 4 [(0, 6, 9, 19), (0, 6, 12, 13)] z_L_older [rf G 0, i9 p1, i9 p2] d (m_L_older p1 p2 d) := by
  refine mh_of (own := RL) (by decide) rfl (Nat.le_of_ble_eq_true rfl) h1 h2 [(0, rf G 0), (1, i9 p1), (2, i9 p2)] rfl (fun X hX C hNc => ?_)
  unfold m_L_older
  refine r_aload_n C 0 dL_older_0 rfl rfl ?_
  refine r_iload_n C 1 dL_older_1 rfl rfl ?_
  refine r_iload_n C 2 dL_older_2 rfl rfl ?_
  refine r_callC C [i9 p2, i9 p1, rf G 0] dL_older_3 (t_X11_older_0 C.h1 C.h2 p1 p2 d) mw_L_87 mv_X11_older la_0 ly_0 rfl (by decide) (by decide) (by decide) rfl rfl (Nat.le_of_ble_eq_true rfl) (fun e d => by
      by_cases q0 : e = 2
      · rw [if_pos q0]; subst q0; exact sx_catch C hNc (by decide) [] ⟨0, 6, 9, 19⟩ [⟨0, 6, 12, 13⟩] rfl (fun _ h => nomatch h) rfl (by decide) clk_19 cst_2 (r_hand_n C dL_older_9 dL_older_10 dL_older_11 rfl (by decide) (by decide) (by decide))
      rw [if_neg q0]
      by_cases q1 : e = 0
      · rw [if_pos q1]; subst q1; exact sx_catch C hNc (by decide) [⟨0, 6, 9, 19⟩] ⟨0, 6, 12, 13⟩ [] rfl (List.forall_mem_cons.mpr ⟨⟨by decide, 2, by decide, by decide, clk_19⟩, fun _ h => nomatch h⟩) rfl (by decide) clk_13 cst_0 (r_hand_n C dL_older_12 dL_older_13 dL_older_14 rfl (by decide) (by decide) (by decide))
      rw [if_neg q1]
      exact sx_none) (fun r1 d2 => ?_)
  show SS G X 4 _ _ 6 [(0, rf G 0), (1, i9 p1), (2, i9 p2)] [] d2 _
  refine r_goto C 15 dL_older_6 (by decide) ?_
  refine r_iconst C dL_older_15 ?_
  exact r_iret C dL_older_16 (by decide) (by decide)
theorem dL_over_0 : decode cL_over 0 = .ok (.aload_n 3, 1) := by decide +kernel
theorem dL_over_1 : decode cL_over 1 = .ok (.iconst 0, 1) := by decide +kernel
theorem dL_over_2 : decode cL_over 2 = .ok (.aload_n 0, 1) := by decide +kernel
theorem dL_over_3 : decode cL_over 3 = .ok (.iload_n 1, 1) := by decide +kernel
theorem dL_over_4 : decode cL_over 4 = .ok (.iload_n 2, 1) := by decide +kernel
theorem dL_over_5 : decode cL_over 5 = .ok (.invokevirtual 23, 3) := by decide +kernel
theorem dL_over_8 : decode cL_over 8 = .ok (.ifCond .eq 7, 3) := by decide +kernel
theorem dL_over_11 : decode cL_over 11 = .ok (.lconst 1, 1) := by decide +kernel
theorem dL_over_12 : decode cL_over 12 = .ok (.goto 4, 3) := by decide +kernel
theorem dL_over_15 : decode cL_over 15 = .ok (.lconst 0, 1) := by decide +kernel
theorem dL_over_16 : decode cL_over 16 = .ok (.lastore, 1) := by decide +kernel
theorem dL_over_17 : decode cL_over 17 = .ok (.goto 11, 3) := by decide +kernel
theorem dL_over_20 : decode cL_over 20 = .ok (.astore 4, 2) := by decide +kernel
theorem dL_over_22 : decode cL_over 22 = .ok (.iconst 1, 1) := by decide +kernel
theorem dL_over_23 : decode cL_over 23 = .ok (.ireturn, 1) := by decide +kernel
theorem dL_over_24 : decode cL_over 24 = .ok (.astore 4, 2) := by decide +kernel
theorem dL_over_26 : decode cL_over 26 = .ok (.iconst 2, 1) := by decide +kernel
theorem dL_over_27 : decode cL_over 27 = .ok (.ireturn, 1) := by decide +kernel
theorem dL_over_28 : decode cL_over 28 = .ok (.iconst 0, 1) := by decide +kernel
theorem dL_over_29 : decode cL_over 29 = .ok (.ireturn, 1) := by decide +kernel
abbrev z_L_over : Z9 := (some .int, 1, 3, 18, 8, 144)
def m_L_over (p1 p2 : Int) (d : D9) : Option R9 := tc9 (m_X11_over_0 p1 p2 d) (fun r1 d2 => if w32 r1 = 0 then sd d2 194 1 0 0 (fun d3 => rt 0 d3) else sd d2 194 1 0 1 (fun d4 => rt 0 d4)) (fun e d => if e = 2 then rt 1 d else if e = 0 then rt 2 d else none)
set_option maxRecDepth 100000 in
theorem t_L_over {G : G9} {l : Launch} (h1 : va_D (A9 G) (wl G (fun _ _ => 0))) (h2 : l.stackTraces = false) (p1 p2 : Int) (d : D9) : MH G l yL_over cL_over 5 [(0, 17, 20, 19), (0, 17, 24, 13)] z_L_over [rf G 0, i9 p1, i9 p2, rf G 194] d (m_L_over p1 p2 d) := by
  refine mh_of (own := RL) (by decide) rfl (Nat.le_of_ble_eq_true rfl) h1 h2 [(0, rf G 0), (1, i9 p1), (2, i9 p2), (3, rf G 194)] rfl (fun X hX C hNc => ?_)
  unfold m_L_over
  refine r_aload_n C 3 dL_over_0 rfl rfl ?_
  refine r_iconst C dL_over_1 ?_
  refine r_aload_n C 0 dL_over_2 rfl rfl ?_
  refine r_iload_n C 1 dL_over_3 rfl rfl ?_
  refine r_iload_n C 2 dL_over_4 rfl rfl ?_
  refine r_callC C [i9 p2, i9 p1, rf G 0, i9 0, rf G 194] dL_over_5 (t_X11_over_0 C.h1 C.h2 p1 p2 d) mw_L_23 mv_X11_over la_0 ly_0 rfl (by decide) (by decide) (by decide) rfl rfl (Nat.le_of_ble_eq_true rfl) (fun e d => by
      by_cases q0 : e = 2
      · rw [if_pos q0]; subst q0; exact sx_catch C hNc (by decide) [] ⟨0, 17, 20, 19⟩ [⟨0, 17, 24, 13⟩] rfl (fun _ h => nomatch h) rfl (by decide) clk_19 cst_2 (r_hand C dL_over_20 dL_over_22 dL_over_23 (by decide) (by decide) (by decide))
      rw [if_neg q0]
      by_cases q1 : e = 0
      · rw [if_pos q1]; subst q1; exact sx_catch C hNc (by decide) [⟨0, 17, 20, 19⟩] ⟨0, 17, 24, 13⟩ [] rfl (List.forall_mem_cons.mpr ⟨⟨by decide, 2, by decide, by decide, clk_19⟩, fun _ h => nomatch h⟩) rfl (by decide) clk_13 cst_0 (r_hand C dL_over_24 dL_over_26 dL_over_27 (by decide) (by decide) (by decide))
      rw [if_neg q1]
      exact sx_none) (fun r1 d2 => ?_)
  show SS G X 5 _ _ 8 [(0, rf G 0), (1, i9 p1), (2, i9 p2), (3, rf G 194)] [i9 r1, i9 0, rf G 194] d2 _
  refine r_if_eq C (b := 0) 15 dL_over_8 (by decide) (fun _ => ?_) (fun _ => ?_)
  · refine r_lconst C dL_over_15 (a := 0) rfl ?_
    refine r_last C dL_over_16 la_194 ly_194 (fun d3 => ?_)
    refine r_goto C 28 dL_over_17 (by decide) ?_
    refine r_iconst C dL_over_28 ?_
    exact r_iret C dL_over_29 (by decide) (by decide)
  · refine r_lconst C dL_over_11 (a := 1) rfl ?_
    refine r_goto C 16 dL_over_12 (by decide) ?_
    refine r_last C dL_over_16 la_194 ly_194 (fun d4 => ?_)
    refine r_goto C 28 dL_over_17 (by decide) ?_
    refine r_iconst C dL_over_28 ?_
    exact r_iret C dL_over_29 (by decide) (by decide)
theorem dL_paint_0 : decode cL_paint 0 = .ok (.aload 4, 2) := by decide +kernel
theorem dL_paint_2 : decode cL_paint 2 = .ok (.iconst 0, 1) := by decide +kernel
theorem dL_paint_3 : decode cL_paint 3 = .ok (.aload_n 0, 1) := by decide +kernel
theorem dL_paint_4 : decode cL_paint 4 = .ok (.iload_n 1, 1) := by decide +kernel
theorem dL_paint_5 : decode cL_paint 5 = .ok (.iload_n 2, 1) := by decide +kernel
theorem dL_paint_6 : decode cL_paint 6 = .ok (.iload_n 3, 1) := by decide +kernel
theorem dL_paint_7 : decode cL_paint 7 = .ok (.invokevirtual 7, 3) := by decide +kernel
theorem dL_paint_10 : decode cL_paint 10 = .ok (.i2l, 1) := by decide +kernel
theorem dL_paint_11 : decode cL_paint 11 = .ok (.lastore, 1) := by decide +kernel
theorem dL_paint_12 : decode cL_paint 12 = .ok (.goto 7, 3) := by decide +kernel
theorem dL_paint_15 : decode cL_paint 15 = .ok (.astore 5, 2) := by decide +kernel
theorem dL_paint_17 : decode cL_paint 17 = .ok (.iconst 1, 1) := by decide +kernel
theorem dL_paint_18 : decode cL_paint 18 = .ok (.ireturn, 1) := by decide +kernel
theorem dL_paint_19 : decode cL_paint 19 = .ok (.iconst 0, 1) := by decide +kernel
theorem dL_paint_20 : decode cL_paint 20 = .ok (.ireturn, 1) := by decide +kernel
abbrev z_L_paint : Z9 := (some .int, 1, 3, 18, 8, 145)
def m_L_paint (p1 p2 p3 : Int) (d : D9) : Option R9 := tc9 (m_X11_paint_0 p1 p2 p3 d) (fun r1 d2 => sd d2 194 1 0 (w32 r1) (fun d3 => rt 0 d3)) (fun e d => if e = 0 then rt 1 d else none)
set_option maxRecDepth 100000 in
theorem t_L_paint {G : G9} {l : Launch} (h1 : va_D (A9 G) (wl G (fun _ _ => 0))) (h2 : l.stackTraces = false) (p1 p2 p3 : Int) (d : D9) : MH G l yL_paint cL_paint 6 [(0, 12, 15, 13)] z_L_paint [rf G 0, i9 p1, i9 p2, i9 p3, rf G 194] d (m_L_paint p1 p2 p3 d) := by
  refine mh_of (own := RL) (by decide) rfl (Nat.le_of_ble_eq_true rfl) h1 h2 [(0, rf G 0), (1, i9 p1), (2, i9 p2), (3, i9 p3), (4, rf G 194)] rfl (fun X hX C hNc => ?_)
  unfold m_L_paint
  refine r_aload C 4 dL_paint_0 rfl ?_
  refine r_iconst C dL_paint_2 ?_
  refine r_aload_n C 0 dL_paint_3 rfl rfl ?_
  refine r_iload_n C 1 dL_paint_4 rfl rfl ?_
  refine r_iload_n C 2 dL_paint_5 rfl rfl ?_
  refine r_iload_n C 3 dL_paint_6 rfl rfl ?_
  refine r_callC C [i9 p3, i9 p2, i9 p1, rf G 0, i9 0, rf G 194] dL_paint_7 (t_X11_paint_0 C.h1 C.h2 p1 p2 p3 d) mw_L_7 mv_X11_paint la_0 ly_0 rfl (by decide) (by decide) (by decide) rfl rfl (Nat.le_of_ble_eq_true rfl) (fun e d => by
      by_cases q0 : e = 0
      · rw [if_pos q0]; subst q0; exact sx_catch C hNc (by decide) [] ⟨0, 12, 15, 13⟩ [] rfl (fun _ h => nomatch h) rfl (by decide) clk_13 cst_0 (r_hand C dL_paint_15 dL_paint_17 dL_paint_18 (by decide) (by decide) (by decide))
      rw [if_neg q0]
      exact sx_none) (fun r1 d2 => ?_)
  show SS G X 6 _ _ 10 [(0, rf G 0), (1, i9 p1), (2, i9 p2), (3, i9 p3), (4, rf G 194)] [i9 r1, i9 0, rf G 194] d2 _
  refine r_i2l C dL_paint_10 ?_
  refine r_last C dL_paint_11 la_194 ly_194 (fun d3 => ?_)
  refine r_goto C 19 dL_paint_12 (by decide) ?_
  refine r_iconst C dL_paint_19 ?_
  exact r_iret C dL_paint_20 (by decide) (by decide)
theorem dL_plan_0 : decode cL_plan 0 = .ok (.aload_n 3, 1) := by decide +kernel
theorem dL_plan_1 : decode cL_plan 1 = .ok (.iconst 0, 1) := by decide +kernel
theorem dL_plan_2 : decode cL_plan 2 = .ok (.aload_n 0, 1) := by decide +kernel
theorem dL_plan_3 : decode cL_plan 3 = .ok (.iload_n 1, 1) := by decide +kernel
theorem dL_plan_4 : decode cL_plan 4 = .ok (.iload_n 2, 1) := by decide +kernel
theorem dL_plan_5 : decode cL_plan 5 = .ok (.invokevirtual 134, 3) := by decide +kernel
theorem dL_plan_8 : decode cL_plan 8 = .ok (.i2l, 1) := by decide +kernel
theorem dL_plan_9 : decode cL_plan 9 = .ok (.lastore, 1) := by decide +kernel
theorem dL_plan_10 : decode cL_plan 10 = .ok (.goto 7, 3) := by decide +kernel
theorem dL_plan_13 : decode cL_plan 13 = .ok (.astore 4, 2) := by decide +kernel
theorem dL_plan_15 : decode cL_plan 15 = .ok (.iconst 1, 1) := by decide +kernel
theorem dL_plan_16 : decode cL_plan 16 = .ok (.ireturn, 1) := by decide +kernel
theorem dL_plan_17 : decode cL_plan 17 = .ok (.iconst 0, 1) := by decide +kernel
theorem dL_plan_18 : decode cL_plan 18 = .ok (.ireturn, 1) := by decide +kernel
abbrev z_L_plan : Z9 := (some .int, 1, 2, 12, 8, 144)
def m_L_plan (p1 p2 : Int) (d : D9) : Option R9 := tc9 (m_X11_plan_0 p1 p2 d) (fun r1 d2 => sd d2 194 1 0 (w32 r1) (fun d3 => rt 0 d3)) (fun e d => if e = 0 then rt 1 d else none)
set_option maxRecDepth 100000 in
theorem t_L_plan {G : G9} {l : Launch} (h1 : va_D (A9 G) (wl G (fun _ _ => 0))) (h2 : l.stackTraces = false) (p1 p2 : Int) (d : D9) : MH G l yL_plan cL_plan 5 [(0, 10, 13, 13)] z_L_plan [rf G 0, i9 p1, i9 p2, rf G 194] d (m_L_plan p1 p2 d) := by
  refine mh_of (own := RL) (by decide) rfl (Nat.le_of_ble_eq_true rfl) h1 h2 [(0, rf G 0), (1, i9 p1), (2, i9 p2), (3, rf G 194)] rfl (fun X hX C hNc => ?_)
  unfold m_L_plan
  refine r_aload_n C 3 dL_plan_0 rfl rfl ?_
  refine r_iconst C dL_plan_1 ?_
  refine r_aload_n C 0 dL_plan_2 rfl rfl ?_
  refine r_iload_n C 1 dL_plan_3 rfl rfl ?_
  refine r_iload_n C 2 dL_plan_4 rfl rfl ?_
  refine r_callC C [i9 p2, i9 p1, rf G 0, i9 0, rf G 194] dL_plan_5 (t_X11_plan_0 C.h1 C.h2 p1 p2 d) mw_L_134 mv_X11_plan la_0 ly_0 rfl (by decide) (by decide) (by decide) rfl rfl (Nat.le_of_ble_eq_true rfl) (fun e d => by
      by_cases q0 : e = 0
      · rw [if_pos q0]; subst q0; exact sx_catch C hNc (by decide) [] ⟨0, 10, 13, 13⟩ [] rfl (fun _ h => nomatch h) rfl (by decide) clk_13 cst_0 (r_hand C dL_plan_13 dL_plan_15 dL_plan_16 (by decide) (by decide) (by decide))
      rw [if_neg q0]
      exact sx_none) (fun r1 d2 => ?_)
  show SS G X 5 _ _ 8 [(0, rf G 0), (1, i9 p1), (2, i9 p2), (3, rf G 194)] [i9 r1, i9 0, rf G 194] d2 _
  refine r_i2l C dL_plan_8 ?_
  refine r_last C dL_plan_9 la_194 ly_194 (fun d3 => ?_)
  refine r_goto C 17 dL_plan_10 (by decide) ?_
  refine r_iconst C dL_plan_17 ?_
  exact r_iret C dL_plan_18 (by decide) (by decide)
theorem dL_pour_0 : decode cL_pour 0 = .ok (.aload_n 3, 1) := by decide +kernel
theorem dL_pour_1 : decode cL_pour 1 = .ok (.iconst 0, 1) := by decide +kernel
theorem dL_pour_2 : decode cL_pour 2 = .ok (.aload_n 0, 1) := by decide +kernel
theorem dL_pour_3 : decode cL_pour 3 = .ok (.iload_n 1, 1) := by decide +kernel
theorem dL_pour_4 : decode cL_pour 4 = .ok (.iload_n 2, 1) := by decide +kernel
theorem dL_pour_5 : decode cL_pour 5 = .ok (.invokevirtual 156, 3) := by decide +kernel
theorem dL_pour_8 : decode cL_pour 8 = .ok (.i2l, 1) := by decide +kernel
theorem dL_pour_9 : decode cL_pour 9 = .ok (.lastore, 1) := by decide +kernel
theorem dL_pour_10 : decode cL_pour 10 = .ok (.goto 19, 3) := by decide +kernel
theorem dL_pour_13 : decode cL_pour 13 = .ok (.astore 4, 2) := by decide +kernel
theorem dL_pour_15 : decode cL_pour 15 = .ok (.iconst 1, 1) := by decide +kernel
theorem dL_pour_16 : decode cL_pour 16 = .ok (.ireturn, 1) := by decide +kernel
theorem dL_pour_17 : decode cL_pour 17 = .ok (.astore 4, 2) := by decide +kernel
theorem dL_pour_19 : decode cL_pour 19 = .ok (.iconst 2, 1) := by decide +kernel
theorem dL_pour_20 : decode cL_pour 20 = .ok (.ireturn, 1) := by decide +kernel
theorem dL_pour_21 : decode cL_pour 21 = .ok (.astore 4, 2) := by decide +kernel
theorem dL_pour_23 : decode cL_pour 23 = .ok (.iconst 3, 1) := by decide +kernel
theorem dL_pour_24 : decode cL_pour 24 = .ok (.ireturn, 1) := by decide +kernel
theorem dL_pour_25 : decode cL_pour 25 = .ok (.astore 4, 2) := by decide +kernel
theorem dL_pour_27 : decode cL_pour 27 = .ok (.iconst 4, 1) := by decide +kernel
theorem dL_pour_28 : decode cL_pour 28 = .ok (.ireturn, 1) := by decide +kernel
theorem dL_pour_29 : decode cL_pour 29 = .ok (.iconst 0, 1) := by decide +kernel
theorem dL_pour_30 : decode cL_pour 30 = .ok (.ireturn, 1) := by decide +kernel
abbrev z_L_pour : Z9 := (some .int, 1, 4, 24, 9, 207)
def m_L_pour (p1 p2 : Int) (d : D9) : Option R9 := tc9 (m_X11_pour_0 p1 p2 d) (fun r1 d2 => sd d2 194 1 0 (w32 r1) (fun d3 => rt 0 d3)) (fun e d => if e = 2 then rt 1 d else if e = 1 then rt 2 d else if e = 3 then rt 3 d else if e = 0 then rt 4 d else none)
set_option maxRecDepth 100000 in
theorem t_L_pour {G : G9} {l : Launch} (h1 : va_D (A9 G) (wl G (fun _ _ => 0))) (h2 : l.stackTraces = false) (p1 p2 : Int) (d : D9) : MH G l yL_pour cL_pour 5 [(0, 10, 13, 19), (0, 10, 17, 21), (0, 10, 21, 154), (0, 10, 25, 13)] z_L_pour [rf G 0, i9 p1, i9 p2, rf G 194] d (m_L_pour p1 p2 d) := by
  refine mh_of (own := RL) (by decide) rfl (Nat.le_of_ble_eq_true rfl) h1 h2 [(0, rf G 0), (1, i9 p1), (2, i9 p2), (3, rf G 194)] rfl (fun X hX C hNc => ?_)
  unfold m_L_pour
  refine r_aload_n C 3 dL_pour_0 rfl rfl ?_
  refine r_iconst C dL_pour_1 ?_
  refine r_aload_n C 0 dL_pour_2 rfl rfl ?_
  refine r_iload_n C 1 dL_pour_3 rfl rfl ?_
  refine r_iload_n C 2 dL_pour_4 rfl rfl ?_
  refine r_callC C [i9 p2, i9 p1, rf G 0, i9 0, rf G 194] dL_pour_5 (t_X11_pour_0 C.h1 C.h2 p1 p2 d) mw_L_156 mv_X11_pour la_0 ly_0 rfl (by decide) (by decide) (by decide) rfl rfl (Nat.le_of_ble_eq_true rfl) (fun e d => by
      by_cases q0 : e = 2
      · rw [if_pos q0]; subst q0; exact sx_catch C hNc (by decide) [] ⟨0, 10, 13, 19⟩ [⟨0, 10, 17, 21⟩, ⟨0, 10, 21, 154⟩, ⟨0, 10, 25, 13⟩] rfl (fun _ h => nomatch h) rfl (by decide) clk_19 cst_2 (r_hand C dL_pour_13 dL_pour_15 dL_pour_16 (by decide) (by decide) (by decide))
      rw [if_neg q0]
      by_cases q1 : e = 1
      · rw [if_pos q1]; subst q1; exact sx_catch C hNc (by decide) [⟨0, 10, 13, 19⟩] ⟨0, 10, 17, 21⟩ [⟨0, 10, 21, 154⟩, ⟨0, 10, 25, 13⟩] rfl (List.forall_mem_cons.mpr ⟨⟨by decide, 2, by decide, by decide, clk_19⟩, fun _ h => nomatch h⟩) rfl (by decide) clk_21 cst_1 (r_hand C dL_pour_17 dL_pour_19 dL_pour_20 (by decide) (by decide) (by decide))
      rw [if_neg q1]
      by_cases q2 : e = 3
      · rw [if_pos q2]; subst q2; exact sx_catch C hNc (by decide) [⟨0, 10, 13, 19⟩, ⟨0, 10, 17, 21⟩] ⟨0, 10, 21, 154⟩ [⟨0, 10, 25, 13⟩] rfl (List.forall_mem_cons.mpr ⟨⟨by decide, 2, by decide, by decide, clk_19⟩, List.forall_mem_cons.mpr ⟨⟨by decide, 1, by decide, by decide, clk_21⟩, fun _ h => nomatch h⟩⟩) rfl (by decide) clk_154 cst_3 (r_hand C dL_pour_21 dL_pour_23 dL_pour_24 (by decide) (by decide) (by decide))
      rw [if_neg q2]
      by_cases q3 : e = 0
      · rw [if_pos q3]; subst q3; exact sx_catch C hNc (by decide) [⟨0, 10, 13, 19⟩, ⟨0, 10, 17, 21⟩, ⟨0, 10, 21, 154⟩] ⟨0, 10, 25, 13⟩ [] rfl (List.forall_mem_cons.mpr ⟨⟨by decide, 2, by decide, by decide, clk_19⟩, List.forall_mem_cons.mpr ⟨⟨by decide, 1, by decide, by decide, clk_21⟩, List.forall_mem_cons.mpr ⟨⟨by decide, 3, by decide, by decide, clk_154⟩, fun _ h => nomatch h⟩⟩⟩) rfl (by decide) clk_13 cst_0 (r_hand C dL_pour_25 dL_pour_27 dL_pour_28 (by decide) (by decide) (by decide))
      rw [if_neg q3]
      exact sx_none) (fun r1 d2 => ?_)
  show SS G X 5 _ _ 8 [(0, rf G 0), (1, i9 p1), (2, i9 p2), (3, rf G 194)] [i9 r1, i9 0, rf G 194] d2 _
  refine r_i2l C dL_pour_8 ?_
  refine r_last C dL_pour_9 la_194 ly_194 (fun d3 => ?_)
  refine r_goto C 29 dL_pour_10 (by decide) ?_
  refine r_iconst C dL_pour_29 ?_
  exact r_iret C dL_pour_30 (by decide) (by decide)
theorem dL_restore_0 : decode cL_restore 0 = .ok (.aload_n 0, 1) := by decide +kernel
theorem dL_restore_1 : decode cL_restore 1 = .ok (.iload_n 1, 1) := by decide +kernel
theorem dL_restore_2 : decode cL_restore 2 = .ok (.invokevirtual 162, 3) := by decide +kernel
theorem dL_restore_5 : decode cL_restore 5 = .ok (.goto 9, 3) := by decide +kernel
theorem dL_restore_8 : decode cL_restore 8 = .ok (.astore_n 2, 1) := by decide +kernel
theorem dL_restore_9 : decode cL_restore 9 = .ok (.iconst 1, 1) := by decide +kernel
theorem dL_restore_10 : decode cL_restore 10 = .ok (.ireturn, 1) := by decide +kernel
theorem dL_restore_11 : decode cL_restore 11 = .ok (.astore_n 2, 1) := by decide +kernel
theorem dL_restore_12 : decode cL_restore 12 = .ok (.iconst 2, 1) := by decide +kernel
theorem dL_restore_13 : decode cL_restore 13 = .ok (.ireturn, 1) := by decide +kernel
theorem dL_restore_14 : decode cL_restore 14 = .ok (.iconst 0, 1) := by decide +kernel
theorem dL_restore_15 : decode cL_restore 15 = .ok (.ireturn, 1) := by decide +kernel
abbrev z_L_restore : Z9 := (some .int, 1, 2, 12, 8, 285)
def m_L_restore (p1 : Int) (d : D9) : Option R9 := tc9 (m_X11_restore_0 p1 d) (fun r1 d2 => rt 0 d2) (fun e d => if e = 2 then rt 1 d else if e = 1 then rt 2 d else none)
set_option maxRecDepth 100000 in
theorem t_L_restore {G : G9} {l : Launch} (h1 : va_D (A9 G) (wl G (fun _ _ => 0))) (h2 : l.stackTraces = false) (p1 : Int) (d : D9) : MH G l yL_restore cL_restore 3 [(0, 5, 8, 19), (0, 5, 11, 21)] z_L_restore [rf G 0, i9 p1] d (m_L_restore p1 d) := by
  refine mh_of (own := RL) (by decide) rfl (Nat.le_of_ble_eq_true rfl) h1 h2 [(0, rf G 0), (1, i9 p1)] rfl (fun X hX C hNc => ?_)
  unfold m_L_restore
  refine r_aload_n C 0 dL_restore_0 rfl rfl ?_
  refine r_iload_n C 1 dL_restore_1 rfl rfl ?_
  refine r_callC C [i9 p1, rf G 0] dL_restore_2 (t_X11_restore_0 C.h1 C.h2 p1 d) mw_L_162 mv_X11_restore la_0 ly_0 rfl (by decide) (by decide) (by decide) rfl rfl (Nat.le_of_ble_eq_true rfl) (fun e d => by
      by_cases q0 : e = 2
      · rw [if_pos q0]; subst q0; exact sx_catch C hNc (by decide) [] ⟨0, 5, 8, 19⟩ [⟨0, 5, 11, 21⟩] rfl (fun _ h => nomatch h) rfl (by decide) clk_19 cst_2 (r_hand_n C dL_restore_8 dL_restore_9 dL_restore_10 rfl (by decide) (by decide) (by decide))
      rw [if_neg q0]
      by_cases q1 : e = 1
      · rw [if_pos q1]; subst q1; exact sx_catch C hNc (by decide) [⟨0, 5, 8, 19⟩] ⟨0, 5, 11, 21⟩ [] rfl (List.forall_mem_cons.mpr ⟨⟨by decide, 2, by decide, by decide, clk_19⟩, fun _ h => nomatch h⟩) rfl (by decide) clk_21 cst_1 (r_hand_n C dL_restore_11 dL_restore_12 dL_restore_13 rfl (by decide) (by decide) (by decide))
      rw [if_neg q1]
      exact sx_none) (fun r1 d2 => ?_)
  show SS G X 3 _ _ 5 [(0, rf G 0), (1, i9 p1)] [] d2 _
  refine r_goto C 14 dL_restore_5 (by decide) ?_
  refine r_iconst C dL_restore_14 ?_
  exact r_iret C dL_restore_15 (by decide) (by decide)
theorem dL_rests_0 : decode cL_rests 0 = .ok (.aload_n 2, 1) := by decide +kernel
theorem dL_rests_1 : decode cL_rests 1 = .ok (.iconst 0, 1) := by decide +kernel
theorem dL_rests_2 : decode cL_rests 2 = .ok (.aload_n 0, 1) := by decide +kernel
theorem dL_rests_3 : decode cL_rests 3 = .ok (.iload_n 1, 1) := by decide +kernel
theorem dL_rests_4 : decode cL_rests 4 = .ok (.invokevirtual 84, 3) := by decide +kernel
theorem dL_rests_7 : decode cL_rests 7 = .ok (.i2l, 1) := by decide +kernel
theorem dL_rests_8 : decode cL_rests 8 = .ok (.lastore, 1) := by decide +kernel
theorem dL_rests_9 : decode cL_rests 9 = .ok (.goto 6, 3) := by decide +kernel
theorem dL_rests_12 : decode cL_rests 12 = .ok (.astore_n 3, 1) := by decide +kernel
theorem dL_rests_13 : decode cL_rests 13 = .ok (.iconst 1, 1) := by decide +kernel
theorem dL_rests_14 : decode cL_rests 14 = .ok (.ireturn, 1) := by decide +kernel
theorem dL_rests_15 : decode cL_rests 15 = .ok (.iconst 0, 1) := by decide +kernel
theorem dL_rests_16 : decode cL_rests 16 = .ok (.ireturn, 1) := by decide +kernel
abbrev z_L_rests : Z9 := (some .int, 1, 1, 6, 8, 142)
def m_L_rests (p1 : Int) (d : D9) : Option R9 := tc9 (m_X11_rests_0 p1 d) (fun r1 d2 => sd d2 194 1 0 (w32 r1) (fun d3 => rt 0 d3)) (fun e d => if e = 2 then rt 1 d else none)
set_option maxRecDepth 100000 in
theorem t_L_rests {G : G9} {l : Launch} (h1 : va_D (A9 G) (wl G (fun _ _ => 0))) (h2 : l.stackTraces = false) (p1 : Int) (d : D9) : MH G l yL_rests cL_rests 4 [(0, 9, 12, 19)] z_L_rests [rf G 0, i9 p1, rf G 194] d (m_L_rests p1 d) := by
  refine mh_of (own := RL) (by decide) rfl (Nat.le_of_ble_eq_true rfl) h1 h2 [(0, rf G 0), (1, i9 p1), (2, rf G 194)] rfl (fun X hX C hNc => ?_)
  unfold m_L_rests
  refine r_aload_n C 2 dL_rests_0 rfl rfl ?_
  refine r_iconst C dL_rests_1 ?_
  refine r_aload_n C 0 dL_rests_2 rfl rfl ?_
  refine r_iload_n C 1 dL_rests_3 rfl rfl ?_
  refine r_callC C [i9 p1, rf G 0, i9 0, rf G 194] dL_rests_4 (t_X11_rests_0 C.h1 C.h2 p1 d) mw_L_84 mv_X11_rests la_0 ly_0 rfl (by decide) (by decide) (by decide) rfl rfl (Nat.le_of_ble_eq_true rfl) (fun e d => by
      by_cases q0 : e = 2
      · rw [if_pos q0]; subst q0; exact sx_catch C hNc (by decide) [] ⟨0, 9, 12, 19⟩ [] rfl (fun _ h => nomatch h) rfl (by decide) clk_19 cst_2 (r_hand_n C dL_rests_12 dL_rests_13 dL_rests_14 rfl (by decide) (by decide) (by decide))
      rw [if_neg q0]
      exact sx_none) (fun r1 d2 => ?_)
  show SS G X 4 _ _ 7 [(0, rf G 0), (1, i9 p1), (2, rf G 194)] [i9 r1, i9 0, rf G 194] d2 _
  refine r_i2l C dL_rests_7 ?_
  refine r_last C dL_rests_8 la_194 ly_194 (fun d3 => ?_)
  refine r_goto C 15 dL_rests_9 (by decide) ?_
  refine r_iconst C dL_rests_15 ?_
  exact r_iret C dL_rests_16 (by decide) (by decide)
theorem dL_ring_0 : decode cL_ring 0 = .ok (.aload_n 2, 1) := by decide +kernel
theorem dL_ring_1 : decode cL_ring 1 = .ok (.iconst 0, 1) := by decide +kernel
theorem dL_ring_2 : decode cL_ring 2 = .ok (.aload_n 0, 1) := by decide +kernel
theorem dL_ring_3 : decode cL_ring 3 = .ok (.iload_n 1, 1) := by decide +kernel
theorem dL_ring_4 : decode cL_ring 4 = .ok (.invokevirtual 77, 3) := by decide +kernel
theorem dL_ring_7 : decode cL_ring 7 = .ok (.ifCond .eq 7, 3) := by decide +kernel
theorem dL_ring_10 : decode cL_ring 10 = .ok (.lconst 1, 1) := by decide +kernel
theorem dL_ring_11 : decode cL_ring 11 = .ok (.goto 4, 3) := by decide +kernel
theorem dL_ring_14 : decode cL_ring 14 = .ok (.lconst 0, 1) := by decide +kernel
theorem dL_ring_15 : decode cL_ring 15 = .ok (.lastore, 1) := by decide +kernel
theorem dL_ring_16 : decode cL_ring 16 = .ok (.goto 6, 3) := by decide +kernel
theorem dL_ring_19 : decode cL_ring 19 = .ok (.astore_n 3, 1) := by decide +kernel
theorem dL_ring_20 : decode cL_ring 20 = .ok (.iconst 1, 1) := by decide +kernel
theorem dL_ring_21 : decode cL_ring 21 = .ok (.ireturn, 1) := by decide +kernel
theorem dL_ring_22 : decode cL_ring 22 = .ok (.iconst 0, 1) := by decide +kernel
theorem dL_ring_23 : decode cL_ring 23 = .ok (.ireturn, 1) := by decide +kernel
abbrev z_L_ring : Z9 := (some .int, 1, 1, 6, 8, 142)
def m_L_ring (p1 : Int) (d : D9) : Option R9 := tc9 (m_X11_ring_0 p1 d) (fun r1 d2 => if w32 r1 = 0 then sd d2 194 1 0 0 (fun d3 => rt 0 d3) else sd d2 194 1 0 1 (fun d4 => rt 0 d4)) (fun e d => if e = 2 then rt 1 d else none)
set_option maxRecDepth 100000 in
theorem t_L_ring {G : G9} {l : Launch} (h1 : va_D (A9 G) (wl G (fun _ _ => 0))) (h2 : l.stackTraces = false) (p1 : Int) (d : D9) : MH G l yL_ring cL_ring 4 [(0, 16, 19, 19)] z_L_ring [rf G 0, i9 p1, rf G 194] d (m_L_ring p1 d) := by
  refine mh_of (own := RL) (by decide) rfl (Nat.le_of_ble_eq_true rfl) h1 h2 [(0, rf G 0), (1, i9 p1), (2, rf G 194)] rfl (fun X hX C hNc => ?_)
  unfold m_L_ring
  refine r_aload_n C 2 dL_ring_0 rfl rfl ?_
  refine r_iconst C dL_ring_1 ?_
  refine r_aload_n C 0 dL_ring_2 rfl rfl ?_
  refine r_iload_n C 1 dL_ring_3 rfl rfl ?_
  refine r_callC C [i9 p1, rf G 0, i9 0, rf G 194] dL_ring_4 (t_X11_ring_0 C.h1 C.h2 p1 d) mw_L_77 mv_X11_ring la_0 ly_0 rfl (by decide) (by decide) (by decide) rfl rfl (Nat.le_of_ble_eq_true rfl) (fun e d => by
      by_cases q0 : e = 2
      · rw [if_pos q0]; subst q0; exact sx_catch C hNc (by decide) [] ⟨0, 16, 19, 19⟩ [] rfl (fun _ h => nomatch h) rfl (by decide) clk_19 cst_2 (r_hand_n C dL_ring_19 dL_ring_20 dL_ring_21 rfl (by decide) (by decide) (by decide))
      rw [if_neg q0]
      exact sx_none) (fun r1 d2 => ?_)
  show SS G X 4 _ _ 7 [(0, rf G 0), (1, i9 p1), (2, rf G 194)] [i9 r1, i9 0, rf G 194] d2 _
  refine r_if_eq C (b := 0) 14 dL_ring_7 (by decide) (fun _ => ?_) (fun _ => ?_)
  · refine r_lconst C dL_ring_14 (a := 0) rfl ?_
    refine r_last C dL_ring_15 la_194 ly_194 (fun d3 => ?_)
    refine r_goto C 22 dL_ring_16 (by decide) ?_
    refine r_iconst C dL_ring_22 ?_
    exact r_iret C dL_ring_23 (by decide) (by decide)
  · refine r_lconst C dL_ring_10 (a := 1) rfl ?_
    refine r_goto C 15 dL_ring_11 (by decide) ?_
    refine r_last C dL_ring_15 la_194 ly_194 (fun d4 => ?_)
    refine r_goto C 22 dL_ring_16 (by decide) ?_
    refine r_iconst C dL_ring_22 ?_
    exact r_iret C dL_ring_23 (by decide) (by decide)
theorem dL_ringed_0 : decode cL_ringed 0 = .ok (.aload_n 3, 1) := by decide +kernel
theorem dL_ringed_1 : decode cL_ringed 1 = .ok (.iconst 0, 1) := by decide +kernel
theorem dL_ringed_2 : decode cL_ringed 2 = .ok (.aload_n 0, 1) := by decide +kernel
theorem dL_ringed_3 : decode cL_ringed 3 = .ok (.iload_n 1, 1) := by decide +kernel
theorem dL_ringed_4 : decode cL_ringed 4 = .ok (.iload_n 2, 1) := by decide +kernel
theorem dL_ringed_5 : decode cL_ringed 5 = .ok (.invokevirtual 103, 3) := by decide +kernel
theorem dL_ringed_8 : decode cL_ringed 8 = .ok (.ifCond .eq 7, 3) := by decide +kernel
theorem dL_ringed_11 : decode cL_ringed 11 = .ok (.lconst 1, 1) := by decide +kernel
theorem dL_ringed_12 : decode cL_ringed 12 = .ok (.goto 4, 3) := by decide +kernel
theorem dL_ringed_15 : decode cL_ringed 15 = .ok (.lconst 0, 1) := by decide +kernel
theorem dL_ringed_16 : decode cL_ringed 16 = .ok (.lastore, 1) := by decide +kernel
theorem dL_ringed_17 : decode cL_ringed 17 = .ok (.goto 15, 3) := by decide +kernel
theorem dL_ringed_20 : decode cL_ringed 20 = .ok (.astore 4, 2) := by decide +kernel
theorem dL_ringed_22 : decode cL_ringed 22 = .ok (.iconst 1, 1) := by decide +kernel
theorem dL_ringed_23 : decode cL_ringed 23 = .ok (.ireturn, 1) := by decide +kernel
theorem dL_ringed_24 : decode cL_ringed 24 = .ok (.astore 4, 2) := by decide +kernel
theorem dL_ringed_26 : decode cL_ringed 26 = .ok (.iconst 2, 1) := by decide +kernel
theorem dL_ringed_27 : decode cL_ringed 27 = .ok (.ireturn, 1) := by decide +kernel
theorem dL_ringed_28 : decode cL_ringed 28 = .ok (.astore 4, 2) := by decide +kernel
theorem dL_ringed_30 : decode cL_ringed 30 = .ok (.iconst 3, 1) := by decide +kernel
theorem dL_ringed_31 : decode cL_ringed 31 = .ok (.ireturn, 1) := by decide +kernel
theorem dL_ringed_32 : decode cL_ringed 32 = .ok (.iconst 0, 1) := by decide +kernel
theorem dL_ringed_33 : decode cL_ringed 33 = .ok (.ireturn, 1) := by decide +kernel
abbrev z_L_ringed : Z9 := (some .int, 1, 3, 18, 9, 164)
def m_L_ringed (p1 p2 : Int) (d : D9) : Option R9 := tc9 (m_X11_ringed_0 p1 p2 d) (fun r1 d2 => if w32 r1 = 0 then sd d2 194 1 0 0 (fun d3 => rt 0 d3) else sd d2 194 1 0 1 (fun d4 => rt 0 d4)) (fun e d => if e = 2 then rt 1 d else if e = 1 then rt 2 d else if e = 0 then rt 3 d else none)
set_option maxRecDepth 100000 in
theorem t_L_ringed {G : G9} {l : Launch} (h1 : va_D (A9 G) (wl G (fun _ _ => 0))) (h2 : l.stackTraces = false) (p1 p2 : Int) (d : D9) : MH G l yL_ringed cL_ringed 5 [(0, 17, 20, 19), (0, 17, 24, 21), (0, 17, 28, 13)] z_L_ringed [rf G 0, i9 p1, i9 p2, rf G 194] d (m_L_ringed p1 p2 d) := by
  refine mh_of (own := RL) (by decide) rfl (Nat.le_of_ble_eq_true rfl) h1 h2 [(0, rf G 0), (1, i9 p1), (2, i9 p2), (3, rf G 194)] rfl (fun X hX C hNc => ?_)
  unfold m_L_ringed
  refine r_aload_n C 3 dL_ringed_0 rfl rfl ?_
  refine r_iconst C dL_ringed_1 ?_
  refine r_aload_n C 0 dL_ringed_2 rfl rfl ?_
  refine r_iload_n C 1 dL_ringed_3 rfl rfl ?_
  refine r_iload_n C 2 dL_ringed_4 rfl rfl ?_
  refine r_callC C [i9 p2, i9 p1, rf G 0, i9 0, rf G 194] dL_ringed_5 (t_X11_ringed_0 C.h1 C.h2 p1 p2 d) mw_L_103 mv_X11_ringed la_0 ly_0 rfl (by decide) (by decide) (by decide) rfl rfl (Nat.le_of_ble_eq_true rfl) (fun e d => by
      by_cases q0 : e = 2
      · rw [if_pos q0]; subst q0; exact sx_catch C hNc (by decide) [] ⟨0, 17, 20, 19⟩ [⟨0, 17, 24, 21⟩, ⟨0, 17, 28, 13⟩] rfl (fun _ h => nomatch h) rfl (by decide) clk_19 cst_2 (r_hand C dL_ringed_20 dL_ringed_22 dL_ringed_23 (by decide) (by decide) (by decide))
      rw [if_neg q0]
      by_cases q1 : e = 1
      · rw [if_pos q1]; subst q1; exact sx_catch C hNc (by decide) [⟨0, 17, 20, 19⟩] ⟨0, 17, 24, 21⟩ [⟨0, 17, 28, 13⟩] rfl (List.forall_mem_cons.mpr ⟨⟨by decide, 2, by decide, by decide, clk_19⟩, fun _ h => nomatch h⟩) rfl (by decide) clk_21 cst_1 (r_hand C dL_ringed_24 dL_ringed_26 dL_ringed_27 (by decide) (by decide) (by decide))
      rw [if_neg q1]
      by_cases q2 : e = 0
      · rw [if_pos q2]; subst q2; exact sx_catch C hNc (by decide) [⟨0, 17, 20, 19⟩, ⟨0, 17, 24, 21⟩] ⟨0, 17, 28, 13⟩ [] rfl (List.forall_mem_cons.mpr ⟨⟨by decide, 2, by decide, by decide, clk_19⟩, List.forall_mem_cons.mpr ⟨⟨by decide, 1, by decide, by decide, clk_21⟩, fun _ h => nomatch h⟩⟩) rfl (by decide) clk_13 cst_0 (r_hand C dL_ringed_28 dL_ringed_30 dL_ringed_31 (by decide) (by decide) (by decide))
      rw [if_neg q2]
      exact sx_none) (fun r1 d2 => ?_)
  show SS G X 5 _ _ 8 [(0, rf G 0), (1, i9 p1), (2, i9 p2), (3, rf G 194)] [i9 r1, i9 0, rf G 194] d2 _
  refine r_if_eq C (b := 0) 15 dL_ringed_8 (by decide) (fun _ => ?_) (fun _ => ?_)
  · refine r_lconst C dL_ringed_15 (a := 0) rfl ?_
    refine r_last C dL_ringed_16 la_194 ly_194 (fun d3 => ?_)
    refine r_goto C 32 dL_ringed_17 (by decide) ?_
    refine r_iconst C dL_ringed_32 ?_
    exact r_iret C dL_ringed_33 (by decide) (by decide)
  · refine r_lconst C dL_ringed_11 (a := 1) rfl ?_
    refine r_goto C 16 dL_ringed_12 (by decide) ?_
    refine r_last C dL_ringed_16 la_194 ly_194 (fun d4 => ?_)
    refine r_goto C 32 dL_ringed_17 (by decide) ?_
    refine r_iconst C dL_ringed_32 ?_
    exact r_iret C dL_ringed_33 (by decide) (by decide)
theorem dL_say_0 : decode cL_say 0 = .ok (.aload_n 2, 1) := by decide +kernel
theorem dL_say_1 : decode cL_say 1 = .ok (.iconst 0, 1) := by decide +kernel
theorem dL_say_2 : decode cL_say 2 = .ok (.aload_n 0, 1) := by decide +kernel
theorem dL_say_3 : decode cL_say 3 = .ok (.iload_n 1, 1) := by decide +kernel
theorem dL_say_4 : decode cL_say 4 = .ok (.invokevirtual 143, 3) := by decide +kernel
theorem dL_say_7 : decode cL_say 7 = .ok (.i2l, 1) := by decide +kernel
theorem dL_say_8 : decode cL_say 8 = .ok (.lastore, 1) := by decide +kernel
theorem dL_say_9 : decode cL_say 9 = .ok (.goto 6, 3) := by decide +kernel
theorem dL_say_12 : decode cL_say 12 = .ok (.astore_n 3, 1) := by decide +kernel
theorem dL_say_13 : decode cL_say 13 = .ok (.iconst 1, 1) := by decide +kernel
theorem dL_say_14 : decode cL_say 14 = .ok (.ireturn, 1) := by decide +kernel
theorem dL_say_15 : decode cL_say 15 = .ok (.iconst 0, 1) := by decide +kernel
theorem dL_say_16 : decode cL_say 16 = .ok (.ireturn, 1) := by decide +kernel
abbrev z_L_say : Z9 := (some .int, 1, 1, 6, 8, 175)
def m_L_say (p1 : Int) (d : D9) : Option R9 := tc9 (m_X11_say_0 p1 d) (fun r1 d2 => sd d2 194 1 0 (w32 r1) (fun d3 => rt 0 d3)) (fun e d => if e = 2 then rt 1 d else none)
set_option maxRecDepth 100000 in
theorem t_L_say {G : G9} {l : Launch} (h1 : va_D (A9 G) (wl G (fun _ _ => 0))) (h2 : l.stackTraces = false) (p1 : Int) (d : D9) : MH G l yL_say cL_say 4 [(0, 9, 12, 19)] z_L_say [rf G 0, i9 p1, rf G 194] d (m_L_say p1 d) := by
  refine mh_of (own := RL) (by decide) rfl (Nat.le_of_ble_eq_true rfl) h1 h2 [(0, rf G 0), (1, i9 p1), (2, rf G 194)] rfl (fun X hX C hNc => ?_)
  unfold m_L_say
  refine r_aload_n C 2 dL_say_0 rfl rfl ?_
  refine r_iconst C dL_say_1 ?_
  refine r_aload_n C 0 dL_say_2 rfl rfl ?_
  refine r_iload_n C 1 dL_say_3 rfl rfl ?_
  refine r_callC C [i9 p1, rf G 0, i9 0, rf G 194] dL_say_4 (t_X11_say_0 C.h1 C.h2 p1 d) mw_L_143 mv_X11_say la_0 ly_0 rfl (by decide) (by decide) (by decide) rfl rfl (Nat.le_of_ble_eq_true rfl) (fun e d => by
      by_cases q0 : e = 2
      · rw [if_pos q0]; subst q0; exact sx_catch C hNc (by decide) [] ⟨0, 9, 12, 19⟩ [] rfl (fun _ h => nomatch h) rfl (by decide) clk_19 cst_2 (r_hand_n C dL_say_12 dL_say_13 dL_say_14 rfl (by decide) (by decide) (by decide))
      rw [if_neg q0]
      exact sx_none) (fun r1 d2 => ?_)
  show SS G X 4 _ _ 7 [(0, rf G 0), (1, i9 p1), (2, rf G 194)] [i9 r1, i9 0, rf G 194] d2 _
  refine r_i2l C dL_say_7 ?_
  refine r_last C dL_say_8 la_194 ly_194 (fun d3 => ?_)
  refine r_goto C 15 dL_say_9 (by decide) ?_
  refine r_iconst C dL_say_15 ?_
  exact r_iret C dL_say_16 (by decide) (by decide)
theorem dL_says_0 : decode cL_says 0 = .ok (.aload_n 2, 1) := by decide +kernel
theorem dL_says_1 : decode cL_says 1 = .ok (.iconst 0, 1) := by decide +kernel
theorem dL_says_2 : decode cL_says 2 = .ok (.aload_n 0, 1) := by decide +kernel
theorem dL_says_3 : decode cL_says 3 = .ok (.iload_n 1, 1) := by decide +kernel
theorem dL_says_4 : decode cL_says 4 = .ok (.invokevirtual 58, 3) := by decide +kernel
theorem dL_says_7 : decode cL_says 7 = .ok (.i2l, 1) := by decide +kernel
theorem dL_says_8 : decode cL_says 8 = .ok (.lastore, 1) := by decide +kernel
theorem dL_says_9 : decode cL_says 9 = .ok (.goto 6, 3) := by decide +kernel
theorem dL_says_12 : decode cL_says 12 = .ok (.astore_n 3, 1) := by decide +kernel
theorem dL_says_13 : decode cL_says 13 = .ok (.iconst 1, 1) := by decide +kernel
theorem dL_says_14 : decode cL_says 14 = .ok (.ireturn, 1) := by decide +kernel
theorem dL_says_15 : decode cL_says 15 = .ok (.iconst 0, 1) := by decide +kernel
theorem dL_says_16 : decode cL_says 16 = .ok (.ireturn, 1) := by decide +kernel
abbrev z_L_says : Z9 := (some .int, 1, 1, 6, 8, 142)
def m_L_says (p1 : Int) (d : D9) : Option R9 := tc9 (m_X11_says_0 p1 d) (fun r1 d2 => sd d2 194 1 0 (w32 r1) (fun d3 => rt 0 d3)) (fun e d => if e = 2 then rt 1 d else none)
set_option maxRecDepth 100000 in
theorem t_L_says {G : G9} {l : Launch} (h1 : va_D (A9 G) (wl G (fun _ _ => 0))) (h2 : l.stackTraces = false) (p1 : Int) (d : D9) : MH G l yL_says cL_says 4 [(0, 9, 12, 19)] z_L_says [rf G 0, i9 p1, rf G 194] d (m_L_says p1 d) := by
  refine mh_of (own := RL) (by decide) rfl (Nat.le_of_ble_eq_true rfl) h1 h2 [(0, rf G 0), (1, i9 p1), (2, rf G 194)] rfl (fun X hX C hNc => ?_)
  unfold m_L_says
  refine r_aload_n C 2 dL_says_0 rfl rfl ?_
  refine r_iconst C dL_says_1 ?_
  refine r_aload_n C 0 dL_says_2 rfl rfl ?_
  refine r_iload_n C 1 dL_says_3 rfl rfl ?_
  refine r_callC C [i9 p1, rf G 0, i9 0, rf G 194] dL_says_4 (t_X11_says_0 C.h1 C.h2 p1 d) mw_L_58 mv_X11_says la_0 ly_0 rfl (by decide) (by decide) (by decide) rfl rfl (Nat.le_of_ble_eq_true rfl) (fun e d => by
      by_cases q0 : e = 2
      · rw [if_pos q0]; subst q0; exact sx_catch C hNc (by decide) [] ⟨0, 9, 12, 19⟩ [] rfl (fun _ h => nomatch h) rfl (by decide) clk_19 cst_2 (r_hand_n C dL_says_12 dL_says_13 dL_says_14 rfl (by decide) (by decide) (by decide))
      rw [if_neg q0]
      exact sx_none) (fun r1 d2 => ?_)
  show SS G X 4 _ _ 7 [(0, rf G 0), (1, i9 p1), (2, rf G 194)] [i9 r1, i9 0, rf G 194] d2 _
  refine r_i2l C dL_says_7 ?_
  refine r_last C dL_says_8 la_194 ly_194 (fun d3 => ?_)
  refine r_goto C 15 dL_says_9 (by decide) ?_
  refine r_iconst C dL_says_15 ?_
  exact r_iret C dL_says_16 (by decide) (by decide)
theorem dL_scrapers_0 : decode cL_scrapers 0 = .ok (.aload_n 2, 1) := by decide +kernel
theorem dL_scrapers_1 : decode cL_scrapers 1 = .ok (.iconst 0, 1) := by decide +kernel
theorem dL_scrapers_2 : decode cL_scrapers 2 = .ok (.aload_n 0, 1) := by decide +kernel
theorem dL_scrapers_3 : decode cL_scrapers 3 = .ok (.iload_n 1, 1) := by decide +kernel
theorem dL_scrapers_4 : decode cL_scrapers 4 = .ok (.invokevirtual 45, 3) := by decide +kernel
theorem dL_scrapers_7 : decode cL_scrapers 7 = .ok (.i2l, 1) := by decide +kernel
theorem dL_scrapers_8 : decode cL_scrapers 8 = .ok (.lastore, 1) := by decide +kernel
theorem dL_scrapers_9 : decode cL_scrapers 9 = .ok (.goto 6, 3) := by decide +kernel
theorem dL_scrapers_12 : decode cL_scrapers 12 = .ok (.astore_n 3, 1) := by decide +kernel
theorem dL_scrapers_13 : decode cL_scrapers 13 = .ok (.iconst 1, 1) := by decide +kernel
theorem dL_scrapers_14 : decode cL_scrapers 14 = .ok (.ireturn, 1) := by decide +kernel
theorem dL_scrapers_15 : decode cL_scrapers 15 = .ok (.iconst 0, 1) := by decide +kernel
theorem dL_scrapers_16 : decode cL_scrapers 16 = .ok (.ireturn, 1) := by decide +kernel
abbrev z_L_scrapers : Z9 := (some .int, 1, 1, 6, 68, 3089)
def m_L_scrapers (p1 : Int) (d : D9) : Option R9 := tc9 (m_X11_scrapers_0 p1 d) (fun r1 d2 => sd d2 194 1 0 (w32 r1) (fun d3 => rt 0 d3)) (fun e d => if e = 0 then rt 1 d else none)
set_option maxRecDepth 100000 in
theorem t_L_scrapers {G : G9} {l : Launch} (h1 : va_D (A9 G) (wl G (fun _ _ => 0))) (h2 : l.stackTraces = false) (p1 : Int) (d : D9) : MH G l yL_scrapers cL_scrapers 4 [(0, 9, 12, 13)] z_L_scrapers [rf G 0, i9 p1, rf G 194] d (m_L_scrapers p1 d) := by
  refine mh_of (own := RL) (by decide) rfl (Nat.le_of_ble_eq_true rfl) h1 h2 [(0, rf G 0), (1, i9 p1), (2, rf G 194)] rfl (fun X hX C hNc => ?_)
  unfold m_L_scrapers
  refine r_aload_n C 2 dL_scrapers_0 rfl rfl ?_
  refine r_iconst C dL_scrapers_1 ?_
  refine r_aload_n C 0 dL_scrapers_2 rfl rfl ?_
  refine r_iload_n C 1 dL_scrapers_3 rfl rfl ?_
  refine r_callC C [i9 p1, rf G 0, i9 0, rf G 194] dL_scrapers_4 (t_X11_scrapers_0 C.h1 C.h2 p1 d) mw_L_45 mv_X11_scrapers la_0 ly_0 rfl (by decide) (by decide) (by decide) rfl rfl (Nat.le_of_ble_eq_true rfl) (fun e d => by
      by_cases q0 : e = 0
      · rw [if_pos q0]; subst q0; exact sx_catch C hNc (by decide) [] ⟨0, 9, 12, 13⟩ [] rfl (fun _ h => nomatch h) rfl (by decide) clk_13 cst_0 (r_hand_n C dL_scrapers_12 dL_scrapers_13 dL_scrapers_14 rfl (by decide) (by decide) (by decide))
      rw [if_neg q0]
      exact sx_none) (fun r1 d2 => ?_)
  show SS G X 4 _ _ 7 [(0, rf G 0), (1, i9 p1), (2, rf G 194)] [i9 r1, i9 0, rf G 194] d2 _
  refine r_i2l C dL_scrapers_7 ?_
  refine r_last C dL_scrapers_8 la_194 ly_194 (fun d3 => ?_)
  refine r_goto C 15 dL_scrapers_9 (by decide) ?_
  refine r_iconst C dL_scrapers_15 ?_
  exact r_iret C dL_scrapers_16 (by decide) (by decide)
theorem dL_skin_0 : decode cL_skin 0 = .ok (.aload 5, 2) := by decide +kernel
theorem dL_skin_2 : decode cL_skin 2 = .ok (.iconst 0, 1) := by decide +kernel
theorem dL_skin_3 : decode cL_skin 3 = .ok (.aload_n 0, 1) := by decide +kernel
theorem dL_skin_4 : decode cL_skin 4 = .ok (.iload_n 1, 1) := by decide +kernel
theorem dL_skin_5 : decode cL_skin 5 = .ok (.iload_n 2, 1) := by decide +kernel
theorem dL_skin_6 : decode cL_skin 6 = .ok (.iload_n 3, 1) := by decide +kernel
theorem dL_skin_7 : decode cL_skin 7 = .ok (.iload 4, 2) := by decide +kernel
theorem dL_skin_9 : decode cL_skin 9 = .ok (.invokevirtual 27, 3) := by decide +kernel
theorem dL_skin_12 : decode cL_skin 12 = .ok (.i2l, 1) := by decide +kernel
theorem dL_skin_13 : decode cL_skin 13 = .ok (.lastore, 1) := by decide +kernel
theorem dL_skin_14 : decode cL_skin 14 = .ok (.goto 11, 3) := by decide +kernel
theorem dL_skin_17 : decode cL_skin 17 = .ok (.astore 6, 2) := by decide +kernel
theorem dL_skin_19 : decode cL_skin 19 = .ok (.iconst 1, 1) := by decide +kernel
theorem dL_skin_20 : decode cL_skin 20 = .ok (.ireturn, 1) := by decide +kernel
theorem dL_skin_21 : decode cL_skin 21 = .ok (.astore 6, 2) := by decide +kernel
theorem dL_skin_23 : decode cL_skin 23 = .ok (.iconst 2, 1) := by decide +kernel
theorem dL_skin_24 : decode cL_skin 24 = .ok (.ireturn, 1) := by decide +kernel
theorem dL_skin_25 : decode cL_skin 25 = .ok (.iconst 0, 1) := by decide +kernel
theorem dL_skin_26 : decode cL_skin 26 = .ok (.ireturn, 1) := by decide +kernel
abbrev z_L_skin : Z9 := (some .int, 1, 5, 30, 8, 147)
def m_L_skin (p1 p2 p3 p4 : Int) (d : D9) : Option R9 := tc9 (m_X11_skin_0 p1 p2 p3 p4 d) (fun r1 d2 => sd d2 194 1 0 (w32 r1) (fun d3 => rt 0 d3)) (fun e d => if e = 2 then rt 1 d else if e = 0 then rt 2 d else none)
set_option maxRecDepth 100000 in
theorem t_L_skin {G : G9} {l : Launch} (h1 : va_D (A9 G) (wl G (fun _ _ => 0))) (h2 : l.stackTraces = false) (p1 p2 p3 p4 : Int) (d : D9) : MH G l yL_skin cL_skin 7 [(0, 14, 17, 19), (0, 14, 21, 13)] z_L_skin [rf G 0, i9 p1, i9 p2, i9 p3, i9 p4, rf G 194] d (m_L_skin p1 p2 p3 p4 d) := by
  refine mh_of (own := RL) (by decide) rfl (Nat.le_of_ble_eq_true rfl) h1 h2 [(0, rf G 0), (1, i9 p1), (2, i9 p2), (3, i9 p3), (4, i9 p4), (5, rf G 194)] rfl (fun X hX C hNc => ?_)
  unfold m_L_skin
  refine r_aload C 5 dL_skin_0 rfl ?_
  refine r_iconst C dL_skin_2 ?_
  refine r_aload_n C 0 dL_skin_3 rfl rfl ?_
  refine r_iload_n C 1 dL_skin_4 rfl rfl ?_
  refine r_iload_n C 2 dL_skin_5 rfl rfl ?_
  refine r_iload_n C 3 dL_skin_6 rfl rfl ?_
  refine r_iload C 4 dL_skin_7 rfl ?_
  refine r_callC C [i9 p4, i9 p3, i9 p2, i9 p1, rf G 0, i9 0, rf G 194] dL_skin_9 (t_X11_skin_0 C.h1 C.h2 p1 p2 p3 p4 d) mw_L_27 mv_X11_skin la_0 ly_0 rfl (by decide) (by decide) (by decide) rfl rfl (Nat.le_of_ble_eq_true rfl) (fun e d => by
      by_cases q0 : e = 2
      · rw [if_pos q0]; subst q0; exact sx_catch C hNc (by decide) [] ⟨0, 14, 17, 19⟩ [⟨0, 14, 21, 13⟩] rfl (fun _ h => nomatch h) rfl (by decide) clk_19 cst_2 (r_hand C dL_skin_17 dL_skin_19 dL_skin_20 (by decide) (by decide) (by decide))
      rw [if_neg q0]
      by_cases q1 : e = 0
      · rw [if_pos q1]; subst q1; exact sx_catch C hNc (by decide) [⟨0, 14, 17, 19⟩] ⟨0, 14, 21, 13⟩ [] rfl (List.forall_mem_cons.mpr ⟨⟨by decide, 2, by decide, by decide, clk_19⟩, fun _ h => nomatch h⟩) rfl (by decide) clk_13 cst_0 (r_hand C dL_skin_21 dL_skin_23 dL_skin_24 (by decide) (by decide) (by decide))
      rw [if_neg q1]
      exact sx_none) (fun r1 d2 => ?_)
  show SS G X 7 _ _ 12 [(0, rf G 0), (1, i9 p1), (2, i9 p2), (3, i9 p3), (4, i9 p4), (5, rf G 194)] [i9 r1, i9 0, rf G 194] d2 _
  refine r_i2l C dL_skin_12 ?_
  refine r_last C dL_skin_13 la_194 ly_194 (fun d3 => ?_)
  refine r_goto C 25 dL_skin_14 (by decide) ?_
  refine r_iconst C dL_skin_25 ?_
  exact r_iret C dL_skin_26 (by decide) (by decide)
theorem dL_sort_0 : decode cL_sort 0 = .ok (.aload_n 2, 1) := by decide +kernel
theorem dL_sort_1 : decode cL_sort 1 = .ok (.iconst 0, 1) := by decide +kernel
theorem dL_sort_2 : decode cL_sort 2 = .ok (.aload_n 0, 1) := by decide +kernel
theorem dL_sort_3 : decode cL_sort 3 = .ok (.iload_n 1, 1) := by decide +kernel
theorem dL_sort_4 : decode cL_sort 4 = .ok (.invokevirtual 55, 3) := by decide +kernel
theorem dL_sort_7 : decode cL_sort 7 = .ok (.i2l, 1) := by decide +kernel
theorem dL_sort_8 : decode cL_sort 8 = .ok (.lastore, 1) := by decide +kernel
theorem dL_sort_9 : decode cL_sort 9 = .ok (.goto 6, 3) := by decide +kernel
theorem dL_sort_12 : decode cL_sort 12 = .ok (.astore_n 3, 1) := by decide +kernel
theorem dL_sort_13 : decode cL_sort 13 = .ok (.iconst 1, 1) := by decide +kernel
theorem dL_sort_14 : decode cL_sort 14 = .ok (.ireturn, 1) := by decide +kernel
theorem dL_sort_15 : decode cL_sort 15 = .ok (.iconst 0, 1) := by decide +kernel
theorem dL_sort_16 : decode cL_sort 16 = .ok (.ireturn, 1) := by decide +kernel
abbrev z_L_sort : Z9 := (some .int, 1, 1, 6, 8, 142)
def m_L_sort (p1 : Int) (d : D9) : Option R9 := tc9 (m_X11_sort_0 p1 d) (fun r1 d2 => sd d2 194 1 0 (w32 r1) (fun d3 => rt 0 d3)) (fun e d => if e = 2 then rt 1 d else none)
set_option maxRecDepth 100000 in
theorem t_L_sort {G : G9} {l : Launch} (h1 : va_D (A9 G) (wl G (fun _ _ => 0))) (h2 : l.stackTraces = false) (p1 : Int) (d : D9) : MH G l yL_sort cL_sort 4 [(0, 9, 12, 19)] z_L_sort [rf G 0, i9 p1, rf G 194] d (m_L_sort p1 d) := by
  refine mh_of (own := RL) (by decide) rfl (Nat.le_of_ble_eq_true rfl) h1 h2 [(0, rf G 0), (1, i9 p1), (2, rf G 194)] rfl (fun X hX C hNc => ?_)
  unfold m_L_sort
  refine r_aload_n C 2 dL_sort_0 rfl rfl ?_
  refine r_iconst C dL_sort_1 ?_
  refine r_aload_n C 0 dL_sort_2 rfl rfl ?_
  refine r_iload_n C 1 dL_sort_3 rfl rfl ?_
  refine r_callC C [i9 p1, rf G 0, i9 0, rf G 194] dL_sort_4 (t_X11_sort_0 C.h1 C.h2 p1 d) mw_L_55 mv_X11_sort la_0 ly_0 rfl (by decide) (by decide) (by decide) rfl rfl (Nat.le_of_ble_eq_true rfl) (fun e d => by
      by_cases q0 : e = 2
      · rw [if_pos q0]; subst q0; exact sx_catch C hNc (by decide) [] ⟨0, 9, 12, 19⟩ [] rfl (fun _ h => nomatch h) rfl (by decide) clk_19 cst_2 (r_hand_n C dL_sort_12 dL_sort_13 dL_sort_14 rfl (by decide) (by decide) (by decide))
      rw [if_neg q0]
      exact sx_none) (fun r1 d2 => ?_)
  show SS G X 4 _ _ 7 [(0, rf G 0), (1, i9 p1), (2, rf G 194)] [i9 r1, i9 0, rf G 194] d2 _
  refine r_i2l C dL_sort_7 ?_
  refine r_last C dL_sort_8 la_194 ly_194 (fun d3 => ?_)
  refine r_goto C 15 dL_sort_9 (by decide) ?_
  refine r_iconst C dL_sort_15 ?_
  exact r_iret C dL_sort_16 (by decide) (by decide)
theorem dL_span_0 : decode cL_span 0 = .ok (.aload 4, 2) := by decide +kernel
theorem dL_span_2 : decode cL_span 2 = .ok (.iconst 0, 1) := by decide +kernel
theorem dL_span_3 : decode cL_span 3 = .ok (.aload_n 0, 1) := by decide +kernel
theorem dL_span_4 : decode cL_span 4 = .ok (.iload_n 1, 1) := by decide +kernel
theorem dL_span_5 : decode cL_span 5 = .ok (.iload_n 2, 1) := by decide +kernel
theorem dL_span_6 : decode cL_span 6 = .ok (.iload_n 3, 1) := by decide +kernel
theorem dL_span_7 : decode cL_span 7 = .ok (.invokevirtual 51, 3) := by decide +kernel
theorem dL_span_10 : decode cL_span 10 = .ok (.i2l, 1) := by decide +kernel
theorem dL_span_11 : decode cL_span 11 = .ok (.lastore, 1) := by decide +kernel
theorem dL_span_12 : decode cL_span 12 = .ok (.goto 7, 3) := by decide +kernel
theorem dL_span_15 : decode cL_span 15 = .ok (.astore 5, 2) := by decide +kernel
theorem dL_span_17 : decode cL_span 17 = .ok (.iconst 1, 1) := by decide +kernel
theorem dL_span_18 : decode cL_span 18 = .ok (.ireturn, 1) := by decide +kernel
theorem dL_span_19 : decode cL_span 19 = .ok (.iconst 0, 1) := by decide +kernel
theorem dL_span_20 : decode cL_span 20 = .ok (.ireturn, 1) := by decide +kernel
abbrev z_L_span : Z9 := (some .int, 1, 2, 12, 8, 146)
def m_L_span (p1 p2 p3 : Int) (d : D9) : Option R9 := tc9 (m_X11_span_0 p1 p2 p3 d) (fun r1 d2 => sd d2 194 1 0 (w32 r1) (fun d3 => rt 0 d3)) (fun e d => if e = 2 then rt 1 d else none)
set_option maxRecDepth 100000 in
theorem t_L_span {G : G9} {l : Launch} (h1 : va_D (A9 G) (wl G (fun _ _ => 0))) (h2 : l.stackTraces = false) (p1 p2 p3 : Int) (d : D9) : MH G l yL_span cL_span 6 [(0, 12, 15, 19)] z_L_span [rf G 0, i9 p1, i9 p2, i9 p3, rf G 194] d (m_L_span p1 p2 p3 d) := by
  refine mh_of (own := RL) (by decide) rfl (Nat.le_of_ble_eq_true rfl) h1 h2 [(0, rf G 0), (1, i9 p1), (2, i9 p2), (3, i9 p3), (4, rf G 194)] rfl (fun X hX C hNc => ?_)
  unfold m_L_span
  refine r_aload C 4 dL_span_0 rfl ?_
  refine r_iconst C dL_span_2 ?_
  refine r_aload_n C 0 dL_span_3 rfl rfl ?_
  refine r_iload_n C 1 dL_span_4 rfl rfl ?_
  refine r_iload_n C 2 dL_span_5 rfl rfl ?_
  refine r_iload_n C 3 dL_span_6 rfl rfl ?_
  refine r_callC C [i9 p3, i9 p2, i9 p1, rf G 0, i9 0, rf G 194] dL_span_7 (t_X11_span_0 C.h1 C.h2 p1 p2 p3 d) mw_L_51 mv_X11_span la_0 ly_0 rfl (by decide) (by decide) (by decide) rfl rfl (Nat.le_of_ble_eq_true rfl) (fun e d => by
      by_cases q0 : e = 2
      · rw [if_pos q0]; subst q0; exact sx_catch C hNc (by decide) [] ⟨0, 12, 15, 19⟩ [] rfl (fun _ h => nomatch h) rfl (by decide) clk_19 cst_2 (r_hand C dL_span_15 dL_span_17 dL_span_18 (by decide) (by decide) (by decide))
      rw [if_neg q0]
      exact sx_none) (fun r1 d2 => ?_)
  show SS G X 6 _ _ 10 [(0, rf G 0), (1, i9 p1), (2, i9 p2), (3, i9 p3), (4, rf G 194)] [i9 r1, i9 0, rf G 194] d2 _
  refine r_i2l C dL_span_10 ?_
  refine r_last C dL_span_11 la_194 ly_194 (fun d3 => ?_)
  refine r_goto C 19 dL_span_12 (by decide) ?_
  refine r_iconst C dL_span_19 ?_
  exact r_iret C dL_span_20 (by decide) (by decide)
theorem dL_spread_0 : decode cL_spread 0 = .ok (.aload_n 2, 1) := by decide +kernel
theorem dL_spread_1 : decode cL_spread 1 = .ok (.iconst 0, 1) := by decide +kernel
theorem dL_spread_2 : decode cL_spread 2 = .ok (.aload_n 0, 1) := by decide +kernel
theorem dL_spread_3 : decode cL_spread 3 = .ok (.iload_n 1, 1) := by decide +kernel
theorem dL_spread_4 : decode cL_spread 4 = .ok (.invokevirtual 128, 3) := by decide +kernel
theorem dL_spread_7 : decode cL_spread 7 = .ok (.i2l, 1) := by decide +kernel
theorem dL_spread_8 : decode cL_spread 8 = .ok (.lastore, 1) := by decide +kernel
theorem dL_spread_9 : decode cL_spread 9 = .ok (.goto 6, 3) := by decide +kernel
theorem dL_spread_12 : decode cL_spread 12 = .ok (.astore_n 3, 1) := by decide +kernel
theorem dL_spread_13 : decode cL_spread 13 = .ok (.iconst 1, 1) := by decide +kernel
theorem dL_spread_14 : decode cL_spread 14 = .ok (.ireturn, 1) := by decide +kernel
theorem dL_spread_15 : decode cL_spread 15 = .ok (.iconst 0, 1) := by decide +kernel
theorem dL_spread_16 : decode cL_spread 16 = .ok (.ireturn, 1) := by decide +kernel
abbrev z_L_spread : Z9 := (some .int, 1, 1, 6, 8, 145)
def m_L_spread (p1 : Int) (d : D9) : Option R9 := tc9 (m_X11_spread_0 p1 d) (fun r1 d2 => sd d2 194 1 0 (w32 r1) (fun d3 => rt 0 d3)) (fun e d => if e = 0 then rt 1 d else none)
set_option maxRecDepth 100000 in
theorem t_L_spread {G : G9} {l : Launch} (h1 : va_D (A9 G) (wl G (fun _ _ => 0))) (h2 : l.stackTraces = false) (p1 : Int) (d : D9) : MH G l yL_spread cL_spread 4 [(0, 9, 12, 13)] z_L_spread [rf G 0, i9 p1, rf G 194] d (m_L_spread p1 d) := by
  refine mh_of (own := RL) (by decide) rfl (Nat.le_of_ble_eq_true rfl) h1 h2 [(0, rf G 0), (1, i9 p1), (2, rf G 194)] rfl (fun X hX C hNc => ?_)
  unfold m_L_spread
  refine r_aload_n C 2 dL_spread_0 rfl rfl ?_
  refine r_iconst C dL_spread_1 ?_
  refine r_aload_n C 0 dL_spread_2 rfl rfl ?_
  refine r_iload_n C 1 dL_spread_3 rfl rfl ?_
  refine r_callC C [i9 p1, rf G 0, i9 0, rf G 194] dL_spread_4 (t_X11_spread_0 C.h1 C.h2 p1 d) mw_L_128 mv_X11_spread la_0 ly_0 rfl (by decide) (by decide) (by decide) rfl rfl (Nat.le_of_ble_eq_true rfl) (fun e d => by
      by_cases q0 : e = 0
      · rw [if_pos q0]; subst q0; exact sx_catch C hNc (by decide) [] ⟨0, 9, 12, 13⟩ [] rfl (fun _ h => nomatch h) rfl (by decide) clk_13 cst_0 (r_hand_n C dL_spread_12 dL_spread_13 dL_spread_14 rfl (by decide) (by decide) (by decide))
      rw [if_neg q0]
      exact sx_none) (fun r1 d2 => ?_)
  show SS G X 4 _ _ 7 [(0, rf G 0), (1, i9 p1), (2, rf G 194)] [i9 r1, i9 0, rf G 194] d2 _
  refine r_i2l C dL_spread_7 ?_
  refine r_last C dL_spread_8 la_194 ly_194 (fun d3 => ?_)
  refine r_goto C 15 dL_spread_9 (by decide) ?_
  refine r_iconst C dL_spread_15 ?_
  exact r_iret C dL_spread_16 (by decide) (by decide)
theorem dL_stories_0 : decode cL_stories 0 = .ok (.aload_n 2, 1) := by decide +kernel
theorem dL_stories_1 : decode cL_stories 1 = .ok (.iconst 0, 1) := by decide +kernel
theorem dL_stories_2 : decode cL_stories 2 = .ok (.aload_n 0, 1) := by decide +kernel
theorem dL_stories_3 : decode cL_stories 3 = .ok (.iload_n 1, 1) := by decide +kernel
theorem dL_stories_4 : decode cL_stories 4 = .ok (.invokevirtual 42, 3) := by decide +kernel
theorem dL_stories_7 : decode cL_stories 7 = .ok (.i2l, 1) := by decide +kernel
theorem dL_stories_8 : decode cL_stories 8 = .ok (.lastore, 1) := by decide +kernel
theorem dL_stories_9 : decode cL_stories 9 = .ok (.goto 6, 3) := by decide +kernel
theorem dL_stories_12 : decode cL_stories 12 = .ok (.astore_n 3, 1) := by decide +kernel
theorem dL_stories_13 : decode cL_stories 13 = .ok (.iconst 1, 1) := by decide +kernel
theorem dL_stories_14 : decode cL_stories 14 = .ok (.ireturn, 1) := by decide +kernel
theorem dL_stories_15 : decode cL_stories 15 = .ok (.iconst 0, 1) := by decide +kernel
theorem dL_stories_16 : decode cL_stories 16 = .ok (.ireturn, 1) := by decide +kernel
abbrev z_L_stories : Z9 := (some .int, 1, 1, 6, 15, 405)
def m_L_stories (p1 : Int) (d : D9) : Option R9 := tc9 (m_X11_stories_0 p1 d) (fun r1 d2 => sd d2 194 1 0 (w32 r1) (fun d3 => rt 0 d3)) (fun e d => if e = 0 then rt 1 d else none)
set_option maxRecDepth 100000 in
theorem t_L_stories {G : G9} {l : Launch} (h1 : va_D (A9 G) (wl G (fun _ _ => 0))) (h2 : l.stackTraces = false) (p1 : Int) (d : D9) : MH G l yL_stories cL_stories 4 [(0, 9, 12, 13)] z_L_stories [rf G 0, i9 p1, rf G 194] d (m_L_stories p1 d) := by
  refine mh_of (own := RL) (by decide) rfl (Nat.le_of_ble_eq_true rfl) h1 h2 [(0, rf G 0), (1, i9 p1), (2, rf G 194)] rfl (fun X hX C hNc => ?_)
  unfold m_L_stories
  refine r_aload_n C 2 dL_stories_0 rfl rfl ?_
  refine r_iconst C dL_stories_1 ?_
  refine r_aload_n C 0 dL_stories_2 rfl rfl ?_
  refine r_iload_n C 1 dL_stories_3 rfl rfl ?_
  refine r_callC C [i9 p1, rf G 0, i9 0, rf G 194] dL_stories_4 (t_X11_stories_0 C.h1 C.h2 p1 d) mw_L_42 mv_X11_stories la_0 ly_0 rfl (by decide) (by decide) (by decide) rfl rfl (Nat.le_of_ble_eq_true rfl) (fun e d => by
      by_cases q0 : e = 0
      · rw [if_pos q0]; subst q0; exact sx_catch C hNc (by decide) [] ⟨0, 9, 12, 13⟩ [] rfl (fun _ h => nomatch h) rfl (by decide) clk_13 cst_0 (r_hand_n C dL_stories_12 dL_stories_13 dL_stories_14 rfl (by decide) (by decide) (by decide))
      rw [if_neg q0]
      exact sx_none) (fun r1 d2 => ?_)
  show SS G X 4 _ _ 7 [(0, rf G 0), (1, i9 p1), (2, rf G 194)] [i9 r1, i9 0, rf G 194] d2 _
  refine r_i2l C dL_stories_7 ?_
  refine r_last C dL_stories_8 la_194 ly_194 (fun d3 => ?_)
  refine r_goto C 15 dL_stories_9 (by decide) ?_
  refine r_iconst C dL_stories_15 ?_
  exact r_iret C dL_stories_16 (by decide) (by decide)
theorem dL_stumps_0 : decode cL_stumps 0 = .ok (.aload_n 2, 1) := by decide +kernel
theorem dL_stumps_1 : decode cL_stumps 1 = .ok (.iconst 0, 1) := by decide +kernel
theorem dL_stumps_2 : decode cL_stumps 2 = .ok (.aload_n 0, 1) := by decide +kernel
theorem dL_stumps_3 : decode cL_stumps 3 = .ok (.iload_n 1, 1) := by decide +kernel
theorem dL_stumps_4 : decode cL_stumps 4 = .ok (.invokevirtual 109, 3) := by decide +kernel
theorem dL_stumps_7 : decode cL_stumps 7 = .ok (.i2l, 1) := by decide +kernel
theorem dL_stumps_8 : decode cL_stumps 8 = .ok (.lastore, 1) := by decide +kernel
theorem dL_stumps_9 : decode cL_stumps 9 = .ok (.goto 9, 3) := by decide +kernel
theorem dL_stumps_12 : decode cL_stumps 12 = .ok (.astore_n 3, 1) := by decide +kernel
theorem dL_stumps_13 : decode cL_stumps 13 = .ok (.iconst 1, 1) := by decide +kernel
theorem dL_stumps_14 : decode cL_stumps 14 = .ok (.ireturn, 1) := by decide +kernel
theorem dL_stumps_15 : decode cL_stumps 15 = .ok (.astore_n 3, 1) := by decide +kernel
theorem dL_stumps_16 : decode cL_stumps 16 = .ok (.iconst 2, 1) := by decide +kernel
theorem dL_stumps_17 : decode cL_stumps 17 = .ok (.ireturn, 1) := by decide +kernel
theorem dL_stumps_18 : decode cL_stumps 18 = .ok (.iconst 0, 1) := by decide +kernel
theorem dL_stumps_19 : decode cL_stumps 19 = .ok (.ireturn, 1) := by decide +kernel
abbrev z_L_stumps : Z9 := (some .int, 1, 2, 12, 9, 165)
def m_L_stumps (p1 : Int) (d : D9) : Option R9 := tc9 (m_X11_stumps_0 p1 d) (fun r1 d2 => sd d2 194 1 0 (w32 r1) (fun d3 => rt 0 d3)) (fun e d => if e = 2 then rt 1 d else if e = 1 then rt 2 d else none)
set_option maxRecDepth 100000 in
theorem t_L_stumps {G : G9} {l : Launch} (h1 : va_D (A9 G) (wl G (fun _ _ => 0))) (h2 : l.stackTraces = false) (p1 : Int) (d : D9) : MH G l yL_stumps cL_stumps 4 [(0, 9, 12, 19), (0, 9, 15, 21)] z_L_stumps [rf G 0, i9 p1, rf G 194] d (m_L_stumps p1 d) := by
  refine mh_of (own := RL) (by decide) rfl (Nat.le_of_ble_eq_true rfl) h1 h2 [(0, rf G 0), (1, i9 p1), (2, rf G 194)] rfl (fun X hX C hNc => ?_)
  unfold m_L_stumps
  refine r_aload_n C 2 dL_stumps_0 rfl rfl ?_
  refine r_iconst C dL_stumps_1 ?_
  refine r_aload_n C 0 dL_stumps_2 rfl rfl ?_
  refine r_iload_n C 1 dL_stumps_3 rfl rfl ?_
  refine r_callC C [i9 p1, rf G 0, i9 0, rf G 194] dL_stumps_4 (t_X11_stumps_0 C.h1 C.h2 p1 d) mw_L_109 mv_X11_stumps la_0 ly_0 rfl (by decide) (by decide) (by decide) rfl rfl (Nat.le_of_ble_eq_true rfl) (fun e d => by
      by_cases q0 : e = 2
      · rw [if_pos q0]; subst q0; exact sx_catch C hNc (by decide) [] ⟨0, 9, 12, 19⟩ [⟨0, 9, 15, 21⟩] rfl (fun _ h => nomatch h) rfl (by decide) clk_19 cst_2 (r_hand_n C dL_stumps_12 dL_stumps_13 dL_stumps_14 rfl (by decide) (by decide) (by decide))
      rw [if_neg q0]
      by_cases q1 : e = 1
      · rw [if_pos q1]; subst q1; exact sx_catch C hNc (by decide) [⟨0, 9, 12, 19⟩] ⟨0, 9, 15, 21⟩ [] rfl (List.forall_mem_cons.mpr ⟨⟨by decide, 2, by decide, by decide, clk_19⟩, fun _ h => nomatch h⟩) rfl (by decide) clk_21 cst_1 (r_hand_n C dL_stumps_15 dL_stumps_16 dL_stumps_17 rfl (by decide) (by decide) (by decide))
      rw [if_neg q1]
      exact sx_none) (fun r1 d2 => ?_)
  show SS G X 4 _ _ 7 [(0, rf G 0), (1, i9 p1), (2, rf G 194)] [i9 r1, i9 0, rf G 194] d2 _
  refine r_i2l C dL_stumps_7 ?_
  refine r_last C dL_stumps_8 la_194 ly_194 (fun d3 => ?_)
  refine r_goto C 18 dL_stumps_9 (by decide) ?_
  refine r_iconst C dL_stumps_18 ?_
  exact r_iret C dL_stumps_19 (by decide) (by decide)
theorem dL_times_0 : decode cL_times 0 = .ok (.aload_n 3, 1) := by decide +kernel
theorem dL_times_1 : decode cL_times 1 = .ok (.iconst 0, 1) := by decide +kernel
theorem dL_times_2 : decode cL_times 2 = .ok (.aload_n 0, 1) := by decide +kernel
theorem dL_times_3 : decode cL_times 3 = .ok (.iload_n 1, 1) := by decide +kernel
theorem dL_times_4 : decode cL_times 4 = .ok (.iload_n 2, 1) := by decide +kernel
theorem dL_times_5 : decode cL_times 5 = .ok (.invokevirtual 119, 3) := by decide +kernel
theorem dL_times_8 : decode cL_times 8 = .ok (.i2l, 1) := by decide +kernel
theorem dL_times_9 : decode cL_times 9 = .ok (.lastore, 1) := by decide +kernel
theorem dL_times_10 : decode cL_times 10 = .ok (.goto 11, 3) := by decide +kernel
theorem dL_times_13 : decode cL_times 13 = .ok (.astore 4, 2) := by decide +kernel
theorem dL_times_15 : decode cL_times 15 = .ok (.iconst 1, 1) := by decide +kernel
theorem dL_times_16 : decode cL_times 16 = .ok (.ireturn, 1) := by decide +kernel
theorem dL_times_17 : decode cL_times 17 = .ok (.astore 4, 2) := by decide +kernel
theorem dL_times_19 : decode cL_times 19 = .ok (.iconst 2, 1) := by decide +kernel
theorem dL_times_20 : decode cL_times 20 = .ok (.ireturn, 1) := by decide +kernel
theorem dL_times_21 : decode cL_times 21 = .ok (.iconst 0, 1) := by decide +kernel
theorem dL_times_22 : decode cL_times 22 = .ok (.ireturn, 1) := by decide +kernel
abbrev z_L_times : Z9 := (some .int, 1, 2, 12, 8, 154)
def m_L_times (p1 p2 : Int) (d : D9) : Option R9 := tc9 (m_X11_times_0 p1 p2 d) (fun r1 d2 => sd d2 194 1 0 (w32 r1) (fun d3 => rt 0 d3)) (fun e d => if e = 2 then rt 1 d else if e = 0 then rt 2 d else none)
set_option maxRecDepth 100000 in
theorem t_L_times {G : G9} {l : Launch} (h1 : va_D (A9 G) (wl G (fun _ _ => 0))) (h2 : l.stackTraces = false) (p1 p2 : Int) (d : D9) : MH G l yL_times cL_times 5 [(0, 10, 13, 19), (0, 10, 17, 13)] z_L_times [rf G 0, i9 p1, i9 p2, rf G 194] d (m_L_times p1 p2 d) := by
  refine mh_of (own := RL) (by decide) rfl (Nat.le_of_ble_eq_true rfl) h1 h2 [(0, rf G 0), (1, i9 p1), (2, i9 p2), (3, rf G 194)] rfl (fun X hX C hNc => ?_)
  unfold m_L_times
  refine r_aload_n C 3 dL_times_0 rfl rfl ?_
  refine r_iconst C dL_times_1 ?_
  refine r_aload_n C 0 dL_times_2 rfl rfl ?_
  refine r_iload_n C 1 dL_times_3 rfl rfl ?_
  refine r_iload_n C 2 dL_times_4 rfl rfl ?_
  refine r_callC C [i9 p2, i9 p1, rf G 0, i9 0, rf G 194] dL_times_5 (t_X11_times_0 C.h1 C.h2 p1 p2 d) mw_L_119 mv_X11_times la_0 ly_0 rfl (by decide) (by decide) (by decide) rfl rfl (Nat.le_of_ble_eq_true rfl) (fun e d => by
      by_cases q0 : e = 2
      · rw [if_pos q0]; subst q0; exact sx_catch C hNc (by decide) [] ⟨0, 10, 13, 19⟩ [⟨0, 10, 17, 13⟩] rfl (fun _ h => nomatch h) rfl (by decide) clk_19 cst_2 (r_hand C dL_times_13 dL_times_15 dL_times_16 (by decide) (by decide) (by decide))
      rw [if_neg q0]
      by_cases q1 : e = 0
      · rw [if_pos q1]; subst q1; exact sx_catch C hNc (by decide) [⟨0, 10, 13, 19⟩] ⟨0, 10, 17, 13⟩ [] rfl (List.forall_mem_cons.mpr ⟨⟨by decide, 2, by decide, by decide, clk_19⟩, fun _ h => nomatch h⟩) rfl (by decide) clk_13 cst_0 (r_hand C dL_times_17 dL_times_19 dL_times_20 (by decide) (by decide) (by decide))
      rw [if_neg q1]
      exact sx_none) (fun r1 d2 => ?_)
  show SS G X 5 _ _ 8 [(0, rf G 0), (1, i9 p1), (2, i9 p2), (3, rf G 194)] [i9 r1, i9 0, rf G 194] d2 _
  refine r_i2l C dL_times_8 ?_
  refine r_last C dL_times_9 la_194 ly_194 (fun d3 => ?_)
  refine r_goto C 21 dL_times_10 (by decide) ?_
  refine r_iconst C dL_times_21 ?_
  exact r_iret C dL_times_22 (by decide) (by decide)
theorem dL_told_0 : decode cL_told 0 = .ok (.aload 7, 2) := by decide +kernel
theorem dL_told_2 : decode cL_told 2 = .ok (.iconst 0, 1) := by decide +kernel
theorem dL_told_3 : decode cL_told 3 = .ok (.aload_n 0, 1) := by decide +kernel
theorem dL_told_4 : decode cL_told 4 = .ok (.iload_n 1, 1) := by decide +kernel
theorem dL_told_5 : decode cL_told 5 = .ok (.iload_n 2, 1) := by decide +kernel
theorem dL_told_6 : decode cL_told 6 = .ok (.iload_n 3, 1) := by decide +kernel
theorem dL_told_7 : decode cL_told 7 = .ok (.iload 4, 2) := by decide +kernel
theorem dL_told_9 : decode cL_told 9 = .ok (.iload 5, 2) := by decide +kernel
theorem dL_told_11 : decode cL_told 11 = .ok (.iload 6, 2) := by decide +kernel
theorem dL_told_13 : decode cL_told 13 = .ok (.invokevirtual 94, 3) := by decide +kernel
theorem dL_told_16 : decode cL_told 16 = .ok (.i2l, 1) := by decide +kernel
theorem dL_told_17 : decode cL_told 17 = .ok (.lastore, 1) := by decide +kernel
theorem dL_told_18 : decode cL_told 18 = .ok (.goto 7, 3) := by decide +kernel
theorem dL_told_21 : decode cL_told 21 = .ok (.astore 8, 2) := by decide +kernel
theorem dL_told_23 : decode cL_told 23 = .ok (.iconst 1, 1) := by decide +kernel
theorem dL_told_24 : decode cL_told 24 = .ok (.ireturn, 1) := by decide +kernel
theorem dL_told_25 : decode cL_told 25 = .ok (.iconst 0, 1) := by decide +kernel
theorem dL_told_26 : decode cL_told 26 = .ok (.ireturn, 1) := by decide +kernel
abbrev z_L_told : Z9 := (some .int, 1, 6, 36, 9, 174)
def m_L_told (p1 p2 p3 p4 p5 p6 : Int) (d : D9) : Option R9 := tc9 (m_X11_told_0 p1 p2 p3 p4 p5 p6 d) (fun r1 d2 => sd d2 194 1 0 (w32 r1) (fun d3 => rt 0 d3)) (fun e d => if e = 0 then rt 1 d else none)
set_option maxRecDepth 100000 in
theorem t_L_told {G : G9} {l : Launch} (h1 : va_D (A9 G) (wl G (fun _ _ => 0))) (h2 : l.stackTraces = false) (p1 p2 p3 p4 p5 p6 : Int) (d : D9) : MH G l yL_told cL_told 9 [(0, 18, 21, 13)] z_L_told [rf G 0, i9 p1, i9 p2, i9 p3, i9 p4, i9 p5, i9 p6, rf G 194] d (m_L_told p1 p2 p3 p4 p5 p6 d) := by
  refine mh_of (own := RL) (by decide) rfl (Nat.le_of_ble_eq_true rfl) h1 h2 [(0, rf G 0), (1, i9 p1), (2, i9 p2), (3, i9 p3), (4, i9 p4), (5, i9 p5), (6, i9 p6), (7, rf G 194)] rfl (fun X hX C hNc => ?_)
  unfold m_L_told
  refine r_aload C 7 dL_told_0 rfl ?_
  refine r_iconst C dL_told_2 ?_
  refine r_aload_n C 0 dL_told_3 rfl rfl ?_
  refine r_iload_n C 1 dL_told_4 rfl rfl ?_
  refine r_iload_n C 2 dL_told_5 rfl rfl ?_
  refine r_iload_n C 3 dL_told_6 rfl rfl ?_
  refine r_iload C 4 dL_told_7 rfl ?_
  refine r_iload C 5 dL_told_9 rfl ?_
  refine r_iload C 6 dL_told_11 rfl ?_
  refine r_callC C [i9 p6, i9 p5, i9 p4, i9 p3, i9 p2, i9 p1, rf G 0, i9 0, rf G 194] dL_told_13 (t_X11_told_0 C.h1 C.h2 p1 p2 p3 p4 p5 p6 d) mw_L_94 mv_X11_told la_0 ly_0 rfl (by decide) (by decide) (by decide) rfl rfl (Nat.le_of_ble_eq_true rfl) (fun e d => by
      by_cases q0 : e = 0
      · rw [if_pos q0]; subst q0; exact sx_catch C hNc (by decide) [] ⟨0, 18, 21, 13⟩ [] rfl (fun _ h => nomatch h) rfl (by decide) clk_13 cst_0 (r_hand C dL_told_21 dL_told_23 dL_told_24 (by decide) (by decide) (by decide))
      rw [if_neg q0]
      exact sx_none) (fun r1 d2 => ?_)
  show SS G X 9 _ _ 16 [(0, rf G 0), (1, i9 p1), (2, i9 p2), (3, i9 p3), (4, i9 p4), (5, i9 p5), (6, i9 p6), (7, rf G 194)] [i9 r1, i9 0, rf G 194] d2 _
  refine r_i2l C dL_told_16 ?_
  refine r_last C dL_told_17 la_194 ly_194 (fun d3 => ?_)
  refine r_goto C 25 dL_told_18 (by decide) ?_
  refine r_iconst C dL_told_25 ?_
  exact r_iret C dL_told_26 (by decide) (by decide)
theorem dL_tray_0 : decode cL_tray 0 = .ok (.aload_n 0, 1) := by decide +kernel
theorem dL_tray_1 : decode cL_tray 1 = .ok (.iload_n 1, 1) := by decide +kernel
theorem dL_tray_2 : decode cL_tray 2 = .ok (.iload_n 2, 1) := by decide +kernel
theorem dL_tray_3 : decode cL_tray 3 = .ok (.iload_n 3, 1) := by decide +kernel
theorem dL_tray_4 : decode cL_tray 4 = .ok (.invokevirtual 146, 3) := by decide +kernel
theorem dL_tray_7 : decode cL_tray 7 = .ok (.goto 11, 3) := by decide +kernel
theorem dL_tray_10 : decode cL_tray 10 = .ok (.astore 4, 2) := by decide +kernel
theorem dL_tray_12 : decode cL_tray 12 = .ok (.iconst 1, 1) := by decide +kernel
theorem dL_tray_13 : decode cL_tray 13 = .ok (.ireturn, 1) := by decide +kernel
theorem dL_tray_14 : decode cL_tray 14 = .ok (.astore 4, 2) := by decide +kernel
theorem dL_tray_16 : decode cL_tray 16 = .ok (.iconst 2, 1) := by decide +kernel
theorem dL_tray_17 : decode cL_tray 17 = .ok (.ireturn, 1) := by decide +kernel
theorem dL_tray_18 : decode cL_tray 18 = .ok (.iconst 0, 1) := by decide +kernel
theorem dL_tray_19 : decode cL_tray 19 = .ok (.ireturn, 1) := by decide +kernel
abbrev z_L_tray : Z9 := (some .int, 1, 3, 18, 8, 145)
def m_L_tray (p1 p2 p3 : Int) (d : D9) : Option R9 := tc9 (m_X11_tray_0 p1 p2 p3 d) (fun r1 d2 => rt 0 d2) (fun e d => if e = 2 then rt 1 d else if e = 0 then rt 2 d else none)
set_option maxRecDepth 100000 in
theorem t_L_tray {G : G9} {l : Launch} (h1 : va_D (A9 G) (wl G (fun _ _ => 0))) (h2 : l.stackTraces = false) (p1 p2 p3 : Int) (d : D9) : MH G l yL_tray cL_tray 5 [(0, 7, 10, 19), (0, 7, 14, 13)] z_L_tray [rf G 0, i9 p1, i9 p2, i9 p3] d (m_L_tray p1 p2 p3 d) := by
  refine mh_of (own := RL) (by decide) rfl (Nat.le_of_ble_eq_true rfl) h1 h2 [(0, rf G 0), (1, i9 p1), (2, i9 p2), (3, i9 p3)] rfl (fun X hX C hNc => ?_)
  unfold m_L_tray
  refine r_aload_n C 0 dL_tray_0 rfl rfl ?_
  refine r_iload_n C 1 dL_tray_1 rfl rfl ?_
  refine r_iload_n C 2 dL_tray_2 rfl rfl ?_
  refine r_iload_n C 3 dL_tray_3 rfl rfl ?_
  refine r_callC C [i9 p3, i9 p2, i9 p1, rf G 0] dL_tray_4 (t_X11_tray_0 C.h1 C.h2 p1 p2 p3 d) mw_L_146 mv_X11_tray la_0 ly_0 rfl (by decide) (by decide) (by decide) rfl rfl (Nat.le_of_ble_eq_true rfl) (fun e d => by
      by_cases q0 : e = 2
      · rw [if_pos q0]; subst q0; exact sx_catch C hNc (by decide) [] ⟨0, 7, 10, 19⟩ [⟨0, 7, 14, 13⟩] rfl (fun _ h => nomatch h) rfl (by decide) clk_19 cst_2 (r_hand C dL_tray_10 dL_tray_12 dL_tray_13 (by decide) (by decide) (by decide))
      rw [if_neg q0]
      by_cases q1 : e = 0
      · rw [if_pos q1]; subst q1; exact sx_catch C hNc (by decide) [⟨0, 7, 10, 19⟩] ⟨0, 7, 14, 13⟩ [] rfl (List.forall_mem_cons.mpr ⟨⟨by decide, 2, by decide, by decide, clk_19⟩, fun _ h => nomatch h⟩) rfl (by decide) clk_13 cst_0 (r_hand C dL_tray_14 dL_tray_16 dL_tray_17 (by decide) (by decide) (by decide))
      rw [if_neg q1]
      exact sx_none) (fun r1 d2 => ?_)
  show SS G X 5 _ _ 7 [(0, rf G 0), (1, i9 p1), (2, i9 p2), (3, i9 p3)] [] d2 _
  refine r_goto C 18 dL_tray_7 (by decide) ?_
  refine r_iconst C dL_tray_18 ?_
  exact r_iret C dL_tray_19 (by decide) (by decide)
theorem dL_trial_0 : decode cL_trial 0 = .ok (.aload 6, 2) := by decide +kernel
theorem dL_trial_2 : decode cL_trial 2 = .ok (.iconst 0, 1) := by decide +kernel
theorem dL_trial_3 : decode cL_trial 3 = .ok (.aload_n 0, 1) := by decide +kernel
theorem dL_trial_4 : decode cL_trial 4 = .ok (.iload_n 1, 1) := by decide +kernel
theorem dL_trial_5 : decode cL_trial 5 = .ok (.iload_n 2, 1) := by decide +kernel
theorem dL_trial_6 : decode cL_trial 6 = .ok (.iload_n 3, 1) := by decide +kernel
theorem dL_trial_7 : decode cL_trial 7 = .ok (.iload 4, 2) := by decide +kernel
theorem dL_trial_9 : decode cL_trial 9 = .ok (.iload 5, 2) := by decide +kernel
theorem dL_trial_11 : decode cL_trial 11 = .ok (.invokevirtual 69, 3) := by decide +kernel
theorem dL_trial_14 : decode cL_trial 14 = .ok (.i2l, 1) := by decide +kernel
theorem dL_trial_15 : decode cL_trial 15 = .ok (.lastore, 1) := by decide +kernel
theorem dL_trial_16 : decode cL_trial 16 = .ok (.goto 7, 3) := by decide +kernel
theorem dL_trial_19 : decode cL_trial 19 = .ok (.astore 7, 2) := by decide +kernel
theorem dL_trial_21 : decode cL_trial 21 = .ok (.iconst 1, 1) := by decide +kernel
theorem dL_trial_22 : decode cL_trial 22 = .ok (.ireturn, 1) := by decide +kernel
theorem dL_trial_23 : decode cL_trial 23 = .ok (.iconst 0, 1) := by decide +kernel
theorem dL_trial_24 : decode cL_trial 24 = .ok (.ireturn, 1) := by decide +kernel
abbrev z_L_trial : Z9 := (some .int, 1, 5, 30, 9, 177)
def m_L_trial (p1 p2 p3 p4 p5 : Int) (d : D9) : Option R9 := tc9 (m_X11_trial_0 p1 p2 p3 p4 p5 d) (fun r1 d2 => sd d2 194 1 0 (w32 r1) (fun d3 => rt 0 d3)) (fun e d => if e = 0 then rt 1 d else none)
set_option maxRecDepth 100000 in
theorem t_L_trial {G : G9} {l : Launch} (h1 : va_D (A9 G) (wl G (fun _ _ => 0))) (h2 : l.stackTraces = false) (p1 p2 p3 p4 p5 : Int) (d : D9) : MH G l yL_trial cL_trial 8 [(0, 16, 19, 13)] z_L_trial [rf G 0, i9 p1, i9 p2, i9 p3, i9 p4, i9 p5, rf G 194] d (m_L_trial p1 p2 p3 p4 p5 d) := by
  refine mh_of (own := RL) (by decide) rfl (Nat.le_of_ble_eq_true rfl) h1 h2 [(0, rf G 0), (1, i9 p1), (2, i9 p2), (3, i9 p3), (4, i9 p4), (5, i9 p5), (6, rf G 194)] rfl (fun X hX C hNc => ?_)
  unfold m_L_trial
  refine r_aload C 6 dL_trial_0 rfl ?_
  refine r_iconst C dL_trial_2 ?_
  refine r_aload_n C 0 dL_trial_3 rfl rfl ?_
  refine r_iload_n C 1 dL_trial_4 rfl rfl ?_
  refine r_iload_n C 2 dL_trial_5 rfl rfl ?_
  refine r_iload_n C 3 dL_trial_6 rfl rfl ?_
  refine r_iload C 4 dL_trial_7 rfl ?_
  refine r_iload C 5 dL_trial_9 rfl ?_
  refine r_callC C [i9 p5, i9 p4, i9 p3, i9 p2, i9 p1, rf G 0, i9 0, rf G 194] dL_trial_11 (t_X11_trial_0 C.h1 C.h2 p1 p2 p3 p4 p5 d) mw_L_69 mv_X11_trial la_0 ly_0 rfl (by decide) (by decide) (by decide) rfl rfl (Nat.le_of_ble_eq_true rfl) (fun e d => by
      by_cases q0 : e = 0
      · rw [if_pos q0]; subst q0; exact sx_catch C hNc (by decide) [] ⟨0, 16, 19, 13⟩ [] rfl (fun _ h => nomatch h) rfl (by decide) clk_13 cst_0 (r_hand C dL_trial_19 dL_trial_21 dL_trial_22 (by decide) (by decide) (by decide))
      rw [if_neg q0]
      exact sx_none) (fun r1 d2 => ?_)
  show SS G X 8 _ _ 14 [(0, rf G 0), (1, i9 p1), (2, i9 p2), (3, i9 p3), (4, i9 p4), (5, i9 p5), (6, rf G 194)] [i9 r1, i9 0, rf G 194] d2 _
  refine r_i2l C dL_trial_14 ?_
  refine r_last C dL_trial_15 la_194 ly_194 (fun d3 => ?_)
  refine r_goto C 23 dL_trial_16 (by decide) ?_
  refine r_iconst C dL_trial_23 ?_
  exact r_iret C dL_trial_24 (by decide) (by decide)
theorem dL_weights_0 : decode cL_weights 0 = .ok (.aload_n 3, 1) := by decide +kernel
theorem dL_weights_1 : decode cL_weights 1 = .ok (.iconst 0, 1) := by decide +kernel
theorem dL_weights_2 : decode cL_weights 2 = .ok (.aload_n 0, 1) := by decide +kernel
theorem dL_weights_3 : decode cL_weights 3 = .ok (.iload_n 1, 1) := by decide +kernel
theorem dL_weights_4 : decode cL_weights 4 = .ok (.iload_n 2, 1) := by decide +kernel
theorem dL_weights_5 : decode cL_weights 5 = .ok (.invokevirtual 115, 3) := by decide +kernel
theorem dL_weights_8 : decode cL_weights 8 = .ok (.ifCond .eq 7, 3) := by decide +kernel
theorem dL_weights_11 : decode cL_weights 11 = .ok (.lconst 1, 1) := by decide +kernel
theorem dL_weights_12 : decode cL_weights 12 = .ok (.goto 4, 3) := by decide +kernel
theorem dL_weights_15 : decode cL_weights 15 = .ok (.lconst 0, 1) := by decide +kernel
theorem dL_weights_16 : decode cL_weights 16 = .ok (.lastore, 1) := by decide +kernel
theorem dL_weights_17 : decode cL_weights 17 = .ok (.goto 11, 3) := by decide +kernel
theorem dL_weights_20 : decode cL_weights 20 = .ok (.astore 4, 2) := by decide +kernel
theorem dL_weights_22 : decode cL_weights 22 = .ok (.iconst 1, 1) := by decide +kernel
theorem dL_weights_23 : decode cL_weights 23 = .ok (.ireturn, 1) := by decide +kernel
theorem dL_weights_24 : decode cL_weights 24 = .ok (.astore 4, 2) := by decide +kernel
theorem dL_weights_26 : decode cL_weights 26 = .ok (.iconst 2, 1) := by decide +kernel
theorem dL_weights_27 : decode cL_weights 27 = .ok (.ireturn, 1) := by decide +kernel
theorem dL_weights_28 : decode cL_weights 28 = .ok (.iconst 0, 1) := by decide +kernel
theorem dL_weights_29 : decode cL_weights 29 = .ok (.ireturn, 1) := by decide +kernel
abbrev z_L_weights : Z9 := (some .int, 1, 2, 12, 9, 165)
def m_L_weights (p1 p2 : Int) (d : D9) : Option R9 := tc9 (m_X11_weights_0 p1 p2 d) (fun r1 d2 => if w32 r1 = 0 then sd d2 194 1 0 0 (fun d3 => rt 0 d3) else sd d2 194 1 0 1 (fun d4 => rt 0 d4)) (fun e d => if e = 2 then rt 1 d else if e = 1 then rt 2 d else none)
set_option maxRecDepth 100000 in
theorem t_L_weights {G : G9} {l : Launch} (h1 : va_D (A9 G) (wl G (fun _ _ => 0))) (h2 : l.stackTraces = false) (p1 p2 : Int) (d : D9) : MH G l yL_weights cL_weights 5 [(0, 17, 20, 19), (0, 17, 24, 21)] z_L_weights [rf G 0, i9 p1, i9 p2, rf G 194] d (m_L_weights p1 p2 d) := by
  refine mh_of (own := RL) (by decide) rfl (Nat.le_of_ble_eq_true rfl) h1 h2 [(0, rf G 0), (1, i9 p1), (2, i9 p2), (3, rf G 194)] rfl (fun X hX C hNc => ?_)
  unfold m_L_weights
  refine r_aload_n C 3 dL_weights_0 rfl rfl ?_
  refine r_iconst C dL_weights_1 ?_
  refine r_aload_n C 0 dL_weights_2 rfl rfl ?_
  refine r_iload_n C 1 dL_weights_3 rfl rfl ?_
  refine r_iload_n C 2 dL_weights_4 rfl rfl ?_
  refine r_callC C [i9 p2, i9 p1, rf G 0, i9 0, rf G 194] dL_weights_5 (t_X11_weights_0 C.h1 C.h2 p1 p2 d) mw_L_115 mv_X11_weights la_0 ly_0 rfl (by decide) (by decide) (by decide) rfl rfl (Nat.le_of_ble_eq_true rfl) (fun e d => by
      by_cases q0 : e = 2
      · rw [if_pos q0]; subst q0; exact sx_catch C hNc (by decide) [] ⟨0, 17, 20, 19⟩ [⟨0, 17, 24, 21⟩] rfl (fun _ h => nomatch h) rfl (by decide) clk_19 cst_2 (r_hand C dL_weights_20 dL_weights_22 dL_weights_23 (by decide) (by decide) (by decide))
      rw [if_neg q0]
      by_cases q1 : e = 1
      · rw [if_pos q1]; subst q1; exact sx_catch C hNc (by decide) [⟨0, 17, 20, 19⟩] ⟨0, 17, 24, 21⟩ [] rfl (List.forall_mem_cons.mpr ⟨⟨by decide, 2, by decide, by decide, clk_19⟩, fun _ h => nomatch h⟩) rfl (by decide) clk_21 cst_1 (r_hand C dL_weights_24 dL_weights_26 dL_weights_27 (by decide) (by decide) (by decide))
      rw [if_neg q1]
      exact sx_none) (fun r1 d2 => ?_)
  show SS G X 5 _ _ 8 [(0, rf G 0), (1, i9 p1), (2, i9 p2), (3, rf G 194)] [i9 r1, i9 0, rf G 194] d2 _
  refine r_if_eq C (b := 0) 15 dL_weights_8 (by decide) (fun _ => ?_) (fun _ => ?_)
  · refine r_lconst C dL_weights_15 (a := 0) rfl ?_
    refine r_last C dL_weights_16 la_194 ly_194 (fun d3 => ?_)
    refine r_goto C 28 dL_weights_17 (by decide) ?_
    refine r_iconst C dL_weights_28 ?_
    exact r_iret C dL_weights_29 (by decide) (by decide)
  · refine r_lconst C dL_weights_11 (a := 1) rfl ?_
    refine r_goto C 16 dL_weights_12 (by decide) ?_
    refine r_last C dL_weights_16 la_194 ly_194 (fun d4 => ?_)
    refine r_goto C 28 dL_weights_17 (by decide) ?_
    refine r_iconst C dL_weights_28 ?_
    exact r_iret C dL_weights_29 (by decide) (by decide)
theorem dL_who_0 : decode cL_who 0 = .ok (.aload_n 3, 1) := by decide +kernel
theorem dL_who_1 : decode cL_who 1 = .ok (.iconst 0, 1) := by decide +kernel
theorem dL_who_2 : decode cL_who 2 = .ok (.aload_n 0, 1) := by decide +kernel
theorem dL_who_3 : decode cL_who 3 = .ok (.iload_n 1, 1) := by decide +kernel
theorem dL_who_4 : decode cL_who 4 = .ok (.iload_n 2, 1) := by decide +kernel
theorem dL_who_5 : decode cL_who 5 = .ok (.invokevirtual 122, 3) := by decide +kernel
theorem dL_who_8 : decode cL_who 8 = .ok (.ifCond .eq 7, 3) := by decide +kernel
theorem dL_who_11 : decode cL_who 11 = .ok (.lconst 1, 1) := by decide +kernel
theorem dL_who_12 : decode cL_who 12 = .ok (.goto 4, 3) := by decide +kernel
theorem dL_who_15 : decode cL_who 15 = .ok (.lconst 0, 1) := by decide +kernel
theorem dL_who_16 : decode cL_who 16 = .ok (.lastore, 1) := by decide +kernel
theorem dL_who_17 : decode cL_who 17 = .ok (.goto 11, 3) := by decide +kernel
theorem dL_who_20 : decode cL_who 20 = .ok (.astore 4, 2) := by decide +kernel
theorem dL_who_22 : decode cL_who 22 = .ok (.iconst 1, 1) := by decide +kernel
theorem dL_who_23 : decode cL_who 23 = .ok (.ireturn, 1) := by decide +kernel
theorem dL_who_24 : decode cL_who 24 = .ok (.astore 4, 2) := by decide +kernel
theorem dL_who_26 : decode cL_who 26 = .ok (.iconst 2, 1) := by decide +kernel
theorem dL_who_27 : decode cL_who 27 = .ok (.ireturn, 1) := by decide +kernel
theorem dL_who_28 : decode cL_who 28 = .ok (.iconst 0, 1) := by decide +kernel
theorem dL_who_29 : decode cL_who 29 = .ok (.ireturn, 1) := by decide +kernel
abbrev z_L_who : Z9 := (some .int, 1, 2, 12, 8, 155)
def m_L_who (p1 p2 : Int) (d : D9) : Option R9 := tc9 (m_X11_who_0 p1 p2 d) (fun r1 d2 => if w32 r1 = 0 then sd d2 194 1 0 0 (fun d3 => rt 0 d3) else sd d2 194 1 0 1 (fun d4 => rt 0 d4)) (fun e d => if e = 2 then rt 1 d else if e = 0 then rt 2 d else none)
set_option maxRecDepth 100000 in
theorem t_L_who {G : G9} {l : Launch} (h1 : va_D (A9 G) (wl G (fun _ _ => 0))) (h2 : l.stackTraces = false) (p1 p2 : Int) (d : D9) : MH G l yL_who cL_who 5 [(0, 17, 20, 19), (0, 17, 24, 13)] z_L_who [rf G 0, i9 p1, i9 p2, rf G 194] d (m_L_who p1 p2 d) := by
  refine mh_of (own := RL) (by decide) rfl (Nat.le_of_ble_eq_true rfl) h1 h2 [(0, rf G 0), (1, i9 p1), (2, i9 p2), (3, rf G 194)] rfl (fun X hX C hNc => ?_)
  unfold m_L_who
  refine r_aload_n C 3 dL_who_0 rfl rfl ?_
  refine r_iconst C dL_who_1 ?_
  refine r_aload_n C 0 dL_who_2 rfl rfl ?_
  refine r_iload_n C 1 dL_who_3 rfl rfl ?_
  refine r_iload_n C 2 dL_who_4 rfl rfl ?_
  refine r_callC C [i9 p2, i9 p1, rf G 0, i9 0, rf G 194] dL_who_5 (t_X11_who_0 C.h1 C.h2 p1 p2 d) mw_L_122 mv_X11_who la_0 ly_0 rfl (by decide) (by decide) (by decide) rfl rfl (Nat.le_of_ble_eq_true rfl) (fun e d => by
      by_cases q0 : e = 2
      · rw [if_pos q0]; subst q0; exact sx_catch C hNc (by decide) [] ⟨0, 17, 20, 19⟩ [⟨0, 17, 24, 13⟩] rfl (fun _ h => nomatch h) rfl (by decide) clk_19 cst_2 (r_hand C dL_who_20 dL_who_22 dL_who_23 (by decide) (by decide) (by decide))
      rw [if_neg q0]
      by_cases q1 : e = 0
      · rw [if_pos q1]; subst q1; exact sx_catch C hNc (by decide) [⟨0, 17, 20, 19⟩] ⟨0, 17, 24, 13⟩ [] rfl (List.forall_mem_cons.mpr ⟨⟨by decide, 2, by decide, by decide, clk_19⟩, fun _ h => nomatch h⟩) rfl (by decide) clk_13 cst_0 (r_hand C dL_who_24 dL_who_26 dL_who_27 (by decide) (by decide) (by decide))
      rw [if_neg q1]
      exact sx_none) (fun r1 d2 => ?_)
  show SS G X 5 _ _ 8 [(0, rf G 0), (1, i9 p1), (2, i9 p2), (3, rf G 194)] [i9 r1, i9 0, rf G 194] d2 _
  refine r_if_eq C (b := 0) 15 dL_who_8 (by decide) (fun _ => ?_) (fun _ => ?_)
  · refine r_lconst C dL_who_15 (a := 0) rfl ?_
    refine r_last C dL_who_16 la_194 ly_194 (fun d3 => ?_)
    refine r_goto C 28 dL_who_17 (by decide) ?_
    refine r_iconst C dL_who_28 ?_
    exact r_iret C dL_who_29 (by decide) (by decide)
  · refine r_lconst C dL_who_11 (a := 1) rfl ?_
    refine r_goto C 16 dL_who_12 (by decide) ?_
    refine r_last C dL_who_16 la_194 ly_194 (fun d4 => ?_)
    refine r_goto C 28 dL_who_17 (by decide) ?_
    refine r_iconst C dL_who_28 ?_
    exact r_iret C dL_who_29 (by decide) (by decide)
theorem dL_whose_0 : decode cL_whose 0 = .ok (.aload_n 3, 1) := by decide +kernel
theorem dL_whose_1 : decode cL_whose 1 = .ok (.iconst 0, 1) := by decide +kernel
theorem dL_whose_2 : decode cL_whose 2 = .ok (.aload_n 0, 1) := by decide +kernel
theorem dL_whose_3 : decode cL_whose 3 = .ok (.iload_n 1, 1) := by decide +kernel
theorem dL_whose_4 : decode cL_whose 4 = .ok (.iload_n 2, 1) := by decide +kernel
theorem dL_whose_5 : decode cL_whose 5 = .ok (.invokevirtual 100, 3) := by decide +kernel
theorem dL_whose_8 : decode cL_whose 8 = .ok (.ifCond .eq 7, 3) := by decide +kernel
theorem dL_whose_11 : decode cL_whose 11 = .ok (.lconst 1, 1) := by decide +kernel
theorem dL_whose_12 : decode cL_whose 12 = .ok (.goto 4, 3) := by decide +kernel
theorem dL_whose_15 : decode cL_whose 15 = .ok (.lconst 0, 1) := by decide +kernel
theorem dL_whose_16 : decode cL_whose 16 = .ok (.lastore, 1) := by decide +kernel
theorem dL_whose_17 : decode cL_whose 17 = .ok (.goto 15, 3) := by decide +kernel
theorem dL_whose_20 : decode cL_whose 20 = .ok (.astore 4, 2) := by decide +kernel
theorem dL_whose_22 : decode cL_whose 22 = .ok (.iconst 1, 1) := by decide +kernel
theorem dL_whose_23 : decode cL_whose 23 = .ok (.ireturn, 1) := by decide +kernel
theorem dL_whose_24 : decode cL_whose 24 = .ok (.astore 4, 2) := by decide +kernel
theorem dL_whose_26 : decode cL_whose 26 = .ok (.iconst 2, 1) := by decide +kernel
theorem dL_whose_27 : decode cL_whose 27 = .ok (.ireturn, 1) := by decide +kernel
theorem dL_whose_28 : decode cL_whose 28 = .ok (.astore 4, 2) := by decide +kernel
theorem dL_whose_30 : decode cL_whose 30 = .ok (.iconst 3, 1) := by decide +kernel
theorem dL_whose_31 : decode cL_whose 31 = .ok (.ireturn, 1) := by decide +kernel
theorem dL_whose_32 : decode cL_whose 32 = .ok (.iconst 0, 1) := by decide +kernel
theorem dL_whose_33 : decode cL_whose 33 = .ok (.ireturn, 1) := by decide +kernel
abbrev z_L_whose : Z9 := (some .int, 1, 3, 18, 9, 165)
def m_L_whose (p1 p2 : Int) (d : D9) : Option R9 := tc9 (m_X11_whose_0 p1 p2 d) (fun r1 d2 => if w32 r1 = 0 then sd d2 194 1 0 0 (fun d3 => rt 0 d3) else sd d2 194 1 0 1 (fun d4 => rt 0 d4)) (fun e d => if e = 2 then rt 1 d else if e = 1 then rt 2 d else if e = 0 then rt 3 d else none)
set_option maxRecDepth 100000 in
theorem t_L_whose {G : G9} {l : Launch} (h1 : va_D (A9 G) (wl G (fun _ _ => 0))) (h2 : l.stackTraces = false) (p1 p2 : Int) (d : D9) : MH G l yL_whose cL_whose 5 [(0, 17, 20, 19), (0, 17, 24, 21), (0, 17, 28, 13)] z_L_whose [rf G 0, i9 p1, i9 p2, rf G 194] d (m_L_whose p1 p2 d) := by
  refine mh_of (own := RL) (by decide) rfl (Nat.le_of_ble_eq_true rfl) h1 h2 [(0, rf G 0), (1, i9 p1), (2, i9 p2), (3, rf G 194)] rfl (fun X hX C hNc => ?_)
  unfold m_L_whose
  refine r_aload_n C 3 dL_whose_0 rfl rfl ?_
  refine r_iconst C dL_whose_1 ?_
  refine r_aload_n C 0 dL_whose_2 rfl rfl ?_
  refine r_iload_n C 1 dL_whose_3 rfl rfl ?_
  refine r_iload_n C 2 dL_whose_4 rfl rfl ?_
  refine r_callC C [i9 p2, i9 p1, rf G 0, i9 0, rf G 194] dL_whose_5 (t_X11_whose_0 C.h1 C.h2 p1 p2 d) mw_L_100 mv_X11_whose la_0 ly_0 rfl (by decide) (by decide) (by decide) rfl rfl (Nat.le_of_ble_eq_true rfl) (fun e d => by
      by_cases q0 : e = 2
      · rw [if_pos q0]; subst q0; exact sx_catch C hNc (by decide) [] ⟨0, 17, 20, 19⟩ [⟨0, 17, 24, 21⟩, ⟨0, 17, 28, 13⟩] rfl (fun _ h => nomatch h) rfl (by decide) clk_19 cst_2 (r_hand C dL_whose_20 dL_whose_22 dL_whose_23 (by decide) (by decide) (by decide))
      rw [if_neg q0]
      by_cases q1 : e = 1
      · rw [if_pos q1]; subst q1; exact sx_catch C hNc (by decide) [⟨0, 17, 20, 19⟩] ⟨0, 17, 24, 21⟩ [⟨0, 17, 28, 13⟩] rfl (List.forall_mem_cons.mpr ⟨⟨by decide, 2, by decide, by decide, clk_19⟩, fun _ h => nomatch h⟩) rfl (by decide) clk_21 cst_1 (r_hand C dL_whose_24 dL_whose_26 dL_whose_27 (by decide) (by decide) (by decide))
      rw [if_neg q1]
      by_cases q2 : e = 0
      · rw [if_pos q2]; subst q2; exact sx_catch C hNc (by decide) [⟨0, 17, 20, 19⟩, ⟨0, 17, 24, 21⟩] ⟨0, 17, 28, 13⟩ [] rfl (List.forall_mem_cons.mpr ⟨⟨by decide, 2, by decide, by decide, clk_19⟩, List.forall_mem_cons.mpr ⟨⟨by decide, 1, by decide, by decide, clk_21⟩, fun _ h => nomatch h⟩⟩) rfl (by decide) clk_13 cst_0 (r_hand C dL_whose_28 dL_whose_30 dL_whose_31 (by decide) (by decide) (by decide))
      rw [if_neg q2]
      exact sx_none) (fun r1 d2 => ?_)
  show SS G X 5 _ _ 8 [(0, rf G 0), (1, i9 p1), (2, i9 p2), (3, rf G 194)] [i9 r1, i9 0, rf G 194] d2 _
  refine r_if_eq C (b := 0) 15 dL_whose_8 (by decide) (fun _ => ?_) (fun _ => ?_)
  · refine r_lconst C dL_whose_15 (a := 0) rfl ?_
    refine r_last C dL_whose_16 la_194 ly_194 (fun d3 => ?_)
    refine r_goto C 32 dL_whose_17 (by decide) ?_
    refine r_iconst C dL_whose_32 ?_
    exact r_iret C dL_whose_33 (by decide) (by decide)
  · refine r_lconst C dL_whose_11 (a := 1) rfl ?_
    refine r_goto C 16 dL_whose_12 (by decide) ?_
    refine r_last C dL_whose_16 la_194 ly_194 (fun d4 => ?_)
    refine r_goto C 32 dL_whose_17 (by decide) ?_
    refine r_iconst C dL_whose_32 ?_
    exact r_iret C dL_whose_33 (by decide) (by decide)
theorem dL_write_0 : decode cL_write 0 = .ok (.aload 5, 2) := by decide +kernel
theorem dL_write_2 : decode cL_write 2 = .ok (.iconst 0, 1) := by decide +kernel
theorem dL_write_3 : decode cL_write 3 = .ok (.aload_n 0, 1) := by decide +kernel
theorem dL_write_4 : decode cL_write 4 = .ok (.iload_n 1, 1) := by decide +kernel
theorem dL_write_5 : decode cL_write 5 = .ok (.iload_n 2, 1) := by decide +kernel
theorem dL_write_6 : decode cL_write 6 = .ok (.lload_n 3, 1) := by decide +kernel
theorem dL_write_7 : decode cL_write 7 = .ok (.invokevirtual 150, 3) := by decide +kernel
theorem dL_write_10 : decode cL_write 10 = .ok (.lastore, 1) := by decide +kernel
theorem dL_write_11 : decode cL_write 11 = .ok (.goto 15, 3) := by decide +kernel
theorem dL_write_14 : decode cL_write 14 = .ok (.astore 6, 2) := by decide +kernel
theorem dL_write_16 : decode cL_write 16 = .ok (.iconst 1, 1) := by decide +kernel
theorem dL_write_17 : decode cL_write 17 = .ok (.ireturn, 1) := by decide +kernel
theorem dL_write_18 : decode cL_write 18 = .ok (.astore 6, 2) := by decide +kernel
theorem dL_write_20 : decode cL_write 20 = .ok (.iconst 2, 1) := by decide +kernel
theorem dL_write_21 : decode cL_write 21 = .ok (.ireturn, 1) := by decide +kernel
theorem dL_write_22 : decode cL_write 22 = .ok (.astore 6, 2) := by decide +kernel
theorem dL_write_24 : decode cL_write 24 = .ok (.iconst 3, 1) := by decide +kernel
theorem dL_write_25 : decode cL_write 25 = .ok (.ireturn, 1) := by decide +kernel
theorem dL_write_26 : decode cL_write 26 = .ok (.iconst 0, 1) := by decide +kernel
theorem dL_write_27 : decode cL_write 27 = .ok (.ireturn, 1) := by decide +kernel
abbrev z_L_write : Z9 := (some .int, 1, 3, 18, 9, 165)
def m_L_write (p1 p2 p3 : Int) (d : D9) : Option R9 := tc9 (m_X11_write_0 p1 p2 p3 d) (fun r1 d2 => sd d2 194 1 0 r1 (fun d3 => rt 0 d3)) (fun e d => if e = 2 then rt 1 d else if e = 1 then rt 2 d else if e = 3 then rt 3 d else none)
set_option maxRecDepth 100000 in
theorem t_L_write {G : G9} {l : Launch} (h1 : va_D (A9 G) (wl G (fun _ _ => 0))) (h2 : l.stackTraces = false) (p1 p2 p3 : Int) (d : D9) : MH G l yL_write cL_write 7 [(0, 11, 14, 19), (0, 11, 18, 21), (0, 11, 22, 154)] z_L_write [rf G 0, i9 p1, i9 p2, l9 p3, rf G 194] d (m_L_write p1 p2 p3 d) := by
  refine mh_of (own := RL) (by decide) rfl (Nat.le_of_ble_eq_true rfl) h1 h2 [(0, rf G 0), (1, i9 p1), (2, i9 p2), (3, l9 p3), (5, rf G 194)] rfl (fun X hX C hNc => ?_)
  unfold m_L_write
  refine r_aload C 4 dL_write_0 rfl ?_
  refine r_iconst C dL_write_2 ?_
  refine r_aload_n C 0 dL_write_3 rfl rfl ?_
  refine r_iload_n C 1 dL_write_4 rfl rfl ?_
  refine r_iload_n C 2 dL_write_5 rfl rfl ?_
  refine r_lload_n C 3 dL_write_6 rfl rfl ?_
  refine r_callC C [l9 p3, i9 p2, i9 p1, rf G 0, i9 0, rf G 194] dL_write_7 (t_X11_write_0 C.h1 C.h2 p1 p2 p3 d) mw_L_150 mv_X11_write la_0 ly_0 rfl (by decide) (by decide) (by decide) rfl rfl (Nat.le_of_ble_eq_true rfl) (fun e d => by
      by_cases q0 : e = 2
      · rw [if_pos q0]; subst q0; exact sx_catch C hNc (by decide) [] ⟨0, 11, 14, 19⟩ [⟨0, 11, 18, 21⟩, ⟨0, 11, 22, 154⟩] rfl (fun _ h => nomatch h) rfl (by decide) clk_19 cst_2 (r_hand C dL_write_14 dL_write_16 dL_write_17 (by decide) (by decide) (by decide))
      rw [if_neg q0]
      by_cases q1 : e = 1
      · rw [if_pos q1]; subst q1; exact sx_catch C hNc (by decide) [⟨0, 11, 14, 19⟩] ⟨0, 11, 18, 21⟩ [⟨0, 11, 22, 154⟩] rfl (List.forall_mem_cons.mpr ⟨⟨by decide, 2, by decide, by decide, clk_19⟩, fun _ h => nomatch h⟩) rfl (by decide) clk_21 cst_1 (r_hand C dL_write_18 dL_write_20 dL_write_21 (by decide) (by decide) (by decide))
      rw [if_neg q1]
      by_cases q2 : e = 3
      · rw [if_pos q2]; subst q2; exact sx_catch C hNc (by decide) [⟨0, 11, 14, 19⟩, ⟨0, 11, 18, 21⟩] ⟨0, 11, 22, 154⟩ [] rfl (List.forall_mem_cons.mpr ⟨⟨by decide, 2, by decide, by decide, clk_19⟩, List.forall_mem_cons.mpr ⟨⟨by decide, 1, by decide, by decide, clk_21⟩, fun _ h => nomatch h⟩⟩) rfl (by decide) clk_154 cst_3 (r_hand C dL_write_22 dL_write_24 dL_write_25 (by decide) (by decide) (by decide))
      rw [if_neg q2]
      exact sx_none) (fun r1 d2 => ?_)
  show SS G X 7 _ _ 10 [(0, rf G 0), (1, i9 p1), (2, i9 p2), (3, l9 p3), (5, rf G 194)] [l9 r1, i9 0, rf G 194] d2 _
  refine r_last C dL_write_10 la_194 ly_194 (fun d3 => ?_)
  refine r_goto C 26 dL_write_11 (by decide) ?_
  refine r_iconst C dL_write_26 ?_
  exact r_iret C dL_write_27 (by decide) (by decide)

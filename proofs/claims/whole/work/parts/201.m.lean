theorem dX11_askPaint_0 : decode cX11_askPaint 0 = .ok (.iload_n 1, 1) := by decide +kernel
theorem dX11_askPaint_1 : decode cX11_askPaint 1 = .ok (.ifCond .lt 17, 3) := by decide +kernel
theorem dX11_askPaint_4 : decode cX11_askPaint 4 = .ok (.iload_n 1, 1) := by decide +kernel
theorem dX11_askPaint_5 : decode cX11_askPaint 5 = .ok (.aload_n 0, 1) := by decide +kernel
theorem dX11_askPaint_6 : decode cX11_askPaint 6 = .ok (.getfield 10, 3) := by decide +kernel
theorem dX11_askPaint_9 : decode cX11_askPaint 9 = .ok (.getfield 77, 3) := by decide +kernel
theorem dX11_askPaint_12 : decode cX11_askPaint 12 = .ok (.getfield 278, 3) := by decide +kernel
theorem dX11_askPaint_15 : decode cX11_askPaint 15 = .ok (.if_icmp .lt 14, 3) := by decide +kernel
theorem dX11_askPaint_18 : decode cX11_askPaint 18 = .ok (.new 218, 3) := by decide +kernel
theorem dX11_askPaint_21 : decode cX11_askPaint 21 = .ok (.dup, 1) := by decide +kernel
theorem dX11_askPaint_22 : decode cX11_askPaint 22 = .ok (.ldc_w 453, 3) := by decide +kernel
theorem dX11_askPaint_25 : decode cX11_askPaint 25 = .ok (.invokespecial 222, 3) := by decide +kernel
theorem dX11_askPaint_28 : decode cX11_askPaint 28 = .ok (.athrow, 1) := by decide +kernel
theorem dX11_askPaint_29 : decode cX11_askPaint 29 = .ok (.return_, 1) := by decide +kernel
abbrev z_X11_askPaint_0 : Z9 := (none, 0, 1, 6, 6, 100)
def m_X11_askPaint_0_c18 (d : D9) : Option R9 := th 2 d
def m_X11_askPaint_0 (p1 : Int) (d : D9) : Option R9 := if w32 p1 < 0 then m_X11_askPaint_0_c18   d else if w32 p1 < w32 (d 2 0) then rt 0 d else m_X11_askPaint_0_c18   d
set_option maxRecDepth 100000 in
theorem s_X11_askPaint_0_c18 {G : G9} {X : X9} (C : CX G X cX11_askPaint 2 RX11 [] z_X11_askPaint_0) : ∀ (d : D9), SS G X 2 0 0 18 [] [] d (m_X11_askPaint_0_c18   d) := by
  intro  d
  unfold m_X11_askPaint_0_c18
  exact r_throwNW C 1 rfl tn_222 tc_2 dX11_askPaint_18 dX11_askPaint_21 dX11_askPaint_22 dX11_askPaint_25 dX11_askPaint_28 (by decide) (by decide) (by decide) (by decide)
set_option maxRecDepth 100000 in
theorem t_X11_askPaint_0 {G : G9} {l : Launch} (h1 : va_D (A9 G) (wl G (fun _ _ => 0))) (h2 : l.stackTraces = false) (p1 : Int) (d : D9) : MT G l yX11_askPaint cX11_askPaint 2 z_X11_askPaint_0 [rf G 0, i9 p1] d (m_X11_askPaint_0 p1 d) := by
  refine mt_of (own := RX11) (by decide) rfl (Nat.le_of_ble_eq_true rfl) h1 h2 [(0, rf G 0), (1, i9 p1)] rfl (fun X hX C => ?_)
  unfold m_X11_askPaint_0
  refine r_iload_n C 1 dX11_askPaint_0 rfl rfl ?_
  refine r_if_lt C (b := 0) 18 dX11_askPaint_1 (by decide) (fun _ => ?_) (fun _ => ?_)
  · refine ss_wide (k' := 0) (n' := 0) (by decide) (by decide) ?_
    refine ss_ls [] [] rfl ?_
    exact s_X11_askPaint_0_c18 C   d
  · refine r_iload_n C 1 dX11_askPaint_4 rfl rfl ?_
    refine r_aload_n C 0 dX11_askPaint_5 rfl rfl ?_
    refine r_getR C 1 dX11_askPaint_6 fl_X11_10 la_0 ly_0 rfl rfl ?_
    refine r_getR C 2 dX11_askPaint_9 fl_X11_77 la_1 ly_1 rfl rfl ?_
    refine r_getI C dX11_askPaint_12 fl_X11_278 la_2 ly_2 rfl ?_
    refine r_icmp_lt C 29 dX11_askPaint_15 (by decide) (fun _ => ?_) (fun _ => ?_)
    · exact r_vret C dX11_askPaint_29 (by decide) (by decide)
    · refine ss_wide (k' := 0) (n' := 0) (by decide) (by decide) ?_
      refine ss_ls [] [] rfl ?_
      exact s_X11_askPaint_0_c18 C   d
theorem dJ6_bitCount_0f7a4_0 : decode cJ6_bitCount_0f7a4 0 = .ok (.iload_n 0, 1) := by decide +kernel
theorem dJ6_bitCount_0f7a4_1 : decode cJ6_bitCount_0f7a4 1 = .ok (.iload_n 0, 1) := by decide +kernel
theorem dJ6_bitCount_0f7a4_2 : decode cJ6_bitCount_0f7a4 2 = .ok (.iconst 1, 1) := by decide +kernel
theorem dJ6_bitCount_0f7a4_3 : decode cJ6_bitCount_0f7a4 3 = .ok (.iushr, 1) := by decide +kernel
theorem dJ6_bitCount_0f7a4_4 : decode cJ6_bitCount_0f7a4 4 = .ok (.ldc_w 265, 3) := by decide +kernel
theorem dJ6_bitCount_0f7a4_7 : decode cJ6_bitCount_0f7a4 7 = .ok (.iand, 1) := by decide +kernel
theorem dJ6_bitCount_0f7a4_8 : decode cJ6_bitCount_0f7a4 8 = .ok (.isub, 1) := by decide +kernel
theorem dJ6_bitCount_0f7a4_9 : decode cJ6_bitCount_0f7a4 9 = .ok (.istore_n 0, 1) := by decide +kernel
theorem dJ6_bitCount_0f7a4_10 : decode cJ6_bitCount_0f7a4 10 = .ok (.iload_n 0, 1) := by decide +kernel
theorem dJ6_bitCount_0f7a4_11 : decode cJ6_bitCount_0f7a4 11 = .ok (.ldc_w 266, 3) := by decide +kernel
theorem dJ6_bitCount_0f7a4_14 : decode cJ6_bitCount_0f7a4 14 = .ok (.iand, 1) := by decide +kernel
theorem dJ6_bitCount_0f7a4_15 : decode cJ6_bitCount_0f7a4 15 = .ok (.iload_n 0, 1) := by decide +kernel
theorem dJ6_bitCount_0f7a4_16 : decode cJ6_bitCount_0f7a4 16 = .ok (.iconst 2, 1) := by decide +kernel
theorem dJ6_bitCount_0f7a4_17 : decode cJ6_bitCount_0f7a4 17 = .ok (.iushr, 1) := by decide +kernel
theorem dJ6_bitCount_0f7a4_18 : decode cJ6_bitCount_0f7a4 18 = .ok (.ldc_w 266, 3) := by decide +kernel
theorem dJ6_bitCount_0f7a4_21 : decode cJ6_bitCount_0f7a4 21 = .ok (.iand, 1) := by decide +kernel
theorem dJ6_bitCount_0f7a4_22 : decode cJ6_bitCount_0f7a4 22 = .ok (.iadd, 1) := by decide +kernel
theorem dJ6_bitCount_0f7a4_23 : decode cJ6_bitCount_0f7a4 23 = .ok (.istore_n 0, 1) := by decide +kernel
theorem dJ6_bitCount_0f7a4_24 : decode cJ6_bitCount_0f7a4 24 = .ok (.iload_n 0, 1) := by decide +kernel
theorem dJ6_bitCount_0f7a4_25 : decode cJ6_bitCount_0f7a4 25 = .ok (.iload_n 0, 1) := by decide +kernel
theorem dJ6_bitCount_0f7a4_26 : decode cJ6_bitCount_0f7a4 26 = .ok (.iconst 4, 1) := by decide +kernel
theorem dJ6_bitCount_0f7a4_27 : decode cJ6_bitCount_0f7a4 27 = .ok (.iushr, 1) := by decide +kernel
theorem dJ6_bitCount_0f7a4_28 : decode cJ6_bitCount_0f7a4 28 = .ok (.iadd, 1) := by decide +kernel
theorem dJ6_bitCount_0f7a4_29 : decode cJ6_bitCount_0f7a4 29 = .ok (.ldc_w 267, 3) := by decide +kernel
theorem dJ6_bitCount_0f7a4_32 : decode cJ6_bitCount_0f7a4 32 = .ok (.iand, 1) := by decide +kernel
theorem dJ6_bitCount_0f7a4_33 : decode cJ6_bitCount_0f7a4 33 = .ok (.istore_n 0, 1) := by decide +kernel
theorem dJ6_bitCount_0f7a4_34 : decode cJ6_bitCount_0f7a4 34 = .ok (.iload_n 0, 1) := by decide +kernel
theorem dJ6_bitCount_0f7a4_35 : decode cJ6_bitCount_0f7a4 35 = .ok (.iload_n 0, 1) := by decide +kernel
theorem dJ6_bitCount_0f7a4_36 : decode cJ6_bitCount_0f7a4 36 = .ok (.bipush 8, 2) := by decide +kernel
theorem dJ6_bitCount_0f7a4_38 : decode cJ6_bitCount_0f7a4 38 = .ok (.iushr, 1) := by decide +kernel
theorem dJ6_bitCount_0f7a4_39 : decode cJ6_bitCount_0f7a4 39 = .ok (.iadd, 1) := by decide +kernel
theorem dJ6_bitCount_0f7a4_40 : decode cJ6_bitCount_0f7a4 40 = .ok (.istore_n 0, 1) := by decide +kernel
theorem dJ6_bitCount_0f7a4_41 : decode cJ6_bitCount_0f7a4 41 = .ok (.iload_n 0, 1) := by decide +kernel
theorem dJ6_bitCount_0f7a4_42 : decode cJ6_bitCount_0f7a4 42 = .ok (.iload_n 0, 1) := by decide +kernel
theorem dJ6_bitCount_0f7a4_43 : decode cJ6_bitCount_0f7a4 43 = .ok (.bipush 16, 2) := by decide +kernel
theorem dJ6_bitCount_0f7a4_45 : decode cJ6_bitCount_0f7a4 45 = .ok (.iushr, 1) := by decide +kernel
theorem dJ6_bitCount_0f7a4_46 : decode cJ6_bitCount_0f7a4 46 = .ok (.iadd, 1) := by decide +kernel
theorem dJ6_bitCount_0f7a4_47 : decode cJ6_bitCount_0f7a4 47 = .ok (.istore_n 0, 1) := by decide +kernel
theorem dJ6_bitCount_0f7a4_48 : decode cJ6_bitCount_0f7a4 48 = .ok (.iload_n 0, 1) := by decide +kernel
theorem dJ6_bitCount_0f7a4_49 : decode cJ6_bitCount_0f7a4 49 = .ok (.bipush 63, 2) := by decide +kernel
theorem dJ6_bitCount_0f7a4_51 : decode cJ6_bitCount_0f7a4 51 = .ok (.iand, 1) := by decide +kernel
theorem dJ6_bitCount_0f7a4_52 : decode cJ6_bitCount_0f7a4 52 = .ok (.ireturn, 1) := by decide +kernel
abbrev z_J6_bitCount_0f7a4 : Z9 := (some .int, 1, 0, 0, 1, 0)
def m_J6_bitCount_0f7a4 (p0 : Int) (d : D9) : Option R9 := lt9v (p0 - (and9 (ush9 p0 1) 1431655765)) (fun a1 => lt9v ((and9 a1 858993459) + (and9 (ush9 a1 2) 858993459)) (fun a2 => lt9v (and9 (a2 + (ush9 a2 4)) 252645135) (fun a3 => lt9v (a3 + (ush9 a3 8)) (fun a4 => lt9v (a4 + (ush9 a4 16)) (fun a5 => rt (and9 a5 63) d)))))
set_option maxRecDepth 100000 in
theorem t_J6_bitCount_0f7a4 {G : G9} {l : Launch} (h1 : va_D (A9 G) (wl G (fun _ _ => 0))) (h2 : l.stackTraces = false) (p0 : Int) (d : D9) : MT G l yJ6_bitCount_0f7a4 cJ6_bitCount_0f7a4 1 z_J6_bitCount_0f7a4 [i9 p0] d (m_J6_bitCount_0f7a4 p0 d) := by
  refine mt_of (own := RJ6) (by decide) rfl (Nat.le_of_ble_eq_true rfl) h1 h2 [(0, i9 p0)] rfl (fun X hX C => ?_)
  unfold m_J6_bitCount_0f7a4
  refine r_iload_n C 0 dJ6_bitCount_0f7a4_0 rfl rfl ?_
  refine r_iload_n C 0 dJ6_bitCount_0f7a4_1 rfl rfl ?_
  refine r_iconst C dJ6_bitCount_0f7a4_2 ?_
  refine r_iushr C dJ6_bitCount_0f7a4_3 ?_
  refine r_ldcIW C dJ6_bitCount_0f7a4_4 kc_J6_265 ?_
  refine r_iand C dJ6_bitCount_0f7a4_7 ?_
  refine r_isub C dJ6_bitCount_0f7a4_8 ?_
  refine ss_lt (fun a1 => ?_)
  refine r_istore_n C [(0, i9 a1)] dJ6_bitCount_0f7a4_9 rfl (by decide) rfl ?_
  refine r_iload_n C 0 dJ6_bitCount_0f7a4_10 rfl rfl ?_
  refine r_ldcIW C dJ6_bitCount_0f7a4_11 kc_J6_266 ?_
  refine r_iand C dJ6_bitCount_0f7a4_14 ?_
  refine r_iload_n C 0 dJ6_bitCount_0f7a4_15 rfl rfl ?_
  refine r_iconst C dJ6_bitCount_0f7a4_16 ?_
  refine r_iushr C dJ6_bitCount_0f7a4_17 ?_
  refine r_ldcIW C dJ6_bitCount_0f7a4_18 kc_J6_266 ?_
  refine r_iand C dJ6_bitCount_0f7a4_21 ?_
  refine r_iadd C dJ6_bitCount_0f7a4_22 ?_
  refine ss_lt (fun a2 => ?_)
  refine r_istore_n C [(0, i9 a2)] dJ6_bitCount_0f7a4_23 rfl (by decide) rfl ?_
  refine r_iload_n C 0 dJ6_bitCount_0f7a4_24 rfl rfl ?_
  refine r_iload_n C 0 dJ6_bitCount_0f7a4_25 rfl rfl ?_
  refine r_iconst C dJ6_bitCount_0f7a4_26 ?_
  refine r_iushr C dJ6_bitCount_0f7a4_27 ?_
  refine r_iadd C dJ6_bitCount_0f7a4_28 ?_
  refine r_ldcIW C dJ6_bitCount_0f7a4_29 kc_J6_267 ?_
  refine r_iand C dJ6_bitCount_0f7a4_32 ?_
  refine ss_lt (fun a3 => ?_)
  refine r_istore_n C [(0, i9 a3)] dJ6_bitCount_0f7a4_33 rfl (by decide) rfl ?_
  refine r_iload_n C 0 dJ6_bitCount_0f7a4_34 rfl rfl ?_
  refine r_iload_n C 0 dJ6_bitCount_0f7a4_35 rfl rfl ?_
  refine r_bipush C dJ6_bitCount_0f7a4_36 rfl ?_
  refine r_iushr C dJ6_bitCount_0f7a4_38 ?_
  refine r_iadd C dJ6_bitCount_0f7a4_39 ?_
  refine ss_lt (fun a4 => ?_)
  refine r_istore_n C [(0, i9 a4)] dJ6_bitCount_0f7a4_40 rfl (by decide) rfl ?_
  refine r_iload_n C 0 dJ6_bitCount_0f7a4_41 rfl rfl ?_
  refine r_iload_n C 0 dJ6_bitCount_0f7a4_42 rfl rfl ?_
  refine r_bipush C dJ6_bitCount_0f7a4_43 rfl ?_
  refine r_iushr C dJ6_bitCount_0f7a4_45 ?_
  refine r_iadd C dJ6_bitCount_0f7a4_46 ?_
  refine ss_lt (fun a5 => ?_)
  refine r_istore_n C [(0, i9 a5)] dJ6_bitCount_0f7a4_47 rfl (by decide) rfl ?_
  refine r_iload_n C 0 dJ6_bitCount_0f7a4_48 rfl rfl ?_
  refine r_bipush C dJ6_bitCount_0f7a4_49 rfl ?_
  refine r_iand C dJ6_bitCount_0f7a4_51 ?_
  exact r_iret C dJ6_bitCount_0f7a4_52 (by decide) (by decide)
theorem dX3_reach_0 : decode cX3_reach 0 = .ok (.iconst 0, 1) := by decide +kernel
theorem dX3_reach_1 : decode cX3_reach 1 = .ok (.istore_n 3, 1) := by decide +kernel
theorem dX3_reach_2 : decode cX3_reach 2 = .ok (.aload_n 2, 1) := by decide +kernel
theorem dX3_reach_3 : decode cX3_reach 3 = .ok (.iload_n 1, 1) := by decide +kernel
theorem dX3_reach_4 : decode cX3_reach 4 = .ok (.iaload, 1) := by decide +kernel
theorem dX3_reach_5 : decode cX3_reach 5 = .ok (.istore 4, 2) := by decide +kernel
theorem dX3_reach_7 : decode cX3_reach 7 = .ok (.iconst 0, 1) := by decide +kernel
theorem dX3_reach_8 : decode cX3_reach 8 = .ok (.istore 5, 2) := by decide +kernel
theorem dX3_reach_10 : decode cX3_reach 10 = .ok (.iload 5, 2) := by decide +kernel
theorem dX3_reach_12 : decode cX3_reach 12 = .ok (.bipush 30, 2) := by decide +kernel
theorem dX3_reach_14 : decode cX3_reach 14 = .ok (.if_icmp .ge 60, 3) := by decide +kernel
theorem dX3_reach_17 : decode cX3_reach 17 = .ok (.iload 4, 2) := by decide +kernel
theorem dX3_reach_19 : decode cX3_reach 19 = .ok (.ifCond .eq 55, 3) := by decide +kernel
theorem dX3_reach_22 : decode cX3_reach 22 = .ok (.iload 4, 2) := by decide +kernel
theorem dX3_reach_24 : decode cX3_reach 24 = .ok (.iload 4, 2) := by decide +kernel
theorem dX3_reach_26 : decode cX3_reach 26 = .ok (.ineg, 1) := by decide +kernel
theorem dX3_reach_27 : decode cX3_reach 27 = .ok (.iand, 1) := by decide +kernel
theorem dX3_reach_28 : decode cX3_reach 28 = .ok (.istore 6, 2) := by decide +kernel
theorem dX3_reach_30 : decode cX3_reach 30 = .ok (.iload 6, 2) := by decide +kernel
theorem dX3_reach_32 : decode cX3_reach 32 = .ok (.iconst 1, 1) := by decide +kernel
theorem dX3_reach_33 : decode cX3_reach 33 = .ok (.isub, 1) := by decide +kernel
theorem dX3_reach_34 : decode cX3_reach 34 = .ok (.invokestatic 45, 3) := by decide +kernel
theorem dX3_reach_37 : decode cX3_reach 37 = .ok (.istore 7, 2) := by decide +kernel
theorem dX3_reach_39 : decode cX3_reach 39 = .ok (.iload_n 3, 1) := by decide +kernel
theorem dX3_reach_40 : decode cX3_reach 40 = .ok (.iload 6, 2) := by decide +kernel
theorem dX3_reach_42 : decode cX3_reach 42 = .ok (.ior, 1) := by decide +kernel
theorem dX3_reach_43 : decode cX3_reach 43 = .ok (.istore_n 3, 1) := by decide +kernel
theorem dX3_reach_44 : decode cX3_reach 44 = .ok (.iload 4, 2) := by decide +kernel
theorem dX3_reach_46 : decode cX3_reach 46 = .ok (.iload 7, 2) := by decide +kernel
theorem dX3_reach_48 : decode cX3_reach 48 = .ok (.bipush 30, 2) := by decide +kernel
theorem dX3_reach_50 : decode cX3_reach 50 = .ok (.if_icmp .ge 10, 3) := by decide +kernel
theorem dX3_reach_53 : decode cX3_reach 53 = .ok (.aload_n 2, 1) := by decide +kernel
theorem dX3_reach_54 : decode cX3_reach 54 = .ok (.iload 7, 2) := by decide +kernel
theorem dX3_reach_56 : decode cX3_reach 56 = .ok (.iaload, 1) := by decide +kernel
theorem dX3_reach_57 : decode cX3_reach 57 = .ok (.goto 4, 3) := by decide +kernel
theorem dX3_reach_60 : decode cX3_reach 60 = .ok (.iconst 0, 1) := by decide +kernel
theorem dX3_reach_61 : decode cX3_reach 61 = .ok (.ior, 1) := by decide +kernel
theorem dX3_reach_62 : decode cX3_reach 62 = .ok (.iload_n 3, 1) := by decide +kernel
theorem dX3_reach_63 : decode cX3_reach 63 = .ok (.iconst (-1), 1) := by decide +kernel
theorem dX3_reach_64 : decode cX3_reach 64 = .ok (.ixor, 1) := by decide +kernel
theorem dX3_reach_65 : decode cX3_reach 65 = .ok (.iand, 1) := by decide +kernel
theorem dX3_reach_66 : decode cX3_reach 66 = .ok (.istore 4, 2) := by decide +kernel
theorem dX3_reach_68 : decode cX3_reach 68 = .ok (.iinc 5 1, 3) := by decide +kernel
theorem dX3_reach_71 : decode cX3_reach 71 = .ok (.goto (-61), 3) := by decide +kernel
theorem dX3_reach_74 : decode cX3_reach 74 = .ok (.iload_n 3, 1) := by decide +kernel
theorem dX3_reach_75 : decode cX3_reach 75 = .ok (.ireturn, 1) := by decide +kernel
abbrev z_X3_reach_2_7 : Z9 := (some .int, 1, 0, 0, 2, 20)
def b_X3_reach_2_7_c10 (k_X3_reach_2_7_c10 : Int → Int → Int → D9 → Option R9) (v3 v4 v5 : Int) (d : D9) : Option R9 := if w32 30 ≤ w32 v5 then rt v3 d else if w32 v4 = 0 then rt v3 d else lt9v (and9 v4 (-v4)) (fun a1 => cl (m_J6_bitCount_0f7a4 (a1 - 1) d) (fun r2 d3 => lt9v (or9 v3 a1) (fun a4 => if w32 30 ≤ w32 r2 then lt9v (and9 (or9 v4 0) (xor9 a4 (-1))) (fun a5 => k_X3_reach_2_7_c10 a4 a5 (v5 + 1) d3) else ld d3 7 30 r2 (fun t6 => lt9v (and9 (or9 v4 t6) (xor9 a4 (-1))) (fun a7 => k_X3_reach_2_7_c10 a4 a7 (v5 + 1) d3)))))
def m_X3_reach_2_7_c10 : Int → Int → Int → D9 → Option R9 := fix9 (fun _ _ _ _ => none) (fun k => b_X3_reach_2_7_c10 k) FU
def m_X3_reach_2_7 (p1 : Int) (d : D9) : Option R9 := ld d 7 30 p1 (fun t1 => m_X3_reach_2_7_c10  0 t1 0 d)
set_option maxRecDepth 100000 in
theorem sb_X3_reach_2_7_c10 {G : G9} {X : X9} (C : CX G X cX3_reach 8 RX3 [] z_X3_reach_2_7) (k_X3_reach_2_7_c10 : Int → Int → Int → D9 → Option R9) (hk_X3_reach_2_7_c10 : ∀ (v3 v4 v5 : Int) (d : D9), SS G X 8 0 0 10 [(2, rf G 7), (3, i9 v3), (4, i9 v4), (5, i9 v5)] [] d (k_X3_reach_2_7_c10 v3 v4 v5 d)) : ∀ (v3 v4 v5 : Int) (d : D9), SS G X 8 0 0 10 [(2, rf G 7), (3, i9 v3), (4, i9 v4), (5, i9 v5)] [] d (b_X3_reach_2_7_c10 k_X3_reach_2_7_c10 v3 v4 v5 d) := by
  intro v3 v4 v5 d
  unfold b_X3_reach_2_7_c10
  refine r_iload C 3 dX3_reach_10 rfl ?_
  refine r_bipush C dX3_reach_12 rfl ?_
  refine r_icmp_ge C 74 dX3_reach_14 (by decide) (fun _ => ?_) (fun _ => ?_)
  · refine r_iload_n C 1 dX3_reach_74 rfl rfl ?_
    exact r_iret C dX3_reach_75 (by decide) (by decide)
  · refine r_iload C 2 dX3_reach_17 rfl ?_
    refine r_if_eq C (b := 0) 74 dX3_reach_19 (by decide) (fun _ => ?_) (fun _ => ?_)
    · refine r_iload_n C 1 dX3_reach_74 rfl rfl ?_
      exact r_iret C dX3_reach_75 (by decide) (by decide)
    · refine r_iload C 2 dX3_reach_22 rfl ?_
      refine r_iload C 2 dX3_reach_24 rfl ?_
      refine r_ineg C dX3_reach_26 ?_
      refine r_iand C dX3_reach_27 ?_
      refine ss_lt (fun a1 => ?_)
      refine r_istore C [(6, i9 a1), (2, rf G 7), (3, i9 v3), (4, i9 v4), (5, i9 v5)] dX3_reach_28 (by decide) rfl ?_
      refine r_iload C 0 dX3_reach_30 rfl ?_
      refine r_iconst C dX3_reach_32 ?_
      refine r_isub C dX3_reach_33 ?_
      refine r_callS C [i9 (a1 - 1)] dX3_reach_34 (t_J6_bitCount_0f7a4 C.h1 C.h2 (a1 - 1) d) mw_X3_45 ms_J6_bitCount_0f7a4 (by decide) (by decide) (by decide) rfl rfl (Nat.le_of_ble_eq_true rfl) (fun r2 d3 => ?_)
      show SS G X 8 _ _ 37 [(6, i9 a1), (2, rf G 7), (3, i9 v3), (4, i9 v4), (5, i9 v5)] [i9 r2] d3 _
      refine r_istore C [(7, i9 r2), (6, i9 a1), (2, rf G 7), (3, i9 v3), (4, i9 v4), (5, i9 v5)] dX3_reach_37 (by decide) rfl ?_
      refine r_iload_n C 3 dX3_reach_39 rfl rfl ?_
      refine r_iload C 1 dX3_reach_40 rfl ?_
      refine r_ior C dX3_reach_42 ?_
      refine ss_lt (fun a4 => ?_)
      refine r_istore_n C [(3, i9 a4), (7, i9 r2), (6, i9 a1), (2, rf G 7), (4, i9 v4), (5, i9 v5)] dX3_reach_43 rfl (by decide) rfl ?_
      refine r_iload C 4 dX3_reach_44 rfl ?_
      refine r_iload C 1 dX3_reach_46 rfl ?_
      refine r_bipush C dX3_reach_48 rfl ?_
      refine r_icmp_ge C 60 dX3_reach_50 (by decide) (fun _ => ?_) (fun _ => ?_)
      · refine r_iconst C dX3_reach_60 ?_
        refine r_ior C dX3_reach_61 ?_
        refine r_iload_n C 0 dX3_reach_62 rfl rfl ?_
        refine r_iconst C dX3_reach_63 ?_
        refine r_ixor C dX3_reach_64 ?_
        refine r_iand C dX3_reach_65 ?_
        refine ss_lt (fun a5 => ?_)
        refine r_istore C [(4, i9 a5), (3, i9 a4), (7, i9 r2), (6, i9 a1), (2, rf G 7), (5, i9 v5)] dX3_reach_66 (by decide) rfl ?_
        refine r_iinc C 5 [(5, i9 (v5 + 1)), (4, i9 a5), (3, i9 a4), (7, i9 r2), (6, i9 a1), (2, rf G 7)] dX3_reach_68 rfl (by decide) rfl ?_
        refine r_goto C 10 dX3_reach_71 (by decide) ?_
        refine ss_wide (k' := 0) (n' := 0) (by decide) (by decide) ?_
        refine ss_ls [(2, rf G 7), (3, i9 a4), (4, i9 a5), (5, i9 (v5 + 1))] [5, 2, 1, 0] rfl ?_
        exact hk_X3_reach_2_7_c10 a4 a5 (v5 + 1) d3
      · refine r_aload_n C 3 dX3_reach_53 rfl rfl ?_
        refine r_iload C 1 dX3_reach_54 rfl ?_
        refine r_iald C dX3_reach_56 la_7 ly_7 (fun t6 => ?_)
        refine r_goto C 61 dX3_reach_57 (by decide) ?_
        refine r_ior C dX3_reach_61 ?_
        refine r_iload_n C 0 dX3_reach_62 rfl rfl ?_
        refine r_iconst C dX3_reach_63 ?_
        refine r_ixor C dX3_reach_64 ?_
        refine r_iand C dX3_reach_65 ?_
        refine ss_lt (fun a7 => ?_)
        refine r_istore C [(4, i9 a7), (3, i9 a4), (7, i9 r2), (6, i9 a1), (2, rf G 7), (5, i9 v5)] dX3_reach_66 (by decide) rfl ?_
        refine r_iinc C 5 [(5, i9 (v5 + 1)), (4, i9 a7), (3, i9 a4), (7, i9 r2), (6, i9 a1), (2, rf G 7)] dX3_reach_68 rfl (by decide) rfl ?_
        refine r_goto C 10 dX3_reach_71 (by decide) ?_
        refine ss_wide (k' := 0) (n' := 0) (by decide) (by decide) ?_
        refine ss_ls [(2, rf G 7), (3, i9 a4), (4, i9 a7), (5, i9 (v5 + 1))] [5, 2, 1, 0] rfl ?_
        exact hk_X3_reach_2_7_c10 a4 a7 (v5 + 1) d3
theorem s_X3_reach_2_7_c10 {G : G9} {X : X9} (C : CX G X cX3_reach 8 RX3 [] z_X3_reach_2_7) : ∀ (v3 v4 v5 : Int) (d : D9), SS G X 8 0 0 10 [(2, rf G 7), (3, i9 v3), (4, i9 v4), (5, i9 v5)] [] d (m_X3_reach_2_7_c10  v3 v4 v5 d) :=
  fix9_ind (P := fun k => ∀ (v3 v4 v5 : Int) (d : D9), SS G X 8 0 0 10 [(2, rf G 7), (3, i9 v3), (4, i9 v4), (5, i9 v5)] [] d (k v3 v4 v5 d)) (fun _ _ _ _ => ss_none) (fun k hk => sb_X3_reach_2_7_c10 C k hk) FU
set_option maxRecDepth 100000 in
theorem t_X3_reach_2_7 {G : G9} {l : Launch} (h1 : va_D (A9 G) (wl G (fun _ _ => 0))) (h2 : l.stackTraces = false) (p1 : Int) (d : D9) : MT G l yX3_reach cX3_reach 8 z_X3_reach_2_7 [rf G 2, i9 p1, rf G 7] d (m_X3_reach_2_7 p1 d) := by
  refine mt_of (own := RX3) (by decide) rfl (Nat.le_of_ble_eq_true rfl) h1 h2 [(0, rf G 2), (1, i9 p1), (2, rf G 7)] rfl (fun X hX C => ?_)
  unfold m_X3_reach_2_7
  refine r_iconst C dX3_reach_0 ?_
  refine r_istore_n C [(3, i9 0), (0, rf G 2), (1, i9 p1), (2, rf G 7)] dX3_reach_1 rfl (by decide) rfl ?_
  refine r_aload_n C 3 dX3_reach_2 rfl rfl ?_
  refine r_iload_n C 2 dX3_reach_3 rfl rfl ?_
  refine r_iald C dX3_reach_4 la_7 ly_7 (fun t1 => ?_)
  refine r_istore C [(4, i9 t1), (3, i9 0), (0, rf G 2), (1, i9 p1), (2, rf G 7)] dX3_reach_5 (by decide) rfl ?_
  refine r_iconst C dX3_reach_7 ?_
  refine r_istore C [(5, i9 0), (4, i9 t1), (3, i9 0), (0, rf G 2), (1, i9 p1), (2, rf G 7)] dX3_reach_8 (by decide) rfl ?_
  refine ss_wide (k' := 0) (n' := 0) (by decide) (by decide) ?_
  refine ss_ls [(2, rf G 7), (3, i9 0), (4, i9 t1), (5, i9 0)] [5, 2, 1, 0] rfl ?_
  exact s_X3_reach_2_7_c10 C  0 t1 0 d
theorem dX11_isIn_0 : decode cX11_isIn 0 = .ok (.iload_n 0, 1) := by decide +kernel
theorem dX11_isIn_1 : decode cX11_isIn 1 = .ok (.iload_n 1, 1) := by decide +kernel
theorem dX11_isIn_2 : decode cX11_isIn 2 = .ok (.ishr, 1) := by decide +kernel
theorem dX11_isIn_3 : decode cX11_isIn 3 = .ok (.iconst 1, 1) := by decide +kernel
theorem dX11_isIn_4 : decode cX11_isIn 4 = .ok (.iand, 1) := by decide +kernel
theorem dX11_isIn_5 : decode cX11_isIn 5 = .ok (.iconst 1, 1) := by decide +kernel
theorem dX11_isIn_6 : decode cX11_isIn 6 = .ok (.if_icmp .ne 7, 3) := by decide +kernel
theorem dX11_isIn_9 : decode cX11_isIn 9 = .ok (.iconst 1, 1) := by decide +kernel
theorem dX11_isIn_10 : decode cX11_isIn 10 = .ok (.goto 4, 3) := by decide +kernel
theorem dX11_isIn_13 : decode cX11_isIn 13 = .ok (.iconst 0, 1) := by decide +kernel
theorem dX11_isIn_14 : decode cX11_isIn 14 = .ok (.ireturn, 1) := by decide +kernel
abbrev z_X11_isIn : Z9 := (some .boolean, 1, 0, 0, 1, 0)
def m_X11_isIn (p0 p1 : Int) (d : D9) : Option R9 := if w32 (and9 (shr9 p0 p1) 1) ≠ w32 1 then rt (0 % 2) d else rt (1 % 2) d
set_option maxRecDepth 100000 in
theorem t_X11_isIn {G : G9} {l : Launch} (h1 : va_D (A9 G) (wl G (fun _ _ => 0))) (h2 : l.stackTraces = false) (p0 p1 : Int) (d : D9) : MT G l yX11_isIn cX11_isIn 2 z_X11_isIn [i9 p0, i9 p1] d (m_X11_isIn p0 p1 d) := by
  refine mt_of (own := RX11) (by decide) rfl (Nat.le_of_ble_eq_true rfl) h1 h2 [(0, i9 p0), (1, i9 p1)] rfl (fun X hX C => ?_)
  unfold m_X11_isIn
  refine r_iload_n C 0 dX11_isIn_0 rfl rfl ?_
  refine r_iload_n C 1 dX11_isIn_1 rfl rfl ?_
  refine r_ishr C dX11_isIn_2 ?_
  refine r_iconst C dX11_isIn_3 ?_
  refine r_iand C dX11_isIn_4 ?_
  refine r_iconst C dX11_isIn_5 ?_
  refine r_icmp_ne C 13 dX11_isIn_6 (by decide) (fun _ => ?_) (fun _ => ?_)
  · refine r_iconst C dX11_isIn_13 ?_
    exact r_zret C dX11_isIn_14 (by decide) (by decide)
  · refine r_iconst C dX11_isIn_9 ?_
    refine r_goto C 14 dX11_isIn_10 (by decide) ?_
    exact r_zret C dX11_isIn_14 (by decide) (by decide)
theorem n_X11_isIn (p0 p1 : Int) (d : D9) : NT9 (m_X11_isIn p0 p1 d) := by
  unfold m_X11_isIn
  repeat (first | exact nt_rt | exact nt_none | apply nt_if | refine nt_cl ?_ (fun _ _ => ?_) | refine nt_cp9 (fun _ => ?_))
theorem dX11_above_0 : decode cX11_above 0 = .ok (.aload_n 0, 1) := by decide +kernel
theorem dX11_above_1 : decode cX11_above 1 = .ok (.iload_n 1, 1) := by decide +kernel
theorem dX11_above_2 : decode cX11_above 2 = .ok (.invokevirtual 103, 3) := by decide +kernel
theorem dX11_above_5 : decode cX11_above 5 = .ok (.aload_n 0, 1) := by decide +kernel
theorem dX11_above_6 : decode cX11_above 6 = .ok (.iload_n 2, 1) := by decide +kernel
theorem dX11_above_7 : decode cX11_above 7 = .ok (.invokevirtual 103, 3) := by decide +kernel
theorem dX11_above_10 : decode cX11_above 10 = .ok (.aload_n 0, 1) := by decide +kernel
theorem dX11_above_11 : decode cX11_above 11 = .ok (.getfield 10, 3) := by decide +kernel
theorem dX11_above_14 : decode cX11_above 14 = .ok (.getfield 77, 3) := by decide +kernel
theorem dX11_above_17 : decode cX11_above 17 = .ok (.iload_n 2, 1) := by decide +kernel
theorem dX11_above_18 : decode cX11_above 18 = .ok (.aload_n 0, 1) := by decide +kernel
theorem dX11_above_19 : decode cX11_above 19 = .ok (.getfield 10, 3) := by decide +kernel
theorem dX11_above_22 : decode cX11_above 22 = .ok (.getfield 77, 3) := by decide +kernel
theorem dX11_above_25 : decode cX11_above 25 = .ok (.getfield 150, 3) := by decide +kernel
theorem dX11_above_28 : decode cX11_above 28 = .ok (.invokevirtual 287, 3) := by decide +kernel
theorem dX11_above_31 : decode cX11_above 31 = .ok (.iload_n 1, 1) := by decide +kernel
theorem dX11_above_32 : decode cX11_above 32 = .ok (.invokestatic 291, 3) := by decide +kernel
theorem dX11_above_35 : decode cX11_above 35 = .ok (.ireturn, 1) := by decide +kernel
abbrev z_X11_above_0 : Z9 := (some .boolean, 1, 2, 12, 7, 121)
def m_X11_above_0 (p1 p2 : Int) (d : D9) : Option R9 := cl (m_X11_askPaint_0 p1 d) (fun r1 d2 => cl (m_X11_askPaint_0 p2 d2) (fun r3 d4 => cl (m_X3_reach_2_7 p2 d4) (fun r5 d6 => cl (m_X11_isIn r5 p1 d6) (fun r7 d8 => rt (r7 % 2) d8))))
set_option maxRecDepth 100000 in
theorem t_X11_above_0 {G : G9} {l : Launch} (h1 : va_D (A9 G) (wl G (fun _ _ => 0))) (h2 : l.stackTraces = false) (p1 p2 : Int) (d : D9) : MT G l yX11_above cX11_above 3 z_X11_above_0 [rf G 0, i9 p1, i9 p2] d (m_X11_above_0 p1 p2 d) := by
  refine mt_of (own := RX11) (by decide) rfl (Nat.le_of_ble_eq_true rfl) h1 h2 [(0, rf G 0), (1, i9 p1), (2, i9 p2)] rfl (fun X hX C => ?_)
  unfold m_X11_above_0
  refine r_aload_n C 0 dX11_above_0 rfl rfl ?_
  refine r_iload_n C 1 dX11_above_1 rfl rfl ?_
  refine r_callV C [i9 p1, rf G 0] dX11_above_2 (t_X11_askPaint_0 C.h1 C.h2 p1 d) mw_X11_103 mv_X11_askPaint la_0 ly_0 rfl (by decide) (by decide) (by decide) rfl rfl (Nat.le_of_ble_eq_true rfl) (fun r1 d2 => ?_)
  show SS G X 3 _ _ 5 [(0, rf G 0), (1, i9 p1), (2, i9 p2)] [] d2 _
  refine r_aload_n C 0 dX11_above_5 rfl rfl ?_
  refine r_iload_n C 2 dX11_above_6 rfl rfl ?_
  refine r_callV C [i9 p2, rf G 0] dX11_above_7 (t_X11_askPaint_0 C.h1 C.h2 p2 d2) mw_X11_103 mv_X11_askPaint la_0 ly_0 rfl (by decide) (by decide) (by decide) rfl rfl (Nat.le_of_ble_eq_true rfl) (fun r3 d4 => ?_)
  show SS G X 3 _ _ 10 [(0, rf G 0), (1, i9 p1), (2, i9 p2)] [] d4 _
  refine r_aload_n C 0 dX11_above_10 rfl rfl ?_
  refine r_getR C 1 dX11_above_11 fl_X11_10 la_0 ly_0 rfl rfl ?_
  refine r_getR C 2 dX11_above_14 fl_X11_77 la_1 ly_1 rfl rfl ?_
  refine r_iload_n C 2 dX11_above_17 rfl rfl ?_
  refine r_aload_n C 0 dX11_above_18 rfl rfl ?_
  refine r_getR C 1 dX11_above_19 fl_X11_10 la_0 ly_0 rfl rfl ?_
  refine r_getR C 2 dX11_above_22 fl_X11_77 la_1 ly_1 rfl rfl ?_
  refine r_getR C 7 dX11_above_25 fl_X11_150 la_2 ly_2 rfl rfl ?_
  refine r_callV C [rf G 7, i9 p2, rf G 2] dX11_above_28 (t_X3_reach_2_7 C.h1 C.h2 p2 d4) mw_X11_287 mv_X3_reach la_2 ly_2 rfl (by decide) (by decide) (by decide) rfl rfl (Nat.le_of_ble_eq_true rfl) (fun r5 d6 => ?_)
  show SS G X 3 _ _ 31 [(0, rf G 0), (1, i9 p1), (2, i9 p2)] [i9 r5] d6 _
  refine r_iload_n C 1 dX11_above_31 rfl rfl ?_
  refine r_callS C [i9 p1, i9 r5] dX11_above_32 (t_X11_isIn C.h1 C.h2 r5 p1 d6) mw_X11_291 ms_X11_isIn (by decide) (by decide) (by decide) rfl rfl (Nat.le_of_ble_eq_true rfl) (fun r7 d8 => ?_)
  show SS G X 3 _ _ 35 [(0, rf G 0), (1, i9 p1), (2, i9 p2)] [i9 r7] d8 _
  exact r_zret C dX11_above_35 (by decide) (by decide)
theorem dX11_askWithin_0 : decode cX11_askWithin 0 = .ok (.iload_n 0, 1) := by decide +kernel
theorem dX11_askWithin_1 : decode cX11_askWithin 1 = .ok (.iload_n 1, 1) := by decide +kernel
theorem dX11_askWithin_2 : decode cX11_askWithin 2 = .ok (.if_icmp .lt 8, 3) := by decide +kernel
theorem dX11_askWithin_5 : decode cX11_askWithin 5 = .ok (.iload_n 0, 1) := by decide +kernel
theorem dX11_askWithin_6 : decode cX11_askWithin 6 = .ok (.iload_n 2, 1) := by decide +kernel
theorem dX11_askWithin_7 : decode cX11_askWithin 7 = .ok (.if_icmp .le 14, 3) := by decide +kernel
theorem dX11_askWithin_10 : decode cX11_askWithin 10 = .ok (.new 109, 3) := by decide +kernel
theorem dX11_askWithin_13 : decode cX11_askWithin 13 = .ok (.dup, 1) := by decide +kernel
theorem dX11_askWithin_14 : decode cX11_askWithin 14 = .ok (.ldc_w 451, 3) := by decide +kernel
theorem dX11_askWithin_17 : decode cX11_askWithin 17 = .ok (.invokespecial 113, 3) := by decide +kernel
theorem dX11_askWithin_20 : decode cX11_askWithin 20 = .ok (.athrow, 1) := by decide +kernel
theorem dX11_askWithin_21 : decode cX11_askWithin 21 = .ok (.return_, 1) := by decide +kernel
abbrev z_X11_askWithin : Z9 := (none, 0, 1, 6, 6, 100)
def m_X11_askWithin_c10 (d : D9) : Option R9 := th 0 d
def m_X11_askWithin (p0 p1 p2 : Int) (d : D9) : Option R9 := if w32 p0 < w32 p1 then m_X11_askWithin_c10   d else if w32 p0 ≤ w32 p2 then rt 0 d else m_X11_askWithin_c10   d
set_option maxRecDepth 100000 in
theorem s_X11_askWithin_c10 {G : G9} {X : X9} (C : CX G X cX11_askWithin 3 RX11 [] z_X11_askWithin) : ∀ (d : D9), SS G X 3 0 0 10 [] [] d (m_X11_askWithin_c10   d) := by
  intro  d
  unfold m_X11_askWithin_c10
  exact r_throwW C (e := 0) 0 rfl tw_0_113 tc_0 dX11_askWithin_10 dX11_askWithin_13 dX11_askWithin_14 dX11_askWithin_17 dX11_askWithin_20 (by decide) (by decide) (by decide) (by decide)
set_option maxRecDepth 100000 in
theorem t_X11_askWithin {G : G9} {l : Launch} (h1 : va_D (A9 G) (wl G (fun _ _ => 0))) (h2 : l.stackTraces = false) (p0 p1 p2 : Int) (d : D9) : MT G l yX11_askWithin cX11_askWithin 3 z_X11_askWithin [i9 p0, i9 p1, i9 p2] d (m_X11_askWithin p0 p1 p2 d) := by
  refine mt_of (own := RX11) (by decide) rfl (Nat.le_of_ble_eq_true rfl) h1 h2 [(0, i9 p0), (1, i9 p1), (2, i9 p2)] rfl (fun X hX C => ?_)
  unfold m_X11_askWithin
  refine r_iload_n C 0 dX11_askWithin_0 rfl rfl ?_
  refine r_iload_n C 1 dX11_askWithin_1 rfl rfl ?_
  refine r_icmp_lt C 10 dX11_askWithin_2 (by decide) (fun _ => ?_) (fun _ => ?_)
  · refine ss_wide (k' := 0) (n' := 0) (by decide) (by decide) ?_
    refine ss_ls [] [] rfl ?_
    exact s_X11_askWithin_c10 C   d
  · refine r_iload_n C 0 dX11_askWithin_5 rfl rfl ?_
    refine r_iload_n C 2 dX11_askWithin_6 rfl rfl ?_
    refine r_icmp_le C 21 dX11_askWithin_7 (by decide) (fun _ => ?_) (fun _ => ?_)
    · exact r_vret C dX11_askWithin_21 (by decide) (by decide)
    · refine ss_wide (k' := 0) (n' := 0) (by decide) (by decide) ?_
      refine ss_ls [] [] rfl ?_
      exact s_X11_askWithin_c10 C   d
theorem dX2_growth_0 : decode cX2_growth 0 = .ok (.iconst 0, 1) := by decide +kernel
theorem dX2_growth_1 : decode cX2_growth 1 = .ok (.sipush 1000, 3) := by decide +kernel
theorem dX2_growth_4 : decode cX2_growth 4 = .ok (.iload_n 2, 1) := by decide +kernel
theorem dX2_growth_5 : decode cX2_growth 5 = .ok (.imul, 1) := by decide +kernel
theorem dX2_growth_6 : decode cX2_growth 6 = .ok (.iload_n 1, 1) := by decide +kernel
theorem dX2_growth_7 : decode cX2_growth 7 = .ok (.isub, 1) := by decide +kernel
theorem dX2_growth_8 : decode cX2_growth 8 = .ok (.aload_n 0, 1) := by decide +kernel
theorem dX2_growth_9 : decode cX2_growth 9 = .ok (.getfield 18, 3) := by decide +kernel
theorem dX2_growth_12 : decode cX2_growth 12 = .ok (.imul, 1) := by decide +kernel
theorem dX2_growth_13 : decode cX2_growth 13 = .ok (.sipush 1000, 3) := by decide +kernel
theorem dX2_growth_16 : decode cX2_growth 16 = .ok (.idiv, 1) := by decide +kernel
theorem dX2_growth_17 : decode cX2_growth 17 = .ok (.invokestatic 65, 3) := by decide +kernel
theorem dX2_growth_20 : decode cX2_growth 20 = .ok (.ireturn, 1) := by decide +kernel
abbrev z_X2_growth_22 : Z9 := (some .int, 1, 0, 0, 2, 60)
def m_X2_growth_22 (p1 p2 : Int) (d : D9) : Option R9 := rt (max9 0 (div9 (((1000 * p2) - p1) * (d 22 1)) 1000)) d
set_option maxRecDepth 100000 in
theorem t_X2_growth_22 {G : G9} {l : Launch} (h1 : va_D (A9 G) (wl G (fun _ _ => 0))) (h2 : l.stackTraces = false) (p1 p2 : Int) (d : D9) : MT G l yX2_growth cX2_growth 3 z_X2_growth_22 [rf G 22, i9 p1, i9 p2] d (m_X2_growth_22 p1 p2 d) := by
  refine mt_of (own := RX2) (by decide) rfl (Nat.le_of_ble_eq_true rfl) h1 h2 [(0, rf G 22), (1, i9 p1), (2, i9 p2)] rfl (fun X hX C => ?_)
  unfold m_X2_growth_22
  refine r_iconst C dX2_growth_0 ?_
  refine r_sipush C dX2_growth_1 rfl ?_
  refine r_iload_n C 2 dX2_growth_4 rfl rfl ?_
  refine r_imul C dX2_growth_5 ?_
  refine r_iload_n C 1 dX2_growth_6 rfl rfl ?_
  refine r_isub C dX2_growth_7 ?_
  refine r_aload_n C 0 dX2_growth_8 rfl rfl ?_
  refine r_getI C dX2_growth_9 fl_X2_18 la_22 ly_22 rfl ?_
  refine r_imul C dX2_growth_12 ?_
  refine r_sipush C dX2_growth_13 rfl ?_
  refine r_idiv C dX2_growth_16 (by decide) ?_
  refine r_mmax C dX2_growth_17 mm_X2_65 ⟨Nat.le_of_ble_eq_true rfl, Nat.le_of_ble_eq_true rfl⟩ (by decide) (by decide) ?_
  exact r_iret C dX2_growth_20 (by decide) (by decide)
theorem dX2_ageAt_0 : decode cX2_ageAt 0 = .ok (.bipush 10, 2) := by decide +kernel
theorem dX2_ageAt_2 : decode cX2_ageAt 2 = .ok (.iload_n 3, 1) := by decide +kernel
theorem dX2_ageAt_3 : decode cX2_ageAt 3 = .ok (.imul, 1) := by decide +kernel
theorem dX2_ageAt_4 : decode cX2_ageAt 4 = .ok (.iload 4, 2) := by decide +kernel
theorem dX2_ageAt_6 : decode cX2_ageAt 6 = .ok (.imul, 1) := by decide +kernel
theorem dX2_ageAt_7 : decode cX2_ageAt 7 = .ok (.istore 5, 2) := by decide +kernel
theorem dX2_ageAt_9 : decode cX2_ageAt 9 = .ok (.iconst 0, 1) := by decide +kernel
theorem dX2_ageAt_10 : decode cX2_ageAt 10 = .ok (.istore 6, 2) := by decide +kernel
theorem dX2_ageAt_12 : decode cX2_ageAt 12 = .ok (.iload 6, 2) := by decide +kernel
theorem dX2_ageAt_14 : decode cX2_ageAt 14 = .ok (.sipush 400, 3) := by decide +kernel
theorem dX2_ageAt_17 : decode cX2_ageAt 17 = .ok (.if_icmp .ge 43, 3) := by decide +kernel
theorem dX2_ageAt_20 : decode cX2_ageAt 20 = .ok (.iload 5, 2) := by decide +kernel
theorem dX2_ageAt_22 : decode cX2_ageAt 22 = .ok (.iload_n 1, 1) := by decide +kernel
theorem dX2_ageAt_23 : decode cX2_ageAt 23 = .ok (.if_icmp .lt 6, 3) := by decide +kernel
theorem dX2_ageAt_26 : decode cX2_ageAt 26 = .ok (.iload 6, 2) := by decide +kernel
theorem dX2_ageAt_28 : decode cX2_ageAt 28 = .ok (.ireturn, 1) := by decide +kernel
theorem dX2_ageAt_29 : decode cX2_ageAt 29 = .ok (.aload_n 0, 1) := by decide +kernel
theorem dX2_ageAt_30 : decode cX2_ageAt 30 = .ok (.iload 5, 2) := by decide +kernel
theorem dX2_ageAt_32 : decode cX2_ageAt 32 = .ok (.iload_n 2, 1) := by decide +kernel
theorem dX2_ageAt_33 : decode cX2_ageAt 33 = .ok (.invokevirtual 74, 3) := by decide +kernel
theorem dX2_ageAt_36 : decode cX2_ageAt 36 = .ok (.istore 7, 2) := by decide +kernel
theorem dX2_ageAt_38 : decode cX2_ageAt 38 = .ok (.iload 7, 2) := by decide +kernel
theorem dX2_ageAt_40 : decode cX2_ageAt 40 = .ok (.ifCond .ne 7, 3) := by decide +kernel
theorem dX2_ageAt_43 : decode cX2_ageAt 43 = .ok (.sipush 400, 3) := by decide +kernel
theorem dX2_ageAt_46 : decode cX2_ageAt 46 = .ok (.ireturn, 1) := by decide +kernel
theorem dX2_ageAt_47 : decode cX2_ageAt 47 = .ok (.iload 5, 2) := by decide +kernel
theorem dX2_ageAt_49 : decode cX2_ageAt 49 = .ok (.iload 7, 2) := by decide +kernel
theorem dX2_ageAt_51 : decode cX2_ageAt 51 = .ok (.iadd, 1) := by decide +kernel
theorem dX2_ageAt_52 : decode cX2_ageAt 52 = .ok (.istore 5, 2) := by decide +kernel
theorem dX2_ageAt_54 : decode cX2_ageAt 54 = .ok (.iinc 6 1, 3) := by decide +kernel
theorem dX2_ageAt_57 : decode cX2_ageAt 57 = .ok (.goto (-45), 3) := by decide +kernel
theorem dX2_ageAt_60 : decode cX2_ageAt 60 = .ok (.sipush 400, 3) := by decide +kernel
theorem dX2_ageAt_63 : decode cX2_ageAt 63 = .ok (.ireturn, 1) := by decide +kernel
abbrev z_X2_ageAt_22 : Z9 := (some .int, 1, 0, 0, 3, 82)
def b_X2_ageAt_22_c12 (k_X2_ageAt_22_c12 : Int → Int → Int → Int → D9 → Option R9) (v1 v2 v5 v6 : Int) (d : D9) : Option R9 := if w32 400 ≤ w32 v6 then rt 400 d else if w32 v5 < w32 v1 then cl (m_X2_growth_22 v5 v2 d) (fun r1 d2 => if w32 r1 ≠ 0 then lt9v (v5 + r1) (fun a3 => k_X2_ageAt_22_c12 v1 v2 a3 (v6 + 1) d2) else rt 400 d2) else rt v6 d
def m_X2_ageAt_22_c12 : Int → Int → Int → Int → D9 → Option R9 := fix9 (fun _ _ _ _ _ => none) (fun k => b_X2_ageAt_22_c12 k) FU
def m_X2_ageAt_22 (p1 p2 p3 p4 : Int) (d : D9) : Option R9 := lt9v ((10 * p3) * p4) (fun a1 => m_X2_ageAt_22_c12  p1 p2 a1 0 d)
set_option maxRecDepth 100000 in
theorem sb_X2_ageAt_22_c12 {G : G9} {X : X9} (C : CX G X cX2_ageAt 8 RX2 [] z_X2_ageAt_22) (k_X2_ageAt_22_c12 : Int → Int → Int → Int → D9 → Option R9) (hk_X2_ageAt_22_c12 : ∀ (v1 v2 v5 v6 : Int) (d : D9), SS G X 8 0 0 12 [(0, rf G 22), (1, i9 v1), (2, i9 v2), (5, i9 v5), (6, i9 v6)] [] d (k_X2_ageAt_22_c12 v1 v2 v5 v6 d)) : ∀ (v1 v2 v5 v6 : Int) (d : D9), SS G X 8 0 0 12 [(0, rf G 22), (1, i9 v1), (2, i9 v2), (5, i9 v5), (6, i9 v6)] [] d (b_X2_ageAt_22_c12 k_X2_ageAt_22_c12 v1 v2 v5 v6 d) := by
  intro v1 v2 v5 v6 d
  unfold b_X2_ageAt_22_c12
  refine r_iload C 4 dX2_ageAt_12 rfl ?_
  refine r_sipush C dX2_ageAt_14 rfl ?_
  refine r_icmp_ge C 60 dX2_ageAt_17 (by decide) (fun _ => ?_) (fun _ => ?_)
  · refine r_sipush C dX2_ageAt_60 rfl ?_
    exact r_iret C dX2_ageAt_63 (by decide) (by decide)
  · refine r_iload C 3 dX2_ageAt_20 rfl ?_
    refine r_iload_n C 1 dX2_ageAt_22 rfl rfl ?_
    refine r_icmp_lt C 29 dX2_ageAt_23 (by decide) (fun _ => ?_) (fun _ => ?_)
    · refine r_aload_n C 0 dX2_ageAt_29 rfl rfl ?_
      refine r_iload C 3 dX2_ageAt_30 rfl ?_
      refine r_iload_n C 2 dX2_ageAt_32 rfl rfl ?_
      refine r_callV C [i9 v2, i9 v5, rf G 22] dX2_ageAt_33 (t_X2_growth_22 C.h1 C.h2 v5 v2 d) mw_X2_74 mv_X2_growth la_22 ly_22 rfl (by decide) (by decide) (by decide) rfl rfl (Nat.le_of_ble_eq_true rfl) (fun r1 d2 => ?_)
      show SS G X 8 _ _ 36 [(0, rf G 22), (1, i9 v1), (2, i9 v2), (5, i9 v5), (6, i9 v6)] [i9 r1] d2 _
      refine r_istore C [(7, i9 r1), (0, rf G 22), (1, i9 v1), (2, i9 v2), (5, i9 v5), (6, i9 v6)] dX2_ageAt_36 (by decide) rfl ?_
      refine r_iload C 0 dX2_ageAt_38 rfl ?_
      refine r_if_ne C (b := 0) 47 dX2_ageAt_40 (by decide) (fun _ => ?_) (fun _ => ?_)
      · refine r_iload C 4 dX2_ageAt_47 rfl ?_
        refine r_iload C 0 dX2_ageAt_49 rfl ?_
        refine r_iadd C dX2_ageAt_51 ?_
        refine ss_lt (fun a3 => ?_)
        refine r_istore C [(5, i9 a3), (7, i9 r1), (0, rf G 22), (1, i9 v1), (2, i9 v2), (6, i9 v6)] dX2_ageAt_52 (by decide) rfl ?_
        refine r_iinc C 5 [(6, i9 (v6 + 1)), (5, i9 a3), (7, i9 r1), (0, rf G 22), (1, i9 v1), (2, i9 v2)] dX2_ageAt_54 rfl (by decide) rfl ?_
        refine r_goto C 12 dX2_ageAt_57 (by decide) ?_
        refine ss_wide (k' := 0) (n' := 0) (by decide) (by decide) ?_
        refine ss_ls [(0, rf G 22), (1, i9 v1), (2, i9 v2), (5, i9 a3), (6, i9 (v6 + 1))] [3, 4, 5, 1, 0] rfl ?_
        exact hk_X2_ageAt_22_c12 v1 v2 a3 (v6 + 1) d2
      · refine r_sipush C dX2_ageAt_43 rfl ?_
        exact r_iret C dX2_ageAt_46 (by decide) (by decide)
    · refine r_iload C 4 dX2_ageAt_26 rfl ?_
      exact r_iret C dX2_ageAt_28 (by decide) (by decide)
theorem s_X2_ageAt_22_c12 {G : G9} {X : X9} (C : CX G X cX2_ageAt 8 RX2 [] z_X2_ageAt_22) : ∀ (v1 v2 v5 v6 : Int) (d : D9), SS G X 8 0 0 12 [(0, rf G 22), (1, i9 v1), (2, i9 v2), (5, i9 v5), (6, i9 v6)] [] d (m_X2_ageAt_22_c12  v1 v2 v5 v6 d) :=
  fix9_ind (P := fun k => ∀ (v1 v2 v5 v6 : Int) (d : D9), SS G X 8 0 0 12 [(0, rf G 22), (1, i9 v1), (2, i9 v2), (5, i9 v5), (6, i9 v6)] [] d (k v1 v2 v5 v6 d)) (fun _ _ _ _ _ => ss_none) (fun k hk => sb_X2_ageAt_22_c12 C k hk) FU
set_option maxRecDepth 100000 in
theorem t_X2_ageAt_22 {G : G9} {l : Launch} (h1 : va_D (A9 G) (wl G (fun _ _ => 0))) (h2 : l.stackTraces = false) (p1 p2 p3 p4 : Int) (d : D9) : MT G l yX2_ageAt cX2_ageAt 8 z_X2_ageAt_22 [rf G 22, i9 p1, i9 p2, i9 p3, i9 p4] d (m_X2_ageAt_22 p1 p2 p3 p4 d) := by
  refine mt_of (own := RX2) (by decide) rfl (Nat.le_of_ble_eq_true rfl) h1 h2 [(0, rf G 22), (1, i9 p1), (2, i9 p2), (3, i9 p3), (4, i9 p4)] rfl (fun X hX C => ?_)
  unfold m_X2_ageAt_22
  refine r_bipush C dX2_ageAt_0 rfl ?_
  refine r_iload_n C 3 dX2_ageAt_2 rfl rfl ?_
  refine r_imul C dX2_ageAt_3 ?_
  refine r_iload C 4 dX2_ageAt_4 rfl ?_
  refine r_imul C dX2_ageAt_6 ?_
  refine ss_lt (fun a1 => ?_)
  refine r_istore C [(5, i9 a1), (0, rf G 22), (1, i9 p1), (2, i9 p2), (3, i9 p3), (4, i9 p4)] dX2_ageAt_7 (by decide) rfl ?_
  refine r_iconst C dX2_ageAt_9 ?_
  refine r_istore C [(6, i9 0), (5, i9 a1), (0, rf G 22), (1, i9 p1), (2, i9 p2), (3, i9 p3), (4, i9 p4)] dX2_ageAt_10 (by decide) rfl ?_
  refine ss_wide (k' := 0) (n' := 0) (by decide) (by decide) ?_
  refine ss_ls [(0, rf G 22), (1, i9 p1), (2, i9 p2), (5, i9 a1), (6, i9 0)] [2, 3, 4, 1, 0] rfl ?_
  exact s_X2_ageAt_22_c12 C  p1 p2 a1 0 d
theorem dX2_ageFor_0 : decode cX2_ageFor 0 = .ok (.aload_n 0, 1) := by decide +kernel
theorem dX2_ageFor_1 : decode cX2_ageFor 1 = .ok (.sipush 1000, 3) := by decide +kernel
theorem dX2_ageFor_4 : decode cX2_ageFor 4 = .ok (.iload_n 1, 1) := by decide +kernel
theorem dX2_ageFor_5 : decode cX2_ageFor 5 = .ok (.imul, 1) := by decide +kernel
theorem dX2_ageFor_6 : decode cX2_ageFor 6 = .ok (.iload_n 2, 1) := by decide +kernel
theorem dX2_ageFor_7 : decode cX2_ageFor 7 = .ok (.iload_n 3, 1) := by decide +kernel
theorem dX2_ageFor_8 : decode cX2_ageFor 8 = .ok (.iload 4, 2) := by decide +kernel
theorem dX2_ageFor_10 : decode cX2_ageFor 10 = .ok (.invokevirtual 70, 3) := by decide +kernel
theorem dX2_ageFor_13 : decode cX2_ageFor 13 = .ok (.ireturn, 1) := by decide +kernel
abbrev z_X2_ageFor_22 : Z9 := (some .int, 1, 0, 0, 4, 109)
def m_X2_ageFor_22 (p1 p2 p3 p4 : Int) (d : D9) : Option R9 := cl (m_X2_ageAt_22 (1000 * p1) p2 p3 p4 d) (fun r1 d2 => rt r1 d2)
set_option maxRecDepth 100000 in
theorem t_X2_ageFor_22 {G : G9} {l : Launch} (h1 : va_D (A9 G) (wl G (fun _ _ => 0))) (h2 : l.stackTraces = false) (p1 p2 p3 p4 : Int) (d : D9) : MT G l yX2_ageFor cX2_ageFor 5 z_X2_ageFor_22 [rf G 22, i9 p1, i9 p2, i9 p3, i9 p4] d (m_X2_ageFor_22 p1 p2 p3 p4 d) := by
  refine mt_of (own := RX2) (by decide) rfl (Nat.le_of_ble_eq_true rfl) h1 h2 [(0, rf G 22), (1, i9 p1), (2, i9 p2), (3, i9 p3), (4, i9 p4)] rfl (fun X hX C => ?_)
  unfold m_X2_ageFor_22
  refine r_aload_n C 0 dX2_ageFor_0 rfl rfl ?_
  refine r_sipush C dX2_ageFor_1 rfl ?_
  refine r_iload_n C 1 dX2_ageFor_4 rfl rfl ?_
  refine r_imul C dX2_ageFor_5 ?_
  refine r_iload_n C 2 dX2_ageFor_6 rfl rfl ?_
  refine r_iload_n C 3 dX2_ageFor_7 rfl rfl ?_
  refine r_iload C 4 dX2_ageFor_8 rfl ?_
  refine r_callV C [i9 p4, i9 p3, i9 p2, i9 (1000 * p1), rf G 22] dX2_ageFor_10 (t_X2_ageAt_22 C.h1 C.h2 (1000 * p1) p2 p3 p4 d) mw_X2_70 mv_X2_ageAt la_22 ly_22 rfl (by decide) (by decide) (by decide) rfl rfl (Nat.le_of_ble_eq_true rfl) (fun r1 d2 => ?_)
  show SS G X 5 _ _ 13 [(0, rf G 22), (1, i9 p1), (2, i9 p2), (3, i9 p3), (4, i9 p4)] [i9 r1] d2 _
  exact r_iret C dX2_ageFor_13 (by decide) (by decide)
theorem dX11_age_0 : decode cX11_age 0 = .ok (.iload_n 1, 1) := by decide +kernel
theorem dX11_age_1 : decode cX11_age 1 = .ok (.iconst 0, 1) := by decide +kernel
theorem dX11_age_2 : decode cX11_age 2 = .ok (.sipush 9999, 3) := by decide +kernel
theorem dX11_age_5 : decode cX11_age 5 = .ok (.invokestatic 73, 3) := by decide +kernel
theorem dX11_age_8 : decode cX11_age 8 = .ok (.iload_n 2, 1) := by decide +kernel
theorem dX11_age_9 : decode cX11_age 9 = .ok (.iconst 0, 1) := by decide +kernel
theorem dX11_age_10 : decode cX11_age 10 = .ok (.sipush 9999, 3) := by decide +kernel
theorem dX11_age_13 : decode cX11_age 13 = .ok (.invokestatic 73, 3) := by decide +kernel
theorem dX11_age_16 : decode cX11_age 16 = .ok (.iload_n 3, 1) := by decide +kernel
theorem dX11_age_17 : decode cX11_age 17 = .ok (.iconst 0, 1) := by decide +kernel
theorem dX11_age_18 : decode cX11_age 18 = .ok (.sipush 9999, 3) := by decide +kernel
theorem dX11_age_21 : decode cX11_age 21 = .ok (.invokestatic 73, 3) := by decide +kernel
theorem dX11_age_24 : decode cX11_age 24 = .ok (.iload 4, 2) := by decide +kernel
theorem dX11_age_26 : decode cX11_age 26 = .ok (.iconst 0, 1) := by decide +kernel
theorem dX11_age_27 : decode cX11_age 27 = .ok (.bipush 99, 2) := by decide +kernel
theorem dX11_age_29 : decode cX11_age 29 = .ok (.invokestatic 73, 3) := by decide +kernel
theorem dX11_age_32 : decode cX11_age 32 = .ok (.aload_n 0, 1) := by decide +kernel
theorem dX11_age_33 : decode cX11_age 33 = .ok (.getfield 10, 3) := by decide +kernel
theorem dX11_age_36 : decode cX11_age 36 = .ok (.getfield 137, 3) := by decide +kernel
theorem dX11_age_39 : decode cX11_age 39 = .ok (.iload_n 1, 1) := by decide +kernel
theorem dX11_age_40 : decode cX11_age 40 = .ok (.iload_n 2, 1) := by decide +kernel
theorem dX11_age_41 : decode cX11_age 41 = .ok (.iload_n 3, 1) := by decide +kernel
theorem dX11_age_42 : decode cX11_age 42 = .ok (.iload 4, 2) := by decide +kernel
theorem dX11_age_44 : decode cX11_age 44 = .ok (.invokevirtual 215, 3) := by decide +kernel
theorem dX11_age_47 : decode cX11_age 47 = .ok (.ireturn, 1) := by decide +kernel
abbrev z_X11_age_0 : Z9 := (some .int, 1, 4, 24, 7, 133)
def m_X11_age_0 (p1 p2 p3 p4 : Int) (d : D9) : Option R9 := cl (m_X11_askWithin p1 0 9999 d) (fun r1 d2 => cl (m_X11_askWithin p2 0 9999 d2) (fun r3 d4 => cl (m_X11_askWithin p3 0 9999 d4) (fun r5 d6 => cl (m_X11_askWithin p4 0 99 d6) (fun r7 d8 => cl (m_X2_ageFor_22 p1 p2 p3 p4 d8) (fun r9 d10 => rt r9 d10)))))
set_option maxRecDepth 100000 in
theorem t_X11_age_0 {G : G9} {l : Launch} (h1 : va_D (A9 G) (wl G (fun _ _ => 0))) (h2 : l.stackTraces = false) (p1 p2 p3 p4 : Int) (d : D9) : MT G l yX11_age cX11_age 5 z_X11_age_0 [rf G 0, i9 p1, i9 p2, i9 p3, i9 p4] d (m_X11_age_0 p1 p2 p3 p4 d) := by
  refine mt_of (own := RX11) (by decide) rfl (Nat.le_of_ble_eq_true rfl) h1 h2 [(0, rf G 0), (1, i9 p1), (2, i9 p2), (3, i9 p3), (4, i9 p4)] rfl (fun X hX C => ?_)
  unfold m_X11_age_0
  refine r_iload_n C 1 dX11_age_0 rfl rfl ?_
  refine r_iconst C dX11_age_1 ?_
  refine r_sipush C dX11_age_2 rfl ?_
  refine r_callS C [i9 9999, i9 0, i9 p1] dX11_age_5 (t_X11_askWithin C.h1 C.h2 p1 0 9999 d) mw_X11_73 ms_X11_askWithin (by decide) (by decide) (by decide) rfl rfl (Nat.le_of_ble_eq_true rfl) (fun r1 d2 => ?_)
  show SS G X 5 _ _ 8 [(0, rf G 0), (1, i9 p1), (2, i9 p2), (3, i9 p3), (4, i9 p4)] [] d2 _
  refine r_iload_n C 2 dX11_age_8 rfl rfl ?_
  refine r_iconst C dX11_age_9 ?_
  refine r_sipush C dX11_age_10 rfl ?_
  refine r_callS C [i9 9999, i9 0, i9 p2] dX11_age_13 (t_X11_askWithin C.h1 C.h2 p2 0 9999 d2) mw_X11_73 ms_X11_askWithin (by decide) (by decide) (by decide) rfl rfl (Nat.le_of_ble_eq_true rfl) (fun r3 d4 => ?_)
  show SS G X 5 _ _ 16 [(0, rf G 0), (1, i9 p1), (2, i9 p2), (3, i9 p3), (4, i9 p4)] [] d4 _
  refine r_iload_n C 3 dX11_age_16 rfl rfl ?_
  refine r_iconst C dX11_age_17 ?_
  refine r_sipush C dX11_age_18 rfl ?_
  refine r_callS C [i9 9999, i9 0, i9 p3] dX11_age_21 (t_X11_askWithin C.h1 C.h2 p3 0 9999 d4) mw_X11_73 ms_X11_askWithin (by decide) (by decide) (by decide) rfl rfl (Nat.le_of_ble_eq_true rfl) (fun r5 d6 => ?_)
  show SS G X 5 _ _ 24 [(0, rf G 0), (1, i9 p1), (2, i9 p2), (3, i9 p3), (4, i9 p4)] [] d6 _
  refine r_iload C 4 dX11_age_24 rfl ?_
  refine r_iconst C dX11_age_26 ?_
  refine r_bipush C dX11_age_27 rfl ?_
  refine r_callS C [i9 99, i9 0, i9 p4] dX11_age_29 (t_X11_askWithin C.h1 C.h2 p4 0 99 d6) mw_X11_73 ms_X11_askWithin (by decide) (by decide) (by decide) rfl rfl (Nat.le_of_ble_eq_true rfl) (fun r7 d8 => ?_)
  show SS G X 5 _ _ 32 [(0, rf G 0), (1, i9 p1), (2, i9 p2), (3, i9 p3), (4, i9 p4)] [] d8 _
  refine r_aload_n C 0 dX11_age_32 rfl rfl ?_
  refine r_getR C 1 dX11_age_33 fl_X11_10 la_0 ly_0 rfl rfl ?_
  refine r_getR C 22 dX11_age_36 fl_X11_137 la_1 ly_1 rfl rfl ?_
  refine r_iload_n C 1 dX11_age_39 rfl rfl ?_
  refine r_iload_n C 2 dX11_age_40 rfl rfl ?_
  refine r_iload_n C 3 dX11_age_41 rfl rfl ?_
  refine r_iload C 4 dX11_age_42 rfl ?_
  refine r_callV C [i9 p4, i9 p3, i9 p2, i9 p1, rf G 22] dX11_age_44 (t_X2_ageFor_22 C.h1 C.h2 p1 p2 p3 p4 d8) mw_X11_215 mv_X2_ageFor la_22 ly_22 rfl (by decide) (by decide) (by decide) rfl rfl (Nat.le_of_ble_eq_true rfl) (fun r9 d10 => ?_)
  show SS G X 5 _ _ 47 [(0, rf G 0), (1, i9 p1), (2, i9 p2), (3, i9 p3), (4, i9 p4)] [i9 r9] d10 _
  exact r_iret C dX11_age_47 (by decide) (by decide)
abbrev z_X3_reach_2_8 : Z9 := (some .int, 1, 0, 0, 2, 20)
def b_X3_reach_2_8_c10 (k_X3_reach_2_8_c10 : Int → Int → Int → D9 → Option R9) (v3 v4 v5 : Int) (d : D9) : Option R9 := if w32 30 ≤ w32 v5 then rt v3 d else if w32 v4 = 0 then rt v3 d else lt9v (and9 v4 (-v4)) (fun a1 => cl (m_J6_bitCount_0f7a4 (a1 - 1) d) (fun r2 d3 => lt9v (or9 v3 a1) (fun a4 => if w32 30 ≤ w32 r2 then lt9v (and9 (or9 v4 0) (xor9 a4 (-1))) (fun a5 => k_X3_reach_2_8_c10 a4 a5 (v5 + 1) d3) else ld d3 8 30 r2 (fun t6 => lt9v (and9 (or9 v4 t6) (xor9 a4 (-1))) (fun a7 => k_X3_reach_2_8_c10 a4 a7 (v5 + 1) d3)))))
def m_X3_reach_2_8_c10 : Int → Int → Int → D9 → Option R9 := fix9 (fun _ _ _ _ => none) (fun k => b_X3_reach_2_8_c10 k) FU
def m_X3_reach_2_8 (p1 : Int) (d : D9) : Option R9 := ld d 8 30 p1 (fun t1 => m_X3_reach_2_8_c10  0 t1 0 d)
set_option maxRecDepth 100000 in
theorem sb_X3_reach_2_8_c10 {G : G9} {X : X9} (C : CX G X cX3_reach 8 RX3 [] z_X3_reach_2_8) (k_X3_reach_2_8_c10 : Int → Int → Int → D9 → Option R9) (hk_X3_reach_2_8_c10 : ∀ (v3 v4 v5 : Int) (d : D9), SS G X 8 0 0 10 [(2, rf G 8), (3, i9 v3), (4, i9 v4), (5, i9 v5)] [] d (k_X3_reach_2_8_c10 v3 v4 v5 d)) : ∀ (v3 v4 v5 : Int) (d : D9), SS G X 8 0 0 10 [(2, rf G 8), (3, i9 v3), (4, i9 v4), (5, i9 v5)] [] d (b_X3_reach_2_8_c10 k_X3_reach_2_8_c10 v3 v4 v5 d) := by
  intro v3 v4 v5 d
  unfold b_X3_reach_2_8_c10
  refine r_iload C 3 dX3_reach_10 rfl ?_
  refine r_bipush C dX3_reach_12 rfl ?_
  refine r_icmp_ge C 74 dX3_reach_14 (by decide) (fun _ => ?_) (fun _ => ?_)
  · refine r_iload_n C 1 dX3_reach_74 rfl rfl ?_
    exact r_iret C dX3_reach_75 (by decide) (by decide)
  · refine r_iload C 2 dX3_reach_17 rfl ?_
    refine r_if_eq C (b := 0) 74 dX3_reach_19 (by decide) (fun _ => ?_) (fun _ => ?_)
    · refine r_iload_n C 1 dX3_reach_74 rfl rfl ?_
      exact r_iret C dX3_reach_75 (by decide) (by decide)
    · refine r_iload C 2 dX3_reach_22 rfl ?_
      refine r_iload C 2 dX3_reach_24 rfl ?_
      refine r_ineg C dX3_reach_26 ?_
      refine r_iand C dX3_reach_27 ?_
      refine ss_lt (fun a1 => ?_)
      refine r_istore C [(6, i9 a1), (2, rf G 8), (3, i9 v3), (4, i9 v4), (5, i9 v5)] dX3_reach_28 (by decide) rfl ?_
      refine r_iload C 0 dX3_reach_30 rfl ?_
      refine r_iconst C dX3_reach_32 ?_
      refine r_isub C dX3_reach_33 ?_
      refine r_callS C [i9 (a1 - 1)] dX3_reach_34 (t_J6_bitCount_0f7a4 C.h1 C.h2 (a1 - 1) d) mw_X3_45 ms_J6_bitCount_0f7a4 (by decide) (by decide) (by decide) rfl rfl (Nat.le_of_ble_eq_true rfl) (fun r2 d3 => ?_)
      show SS G X 8 _ _ 37 [(6, i9 a1), (2, rf G 8), (3, i9 v3), (4, i9 v4), (5, i9 v5)] [i9 r2] d3 _
      refine r_istore C [(7, i9 r2), (6, i9 a1), (2, rf G 8), (3, i9 v3), (4, i9 v4), (5, i9 v5)] dX3_reach_37 (by decide) rfl ?_
      refine r_iload_n C 3 dX3_reach_39 rfl rfl ?_
      refine r_iload C 1 dX3_reach_40 rfl ?_
      refine r_ior C dX3_reach_42 ?_
      refine ss_lt (fun a4 => ?_)
      refine r_istore_n C [(3, i9 a4), (7, i9 r2), (6, i9 a1), (2, rf G 8), (4, i9 v4), (5, i9 v5)] dX3_reach_43 rfl (by decide) rfl ?_
      refine r_iload C 4 dX3_reach_44 rfl ?_
      refine r_iload C 1 dX3_reach_46 rfl ?_
      refine r_bipush C dX3_reach_48 rfl ?_
      refine r_icmp_ge C 60 dX3_reach_50 (by decide) (fun _ => ?_) (fun _ => ?_)
      · refine r_iconst C dX3_reach_60 ?_
        refine r_ior C dX3_reach_61 ?_
        refine r_iload_n C 0 dX3_reach_62 rfl rfl ?_
        refine r_iconst C dX3_reach_63 ?_
        refine r_ixor C dX3_reach_64 ?_
        refine r_iand C dX3_reach_65 ?_
        refine ss_lt (fun a5 => ?_)
        refine r_istore C [(4, i9 a5), (3, i9 a4), (7, i9 r2), (6, i9 a1), (2, rf G 8), (5, i9 v5)] dX3_reach_66 (by decide) rfl ?_
        refine r_iinc C 5 [(5, i9 (v5 + 1)), (4, i9 a5), (3, i9 a4), (7, i9 r2), (6, i9 a1), (2, rf G 8)] dX3_reach_68 rfl (by decide) rfl ?_
        refine r_goto C 10 dX3_reach_71 (by decide) ?_
        refine ss_wide (k' := 0) (n' := 0) (by decide) (by decide) ?_
        refine ss_ls [(2, rf G 8), (3, i9 a4), (4, i9 a5), (5, i9 (v5 + 1))] [5, 2, 1, 0] rfl ?_
        exact hk_X3_reach_2_8_c10 a4 a5 (v5 + 1) d3
      · refine r_aload_n C 3 dX3_reach_53 rfl rfl ?_
        refine r_iload C 1 dX3_reach_54 rfl ?_
        refine r_iald C dX3_reach_56 la_8 ly_8 (fun t6 => ?_)
        refine r_goto C 61 dX3_reach_57 (by decide) ?_
        refine r_ior C dX3_reach_61 ?_
        refine r_iload_n C 0 dX3_reach_62 rfl rfl ?_
        refine r_iconst C dX3_reach_63 ?_
        refine r_ixor C dX3_reach_64 ?_
        refine r_iand C dX3_reach_65 ?_
        refine ss_lt (fun a7 => ?_)
        refine r_istore C [(4, i9 a7), (3, i9 a4), (7, i9 r2), (6, i9 a1), (2, rf G 8), (5, i9 v5)] dX3_reach_66 (by decide) rfl ?_
        refine r_iinc C 5 [(5, i9 (v5 + 1)), (4, i9 a7), (3, i9 a4), (7, i9 r2), (6, i9 a1), (2, rf G 8)] dX3_reach_68 rfl (by decide) rfl ?_
        refine r_goto C 10 dX3_reach_71 (by decide) ?_
        refine ss_wide (k' := 0) (n' := 0) (by decide) (by decide) ?_
        refine ss_ls [(2, rf G 8), (3, i9 a4), (4, i9 a7), (5, i9 (v5 + 1))] [5, 2, 1, 0] rfl ?_
        exact hk_X3_reach_2_8_c10 a4 a7 (v5 + 1) d3
theorem s_X3_reach_2_8_c10 {G : G9} {X : X9} (C : CX G X cX3_reach 8 RX3 [] z_X3_reach_2_8) : ∀ (v3 v4 v5 : Int) (d : D9), SS G X 8 0 0 10 [(2, rf G 8), (3, i9 v3), (4, i9 v4), (5, i9 v5)] [] d (m_X3_reach_2_8_c10  v3 v4 v5 d) :=
  fix9_ind (P := fun k => ∀ (v3 v4 v5 : Int) (d : D9), SS G X 8 0 0 10 [(2, rf G 8), (3, i9 v3), (4, i9 v4), (5, i9 v5)] [] d (k v3 v4 v5 d)) (fun _ _ _ _ => ss_none) (fun k hk => sb_X3_reach_2_8_c10 C k hk) FU
set_option maxRecDepth 100000 in
theorem t_X3_reach_2_8 {G : G9} {l : Launch} (h1 : va_D (A9 G) (wl G (fun _ _ => 0))) (h2 : l.stackTraces = false) (p1 : Int) (d : D9) : MT G l yX3_reach cX3_reach 8 z_X3_reach_2_8 [rf G 2, i9 p1, rf G 8] d (m_X3_reach_2_8 p1 d) := by
  refine mt_of (own := RX3) (by decide) rfl (Nat.le_of_ble_eq_true rfl) h1 h2 [(0, rf G 2), (1, i9 p1), (2, rf G 8)] rfl (fun X hX C => ?_)
  unfold m_X3_reach_2_8
  refine r_iconst C dX3_reach_0 ?_
  refine r_istore_n C [(3, i9 0), (0, rf G 2), (1, i9 p1), (2, rf G 8)] dX3_reach_1 rfl (by decide) rfl ?_
  refine r_aload_n C 3 dX3_reach_2 rfl rfl ?_
  refine r_iload_n C 2 dX3_reach_3 rfl rfl ?_
  refine r_iald C dX3_reach_4 la_8 ly_8 (fun t1 => ?_)
  refine r_istore C [(4, i9 t1), (3, i9 0), (0, rf G 2), (1, i9 p1), (2, rf G 8)] dX3_reach_5 (by decide) rfl ?_
  refine r_iconst C dX3_reach_7 ?_
  refine r_istore C [(5, i9 0), (4, i9 t1), (3, i9 0), (0, rf G 2), (1, i9 p1), (2, rf G 8)] dX3_reach_8 (by decide) rfl ?_
  refine ss_wide (k' := 0) (n' := 0) (by decide) (by decide) ?_
  refine ss_ls [(2, rf G 8), (3, i9 0), (4, i9 t1), (5, i9 0)] [5, 2, 1, 0] rfl ?_
  exact s_X3_reach_2_8_c10 C  0 t1 0 d
theorem dX3_withBelow_0 : decode cX3_withBelow 0 = .ok (.aload_n 0, 1) := by decide +kernel
theorem dX3_withBelow_1 : decode cX3_withBelow 1 = .ok (.iload_n 1, 1) := by decide +kernel
theorem dX3_withBelow_2 : decode cX3_withBelow 2 = .ok (.aload_n 0, 1) := by decide +kernel
theorem dX3_withBelow_3 : decode cX3_withBelow 3 = .ok (.getfield 27, 3) := by decide +kernel
theorem dX3_withBelow_6 : decode cX3_withBelow 6 = .ok (.invokevirtual 51, 3) := by decide +kernel
theorem dX3_withBelow_9 : decode cX3_withBelow 9 = .ok (.iconst 1, 1) := by decide +kernel
theorem dX3_withBelow_10 : decode cX3_withBelow 10 = .ok (.iload_n 1, 1) := by decide +kernel
theorem dX3_withBelow_11 : decode cX3_withBelow 11 = .ok (.ishl, 1) := by decide +kernel
theorem dX3_withBelow_12 : decode cX3_withBelow 12 = .ok (.ior, 1) := by decide +kernel
theorem dX3_withBelow_13 : decode cX3_withBelow 13 = .ok (.ireturn, 1) := by decide +kernel
abbrev z_X3_withBelow_2 : Z9 := (some .int, 1, 0, 0, 3, 47)
def m_X3_withBelow_2 (p1 : Int) (d : D9) : Option R9 := cl (m_X3_reach_2_8 p1 d) (fun r1 d2 => rt (or9 r1 (shl9 1 p1)) d2)
set_option maxRecDepth 100000 in
theorem t_X3_withBelow_2 {G : G9} {l : Launch} (h1 : va_D (A9 G) (wl G (fun _ _ => 0))) (h2 : l.stackTraces = false) (p1 : Int) (d : D9) : MT G l yX3_withBelow cX3_withBelow 2 z_X3_withBelow_2 [rf G 2, i9 p1] d (m_X3_withBelow_2 p1 d) := by
  refine mt_of (own := RX3) (by decide) rfl (Nat.le_of_ble_eq_true rfl) h1 h2 [(0, rf G 2), (1, i9 p1)] rfl (fun X hX C => ?_)
  unfold m_X3_withBelow_2
  refine r_aload_n C 0 dX3_withBelow_0 rfl rfl ?_
  refine r_iload_n C 1 dX3_withBelow_1 rfl rfl ?_
  refine r_aload_n C 0 dX3_withBelow_2 rfl rfl ?_
  refine r_getR C 8 dX3_withBelow_3 fl_X3_27 la_2 ly_2 rfl rfl ?_
  refine r_callV C [rf G 8, i9 p1, rf G 2] dX3_withBelow_6 (t_X3_reach_2_8 C.h1 C.h2 p1 d) mw_X3_51 mv_X3_reach la_2 ly_2 rfl (by decide) (by decide) (by decide) rfl rfl (Nat.le_of_ble_eq_true rfl) (fun r1 d2 => ?_)
  show SS G X 2 _ _ 9 [(0, rf G 2), (1, i9 p1)] [i9 r1] d2 _
  refine r_iconst C dX3_withBelow_9 ?_
  refine r_iload_n C 1 dX3_withBelow_10 rfl rfl ?_
  refine r_ishl C dX3_withBelow_11 ?_
  refine r_ior C dX3_withBelow_12 ?_
  exact r_iret C dX3_withBelow_13 (by decide) (by decide)
theorem dX6_speaks_0 : decode cX6_speaks 0 = .ok (.aload_n 0, 1) := by decide +kernel
theorem dX6_speaks_1 : decode cX6_speaks 1 = .ok (.getfield 15, 3) := by decide +kernel
theorem dX6_speaks_4 : decode cX6_speaks 4 = .ok (.iload_n 1, 1) := by decide +kernel
theorem dX6_speaks_5 : decode cX6_speaks 5 = .ok (.iaload, 1) := by decide +kernel
theorem dX6_speaks_6 : decode cX6_speaks 6 = .ok (.iload_n 2, 1) := by decide +kernel
theorem dX6_speaks_7 : decode cX6_speaks 7 = .ok (.if_icmp .ne 30, 3) := by decide +kernel
theorem dX6_speaks_10 : decode cX6_speaks 10 = .ok (.aload_n 0, 1) := by decide +kernel
theorem dX6_speaks_11 : decode cX6_speaks 11 = .ok (.getfield 30, 3) := by decide +kernel
theorem dX6_speaks_14 : decode cX6_speaks 14 = .ok (.iload_n 1, 1) := by decide +kernel
theorem dX6_speaks_15 : decode cX6_speaks 15 = .ok (.iaload, 1) := by decide +kernel
theorem dX6_speaks_16 : decode cX6_speaks 16 = .ok (.iconst (-1), 1) := by decide +kernel
theorem dX6_speaks_17 : decode cX6_speaks 17 = .ok (.if_icmp .eq 20, 3) := by decide +kernel
theorem dX6_speaks_20 : decode cX6_speaks 20 = .ok (.iload_n 3, 1) := by decide +kernel
theorem dX6_speaks_21 : decode cX6_speaks 21 = .ok (.aload_n 0, 1) := by decide +kernel
theorem dX6_speaks_22 : decode cX6_speaks 22 = .ok (.getfield 18, 3) := by decide +kernel
theorem dX6_speaks_25 : decode cX6_speaks 25 = .ok (.iload_n 1, 1) := by decide +kernel
theorem dX6_speaks_26 : decode cX6_speaks 26 = .ok (.iaload, 1) := by decide +kernel
theorem dX6_speaks_27 : decode cX6_speaks 27 = .ok (.invokestatic 93, 3) := by decide +kernel
theorem dX6_speaks_30 : decode cX6_speaks 30 = .ok (.ifCond .eq 7, 3) := by decide +kernel
theorem dX6_speaks_33 : decode cX6_speaks 33 = .ok (.iconst 1, 1) := by decide +kernel
theorem dX6_speaks_34 : decode cX6_speaks 34 = .ok (.goto 4, 3) := by decide +kernel
theorem dX6_speaks_37 : decode cX6_speaks 37 = .ok (.iconst 0, 1) := by decide +kernel
theorem dX6_speaks_38 : decode cX6_speaks 38 = .ok (.ireturn, 1) := by decide +kernel
abbrev z_X6_speaks_9 : Z9 := (some .boolean, 1, 0, 0, 2, 21)
def m_X6_speaks_9 (p1 p2 p3 : Int) (d : D9) : Option R9 := ld d 11 30 p1 (fun t1 => if w32 t1 ≠ w32 p2 then rt (0 % 2) d else ld d 16 30 p1 (fun t2 => if w32 t2 = w32 (-1) then rt (0 % 2) d else ld d 12 30 p1 (fun t3 => cl (m_X11_isIn p3 t3 d) (fun r4 d5 => if w32 r4 = 0 then rt (0 % 2) d5 else rt (1 % 2) d5))))
set_option maxRecDepth 100000 in
theorem t_X6_speaks_9 {G : G9} {l : Launch} (h1 : va_D (A9 G) (wl G (fun _ _ => 0))) (h2 : l.stackTraces = false) (p1 p2 p3 : Int) (d : D9) : MT G l yX6_speaks cX6_speaks 4 z_X6_speaks_9 [rf G 9, i9 p1, i9 p2, i9 p3] d (m_X6_speaks_9 p1 p2 p3 d) := by
  refine mt_of (own := RX6) (by decide) rfl (Nat.le_of_ble_eq_true rfl) h1 h2 [(0, rf G 9), (1, i9 p1), (2, i9 p2), (3, i9 p3)] rfl (fun X hX C => ?_)
  unfold m_X6_speaks_9
  refine r_aload_n C 0 dX6_speaks_0 rfl rfl ?_
  refine r_getR C 11 dX6_speaks_1 fl_X6_15 la_9 ly_9 rfl rfl ?_
  refine r_iload_n C 1 dX6_speaks_4 rfl rfl ?_
  refine r_iald C dX6_speaks_5 la_11 ly_11 (fun t1 => ?_)
  refine r_iload_n C 2 dX6_speaks_6 rfl rfl ?_
  refine r_icmp_ne C 37 dX6_speaks_7 (by decide) (fun _ => ?_) (fun _ => ?_)
  · refine r_iconst C dX6_speaks_37 ?_
    exact r_zret C dX6_speaks_38 (by decide) (by decide)
  · refine r_aload_n C 0 dX6_speaks_10 rfl rfl ?_
    refine r_getR C 16 dX6_speaks_11 fl_X6_30 la_9 ly_9 rfl rfl ?_
    refine r_iload_n C 1 dX6_speaks_14 rfl rfl ?_
    refine r_iald C dX6_speaks_15 la_16 ly_16 (fun t2 => ?_)
    refine r_iconst C dX6_speaks_16 ?_
    refine r_icmp_eq C 37 dX6_speaks_17 (by decide) (fun _ => ?_) (fun _ => ?_)
    · refine r_iconst C dX6_speaks_37 ?_
      exact r_zret C dX6_speaks_38 (by decide) (by decide)
    · refine r_iload_n C 3 dX6_speaks_20 rfl rfl ?_
      refine r_aload_n C 0 dX6_speaks_21 rfl rfl ?_
      refine r_getR C 12 dX6_speaks_22 fl_X6_18 la_9 ly_9 rfl rfl ?_
      refine r_iload_n C 1 dX6_speaks_25 rfl rfl ?_
      refine r_iald C dX6_speaks_26 la_12 ly_12 (fun t3 => ?_)
      refine r_callN C [i9 t3, i9 p3] dX6_speaks_27 (t_X11_isIn C.h1 C.h2 p3 t3 d) (n_X11_isIn p3 t3 d) mn_X6_93 ms_X11_isIn (by decide) (by decide) (by decide) rfl rfl (Nat.le_of_ble_eq_true rfl) (fun r4 d5 => ?_)
      show SS G X 4 _ _ 30 [(0, rf G 9), (1, i9 p1), (2, i9 p2), (3, i9 p3)] [i9 r4] d5 _
      refine r_if_eq C (b := 0) 37 dX6_speaks_30 (by decide) (fun _ => ?_) (fun _ => ?_)
      · refine r_iconst C dX6_speaks_37 ?_
        exact r_zret C dX6_speaks_38 (by decide) (by decide)
      · refine r_iconst C dX6_speaks_33 ?_
        refine r_goto C 38 dX6_speaks_34 (by decide) ?_
        exact r_zret C dX6_speaks_38 (by decide) (by decide)
theorem dX6_mostSaid_0 : decode cX6_mostSaid 0 = .ok (.sipush 400, 3) := by decide +kernel
theorem dX6_mostSaid_3 : decode cX6_mostSaid 3 = .ok (.istore_n 3, 1) := by decide +kernel
theorem dX6_mostSaid_4 : decode cX6_mostSaid 4 = .ok (.iconst 0, 1) := by decide +kernel
theorem dX6_mostSaid_5 : decode cX6_mostSaid 5 = .ok (.istore 4, 2) := by decide +kernel
theorem dX6_mostSaid_7 : decode cX6_mostSaid 7 = .ok (.iload 4, 2) := by decide +kernel
theorem dX6_mostSaid_9 : decode cX6_mostSaid 9 = .ok (.aload_n 0, 1) := by decide +kernel
theorem dX6_mostSaid_10 : decode cX6_mostSaid 10 = .ok (.getfield 48, 3) := by decide +kernel
theorem dX6_mostSaid_13 : decode cX6_mostSaid 13 = .ok (.if_icmp .ge 38, 3) := by decide +kernel
theorem dX6_mostSaid_16 : decode cX6_mostSaid 16 = .ok (.iload 4, 2) := by decide +kernel
theorem dX6_mostSaid_18 : decode cX6_mostSaid 18 = .ok (.iload_n 2, 1) := by decide +kernel
theorem dX6_mostSaid_19 : decode cX6_mostSaid 19 = .ok (.if_icmp .eq 26, 3) := by decide +kernel
theorem dX6_mostSaid_22 : decode cX6_mostSaid 22 = .ok (.aload_n 0, 1) := by decide +kernel
theorem dX6_mostSaid_23 : decode cX6_mostSaid 23 = .ok (.iload 4, 2) := by decide +kernel
theorem dX6_mostSaid_25 : decode cX6_mostSaid 25 = .ok (.iconst 2, 1) := by decide +kernel
theorem dX6_mostSaid_26 : decode cX6_mostSaid 26 = .ok (.iload_n 1, 1) := by decide +kernel
theorem dX6_mostSaid_27 : decode cX6_mostSaid 27 = .ok (.invokevirtual 97, 3) := by decide +kernel
theorem dX6_mostSaid_30 : decode cX6_mostSaid 30 = .ok (.ifCond .eq 15, 3) := by decide +kernel
theorem dX6_mostSaid_33 : decode cX6_mostSaid 33 = .ok (.iload_n 3, 1) := by decide +kernel
theorem dX6_mostSaid_34 : decode cX6_mostSaid 34 = .ok (.aload_n 0, 1) := by decide +kernel
theorem dX6_mostSaid_35 : decode cX6_mostSaid 35 = .ok (.getfield 30, 3) := by decide +kernel
theorem dX6_mostSaid_38 : decode cX6_mostSaid 38 = .ok (.iload 4, 2) := by decide +kernel
theorem dX6_mostSaid_40 : decode cX6_mostSaid 40 = .ok (.iaload, 1) := by decide +kernel
theorem dX6_mostSaid_41 : decode cX6_mostSaid 41 = .ok (.invokestatic 107, 3) := by decide +kernel
theorem dX6_mostSaid_44 : decode cX6_mostSaid 44 = .ok (.istore_n 3, 1) := by decide +kernel
theorem dX6_mostSaid_45 : decode cX6_mostSaid 45 = .ok (.iinc 4 1, 3) := by decide +kernel
theorem dX6_mostSaid_48 : decode cX6_mostSaid 48 = .ok (.goto (-41), 3) := by decide +kernel
theorem dX6_mostSaid_51 : decode cX6_mostSaid 51 = .ok (.iload_n 3, 1) := by decide +kernel
theorem dX6_mostSaid_52 : decode cX6_mostSaid 52 = .ok (.ireturn, 1) := by decide +kernel
abbrev z_X6_mostSaid_9 : Z9 := (some .int, 1, 0, 0, 3, 60)
def b_X6_mostSaid_9_c7 (k_X6_mostSaid_9_c7 : Int → Int → Int → Int → D9 → Option R9) (v1 v2 v3 v4 : Int) (d : D9) : Option R9 := if w32 (d 9 0) ≤ w32 v4 then rt v3 d else if w32 v4 = w32 v2 then k_X6_mostSaid_9_c7 v1 v2 v3 (v4 + 1) d else cl (m_X6_speaks_9 v4 2 v1 d) (fun r1 d2 => if w32 r1 = 0 then k_X6_mostSaid_9_c7 v1 v2 v3 (v4 + 1) d2 else ld d2 16 30 v4 (fun t3 => lt9v (min9 v3 t3) (fun a4 => k_X6_mostSaid_9_c7 v1 v2 a4 (v4 + 1) d2)))
def m_X6_mostSaid_9_c7 : Int → Int → Int → Int → D9 → Option R9 := fix9 (fun _ _ _ _ _ => none) (fun k => b_X6_mostSaid_9_c7 k) FU
def m_X6_mostSaid_9 (p1 p2 : Int) (d : D9) : Option R9 := m_X6_mostSaid_9_c7  p1 p2 400 0 d
set_option maxRecDepth 100000 in
theorem sb_X6_mostSaid_9_c7 {G : G9} {X : X9} (C : CX G X cX6_mostSaid 5 RX6 [] z_X6_mostSaid_9) (k_X6_mostSaid_9_c7 : Int → Int → Int → Int → D9 → Option R9) (hk_X6_mostSaid_9_c7 : ∀ (v1 v2 v3 v4 : Int) (d : D9), SS G X 5 0 0 7 [(0, rf G 9), (1, i9 v1), (2, i9 v2), (3, i9 v3), (4, i9 v4)] [] d (k_X6_mostSaid_9_c7 v1 v2 v3 v4 d)) : ∀ (v1 v2 v3 v4 : Int) (d : D9), SS G X 5 0 0 7 [(0, rf G 9), (1, i9 v1), (2, i9 v2), (3, i9 v3), (4, i9 v4)] [] d (b_X6_mostSaid_9_c7 k_X6_mostSaid_9_c7 v1 v2 v3 v4 d) := by
  intro v1 v2 v3 v4 d
  unfold b_X6_mostSaid_9_c7
  refine r_iload C 4 dX6_mostSaid_7 rfl ?_
  refine r_aload_n C 0 dX6_mostSaid_9 rfl rfl ?_
  refine r_getI C dX6_mostSaid_10 fl_X6_48 la_9 ly_9 rfl ?_
  refine r_icmp_ge C 51 dX6_mostSaid_13 (by decide) (fun _ => ?_) (fun _ => ?_)
  · refine r_iload_n C 3 dX6_mostSaid_51 rfl rfl ?_
    exact r_iret C dX6_mostSaid_52 (by decide) (by decide)
  · refine r_iload C 4 dX6_mostSaid_16 rfl ?_
    refine r_iload_n C 2 dX6_mostSaid_18 rfl rfl ?_
    refine r_icmp_eq C 45 dX6_mostSaid_19 (by decide) (fun _ => ?_) (fun _ => ?_)
    · refine r_iinc C 4 [(4, i9 (v4 + 1)), (0, rf G 9), (1, i9 v1), (2, i9 v2), (3, i9 v3)] dX6_mostSaid_45 rfl (by decide) rfl ?_
      refine r_goto C 7 dX6_mostSaid_48 (by decide) ?_
      refine ss_wide (k' := 0) (n' := 0) (by decide) (by decide) ?_
      refine ss_ls [(0, rf G 9), (1, i9 v1), (2, i9 v2), (3, i9 v3), (4, i9 (v4 + 1))] [1, 2, 3, 4, 0] rfl ?_
      exact hk_X6_mostSaid_9_c7 v1 v2 v3 (v4 + 1) d
    · refine r_aload_n C 0 dX6_mostSaid_22 rfl rfl ?_
      refine r_iload C 4 dX6_mostSaid_23 rfl ?_
      refine r_iconst C dX6_mostSaid_25 ?_
      refine r_iload_n C 1 dX6_mostSaid_26 rfl rfl ?_
      refine r_callV C [i9 v1, i9 2, i9 v4, rf G 9] dX6_mostSaid_27 (t_X6_speaks_9 C.h1 C.h2 v4 2 v1 d) mw_X6_97 mv_X6_speaks la_9 ly_9 rfl (by decide) (by decide) (by decide) rfl rfl (Nat.le_of_ble_eq_true rfl) (fun r1 d2 => ?_)
      show SS G X 5 _ _ 30 [(0, rf G 9), (1, i9 v1), (2, i9 v2), (3, i9 v3), (4, i9 v4)] [i9 r1] d2 _
      refine r_if_eq C (b := 0) 45 dX6_mostSaid_30 (by decide) (fun _ => ?_) (fun _ => ?_)
      · refine r_iinc C 4 [(4, i9 (v4 + 1)), (0, rf G 9), (1, i9 v1), (2, i9 v2), (3, i9 v3)] dX6_mostSaid_45 rfl (by decide) rfl ?_
        refine r_goto C 7 dX6_mostSaid_48 (by decide) ?_
        refine ss_wide (k' := 0) (n' := 0) (by decide) (by decide) ?_
        refine ss_ls [(0, rf G 9), (1, i9 v1), (2, i9 v2), (3, i9 v3), (4, i9 (v4 + 1))] [1, 2, 3, 4, 0] rfl ?_
        exact hk_X6_mostSaid_9_c7 v1 v2 v3 (v4 + 1) d2
      · refine r_iload_n C 3 dX6_mostSaid_33 rfl rfl ?_
        refine r_aload_n C 0 dX6_mostSaid_34 rfl rfl ?_
        refine r_getR C 16 dX6_mostSaid_35 fl_X6_30 la_9 ly_9 rfl rfl ?_
        refine r_iload C 4 dX6_mostSaid_38 rfl ?_
        refine r_iald C dX6_mostSaid_40 la_16 ly_16 (fun t3 => ?_)
        refine r_mmin C dX6_mostSaid_41 mm_X6_107 ⟨Nat.le_of_ble_eq_true rfl, Nat.le_of_ble_eq_true rfl⟩ (by decide) (by decide) ?_
        refine ss_lt (fun a4 => ?_)
        refine r_istore_n C [(3, i9 a4), (0, rf G 9), (1, i9 v1), (2, i9 v2), (4, i9 v4)] dX6_mostSaid_44 rfl (by decide) rfl ?_
        refine r_iinc C 4 [(4, i9 (v4 + 1)), (3, i9 a4), (0, rf G 9), (1, i9 v1), (2, i9 v2)] dX6_mostSaid_45 rfl (by decide) rfl ?_
        refine r_goto C 7 dX6_mostSaid_48 (by decide) ?_
        refine ss_wide (k' := 0) (n' := 0) (by decide) (by decide) ?_
        refine ss_ls [(0, rf G 9), (1, i9 v1), (2, i9 v2), (3, i9 a4), (4, i9 (v4 + 1))] [2, 3, 4, 1, 0] rfl ?_
        exact hk_X6_mostSaid_9_c7 v1 v2 a4 (v4 + 1) d2
theorem s_X6_mostSaid_9_c7 {G : G9} {X : X9} (C : CX G X cX6_mostSaid 5 RX6 [] z_X6_mostSaid_9) : ∀ (v1 v2 v3 v4 : Int) (d : D9), SS G X 5 0 0 7 [(0, rf G 9), (1, i9 v1), (2, i9 v2), (3, i9 v3), (4, i9 v4)] [] d (m_X6_mostSaid_9_c7  v1 v2 v3 v4 d) :=
  fix9_ind (P := fun k => ∀ (v1 v2 v3 v4 : Int) (d : D9), SS G X 5 0 0 7 [(0, rf G 9), (1, i9 v1), (2, i9 v2), (3, i9 v3), (4, i9 v4)] [] d (k v1 v2 v3 v4 d)) (fun _ _ _ _ _ => ss_none) (fun k hk => sb_X6_mostSaid_9_c7 C k hk) FU
set_option maxRecDepth 100000 in
theorem t_X6_mostSaid_9 {G : G9} {l : Launch} (h1 : va_D (A9 G) (wl G (fun _ _ => 0))) (h2 : l.stackTraces = false) (p1 p2 : Int) (d : D9) : MT G l yX6_mostSaid cX6_mostSaid 5 z_X6_mostSaid_9 [rf G 9, i9 p1, i9 p2] d (m_X6_mostSaid_9 p1 p2 d) := by
  refine mt_of (own := RX6) (by decide) rfl (Nat.le_of_ble_eq_true rfl) h1 h2 [(0, rf G 9), (1, i9 p1), (2, i9 p2)] rfl (fun X hX C => ?_)
  unfold m_X6_mostSaid_9
  refine r_sipush C dX6_mostSaid_0 rfl ?_
  refine r_istore_n C [(3, i9 400), (0, rf G 9), (1, i9 p1), (2, i9 p2)] dX6_mostSaid_3 rfl (by decide) rfl ?_
  refine r_iconst C dX6_mostSaid_4 ?_
  refine r_istore C [(4, i9 0), (3, i9 400), (0, rf G 9), (1, i9 p1), (2, i9 p2)] dX6_mostSaid_5 (by decide) rfl ?_
  refine ss_wide (k' := 0) (n' := 0) (by decide) (by decide) ?_
  refine ss_ls [(0, rf G 9), (1, i9 p1), (2, i9 p2), (3, i9 400), (4, i9 0)] [2, 3, 4, 1, 0] rfl ?_
  exact s_X6_mostSaid_9_c7 C  p1 p2 400 0 d
theorem dX10_mostOf_0 : decode cX10_mostOf 0 = .ok (.aload_n 0, 1) := by decide +kernel
theorem dX10_mostOf_1 : decode cX10_mostOf 1 = .ok (.getfield 21, 3) := by decide +kernel
theorem dX10_mostOf_4 : decode cX10_mostOf 4 = .ok (.aload_n 0, 1) := by decide +kernel
theorem dX10_mostOf_5 : decode cX10_mostOf 5 = .ok (.getfield 12, 3) := by decide +kernel
theorem dX10_mostOf_8 : decode cX10_mostOf 8 = .ok (.iload_n 1, 1) := by decide +kernel
theorem dX10_mostOf_9 : decode cX10_mostOf 9 = .ok (.invokevirtual 80, 3) := by decide +kernel
theorem dX10_mostOf_12 : decode cX10_mostOf 12 = .ok (.iconst (-1), 1) := by decide +kernel
theorem dX10_mostOf_13 : decode cX10_mostOf 13 = .ok (.invokevirtual 83, 3) := by decide +kernel
theorem dX10_mostOf_16 : decode cX10_mostOf 16 = .ok (.ireturn, 1) := by decide +kernel
abbrev z_X10_mostOf_1 : Z9 := (some .int, 1, 0, 0, 4, 84)
def m_X10_mostOf_1 (p1 : Int) (d : D9) : Option R9 := cl (m_X3_withBelow_2 p1 d) (fun r1 d2 => cl (m_X6_mostSaid_9 r1 (-1) d2) (fun r3 d4 => rt r3 d4))
set_option maxRecDepth 100000 in
theorem t_X10_mostOf_1 {G : G9} {l : Launch} (h1 : va_D (A9 G) (wl G (fun _ _ => 0))) (h2 : l.stackTraces = false) (p1 : Int) (d : D9) : MT G l yX10_mostOf cX10_mostOf 2 z_X10_mostOf_1 [rf G 1, i9 p1] d (m_X10_mostOf_1 p1 d) := by
  refine mt_of (own := RX10) (by decide) rfl (Nat.le_of_ble_eq_true rfl) h1 h2 [(0, rf G 1), (1, i9 p1)] rfl (fun X hX C => ?_)
  unfold m_X10_mostOf_1
  refine r_aload_n C 0 dX10_mostOf_0 rfl rfl ?_
  refine r_getR C 9 dX10_mostOf_1 fl_X10_21 la_1 ly_1 rfl rfl ?_
  refine r_aload_n C 0 dX10_mostOf_4 rfl rfl ?_
  refine r_getR C 2 dX10_mostOf_5 fl_X10_12 la_1 ly_1 rfl rfl ?_
  refine r_iload_n C 1 dX10_mostOf_8 rfl rfl ?_
  refine r_callV C [i9 p1, rf G 2, rf G 9] dX10_mostOf_9 (t_X3_withBelow_2 C.h1 C.h2 p1 d) mw_X10_80 mv_X3_withBelow la_2 ly_2 rfl (by decide) (by decide) (by decide) rfl rfl (Nat.le_of_ble_eq_true rfl) (fun r1 d2 => ?_)
  show SS G X 2 _ _ 12 [(0, rf G 1), (1, i9 p1)] [i9 r1, rf G 9] d2 _
  refine r_iconst C dX10_mostOf_12 ?_
  refine r_callV C [i9 (-1), i9 r1, rf G 9] dX10_mostOf_13 (t_X6_mostSaid_9 C.h1 C.h2 r1 (-1) d2) mw_X10_83 mv_X6_mostSaid la_9 ly_9 rfl (by decide) (by decide) (by decide) rfl rfl (Nat.le_of_ble_eq_true rfl) (fun r3 d4 => ?_)
  show SS G X 2 _ _ 16 [(0, rf G 1), (1, i9 p1)] [i9 r3] d4 _
  exact r_iret C dX10_mostOf_16 (by decide) (by decide)
theorem dX3_withAbove_0 : decode cX3_withAbove 0 = .ok (.aload_n 0, 1) := by decide +kernel
theorem dX3_withAbove_1 : decode cX3_withAbove 1 = .ok (.iload_n 1, 1) := by decide +kernel
theorem dX3_withAbove_2 : decode cX3_withAbove 2 = .ok (.aload_n 0, 1) := by decide +kernel
theorem dX3_withAbove_3 : decode cX3_withAbove 3 = .ok (.getfield 24, 3) := by decide +kernel
theorem dX3_withAbove_6 : decode cX3_withAbove 6 = .ok (.invokevirtual 51, 3) := by decide +kernel
theorem dX3_withAbove_9 : decode cX3_withAbove 9 = .ok (.iconst 1, 1) := by decide +kernel
theorem dX3_withAbove_10 : decode cX3_withAbove 10 = .ok (.iload_n 1, 1) := by decide +kernel
theorem dX3_withAbove_11 : decode cX3_withAbove 11 = .ok (.ishl, 1) := by decide +kernel
theorem dX3_withAbove_12 : decode cX3_withAbove 12 = .ok (.ior, 1) := by decide +kernel
theorem dX3_withAbove_13 : decode cX3_withAbove 13 = .ok (.ireturn, 1) := by decide +kernel
abbrev z_X3_withAbove_2 : Z9 := (some .int, 1, 0, 0, 3, 47)
def m_X3_withAbove_2 (p1 : Int) (d : D9) : Option R9 := cl (m_X3_reach_2_7 p1 d) (fun r1 d2 => rt (or9 r1 (shl9 1 p1)) d2)
set_option maxRecDepth 100000 in
theorem t_X3_withAbove_2 {G : G9} {l : Launch} (h1 : va_D (A9 G) (wl G (fun _ _ => 0))) (h2 : l.stackTraces = false) (p1 : Int) (d : D9) : MT G l yX3_withAbove cX3_withAbove 2 z_X3_withAbove_2 [rf G 2, i9 p1] d (m_X3_withAbove_2 p1 d) := by
  refine mt_of (own := RX3) (by decide) rfl (Nat.le_of_ble_eq_true rfl) h1 h2 [(0, rf G 2), (1, i9 p1)] rfl (fun X hX C => ?_)
  unfold m_X3_withAbove_2
  refine r_aload_n C 0 dX3_withAbove_0 rfl rfl ?_
  refine r_iload_n C 1 dX3_withAbove_1 rfl rfl ?_
  refine r_aload_n C 0 dX3_withAbove_2 rfl rfl ?_
  refine r_getR C 7 dX3_withAbove_3 fl_X3_24 la_2 ly_2 rfl rfl ?_
  refine r_callV C [rf G 7, i9 p1, rf G 2] dX3_withAbove_6 (t_X3_reach_2_7 C.h1 C.h2 p1 d) mw_X3_51 mv_X3_reach la_2 ly_2 rfl (by decide) (by decide) (by decide) rfl rfl (Nat.le_of_ble_eq_true rfl) (fun r1 d2 => ?_)
  show SS G X 2 _ _ 9 [(0, rf G 2), (1, i9 p1)] [i9 r1] d2 _
  refine r_iconst C dX3_withAbove_9 ?_
  refine r_iload_n C 1 dX3_withAbove_10 rfl rfl ?_
  refine r_ishl C dX3_withAbove_11 ?_
  refine r_ior C dX3_withAbove_12 ?_
  exact r_iret C dX3_withAbove_13 (by decide) (by decide)
theorem dX6_leastSaid_0 : decode cX6_leastSaid 0 = .ok (.iconst 0, 1) := by decide +kernel
theorem dX6_leastSaid_1 : decode cX6_leastSaid 1 = .ok (.istore_n 3, 1) := by decide +kernel
theorem dX6_leastSaid_2 : decode cX6_leastSaid 2 = .ok (.iconst 0, 1) := by decide +kernel
theorem dX6_leastSaid_3 : decode cX6_leastSaid 3 = .ok (.istore 4, 2) := by decide +kernel
theorem dX6_leastSaid_5 : decode cX6_leastSaid 5 = .ok (.iload 4, 2) := by decide +kernel
theorem dX6_leastSaid_7 : decode cX6_leastSaid 7 = .ok (.aload_n 0, 1) := by decide +kernel
theorem dX6_leastSaid_8 : decode cX6_leastSaid 8 = .ok (.getfield 48, 3) := by decide +kernel
theorem dX6_leastSaid_11 : decode cX6_leastSaid 11 = .ok (.if_icmp .ge 38, 3) := by decide +kernel
theorem dX6_leastSaid_14 : decode cX6_leastSaid 14 = .ok (.iload 4, 2) := by decide +kernel
theorem dX6_leastSaid_16 : decode cX6_leastSaid 16 = .ok (.iload_n 2, 1) := by decide +kernel
theorem dX6_leastSaid_17 : decode cX6_leastSaid 17 = .ok (.if_icmp .eq 26, 3) := by decide +kernel
theorem dX6_leastSaid_20 : decode cX6_leastSaid 20 = .ok (.aload_n 0, 1) := by decide +kernel
theorem dX6_leastSaid_21 : decode cX6_leastSaid 21 = .ok (.iload 4, 2) := by decide +kernel
theorem dX6_leastSaid_23 : decode cX6_leastSaid 23 = .ok (.iconst 1, 1) := by decide +kernel
theorem dX6_leastSaid_24 : decode cX6_leastSaid 24 = .ok (.iload_n 1, 1) := by decide +kernel
theorem dX6_leastSaid_25 : decode cX6_leastSaid 25 = .ok (.invokevirtual 97, 3) := by decide +kernel
theorem dX6_leastSaid_28 : decode cX6_leastSaid 28 = .ok (.ifCond .eq 15, 3) := by decide +kernel
theorem dX6_leastSaid_31 : decode cX6_leastSaid 31 = .ok (.iload_n 3, 1) := by decide +kernel
theorem dX6_leastSaid_32 : decode cX6_leastSaid 32 = .ok (.aload_n 0, 1) := by decide +kernel
theorem dX6_leastSaid_33 : decode cX6_leastSaid 33 = .ok (.getfield 30, 3) := by decide +kernel
theorem dX6_leastSaid_36 : decode cX6_leastSaid 36 = .ok (.iload 4, 2) := by decide +kernel
theorem dX6_leastSaid_38 : decode cX6_leastSaid 38 = .ok (.iaload, 1) := by decide +kernel
theorem dX6_leastSaid_39 : decode cX6_leastSaid 39 = .ok (.invokestatic 101, 3) := by decide +kernel
theorem dX6_leastSaid_42 : decode cX6_leastSaid 42 = .ok (.istore_n 3, 1) := by decide +kernel
theorem dX6_leastSaid_43 : decode cX6_leastSaid 43 = .ok (.iinc 4 1, 3) := by decide +kernel
theorem dX6_leastSaid_46 : decode cX6_leastSaid 46 = .ok (.goto (-41), 3) := by decide +kernel
theorem dX6_leastSaid_49 : decode cX6_leastSaid 49 = .ok (.iload_n 3, 1) := by decide +kernel
theorem dX6_leastSaid_50 : decode cX6_leastSaid 50 = .ok (.ireturn, 1) := by decide +kernel
abbrev z_X6_leastSaid_9 : Z9 := (some .int, 1, 0, 0, 3, 60)
def b_X6_leastSaid_9_c5 (k_X6_leastSaid_9_c5 : Int → Int → Int → Int → D9 → Option R9) (v1 v2 v3 v4 : Int) (d : D9) : Option R9 := if w32 (d 9 0) ≤ w32 v4 then rt v3 d else if w32 v4 = w32 v2 then k_X6_leastSaid_9_c5 v1 v2 v3 (v4 + 1) d else cl (m_X6_speaks_9 v4 1 v1 d) (fun r1 d2 => if w32 r1 = 0 then k_X6_leastSaid_9_c5 v1 v2 v3 (v4 + 1) d2 else ld d2 16 30 v4 (fun t3 => lt9v (max9 v3 t3) (fun a4 => k_X6_leastSaid_9_c5 v1 v2 a4 (v4 + 1) d2)))
def m_X6_leastSaid_9_c5 : Int → Int → Int → Int → D9 → Option R9 := fix9 (fun _ _ _ _ _ => none) (fun k => b_X6_leastSaid_9_c5 k) FU
def m_X6_leastSaid_9 (p1 p2 : Int) (d : D9) : Option R9 := m_X6_leastSaid_9_c5  p1 p2 0 0 d
set_option maxRecDepth 100000 in
theorem sb_X6_leastSaid_9_c5 {G : G9} {X : X9} (C : CX G X cX6_leastSaid 5 RX6 [] z_X6_leastSaid_9) (k_X6_leastSaid_9_c5 : Int → Int → Int → Int → D9 → Option R9) (hk_X6_leastSaid_9_c5 : ∀ (v1 v2 v3 v4 : Int) (d : D9), SS G X 5 0 0 5 [(0, rf G 9), (1, i9 v1), (2, i9 v2), (3, i9 v3), (4, i9 v4)] [] d (k_X6_leastSaid_9_c5 v1 v2 v3 v4 d)) : ∀ (v1 v2 v3 v4 : Int) (d : D9), SS G X 5 0 0 5 [(0, rf G 9), (1, i9 v1), (2, i9 v2), (3, i9 v3), (4, i9 v4)] [] d (b_X6_leastSaid_9_c5 k_X6_leastSaid_9_c5 v1 v2 v3 v4 d) := by
  intro v1 v2 v3 v4 d
  unfold b_X6_leastSaid_9_c5
  refine r_iload C 4 dX6_leastSaid_5 rfl ?_
  refine r_aload_n C 0 dX6_leastSaid_7 rfl rfl ?_
  refine r_getI C dX6_leastSaid_8 fl_X6_48 la_9 ly_9 rfl ?_
  refine r_icmp_ge C 49 dX6_leastSaid_11 (by decide) (fun _ => ?_) (fun _ => ?_)
  · refine r_iload_n C 3 dX6_leastSaid_49 rfl rfl ?_
    exact r_iret C dX6_leastSaid_50 (by decide) (by decide)
  · refine r_iload C 4 dX6_leastSaid_14 rfl ?_
    refine r_iload_n C 2 dX6_leastSaid_16 rfl rfl ?_
    refine r_icmp_eq C 43 dX6_leastSaid_17 (by decide) (fun _ => ?_) (fun _ => ?_)
    · refine r_iinc C 4 [(4, i9 (v4 + 1)), (0, rf G 9), (1, i9 v1), (2, i9 v2), (3, i9 v3)] dX6_leastSaid_43 rfl (by decide) rfl ?_
      refine r_goto C 5 dX6_leastSaid_46 (by decide) ?_
      refine ss_wide (k' := 0) (n' := 0) (by decide) (by decide) ?_
      refine ss_ls [(0, rf G 9), (1, i9 v1), (2, i9 v2), (3, i9 v3), (4, i9 (v4 + 1))] [1, 2, 3, 4, 0] rfl ?_
      exact hk_X6_leastSaid_9_c5 v1 v2 v3 (v4 + 1) d
    · refine r_aload_n C 0 dX6_leastSaid_20 rfl rfl ?_
      refine r_iload C 4 dX6_leastSaid_21 rfl ?_
      refine r_iconst C dX6_leastSaid_23 ?_
      refine r_iload_n C 1 dX6_leastSaid_24 rfl rfl ?_
      refine r_callV C [i9 v1, i9 1, i9 v4, rf G 9] dX6_leastSaid_25 (t_X6_speaks_9 C.h1 C.h2 v4 1 v1 d) mw_X6_97 mv_X6_speaks la_9 ly_9 rfl (by decide) (by decide) (by decide) rfl rfl (Nat.le_of_ble_eq_true rfl) (fun r1 d2 => ?_)
      show SS G X 5 _ _ 28 [(0, rf G 9), (1, i9 v1), (2, i9 v2), (3, i9 v3), (4, i9 v4)] [i9 r1] d2 _
      refine r_if_eq C (b := 0) 43 dX6_leastSaid_28 (by decide) (fun _ => ?_) (fun _ => ?_)
      · refine r_iinc C 4 [(4, i9 (v4 + 1)), (0, rf G 9), (1, i9 v1), (2, i9 v2), (3, i9 v3)] dX6_leastSaid_43 rfl (by decide) rfl ?_
        refine r_goto C 5 dX6_leastSaid_46 (by decide) ?_
        refine ss_wide (k' := 0) (n' := 0) (by decide) (by decide) ?_
        refine ss_ls [(0, rf G 9), (1, i9 v1), (2, i9 v2), (3, i9 v3), (4, i9 (v4 + 1))] [1, 2, 3, 4, 0] rfl ?_
        exact hk_X6_leastSaid_9_c5 v1 v2 v3 (v4 + 1) d2
      · refine r_iload_n C 3 dX6_leastSaid_31 rfl rfl ?_
        refine r_aload_n C 0 dX6_leastSaid_32 rfl rfl ?_
        refine r_getR C 16 dX6_leastSaid_33 fl_X6_30 la_9 ly_9 rfl rfl ?_
        refine r_iload C 4 dX6_leastSaid_36 rfl ?_
        refine r_iald C dX6_leastSaid_38 la_16 ly_16 (fun t3 => ?_)
        refine r_mmax C dX6_leastSaid_39 mm_X6_101 ⟨Nat.le_of_ble_eq_true rfl, Nat.le_of_ble_eq_true rfl⟩ (by decide) (by decide) ?_
        refine ss_lt (fun a4 => ?_)
        refine r_istore_n C [(3, i9 a4), (0, rf G 9), (1, i9 v1), (2, i9 v2), (4, i9 v4)] dX6_leastSaid_42 rfl (by decide) rfl ?_
        refine r_iinc C 4 [(4, i9 (v4 + 1)), (3, i9 a4), (0, rf G 9), (1, i9 v1), (2, i9 v2)] dX6_leastSaid_43 rfl (by decide) rfl ?_
        refine r_goto C 5 dX6_leastSaid_46 (by decide) ?_
        refine ss_wide (k' := 0) (n' := 0) (by decide) (by decide) ?_
        refine ss_ls [(0, rf G 9), (1, i9 v1), (2, i9 v2), (3, i9 a4), (4, i9 (v4 + 1))] [2, 3, 4, 1, 0] rfl ?_
        exact hk_X6_leastSaid_9_c5 v1 v2 a4 (v4 + 1) d2
theorem s_X6_leastSaid_9_c5 {G : G9} {X : X9} (C : CX G X cX6_leastSaid 5 RX6 [] z_X6_leastSaid_9) : ∀ (v1 v2 v3 v4 : Int) (d : D9), SS G X 5 0 0 5 [(0, rf G 9), (1, i9 v1), (2, i9 v2), (3, i9 v3), (4, i9 v4)] [] d (m_X6_leastSaid_9_c5  v1 v2 v3 v4 d) :=
  fix9_ind (P := fun k => ∀ (v1 v2 v3 v4 : Int) (d : D9), SS G X 5 0 0 5 [(0, rf G 9), (1, i9 v1), (2, i9 v2), (3, i9 v3), (4, i9 v4)] [] d (k v1 v2 v3 v4 d)) (fun _ _ _ _ _ => ss_none) (fun k hk => sb_X6_leastSaid_9_c5 C k hk) FU
set_option maxRecDepth 100000 in
theorem t_X6_leastSaid_9 {G : G9} {l : Launch} (h1 : va_D (A9 G) (wl G (fun _ _ => 0))) (h2 : l.stackTraces = false) (p1 p2 : Int) (d : D9) : MT G l yX6_leastSaid cX6_leastSaid 5 z_X6_leastSaid_9 [rf G 9, i9 p1, i9 p2] d (m_X6_leastSaid_9 p1 p2 d) := by
  refine mt_of (own := RX6) (by decide) rfl (Nat.le_of_ble_eq_true rfl) h1 h2 [(0, rf G 9), (1, i9 p1), (2, i9 p2)] rfl (fun X hX C => ?_)
  unfold m_X6_leastSaid_9
  refine r_iconst C dX6_leastSaid_0 ?_
  refine r_istore_n C [(3, i9 0), (0, rf G 9), (1, i9 p1), (2, i9 p2)] dX6_leastSaid_1 rfl (by decide) rfl ?_
  refine r_iconst C dX6_leastSaid_2 ?_
  refine r_istore C [(4, i9 0), (3, i9 0), (0, rf G 9), (1, i9 p1), (2, i9 p2)] dX6_leastSaid_3 (by decide) rfl ?_
  refine ss_wide (k' := 0) (n' := 0) (by decide) (by decide) ?_
  refine ss_ls [(0, rf G 9), (1, i9 p1), (2, i9 p2), (3, i9 0), (4, i9 0)] [2, 3, 4, 1, 0] rfl ?_
  exact s_X6_leastSaid_9_c5 C  p1 p2 0 0 d
theorem dX10_leastOf_0 : decode cX10_leastOf 0 = .ok (.aload_n 0, 1) := by decide +kernel
theorem dX10_leastOf_1 : decode cX10_leastOf 1 = .ok (.getfield 21, 3) := by decide +kernel
theorem dX10_leastOf_4 : decode cX10_leastOf 4 = .ok (.aload_n 0, 1) := by decide +kernel
theorem dX10_leastOf_5 : decode cX10_leastOf 5 = .ok (.getfield 12, 3) := by decide +kernel
theorem dX10_leastOf_8 : decode cX10_leastOf 8 = .ok (.iload_n 1, 1) := by decide +kernel
theorem dX10_leastOf_9 : decode cX10_leastOf 9 = .ok (.invokevirtual 72, 3) := by decide +kernel
theorem dX10_leastOf_12 : decode cX10_leastOf 12 = .ok (.iconst (-1), 1) := by decide +kernel
theorem dX10_leastOf_13 : decode cX10_leastOf 13 = .ok (.invokevirtual 76, 3) := by decide +kernel
theorem dX10_leastOf_16 : decode cX10_leastOf 16 = .ok (.ireturn, 1) := by decide +kernel
abbrev z_X10_leastOf_1 : Z9 := (some .int, 1, 0, 0, 4, 84)
def m_X10_leastOf_1 (p1 : Int) (d : D9) : Option R9 := cl (m_X3_withAbove_2 p1 d) (fun r1 d2 => cl (m_X6_leastSaid_9 r1 (-1) d2) (fun r3 d4 => rt r3 d4))
set_option maxRecDepth 100000 in
theorem t_X10_leastOf_1 {G : G9} {l : Launch} (h1 : va_D (A9 G) (wl G (fun _ _ => 0))) (h2 : l.stackTraces = false) (p1 : Int) (d : D9) : MT G l yX10_leastOf cX10_leastOf 2 z_X10_leastOf_1 [rf G 1, i9 p1] d (m_X10_leastOf_1 p1 d) := by
  refine mt_of (own := RX10) (by decide) rfl (Nat.le_of_ble_eq_true rfl) h1 h2 [(0, rf G 1), (1, i9 p1)] rfl (fun X hX C => ?_)
  unfold m_X10_leastOf_1
  refine r_aload_n C 0 dX10_leastOf_0 rfl rfl ?_
  refine r_getR C 9 dX10_leastOf_1 fl_X10_21 la_1 ly_1 rfl rfl ?_
  refine r_aload_n C 0 dX10_leastOf_4 rfl rfl ?_
  refine r_getR C 2 dX10_leastOf_5 fl_X10_12 la_1 ly_1 rfl rfl ?_
  refine r_iload_n C 1 dX10_leastOf_8 rfl rfl ?_
  refine r_callV C [i9 p1, rf G 2, rf G 9] dX10_leastOf_9 (t_X3_withAbove_2 C.h1 C.h2 p1 d) mw_X10_72 mv_X3_withAbove la_2 ly_2 rfl (by decide) (by decide) (by decide) rfl rfl (Nat.le_of_ble_eq_true rfl) (fun r1 d2 => ?_)
  show SS G X 2 _ _ 12 [(0, rf G 1), (1, i9 p1)] [i9 r1, rf G 9] d2 _
  refine r_iconst C dX10_leastOf_12 ?_
  refine r_callV C [i9 (-1), i9 r1, rf G 9] dX10_leastOf_13 (t_X6_leastSaid_9 C.h1 C.h2 r1 (-1) d2) mw_X10_76 mv_X6_leastSaid la_9 ly_9 rfl (by decide) (by decide) (by decide) rfl rfl (Nat.le_of_ble_eq_true rfl) (fun r3 d4 => ?_)
  show SS G X 2 _ _ 16 [(0, rf G 1), (1, i9 p1)] [i9 r3] d4 _
  exact r_iret C dX10_leastOf_16 (by decide) (by decide)
theorem dX7_spans_0 : decode cX7_spans 0 = .ok (.aload_n 0, 1) := by decide +kernel
theorem dX7_spans_1 : decode cX7_spans 1 = .ok (.getfield 18, 3) := by decide +kernel
theorem dX7_spans_4 : decode cX7_spans 4 = .ok (.iload_n 1, 1) := by decide +kernel
theorem dX7_spans_5 : decode cX7_spans 5 = .ok (.iaload, 1) := by decide +kernel
theorem dX7_spans_6 : decode cX7_spans 6 = .ok (.iload_n 2, 1) := by decide +kernel
theorem dX7_spans_7 : decode cX7_spans 7 = .ok (.if_icmp .gt 17, 3) := by decide +kernel
theorem dX7_spans_10 : decode cX7_spans 10 = .ok (.iload_n 2, 1) := by decide +kernel
theorem dX7_spans_11 : decode cX7_spans 11 = .ok (.aload_n 0, 1) := by decide +kernel
theorem dX7_spans_12 : decode cX7_spans 12 = .ok (.getfield 21, 3) := by decide +kernel
theorem dX7_spans_15 : decode cX7_spans 15 = .ok (.iload_n 1, 1) := by decide +kernel
theorem dX7_spans_16 : decode cX7_spans 16 = .ok (.iaload, 1) := by decide +kernel
theorem dX7_spans_17 : decode cX7_spans 17 = .ok (.if_icmp .gt 7, 3) := by decide +kernel
theorem dX7_spans_20 : decode cX7_spans 20 = .ok (.iconst 1, 1) := by decide +kernel
theorem dX7_spans_21 : decode cX7_spans 21 = .ok (.goto 4, 3) := by decide +kernel
theorem dX7_spans_24 : decode cX7_spans 24 = .ok (.iconst 0, 1) := by decide +kernel
theorem dX7_spans_25 : decode cX7_spans 25 = .ok (.ireturn, 1) := by decide +kernel
abbrev z_X7_spans_23 : Z9 := (some .boolean, 1, 0, 0, 1, 0)
def m_X7_spans_23 (p1 p2 : Int) (d : D9) : Option R9 := ld d 26 12 p1 (fun t1 => if w32 p2 < w32 t1 then rt (0 % 2) d else ld d 27 12 p1 (fun t2 => if w32 t2 < w32 p2 then rt (0 % 2) d else rt (1 % 2) d))
set_option maxRecDepth 100000 in
theorem t_X7_spans_23 {G : G9} {l : Launch} (h1 : va_D (A9 G) (wl G (fun _ _ => 0))) (h2 : l.stackTraces = false) (p1 p2 : Int) (d : D9) : MT G l yX7_spans cX7_spans 3 z_X7_spans_23 [rf G 23, i9 p1, i9 p2] d (m_X7_spans_23 p1 p2 d) := by
  refine mt_of (own := RX7) (by decide) rfl (Nat.le_of_ble_eq_true rfl) h1 h2 [(0, rf G 23), (1, i9 p1), (2, i9 p2)] rfl (fun X hX C => ?_)
  unfold m_X7_spans_23
  refine r_aload_n C 0 dX7_spans_0 rfl rfl ?_
  refine r_getR C 26 dX7_spans_1 fl_X7_18 la_23 ly_23 rfl rfl ?_
  refine r_iload_n C 1 dX7_spans_4 rfl rfl ?_
  refine r_iald C dX7_spans_5 la_26 ly_26 (fun t1 => ?_)
  refine r_iload_n C 2 dX7_spans_6 rfl rfl ?_
  refine r_icmp_gt C 24 dX7_spans_7 (by decide) (fun _ => ?_) (fun _ => ?_)
  · refine r_iconst C dX7_spans_24 ?_
    exact r_zret C dX7_spans_25 (by decide) (by decide)
  · refine r_iload_n C 2 dX7_spans_10 rfl rfl ?_
    refine r_aload_n C 0 dX7_spans_11 rfl rfl ?_
    refine r_getR C 27 dX7_spans_12 fl_X7_21 la_23 ly_23 rfl rfl ?_
    refine r_iload_n C 1 dX7_spans_15 rfl rfl ?_
    refine r_iald C dX7_spans_16 la_27 ly_27 (fun t2 => ?_)
    refine r_icmp_gt C 24 dX7_spans_17 (by decide) (fun _ => ?_) (fun _ => ?_)
    · refine r_iconst C dX7_spans_24 ?_
      exact r_zret C dX7_spans_25 (by decide) (by decide)
    · refine r_iconst C dX7_spans_20 ?_
      refine r_goto C 25 dX7_spans_21 (by decide) ?_
      exact r_zret C dX7_spans_25 (by decide) (by decide)
theorem dX7_tellsBeast_0 : decode cX7_tellsBeast 0 = .ok (.iconst 0, 1) := by decide +kernel
theorem dX7_tellsBeast_1 : decode cX7_tellsBeast 1 = .ok (.istore_n 3, 1) := by decide +kernel
theorem dX7_tellsBeast_2 : decode cX7_tellsBeast 2 = .ok (.iload_n 3, 1) := by decide +kernel
theorem dX7_tellsBeast_3 : decode cX7_tellsBeast 3 = .ok (.aload_n 0, 1) := by decide +kernel
theorem dX7_tellsBeast_4 : decode cX7_tellsBeast 4 = .ok (.getfield 24, 3) := by decide +kernel
theorem dX7_tellsBeast_7 : decode cX7_tellsBeast 7 = .ok (.if_icmp .ge 41, 3) := by decide +kernel
theorem dX7_tellsBeast_10 : decode cX7_tellsBeast 10 = .ok (.aload_n 0, 1) := by decide +kernel
theorem dX7_tellsBeast_11 : decode cX7_tellsBeast 11 = .ok (.getfield 9, 3) := by decide +kernel
theorem dX7_tellsBeast_14 : decode cX7_tellsBeast 14 = .ok (.iload_n 3, 1) := by decide +kernel
theorem dX7_tellsBeast_15 : decode cX7_tellsBeast 15 = .ok (.iaload, 1) := by decide +kernel
theorem dX7_tellsBeast_16 : decode cX7_tellsBeast 16 = .ok (.bipush 23, 2) := by decide +kernel
theorem dX7_tellsBeast_18 : decode cX7_tellsBeast 18 = .ok (.if_icmp .ne 24, 3) := by decide +kernel
theorem dX7_tellsBeast_21 : decode cX7_tellsBeast 21 = .ok (.aload_n 0, 1) := by decide +kernel
theorem dX7_tellsBeast_22 : decode cX7_tellsBeast 22 = .ok (.getfield 15, 3) := by decide +kernel
theorem dX7_tellsBeast_25 : decode cX7_tellsBeast 25 = .ok (.iload_n 3, 1) := by decide +kernel
theorem dX7_tellsBeast_26 : decode cX7_tellsBeast 26 = .ok (.iaload, 1) := by decide +kernel
theorem dX7_tellsBeast_27 : decode cX7_tellsBeast 27 = .ok (.iload_n 1, 1) := by decide +kernel
theorem dX7_tellsBeast_28 : decode cX7_tellsBeast 28 = .ok (.if_icmp .ne 14, 3) := by decide +kernel
theorem dX7_tellsBeast_31 : decode cX7_tellsBeast 31 = .ok (.aload_n 0, 1) := by decide +kernel
theorem dX7_tellsBeast_32 : decode cX7_tellsBeast 32 = .ok (.iload_n 3, 1) := by decide +kernel
theorem dX7_tellsBeast_33 : decode cX7_tellsBeast 33 = .ok (.iload_n 2, 1) := by decide +kernel
theorem dX7_tellsBeast_34 : decode cX7_tellsBeast 34 = .ok (.invokevirtual 57, 3) := by decide +kernel
theorem dX7_tellsBeast_37 : decode cX7_tellsBeast 37 = .ok (.ifCond .eq 5, 3) := by decide +kernel
theorem dX7_tellsBeast_40 : decode cX7_tellsBeast 40 = .ok (.iconst 1, 1) := by decide +kernel
theorem dX7_tellsBeast_41 : decode cX7_tellsBeast 41 = .ok (.ireturn, 1) := by decide +kernel
theorem dX7_tellsBeast_42 : decode cX7_tellsBeast 42 = .ok (.iinc 3 1, 3) := by decide +kernel
theorem dX7_tellsBeast_45 : decode cX7_tellsBeast 45 = .ok (.goto (-43), 3) := by decide +kernel
theorem dX7_tellsBeast_48 : decode cX7_tellsBeast 48 = .ok (.iconst 0, 1) := by decide +kernel
theorem dX7_tellsBeast_49 : decode cX7_tellsBeast 49 = .ok (.ireturn, 1) := by decide +kernel
abbrev z_X7_tellsBeast_23 : Z9 := (some .boolean, 1, 0, 0, 2, 22)
def b_X7_tellsBeast_23_c2 (k_X7_tellsBeast_23_c2 : Int → Int → Int → D9 → Option R9) (v1 v2 v3 : Int) (d : D9) : Option R9 := if w32 (d 23 0) ≤ w32 v3 then rt (0 % 2) d else ld d 24 12 v3 (fun t1 => if w32 t1 ≠ w32 23 then k_X7_tellsBeast_23_c2 v1 v2 (v3 + 1) d else ld d 25 12 v3 (fun t2 => if w32 t2 ≠ w32 v1 then k_X7_tellsBeast_23_c2 v1 v2 (v3 + 1) d else cl (m_X7_spans_23 v3 v2 d) (fun r3 d4 => if w32 r3 = 0 then k_X7_tellsBeast_23_c2 v1 v2 (v3 + 1) d4 else rt (1 % 2) d4)))
def m_X7_tellsBeast_23_c2 : Int → Int → Int → D9 → Option R9 := fix9 (fun _ _ _ _ => none) (fun k => b_X7_tellsBeast_23_c2 k) FU
def m_X7_tellsBeast_23 (p1 p2 : Int) (d : D9) : Option R9 := m_X7_tellsBeast_23_c2  p1 p2 0 d
set_option maxRecDepth 100000 in
theorem sb_X7_tellsBeast_23_c2 {G : G9} {X : X9} (C : CX G X cX7_tellsBeast 4 RX7 [] z_X7_tellsBeast_23) (k_X7_tellsBeast_23_c2 : Int → Int → Int → D9 → Option R9) (hk_X7_tellsBeast_23_c2 : ∀ (v1 v2 v3 : Int) (d : D9), SS G X 4 0 0 2 [(0, rf G 23), (1, i9 v1), (2, i9 v2), (3, i9 v3)] [] d (k_X7_tellsBeast_23_c2 v1 v2 v3 d)) : ∀ (v1 v2 v3 : Int) (d : D9), SS G X 4 0 0 2 [(0, rf G 23), (1, i9 v1), (2, i9 v2), (3, i9 v3)] [] d (b_X7_tellsBeast_23_c2 k_X7_tellsBeast_23_c2 v1 v2 v3 d) := by
  intro v1 v2 v3 d
  unfold b_X7_tellsBeast_23_c2
  refine r_iload_n C 3 dX7_tellsBeast_2 rfl rfl ?_
  refine r_aload_n C 0 dX7_tellsBeast_3 rfl rfl ?_
  refine r_getI C dX7_tellsBeast_4 fl_X7_24 la_23 ly_23 rfl ?_
  refine r_icmp_ge C 48 dX7_tellsBeast_7 (by decide) (fun _ => ?_) (fun _ => ?_)
  · refine r_iconst C dX7_tellsBeast_48 ?_
    exact r_zret C dX7_tellsBeast_49 (by decide) (by decide)
  · refine r_aload_n C 0 dX7_tellsBeast_10 rfl rfl ?_
    refine r_getR C 24 dX7_tellsBeast_11 fl_X7_9 la_23 ly_23 rfl rfl ?_
    refine r_iload_n C 3 dX7_tellsBeast_14 rfl rfl ?_
    refine r_iald C dX7_tellsBeast_15 la_24 ly_24 (fun t1 => ?_)
    refine r_bipush C dX7_tellsBeast_16 rfl ?_
    refine r_icmp_ne C 42 dX7_tellsBeast_18 (by decide) (fun _ => ?_) (fun _ => ?_)
    · refine r_iinc C 3 [(3, i9 (v3 + 1)), (0, rf G 23), (1, i9 v1), (2, i9 v2)] dX7_tellsBeast_42 rfl (by decide) rfl ?_
      refine r_goto C 2 dX7_tellsBeast_45 (by decide) ?_
      refine ss_wide (k' := 0) (n' := 0) (by decide) (by decide) ?_
      refine ss_ls [(0, rf G 23), (1, i9 v1), (2, i9 v2), (3, i9 (v3 + 1))] [1, 2, 3, 0] rfl ?_
      exact hk_X7_tellsBeast_23_c2 v1 v2 (v3 + 1) d
    · refine r_aload_n C 0 dX7_tellsBeast_21 rfl rfl ?_
      refine r_getR C 25 dX7_tellsBeast_22 fl_X7_15 la_23 ly_23 rfl rfl ?_
      refine r_iload_n C 3 dX7_tellsBeast_25 rfl rfl ?_
      refine r_iald C dX7_tellsBeast_26 la_25 ly_25 (fun t2 => ?_)
      refine r_iload_n C 1 dX7_tellsBeast_27 rfl rfl ?_
      refine r_icmp_ne C 42 dX7_tellsBeast_28 (by decide) (fun _ => ?_) (fun _ => ?_)
      · refine r_iinc C 3 [(3, i9 (v3 + 1)), (0, rf G 23), (1, i9 v1), (2, i9 v2)] dX7_tellsBeast_42 rfl (by decide) rfl ?_
        refine r_goto C 2 dX7_tellsBeast_45 (by decide) ?_
        refine ss_wide (k' := 0) (n' := 0) (by decide) (by decide) ?_
        refine ss_ls [(0, rf G 23), (1, i9 v1), (2, i9 v2), (3, i9 (v3 + 1))] [1, 2, 3, 0] rfl ?_
        exact hk_X7_tellsBeast_23_c2 v1 v2 (v3 + 1) d
      · refine r_aload_n C 0 dX7_tellsBeast_31 rfl rfl ?_
        refine r_iload_n C 3 dX7_tellsBeast_32 rfl rfl ?_
        refine r_iload_n C 2 dX7_tellsBeast_33 rfl rfl ?_
        refine r_callV C [i9 v2, i9 v3, rf G 23] dX7_tellsBeast_34 (t_X7_spans_23 C.h1 C.h2 v3 v2 d) mw_X7_57 mv_X7_spans la_23 ly_23 rfl (by decide) (by decide) (by decide) rfl rfl (Nat.le_of_ble_eq_true rfl) (fun r3 d4 => ?_)
        show SS G X 4 _ _ 37 [(0, rf G 23), (1, i9 v1), (2, i9 v2), (3, i9 v3)] [i9 r3] d4 _
        refine r_if_eq C (b := 0) 42 dX7_tellsBeast_37 (by decide) (fun _ => ?_) (fun _ => ?_)
        · refine r_iinc C 3 [(3, i9 (v3 + 1)), (0, rf G 23), (1, i9 v1), (2, i9 v2)] dX7_tellsBeast_42 rfl (by decide) rfl ?_
          refine r_goto C 2 dX7_tellsBeast_45 (by decide) ?_
          refine ss_wide (k' := 0) (n' := 0) (by decide) (by decide) ?_
          refine ss_ls [(0, rf G 23), (1, i9 v1), (2, i9 v2), (3, i9 (v3 + 1))] [1, 2, 3, 0] rfl ?_
          exact hk_X7_tellsBeast_23_c2 v1 v2 (v3 + 1) d4
        · refine r_iconst C dX7_tellsBeast_40 ?_
          exact r_zret C dX7_tellsBeast_41 (by decide) (by decide)
theorem s_X7_tellsBeast_23_c2 {G : G9} {X : X9} (C : CX G X cX7_tellsBeast 4 RX7 [] z_X7_tellsBeast_23) : ∀ (v1 v2 v3 : Int) (d : D9), SS G X 4 0 0 2 [(0, rf G 23), (1, i9 v1), (2, i9 v2), (3, i9 v3)] [] d (m_X7_tellsBeast_23_c2  v1 v2 v3 d) :=
  fix9_ind (P := fun k => ∀ (v1 v2 v3 : Int) (d : D9), SS G X 4 0 0 2 [(0, rf G 23), (1, i9 v1), (2, i9 v2), (3, i9 v3)] [] d (k v1 v2 v3 d)) (fun _ _ _ _ => ss_none) (fun k hk => sb_X7_tellsBeast_23_c2 C k hk) FU
set_option maxRecDepth 100000 in
theorem t_X7_tellsBeast_23 {G : G9} {l : Launch} (h1 : va_D (A9 G) (wl G (fun _ _ => 0))) (h2 : l.stackTraces = false) (p1 p2 : Int) (d : D9) : MT G l yX7_tellsBeast cX7_tellsBeast 4 z_X7_tellsBeast_23 [rf G 23, i9 p1, i9 p2] d (m_X7_tellsBeast_23 p1 p2 d) := by
  refine mt_of (own := RX7) (by decide) rfl (Nat.le_of_ble_eq_true rfl) h1 h2 [(0, rf G 23), (1, i9 p1), (2, i9 p2)] rfl (fun X hX C => ?_)
  unfold m_X7_tellsBeast_23
  refine r_iconst C dX7_tellsBeast_0 ?_
  refine r_istore_n C [(3, i9 0), (0, rf G 23), (1, i9 p1), (2, i9 p2)] dX7_tellsBeast_1 rfl (by decide) rfl ?_
  refine ss_wide (k' := 0) (n' := 0) (by decide) (by decide) ?_
  refine ss_ls [(0, rf G 23), (1, i9 p1), (2, i9 p2), (3, i9 0)] [1, 2, 3, 0] rfl ?_
  exact s_X7_tellsBeast_23_c2 C  p1 p2 0 d
theorem dX10_livesAt_0 : decode cX10_livesAt 0 = .ok (.aload_n 0, 1) := by decide +kernel
theorem dX10_livesAt_1 : decode cX10_livesAt 1 = .ok (.getfield 12, 3) := by decide +kernel
theorem dX10_livesAt_4 : decode cX10_livesAt 4 = .ok (.getfield 184, 3) := by decide +kernel
theorem dX10_livesAt_7 : decode cX10_livesAt 7 = .ok (.iload_n 1, 1) := by decide +kernel
theorem dX10_livesAt_8 : decode cX10_livesAt 8 = .ok (.iaload, 1) := by decide +kernel
theorem dX10_livesAt_9 : decode cX10_livesAt 9 = .ok (.iconst 2, 1) := by decide +kernel
theorem dX10_livesAt_10 : decode cX10_livesAt 10 = .ok (.if_icmp .ne 23, 3) := by decide +kernel
theorem dX10_livesAt_13 : decode cX10_livesAt 13 = .ok (.aload_n 0, 1) := by decide +kernel
theorem dX10_livesAt_14 : decode cX10_livesAt 14 = .ok (.getfield 35, 3) := by decide +kernel
theorem dX10_livesAt_17 : decode cX10_livesAt 17 = .ok (.aload_n 0, 1) := by decide +kernel
theorem dX10_livesAt_18 : decode cX10_livesAt 18 = .ok (.getfield 12, 3) := by decide +kernel
theorem dX10_livesAt_21 : decode cX10_livesAt 21 = .ok (.getfield 187, 3) := by decide +kernel
theorem dX10_livesAt_24 : decode cX10_livesAt 24 = .ok (.iload_n 1, 1) := by decide +kernel
theorem dX10_livesAt_25 : decode cX10_livesAt 25 = .ok (.iaload, 1) := by decide +kernel
theorem dX10_livesAt_26 : decode cX10_livesAt 26 = .ok (.iload_n 2, 1) := by decide +kernel
theorem dX10_livesAt_27 : decode cX10_livesAt 27 = .ok (.invokevirtual 190, 3) := by decide +kernel
theorem dX10_livesAt_30 : decode cX10_livesAt 30 = .ok (.ifCond .eq 7, 3) := by decide +kernel
theorem dX10_livesAt_33 : decode cX10_livesAt 33 = .ok (.iconst 1, 1) := by decide +kernel
theorem dX10_livesAt_34 : decode cX10_livesAt 34 = .ok (.goto 4, 3) := by decide +kernel
theorem dX10_livesAt_37 : decode cX10_livesAt 37 = .ok (.iconst 0, 1) := by decide +kernel
theorem dX10_livesAt_38 : decode cX10_livesAt 38 = .ok (.ireturn, 1) := by decide +kernel
abbrev z_X10_livesAt_1 : Z9 := (some .boolean, 1, 0, 0, 3, 45)
def m_X10_livesAt_1 (p1 p2 : Int) (d : D9) : Option R9 := ld d 3 30 p1 (fun t1 => if w32 t1 ≠ w32 2 then rt (1 % 2) d else ld d 5 30 p1 (fun t2 => cl (m_X7_tellsBeast_23 t2 p2 d) (fun r3 d4 => if w32 r3 = 0 then rt (0 % 2) d4 else rt (1 % 2) d4)))
set_option maxRecDepth 100000 in
theorem t_X10_livesAt_1 {G : G9} {l : Launch} (h1 : va_D (A9 G) (wl G (fun _ _ => 0))) (h2 : l.stackTraces = false) (p1 p2 : Int) (d : D9) : MT G l yX10_livesAt cX10_livesAt 3 z_X10_livesAt_1 [rf G 1, i9 p1, i9 p2] d (m_X10_livesAt_1 p1 p2 d) := by
  refine mt_of (own := RX10) (by decide) rfl (Nat.le_of_ble_eq_true rfl) h1 h2 [(0, rf G 1), (1, i9 p1), (2, i9 p2)] rfl (fun X hX C => ?_)
  unfold m_X10_livesAt_1
  refine r_aload_n C 0 dX10_livesAt_0 rfl rfl ?_
  refine r_getR C 2 dX10_livesAt_1 fl_X10_12 la_1 ly_1 rfl rfl ?_
  refine r_getR C 3 dX10_livesAt_4 fl_X10_184 la_2 ly_2 rfl rfl ?_
  refine r_iload_n C 1 dX10_livesAt_7 rfl rfl ?_
  refine r_iald C dX10_livesAt_8 la_3 ly_3 (fun t1 => ?_)
  refine r_iconst C dX10_livesAt_9 ?_
  refine r_icmp_ne C 33 dX10_livesAt_10 (by decide) (fun _ => ?_) (fun _ => ?_)
  · refine r_iconst C dX10_livesAt_33 ?_
    refine r_goto C 38 dX10_livesAt_34 (by decide) ?_
    exact r_zret C dX10_livesAt_38 (by decide) (by decide)
  · refine r_aload_n C 0 dX10_livesAt_13 rfl rfl ?_
    refine r_getR C 23 dX10_livesAt_14 fl_X10_35 la_1 ly_1 rfl rfl ?_
    refine r_aload_n C 0 dX10_livesAt_17 rfl rfl ?_
    refine r_getR C 2 dX10_livesAt_18 fl_X10_12 la_1 ly_1 rfl rfl ?_
    refine r_getR C 5 dX10_livesAt_21 fl_X10_187 la_2 ly_2 rfl rfl ?_
    refine r_iload_n C 1 dX10_livesAt_24 rfl rfl ?_
    refine r_iald C dX10_livesAt_25 la_5 ly_5 (fun t2 => ?_)
    refine r_iload_n C 2 dX10_livesAt_26 rfl rfl ?_
    refine r_callV C [i9 p2, i9 t2, rf G 23] dX10_livesAt_27 (t_X7_tellsBeast_23 C.h1 C.h2 t2 p2 d) mw_X10_190 mv_X7_tellsBeast la_23 ly_23 rfl (by decide) (by decide) (by decide) rfl rfl (Nat.le_of_ble_eq_true rfl) (fun r3 d4 => ?_)
    show SS G X 3 _ _ 30 [(0, rf G 1), (1, i9 p1), (2, i9 p2)] [i9 r3] d4 _
    refine r_if_eq C (b := 0) 37 dX10_livesAt_30 (by decide) (fun _ => ?_) (fun _ => ?_)
    · refine r_iconst C dX10_livesAt_37 ?_
      exact r_zret C dX10_livesAt_38 (by decide) (by decide)
    · refine r_iconst C dX10_livesAt_33 ?_
      refine r_goto C 38 dX10_livesAt_34 (by decide) ?_
      exact r_zret C dX10_livesAt_38 (by decide) (by decide)
theorem dX7_peoplesAt_0 : decode cX7_peoplesAt 0 = .ok (.iconst 0, 1) := by decide +kernel
theorem dX7_peoplesAt_1 : decode cX7_peoplesAt 1 = .ok (.istore_n 2, 1) := by decide +kernel
theorem dX7_peoplesAt_2 : decode cX7_peoplesAt 2 = .ok (.iconst 0, 1) := by decide +kernel
theorem dX7_peoplesAt_3 : decode cX7_peoplesAt 3 = .ok (.istore_n 3, 1) := by decide +kernel
theorem dX7_peoplesAt_4 : decode cX7_peoplesAt 4 = .ok (.iload_n 3, 1) := by decide +kernel
theorem dX7_peoplesAt_5 : decode cX7_peoplesAt 5 = .ok (.aload_n 0, 1) := by decide +kernel
theorem dX7_peoplesAt_6 : decode cX7_peoplesAt 6 = .ok (.getfield 24, 3) := by decide +kernel
theorem dX7_peoplesAt_9 : decode cX7_peoplesAt 9 = .ok (.if_icmp .ge 40, 3) := by decide +kernel
theorem dX7_peoplesAt_12 : decode cX7_peoplesAt 12 = .ok (.aload_n 0, 1) := by decide +kernel
theorem dX7_peoplesAt_13 : decode cX7_peoplesAt 13 = .ok (.getfield 9, 3) := by decide +kernel
theorem dX7_peoplesAt_16 : decode cX7_peoplesAt 16 = .ok (.iload_n 3, 1) := by decide +kernel
theorem dX7_peoplesAt_17 : decode cX7_peoplesAt 17 = .ok (.iaload, 1) := by decide +kernel
theorem dX7_peoplesAt_18 : decode cX7_peoplesAt 18 = .ok (.bipush 24, 2) := by decide +kernel
theorem dX7_peoplesAt_20 : decode cX7_peoplesAt 20 = .ok (.if_icmp .ne 23, 3) := by decide +kernel
theorem dX7_peoplesAt_23 : decode cX7_peoplesAt 23 = .ok (.aload_n 0, 1) := by decide +kernel
theorem dX7_peoplesAt_24 : decode cX7_peoplesAt 24 = .ok (.iload_n 3, 1) := by decide +kernel
theorem dX7_peoplesAt_25 : decode cX7_peoplesAt 25 = .ok (.iload_n 1, 1) := by decide +kernel
theorem dX7_peoplesAt_26 : decode cX7_peoplesAt 26 = .ok (.invokevirtual 57, 3) := by decide +kernel
theorem dX7_peoplesAt_29 : decode cX7_peoplesAt 29 = .ok (.ifCond .eq 14, 3) := by decide +kernel
theorem dX7_peoplesAt_32 : decode cX7_peoplesAt 32 = .ok (.iload_n 2, 1) := by decide +kernel
theorem dX7_peoplesAt_33 : decode cX7_peoplesAt 33 = .ok (.iconst 1, 1) := by decide +kernel
theorem dX7_peoplesAt_34 : decode cX7_peoplesAt 34 = .ok (.aload_n 0, 1) := by decide +kernel
theorem dX7_peoplesAt_35 : decode cX7_peoplesAt 35 = .ok (.getfield 15, 3) := by decide +kernel
theorem dX7_peoplesAt_38 : decode cX7_peoplesAt 38 = .ok (.iload_n 3, 1) := by decide +kernel
theorem dX7_peoplesAt_39 : decode cX7_peoplesAt 39 = .ok (.iaload, 1) := by decide +kernel
theorem dX7_peoplesAt_40 : decode cX7_peoplesAt 40 = .ok (.ishl, 1) := by decide +kernel
theorem dX7_peoplesAt_41 : decode cX7_peoplesAt 41 = .ok (.ior, 1) := by decide +kernel
theorem dX7_peoplesAt_42 : decode cX7_peoplesAt 42 = .ok (.istore_n 2, 1) := by decide +kernel
theorem dX7_peoplesAt_43 : decode cX7_peoplesAt 43 = .ok (.iinc 3 1, 3) := by decide +kernel
theorem dX7_peoplesAt_46 : decode cX7_peoplesAt 46 = .ok (.goto (-42), 3) := by decide +kernel
theorem dX7_peoplesAt_49 : decode cX7_peoplesAt 49 = .ok (.iload_n 2, 1) := by decide +kernel
theorem dX7_peoplesAt_50 : decode cX7_peoplesAt 50 = .ok (.ireturn, 1) := by decide +kernel
abbrev z_X7_peoplesAt_23 : Z9 := (some .int, 1, 0, 0, 2, 22)
def b_X7_peoplesAt_23_c4 (k_X7_peoplesAt_23_c4 : Int → Int → Int → D9 → Option R9) (v1 v2 v3 : Int) (d : D9) : Option R9 := if w32 (d 23 0) ≤ w32 v3 then rt v2 d else ld d 24 12 v3 (fun t1 => if w32 t1 ≠ w32 24 then k_X7_peoplesAt_23_c4 v1 v2 (v3 + 1) d else cl (m_X7_spans_23 v3 v1 d) (fun r2 d3 => if w32 r2 = 0 then k_X7_peoplesAt_23_c4 v1 v2 (v3 + 1) d3 else ld d3 25 12 v3 (fun t4 => lt9v (or9 v2 (shl9 1 t4)) (fun a5 => k_X7_peoplesAt_23_c4 v1 a5 (v3 + 1) d3))))
def m_X7_peoplesAt_23_c4 : Int → Int → Int → D9 → Option R9 := fix9 (fun _ _ _ _ => none) (fun k => b_X7_peoplesAt_23_c4 k) FU
def m_X7_peoplesAt_23 (p1 : Int) (d : D9) : Option R9 := m_X7_peoplesAt_23_c4  p1 0 0 d
set_option maxRecDepth 100000 in
theorem sb_X7_peoplesAt_23_c4 {G : G9} {X : X9} (C : CX G X cX7_peoplesAt 4 RX7 [] z_X7_peoplesAt_23) (k_X7_peoplesAt_23_c4 : Int → Int → Int → D9 → Option R9) (hk_X7_peoplesAt_23_c4 : ∀ (v1 v2 v3 : Int) (d : D9), SS G X 4 0 0 4 [(0, rf G 23), (1, i9 v1), (2, i9 v2), (3, i9 v3)] [] d (k_X7_peoplesAt_23_c4 v1 v2 v3 d)) : ∀ (v1 v2 v3 : Int) (d : D9), SS G X 4 0 0 4 [(0, rf G 23), (1, i9 v1), (2, i9 v2), (3, i9 v3)] [] d (b_X7_peoplesAt_23_c4 k_X7_peoplesAt_23_c4 v1 v2 v3 d) := by
  intro v1 v2 v3 d
  unfold b_X7_peoplesAt_23_c4
  refine r_iload_n C 3 dX7_peoplesAt_4 rfl rfl ?_
  refine r_aload_n C 0 dX7_peoplesAt_5 rfl rfl ?_
  refine r_getI C dX7_peoplesAt_6 fl_X7_24 la_23 ly_23 rfl ?_
  refine r_icmp_ge C 49 dX7_peoplesAt_9 (by decide) (fun _ => ?_) (fun _ => ?_)
  · refine r_iload_n C 2 dX7_peoplesAt_49 rfl rfl ?_
    exact r_iret C dX7_peoplesAt_50 (by decide) (by decide)
  · refine r_aload_n C 0 dX7_peoplesAt_12 rfl rfl ?_
    refine r_getR C 24 dX7_peoplesAt_13 fl_X7_9 la_23 ly_23 rfl rfl ?_
    refine r_iload_n C 3 dX7_peoplesAt_16 rfl rfl ?_
    refine r_iald C dX7_peoplesAt_17 la_24 ly_24 (fun t1 => ?_)
    refine r_bipush C dX7_peoplesAt_18 rfl ?_
    refine r_icmp_ne C 43 dX7_peoplesAt_20 (by decide) (fun _ => ?_) (fun _ => ?_)
    · refine r_iinc C 3 [(3, i9 (v3 + 1)), (0, rf G 23), (1, i9 v1), (2, i9 v2)] dX7_peoplesAt_43 rfl (by decide) rfl ?_
      refine r_goto C 4 dX7_peoplesAt_46 (by decide) ?_
      refine ss_wide (k' := 0) (n' := 0) (by decide) (by decide) ?_
      refine ss_ls [(0, rf G 23), (1, i9 v1), (2, i9 v2), (3, i9 (v3 + 1))] [1, 2, 3, 0] rfl ?_
      exact hk_X7_peoplesAt_23_c4 v1 v2 (v3 + 1) d
    · refine r_aload_n C 0 dX7_peoplesAt_23 rfl rfl ?_
      refine r_iload_n C 3 dX7_peoplesAt_24 rfl rfl ?_
      refine r_iload_n C 1 dX7_peoplesAt_25 rfl rfl ?_
      refine r_callV C [i9 v1, i9 v3, rf G 23] dX7_peoplesAt_26 (t_X7_spans_23 C.h1 C.h2 v3 v1 d) mw_X7_57 mv_X7_spans la_23 ly_23 rfl (by decide) (by decide) (by decide) rfl rfl (Nat.le_of_ble_eq_true rfl) (fun r2 d3 => ?_)
      show SS G X 4 _ _ 29 [(0, rf G 23), (1, i9 v1), (2, i9 v2), (3, i9 v3)] [i9 r2] d3 _
      refine r_if_eq C (b := 0) 43 dX7_peoplesAt_29 (by decide) (fun _ => ?_) (fun _ => ?_)
      · refine r_iinc C 3 [(3, i9 (v3 + 1)), (0, rf G 23), (1, i9 v1), (2, i9 v2)] dX7_peoplesAt_43 rfl (by decide) rfl ?_
        refine r_goto C 4 dX7_peoplesAt_46 (by decide) ?_
        refine ss_wide (k' := 0) (n' := 0) (by decide) (by decide) ?_
        refine ss_ls [(0, rf G 23), (1, i9 v1), (2, i9 v2), (3, i9 (v3 + 1))] [1, 2, 3, 0] rfl ?_
        exact hk_X7_peoplesAt_23_c4 v1 v2 (v3 + 1) d3
      · refine r_iload_n C 2 dX7_peoplesAt_32 rfl rfl ?_
        refine r_iconst C dX7_peoplesAt_33 ?_
        refine r_aload_n C 0 dX7_peoplesAt_34 rfl rfl ?_
        refine r_getR C 25 dX7_peoplesAt_35 fl_X7_15 la_23 ly_23 rfl rfl ?_
        refine r_iload_n C 3 dX7_peoplesAt_38 rfl rfl ?_
        refine r_iald C dX7_peoplesAt_39 la_25 ly_25 (fun t4 => ?_)
        refine r_ishl C dX7_peoplesAt_40 ?_
        refine r_ior C dX7_peoplesAt_41 ?_
        refine ss_lt (fun a5 => ?_)
        refine r_istore_n C [(2, i9 a5), (0, rf G 23), (1, i9 v1), (3, i9 v3)] dX7_peoplesAt_42 rfl (by decide) rfl ?_
        refine r_iinc C 3 [(3, i9 (v3 + 1)), (2, i9 a5), (0, rf G 23), (1, i9 v1)] dX7_peoplesAt_43 rfl (by decide) rfl ?_
        refine r_goto C 4 dX7_peoplesAt_46 (by decide) ?_
        refine ss_wide (k' := 0) (n' := 0) (by decide) (by decide) ?_
        refine ss_ls [(0, rf G 23), (1, i9 v1), (2, i9 a5), (3, i9 (v3 + 1))] [2, 3, 1, 0] rfl ?_
        exact hk_X7_peoplesAt_23_c4 v1 a5 (v3 + 1) d3
theorem s_X7_peoplesAt_23_c4 {G : G9} {X : X9} (C : CX G X cX7_peoplesAt 4 RX7 [] z_X7_peoplesAt_23) : ∀ (v1 v2 v3 : Int) (d : D9), SS G X 4 0 0 4 [(0, rf G 23), (1, i9 v1), (2, i9 v2), (3, i9 v3)] [] d (m_X7_peoplesAt_23_c4  v1 v2 v3 d) :=
  fix9_ind (P := fun k => ∀ (v1 v2 v3 : Int) (d : D9), SS G X 4 0 0 4 [(0, rf G 23), (1, i9 v1), (2, i9 v2), (3, i9 v3)] [] d (k v1 v2 v3 d)) (fun _ _ _ _ => ss_none) (fun k hk => sb_X7_peoplesAt_23_c4 C k hk) FU
set_option maxRecDepth 100000 in
theorem t_X7_peoplesAt_23 {G : G9} {l : Launch} (h1 : va_D (A9 G) (wl G (fun _ _ => 0))) (h2 : l.stackTraces = false) (p1 : Int) (d : D9) : MT G l yX7_peoplesAt cX7_peoplesAt 4 z_X7_peoplesAt_23 [rf G 23, i9 p1] d (m_X7_peoplesAt_23 p1 d) := by
  refine mt_of (own := RX7) (by decide) rfl (Nat.le_of_ble_eq_true rfl) h1 h2 [(0, rf G 23), (1, i9 p1)] rfl (fun X hX C => ?_)
  unfold m_X7_peoplesAt_23
  refine r_iconst C dX7_peoplesAt_0 ?_
  refine r_istore_n C [(2, i9 0), (0, rf G 23), (1, i9 p1)] dX7_peoplesAt_1 rfl (by decide) rfl ?_
  refine r_iconst C dX7_peoplesAt_2 ?_
  refine r_istore_n C [(3, i9 0), (2, i9 0), (0, rf G 23), (1, i9 p1)] dX7_peoplesAt_3 rfl (by decide) rfl ?_
  refine ss_wide (k' := 0) (n' := 0) (by decide) (by decide) ?_
  refine ss_ls [(0, rf G 23), (1, i9 p1), (2, i9 0), (3, i9 0)] [2, 3, 1, 0] rfl ?_
  exact s_X7_peoplesAt_23_c4 C  p1 0 0 d
theorem dX10_aloneOf_0 : decode cX10_aloneOf 0 = .ok (.aload_n 0, 1) := by decide +kernel
theorem dX10_aloneOf_1 : decode cX10_aloneOf 1 = .ok (.iload_n 1, 1) := by decide +kernel
theorem dX10_aloneOf_2 : decode cX10_aloneOf 2 = .ok (.invokevirtual 89, 3) := by decide +kernel
theorem dX10_aloneOf_5 : decode cX10_aloneOf 5 = .ok (.istore_n 3, 1) := by decide +kernel
theorem dX10_aloneOf_6 : decode cX10_aloneOf 6 = .ok (.iconst 0, 1) := by decide +kernel
theorem dX10_aloneOf_7 : decode cX10_aloneOf 7 = .ok (.istore 4, 2) := by decide +kernel
theorem dX10_aloneOf_9 : decode cX10_aloneOf 9 = .ok (.aload_n 0, 1) := by decide +kernel
theorem dX10_aloneOf_10 : decode cX10_aloneOf 10 = .ok (.iload_n 1, 1) := by decide +kernel
theorem dX10_aloneOf_11 : decode cX10_aloneOf 11 = .ok (.invokevirtual 86, 3) := by decide +kernel
theorem dX10_aloneOf_14 : decode cX10_aloneOf 14 = .ok (.istore 5, 2) := by decide +kernel
theorem dX10_aloneOf_16 : decode cX10_aloneOf 16 = .ok (.iload 5, 2) := by decide +kernel
theorem dX10_aloneOf_18 : decode cX10_aloneOf 18 = .ok (.iload_n 3, 1) := by decide +kernel
theorem dX10_aloneOf_19 : decode cX10_aloneOf 19 = .ok (.if_icmp .gt 37, 3) := by decide +kernel
theorem dX10_aloneOf_22 : decode cX10_aloneOf 22 = .ok (.aload_n 0, 1) := by decide +kernel
theorem dX10_aloneOf_23 : decode cX10_aloneOf 23 = .ok (.iload_n 1, 1) := by decide +kernel
theorem dX10_aloneOf_24 : decode cX10_aloneOf 24 = .ok (.iload 5, 2) := by decide +kernel
theorem dX10_aloneOf_26 : decode cX10_aloneOf 26 = .ok (.invokevirtual 193, 3) := by decide +kernel
theorem dX10_aloneOf_29 : decode cX10_aloneOf 29 = .ok (.ifCond .eq 21, 3) := by decide +kernel
theorem dX10_aloneOf_32 : decode cX10_aloneOf 32 = .ok (.aload_n 0, 1) := by decide +kernel
theorem dX10_aloneOf_33 : decode cX10_aloneOf 33 = .ok (.getfield 35, 3) := by decide +kernel
theorem dX10_aloneOf_36 : decode cX10_aloneOf 36 = .ok (.iload 5, 2) := by decide +kernel
theorem dX10_aloneOf_38 : decode cX10_aloneOf 38 = .ok (.invokevirtual 196, 3) := by decide +kernel
theorem dX10_aloneOf_41 : decode cX10_aloneOf 41 = .ok (.iconst 1, 1) := by decide +kernel
theorem dX10_aloneOf_42 : decode cX10_aloneOf 42 = .ok (.iload_n 2, 1) := by decide +kernel
theorem dX10_aloneOf_43 : decode cX10_aloneOf 43 = .ok (.ishl, 1) := by decide +kernel
theorem dX10_aloneOf_44 : decode cX10_aloneOf 44 = .ok (.if_icmp .ne 6, 3) := by decide +kernel
theorem dX10_aloneOf_47 : decode cX10_aloneOf 47 = .ok (.iinc 4 1, 3) := by decide +kernel
theorem dX10_aloneOf_50 : decode cX10_aloneOf 50 = .ok (.iinc 5 1, 3) := by decide +kernel
theorem dX10_aloneOf_53 : decode cX10_aloneOf 53 = .ok (.goto (-37), 3) := by decide +kernel
theorem dX10_aloneOf_56 : decode cX10_aloneOf 56 = .ok (.iload 4, 2) := by decide +kernel
theorem dX10_aloneOf_58 : decode cX10_aloneOf 58 = .ok (.ireturn, 1) := by decide +kernel
abbrev z_X10_aloneOf_1 : Z9 := (some .int, 1, 0, 0, 5, 105)
def b_X10_aloneOf_1_c16 (k_X10_aloneOf_1_c16 : Int → Int → Int → Int → Int → D9 → Option R9) (v1 v2 v3 v4 v5 : Int) (d : D9) : Option R9 := if w32 v3 < w32 v5 then rt v4 d else cl (m_X10_livesAt_1 v1 v5 d) (fun r1 d2 => if w32 r1 = 0 then k_X10_aloneOf_1_c16 v1 v2 v3 v4 (v5 + 1) d2 else cl (m_X7_peoplesAt_23 v5 d2) (fun r3 d4 => if w32 r3 ≠ w32 (shl9 1 v2) then k_X10_aloneOf_1_c16 v1 v2 v3 v4 (v5 + 1) d4 else k_X10_aloneOf_1_c16 v1 v2 v3 (v4 + 1) (v5 + 1) d4))
def m_X10_aloneOf_1_c16 : Int → Int → Int → Int → Int → D9 → Option R9 := fix9 (fun _ _ _ _ _ _ => none) (fun k => b_X10_aloneOf_1_c16 k) FU
def m_X10_aloneOf_1 (p1 p2 : Int) (d : D9) : Option R9 := cl (m_X10_mostOf_1 p1 d) (fun r1 d2 => cl (m_X10_leastOf_1 p1 d2) (fun r3 d4 => m_X10_aloneOf_1_c16  p1 p2 r1 0 r3 d4))
set_option maxRecDepth 100000 in
theorem sb_X10_aloneOf_1_c16 {G : G9} {X : X9} (C : CX G X cX10_aloneOf 6 RX10 [] z_X10_aloneOf_1) (k_X10_aloneOf_1_c16 : Int → Int → Int → Int → Int → D9 → Option R9) (hk_X10_aloneOf_1_c16 : ∀ (v1 v2 v3 v4 v5 : Int) (d : D9), SS G X 6 0 0 16 [(0, rf G 1), (1, i9 v1), (2, i9 v2), (3, i9 v3), (4, i9 v4), (5, i9 v5)] [] d (k_X10_aloneOf_1_c16 v1 v2 v3 v4 v5 d)) : ∀ (v1 v2 v3 v4 v5 : Int) (d : D9), SS G X 6 0 0 16 [(0, rf G 1), (1, i9 v1), (2, i9 v2), (3, i9 v3), (4, i9 v4), (5, i9 v5)] [] d (b_X10_aloneOf_1_c16 k_X10_aloneOf_1_c16 v1 v2 v3 v4 v5 d) := by
  intro v1 v2 v3 v4 v5 d
  unfold b_X10_aloneOf_1_c16
  refine r_iload C 5 dX10_aloneOf_16 rfl ?_
  refine r_iload_n C 3 dX10_aloneOf_18 rfl rfl ?_
  refine r_icmp_gt C 56 dX10_aloneOf_19 (by decide) (fun _ => ?_) (fun _ => ?_)
  · refine r_iload C 4 dX10_aloneOf_56 rfl ?_
    exact r_iret C dX10_aloneOf_58 (by decide) (by decide)
  · refine r_aload_n C 0 dX10_aloneOf_22 rfl rfl ?_
    refine r_iload_n C 1 dX10_aloneOf_23 rfl rfl ?_
    refine r_iload C 5 dX10_aloneOf_24 rfl ?_
    refine r_callV C [i9 v5, i9 v1, rf G 1] dX10_aloneOf_26 (t_X10_livesAt_1 C.h1 C.h2 v1 v5 d) mw_X10_193 mv_X10_livesAt la_1 ly_1 rfl (by decide) (by decide) (by decide) rfl rfl (Nat.le_of_ble_eq_true rfl) (fun r1 d2 => ?_)
    show SS G X 6 _ _ 29 [(0, rf G 1), (1, i9 v1), (2, i9 v2), (3, i9 v3), (4, i9 v4), (5, i9 v5)] [i9 r1] d2 _
    refine r_if_eq C (b := 0) 50 dX10_aloneOf_29 (by decide) (fun _ => ?_) (fun _ => ?_)
    · refine r_iinc C 5 [(5, i9 (v5 + 1)), (0, rf G 1), (1, i9 v1), (2, i9 v2), (3, i9 v3), (4, i9 v4)] dX10_aloneOf_50 rfl (by decide) rfl ?_
      refine r_goto C 16 dX10_aloneOf_53 (by decide) ?_
      refine ss_wide (k' := 0) (n' := 0) (by decide) (by decide) ?_
      refine ss_ls [(0, rf G 1), (1, i9 v1), (2, i9 v2), (3, i9 v3), (4, i9 v4), (5, i9 (v5 + 1))] [1, 2, 3, 4, 5, 0] rfl ?_
      exact hk_X10_aloneOf_1_c16 v1 v2 v3 v4 (v5 + 1) d2
    · refine r_aload_n C 0 dX10_aloneOf_32 rfl rfl ?_
      refine r_getR C 23 dX10_aloneOf_33 fl_X10_35 la_1 ly_1 rfl rfl ?_
      refine r_iload C 5 dX10_aloneOf_36 rfl ?_
      refine r_callV C [i9 v5, rf G 23] dX10_aloneOf_38 (t_X7_peoplesAt_23 C.h1 C.h2 v5 d2) mw_X10_196 mv_X7_peoplesAt la_23 ly_23 rfl (by decide) (by decide) (by decide) rfl rfl (Nat.le_of_ble_eq_true rfl) (fun r3 d4 => ?_)
      show SS G X 6 _ _ 41 [(0, rf G 1), (1, i9 v1), (2, i9 v2), (3, i9 v3), (4, i9 v4), (5, i9 v5)] [i9 r3] d4 _
      refine r_iconst C dX10_aloneOf_41 ?_
      refine r_iload_n C 2 dX10_aloneOf_42 rfl rfl ?_
      refine r_ishl C dX10_aloneOf_43 ?_
      refine r_icmp_ne C 50 dX10_aloneOf_44 (by decide) (fun _ => ?_) (fun _ => ?_)
      · refine r_iinc C 5 [(5, i9 (v5 + 1)), (0, rf G 1), (1, i9 v1), (2, i9 v2), (3, i9 v3), (4, i9 v4)] dX10_aloneOf_50 rfl (by decide) rfl ?_
        refine r_goto C 16 dX10_aloneOf_53 (by decide) ?_
        refine ss_wide (k' := 0) (n' := 0) (by decide) (by decide) ?_
        refine ss_ls [(0, rf G 1), (1, i9 v1), (2, i9 v2), (3, i9 v3), (4, i9 v4), (5, i9 (v5 + 1))] [1, 2, 3, 4, 5, 0] rfl ?_
        exact hk_X10_aloneOf_1_c16 v1 v2 v3 v4 (v5 + 1) d4
      · refine r_iinc C 4 [(4, i9 (v4 + 1)), (0, rf G 1), (1, i9 v1), (2, i9 v2), (3, i9 v3), (5, i9 v5)] dX10_aloneOf_47 rfl (by decide) rfl ?_
        refine r_iinc C 5 [(5, i9 (v5 + 1)), (4, i9 (v4 + 1)), (0, rf G 1), (1, i9 v1), (2, i9 v2), (3, i9 v3)] dX10_aloneOf_50 rfl (by decide) rfl ?_
        refine r_goto C 16 dX10_aloneOf_53 (by decide) ?_
        refine ss_wide (k' := 0) (n' := 0) (by decide) (by decide) ?_
        refine ss_ls [(0, rf G 1), (1, i9 v1), (2, i9 v2), (3, i9 v3), (4, i9 (v4 + 1)), (5, i9 (v5 + 1))] [2, 3, 4, 5, 1, 0] rfl ?_
        exact hk_X10_aloneOf_1_c16 v1 v2 v3 (v4 + 1) (v5 + 1) d4
theorem s_X10_aloneOf_1_c16 {G : G9} {X : X9} (C : CX G X cX10_aloneOf 6 RX10 [] z_X10_aloneOf_1) : ∀ (v1 v2 v3 v4 v5 : Int) (d : D9), SS G X 6 0 0 16 [(0, rf G 1), (1, i9 v1), (2, i9 v2), (3, i9 v3), (4, i9 v4), (5, i9 v5)] [] d (m_X10_aloneOf_1_c16  v1 v2 v3 v4 v5 d) :=
  fix9_ind (P := fun k => ∀ (v1 v2 v3 v4 v5 : Int) (d : D9), SS G X 6 0 0 16 [(0, rf G 1), (1, i9 v1), (2, i9 v2), (3, i9 v3), (4, i9 v4), (5, i9 v5)] [] d (k v1 v2 v3 v4 v5 d)) (fun _ _ _ _ _ _ => ss_none) (fun k hk => sb_X10_aloneOf_1_c16 C k hk) FU
set_option maxRecDepth 100000 in
theorem t_X10_aloneOf_1 {G : G9} {l : Launch} (h1 : va_D (A9 G) (wl G (fun _ _ => 0))) (h2 : l.stackTraces = false) (p1 p2 : Int) (d : D9) : MT G l yX10_aloneOf cX10_aloneOf 6 z_X10_aloneOf_1 [rf G 1, i9 p1, i9 p2] d (m_X10_aloneOf_1 p1 p2 d) := by
  refine mt_of (own := RX10) (by decide) rfl (Nat.le_of_ble_eq_true rfl) h1 h2 [(0, rf G 1), (1, i9 p1), (2, i9 p2)] rfl (fun X hX C => ?_)
  unfold m_X10_aloneOf_1
  refine r_aload_n C 0 dX10_aloneOf_0 rfl rfl ?_
  refine r_iload_n C 1 dX10_aloneOf_1 rfl rfl ?_
  refine r_callV C [i9 p1, rf G 1] dX10_aloneOf_2 (t_X10_mostOf_1 C.h1 C.h2 p1 d) mw_X10_89 mv_X10_mostOf la_1 ly_1 rfl (by decide) (by decide) (by decide) rfl rfl (Nat.le_of_ble_eq_true rfl) (fun r1 d2 => ?_)
  show SS G X 6 _ _ 5 [(0, rf G 1), (1, i9 p1), (2, i9 p2)] [i9 r1] d2 _
  refine r_istore_n C [(3, i9 r1), (0, rf G 1), (1, i9 p1), (2, i9 p2)] dX10_aloneOf_5 rfl (by decide) rfl ?_
  refine r_iconst C dX10_aloneOf_6 ?_
  refine r_istore C [(4, i9 0), (3, i9 r1), (0, rf G 1), (1, i9 p1), (2, i9 p2)] dX10_aloneOf_7 (by decide) rfl ?_
  refine r_aload_n C 2 dX10_aloneOf_9 rfl rfl ?_
  refine r_iload_n C 3 dX10_aloneOf_10 rfl rfl ?_
  refine r_callV C [i9 p1, rf G 1] dX10_aloneOf_11 (t_X10_leastOf_1 C.h1 C.h2 p1 d2) mw_X10_86 mv_X10_leastOf la_1 ly_1 rfl (by decide) (by decide) (by decide) rfl rfl (Nat.le_of_ble_eq_true rfl) (fun r3 d4 => ?_)
  show SS G X 6 _ _ 14 [(4, i9 0), (3, i9 r1), (0, rf G 1), (1, i9 p1), (2, i9 p2)] [i9 r3] d4 _
  refine r_istore C [(5, i9 r3), (4, i9 0), (3, i9 r1), (0, rf G 1), (1, i9 p1), (2, i9 p2)] dX10_aloneOf_14 (by decide) rfl ?_
  refine ss_wide (k' := 0) (n' := 0) (by decide) (by decide) ?_
  refine ss_ls [(0, rf G 1), (1, i9 p1), (2, i9 p2), (3, i9 r1), (4, i9 0), (5, i9 r3)] [3, 4, 5, 2, 1, 0] rfl ?_
  exact s_X10_aloneOf_1_c16 C  p1 p2 r1 0 r3 d4
theorem dX11_alone_0 : decode cX11_alone 0 = .ok (.aload_n 0, 1) := by decide +kernel
theorem dX11_alone_1 : decode cX11_alone 1 = .ok (.iload_n 1, 1) := by decide +kernel
theorem dX11_alone_2 : decode cX11_alone 2 = .ok (.invokevirtual 103, 3) := by decide +kernel
theorem dX11_alone_5 : decode cX11_alone 5 = .ok (.iload_n 2, 1) := by decide +kernel
theorem dX11_alone_6 : decode cX11_alone 6 = .ok (.iconst 0, 1) := by decide +kernel
theorem dX11_alone_7 : decode cX11_alone 7 = .ok (.iconst 5, 1) := by decide +kernel
theorem dX11_alone_8 : decode cX11_alone 8 = .ok (.invokestatic 73, 3) := by decide +kernel
theorem dX11_alone_11 : decode cX11_alone 11 = .ok (.aload_n 0, 1) := by decide +kernel
theorem dX11_alone_12 : decode cX11_alone 12 = .ok (.getfield 10, 3) := by decide +kernel
theorem dX11_alone_15 : decode cX11_alone 15 = .ok (.iload_n 1, 1) := by decide +kernel
theorem dX11_alone_16 : decode cX11_alone 16 = .ok (.iload_n 2, 1) := by decide +kernel
theorem dX11_alone_17 : decode cX11_alone 17 = .ok (.invokevirtual 369, 3) := by decide +kernel
theorem dX11_alone_20 : decode cX11_alone 20 = .ok (.ireturn, 1) := by decide +kernel
abbrev z_X11_alone_0 : Z9 := (some .int, 1, 2, 12, 7, 130)
def m_X11_alone_0 (p1 p2 : Int) (d : D9) : Option R9 := cl (m_X11_askPaint_0 p1 d) (fun r1 d2 => cl (m_X11_askWithin p2 0 5 d2) (fun r3 d4 => cl (m_X10_aloneOf_1 p1 p2 d4) (fun r5 d6 => rt r5 d6)))
set_option maxRecDepth 100000 in
theorem t_X11_alone_0 {G : G9} {l : Launch} (h1 : va_D (A9 G) (wl G (fun _ _ => 0))) (h2 : l.stackTraces = false) (p1 p2 : Int) (d : D9) : MT G l yX11_alone cX11_alone 3 z_X11_alone_0 [rf G 0, i9 p1, i9 p2] d (m_X11_alone_0 p1 p2 d) := by
  refine mt_of (own := RX11) (by decide) rfl (Nat.le_of_ble_eq_true rfl) h1 h2 [(0, rf G 0), (1, i9 p1), (2, i9 p2)] rfl (fun X hX C => ?_)
  unfold m_X11_alone_0
  refine r_aload_n C 0 dX11_alone_0 rfl rfl ?_
  refine r_iload_n C 1 dX11_alone_1 rfl rfl ?_
  refine r_callV C [i9 p1, rf G 0] dX11_alone_2 (t_X11_askPaint_0 C.h1 C.h2 p1 d) mw_X11_103 mv_X11_askPaint la_0 ly_0 rfl (by decide) (by decide) (by decide) rfl rfl (Nat.le_of_ble_eq_true rfl) (fun r1 d2 => ?_)
  show SS G X 3 _ _ 5 [(0, rf G 0), (1, i9 p1), (2, i9 p2)] [] d2 _
  refine r_iload_n C 2 dX11_alone_5 rfl rfl ?_
  refine r_iconst C dX11_alone_6 ?_
  refine r_iconst C dX11_alone_7 ?_
  refine r_callS C [i9 5, i9 0, i9 p2] dX11_alone_8 (t_X11_askWithin C.h1 C.h2 p2 0 5 d2) mw_X11_73 ms_X11_askWithin (by decide) (by decide) (by decide) rfl rfl (Nat.le_of_ble_eq_true rfl) (fun r3 d4 => ?_)
  show SS G X 3 _ _ 11 [(0, rf G 0), (1, i9 p1), (2, i9 p2)] [] d4 _
  refine r_aload_n C 0 dX11_alone_11 rfl rfl ?_
  refine r_getR C 1 dX11_alone_12 fl_X11_10 la_0 ly_0 rfl rfl ?_
  refine r_iload_n C 1 dX11_alone_15 rfl rfl ?_
  refine r_iload_n C 2 dX11_alone_16 rfl rfl ?_
  refine r_callV C [i9 p2, i9 p1, rf G 1] dX11_alone_17 (t_X10_aloneOf_1 C.h1 C.h2 p1 p2 d4) mw_X11_369 mv_X10_aloneOf la_1 ly_1 rfl (by decide) (by decide) (by decide) rfl rfl (Nat.le_of_ble_eq_true rfl) (fun r5 d6 => ?_)
  show SS G X 3 _ _ 20 [(0, rf G 0), (1, i9 p1), (2, i9 p2)] [i9 r5] d6 _
  exact r_iret C dX11_alone_20 (by decide) (by decide)
theorem dX6_touches_0 : decode cX6_touches 0 = .ok (.aload_n 0, 1) := by decide +kernel
theorem dX6_touches_1 : decode cX6_touches 1 = .ok (.getfield 15, 3) := by decide +kernel
theorem dX6_touches_4 : decode cX6_touches 4 = .ok (.iload_n 1, 1) := by decide +kernel
theorem dX6_touches_5 : decode cX6_touches 5 = .ok (.iaload, 1) := by decide +kernel
theorem dX6_touches_6 : decode cX6_touches 6 = .ok (.ifCond .eq 7, 3) := by decide +kernel
theorem dX6_touches_9 : decode cX6_touches 9 = .ok (.iconst 1, 1) := by decide +kernel
theorem dX6_touches_10 : decode cX6_touches 10 = .ok (.goto 4, 3) := by decide +kernel
theorem dX6_touches_13 : decode cX6_touches 13 = .ok (.iconst 0, 1) := by decide +kernel
theorem dX6_touches_14 : decode cX6_touches 14 = .ok (.ireturn, 1) := by decide +kernel
abbrev z_X6_touches_9 : Z9 := (some .boolean, 1, 0, 0, 1, 0)
def m_X6_touches_9 (p1 : Int) (d : D9) : Option R9 := ld d 11 30 p1 (fun t1 => if w32 t1 = 0 then rt (0 % 2) d else rt (1 % 2) d)
set_option maxRecDepth 100000 in
theorem t_X6_touches_9 {G : G9} {l : Launch} (h1 : va_D (A9 G) (wl G (fun _ _ => 0))) (h2 : l.stackTraces = false) (p1 : Int) (d : D9) : MT G l yX6_touches cX6_touches 2 z_X6_touches_9 [rf G 9, i9 p1] d (m_X6_touches_9 p1 d) := by
  refine mt_of (own := RX6) (by decide) rfl (Nat.le_of_ble_eq_true rfl) h1 h2 [(0, rf G 9), (1, i9 p1)] rfl (fun X hX C => ?_)
  unfold m_X6_touches_9
  refine r_aload_n C 0 dX6_touches_0 rfl rfl ?_
  refine r_getR C 11 dX6_touches_1 fl_X6_15 la_9 ly_9 rfl rfl ?_
  refine r_iload_n C 1 dX6_touches_4 rfl rfl ?_
  refine r_iald C dX6_touches_5 la_11 ly_11 (fun t1 => ?_)
  refine r_if_eq C (b := 0) 13 dX6_touches_6 (by decide) (fun _ => ?_) (fun _ => ?_)
  · refine r_iconst C dX6_touches_13 ?_
    exact r_zret C dX6_touches_14 (by decide) (by decide)
  · refine r_iconst C dX6_touches_9 ?_
    refine r_goto C 14 dX6_touches_10 (by decide) ?_
    exact r_zret C dX6_touches_14 (by decide) (by decide)
theorem dX5_findChoices_0 : decode cX5_findChoices 0 = .ok (.iconst 0, 1) := by decide +kernel
theorem dX5_findChoices_1 : decode cX5_findChoices 1 = .ok (.istore_n 2, 1) := by decide +kernel
theorem dX5_findChoices_2 : decode cX5_findChoices 2 = .ok (.iconst 0, 1) := by decide +kernel
theorem dX5_findChoices_3 : decode cX5_findChoices 3 = .ok (.istore_n 3, 1) := by decide +kernel
theorem dX5_findChoices_4 : decode cX5_findChoices 4 = .ok (.iload_n 3, 1) := by decide +kernel
theorem dX5_findChoices_5 : decode cX5_findChoices 5 = .ok (.aload_n 1, 1) := by decide +kernel
theorem dX5_findChoices_6 : decode cX5_findChoices 6 = .ok (.getfield 58, 3) := by decide +kernel
theorem dX5_findChoices_9 : decode cX5_findChoices 9 = .ok (.if_icmp .ge 42, 3) := by decide +kernel
theorem dX5_findChoices_12 : decode cX5_findChoices 12 = .ok (.iload_n 2, 1) := by decide +kernel
theorem dX5_findChoices_13 : decode cX5_findChoices 13 = .ok (.bipush 12, 2) := by decide +kernel
theorem dX5_findChoices_15 : decode cX5_findChoices 15 = .ok (.if_icmp .ge 36, 3) := by decide +kernel
theorem dX5_findChoices_18 : decode cX5_findChoices 18 = .ok (.aload_n 1, 1) := by decide +kernel
theorem dX5_findChoices_19 : decode cX5_findChoices 19 = .ok (.getfield 61, 3) := by decide +kernel
theorem dX5_findChoices_22 : decode cX5_findChoices 22 = .ok (.iload_n 3, 1) := by decide +kernel
theorem dX5_findChoices_23 : decode cX5_findChoices 23 = .ok (.iaload, 1) := by decide +kernel
theorem dX5_findChoices_24 : decode cX5_findChoices 24 = .ok (.ifCond .ne 21, 3) := by decide +kernel
theorem dX5_findChoices_27 : decode cX5_findChoices 27 = .ok (.aload_n 1, 1) := by decide +kernel
theorem dX5_findChoices_28 : decode cX5_findChoices 28 = .ok (.iload_n 3, 1) := by decide +kernel
theorem dX5_findChoices_29 : decode cX5_findChoices 29 = .ok (.invokevirtual 64, 3) := by decide +kernel
theorem dX5_findChoices_32 : decode cX5_findChoices 32 = .ok (.ifCond .eq 13, 3) := by decide +kernel
theorem dX5_findChoices_35 : decode cX5_findChoices 35 = .ok (.aload_n 0, 1) := by decide +kernel
theorem dX5_findChoices_36 : decode cX5_findChoices 36 = .ok (.getfield 15, 3) := by decide +kernel
theorem dX5_findChoices_39 : decode cX5_findChoices 39 = .ok (.iload_n 2, 1) := by decide +kernel
theorem dX5_findChoices_40 : decode cX5_findChoices 40 = .ok (.iload_n 3, 1) := by decide +kernel
theorem dX5_findChoices_41 : decode cX5_findChoices 41 = .ok (.iastore, 1) := by decide +kernel
theorem dX5_findChoices_42 : decode cX5_findChoices 42 = .ok (.iinc 2 1, 3) := by decide +kernel
theorem dX5_findChoices_45 : decode cX5_findChoices 45 = .ok (.iinc 3 1, 3) := by decide +kernel
theorem dX5_findChoices_48 : decode cX5_findChoices 48 = .ok (.goto (-44), 3) := by decide +kernel
theorem dX5_findChoices_51 : decode cX5_findChoices 51 = .ok (.iload_n 2, 1) := by decide +kernel
theorem dX5_findChoices_52 : decode cX5_findChoices 52 = .ok (.ireturn, 1) := by decide +kernel
abbrev z_X5_findChoices_58_9 : Z9 := (some .int, 1, 0, 0, 2, 21)
def b_X5_findChoices_58_9_c4 (k_X5_findChoices_58_9_c4 : Int → Int → D9 → Option R9) (v2 v3 : Int) (d : D9) : Option R9 := if w32 (d 9 0) ≤ w32 v3 then rt v2 d else if w32 12 ≤ w32 v2 then rt v2 d else ld d 14 30 v3 (fun t1 => if w32 t1 ≠ 0 then k_X5_findChoices_58_9_c4 v2 (v3 + 1) d else cl (m_X6_touches_9 v3 d) (fun r2 d3 => if w32 r2 = 0 then k_X5_findChoices_58_9_c4 v2 (v3 + 1) d3 else sd d3 60 12 v2 v3 (fun d4 => k_X5_findChoices_58_9_c4 (v2 + 1) (v3 + 1) d4)))
def m_X5_findChoices_58_9_c4 : Int → Int → D9 → Option R9 := fix9 (fun _ _ _ => none) (fun k => b_X5_findChoices_58_9_c4 k) FU
def m_X5_findChoices_58_9 (d : D9) : Option R9 := m_X5_findChoices_58_9_c4  0 0 d
set_option maxRecDepth 100000 in
theorem sb_X5_findChoices_58_9_c4 {G : G9} {X : X9} (C : CX G X cX5_findChoices 4 RX5 [] z_X5_findChoices_58_9) (k_X5_findChoices_58_9_c4 : Int → Int → D9 → Option R9) (hk_X5_findChoices_58_9_c4 : ∀ (v2 v3 : Int) (d : D9), SS G X 4 0 0 4 [(0, rf G 58), (1, rf G 9), (2, i9 v2), (3, i9 v3)] [] d (k_X5_findChoices_58_9_c4 v2 v3 d)) : ∀ (v2 v3 : Int) (d : D9), SS G X 4 0 0 4 [(0, rf G 58), (1, rf G 9), (2, i9 v2), (3, i9 v3)] [] d (b_X5_findChoices_58_9_c4 k_X5_findChoices_58_9_c4 v2 v3 d) := by
  intro v2 v3 d
  unfold b_X5_findChoices_58_9_c4
  refine r_iload_n C 3 dX5_findChoices_4 rfl rfl ?_
  refine r_aload_n C 1 dX5_findChoices_5 rfl rfl ?_
  refine r_getI C dX5_findChoices_6 fl_X5_58 la_9 ly_9 rfl ?_
  refine r_icmp_ge C 51 dX5_findChoices_9 (by decide) (fun _ => ?_) (fun _ => ?_)
  · refine r_iload_n C 2 dX5_findChoices_51 rfl rfl ?_
    exact r_iret C dX5_findChoices_52 (by decide) (by decide)
  · refine r_iload_n C 2 dX5_findChoices_12 rfl rfl ?_
    refine r_bipush C dX5_findChoices_13 rfl ?_
    refine r_icmp_ge C 51 dX5_findChoices_15 (by decide) (fun _ => ?_) (fun _ => ?_)
    · refine r_iload_n C 2 dX5_findChoices_51 rfl rfl ?_
      exact r_iret C dX5_findChoices_52 (by decide) (by decide)
    · refine r_aload_n C 1 dX5_findChoices_18 rfl rfl ?_
      refine r_getR C 14 dX5_findChoices_19 fl_X5_61 la_9 ly_9 rfl rfl ?_
      refine r_iload_n C 3 dX5_findChoices_22 rfl rfl ?_
      refine r_iald C dX5_findChoices_23 la_14 ly_14 (fun t1 => ?_)
      refine r_if_ne C (b := 0) 45 dX5_findChoices_24 (by decide) (fun _ => ?_) (fun _ => ?_)
      · refine r_iinc C 3 [(3, i9 (v3 + 1)), (0, rf G 58), (1, rf G 9), (2, i9 v2)] dX5_findChoices_45 rfl (by decide) rfl ?_
        refine r_goto C 4 dX5_findChoices_48 (by decide) ?_
        refine ss_wide (k' := 0) (n' := 0) (by decide) (by decide) ?_
        refine ss_ls [(0, rf G 58), (1, rf G 9), (2, i9 v2), (3, i9 (v3 + 1))] [1, 2, 3, 0] rfl ?_
        exact hk_X5_findChoices_58_9_c4 v2 (v3 + 1) d
      · refine r_aload_n C 1 dX5_findChoices_27 rfl rfl ?_
        refine r_iload_n C 3 dX5_findChoices_28 rfl rfl ?_
        refine r_callV C [i9 v3, rf G 9] dX5_findChoices_29 (t_X6_touches_9 C.h1 C.h2 v3 d) mw_X5_64 mv_X6_touches la_9 ly_9 rfl (by decide) (by decide) (by decide) rfl rfl (Nat.le_of_ble_eq_true rfl) (fun r2 d3 => ?_)
        show SS G X 4 _ _ 32 [(0, rf G 58), (1, rf G 9), (2, i9 v2), (3, i9 v3)] [i9 r2] d3 _
        refine r_if_eq C (b := 0) 45 dX5_findChoices_32 (by decide) (fun _ => ?_) (fun _ => ?_)
        · refine r_iinc C 3 [(3, i9 (v3 + 1)), (0, rf G 58), (1, rf G 9), (2, i9 v2)] dX5_findChoices_45 rfl (by decide) rfl ?_
          refine r_goto C 4 dX5_findChoices_48 (by decide) ?_
          refine ss_wide (k' := 0) (n' := 0) (by decide) (by decide) ?_
          refine ss_ls [(0, rf G 58), (1, rf G 9), (2, i9 v2), (3, i9 (v3 + 1))] [1, 2, 3, 0] rfl ?_
          exact hk_X5_findChoices_58_9_c4 v2 (v3 + 1) d3
        · refine r_aload_n C 0 dX5_findChoices_35 rfl rfl ?_
          refine r_getR C 60 dX5_findChoices_36 fl_X5_15 la_58 ly_58 rfl rfl ?_
          refine r_iload_n C 2 dX5_findChoices_39 rfl rfl ?_
          refine r_iload_n C 3 dX5_findChoices_40 rfl rfl ?_
          refine r_iast C dX5_findChoices_41 la_60 ly_60 (fun d4 => ?_)
          refine r_iinc C 2 [(2, i9 (v2 + 1)), (0, rf G 58), (1, rf G 9), (3, i9 v3)] dX5_findChoices_42 rfl (by decide) rfl ?_
          refine r_iinc C 3 [(3, i9 (v3 + 1)), (2, i9 (v2 + 1)), (0, rf G 58), (1, rf G 9)] dX5_findChoices_45 rfl (by decide) rfl ?_
          refine r_goto C 4 dX5_findChoices_48 (by decide) ?_
          refine ss_wide (k' := 0) (n' := 0) (by decide) (by decide) ?_
          refine ss_ls [(0, rf G 58), (1, rf G 9), (2, i9 (v2 + 1)), (3, i9 (v3 + 1))] [2, 3, 1, 0] rfl ?_
          exact hk_X5_findChoices_58_9_c4 (v2 + 1) (v3 + 1) d4
theorem s_X5_findChoices_58_9_c4 {G : G9} {X : X9} (C : CX G X cX5_findChoices 4 RX5 [] z_X5_findChoices_58_9) : ∀ (v2 v3 : Int) (d : D9), SS G X 4 0 0 4 [(0, rf G 58), (1, rf G 9), (2, i9 v2), (3, i9 v3)] [] d (m_X5_findChoices_58_9_c4  v2 v3 d) :=
  fix9_ind (P := fun k => ∀ (v2 v3 : Int) (d : D9), SS G X 4 0 0 4 [(0, rf G 58), (1, rf G 9), (2, i9 v2), (3, i9 v3)] [] d (k v2 v3 d)) (fun _ _ _ => ss_none) (fun k hk => sb_X5_findChoices_58_9_c4 C k hk) FU
set_option maxRecDepth 100000 in
theorem t_X5_findChoices_58_9 {G : G9} {l : Launch} (h1 : va_D (A9 G) (wl G (fun _ _ => 0))) (h2 : l.stackTraces = false) (d : D9) : MT G l yX5_findChoices cX5_findChoices 4 z_X5_findChoices_58_9 [rf G 58, rf G 9] d (m_X5_findChoices_58_9  d) := by
  refine mt_of (own := RX5) (by decide) rfl (Nat.le_of_ble_eq_true rfl) h1 h2 [(0, rf G 58), (1, rf G 9)] rfl (fun X hX C => ?_)
  unfold m_X5_findChoices_58_9
  refine r_iconst C dX5_findChoices_0 ?_
  refine r_istore_n C [(2, i9 0), (0, rf G 58), (1, rf G 9)] dX5_findChoices_1 rfl (by decide) rfl ?_
  refine r_iconst C dX5_findChoices_2 ?_
  refine r_istore_n C [(3, i9 0), (2, i9 0), (0, rf G 58), (1, rf G 9)] dX5_findChoices_3 rfl (by decide) rfl ?_
  refine ss_wide (k' := 0) (n' := 0) (by decide) (by decide) ?_
  refine ss_ls [(0, rf G 58), (1, rf G 9), (2, i9 0), (3, i9 0)] [2, 3, 1, 0] rfl ?_
  exact s_X5_findChoices_58_9_c4 C  0 0 d
theorem dX6_datedPaints_0 : decode cX6_datedPaints 0 = .ok (.iconst 0, 1) := by decide +kernel
theorem dX6_datedPaints_1 : decode cX6_datedPaints 1 = .ok (.istore_n 1, 1) := by decide +kernel
theorem dX6_datedPaints_2 : decode cX6_datedPaints 2 = .ok (.iconst 0, 1) := by decide +kernel
theorem dX6_datedPaints_3 : decode cX6_datedPaints 3 = .ok (.istore_n 2, 1) := by decide +kernel
theorem dX6_datedPaints_4 : decode cX6_datedPaints 4 = .ok (.iload_n 2, 1) := by decide +kernel
theorem dX6_datedPaints_5 : decode cX6_datedPaints 5 = .ok (.aload_n 0, 1) := by decide +kernel
theorem dX6_datedPaints_6 : decode cX6_datedPaints 6 = .ok (.getfield 48, 3) := by decide +kernel
theorem dX6_datedPaints_9 : decode cX6_datedPaints 9 = .ok (.if_icmp .ge 37, 3) := by decide +kernel
theorem dX6_datedPaints_12 : decode cX6_datedPaints 12 = .ok (.aload_n 0, 1) := by decide +kernel
theorem dX6_datedPaints_13 : decode cX6_datedPaints 13 = .ok (.iload_n 2, 1) := by decide +kernel
theorem dX6_datedPaints_14 : decode cX6_datedPaints 14 = .ok (.invokevirtual 110, 3) := by decide +kernel
theorem dX6_datedPaints_17 : decode cX6_datedPaints 17 = .ok (.ifCond .eq 23, 3) := by decide +kernel
theorem dX6_datedPaints_20 : decode cX6_datedPaints 20 = .ok (.aload_n 0, 1) := by decide +kernel
theorem dX6_datedPaints_21 : decode cX6_datedPaints 21 = .ok (.getfield 24, 3) := by decide +kernel
theorem dX6_datedPaints_24 : decode cX6_datedPaints 24 = .ok (.iload_n 2, 1) := by decide +kernel
theorem dX6_datedPaints_25 : decode cX6_datedPaints 25 = .ok (.iaload, 1) := by decide +kernel
theorem dX6_datedPaints_26 : decode cX6_datedPaints 26 = .ok (.ifCond .le 14, 3) := by decide +kernel
theorem dX6_datedPaints_29 : decode cX6_datedPaints 29 = .ok (.iload_n 1, 1) := by decide +kernel
theorem dX6_datedPaints_30 : decode cX6_datedPaints 30 = .ok (.iconst 1, 1) := by decide +kernel
theorem dX6_datedPaints_31 : decode cX6_datedPaints 31 = .ok (.aload_n 0, 1) := by decide +kernel
theorem dX6_datedPaints_32 : decode cX6_datedPaints 32 = .ok (.getfield 18, 3) := by decide +kernel
theorem dX6_datedPaints_35 : decode cX6_datedPaints 35 = .ok (.iload_n 2, 1) := by decide +kernel
theorem dX6_datedPaints_36 : decode cX6_datedPaints 36 = .ok (.iaload, 1) := by decide +kernel
theorem dX6_datedPaints_37 : decode cX6_datedPaints 37 = .ok (.ishl, 1) := by decide +kernel
theorem dX6_datedPaints_38 : decode cX6_datedPaints 38 = .ok (.ior, 1) := by decide +kernel
theorem dX6_datedPaints_39 : decode cX6_datedPaints 39 = .ok (.istore_n 1, 1) := by decide +kernel
theorem dX6_datedPaints_40 : decode cX6_datedPaints 40 = .ok (.iinc 2 1, 3) := by decide +kernel
theorem dX6_datedPaints_43 : decode cX6_datedPaints 43 = .ok (.goto (-39), 3) := by decide +kernel
theorem dX6_datedPaints_46 : decode cX6_datedPaints 46 = .ok (.iload_n 1, 1) := by decide +kernel
theorem dX6_datedPaints_47 : decode cX6_datedPaints 47 = .ok (.ireturn, 1) := by decide +kernel
abbrev z_X6_datedPaints_9 : Z9 := (some .int, 1, 0, 0, 2, 21)
def b_X6_datedPaints_9_c4 (k_X6_datedPaints_9_c4 : Int → Int → D9 → Option R9) (v1 v2 : Int) (d : D9) : Option R9 := if w32 (d 9 0) ≤ w32 v2 then rt v1 d else cl (m_X6_touches_9 v2 d) (fun r1 d2 => if w32 r1 = 0 then k_X6_datedPaints_9_c4 v1 (v2 + 1) d2 else ld d2 14 30 v2 (fun t3 => if w32 t3 ≤ 0 then k_X6_datedPaints_9_c4 v1 (v2 + 1) d2 else ld d2 12 30 v2 (fun t4 => lt9v (or9 v1 (shl9 1 t4)) (fun a5 => k_X6_datedPaints_9_c4 a5 (v2 + 1) d2))))
def m_X6_datedPaints_9_c4 : Int → Int → D9 → Option R9 := fix9 (fun _ _ _ => none) (fun k => b_X6_datedPaints_9_c4 k) FU
def m_X6_datedPaints_9 (d : D9) : Option R9 := m_X6_datedPaints_9_c4  0 0 d
set_option maxRecDepth 100000 in
theorem sb_X6_datedPaints_9_c4 {G : G9} {X : X9} (C : CX G X cX6_datedPaints 3 RX6 [] z_X6_datedPaints_9) (k_X6_datedPaints_9_c4 : Int → Int → D9 → Option R9) (hk_X6_datedPaints_9_c4 : ∀ (v1 v2 : Int) (d : D9), SS G X 3 0 0 4 [(0, rf G 9), (1, i9 v1), (2, i9 v2)] [] d (k_X6_datedPaints_9_c4 v1 v2 d)) : ∀ (v1 v2 : Int) (d : D9), SS G X 3 0 0 4 [(0, rf G 9), (1, i9 v1), (2, i9 v2)] [] d (b_X6_datedPaints_9_c4 k_X6_datedPaints_9_c4 v1 v2 d) := by
  intro v1 v2 d
  unfold b_X6_datedPaints_9_c4
  refine r_iload_n C 2 dX6_datedPaints_4 rfl rfl ?_
  refine r_aload_n C 0 dX6_datedPaints_5 rfl rfl ?_
  refine r_getI C dX6_datedPaints_6 fl_X6_48 la_9 ly_9 rfl ?_
  refine r_icmp_ge C 46 dX6_datedPaints_9 (by decide) (fun _ => ?_) (fun _ => ?_)
  · refine r_iload_n C 1 dX6_datedPaints_46 rfl rfl ?_
    exact r_iret C dX6_datedPaints_47 (by decide) (by decide)
  · refine r_aload_n C 0 dX6_datedPaints_12 rfl rfl ?_
    refine r_iload_n C 2 dX6_datedPaints_13 rfl rfl ?_
    refine r_callV C [i9 v2, rf G 9] dX6_datedPaints_14 (t_X6_touches_9 C.h1 C.h2 v2 d) mw_X6_110 mv_X6_touches la_9 ly_9 rfl (by decide) (by decide) (by decide) rfl rfl (Nat.le_of_ble_eq_true rfl) (fun r1 d2 => ?_)
    show SS G X 3 _ _ 17 [(0, rf G 9), (1, i9 v1), (2, i9 v2)] [i9 r1] d2 _
    refine r_if_eq C (b := 0) 40 dX6_datedPaints_17 (by decide) (fun _ => ?_) (fun _ => ?_)
    · refine r_iinc C 2 [(2, i9 (v2 + 1)), (0, rf G 9), (1, i9 v1)] dX6_datedPaints_40 rfl (by decide) rfl ?_
      refine r_goto C 4 dX6_datedPaints_43 (by decide) ?_
      refine ss_wide (k' := 0) (n' := 0) (by decide) (by decide) ?_
      refine ss_ls [(0, rf G 9), (1, i9 v1), (2, i9 (v2 + 1))] [1, 2, 0] rfl ?_
      exact hk_X6_datedPaints_9_c4 v1 (v2 + 1) d2
    · refine r_aload_n C 0 dX6_datedPaints_20 rfl rfl ?_
      refine r_getR C 14 dX6_datedPaints_21 fl_X6_24 la_9 ly_9 rfl rfl ?_
      refine r_iload_n C 2 dX6_datedPaints_24 rfl rfl ?_
      refine r_iald C dX6_datedPaints_25 la_14 ly_14 (fun t3 => ?_)
      refine r_if_le C (b := 0) 40 dX6_datedPaints_26 (by decide) (fun _ => ?_) (fun _ => ?_)
      · refine r_iinc C 2 [(2, i9 (v2 + 1)), (0, rf G 9), (1, i9 v1)] dX6_datedPaints_40 rfl (by decide) rfl ?_
        refine r_goto C 4 dX6_datedPaints_43 (by decide) ?_
        refine ss_wide (k' := 0) (n' := 0) (by decide) (by decide) ?_
        refine ss_ls [(0, rf G 9), (1, i9 v1), (2, i9 (v2 + 1))] [1, 2, 0] rfl ?_
        exact hk_X6_datedPaints_9_c4 v1 (v2 + 1) d2
      · refine r_iload_n C 1 dX6_datedPaints_29 rfl rfl ?_
        refine r_iconst C dX6_datedPaints_30 ?_
        refine r_aload_n C 0 dX6_datedPaints_31 rfl rfl ?_
        refine r_getR C 12 dX6_datedPaints_32 fl_X6_18 la_9 ly_9 rfl rfl ?_
        refine r_iload_n C 2 dX6_datedPaints_35 rfl rfl ?_
        refine r_iald C dX6_datedPaints_36 la_12 ly_12 (fun t4 => ?_)
        refine r_ishl C dX6_datedPaints_37 ?_
        refine r_ior C dX6_datedPaints_38 ?_
        refine ss_lt (fun a5 => ?_)
        refine r_istore_n C [(1, i9 a5), (0, rf G 9), (2, i9 v2)] dX6_datedPaints_39 rfl (by decide) rfl ?_
        refine r_iinc C 2 [(2, i9 (v2 + 1)), (1, i9 a5), (0, rf G 9)] dX6_datedPaints_40 rfl (by decide) rfl ?_
        refine r_goto C 4 dX6_datedPaints_43 (by decide) ?_
        refine ss_wide (k' := 0) (n' := 0) (by decide) (by decide) ?_
        refine ss_ls [(0, rf G 9), (1, i9 a5), (2, i9 (v2 + 1))] [2, 1, 0] rfl ?_
        exact hk_X6_datedPaints_9_c4 a5 (v2 + 1) d2
theorem s_X6_datedPaints_9_c4 {G : G9} {X : X9} (C : CX G X cX6_datedPaints 3 RX6 [] z_X6_datedPaints_9) : ∀ (v1 v2 : Int) (d : D9), SS G X 3 0 0 4 [(0, rf G 9), (1, i9 v1), (2, i9 v2)] [] d (m_X6_datedPaints_9_c4  v1 v2 d) :=
  fix9_ind (P := fun k => ∀ (v1 v2 : Int) (d : D9), SS G X 3 0 0 4 [(0, rf G 9), (1, i9 v1), (2, i9 v2)] [] d (k v1 v2 d)) (fun _ _ _ => ss_none) (fun k hk => sb_X6_datedPaints_9_c4 C k hk) FU
set_option maxRecDepth 100000 in
theorem t_X6_datedPaints_9 {G : G9} {l : Launch} (h1 : va_D (A9 G) (wl G (fun _ _ => 0))) (h2 : l.stackTraces = false) (d : D9) : MT G l yX6_datedPaints cX6_datedPaints 3 z_X6_datedPaints_9 [rf G 9] d (m_X6_datedPaints_9  d) := by
  refine mt_of (own := RX6) (by decide) rfl (Nat.le_of_ble_eq_true rfl) h1 h2 [(0, rf G 9)] rfl (fun X hX C => ?_)
  unfold m_X6_datedPaints_9
  refine r_iconst C dX6_datedPaints_0 ?_
  refine r_istore_n C [(1, i9 0), (0, rf G 9)] dX6_datedPaints_1 rfl (by decide) rfl ?_
  refine r_iconst C dX6_datedPaints_2 ?_
  refine r_istore_n C [(2, i9 0), (1, i9 0), (0, rf G 9)] dX6_datedPaints_3 rfl (by decide) rfl ?_
  refine ss_wide (k' := 0) (n' := 0) (by decide) (by decide) ?_
  refine ss_ls [(0, rf G 9), (1, i9 0), (2, i9 0)] [2, 1, 0] rfl ?_
  exact s_X6_datedPaints_9_c4 C  0 0 d
theorem dX5_skinsOf_0 : decode cX5_skinsOf 0 = .ok (.iconst 0, 1) := by decide +kernel
theorem dX5_skinsOf_1 : decode cX5_skinsOf 1 = .ok (.istore_n 3, 1) := by decide +kernel
theorem dX5_skinsOf_2 : decode cX5_skinsOf 2 = .ok (.iconst 0, 1) := by decide +kernel
theorem dX5_skinsOf_3 : decode cX5_skinsOf 3 = .ok (.istore 4, 2) := by decide +kernel
theorem dX5_skinsOf_5 : decode cX5_skinsOf 5 = .ok (.iload 4, 2) := by decide +kernel
theorem dX5_skinsOf_7 : decode cX5_skinsOf 7 = .ok (.iload_n 2, 1) := by decide +kernel
theorem dX5_skinsOf_8 : decode cX5_skinsOf 8 = .ok (.if_icmp .ge 34, 3) := by decide +kernel
theorem dX5_skinsOf_11 : decode cX5_skinsOf 11 = .ok (.iload_n 3, 1) := by decide +kernel
theorem dX5_skinsOf_12 : decode cX5_skinsOf 12 = .ok (.iload_n 1, 1) := by decide +kernel
theorem dX5_skinsOf_13 : decode cX5_skinsOf 13 = .ok (.iload 4, 2) := by decide +kernel
theorem dX5_skinsOf_15 : decode cX5_skinsOf 15 = .ok (.invokestatic 74, 3) := by decide +kernel
theorem dX5_skinsOf_18 : decode cX5_skinsOf 18 = .ok (.ifCond .eq 15, 3) := by decide +kernel
theorem dX5_skinsOf_21 : decode cX5_skinsOf 21 = .ok (.iconst 1, 1) := by decide +kernel
theorem dX5_skinsOf_22 : decode cX5_skinsOf 22 = .ok (.aload_n 0, 1) := by decide +kernel
theorem dX5_skinsOf_23 : decode cX5_skinsOf 23 = .ok (.getfield 15, 3) := by decide +kernel
theorem dX5_skinsOf_26 : decode cX5_skinsOf 26 = .ok (.iload 4, 2) := by decide +kernel
theorem dX5_skinsOf_28 : decode cX5_skinsOf 28 = .ok (.iaload, 1) := by decide +kernel
theorem dX5_skinsOf_29 : decode cX5_skinsOf 29 = .ok (.ishl, 1) := by decide +kernel
theorem dX5_skinsOf_30 : decode cX5_skinsOf 30 = .ok (.goto 4, 3) := by decide +kernel
theorem dX5_skinsOf_33 : decode cX5_skinsOf 33 = .ok (.iconst 0, 1) := by decide +kernel
theorem dX5_skinsOf_34 : decode cX5_skinsOf 34 = .ok (.ior, 1) := by decide +kernel
theorem dX5_skinsOf_35 : decode cX5_skinsOf 35 = .ok (.istore_n 3, 1) := by decide +kernel
theorem dX5_skinsOf_36 : decode cX5_skinsOf 36 = .ok (.iinc 4 1, 3) := by decide +kernel
theorem dX5_skinsOf_39 : decode cX5_skinsOf 39 = .ok (.goto (-34), 3) := by decide +kernel
theorem dX5_skinsOf_42 : decode cX5_skinsOf 42 = .ok (.iload_n 3, 1) := by decide +kernel
theorem dX5_skinsOf_43 : decode cX5_skinsOf 43 = .ok (.ireturn, 1) := by decide +kernel
abbrev z_X5_skinsOf_58 : Z9 := (some .int, 1, 0, 0, 2, 21)
def b_X5_skinsOf_58_c5 (k_X5_skinsOf_58_c5 : Int → Int → Int → Int → D9 → Option R9) (v1 v2 v3 v4 : Int) (d : D9) : Option R9 := if w32 v2 ≤ w32 v4 then rt v3 d else cl (m_X11_isIn v1 v4 d) (fun r1 d2 => if w32 r1 = 0 then lt9v (or9 v3 0) (fun a3 => k_X5_skinsOf_58_c5 v1 v2 a3 (v4 + 1) d2) else ld d2 60 12 v4 (fun t4 => lt9v (or9 v3 (shl9 1 t4)) (fun a5 => k_X5_skinsOf_58_c5 v1 v2 a5 (v4 + 1) d2)))
def m_X5_skinsOf_58_c5 : Int → Int → Int → Int → D9 → Option R9 := fix9 (fun _ _ _ _ _ => none) (fun k => b_X5_skinsOf_58_c5 k) FU
def m_X5_skinsOf_58 (p1 p2 : Int) (d : D9) : Option R9 := m_X5_skinsOf_58_c5  p1 p2 0 0 d
set_option maxRecDepth 100000 in
theorem sb_X5_skinsOf_58_c5 {G : G9} {X : X9} (C : CX G X cX5_skinsOf 5 RX5 [] z_X5_skinsOf_58) (k_X5_skinsOf_58_c5 : Int → Int → Int → Int → D9 → Option R9) (hk_X5_skinsOf_58_c5 : ∀ (v1 v2 v3 v4 : Int) (d : D9), SS G X 5 0 0 5 [(0, rf G 58), (1, i9 v1), (2, i9 v2), (3, i9 v3), (4, i9 v4)] [] d (k_X5_skinsOf_58_c5 v1 v2 v3 v4 d)) : ∀ (v1 v2 v3 v4 : Int) (d : D9), SS G X 5 0 0 5 [(0, rf G 58), (1, i9 v1), (2, i9 v2), (3, i9 v3), (4, i9 v4)] [] d (b_X5_skinsOf_58_c5 k_X5_skinsOf_58_c5 v1 v2 v3 v4 d) := by
  intro v1 v2 v3 v4 d
  unfold b_X5_skinsOf_58_c5
  refine r_iload C 4 dX5_skinsOf_5 rfl ?_
  refine r_iload_n C 2 dX5_skinsOf_7 rfl rfl ?_
  refine r_icmp_ge C 42 dX5_skinsOf_8 (by decide) (fun _ => ?_) (fun _ => ?_)
  · refine r_iload_n C 3 dX5_skinsOf_42 rfl rfl ?_
    exact r_iret C dX5_skinsOf_43 (by decide) (by decide)
  · refine r_iload_n C 3 dX5_skinsOf_11 rfl rfl ?_
    refine r_iload_n C 1 dX5_skinsOf_12 rfl rfl ?_
    refine r_iload C 4 dX5_skinsOf_13 rfl ?_
    refine r_callN C [i9 v4, i9 v1, i9 v3] dX5_skinsOf_15 (t_X11_isIn C.h1 C.h2 v1 v4 d) (n_X11_isIn v1 v4 d) mn_X5_74 ms_X11_isIn (by decide) (by decide) (by decide) rfl rfl (Nat.le_of_ble_eq_true rfl) (fun r1 d2 => ?_)
    show SS G X 5 _ _ 18 [(0, rf G 58), (1, i9 v1), (2, i9 v2), (3, i9 v3), (4, i9 v4)] [i9 r1, i9 v3] d2 _
    refine r_if_eq C (b := 0) 33 dX5_skinsOf_18 (by decide) (fun _ => ?_) (fun _ => ?_)
    · refine r_iconst C dX5_skinsOf_33 ?_
      refine r_ior C dX5_skinsOf_34 ?_
      refine ss_lt (fun a3 => ?_)
      refine r_istore_n C [(3, i9 a3), (0, rf G 58), (1, i9 v1), (2, i9 v2), (4, i9 v4)] dX5_skinsOf_35 rfl (by decide) rfl ?_
      refine r_iinc C 4 [(4, i9 (v4 + 1)), (3, i9 a3), (0, rf G 58), (1, i9 v1), (2, i9 v2)] dX5_skinsOf_36 rfl (by decide) rfl ?_
      refine r_goto C 5 dX5_skinsOf_39 (by decide) ?_
      refine ss_wide (k' := 0) (n' := 0) (by decide) (by decide) ?_
      refine ss_ls [(0, rf G 58), (1, i9 v1), (2, i9 v2), (3, i9 a3), (4, i9 (v4 + 1))] [2, 3, 4, 1, 0] rfl ?_
      exact hk_X5_skinsOf_58_c5 v1 v2 a3 (v4 + 1) d2
    · refine r_iconst C dX5_skinsOf_21 ?_
      refine r_aload_n C 0 dX5_skinsOf_22 rfl rfl ?_
      refine r_getR C 60 dX5_skinsOf_23 fl_X5_15 la_58 ly_58 rfl rfl ?_
      refine r_iload C 4 dX5_skinsOf_26 rfl ?_
      refine r_iald C dX5_skinsOf_28 la_60 ly_60 (fun t4 => ?_)
      refine r_ishl C dX5_skinsOf_29 ?_
      refine r_goto C 34 dX5_skinsOf_30 (by decide) ?_
      refine r_ior C dX5_skinsOf_34 ?_
      refine ss_lt (fun a5 => ?_)
      refine r_istore_n C [(3, i9 a5), (0, rf G 58), (1, i9 v1), (2, i9 v2), (4, i9 v4)] dX5_skinsOf_35 rfl (by decide) rfl ?_
      refine r_iinc C 4 [(4, i9 (v4 + 1)), (3, i9 a5), (0, rf G 58), (1, i9 v1), (2, i9 v2)] dX5_skinsOf_36 rfl (by decide) rfl ?_
      refine r_goto C 5 dX5_skinsOf_39 (by decide) ?_
      refine ss_wide (k' := 0) (n' := 0) (by decide) (by decide) ?_
      refine ss_ls [(0, rf G 58), (1, i9 v1), (2, i9 v2), (3, i9 a5), (4, i9 (v4 + 1))] [2, 3, 4, 1, 0] rfl ?_
      exact hk_X5_skinsOf_58_c5 v1 v2 a5 (v4 + 1) d2
theorem s_X5_skinsOf_58_c5 {G : G9} {X : X9} (C : CX G X cX5_skinsOf 5 RX5 [] z_X5_skinsOf_58) : ∀ (v1 v2 v3 v4 : Int) (d : D9), SS G X 5 0 0 5 [(0, rf G 58), (1, i9 v1), (2, i9 v2), (3, i9 v3), (4, i9 v4)] [] d (m_X5_skinsOf_58_c5  v1 v2 v3 v4 d) :=
  fix9_ind (P := fun k => ∀ (v1 v2 v3 v4 : Int) (d : D9), SS G X 5 0 0 5 [(0, rf G 58), (1, i9 v1), (2, i9 v2), (3, i9 v3), (4, i9 v4)] [] d (k v1 v2 v3 v4 d)) (fun _ _ _ _ _ => ss_none) (fun k hk => sb_X5_skinsOf_58_c5 C k hk) FU
set_option maxRecDepth 100000 in
theorem t_X5_skinsOf_58 {G : G9} {l : Launch} (h1 : va_D (A9 G) (wl G (fun _ _ => 0))) (h2 : l.stackTraces = false) (p1 p2 : Int) (d : D9) : MT G l yX5_skinsOf cX5_skinsOf 5 z_X5_skinsOf_58 [rf G 58, i9 p1, i9 p2] d (m_X5_skinsOf_58 p1 p2 d) := by
  refine mt_of (own := RX5) (by decide) rfl (Nat.le_of_ble_eq_true rfl) h1 h2 [(0, rf G 58), (1, i9 p1), (2, i9 p2)] rfl (fun X hX C => ?_)
  unfold m_X5_skinsOf_58
  refine r_iconst C dX5_skinsOf_0 ?_
  refine r_istore_n C [(3, i9 0), (0, rf G 58), (1, i9 p1), (2, i9 p2)] dX5_skinsOf_1 rfl (by decide) rfl ?_
  refine r_iconst C dX5_skinsOf_2 ?_
  refine r_istore C [(4, i9 0), (3, i9 0), (0, rf G 58), (1, i9 p1), (2, i9 p2)] dX5_skinsOf_3 (by decide) rfl ?_
  refine ss_wide (k' := 0) (n' := 0) (by decide) (by decide) ?_
  refine ss_ls [(0, rf G 58), (1, i9 p1), (2, i9 p2), (3, i9 0), (4, i9 0)] [2, 3, 4, 1, 0] rfl ?_
  exact s_X5_skinsOf_58_c5 C  p1 p2 0 0 d
theorem dX5_lookAt_0 : decode cX5_lookAt 0 = .ok (.iload_n 1, 1) := by decide +kernel
theorem dX5_lookAt_1 : decode cX5_lookAt 1 = .ok (.iload_n 1, 1) := by decide +kernel
theorem dX5_lookAt_2 : decode cX5_lookAt 2 = .ok (.ineg, 1) := by decide +kernel
theorem dX5_lookAt_3 : decode cX5_lookAt 3 = .ok (.iand, 1) := by decide +kernel
theorem dX5_lookAt_4 : decode cX5_lookAt 4 = .ok (.iconst 1, 1) := by decide +kernel
theorem dX5_lookAt_5 : decode cX5_lookAt 5 = .ok (.isub, 1) := by decide +kernel
theorem dX5_lookAt_6 : decode cX5_lookAt 6 = .ok (.invokestatic 38, 3) := by decide +kernel
theorem dX5_lookAt_9 : decode cX5_lookAt 9 = .ok (.istore_n 3, 1) := by decide +kernel
theorem dX5_lookAt_10 : decode cX5_lookAt 10 = .ok (.iload_n 3, 1) := by decide +kernel
theorem dX5_lookAt_11 : decode cX5_lookAt 11 = .ok (.bipush 12, 2) := by decide +kernel
theorem dX5_lookAt_13 : decode cX5_lookAt 13 = .ok (.if_icmp .lt 4, 3) := by decide +kernel
theorem dX5_lookAt_16 : decode cX5_lookAt 16 = .ok (.return_, 1) := by decide +kernel
theorem dX5_lookAt_17 : decode cX5_lookAt 17 = .ok (.aload_n 0, 1) := by decide +kernel
theorem dX5_lookAt_18 : decode cX5_lookAt 18 = .ok (.getfield 15, 3) := by decide +kernel
theorem dX5_lookAt_21 : decode cX5_lookAt 21 = .ok (.iload_n 3, 1) := by decide +kernel
theorem dX5_lookAt_22 : decode cX5_lookAt 22 = .ok (.iaload, 1) := by decide +kernel
theorem dX5_lookAt_23 : decode cX5_lookAt 23 = .ok (.istore 4, 2) := by decide +kernel
theorem dX5_lookAt_25 : decode cX5_lookAt 25 = .ok (.aload_n 0, 1) := by decide +kernel
theorem dX5_lookAt_26 : decode cX5_lookAt 26 = .ok (.getfield 18, 3) := by decide +kernel
theorem dX5_lookAt_29 : decode cX5_lookAt 29 = .ok (.iload_n 3, 1) := by decide +kernel
theorem dX5_lookAt_30 : decode cX5_lookAt 30 = .ok (.iconst 1, 1) := by decide +kernel
theorem dX5_lookAt_31 : decode cX5_lookAt 31 = .ok (.iadd, 1) := by decide +kernel
theorem dX5_lookAt_32 : decode cX5_lookAt 32 = .ok (.iaload, 1) := by decide +kernel
theorem dX5_lookAt_33 : decode cX5_lookAt 33 = .ok (.aload_n 2, 1) := by decide +kernel
theorem dX5_lookAt_34 : decode cX5_lookAt 34 = .ok (.getfield 68, 3) := by decide +kernel
theorem dX5_lookAt_37 : decode cX5_lookAt 37 = .ok (.iload 4, 2) := by decide +kernel
theorem dX5_lookAt_39 : decode cX5_lookAt 39 = .ok (.iaload, 1) := by decide +kernel
theorem dX5_lookAt_40 : decode cX5_lookAt 40 = .ok (.iadd, 1) := by decide +kernel
theorem dX5_lookAt_41 : decode cX5_lookAt 41 = .ok (.istore 5, 2) := by decide +kernel
theorem dX5_lookAt_43 : decode cX5_lookAt 43 = .ok (.aload_n 0, 1) := by decide +kernel
theorem dX5_lookAt_44 : decode cX5_lookAt 44 = .ok (.getfield 21, 3) := by decide +kernel
theorem dX5_lookAt_47 : decode cX5_lookAt 47 = .ok (.iload_n 3, 1) := by decide +kernel
theorem dX5_lookAt_48 : decode cX5_lookAt 48 = .ok (.iconst 1, 1) := by decide +kernel
theorem dX5_lookAt_49 : decode cX5_lookAt 49 = .ok (.iadd, 1) := by decide +kernel
theorem dX5_lookAt_50 : decode cX5_lookAt 50 = .ok (.iaload, 1) := by decide +kernel
theorem dX5_lookAt_51 : decode cX5_lookAt 51 = .ok (.iconst 1, 1) := by decide +kernel
theorem dX5_lookAt_52 : decode cX5_lookAt 52 = .ok (.aload_n 2, 1) := by decide +kernel
theorem dX5_lookAt_53 : decode cX5_lookAt 53 = .ok (.getfield 71, 3) := by decide +kernel
theorem dX5_lookAt_56 : decode cX5_lookAt 56 = .ok (.iload 4, 2) := by decide +kernel
theorem dX5_lookAt_58 : decode cX5_lookAt 58 = .ok (.iaload, 1) := by decide +kernel
theorem dX5_lookAt_59 : decode cX5_lookAt 59 = .ok (.ishl, 1) := by decide +kernel
theorem dX5_lookAt_60 : decode cX5_lookAt 60 = .ok (.ior, 1) := by decide +kernel
theorem dX5_lookAt_61 : decode cX5_lookAt 61 = .ok (.istore 6, 2) := by decide +kernel
theorem dX5_lookAt_63 : decode cX5_lookAt 63 = .ok (.iload_n 3, 1) := by decide +kernel
theorem dX5_lookAt_64 : decode cX5_lookAt 64 = .ok (.istore 7, 2) := by decide +kernel
theorem dX5_lookAt_66 : decode cX5_lookAt 66 = .ok (.iload 7, 2) := by decide +kernel
theorem dX5_lookAt_68 : decode cX5_lookAt 68 = .ok (.ifCond .lt 27, 3) := by decide +kernel
theorem dX5_lookAt_71 : decode cX5_lookAt 71 = .ok (.aload_n 0, 1) := by decide +kernel
theorem dX5_lookAt_72 : decode cX5_lookAt 72 = .ok (.getfield 18, 3) := by decide +kernel
theorem dX5_lookAt_75 : decode cX5_lookAt 75 = .ok (.iload 7, 2) := by decide +kernel
theorem dX5_lookAt_77 : decode cX5_lookAt 77 = .ok (.iload 5, 2) := by decide +kernel
theorem dX5_lookAt_79 : decode cX5_lookAt 79 = .ok (.iastore, 1) := by decide +kernel
theorem dX5_lookAt_80 : decode cX5_lookAt 80 = .ok (.aload_n 0, 1) := by decide +kernel
theorem dX5_lookAt_81 : decode cX5_lookAt 81 = .ok (.getfield 21, 3) := by decide +kernel
theorem dX5_lookAt_84 : decode cX5_lookAt 84 = .ok (.iload 7, 2) := by decide +kernel
theorem dX5_lookAt_86 : decode cX5_lookAt 86 = .ok (.iload 6, 2) := by decide +kernel
theorem dX5_lookAt_88 : decode cX5_lookAt 88 = .ok (.iastore, 1) := by decide +kernel
theorem dX5_lookAt_89 : decode cX5_lookAt 89 = .ok (.iinc 7 (-1), 3) := by decide +kernel
theorem dX5_lookAt_92 : decode cX5_lookAt 92 = .ok (.goto (-26), 3) := by decide +kernel
theorem dX5_lookAt_95 : decode cX5_lookAt 95 = .ok (.return_, 1) := by decide +kernel
abbrev z_X5_lookAt_58_9 : Z9 := (none, 0, 0, 0, 2, 20)
def b_X5_lookAt_58_9_c66 (k_X5_lookAt_58_9_c66 : Int → Int → Int → D9 → Option R9) (v5 v6 v7 : Int) (d : D9) : Option R9 := if w32 v7 < 0 then rt 0 d else sd d 61 13 v7 v5 (fun d1 => sd d1 62 13 v7 v6 (fun d2 => k_X5_lookAt_58_9_c66 v5 v6 (v7 + (-1)) d2))
def m_X5_lookAt_58_9_c66 : Int → Int → Int → D9 → Option R9 := fix9 (fun _ _ _ _ => none) (fun k => b_X5_lookAt_58_9_c66 k) FU
def m_X5_lookAt_58_9 (p1 : Int) (d : D9) : Option R9 := cl (m_J6_bitCount_0f7a4 ((and9 p1 (-p1)) - 1) d) (fun r1 d2 => if w32 r1 < w32 12 then ld d2 60 12 r1 (fun t3 => ld d2 61 13 (r1 + 1) (fun t4 => ld d2 13 30 t3 (fun t5 => lt9v (t4 + t5) (fun a6 => ld d2 62 13 (r1 + 1) (fun t7 => ld d2 12 30 t3 (fun t8 => lt9v (or9 t7 (shl9 1 t8)) (fun a9 => m_X5_lookAt_58_9_c66  a6 a9 r1 d2))))))) else rt 0 d2)
set_option maxRecDepth 100000 in
theorem sb_X5_lookAt_58_9_c66 {G : G9} {X : X9} (C : CX G X cX5_lookAt 8 RX5 [] z_X5_lookAt_58_9) (k_X5_lookAt_58_9_c66 : Int → Int → Int → D9 → Option R9) (hk_X5_lookAt_58_9_c66 : ∀ (v5 v6 v7 : Int) (d : D9), SS G X 8 0 0 66 [(0, rf G 58), (5, i9 v5), (6, i9 v6), (7, i9 v7)] [] d (k_X5_lookAt_58_9_c66 v5 v6 v7 d)) : ∀ (v5 v6 v7 : Int) (d : D9), SS G X 8 0 0 66 [(0, rf G 58), (5, i9 v5), (6, i9 v6), (7, i9 v7)] [] d (b_X5_lookAt_58_9_c66 k_X5_lookAt_58_9_c66 v5 v6 v7 d) := by
  intro v5 v6 v7 d
  unfold b_X5_lookAt_58_9_c66
  refine r_iload C 3 dX5_lookAt_66 rfl ?_
  refine r_if_lt C (b := 0) 95 dX5_lookAt_68 (by decide) (fun _ => ?_) (fun _ => ?_)
  · exact r_vret C dX5_lookAt_95 (by decide) (by decide)
  · refine r_aload_n C 0 dX5_lookAt_71 rfl rfl ?_
    refine r_getR C 61 dX5_lookAt_72 fl_X5_18 la_58 ly_58 rfl rfl ?_
    refine r_iload C 3 dX5_lookAt_75 rfl ?_
    refine r_iload C 1 dX5_lookAt_77 rfl ?_
    refine r_iast C dX5_lookAt_79 la_61 ly_61 (fun d1 => ?_)
    refine r_aload_n C 0 dX5_lookAt_80 rfl rfl ?_
    refine r_getR C 62 dX5_lookAt_81 fl_X5_21 la_58 ly_58 rfl rfl ?_
    refine r_iload C 3 dX5_lookAt_84 rfl ?_
    refine r_iload C 2 dX5_lookAt_86 rfl ?_
    refine r_iast C dX5_lookAt_88 la_62 ly_62 (fun d2 => ?_)
    refine r_iinc C 3 [(7, i9 (v7 + (-1))), (0, rf G 58), (5, i9 v5), (6, i9 v6)] dX5_lookAt_89 rfl (by decide) rfl ?_
    refine r_goto C 66 dX5_lookAt_92 (by decide) ?_
    refine ss_wide (k' := 0) (n' := 0) (by decide) (by decide) ?_
    refine ss_ls [(0, rf G 58), (5, i9 v5), (6, i9 v6), (7, i9 (v7 + (-1)))] [1, 2, 3, 0] rfl ?_
    exact hk_X5_lookAt_58_9_c66 v5 v6 (v7 + (-1)) d2
theorem s_X5_lookAt_58_9_c66 {G : G9} {X : X9} (C : CX G X cX5_lookAt 8 RX5 [] z_X5_lookAt_58_9) : ∀ (v5 v6 v7 : Int) (d : D9), SS G X 8 0 0 66 [(0, rf G 58), (5, i9 v5), (6, i9 v6), (7, i9 v7)] [] d (m_X5_lookAt_58_9_c66  v5 v6 v7 d) :=
  fix9_ind (P := fun k => ∀ (v5 v6 v7 : Int) (d : D9), SS G X 8 0 0 66 [(0, rf G 58), (5, i9 v5), (6, i9 v6), (7, i9 v7)] [] d (k v5 v6 v7 d)) (fun _ _ _ _ => ss_none) (fun k hk => sb_X5_lookAt_58_9_c66 C k hk) FU
set_option maxRecDepth 100000 in
theorem t_X5_lookAt_58_9 {G : G9} {l : Launch} (h1 : va_D (A9 G) (wl G (fun _ _ => 0))) (h2 : l.stackTraces = false) (p1 : Int) (d : D9) : MT G l yX5_lookAt cX5_lookAt 8 z_X5_lookAt_58_9 [rf G 58, i9 p1, rf G 9] d (m_X5_lookAt_58_9 p1 d) := by
  refine mt_of (own := RX5) (by decide) rfl (Nat.le_of_ble_eq_true rfl) h1 h2 [(0, rf G 58), (1, i9 p1), (2, rf G 9)] rfl (fun X hX C => ?_)
  unfold m_X5_lookAt_58_9
  refine r_iload_n C 1 dX5_lookAt_0 rfl rfl ?_
  refine r_iload_n C 1 dX5_lookAt_1 rfl rfl ?_
  refine r_ineg C dX5_lookAt_2 ?_
  refine r_iand C dX5_lookAt_3 ?_
  refine r_iconst C dX5_lookAt_4 ?_
  refine r_isub C dX5_lookAt_5 ?_
  refine r_callS C [i9 ((and9 p1 (-p1)) - 1)] dX5_lookAt_6 (t_J6_bitCount_0f7a4 C.h1 C.h2 ((and9 p1 (-p1)) - 1) d) mw_X5_38 ms_J6_bitCount_0f7a4 (by decide) (by decide) (by decide) rfl rfl (Nat.le_of_ble_eq_true rfl) (fun r1 d2 => ?_)
  show SS G X 8 _ _ 9 [(0, rf G 58), (1, i9 p1), (2, rf G 9)] [i9 r1] d2 _
  refine r_istore_n C [(3, i9 r1), (0, rf G 58), (1, i9 p1), (2, rf G 9)] dX5_lookAt_9 rfl (by decide) rfl ?_
  refine r_iload_n C 0 dX5_lookAt_10 rfl rfl ?_
  refine r_bipush C dX5_lookAt_11 rfl ?_
  refine r_icmp_lt C 17 dX5_lookAt_13 (by decide) (fun _ => ?_) (fun _ => ?_)
  · refine r_aload_n C 1 dX5_lookAt_17 rfl rfl ?_
    refine r_getR C 60 dX5_lookAt_18 fl_X5_15 la_58 ly_58 rfl rfl ?_
    refine r_iload_n C 0 dX5_lookAt_21 rfl rfl ?_
    refine r_iald C dX5_lookAt_22 la_60 ly_60 (fun t3 => ?_)
    refine r_istore C [(4, i9 t3), (3, i9 r1), (0, rf G 58), (1, i9 p1), (2, rf G 9)] dX5_lookAt_23 (by decide) rfl ?_
    refine r_aload_n C 2 dX5_lookAt_25 rfl rfl ?_
    refine r_getR C 61 dX5_lookAt_26 fl_X5_18 la_58 ly_58 rfl rfl ?_
    refine r_iload_n C 1 dX5_lookAt_29 rfl rfl ?_
    refine r_iconst C dX5_lookAt_30 ?_
    refine r_iadd C dX5_lookAt_31 ?_
    refine r_iald C dX5_lookAt_32 la_61 ly_61 (fun t4 => ?_)
    refine r_aload_n C 4 dX5_lookAt_33 rfl rfl ?_
    refine r_getR C 13 dX5_lookAt_34 fl_X5_68 la_9 ly_9 rfl rfl ?_
    refine r_iload C 0 dX5_lookAt_37 rfl ?_
    refine r_iald C dX5_lookAt_39 la_13 ly_13 (fun t5 => ?_)
    refine r_iadd C dX5_lookAt_40 ?_
    refine ss_lt (fun a6 => ?_)
    refine r_istore C [(5, i9 a6), (4, i9 t3), (3, i9 r1), (0, rf G 58), (1, i9 p1), (2, rf G 9)] dX5_lookAt_41 (by decide) rfl ?_
    refine r_aload_n C 3 dX5_lookAt_43 rfl rfl ?_
    refine r_getR C 62 dX5_lookAt_44 fl_X5_21 la_58 ly_58 rfl rfl ?_
    refine r_iload_n C 2 dX5_lookAt_47 rfl rfl ?_
    refine r_iconst C dX5_lookAt_48 ?_
    refine r_iadd C dX5_lookAt_49 ?_
    refine r_iald C dX5_lookAt_50 la_62 ly_62 (fun t7 => ?_)
    refine r_iconst C dX5_lookAt_51 ?_
    refine r_aload_n C 5 dX5_lookAt_52 rfl rfl ?_
    refine r_getR C 12 dX5_lookAt_53 fl_X5_71 la_9 ly_9 rfl rfl ?_
    refine r_iload C 1 dX5_lookAt_56 rfl ?_
    refine r_iald C dX5_lookAt_58 la_12 ly_12 (fun t8 => ?_)
    refine r_ishl C dX5_lookAt_59 ?_
    refine r_ior C dX5_lookAt_60 ?_
    refine ss_lt (fun a9 => ?_)
    refine r_istore C [(6, i9 a9), (5, i9 a6), (4, i9 t3), (3, i9 r1), (0, rf G 58), (1, i9 p1), (2, rf G 9)] dX5_lookAt_61 (by decide) rfl ?_
    refine r_iload_n C 3 dX5_lookAt_63 rfl rfl ?_
    refine r_istore C [(7, i9 r1), (6, i9 a9), (5, i9 a6), (4, i9 t3), (3, i9 r1), (0, rf G 58), (1, i9 p1), (2, rf G 9)] dX5_lookAt_64 (by decide) rfl ?_
    refine ss_wide (k' := 0) (n' := 0) (by decide) (by decide) ?_
    refine ss_ls [(0, rf G 58), (5, i9 a6), (6, i9 a9), (7, i9 r1)] [5, 2, 1, 0] rfl ?_
    exact s_X5_lookAt_58_9_c66 C  a6 a9 r1 d2
  · exact r_vret C dX5_lookAt_16 (by decide) (by decide)
theorem dX5_makePlan_0 : decode cX5_makePlan 0 = .ok (.aload_n 0, 1) := by decide +kernel
theorem dX5_makePlan_1 : decode cX5_makePlan 1 = .ok (.aload_n 1, 1) := by decide +kernel
theorem dX5_makePlan_2 : decode cX5_makePlan 2 = .ok (.invokevirtual 24, 3) := by decide +kernel
theorem dX5_makePlan_5 : decode cX5_makePlan 5 = .ok (.istore_n 3, 1) := by decide +kernel
theorem dX5_makePlan_6 : decode cX5_makePlan 6 = .ok (.aload_n 0, 1) := by decide +kernel
theorem dX5_makePlan_7 : decode cX5_makePlan 7 = .ok (.getfield 18, 3) := by decide +kernel
theorem dX5_makePlan_10 : decode cX5_makePlan 10 = .ok (.iload_n 3, 1) := by decide +kernel
theorem dX5_makePlan_11 : decode cX5_makePlan 11 = .ok (.iconst 0, 1) := by decide +kernel
theorem dX5_makePlan_12 : decode cX5_makePlan 12 = .ok (.iastore, 1) := by decide +kernel
theorem dX5_makePlan_13 : decode cX5_makePlan 13 = .ok (.aload_n 0, 1) := by decide +kernel
theorem dX5_makePlan_14 : decode cX5_makePlan 14 = .ok (.getfield 21, 3) := by decide +kernel
theorem dX5_makePlan_17 : decode cX5_makePlan 17 = .ok (.iload_n 3, 1) := by decide +kernel
theorem dX5_makePlan_18 : decode cX5_makePlan 18 = .ok (.aload_n 1, 1) := by decide +kernel
theorem dX5_makePlan_19 : decode cX5_makePlan 19 = .ok (.invokevirtual 28, 3) := by decide +kernel
theorem dX5_makePlan_22 : decode cX5_makePlan 22 = .ok (.iastore, 1) := by decide +kernel
theorem dX5_makePlan_23 : decode cX5_makePlan 23 = .ok (.iconst 0, 1) := by decide +kernel
theorem dX5_makePlan_24 : decode cX5_makePlan 24 = .ok (.istore 4, 2) := by decide +kernel
theorem dX5_makePlan_26 : decode cX5_makePlan 26 = .ok (.aload_n 0, 1) := by decide +kernel
theorem dX5_makePlan_27 : decode cX5_makePlan 27 = .ok (.iconst 0, 1) := by decide +kernel
theorem dX5_makePlan_28 : decode cX5_makePlan 28 = .ok (.putfield 34, 3) := by decide +kernel
theorem dX5_makePlan_31 : decode cX5_makePlan 31 = .ok (.aload_n 0, 1) := by decide +kernel
theorem dX5_makePlan_32 : decode cX5_makePlan 32 = .ok (.aload_n 0, 1) := by decide +kernel
theorem dX5_makePlan_33 : decode cX5_makePlan 33 = .ok (.getfield 21, 3) := by decide +kernel
theorem dX5_makePlan_36 : decode cX5_makePlan 36 = .ok (.iload_n 3, 1) := by decide +kernel
theorem dX5_makePlan_37 : decode cX5_makePlan 37 = .ok (.iaload, 1) := by decide +kernel
theorem dX5_makePlan_38 : decode cX5_makePlan 38 = .ok (.invokestatic 38, 3) := by decide +kernel
theorem dX5_makePlan_41 : decode cX5_makePlan 41 = .ok (.putfield 44, 3) := by decide +kernel
theorem dX5_makePlan_44 : decode cX5_makePlan 44 = .ok (.iconst 0, 1) := by decide +kernel
theorem dX5_makePlan_45 : decode cX5_makePlan 45 = .ok (.istore 5, 2) := by decide +kernel
theorem dX5_makePlan_47 : decode cX5_makePlan 47 = .ok (.iload 5, 2) := by decide +kernel
theorem dX5_makePlan_49 : decode cX5_makePlan 49 = .ok (.iload_n 3, 1) := by decide +kernel
theorem dX5_makePlan_50 : decode cX5_makePlan 50 = .ok (.if_icmp .ge 30, 3) := by decide +kernel
theorem dX5_makePlan_53 : decode cX5_makePlan 53 = .ok (.aload_n 0, 1) := by decide +kernel
theorem dX5_makePlan_54 : decode cX5_makePlan 54 = .ok (.getfield 18, 3) := by decide +kernel
theorem dX5_makePlan_57 : decode cX5_makePlan 57 = .ok (.iload 5, 2) := by decide +kernel
theorem dX5_makePlan_59 : decode cX5_makePlan 59 = .ok (.iconst 0, 1) := by decide +kernel
theorem dX5_makePlan_60 : decode cX5_makePlan 60 = .ok (.iastore, 1) := by decide +kernel
theorem dX5_makePlan_61 : decode cX5_makePlan 61 = .ok (.aload_n 0, 1) := by decide +kernel
theorem dX5_makePlan_62 : decode cX5_makePlan 62 = .ok (.getfield 21, 3) := by decide +kernel
theorem dX5_makePlan_65 : decode cX5_makePlan 65 = .ok (.iload 5, 2) := by decide +kernel
theorem dX5_makePlan_67 : decode cX5_makePlan 67 = .ok (.aload_n 0, 1) := by decide +kernel
theorem dX5_makePlan_68 : decode cX5_makePlan 68 = .ok (.getfield 21, 3) := by decide +kernel
theorem dX5_makePlan_71 : decode cX5_makePlan 71 = .ok (.iload_n 3, 1) := by decide +kernel
theorem dX5_makePlan_72 : decode cX5_makePlan 72 = .ok (.iaload, 1) := by decide +kernel
theorem dX5_makePlan_73 : decode cX5_makePlan 73 = .ok (.iastore, 1) := by decide +kernel
theorem dX5_makePlan_74 : decode cX5_makePlan 74 = .ok (.iinc 5 1, 3) := by decide +kernel
theorem dX5_makePlan_77 : decode cX5_makePlan 77 = .ok (.goto (-30), 3) := by decide +kernel
theorem dX5_makePlan_80 : decode cX5_makePlan 80 = .ok (.iconst 1, 1) := by decide +kernel
theorem dX5_makePlan_81 : decode cX5_makePlan 81 = .ok (.istore 5, 2) := by decide +kernel
theorem dX5_makePlan_83 : decode cX5_makePlan 83 = .ok (.iload 5, 2) := by decide +kernel
theorem dX5_makePlan_85 : decode cX5_makePlan 85 = .ok (.iconst 1, 1) := by decide +kernel
theorem dX5_makePlan_86 : decode cX5_makePlan 86 = .ok (.iload_n 3, 1) := by decide +kernel
theorem dX5_makePlan_87 : decode cX5_makePlan 87 = .ok (.ishl, 1) := by decide +kernel
theorem dX5_makePlan_88 : decode cX5_makePlan 88 = .ok (.if_icmp .ge 100, 3) := by decide +kernel
theorem dX5_makePlan_91 : decode cX5_makePlan 91 = .ok (.aload_n 0, 1) := by decide +kernel
theorem dX5_makePlan_92 : decode cX5_makePlan 92 = .ok (.iload 5, 2) := by decide +kernel
theorem dX5_makePlan_94 : decode cX5_makePlan 94 = .ok (.aload_n 1, 1) := by decide +kernel
theorem dX5_makePlan_95 : decode cX5_makePlan 95 = .ok (.invokevirtual 47, 3) := by decide +kernel
theorem dX5_makePlan_98 : decode cX5_makePlan 98 = .ok (.aload_n 0, 1) := by decide +kernel
theorem dX5_makePlan_99 : decode cX5_makePlan 99 = .ok (.getfield 21, 3) := by decide +kernel
theorem dX5_makePlan_102 : decode cX5_makePlan 102 = .ok (.iconst 0, 1) := by decide +kernel
theorem dX5_makePlan_103 : decode cX5_makePlan 103 = .ok (.iaload, 1) := by decide +kernel
theorem dX5_makePlan_104 : decode cX5_makePlan 104 = .ok (.invokestatic 38, 3) := by decide +kernel
theorem dX5_makePlan_107 : decode cX5_makePlan 107 = .ok (.istore 6, 2) := by decide +kernel
theorem dX5_makePlan_109 : decode cX5_makePlan 109 = .ok (.iload 6, 2) := by decide +kernel
theorem dX5_makePlan_111 : decode cX5_makePlan 111 = .ok (.aload_n 0, 1) := by decide +kernel
theorem dX5_makePlan_112 : decode cX5_makePlan 112 = .ok (.getfield 44, 3) := by decide +kernel
theorem dX5_makePlan_115 : decode cX5_makePlan 115 = .ok (.if_icmp .gt 25, 3) := by decide +kernel
theorem dX5_makePlan_118 : decode cX5_makePlan 118 = .ok (.iload 6, 2) := by decide +kernel
theorem dX5_makePlan_120 : decode cX5_makePlan 120 = .ok (.aload_n 0, 1) := by decide +kernel
theorem dX5_makePlan_121 : decode cX5_makePlan 121 = .ok (.getfield 44, 3) := by decide +kernel
theorem dX5_makePlan_124 : decode cX5_makePlan 124 = .ok (.if_icmp .ne 20, 3) := by decide +kernel
theorem dX5_makePlan_127 : decode cX5_makePlan 127 = .ok (.aload_n 0, 1) := by decide +kernel
theorem dX5_makePlan_128 : decode cX5_makePlan 128 = .ok (.getfield 18, 3) := by decide +kernel
theorem dX5_makePlan_131 : decode cX5_makePlan 131 = .ok (.iconst 0, 1) := by decide +kernel
theorem dX5_makePlan_132 : decode cX5_makePlan 132 = .ok (.iaload, 1) := by decide +kernel
theorem dX5_makePlan_133 : decode cX5_makePlan 133 = .ok (.aload_n 0, 1) := by decide +kernel
theorem dX5_makePlan_134 : decode cX5_makePlan 134 = .ok (.getfield 34, 3) := by decide +kernel
theorem dX5_makePlan_137 : decode cX5_makePlan 137 = .ok (.if_icmp .ge 7, 3) := by decide +kernel
theorem dX5_makePlan_140 : decode cX5_makePlan 140 = .ok (.iconst 1, 1) := by decide +kernel
theorem dX5_makePlan_141 : decode cX5_makePlan 141 = .ok (.goto 4, 3) := by decide +kernel
theorem dX5_makePlan_144 : decode cX5_makePlan 144 = .ok (.iconst 0, 1) := by decide +kernel
theorem dX5_makePlan_145 : decode cX5_makePlan 145 = .ok (.istore 7, 2) := by decide +kernel
theorem dX5_makePlan_147 : decode cX5_makePlan 147 = .ok (.iload 7, 2) := by decide +kernel
theorem dX5_makePlan_149 : decode cX5_makePlan 149 = .ok (.ifCond .eq 33, 3) := by decide +kernel
theorem dX5_makePlan_152 : decode cX5_makePlan 152 = .ok (.aload_n 0, 1) := by decide +kernel
theorem dX5_makePlan_153 : decode cX5_makePlan 153 = .ok (.getfield 18, 3) := by decide +kernel
theorem dX5_makePlan_156 : decode cX5_makePlan 156 = .ok (.iconst 0, 1) := by decide +kernel
theorem dX5_makePlan_157 : decode cX5_makePlan 157 = .ok (.iaload, 1) := by decide +kernel
theorem dX5_makePlan_158 : decode cX5_makePlan 158 = .ok (.iload_n 2, 1) := by decide +kernel
theorem dX5_makePlan_159 : decode cX5_makePlan 159 = .ok (.if_icmp .gt 23, 3) := by decide +kernel
theorem dX5_makePlan_162 : decode cX5_makePlan 162 = .ok (.iload 5, 2) := by decide +kernel
theorem dX5_makePlan_164 : decode cX5_makePlan 164 = .ok (.istore 4, 2) := by decide +kernel
theorem dX5_makePlan_166 : decode cX5_makePlan 166 = .ok (.aload_n 0, 1) := by decide +kernel
theorem dX5_makePlan_167 : decode cX5_makePlan 167 = .ok (.iload 6, 2) := by decide +kernel
theorem dX5_makePlan_169 : decode cX5_makePlan 169 = .ok (.putfield 44, 3) := by decide +kernel
theorem dX5_makePlan_172 : decode cX5_makePlan 172 = .ok (.aload_n 0, 1) := by decide +kernel
theorem dX5_makePlan_173 : decode cX5_makePlan 173 = .ok (.aload_n 0, 1) := by decide +kernel
theorem dX5_makePlan_174 : decode cX5_makePlan 174 = .ok (.getfield 18, 3) := by decide +kernel
theorem dX5_makePlan_177 : decode cX5_makePlan 177 = .ok (.iconst 0, 1) := by decide +kernel
theorem dX5_makePlan_178 : decode cX5_makePlan 178 = .ok (.iaload, 1) := by decide +kernel
theorem dX5_makePlan_179 : decode cX5_makePlan 179 = .ok (.putfield 34, 3) := by decide +kernel
theorem dX5_makePlan_182 : decode cX5_makePlan 182 = .ok (.iinc 5 1, 3) := by decide +kernel
theorem dX5_makePlan_185 : decode cX5_makePlan 185 = .ok (.goto (-102), 3) := by decide +kernel
theorem dX5_makePlan_188 : decode cX5_makePlan 188 = .ok (.aload_n 0, 1) := by decide +kernel
theorem dX5_makePlan_189 : decode cX5_makePlan 189 = .ok (.aload_n 0, 1) := by decide +kernel
theorem dX5_makePlan_190 : decode cX5_makePlan 190 = .ok (.iload 4, 2) := by decide +kernel
theorem dX5_makePlan_192 : decode cX5_makePlan 192 = .ok (.iload_n 3, 1) := by decide +kernel
theorem dX5_makePlan_193 : decode cX5_makePlan 193 = .ok (.invokevirtual 51, 3) := by decide +kernel
theorem dX5_makePlan_196 : decode cX5_makePlan 196 = .ok (.putfield 55, 3) := by decide +kernel
theorem dX5_makePlan_199 : decode cX5_makePlan 199 = .ok (.return_, 1) := by decide +kernel
abbrev z_X5_makePlan_58_9 : Z9 := (none, 0, 0, 0, 3, 47)
def m_X5_makePlan_58_9_c145 (k_X5_makePlan_58_9_c83 : Int → Int → Int → Int → D9 → Option R9) (v2 v3 v4 v5 v6 s0 : Int) (d : D9) : Option R9 := if w32 s0 = 0 then k_X5_makePlan_58_9_c83 v2 v3 v4 (v5 + 1) d else ld d 61 13 0 (fun t1 => if w32 v2 < w32 t1 then k_X5_makePlan_58_9_c83 v2 v3 v4 (v5 + 1) d else pf d 58 1 v6 (fun d2 => ld d2 61 13 0 (fun t3 => pf d2 58 2 t3 (fun d4 => k_X5_makePlan_58_9_c83 v2 v3 v5 (v5 + 1) d4))))
def b_X5_makePlan_58_9_c83 (k_X5_makePlan_58_9_c83 : Int → Int → Int → Int → D9 → Option R9) (v2 v3 v4 v5 : Int) (d : D9) : Option R9 := if w32 (shl9 1 v3) ≤ w32 v5 then cl (m_X5_skinsOf_58 v4 v3 d) (fun r1 d2 => pf d2 58 0 r1 (fun d3 => rt 0 d3)) else cl (m_X5_lookAt_58_9 v5 d) (fun r4 d5 => ld d5 62 13 0 (fun t6 => cl (m_J6_bitCount_0f7a4 t6 d5) (fun r7 d8 => if w32 (d8 58 1) < w32 r7 then m_X5_makePlan_58_9_c145 k_X5_makePlan_58_9_c83 v2 v3 v4 v5 r7 1 d8 else if w32 r7 ≠ w32 (d8 58 1) then m_X5_makePlan_58_9_c145 k_X5_makePlan_58_9_c83 v2 v3 v4 v5 r7 0 d8 else ld d8 61 13 0 (fun t9 => if w32 (d8 58 2) ≤ w32 t9 then m_X5_makePlan_58_9_c145 k_X5_makePlan_58_9_c83 v2 v3 v4 v5 r7 0 d8 else m_X5_makePlan_58_9_c145 k_X5_makePlan_58_9_c83 v2 v3 v4 v5 r7 1 d8))))
def m_X5_makePlan_58_9_c83 : Int → Int → Int → Int → D9 → Option R9 := fix9 (fun _ _ _ _ _ => none) (fun k => b_X5_makePlan_58_9_c83 k) FU
def b_X5_makePlan_58_9_c47 (k_X5_makePlan_58_9_c47 : Int → Int → Int → Int → D9 → Option R9) (v2 v3 v4 v5 : Int) (d : D9) : Option R9 := if w32 v3 ≤ w32 v5 then m_X5_makePlan_58_9_c83  v2 v3 v4 1 d else sd d 61 13 v5 0 (fun d1 => ld d1 62 13 v3 (fun t2 => sd d1 62 13 v5 t2 (fun d3 => k_X5_makePlan_58_9_c47 v2 v3 v4 (v5 + 1) d3)))
def m_X5_makePlan_58_9_c47 : Int → Int → Int → Int → D9 → Option R9 := fix9 (fun _ _ _ _ _ => none) (fun k => b_X5_makePlan_58_9_c47 k) FU
def m_X5_makePlan_58_9 (p2 : Int) (d : D9) : Option R9 := cl (m_X5_findChoices_58_9 d) (fun r1 d2 => sd d2 61 13 r1 0 (fun d3 => cl (m_X6_datedPaints_9 d3) (fun r4 d5 => sd d5 62 13 r1 r4 (fun d6 => pf d6 58 2 0 (fun d7 => ld d7 62 13 r1 (fun t8 => cl (m_J6_bitCount_0f7a4 t8 d7) (fun r9 d10 => pf d10 58 1 r9 (fun d11 => m_X5_makePlan_58_9_c47  p2 r1 0 0 d11))))))))
set_option maxRecDepth 100000 in
theorem s_X5_makePlan_58_9_c145 {G : G9} {X : X9} (C : CX G X cX5_makePlan 8 RX5 [] z_X5_makePlan_58_9) (k_X5_makePlan_58_9_c83 : Int → Int → Int → Int → D9 → Option R9) (hk_X5_makePlan_58_9_c83 : ∀ (v2 v3 v4 v5 : Int) (d : D9), SS G X 8 0 0 83 [(0, rf G 58), (1, rf G 9), (2, i9 v2), (3, i9 v3), (4, i9 v4), (5, i9 v5)] [] d (k_X5_makePlan_58_9_c83 v2 v3 v4 v5 d)) : ∀ (v2 v3 v4 v5 v6 s0 : Int) (d : D9), SS G X 8 0 0 145 [(0, rf G 58), (1, rf G 9), (2, i9 v2), (3, i9 v3), (4, i9 v4), (5, i9 v5), (6, i9 v6)] [i9 s0] d (m_X5_makePlan_58_9_c145 k_X5_makePlan_58_9_c83 v2 v3 v4 v5 v6 s0 d) := by
  intro v2 v3 v4 v5 v6 s0 d
  unfold m_X5_makePlan_58_9_c145
  refine r_istore C [(7, i9 s0), (0, rf G 58), (1, rf G 9), (2, i9 v2), (3, i9 v3), (4, i9 v4), (5, i9 v5), (6, i9 v6)] dX5_makePlan_145 (by decide) rfl ?_
  refine r_iload C 0 dX5_makePlan_147 rfl ?_
  refine r_if_eq C (b := 0) 182 dX5_makePlan_149 (by decide) (fun _ => ?_) (fun _ => ?_)
  · refine r_iinc C 6 [(5, i9 (v5 + 1)), (7, i9 s0), (0, rf G 58), (1, rf G 9), (2, i9 v2), (3, i9 v3), (4, i9 v4), (6, i9 v6)] dX5_makePlan_182 rfl (by decide) rfl ?_
    refine r_goto C 83 dX5_makePlan_185 (by decide) ?_
    refine ss_wide (k' := 0) (n' := 0) (by decide) (by decide) ?_
    refine ss_ls [(0, rf G 58), (1, rf G 9), (2, i9 v2), (3, i9 v3), (4, i9 v4), (5, i9 (v5 + 1))] [2, 3, 4, 5, 6, 0] rfl ?_
    exact hk_X5_makePlan_58_9_c83 v2 v3 v4 (v5 + 1) d
  · refine r_aload_n C 1 dX5_makePlan_152 rfl rfl ?_
    refine r_getR C 61 dX5_makePlan_153 fl_X5_18 la_58 ly_58 rfl rfl ?_
    refine r_iconst C dX5_makePlan_156 ?_
    refine r_iald C dX5_makePlan_157 la_61 ly_61 (fun t1 => ?_)
    refine r_iload_n C 3 dX5_makePlan_158 rfl rfl ?_
    refine r_icmp_gt C 182 dX5_makePlan_159 (by decide) (fun _ => ?_) (fun _ => ?_)
    · refine r_iinc C 6 [(5, i9 (v5 + 1)), (7, i9 s0), (0, rf G 58), (1, rf G 9), (2, i9 v2), (3, i9 v3), (4, i9 v4), (6, i9 v6)] dX5_makePlan_182 rfl (by decide) rfl ?_
      refine r_goto C 83 dX5_makePlan_185 (by decide) ?_
      refine ss_wide (k' := 0) (n' := 0) (by decide) (by decide) ?_
      refine ss_ls [(0, rf G 58), (1, rf G 9), (2, i9 v2), (3, i9 v3), (4, i9 v4), (5, i9 (v5 + 1))] [2, 3, 4, 5, 6, 0] rfl ?_
      exact hk_X5_makePlan_58_9_c83 v2 v3 v4 (v5 + 1) d
    · refine r_iload C 6 dX5_makePlan_162 rfl ?_
      refine r_istore C [(4, i9 v5), (7, i9 s0), (0, rf G 58), (1, rf G 9), (2, i9 v2), (3, i9 v3), (5, i9 v5), (6, i9 v6)] dX5_makePlan_164 (by decide) rfl ?_
      refine r_aload_n C 2 dX5_makePlan_166 rfl rfl ?_
      refine r_iload C 7 dX5_makePlan_167 rfl ?_
      refine r_putI C dX5_makePlan_169 fp_X5_44 la_58 ly_58 rfl (fun d2 => ?_)
      refine r_aload_n C 2 dX5_makePlan_172 rfl rfl ?_
      refine r_aload_n C 2 dX5_makePlan_173 rfl rfl ?_
      refine r_getR C 61 dX5_makePlan_174 fl_X5_18 la_58 ly_58 rfl rfl ?_
      refine r_iconst C dX5_makePlan_177 ?_
      refine r_iald C dX5_makePlan_178 la_61 ly_61 (fun t3 => ?_)
      refine r_putI C dX5_makePlan_179 fp_X5_34 la_58 ly_58 rfl (fun d4 => ?_)
      refine r_iinc C 6 [(5, i9 (v5 + 1)), (4, i9 v5), (7, i9 s0), (0, rf G 58), (1, rf G 9), (2, i9 v2), (3, i9 v3), (6, i9 v6)] dX5_makePlan_182 rfl (by decide) rfl ?_
      refine r_goto C 83 dX5_makePlan_185 (by decide) ?_
      refine ss_wide (k' := 0) (n' := 0) (by decide) (by decide) ?_
      refine ss_ls [(0, rf G 58), (1, rf G 9), (2, i9 v2), (3, i9 v3), (4, i9 v5), (5, i9 (v5 + 1))] [3, 4, 5, 6, 1, 0] rfl ?_
      exact hk_X5_makePlan_58_9_c83 v2 v3 v5 (v5 + 1) d4
set_option maxRecDepth 100000 in
theorem sb_X5_makePlan_58_9_c83 {G : G9} {X : X9} (C : CX G X cX5_makePlan 8 RX5 [] z_X5_makePlan_58_9) (k_X5_makePlan_58_9_c83 : Int → Int → Int → Int → D9 → Option R9) (hk_X5_makePlan_58_9_c83 : ∀ (v2 v3 v4 v5 : Int) (d : D9), SS G X 8 0 0 83 [(0, rf G 58), (1, rf G 9), (2, i9 v2), (3, i9 v3), (4, i9 v4), (5, i9 v5)] [] d (k_X5_makePlan_58_9_c83 v2 v3 v4 v5 d)) : ∀ (v2 v3 v4 v5 : Int) (d : D9), SS G X 8 0 0 83 [(0, rf G 58), (1, rf G 9), (2, i9 v2), (3, i9 v3), (4, i9 v4), (5, i9 v5)] [] d (b_X5_makePlan_58_9_c83 k_X5_makePlan_58_9_c83 v2 v3 v4 v5 d) := by
  intro v2 v3 v4 v5 d
  unfold b_X5_makePlan_58_9_c83
  refine r_iload C 5 dX5_makePlan_83 rfl ?_
  refine r_iconst C dX5_makePlan_85 ?_
  refine r_iload_n C 3 dX5_makePlan_86 rfl rfl ?_
  refine r_ishl C dX5_makePlan_87 ?_
  refine r_icmp_ge C 188 dX5_makePlan_88 (by decide) (fun _ => ?_) (fun _ => ?_)
  · refine r_aload_n C 0 dX5_makePlan_188 rfl rfl ?_
    refine r_aload_n C 0 dX5_makePlan_189 rfl rfl ?_
    refine r_iload C 4 dX5_makePlan_190 rfl ?_
    refine r_iload_n C 3 dX5_makePlan_192 rfl rfl ?_
    refine r_callV C [i9 v3, i9 v4, rf G 58, rf G 58] dX5_makePlan_193 (t_X5_skinsOf_58 C.h1 C.h2 v4 v3 d) mw_X5_51 mv_X5_skinsOf la_58 ly_58 rfl (by decide) (by decide) (by decide) rfl rfl (Nat.le_of_ble_eq_true rfl) (fun r1 d2 => ?_)
    show SS G X 8 _ _ 196 [(0, rf G 58), (1, rf G 9), (2, i9 v2), (3, i9 v3), (4, i9 v4), (5, i9 v5)] [i9 r1, rf G 58] d2 _
    refine r_putI C dX5_makePlan_196 fp_X5_55 la_58 ly_58 rfl (fun d3 => ?_)
    exact r_vret C dX5_makePlan_199 (by decide) (by decide)
  · refine r_aload_n C 0 dX5_makePlan_91 rfl rfl ?_
    refine r_iload C 5 dX5_makePlan_92 rfl ?_
    refine r_aload_n C 1 dX5_makePlan_94 rfl rfl ?_
    refine r_callV C [rf G 9, i9 v5, rf G 58] dX5_makePlan_95 (t_X5_lookAt_58_9 C.h1 C.h2 v5 d) mw_X5_47 mv_X5_lookAt la_58 ly_58 rfl (by decide) (by decide) (by decide) rfl rfl (Nat.le_of_ble_eq_true rfl) (fun r4 d5 => ?_)
    show SS G X 8 _ _ 98 [(0, rf G 58), (1, rf G 9), (2, i9 v2), (3, i9 v3), (4, i9 v4), (5, i9 v5)] [] d5 _
    refine r_aload_n C 0 dX5_makePlan_98 rfl rfl ?_
    refine r_getR C 62 dX5_makePlan_99 fl_X5_21 la_58 ly_58 rfl rfl ?_
    refine r_iconst C dX5_makePlan_102 ?_
    refine r_iald C dX5_makePlan_103 la_62 ly_62 (fun t6 => ?_)
    refine r_callS C [i9 t6] dX5_makePlan_104 (t_J6_bitCount_0f7a4 C.h1 C.h2 t6 d5) mw_X5_38 ms_J6_bitCount_0f7a4 (by decide) (by decide) (by decide) rfl rfl (Nat.le_of_ble_eq_true rfl) (fun r7 d8 => ?_)
    show SS G X 8 _ _ 107 [(0, rf G 58), (1, rf G 9), (2, i9 v2), (3, i9 v3), (4, i9 v4), (5, i9 v5)] [i9 r7] d8 _
    refine r_istore C [(6, i9 r7), (0, rf G 58), (1, rf G 9), (2, i9 v2), (3, i9 v3), (4, i9 v4), (5, i9 v5)] dX5_makePlan_107 (by decide) rfl ?_
    refine r_iload C 0 dX5_makePlan_109 rfl ?_
    refine r_aload_n C 1 dX5_makePlan_111 rfl rfl ?_
    refine r_getI C dX5_makePlan_112 fl_X5_44 la_58 ly_58 rfl ?_
    refine r_icmp_gt C 140 dX5_makePlan_115 (by decide) (fun _ => ?_) (fun _ => ?_)
    · refine r_iconst C dX5_makePlan_140 ?_
      refine r_goto C 145 dX5_makePlan_141 (by decide) ?_
      refine ss_wide (k' := 0) (n' := 0) (by decide) (by decide) ?_
      refine ss_ls [(0, rf G 58), (1, rf G 9), (2, i9 v2), (3, i9 v3), (4, i9 v4), (5, i9 v5), (6, i9 r7)] [1, 2, 3, 4, 5, 6, 0] rfl ?_
      exact s_X5_makePlan_58_9_c145 C k_X5_makePlan_58_9_c83 hk_X5_makePlan_58_9_c83 v2 v3 v4 v5 r7 1 d8
    · refine r_iload C 0 dX5_makePlan_118 rfl ?_
      refine r_aload_n C 1 dX5_makePlan_120 rfl rfl ?_
      refine r_getI C dX5_makePlan_121 fl_X5_44 la_58 ly_58 rfl ?_
      refine r_icmp_ne C 144 dX5_makePlan_124 (by decide) (fun _ => ?_) (fun _ => ?_)
      · refine r_iconst C dX5_makePlan_144 ?_
        refine ss_wide (k' := 0) (n' := 0) (by decide) (by decide) ?_
        refine ss_ls [(0, rf G 58), (1, rf G 9), (2, i9 v2), (3, i9 v3), (4, i9 v4), (5, i9 v5), (6, i9 r7)] [1, 2, 3, 4, 5, 6, 0] rfl ?_
        exact s_X5_makePlan_58_9_c145 C k_X5_makePlan_58_9_c83 hk_X5_makePlan_58_9_c83 v2 v3 v4 v5 r7 0 d8
      · refine r_aload_n C 1 dX5_makePlan_127 rfl rfl ?_
        refine r_getR C 61 dX5_makePlan_128 fl_X5_18 la_58 ly_58 rfl rfl ?_
        refine r_iconst C dX5_makePlan_131 ?_
        refine r_iald C dX5_makePlan_132 la_61 ly_61 (fun t9 => ?_)
        refine r_aload_n C 1 dX5_makePlan_133 rfl rfl ?_
        refine r_getI C dX5_makePlan_134 fl_X5_34 la_58 ly_58 rfl ?_
        refine r_icmp_ge C 144 dX5_makePlan_137 (by decide) (fun _ => ?_) (fun _ => ?_)
        · refine r_iconst C dX5_makePlan_144 ?_
          refine ss_wide (k' := 0) (n' := 0) (by decide) (by decide) ?_
          refine ss_ls [(0, rf G 58), (1, rf G 9), (2, i9 v2), (3, i9 v3), (4, i9 v4), (5, i9 v5), (6, i9 r7)] [1, 2, 3, 4, 5, 6, 0] rfl ?_
          exact s_X5_makePlan_58_9_c145 C k_X5_makePlan_58_9_c83 hk_X5_makePlan_58_9_c83 v2 v3 v4 v5 r7 0 d8
        · refine r_iconst C dX5_makePlan_140 ?_
          refine r_goto C 145 dX5_makePlan_141 (by decide) ?_
          refine ss_wide (k' := 0) (n' := 0) (by decide) (by decide) ?_
          refine ss_ls [(0, rf G 58), (1, rf G 9), (2, i9 v2), (3, i9 v3), (4, i9 v4), (5, i9 v5), (6, i9 r7)] [1, 2, 3, 4, 5, 6, 0] rfl ?_
          exact s_X5_makePlan_58_9_c145 C k_X5_makePlan_58_9_c83 hk_X5_makePlan_58_9_c83 v2 v3 v4 v5 r7 1 d8
theorem s_X5_makePlan_58_9_c83 {G : G9} {X : X9} (C : CX G X cX5_makePlan 8 RX5 [] z_X5_makePlan_58_9) : ∀ (v2 v3 v4 v5 : Int) (d : D9), SS G X 8 0 0 83 [(0, rf G 58), (1, rf G 9), (2, i9 v2), (3, i9 v3), (4, i9 v4), (5, i9 v5)] [] d (m_X5_makePlan_58_9_c83  v2 v3 v4 v5 d) :=
  fix9_ind (P := fun k => ∀ (v2 v3 v4 v5 : Int) (d : D9), SS G X 8 0 0 83 [(0, rf G 58), (1, rf G 9), (2, i9 v2), (3, i9 v3), (4, i9 v4), (5, i9 v5)] [] d (k v2 v3 v4 v5 d)) (fun _ _ _ _ _ => ss_none) (fun k hk => sb_X5_makePlan_58_9_c83 C k hk) FU
set_option maxRecDepth 100000 in
theorem sb_X5_makePlan_58_9_c47 {G : G9} {X : X9} (C : CX G X cX5_makePlan 8 RX5 [] z_X5_makePlan_58_9) (k_X5_makePlan_58_9_c47 : Int → Int → Int → Int → D9 → Option R9) (hk_X5_makePlan_58_9_c47 : ∀ (v2 v3 v4 v5 : Int) (d : D9), SS G X 8 0 0 47 [(0, rf G 58), (1, rf G 9), (2, i9 v2), (3, i9 v3), (4, i9 v4), (5, i9 v5)] [] d (k_X5_makePlan_58_9_c47 v2 v3 v4 v5 d)) : ∀ (v2 v3 v4 v5 : Int) (d : D9), SS G X 8 0 0 47 [(0, rf G 58), (1, rf G 9), (2, i9 v2), (3, i9 v3), (4, i9 v4), (5, i9 v5)] [] d (b_X5_makePlan_58_9_c47 k_X5_makePlan_58_9_c47 v2 v3 v4 v5 d) := by
  intro v2 v3 v4 v5 d
  unfold b_X5_makePlan_58_9_c47
  refine r_iload C 5 dX5_makePlan_47 rfl ?_
  refine r_iload_n C 3 dX5_makePlan_49 rfl rfl ?_
  refine r_icmp_ge C 80 dX5_makePlan_50 (by decide) (fun _ => ?_) (fun _ => ?_)
  · refine r_iconst C dX5_makePlan_80 ?_
    refine r_istore C [(5, i9 1), (0, rf G 58), (1, rf G 9), (2, i9 v2), (3, i9 v3), (4, i9 v4)] dX5_makePlan_81 (by decide) rfl ?_
    refine ss_wide (k' := 0) (n' := 0) (by decide) (by decide) ?_
    refine ss_ls [(0, rf G 58), (1, rf G 9), (2, i9 v2), (3, i9 v3), (4, i9 v4), (5, i9 1)] [1, 2, 3, 4, 5, 0] rfl ?_
    exact s_X5_makePlan_58_9_c83 C  v2 v3 v4 1 d
  · refine r_aload_n C 0 dX5_makePlan_53 rfl rfl ?_
    refine r_getR C 61 dX5_makePlan_54 fl_X5_18 la_58 ly_58 rfl rfl ?_
    refine r_iload C 5 dX5_makePlan_57 rfl ?_
    refine r_iconst C dX5_makePlan_59 ?_
    refine r_iast C dX5_makePlan_60 la_61 ly_61 (fun d1 => ?_)
    refine r_aload_n C 0 dX5_makePlan_61 rfl rfl ?_
    refine r_getR C 62 dX5_makePlan_62 fl_X5_21 la_58 ly_58 rfl rfl ?_
    refine r_iload C 5 dX5_makePlan_65 rfl ?_
    refine r_aload_n C 0 dX5_makePlan_67 rfl rfl ?_
    refine r_getR C 62 dX5_makePlan_68 fl_X5_21 la_58 ly_58 rfl rfl ?_
    refine r_iload_n C 3 dX5_makePlan_71 rfl rfl ?_
    refine r_iald C dX5_makePlan_72 la_62 ly_62 (fun t2 => ?_)
    refine r_iast C dX5_makePlan_73 la_62 ly_62 (fun d3 => ?_)
    refine r_iinc C 5 [(5, i9 (v5 + 1)), (0, rf G 58), (1, rf G 9), (2, i9 v2), (3, i9 v3), (4, i9 v4)] dX5_makePlan_74 rfl (by decide) rfl ?_
    refine r_goto C 47 dX5_makePlan_77 (by decide) ?_
    refine ss_wide (k' := 0) (n' := 0) (by decide) (by decide) ?_
    refine ss_ls [(0, rf G 58), (1, rf G 9), (2, i9 v2), (3, i9 v3), (4, i9 v4), (5, i9 (v5 + 1))] [1, 2, 3, 4, 5, 0] rfl ?_
    exact hk_X5_makePlan_58_9_c47 v2 v3 v4 (v5 + 1) d3
theorem s_X5_makePlan_58_9_c47 {G : G9} {X : X9} (C : CX G X cX5_makePlan 8 RX5 [] z_X5_makePlan_58_9) : ∀ (v2 v3 v4 v5 : Int) (d : D9), SS G X 8 0 0 47 [(0, rf G 58), (1, rf G 9), (2, i9 v2), (3, i9 v3), (4, i9 v4), (5, i9 v5)] [] d (m_X5_makePlan_58_9_c47  v2 v3 v4 v5 d) :=
  fix9_ind (P := fun k => ∀ (v2 v3 v4 v5 : Int) (d : D9), SS G X 8 0 0 47 [(0, rf G 58), (1, rf G 9), (2, i9 v2), (3, i9 v3), (4, i9 v4), (5, i9 v5)] [] d (k v2 v3 v4 v5 d)) (fun _ _ _ _ _ => ss_none) (fun k hk => sb_X5_makePlan_58_9_c47 C k hk) FU
set_option maxRecDepth 100000 in
theorem t_X5_makePlan_58_9 {G : G9} {l : Launch} (h1 : va_D (A9 G) (wl G (fun _ _ => 0))) (h2 : l.stackTraces = false) (p2 : Int) (d : D9) : MT G l yX5_makePlan cX5_makePlan 8 z_X5_makePlan_58_9 [rf G 58, rf G 9, i9 p2] d (m_X5_makePlan_58_9 p2 d) := by
  refine mt_of (own := RX5) (by decide) rfl (Nat.le_of_ble_eq_true rfl) h1 h2 [(0, rf G 58), (1, rf G 9), (2, i9 p2)] rfl (fun X hX C => ?_)
  unfold m_X5_makePlan_58_9
  refine r_aload_n C 0 dX5_makePlan_0 rfl rfl ?_
  refine r_aload_n C 1 dX5_makePlan_1 rfl rfl ?_
  refine r_callV C [rf G 9, rf G 58] dX5_makePlan_2 (t_X5_findChoices_58_9 C.h1 C.h2 d) mw_X5_24 mv_X5_findChoices la_58 ly_58 rfl (by decide) (by decide) (by decide) rfl rfl (Nat.le_of_ble_eq_true rfl) (fun r1 d2 => ?_)
  show SS G X 8 _ _ 5 [(0, rf G 58), (1, rf G 9), (2, i9 p2)] [i9 r1] d2 _
  refine r_istore_n C [(3, i9 r1), (0, rf G 58), (1, rf G 9), (2, i9 p2)] dX5_makePlan_5 rfl (by decide) rfl ?_
  refine r_aload_n C 1 dX5_makePlan_6 rfl rfl ?_
  refine r_getR C 61 dX5_makePlan_7 fl_X5_18 la_58 ly_58 rfl rfl ?_
  refine r_iload_n C 0 dX5_makePlan_10 rfl rfl ?_
  refine r_iconst C dX5_makePlan_11 ?_
  refine r_iast C dX5_makePlan_12 la_61 ly_61 (fun d3 => ?_)
  refine r_aload_n C 1 dX5_makePlan_13 rfl rfl ?_
  refine r_getR C 62 dX5_makePlan_14 fl_X5_21 la_58 ly_58 rfl rfl ?_
  refine r_iload_n C 0 dX5_makePlan_17 rfl rfl ?_
  refine r_aload_n C 2 dX5_makePlan_18 rfl rfl ?_
  refine r_callV C [rf G 9, i9 r1, rf G 62] dX5_makePlan_19 (t_X6_datedPaints_9 C.h1 C.h2 d3) mw_X5_28 mv_X6_datedPaints la_9 ly_9 rfl (by decide) (by decide) (by decide) rfl rfl (Nat.le_of_ble_eq_true rfl) (fun r4 d5 => ?_)
  show SS G X 8 _ _ 22 [(3, i9 r1), (0, rf G 58), (1, rf G 9), (2, i9 p2)] [i9 r4, i9 r1, rf G 62] d5 _
  refine r_iast C dX5_makePlan_22 la_62 ly_62 (fun d6 => ?_)
  refine r_iconst C dX5_makePlan_23 ?_
  refine r_istore C [(4, i9 0), (3, i9 r1), (0, rf G 58), (1, rf G 9), (2, i9 p2)] dX5_makePlan_24 (by decide) rfl ?_
  refine r_aload_n C 2 dX5_makePlan_26 rfl rfl ?_
  refine r_iconst C dX5_makePlan_27 ?_
  refine r_putI C dX5_makePlan_28 fp_X5_34 la_58 ly_58 rfl (fun d7 => ?_)
  refine r_aload_n C 2 dX5_makePlan_31 rfl rfl ?_
  refine r_aload_n C 2 dX5_makePlan_32 rfl rfl ?_
  refine r_getR C 62 dX5_makePlan_33 fl_X5_21 la_58 ly_58 rfl rfl ?_
  refine r_iload_n C 1 dX5_makePlan_36 rfl rfl ?_
  refine r_iald C dX5_makePlan_37 la_62 ly_62 (fun t8 => ?_)
  refine r_callS C [i9 t8, rf G 58] dX5_makePlan_38 (t_J6_bitCount_0f7a4 C.h1 C.h2 t8 d7) mw_X5_38 ms_J6_bitCount_0f7a4 (by decide) (by decide) (by decide) rfl rfl (Nat.le_of_ble_eq_true rfl) (fun r9 d10 => ?_)
  show SS G X 8 _ _ 41 [(4, i9 0), (3, i9 r1), (0, rf G 58), (1, rf G 9), (2, i9 p2)] [i9 r9, rf G 58] d10 _
  refine r_putI C dX5_makePlan_41 fp_X5_44 la_58 ly_58 rfl (fun d11 => ?_)
  refine r_iconst C dX5_makePlan_44 ?_
  refine r_istore C [(5, i9 0), (4, i9 0), (3, i9 r1), (0, rf G 58), (1, rf G 9), (2, i9 p2)] dX5_makePlan_45 (by decide) rfl ?_
  refine ss_wide (k' := 0) (n' := 0) (by decide) (by decide) ?_
  refine ss_ls [(0, rf G 58), (1, rf G 9), (2, i9 p2), (3, i9 r1), (4, i9 0), (5, i9 0)] [3, 4, 5, 2, 1, 0] rfl ?_
  exact s_X5_makePlan_58_9_c47 C  p2 r1 0 0 d11
theorem dX5_isFact_0 : decode cX5_isFact 0 = .ok (.aload_n 1, 1) := by decide +kernel
theorem dX5_isFact_1 : decode cX5_isFact 1 = .ok (.getfield 87, 3) := by decide +kernel
theorem dX5_isFact_4 : decode cX5_isFact 4 = .ok (.astore 5, 2) := by decide +kernel
theorem dX5_isFact_6 : decode cX5_isFact 6 = .ok (.aload 5, 2) := by decide +kernel
theorem dX5_isFact_8 : decode cX5_isFact 8 = .ok (.iload 4, 2) := by decide +kernel
theorem dX5_isFact_10 : decode cX5_isFact 10 = .ok (.invokevirtual 64, 3) := by decide +kernel
theorem dX5_isFact_13 : decode cX5_isFact 13 = .ok (.istore 6, 2) := by decide +kernel
theorem dX5_isFact_15 : decode cX5_isFact 15 = .ok (.aload 5, 2) := by decide +kernel
theorem dX5_isFact_17 : decode cX5_isFact 17 = .ok (.getfield 71, 3) := by decide +kernel
theorem dX5_isFact_20 : decode cX5_isFact 20 = .ok (.iload 4, 2) := by decide +kernel
theorem dX5_isFact_22 : decode cX5_isFact 22 = .ok (.iaload, 1) := by decide +kernel
theorem dX5_isFact_23 : decode cX5_isFact 23 = .ok (.istore 7, 2) := by decide +kernel
theorem dX5_isFact_25 : decode cX5_isFact 25 = .ok (.aload_n 1, 1) := by decide +kernel
theorem dX5_isFact_26 : decode cX5_isFact 26 = .ok (.getfield 99, 3) := by decide +kernel
theorem dX5_isFact_29 : decode cX5_isFact 29 = .ok (.getfield 151, 3) := by decide +kernel
theorem dX5_isFact_32 : decode cX5_isFact 32 = .ok (.iload 7, 2) := by decide +kernel
theorem dX5_isFact_34 : decode cX5_isFact 34 = .ok (.iaload, 1) := by decide +kernel
theorem dX5_isFact_35 : decode cX5_isFact 35 = .ok (.istore 8, 2) := by decide +kernel
theorem dX5_isFact_37 : decode cX5_isFact 37 = .ok (.iload_n 2, 1) := by decide +kernel
theorem dX5_isFact_38 : decode cX5_isFact 38 = .ok (.tableswitch 195 16 23 #[46, 64, 82, 98, 132, 149, 172, 115], 46) := by decide +kernel
theorem dX5_isFact_84 : decode cX5_isFact 84 = .ok (.aload 5, 2) := by decide +kernel
theorem dX5_isFact_86 : decode cX5_isFact 86 = .ok (.getfield 68, 3) := by decide +kernel
theorem dX5_isFact_89 : decode cX5_isFact 89 = .ok (.iload 4, 2) := by decide +kernel
theorem dX5_isFact_91 : decode cX5_isFact 91 = .ok (.iaload, 1) := by decide +kernel
theorem dX5_isFact_92 : decode cX5_isFact 92 = .ok (.iload_n 3, 1) := by decide +kernel
theorem dX5_isFact_93 : decode cX5_isFact 93 = .ok (.if_icmp .gt 7, 3) := by decide +kernel
theorem dX5_isFact_96 : decode cX5_isFact 96 = .ok (.iconst 1, 1) := by decide +kernel
theorem dX5_isFact_97 : decode cX5_isFact 97 = .ok (.goto 4, 3) := by decide +kernel
theorem dX5_isFact_100 : decode cX5_isFact 100 = .ok (.iconst 0, 1) := by decide +kernel
theorem dX5_isFact_101 : decode cX5_isFact 101 = .ok (.ireturn, 1) := by decide +kernel
theorem dX5_isFact_102 : decode cX5_isFact 102 = .ok (.aload 5, 2) := by decide +kernel
theorem dX5_isFact_104 : decode cX5_isFact 104 = .ok (.getfield 154, 3) := by decide +kernel
theorem dX5_isFact_107 : decode cX5_isFact 107 = .ok (.iload 4, 2) := by decide +kernel
theorem dX5_isFact_109 : decode cX5_isFact 109 = .ok (.iaload, 1) := by decide +kernel
theorem dX5_isFact_110 : decode cX5_isFact 110 = .ok (.iload_n 3, 1) := by decide +kernel
theorem dX5_isFact_111 : decode cX5_isFact 111 = .ok (.if_icmp .ne 7, 3) := by decide +kernel
theorem dX5_isFact_114 : decode cX5_isFact 114 = .ok (.iconst 1, 1) := by decide +kernel
theorem dX5_isFact_115 : decode cX5_isFact 115 = .ok (.goto 4, 3) := by decide +kernel
theorem dX5_isFact_118 : decode cX5_isFact 118 = .ok (.iconst 0, 1) := by decide +kernel
theorem dX5_isFact_119 : decode cX5_isFact 119 = .ok (.ireturn, 1) := by decide +kernel
theorem dX5_isFact_120 : decode cX5_isFact 120 = .ok (.iload 6, 2) := by decide +kernel
theorem dX5_isFact_122 : decode cX5_isFact 122 = .ok (.ifCond .eq 12, 3) := by decide +kernel
theorem dX5_isFact_125 : decode cX5_isFact 125 = .ok (.iload 8, 2) := by decide +kernel
theorem dX5_isFact_127 : decode cX5_isFact 127 = .ok (.ifCond .ne 7, 3) := by decide +kernel
theorem dX5_isFact_130 : decode cX5_isFact 130 = .ok (.iconst 1, 1) := by decide +kernel
theorem dX5_isFact_131 : decode cX5_isFact 131 = .ok (.goto 4, 3) := by decide +kernel
theorem dX5_isFact_134 : decode cX5_isFact 134 = .ok (.iconst 0, 1) := by decide +kernel
theorem dX5_isFact_135 : decode cX5_isFact 135 = .ok (.ireturn, 1) := by decide +kernel
theorem dX5_isFact_136 : decode cX5_isFact 136 = .ok (.iload 6, 2) := by decide +kernel
theorem dX5_isFact_138 : decode cX5_isFact 138 = .ok (.ifCond .eq 13, 3) := by decide +kernel
theorem dX5_isFact_141 : decode cX5_isFact 141 = .ok (.iload 8, 2) := by decide +kernel
theorem dX5_isFact_143 : decode cX5_isFact 143 = .ok (.iconst 1, 1) := by decide +kernel
theorem dX5_isFact_144 : decode cX5_isFact 144 = .ok (.if_icmp .ne 7, 3) := by decide +kernel
theorem dX5_isFact_147 : decode cX5_isFact 147 = .ok (.iconst 1, 1) := by decide +kernel
theorem dX5_isFact_148 : decode cX5_isFact 148 = .ok (.goto 4, 3) := by decide +kernel
theorem dX5_isFact_151 : decode cX5_isFact 151 = .ok (.iconst 0, 1) := by decide +kernel
theorem dX5_isFact_152 : decode cX5_isFact 152 = .ok (.ireturn, 1) := by decide +kernel
theorem dX5_isFact_153 : decode cX5_isFact 153 = .ok (.iload 6, 2) := by decide +kernel
theorem dX5_isFact_155 : decode cX5_isFact 155 = .ok (.ifCond .eq 13, 3) := by decide +kernel
theorem dX5_isFact_158 : decode cX5_isFact 158 = .ok (.iload 8, 2) := by decide +kernel
theorem dX5_isFact_160 : decode cX5_isFact 160 = .ok (.iconst 2, 1) := by decide +kernel
theorem dX5_isFact_161 : decode cX5_isFact 161 = .ok (.if_icmp .ne 7, 3) := by decide +kernel
theorem dX5_isFact_164 : decode cX5_isFact 164 = .ok (.iconst 1, 1) := by decide +kernel
theorem dX5_isFact_165 : decode cX5_isFact 165 = .ok (.goto 4, 3) := by decide +kernel
theorem dX5_isFact_168 : decode cX5_isFact 168 = .ok (.iconst 0, 1) := by decide +kernel
theorem dX5_isFact_169 : decode cX5_isFact 169 = .ok (.ireturn, 1) := by decide +kernel
theorem dX5_isFact_170 : decode cX5_isFact 170 = .ok (.iload 6, 2) := by decide +kernel
theorem dX5_isFact_172 : decode cX5_isFact 172 = .ok (.ifCond .eq 13, 3) := by decide +kernel
theorem dX5_isFact_175 : decode cX5_isFact 175 = .ok (.iload 8, 2) := by decide +kernel
theorem dX5_isFact_177 : decode cX5_isFact 177 = .ok (.iconst 3, 1) := by decide +kernel
theorem dX5_isFact_178 : decode cX5_isFact 178 = .ok (.if_icmp .ne 7, 3) := by decide +kernel
theorem dX5_isFact_181 : decode cX5_isFact 181 = .ok (.iconst 1, 1) := by decide +kernel
theorem dX5_isFact_182 : decode cX5_isFact 182 = .ok (.goto 4, 3) := by decide +kernel
theorem dX5_isFact_185 : decode cX5_isFact 185 = .ok (.iconst 0, 1) := by decide +kernel
theorem dX5_isFact_186 : decode cX5_isFact 186 = .ok (.ireturn, 1) := by decide +kernel
theorem dX5_isFact_187 : decode cX5_isFact 187 = .ok (.iload 6, 2) := by decide +kernel
theorem dX5_isFact_189 : decode cX5_isFact 189 = .ok (.ifCond .eq 19, 3) := by decide +kernel
theorem dX5_isFact_192 : decode cX5_isFact 192 = .ok (.aload_n 0, 1) := by decide +kernel
theorem dX5_isFact_193 : decode cX5_isFact 193 = .ok (.getfield 93, 3) := by decide +kernel
theorem dX5_isFact_196 : decode cX5_isFact 196 = .ok (.iload 7, 2) := by decide +kernel
theorem dX5_isFact_198 : decode cX5_isFact 198 = .ok (.invokestatic 74, 3) := by decide +kernel
theorem dX5_isFact_201 : decode cX5_isFact 201 = .ok (.ifCond .ne 7, 3) := by decide +kernel
theorem dX5_isFact_204 : decode cX5_isFact 204 = .ok (.iconst 1, 1) := by decide +kernel
theorem dX5_isFact_205 : decode cX5_isFact 205 = .ok (.goto 4, 3) := by decide +kernel
theorem dX5_isFact_208 : decode cX5_isFact 208 = .ok (.iconst 0, 1) := by decide +kernel
theorem dX5_isFact_209 : decode cX5_isFact 209 = .ok (.ireturn, 1) := by decide +kernel
theorem dX5_isFact_210 : decode cX5_isFact 210 = .ok (.iload 6, 2) := by decide +kernel
theorem dX5_isFact_212 : decode cX5_isFact 212 = .ok (.ifCond .eq 19, 3) := by decide +kernel
theorem dX5_isFact_215 : decode cX5_isFact 215 = .ok (.aload_n 0, 1) := by decide +kernel
theorem dX5_isFact_216 : decode cX5_isFact 216 = .ok (.getfield 96, 3) := by decide +kernel
theorem dX5_isFact_219 : decode cX5_isFact 219 = .ok (.iload 7, 2) := by decide +kernel
theorem dX5_isFact_221 : decode cX5_isFact 221 = .ok (.invokestatic 74, 3) := by decide +kernel
theorem dX5_isFact_224 : decode cX5_isFact 224 = .ok (.ifCond .eq 7, 3) := by decide +kernel
theorem dX5_isFact_227 : decode cX5_isFact 227 = .ok (.iconst 1, 1) := by decide +kernel
theorem dX5_isFact_228 : decode cX5_isFact 228 = .ok (.goto 4, 3) := by decide +kernel
theorem dX5_isFact_231 : decode cX5_isFact 231 = .ok (.iconst 0, 1) := by decide +kernel
theorem dX5_isFact_232 : decode cX5_isFact 232 = .ok (.ireturn, 1) := by decide +kernel
theorem dX5_isFact_233 : decode cX5_isFact 233 = .ok (.iconst 0, 1) := by decide +kernel
theorem dX5_isFact_234 : decode cX5_isFact 234 = .ok (.ireturn, 1) := by decide +kernel
abbrev z_X5_isFact_58_1 : Z9 := (some .boolean, 1, 0, 0, 2, 21)
def m_X5_isFact_58_1 (p2 p3 p4 : Int) (d : D9) : Option R9 := cl (m_X6_touches_9 p4 d) (fun r1 d2 => ld d2 12 30 p4 (fun t3 => ld d2 3 30 t3 (fun t4 => if w32 p2 = 16 then ld d2 13 30 p4 (fun t6 => if w32 p3 < w32 t6 then rt (0 % 2) d2 else rt (1 % 2) d2) else if w32 p2 = 17 then ld d2 10 30 p4 (fun t8 => if w32 t8 ≠ w32 p3 then rt (0 % 2) d2 else rt (1 % 2) d2) else if w32 p2 = 18 then if w32 r1 = 0 then rt (0 % 2) d2 else if w32 t4 ≠ 0 then rt (0 % 2) d2 else rt (1 % 2) d2 else if w32 p2 = 19 then if w32 r1 = 0 then rt (0 % 2) d2 else if w32 t4 ≠ w32 1 then rt (0 % 2) d2 else rt (1 % 2) d2 else if w32 p2 = 20 then if w32 r1 = 0 then rt (0 % 2) d2 else if w32 t4 ≠ w32 3 then rt (0 % 2) d2 else rt (1 % 2) d2 else if w32 p2 = 21 then if w32 r1 = 0 then rt (0 % 2) d2 else cl (m_X11_isIn (d2 58 4) t3 d2) (fun r13 d14 => if w32 r13 ≠ 0 then rt (0 % 2) d14 else rt (1 % 2) d14) else if w32 p2 = 22 then if w32 r1 = 0 then rt (0 % 2) d2 else cl (m_X11_isIn (d2 58 8) t3 d2) (fun r16 d17 => if w32 r16 = 0 then rt (0 % 2) d17 else rt (1 % 2) d17) else if w32 p2 = 23 then if w32 r1 = 0 then rt (0 % 2) d2 else if w32 t4 ≠ w32 2 then rt (0 % 2) d2 else rt (1 % 2) d2 else rt (0 % 2) d2)))
set_option maxRecDepth 100000 in
theorem t_X5_isFact_58_1 {G : G9} {l : Launch} (h1 : va_D (A9 G) (wl G (fun _ _ => 0))) (h2 : l.stackTraces = false) (p2 p3 p4 : Int) (d : D9) : MT G l yX5_isFact cX5_isFact 9 z_X5_isFact_58_1 [rf G 58, rf G 1, i9 p2, i9 p3, i9 p4] d (m_X5_isFact_58_1 p2 p3 p4 d) := by
  refine mt_of (own := RX5) (by decide) rfl (Nat.le_of_ble_eq_true rfl) h1 h2 [(0, rf G 58), (1, rf G 1), (2, i9 p2), (3, i9 p3), (4, i9 p4)] rfl (fun X hX C => ?_)
  unfold m_X5_isFact_58_1
  refine r_aload_n C 1 dX5_isFact_0 rfl rfl ?_
  refine r_getR C 9 dX5_isFact_1 fl_X5_87 la_1 ly_1 rfl rfl ?_
  refine r_astore C [(5, rf G 9), (0, rf G 58), (1, rf G 1), (2, i9 p2), (3, i9 p3), (4, i9 p4)] dX5_isFact_4 (by decide) rfl ?_
  refine r_aload C 0 dX5_isFact_6 rfl ?_
  refine r_iload C 5 dX5_isFact_8 rfl ?_
  refine r_callV C [i9 p4, rf G 9] dX5_isFact_10 (t_X6_touches_9 C.h1 C.h2 p4 d) mw_X5_64 mv_X6_touches la_9 ly_9 rfl (by decide) (by decide) (by decide) rfl rfl (Nat.le_of_ble_eq_true rfl) (fun r1 d2 => ?_)
  show SS G X 9 _ _ 13 [(5, rf G 9), (0, rf G 58), (1, rf G 1), (2, i9 p2), (3, i9 p3), (4, i9 p4)] [i9 r1] d2 _
  refine r_istore C [(6, i9 r1), (5, rf G 9), (0, rf G 58), (1, rf G 1), (2, i9 p2), (3, i9 p3), (4, i9 p4)] dX5_isFact_13 (by decide) rfl ?_
  refine r_aload C 1 dX5_isFact_15 rfl ?_
  refine r_getR C 12 dX5_isFact_17 fl_X5_71 la_9 ly_9 rfl rfl ?_
  refine r_iload C 6 dX5_isFact_20 rfl ?_
  refine r_iald C dX5_isFact_22 la_12 ly_12 (fun t3 => ?_)
  refine r_istore C [(7, i9 t3), (6, i9 r1), (5, rf G 9), (0, rf G 58), (1, rf G 1), (2, i9 p2), (3, i9 p3), (4, i9 p4)] dX5_isFact_23 (by decide) rfl ?_
  refine r_aload_n C 4 dX5_isFact_25 rfl rfl ?_
  refine r_getR C 2 dX5_isFact_26 fl_X5_99 la_1 ly_1 rfl rfl ?_
  refine r_getR C 3 dX5_isFact_29 fl_X5_151 la_2 ly_2 rfl rfl ?_
  refine r_iload C 0 dX5_isFact_32 rfl ?_
  refine r_iald C dX5_isFact_34 la_3 ly_3 (fun t4 => ?_)
  refine r_istore C [(8, i9 t4), (7, i9 t3), (6, i9 r1), (5, rf G 9), (0, rf G 58), (1, rf G 1), (2, i9 p2), (3, i9 p3), (4, i9 p4)] dX5_isFact_35 (by decide) rfl ?_
  refine r_iload_n C 6 dX5_isFact_37 rfl rfl ?_
  refine r_tsw C 0 16 84 dX5_isFact_38 (by decide) rfl (by decide) (fun _ => ?_) (fun h5 => ?_)
  · refine r_aload C 3 dX5_isFact_84 rfl ?_
    refine r_getR C 13 dX5_isFact_86 fl_X5_68 la_9 ly_9 rfl rfl ?_
    refine r_iload C 8 dX5_isFact_89 rfl ?_
    refine r_iald C dX5_isFact_91 la_13 ly_13 (fun t6 => ?_)
    refine r_iload_n C 7 dX5_isFact_92 rfl rfl ?_
    refine r_icmp_gt C 100 dX5_isFact_93 (by decide) (fun _ => ?_) (fun _ => ?_)
    · refine r_iconst C dX5_isFact_100 ?_
      exact r_zret C dX5_isFact_101 (by decide) (by decide)
    · refine r_iconst C dX5_isFact_96 ?_
      refine r_goto C 101 dX5_isFact_97 (by decide) ?_
      exact r_zret C dX5_isFact_101 (by decide) (by decide)
  refine r_tsw C 1 17 102 dX5_isFact_38 (by decide) rfl (by decide) (fun _ => ?_) (fun h7 => ?_)
  · refine r_aload C 3 dX5_isFact_102 rfl ?_
    refine r_getR C 10 dX5_isFact_104 fl_X5_154 la_9 ly_9 rfl rfl ?_
    refine r_iload C 8 dX5_isFact_107 rfl ?_
    refine r_iald C dX5_isFact_109 la_10 ly_10 (fun t8 => ?_)
    refine r_iload_n C 7 dX5_isFact_110 rfl rfl ?_
    refine r_icmp_ne C 118 dX5_isFact_111 (by decide) (fun _ => ?_) (fun _ => ?_)
    · refine r_iconst C dX5_isFact_118 ?_
      exact r_zret C dX5_isFact_119 (by decide) (by decide)
    · refine r_iconst C dX5_isFact_114 ?_
      refine r_goto C 119 dX5_isFact_115 (by decide) ?_
      exact r_zret C dX5_isFact_119 (by decide) (by decide)
  refine r_tsw C 2 18 120 dX5_isFact_38 (by decide) rfl (by decide) (fun _ => ?_) (fun h9 => ?_)
  · refine r_iload C 2 dX5_isFact_120 rfl ?_
    refine r_if_eq C (b := 0) 134 dX5_isFact_122 (by decide) (fun _ => ?_) (fun _ => ?_)
    · refine r_iconst C dX5_isFact_134 ?_
      exact r_zret C dX5_isFact_135 (by decide) (by decide)
    · refine r_iload C 0 dX5_isFact_125 rfl ?_
      refine r_if_ne C (b := 0) 134 dX5_isFact_127 (by decide) (fun _ => ?_) (fun _ => ?_)
      · refine r_iconst C dX5_isFact_134 ?_
        exact r_zret C dX5_isFact_135 (by decide) (by decide)
      · refine r_iconst C dX5_isFact_130 ?_
        refine r_goto C 135 dX5_isFact_131 (by decide) ?_
        exact r_zret C dX5_isFact_135 (by decide) (by decide)
  refine r_tsw C 3 19 136 dX5_isFact_38 (by decide) rfl (by decide) (fun _ => ?_) (fun h10 => ?_)
  · refine r_iload C 2 dX5_isFact_136 rfl ?_
    refine r_if_eq C (b := 0) 151 dX5_isFact_138 (by decide) (fun _ => ?_) (fun _ => ?_)
    · refine r_iconst C dX5_isFact_151 ?_
      exact r_zret C dX5_isFact_152 (by decide) (by decide)
    · refine r_iload C 0 dX5_isFact_141 rfl ?_
      refine r_iconst C dX5_isFact_143 ?_
      refine r_icmp_ne C 151 dX5_isFact_144 (by decide) (fun _ => ?_) (fun _ => ?_)
      · refine r_iconst C dX5_isFact_151 ?_
        exact r_zret C dX5_isFact_152 (by decide) (by decide)
      · refine r_iconst C dX5_isFact_147 ?_
        refine r_goto C 152 dX5_isFact_148 (by decide) ?_
        exact r_zret C dX5_isFact_152 (by decide) (by decide)
  refine r_tsw C 4 20 170 dX5_isFact_38 (by decide) rfl (by decide) (fun _ => ?_) (fun h11 => ?_)
  · refine r_iload C 2 dX5_isFact_170 rfl ?_
    refine r_if_eq C (b := 0) 185 dX5_isFact_172 (by decide) (fun _ => ?_) (fun _ => ?_)
    · refine r_iconst C dX5_isFact_185 ?_
      exact r_zret C dX5_isFact_186 (by decide) (by decide)
    · refine r_iload C 0 dX5_isFact_175 rfl ?_
      refine r_iconst C dX5_isFact_177 ?_
      refine r_icmp_ne C 185 dX5_isFact_178 (by decide) (fun _ => ?_) (fun _ => ?_)
      · refine r_iconst C dX5_isFact_185 ?_
        exact r_zret C dX5_isFact_186 (by decide) (by decide)
      · refine r_iconst C dX5_isFact_181 ?_
        refine r_goto C 186 dX5_isFact_182 (by decide) ?_
        exact r_zret C dX5_isFact_186 (by decide) (by decide)
  refine r_tsw C 5 21 187 dX5_isFact_38 (by decide) rfl (by decide) (fun _ => ?_) (fun h12 => ?_)
  · refine r_iload C 2 dX5_isFact_187 rfl ?_
    refine r_if_eq C (b := 0) 208 dX5_isFact_189 (by decide) (fun _ => ?_) (fun _ => ?_)
    · refine r_iconst C dX5_isFact_208 ?_
      exact r_zret C dX5_isFact_209 (by decide) (by decide)
    · refine r_aload_n C 4 dX5_isFact_192 rfl rfl ?_
      refine r_getI C dX5_isFact_193 fl_X5_93 la_58 ly_58 rfl ?_
      refine r_iload C 1 dX5_isFact_196 rfl ?_
      refine r_callN C [i9 t3, i9 (d2 58 4)] dX5_isFact_198 (t_X11_isIn C.h1 C.h2 (d2 58 4) t3 d2) (n_X11_isIn (d2 58 4) t3 d2) mn_X5_74 ms_X11_isIn (by decide) (by decide) (by decide) rfl rfl (Nat.le_of_ble_eq_true rfl) (fun r13 d14 => ?_)
      show SS G X 9 _ _ 201 [(8, i9 t4), (7, i9 t3), (6, i9 r1), (5, rf G 9), (0, rf G 58), (1, rf G 1), (2, i9 p2), (3, i9 p3), (4, i9 p4)] [i9 r13] d14 _
      refine r_if_ne C (b := 0) 208 dX5_isFact_201 (by decide) (fun _ => ?_) (fun _ => ?_)
      · refine r_iconst C dX5_isFact_208 ?_
        exact r_zret C dX5_isFact_209 (by decide) (by decide)
      · refine r_iconst C dX5_isFact_204 ?_
        refine r_goto C 209 dX5_isFact_205 (by decide) ?_
        exact r_zret C dX5_isFact_209 (by decide) (by decide)
  refine r_tsw C 6 22 210 dX5_isFact_38 (by decide) rfl (by decide) (fun _ => ?_) (fun h15 => ?_)
  · refine r_iload C 2 dX5_isFact_210 rfl ?_
    refine r_if_eq C (b := 0) 231 dX5_isFact_212 (by decide) (fun _ => ?_) (fun _ => ?_)
    · refine r_iconst C dX5_isFact_231 ?_
      exact r_zret C dX5_isFact_232 (by decide) (by decide)
    · refine r_aload_n C 4 dX5_isFact_215 rfl rfl ?_
      refine r_getI C dX5_isFact_216 fl_X5_96 la_58 ly_58 rfl ?_
      refine r_iload C 1 dX5_isFact_219 rfl ?_
      refine r_callN C [i9 t3, i9 (d2 58 8)] dX5_isFact_221 (t_X11_isIn C.h1 C.h2 (d2 58 8) t3 d2) (n_X11_isIn (d2 58 8) t3 d2) mn_X5_74 ms_X11_isIn (by decide) (by decide) (by decide) rfl rfl (Nat.le_of_ble_eq_true rfl) (fun r16 d17 => ?_)
      show SS G X 9 _ _ 224 [(8, i9 t4), (7, i9 t3), (6, i9 r1), (5, rf G 9), (0, rf G 58), (1, rf G 1), (2, i9 p2), (3, i9 p3), (4, i9 p4)] [i9 r16] d17 _
      refine r_if_eq C (b := 0) 231 dX5_isFact_224 (by decide) (fun _ => ?_) (fun _ => ?_)
      · refine r_iconst C dX5_isFact_231 ?_
        exact r_zret C dX5_isFact_232 (by decide) (by decide)
      · refine r_iconst C dX5_isFact_227 ?_
        refine r_goto C 232 dX5_isFact_228 (by decide) ?_
        exact r_zret C dX5_isFact_232 (by decide) (by decide)
  refine r_tsw C 7 23 153 dX5_isFact_38 (by decide) rfl (by decide) (fun _ => ?_) (fun h18 => ?_)
  · refine r_iload C 2 dX5_isFact_153 rfl ?_
    refine r_if_eq C (b := 0) 168 dX5_isFact_155 (by decide) (fun _ => ?_) (fun _ => ?_)
    · refine r_iconst C dX5_isFact_168 ?_
      exact r_zret C dX5_isFact_169 (by decide) (by decide)
    · refine r_iload C 0 dX5_isFact_158 rfl ?_
      refine r_iconst C dX5_isFact_160 ?_
      refine r_icmp_ne C 168 dX5_isFact_161 (by decide) (fun _ => ?_) (fun _ => ?_)
      · refine r_iconst C dX5_isFact_168 ?_
        exact r_zret C dX5_isFact_169 (by decide) (by decide)
      · refine r_iconst C dX5_isFact_164 ?_
        refine r_goto C 169 dX5_isFact_165 (by decide) ?_
        exact r_zret C dX5_isFact_169 (by decide) (by decide)
  refine r_tswd C 233 dX5_isFact_38 (by omega) (by decide) ?_
  refine r_iconst C dX5_isFact_233 ?_
  exact r_zret C dX5_isFact_234 (by decide) (by decide)
theorem dX5_holds_0 : decode cX5_holds 0 = .ok (.aload_n 1, 1) := by decide +kernel
theorem dX5_holds_1 : decode cX5_holds 1 = .ok (.getfield 117, 3) := by decide +kernel
theorem dX5_holds_4 : decode cX5_holds 4 = .ok (.astore 4, 2) := by decide +kernel
theorem dX5_holds_6 : decode cX5_holds 6 = .ok (.iconst 1, 1) := by decide +kernel
theorem dX5_holds_7 : decode cX5_holds 7 = .ok (.istore 5, 2) := by decide +kernel
theorem dX5_holds_9 : decode cX5_holds 9 = .ok (.aload 4, 2) := by decide +kernel
theorem dX5_holds_11 : decode cX5_holds 11 = .ok (.getfield 138, 3) := by decide +kernel
theorem dX5_holds_14 : decode cX5_holds 14 = .ok (.iload_n 2, 1) := by decide +kernel
theorem dX5_holds_15 : decode cX5_holds 15 = .ok (.iaload, 1) := by decide +kernel
theorem dX5_holds_16 : decode cX5_holds 16 = .ok (.istore 6, 2) := by decide +kernel
theorem dX5_holds_18 : decode cX5_holds 18 = .ok (.iload 6, 2) := by decide +kernel
theorem dX5_holds_20 : decode cX5_holds 20 = .ok (.aload 4, 2) := by decide +kernel
theorem dX5_holds_22 : decode cX5_holds 22 = .ok (.getfield 141, 3) := by decide +kernel
theorem dX5_holds_25 : decode cX5_holds 25 = .ok (.iload_n 2, 1) := by decide +kernel
theorem dX5_holds_26 : decode cX5_holds 26 = .ok (.iaload, 1) := by decide +kernel
theorem dX5_holds_27 : decode cX5_holds 27 = .ok (.if_icmp .ge 131, 3) := by decide +kernel
theorem dX5_holds_30 : decode cX5_holds 30 = .ok (.aload 4, 2) := by decide +kernel
theorem dX5_holds_32 : decode cX5_holds 32 = .ok (.getfield 144, 3) := by decide +kernel
theorem dX5_holds_35 : decode cX5_holds 35 = .ok (.iload 6, 2) := by decide +kernel
theorem dX5_holds_37 : decode cX5_holds 37 = .ok (.iaload, 1) := by decide +kernel
theorem dX5_holds_38 : decode cX5_holds 38 = .ok (.sipush 1000, 3) := by decide +kernel
theorem dX5_holds_41 : decode cX5_holds 41 = .ok (.idiv, 1) := by decide +kernel
theorem dX5_holds_42 : decode cX5_holds 42 = .ok (.istore 7, 2) := by decide +kernel
theorem dX5_holds_44 : decode cX5_holds 44 = .ok (.iload 5, 2) := by decide +kernel
theorem dX5_holds_46 : decode cX5_holds 46 = .ok (.iconst 1, 1) := by decide +kernel
theorem dX5_holds_47 : decode cX5_holds 47 = .ok (.iand, 1) := by decide +kernel
theorem dX5_holds_48 : decode cX5_holds 48 = .ok (.istore 8, 2) := by decide +kernel
theorem dX5_holds_50 : decode cX5_holds 50 = .ok (.iload 7, 2) := by decide +kernel
theorem dX5_holds_52 : decode cX5_holds 52 = .ok (.bipush 15, 2) := by decide +kernel
theorem dX5_holds_54 : decode cX5_holds 54 = .ok (.if_icmp .ne 12, 3) := by decide +kernel
theorem dX5_holds_57 : decode cX5_holds 57 = .ok (.iload 5, 2) := by decide +kernel
theorem dX5_holds_59 : decode cX5_holds 59 = .ok (.iconst 1, 1) := by decide +kernel
theorem dX5_holds_60 : decode cX5_holds 60 = .ok (.ixor, 1) := by decide +kernel
theorem dX5_holds_61 : decode cX5_holds 61 = .ok (.istore 5, 2) := by decide +kernel
theorem dX5_holds_63 : decode cX5_holds 63 = .ok (.goto 89, 3) := by decide +kernel
theorem dX5_holds_66 : decode cX5_holds 66 = .ok (.iload 7, 2) := by decide +kernel
theorem dX5_holds_68 : decode cX5_holds 68 = .ok (.bipush 14, 2) := by decide +kernel
theorem dX5_holds_70 : decode cX5_holds 70 = .ok (.if_icmp .ne 28, 3) := by decide +kernel
theorem dX5_holds_73 : decode cX5_holds 73 = .ok (.iload 8, 2) := by decide +kernel
theorem dX5_holds_75 : decode cX5_holds 75 = .ok (.iconst 1, 1) := by decide +kernel
theorem dX5_holds_76 : decode cX5_holds 76 = .ok (.if_icmp .ne 10, 3) := by decide +kernel
theorem dX5_holds_79 : decode cX5_holds 79 = .ok (.iload 5, 2) := by decide +kernel
theorem dX5_holds_81 : decode cX5_holds 81 = .ok (.iconst 1, 1) := by decide +kernel
theorem dX5_holds_82 : decode cX5_holds 82 = .ok (.ishr, 1) := by decide +kernel
theorem dX5_holds_83 : decode cX5_holds 83 = .ok (.goto 10, 3) := by decide +kernel
theorem dX5_holds_86 : decode cX5_holds 86 = .ok (.iload 5, 2) := by decide +kernel
theorem dX5_holds_88 : decode cX5_holds 88 = .ok (.iconst 1, 1) := by decide +kernel
theorem dX5_holds_89 : decode cX5_holds 89 = .ok (.ishr, 1) := by decide +kernel
theorem dX5_holds_90 : decode cX5_holds 90 = .ok (.bipush (-2), 2) := by decide +kernel
theorem dX5_holds_92 : decode cX5_holds 92 = .ok (.iand, 1) := by decide +kernel
theorem dX5_holds_93 : decode cX5_holds 93 = .ok (.istore 5, 2) := by decide +kernel
theorem dX5_holds_95 : decode cX5_holds 95 = .ok (.goto 57, 3) := by decide +kernel
theorem dX5_holds_98 : decode cX5_holds 98 = .ok (.iload 7, 2) := by decide +kernel
theorem dX5_holds_100 : decode cX5_holds 100 = .ok (.bipush 13, 2) := by decide +kernel
theorem dX5_holds_102 : decode cX5_holds 102 = .ok (.if_icmp .ne 15, 3) := by decide +kernel
theorem dX5_holds_105 : decode cX5_holds 105 = .ok (.iload 5, 2) := by decide +kernel
theorem dX5_holds_107 : decode cX5_holds 107 = .ok (.iconst 1, 1) := by decide +kernel
theorem dX5_holds_108 : decode cX5_holds 108 = .ok (.ishr, 1) := by decide +kernel
theorem dX5_holds_109 : decode cX5_holds 109 = .ok (.iload 8, 2) := by decide +kernel
theorem dX5_holds_111 : decode cX5_holds 111 = .ok (.ior, 1) := by decide +kernel
theorem dX5_holds_112 : decode cX5_holds 112 = .ok (.istore 5, 2) := by decide +kernel
theorem dX5_holds_114 : decode cX5_holds 114 = .ok (.goto 38, 3) := by decide +kernel
theorem dX5_holds_117 : decode cX5_holds 117 = .ok (.iload 5, 2) := by decide +kernel
theorem dX5_holds_119 : decode cX5_holds 119 = .ok (.iconst 1, 1) := by decide +kernel
theorem dX5_holds_120 : decode cX5_holds 120 = .ok (.ishl, 1) := by decide +kernel
theorem dX5_holds_121 : decode cX5_holds 121 = .ok (.aload_n 0, 1) := by decide +kernel
theorem dX5_holds_122 : decode cX5_holds 122 = .ok (.aload_n 1, 1) := by decide +kernel
theorem dX5_holds_123 : decode cX5_holds 123 = .ok (.iload 7, 2) := by decide +kernel
theorem dX5_holds_125 : decode cX5_holds 125 = .ok (.aload 4, 2) := by decide +kernel
theorem dX5_holds_127 : decode cX5_holds 127 = .ok (.getfield 144, 3) := by decide +kernel
theorem dX5_holds_130 : decode cX5_holds 130 = .ok (.iload 6, 2) := by decide +kernel
theorem dX5_holds_132 : decode cX5_holds 132 = .ok (.iaload, 1) := by decide +kernel
theorem dX5_holds_133 : decode cX5_holds 133 = .ok (.sipush 1000, 3) := by decide +kernel
theorem dX5_holds_136 : decode cX5_holds 136 = .ok (.irem, 1) := by decide +kernel
theorem dX5_holds_137 : decode cX5_holds 137 = .ok (.iload_n 3, 1) := by decide +kernel
theorem dX5_holds_138 : decode cX5_holds 138 = .ok (.invokevirtual 147, 3) := by decide +kernel
theorem dX5_holds_141 : decode cX5_holds 141 = .ok (.ifCond .eq 7, 3) := by decide +kernel
theorem dX5_holds_144 : decode cX5_holds 144 = .ok (.iconst 1, 1) := by decide +kernel
theorem dX5_holds_145 : decode cX5_holds 145 = .ok (.goto 4, 3) := by decide +kernel
theorem dX5_holds_148 : decode cX5_holds 148 = .ok (.iconst 0, 1) := by decide +kernel
theorem dX5_holds_149 : decode cX5_holds 149 = .ok (.ior, 1) := by decide +kernel
theorem dX5_holds_150 : decode cX5_holds 150 = .ok (.istore 5, 2) := by decide +kernel
theorem dX5_holds_152 : decode cX5_holds 152 = .ok (.iinc 6 1, 3) := by decide +kernel
theorem dX5_holds_155 : decode cX5_holds 155 = .ok (.goto (-137), 3) := by decide +kernel
theorem dX5_holds_158 : decode cX5_holds 158 = .ok (.iload 5, 2) := by decide +kernel
theorem dX5_holds_160 : decode cX5_holds 160 = .ok (.iconst 1, 1) := by decide +kernel
theorem dX5_holds_161 : decode cX5_holds 161 = .ok (.iand, 1) := by decide +kernel
theorem dX5_holds_162 : decode cX5_holds 162 = .ok (.iconst 1, 1) := by decide +kernel
theorem dX5_holds_163 : decode cX5_holds 163 = .ok (.if_icmp .ne 7, 3) := by decide +kernel
theorem dX5_holds_166 : decode cX5_holds 166 = .ok (.iconst 1, 1) := by decide +kernel
theorem dX5_holds_167 : decode cX5_holds 167 = .ok (.goto 4, 3) := by decide +kernel
theorem dX5_holds_170 : decode cX5_holds 170 = .ok (.iconst 0, 1) := by decide +kernel
theorem dX5_holds_171 : decode cX5_holds 171 = .ok (.ireturn, 1) := by decide +kernel
abbrev z_X5_holds_58_1 : Z9 := (some .boolean, 1, 0, 0, 3, 49)
def b_X5_holds_58_1_c18 (k_X5_holds_58_1_c18 : Int → Int → Int → Int → D9 → Option R9) (v2 v3 v5 v6 : Int) (d : D9) : Option R9 := ld d 31 12 v2 (fun t1 => if w32 t1 ≤ w32 v6 then if w32 (and9 v5 1) ≠ w32 1 then rt (0 % 2) d else rt (1 % 2) d else ld d 32 400 v6 (fun t2 => lt9v (div9 t2 1000) (fun a3 => lt9v (and9 v5 1) (fun a4 => if w32 a3 ≠ w32 15 then if w32 a3 ≠ w32 14 then if w32 a3 ≠ w32 13 then ld d 32 400 v6 (fun t5 => cl (m_X5_isFact_58_1 a3 (rem9 t5 1000) v3 d) (fun r6 d7 => if w32 r6 = 0 then lt9v (or9 (shl9 v5 1) 0) (fun a8 => k_X5_holds_58_1_c18 v2 v3 a8 (v6 + 1) d7) else lt9v (or9 (shl9 v5 1) 1) (fun a9 => k_X5_holds_58_1_c18 v2 v3 a9 (v6 + 1) d7))) else lt9v (or9 (shr9 v5 1) a4) (fun a10 => k_X5_holds_58_1_c18 v2 v3 a10 (v6 + 1) d) else if w32 a4 ≠ w32 1 then lt9v (and9 (shr9 v5 1) (-2)) (fun a11 => k_X5_holds_58_1_c18 v2 v3 a11 (v6 + 1) d) else lt9v (shr9 v5 1) (fun a12 => k_X5_holds_58_1_c18 v2 v3 a12 (v6 + 1) d) else lt9v (xor9 v5 1) (fun a13 => k_X5_holds_58_1_c18 v2 v3 a13 (v6 + 1) d)))))
def m_X5_holds_58_1_c18 : Int → Int → Int → Int → D9 → Option R9 := fix9 (fun _ _ _ _ _ => none) (fun k => b_X5_holds_58_1_c18 k) FU
def m_X5_holds_58_1 (p2 p3 : Int) (d : D9) : Option R9 := ld d 30 12 p2 (fun t1 => m_X5_holds_58_1_c18  p2 p3 1 t1 d)
set_option maxRecDepth 100000 in
theorem sb_X5_holds_58_1_c18 {G : G9} {X : X9} (C : CX G X cX5_holds 9 RX5 [] z_X5_holds_58_1) (k_X5_holds_58_1_c18 : Int → Int → Int → Int → D9 → Option R9) (hk_X5_holds_58_1_c18 : ∀ (v2 v3 v5 v6 : Int) (d : D9), SS G X 9 0 0 18 [(0, rf G 58), (1, rf G 1), (2, i9 v2), (3, i9 v3), (4, rf G 28), (5, i9 v5), (6, i9 v6)] [] d (k_X5_holds_58_1_c18 v2 v3 v5 v6 d)) : ∀ (v2 v3 v5 v6 : Int) (d : D9), SS G X 9 0 0 18 [(0, rf G 58), (1, rf G 1), (2, i9 v2), (3, i9 v3), (4, rf G 28), (5, i9 v5), (6, i9 v6)] [] d (b_X5_holds_58_1_c18 k_X5_holds_58_1_c18 v2 v3 v5 v6 d) := by
  intro v2 v3 v5 v6 d
  unfold b_X5_holds_58_1_c18
  refine r_iload C 6 dX5_holds_18 rfl ?_
  refine r_aload C 4 dX5_holds_20 rfl ?_
  refine r_getR C 31 dX5_holds_22 fl_X5_141 la_28 ly_28 rfl rfl ?_
  refine r_iload_n C 2 dX5_holds_25 rfl rfl ?_
  refine r_iald C dX5_holds_26 la_31 ly_31 (fun t1 => ?_)
  refine r_icmp_ge C 158 dX5_holds_27 (by decide) (fun _ => ?_) (fun _ => ?_)
  · refine r_iload C 5 dX5_holds_158 rfl ?_
    refine r_iconst C dX5_holds_160 ?_
    refine r_iand C dX5_holds_161 ?_
    refine r_iconst C dX5_holds_162 ?_
    refine r_icmp_ne C 170 dX5_holds_163 (by decide) (fun _ => ?_) (fun _ => ?_)
    · refine r_iconst C dX5_holds_170 ?_
      exact r_zret C dX5_holds_171 (by decide) (by decide)
    · refine r_iconst C dX5_holds_166 ?_
      refine r_goto C 171 dX5_holds_167 (by decide) ?_
      exact r_zret C dX5_holds_171 (by decide) (by decide)
  · refine r_aload C 4 dX5_holds_30 rfl ?_
    refine r_getR C 32 dX5_holds_32 fl_X5_144 la_28 ly_28 rfl rfl ?_
    refine r_iload C 6 dX5_holds_35 rfl ?_
    refine r_iald C dX5_holds_37 la_32 ly_32 (fun t2 => ?_)
    refine r_sipush C dX5_holds_38 rfl ?_
    refine r_idiv C dX5_holds_41 (by decide) ?_
    refine ss_lt (fun a3 => ?_)
    refine r_istore C [(7, i9 a3), (0, rf G 58), (1, rf G 1), (2, i9 v2), (3, i9 v3), (4, rf G 28), (5, i9 v5), (6, i9 v6)] dX5_holds_42 (by decide) rfl ?_
    refine r_iload C 6 dX5_holds_44 rfl ?_
    refine r_iconst C dX5_holds_46 ?_
    refine r_iand C dX5_holds_47 ?_
    refine ss_lt (fun a4 => ?_)
    refine r_istore C [(8, i9 a4), (7, i9 a3), (0, rf G 58), (1, rf G 1), (2, i9 v2), (3, i9 v3), (4, rf G 28), (5, i9 v5), (6, i9 v6)] dX5_holds_48 (by decide) rfl ?_
    refine r_iload C 1 dX5_holds_50 rfl ?_
    refine r_bipush C dX5_holds_52 rfl ?_
    refine r_icmp_ne C 66 dX5_holds_54 (by decide) (fun _ => ?_) (fun _ => ?_)
    · refine r_iload C 1 dX5_holds_66 rfl ?_
      refine r_bipush C dX5_holds_68 rfl ?_
      refine r_icmp_ne C 98 dX5_holds_70 (by decide) (fun _ => ?_) (fun _ => ?_)
      · refine r_iload C 1 dX5_holds_98 rfl ?_
        refine r_bipush C dX5_holds_100 rfl ?_
        refine r_icmp_ne C 117 dX5_holds_102 (by decide) (fun _ => ?_) (fun _ => ?_)
        · refine r_iload C 7 dX5_holds_117 rfl ?_
          refine r_iconst C dX5_holds_119 ?_
          refine r_ishl C dX5_holds_120 ?_
          refine r_aload_n C 2 dX5_holds_121 rfl rfl ?_
          refine r_aload_n C 3 dX5_holds_122 rfl rfl ?_
          refine r_iload C 1 dX5_holds_123 rfl ?_
          refine r_aload C 6 dX5_holds_125 rfl ?_
          refine r_getR C 32 dX5_holds_127 fl_X5_144 la_28 ly_28 rfl rfl ?_
          refine r_iload C 8 dX5_holds_130 rfl ?_
          refine r_iald C dX5_holds_132 la_32 ly_32 (fun t5 => ?_)
          refine r_sipush C dX5_holds_133 rfl ?_
          refine r_irem C dX5_holds_136 (by decide) ?_
          refine r_iload_n C 5 dX5_holds_137 rfl rfl ?_
          refine r_callV C [i9 v3, i9 (rem9 t5 1000), i9 a3, rf G 1, rf G 58, i9 (shl9 v5 1)] dX5_holds_138 (t_X5_isFact_58_1 C.h1 C.h2 a3 (rem9 t5 1000) v3 d) mw_X5_147 mv_X5_isFact la_58 ly_58 rfl (by decide) (by decide) (by decide) rfl rfl (Nat.le_of_ble_eq_true rfl) (fun r6 d7 => ?_)
          show SS G X 9 _ _ 141 [(8, i9 a4), (7, i9 a3), (0, rf G 58), (1, rf G 1), (2, i9 v2), (3, i9 v3), (4, rf G 28), (5, i9 v5), (6, i9 v6)] [i9 r6, i9 (shl9 v5 1)] d7 _
          refine r_if_eq C (b := 0) 148 dX5_holds_141 (by decide) (fun _ => ?_) (fun _ => ?_)
          · refine r_iconst C dX5_holds_148 ?_
            refine r_ior C dX5_holds_149 ?_
            refine ss_lt (fun a8 => ?_)
            refine r_istore C [(5, i9 a8), (8, i9 a4), (7, i9 a3), (0, rf G 58), (1, rf G 1), (2, i9 v2), (3, i9 v3), (4, rf G 28), (6, i9 v6)] dX5_holds_150 (by decide) rfl ?_
            refine r_iinc C 8 [(6, i9 (v6 + 1)), (5, i9 a8), (8, i9 a4), (7, i9 a3), (0, rf G 58), (1, rf G 1), (2, i9 v2), (3, i9 v3), (4, rf G 28)] dX5_holds_152 rfl (by decide) rfl ?_
            refine r_goto C 18 dX5_holds_155 (by decide) ?_
            refine ss_wide (k' := 0) (n' := 0) (by decide) (by decide) ?_
            refine ss_ls [(0, rf G 58), (1, rf G 1), (2, i9 v2), (3, i9 v3), (4, rf G 28), (5, i9 a8), (6, i9 (v6 + 1))] [4, 5, 6, 7, 8, 1, 0] rfl ?_
            exact hk_X5_holds_58_1_c18 v2 v3 a8 (v6 + 1) d7
          · refine r_iconst C dX5_holds_144 ?_
            refine r_goto C 149 dX5_holds_145 (by decide) ?_
            refine r_ior C dX5_holds_149 ?_
            refine ss_lt (fun a9 => ?_)
            refine r_istore C [(5, i9 a9), (8, i9 a4), (7, i9 a3), (0, rf G 58), (1, rf G 1), (2, i9 v2), (3, i9 v3), (4, rf G 28), (6, i9 v6)] dX5_holds_150 (by decide) rfl ?_
            refine r_iinc C 8 [(6, i9 (v6 + 1)), (5, i9 a9), (8, i9 a4), (7, i9 a3), (0, rf G 58), (1, rf G 1), (2, i9 v2), (3, i9 v3), (4, rf G 28)] dX5_holds_152 rfl (by decide) rfl ?_
            refine r_goto C 18 dX5_holds_155 (by decide) ?_
            refine ss_wide (k' := 0) (n' := 0) (by decide) (by decide) ?_
            refine ss_ls [(0, rf G 58), (1, rf G 1), (2, i9 v2), (3, i9 v3), (4, rf G 28), (5, i9 a9), (6, i9 (v6 + 1))] [4, 5, 6, 7, 8, 1, 0] rfl ?_
            exact hk_X5_holds_58_1_c18 v2 v3 a9 (v6 + 1) d7
        · refine r_iload C 7 dX5_holds_105 rfl ?_
          refine r_iconst C dX5_holds_107 ?_
          refine r_ishr C dX5_holds_108 ?_
          refine r_iload C 0 dX5_holds_109 rfl ?_
          refine r_ior C dX5_holds_111 ?_
          refine ss_lt (fun a10 => ?_)
          refine r_istore C [(5, i9 a10), (8, i9 a4), (7, i9 a3), (0, rf G 58), (1, rf G 1), (2, i9 v2), (3, i9 v3), (4, rf G 28), (6, i9 v6)] dX5_holds_112 (by decide) rfl ?_
          refine r_goto C 152 dX5_holds_114 (by decide) ?_
          refine r_iinc C 8 [(6, i9 (v6 + 1)), (5, i9 a10), (8, i9 a4), (7, i9 a3), (0, rf G 58), (1, rf G 1), (2, i9 v2), (3, i9 v3), (4, rf G 28)] dX5_holds_152 rfl (by decide) rfl ?_
          refine r_goto C 18 dX5_holds_155 (by decide) ?_
          refine ss_wide (k' := 0) (n' := 0) (by decide) (by decide) ?_
          refine ss_ls [(0, rf G 58), (1, rf G 1), (2, i9 v2), (3, i9 v3), (4, rf G 28), (5, i9 a10), (6, i9 (v6 + 1))] [4, 5, 6, 7, 8, 1, 0] rfl ?_
          exact hk_X5_holds_58_1_c18 v2 v3 a10 (v6 + 1) d
      · refine r_iload C 0 dX5_holds_73 rfl ?_
        refine r_iconst C dX5_holds_75 ?_
        refine r_icmp_ne C 86 dX5_holds_76 (by decide) (fun _ => ?_) (fun _ => ?_)
        · refine r_iload C 7 dX5_holds_86 rfl ?_
          refine r_iconst C dX5_holds_88 ?_
          refine r_ishr C dX5_holds_89 ?_
          refine r_bipush C dX5_holds_90 rfl ?_
          refine r_iand C dX5_holds_92 ?_
          refine ss_lt (fun a11 => ?_)
          refine r_istore C [(5, i9 a11), (8, i9 a4), (7, i9 a3), (0, rf G 58), (1, rf G 1), (2, i9 v2), (3, i9 v3), (4, rf G 28), (6, i9 v6)] dX5_holds_93 (by decide) rfl ?_
          refine r_goto C 152 dX5_holds_95 (by decide) ?_
          refine r_iinc C 8 [(6, i9 (v6 + 1)), (5, i9 a11), (8, i9 a4), (7, i9 a3), (0, rf G 58), (1, rf G 1), (2, i9 v2), (3, i9 v3), (4, rf G 28)] dX5_holds_152 rfl (by decide) rfl ?_
          refine r_goto C 18 dX5_holds_155 (by decide) ?_
          refine ss_wide (k' := 0) (n' := 0) (by decide) (by decide) ?_
          refine ss_ls [(0, rf G 58), (1, rf G 1), (2, i9 v2), (3, i9 v3), (4, rf G 28), (5, i9 a11), (6, i9 (v6 + 1))] [4, 5, 6, 7, 8, 1, 0] rfl ?_
          exact hk_X5_holds_58_1_c18 v2 v3 a11 (v6 + 1) d
        · refine r_iload C 7 dX5_holds_79 rfl ?_
          refine r_iconst C dX5_holds_81 ?_
          refine r_ishr C dX5_holds_82 ?_
          refine r_goto C 93 dX5_holds_83 (by decide) ?_
          refine ss_lt (fun a12 => ?_)
          refine r_istore C [(5, i9 a12), (8, i9 a4), (7, i9 a3), (0, rf G 58), (1, rf G 1), (2, i9 v2), (3, i9 v3), (4, rf G 28), (6, i9 v6)] dX5_holds_93 (by decide) rfl ?_
          refine r_goto C 152 dX5_holds_95 (by decide) ?_
          refine r_iinc C 8 [(6, i9 (v6 + 1)), (5, i9 a12), (8, i9 a4), (7, i9 a3), (0, rf G 58), (1, rf G 1), (2, i9 v2), (3, i9 v3), (4, rf G 28)] dX5_holds_152 rfl (by decide) rfl ?_
          refine r_goto C 18 dX5_holds_155 (by decide) ?_
          refine ss_wide (k' := 0) (n' := 0) (by decide) (by decide) ?_
          refine ss_ls [(0, rf G 58), (1, rf G 1), (2, i9 v2), (3, i9 v3), (4, rf G 28), (5, i9 a12), (6, i9 (v6 + 1))] [4, 5, 6, 7, 8, 1, 0] rfl ?_
          exact hk_X5_holds_58_1_c18 v2 v3 a12 (v6 + 1) d
    · refine r_iload C 7 dX5_holds_57 rfl ?_
      refine r_iconst C dX5_holds_59 ?_
      refine r_ixor C dX5_holds_60 ?_
      refine ss_lt (fun a13 => ?_)
      refine r_istore C [(5, i9 a13), (8, i9 a4), (7, i9 a3), (0, rf G 58), (1, rf G 1), (2, i9 v2), (3, i9 v3), (4, rf G 28), (6, i9 v6)] dX5_holds_61 (by decide) rfl ?_
      refine r_goto C 152 dX5_holds_63 (by decide) ?_
      refine r_iinc C 8 [(6, i9 (v6 + 1)), (5, i9 a13), (8, i9 a4), (7, i9 a3), (0, rf G 58), (1, rf G 1), (2, i9 v2), (3, i9 v3), (4, rf G 28)] dX5_holds_152 rfl (by decide) rfl ?_
      refine r_goto C 18 dX5_holds_155 (by decide) ?_
      refine ss_wide (k' := 0) (n' := 0) (by decide) (by decide) ?_
      refine ss_ls [(0, rf G 58), (1, rf G 1), (2, i9 v2), (3, i9 v3), (4, rf G 28), (5, i9 a13), (6, i9 (v6 + 1))] [4, 5, 6, 7, 8, 1, 0] rfl ?_
      exact hk_X5_holds_58_1_c18 v2 v3 a13 (v6 + 1) d
theorem s_X5_holds_58_1_c18 {G : G9} {X : X9} (C : CX G X cX5_holds 9 RX5 [] z_X5_holds_58_1) : ∀ (v2 v3 v5 v6 : Int) (d : D9), SS G X 9 0 0 18 [(0, rf G 58), (1, rf G 1), (2, i9 v2), (3, i9 v3), (4, rf G 28), (5, i9 v5), (6, i9 v6)] [] d (m_X5_holds_58_1_c18  v2 v3 v5 v6 d) :=
  fix9_ind (P := fun k => ∀ (v2 v3 v5 v6 : Int) (d : D9), SS G X 9 0 0 18 [(0, rf G 58), (1, rf G 1), (2, i9 v2), (3, i9 v3), (4, rf G 28), (5, i9 v5), (6, i9 v6)] [] d (k v2 v3 v5 v6 d)) (fun _ _ _ _ _ => ss_none) (fun k hk => sb_X5_holds_58_1_c18 C k hk) FU
set_option maxRecDepth 100000 in
theorem t_X5_holds_58_1 {G : G9} {l : Launch} (h1 : va_D (A9 G) (wl G (fun _ _ => 0))) (h2 : l.stackTraces = false) (p2 p3 : Int) (d : D9) : MT G l yX5_holds cX5_holds 9 z_X5_holds_58_1 [rf G 58, rf G 1, i9 p2, i9 p3] d (m_X5_holds_58_1 p2 p3 d) := by
  refine mt_of (own := RX5) (by decide) rfl (Nat.le_of_ble_eq_true rfl) h1 h2 [(0, rf G 58), (1, rf G 1), (2, i9 p2), (3, i9 p3)] rfl (fun X hX C => ?_)
  unfold m_X5_holds_58_1
  refine r_aload_n C 1 dX5_holds_0 rfl rfl ?_
  refine r_getR C 28 dX5_holds_1 fl_X5_117 la_1 ly_1 rfl rfl ?_
  refine r_astore C [(4, rf G 28), (0, rf G 58), (1, rf G 1), (2, i9 p2), (3, i9 p3)] dX5_holds_4 (by decide) rfl ?_
  refine r_iconst C dX5_holds_6 ?_
  refine r_istore C [(5, i9 1), (4, rf G 28), (0, rf G 58), (1, rf G 1), (2, i9 p2), (3, i9 p3)] dX5_holds_7 (by decide) rfl ?_
  refine r_aload C 1 dX5_holds_9 rfl ?_
  refine r_getR C 30 dX5_holds_11 fl_X5_138 la_28 ly_28 rfl rfl ?_
  refine r_iload_n C 4 dX5_holds_14 rfl rfl ?_
  refine r_iald C dX5_holds_15 la_30 ly_30 (fun t1 => ?_)
  refine r_istore C [(6, i9 t1), (5, i9 1), (4, rf G 28), (0, rf G 58), (1, rf G 1), (2, i9 p2), (3, i9 p3)] dX5_holds_16 (by decide) rfl ?_
  refine ss_wide (k' := 0) (n' := 0) (by decide) (by decide) ?_
  refine ss_ls [(0, rf G 58), (1, rf G 1), (2, i9 p2), (3, i9 p3), (4, rf G 28), (5, i9 1), (6, i9 t1)] [3, 4, 5, 6, 2, 1, 0] rfl ?_
  exact s_X5_holds_58_1_c18 C  p2 p3 1 t1 d

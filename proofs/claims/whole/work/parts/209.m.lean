theorem dX11_ring_0 : decode cX11_ring 0 = .ok (.aload_n 0, 1) := by decide +kernel
theorem dX11_ring_1 : decode cX11_ring 1 = .ok (.iload_n 1, 1) := by decide +kernel
theorem dX11_ring_2 : decode cX11_ring 2 = .ok (.invokevirtual 103, 3) := by decide +kernel
theorem dX11_ring_5 : decode cX11_ring 5 = .ok (.aload_n 0, 1) := by decide +kernel
theorem dX11_ring_6 : decode cX11_ring 6 = .ok (.getfield 10, 3) := by decide +kernel
theorem dX11_ring_9 : decode cX11_ring 9 = .ok (.iload_n 1, 1) := by decide +kernel
theorem dX11_ring_10 : decode cX11_ring 10 = .ok (.invokevirtual 284, 3) := by decide +kernel
theorem dX11_ring_13 : decode cX11_ring 13 = .ok (.ireturn, 1) := by decide +kernel
abbrev z_X11_ring_0 : Z9 := (some .boolean, 1, 1, 6, 7, 121)
def m_X11_ring_0 (p1 : Int) (d : D9) : Option R9 := cl (m_X11_askPaint_0 p1 d) (fun r1 d2 => cl (m_X10_isRing_1 p1 d2) (fun r3 d4 => rt (r3 % 2) d4))
set_option maxRecDepth 100000 in
theorem t_X11_ring_0 {G : G9} {l : Launch} (h1 : va_D (A9 G) (wl G (fun _ _ => 0))) (h2 : l.stackTraces = false) (p1 : Int) (d : D9) : MT G l yX11_ring cX11_ring 2 z_X11_ring_0 [rf G 0, i9 p1] d (m_X11_ring_0 p1 d) := by
  refine mt_of (own := RX11) (by decide) rfl (Nat.le_of_ble_eq_true rfl) h1 h2 [(0, rf G 0), (1, i9 p1)] rfl (fun X hX C => ?_)
  unfold m_X11_ring_0
  refine r_aload_n C 0 dX11_ring_0 rfl rfl ?_
  refine r_iload_n C 1 dX11_ring_1 rfl rfl ?_
  refine r_callV C [i9 p1, rf G 0] dX11_ring_2 (t_X11_askPaint_0 C.h1 C.h2 p1 d) mw_X11_103 mv_X11_askPaint la_0 ly_0 rfl (by decide) (by decide) (by decide) rfl rfl (Nat.le_of_ble_eq_true rfl) (fun r1 d2 => ?_)
  show SS G X 2 _ _ 5 [(0, rf G 0), (1, i9 p1)] [] d2 _
  refine r_aload_n C 0 dX11_ring_5 rfl rfl ?_
  refine r_getR C 1 dX11_ring_6 fl_X11_10 la_0 ly_0 rfl rfl ?_
  refine r_iload_n C 1 dX11_ring_9 rfl rfl ?_
  refine r_callV C [i9 p1, rf G 1] dX11_ring_10 (t_X10_isRing_1 C.h1 C.h2 p1 d2) mw_X11_284 mv_X10_isRing la_1 ly_1 rfl (by decide) (by decide) (by decide) rfl rfl (Nat.le_of_ble_eq_true rfl) (fun r3 d4 => ?_)
  show SS G X 2 _ _ 13 [(0, rf G 0), (1, i9 p1)] [i9 r3] d4 _
  exact r_zret C dX11_ring_13 (by decide) (by decide)
theorem dJ6_compare_7cf53_0 : decode cJ6_compare_7cf53 0 = .ok (.iload_n 0, 1) := by decide +kernel
theorem dJ6_compare_7cf53_1 : decode cJ6_compare_7cf53 1 = .ok (.iload_n 1, 1) := by decide +kernel
theorem dJ6_compare_7cf53_2 : decode cJ6_compare_7cf53 2 = .ok (.if_icmp .ge 7, 3) := by decide +kernel
theorem dJ6_compare_7cf53_5 : decode cJ6_compare_7cf53 5 = .ok (.iconst (-1), 1) := by decide +kernel
theorem dJ6_compare_7cf53_6 : decode cJ6_compare_7cf53 6 = .ok (.goto 13, 3) := by decide +kernel
theorem dJ6_compare_7cf53_9 : decode cJ6_compare_7cf53 9 = .ok (.iload_n 0, 1) := by decide +kernel
theorem dJ6_compare_7cf53_10 : decode cJ6_compare_7cf53 10 = .ok (.iload_n 1, 1) := by decide +kernel
theorem dJ6_compare_7cf53_11 : decode cJ6_compare_7cf53 11 = .ok (.if_icmp .ne 7, 3) := by decide +kernel
theorem dJ6_compare_7cf53_14 : decode cJ6_compare_7cf53 14 = .ok (.iconst 0, 1) := by decide +kernel
theorem dJ6_compare_7cf53_15 : decode cJ6_compare_7cf53 15 = .ok (.goto 4, 3) := by decide +kernel
theorem dJ6_compare_7cf53_18 : decode cJ6_compare_7cf53 18 = .ok (.iconst 1, 1) := by decide +kernel
theorem dJ6_compare_7cf53_19 : decode cJ6_compare_7cf53 19 = .ok (.ireturn, 1) := by decide +kernel
abbrev z_J6_compare_7cf53 : Z9 := (some .int, 1, 0, 0, 1, 0)
def m_J6_compare_7cf53 (p0 p1 : Int) (d : D9) : Option R9 := if w32 p1 ≤ w32 p0 then if w32 p0 ≠ w32 p1 then rt 1 d else rt 0 d else rt (-1) d
set_option maxRecDepth 100000 in
theorem t_J6_compare_7cf53 {G : G9} {l : Launch} (h1 : va_D (A9 G) (wl G (fun _ _ => 0))) (h2 : l.stackTraces = false) (p0 p1 : Int) (d : D9) : MT G l yJ6_compare_7cf53 cJ6_compare_7cf53 2 z_J6_compare_7cf53 [i9 p0, i9 p1] d (m_J6_compare_7cf53 p0 p1 d) := by
  refine mt_of (own := RJ6) (by decide) rfl (Nat.le_of_ble_eq_true rfl) h1 h2 [(0, i9 p0), (1, i9 p1)] rfl (fun X hX C => ?_)
  unfold m_J6_compare_7cf53
  refine r_iload_n C 0 dJ6_compare_7cf53_0 rfl rfl ?_
  refine r_iload_n C 1 dJ6_compare_7cf53_1 rfl rfl ?_
  refine r_icmp_ge C 9 dJ6_compare_7cf53_2 (by decide) (fun _ => ?_) (fun _ => ?_)
  · refine r_iload_n C 0 dJ6_compare_7cf53_9 rfl rfl ?_
    refine r_iload_n C 1 dJ6_compare_7cf53_10 rfl rfl ?_
    refine r_icmp_ne C 18 dJ6_compare_7cf53_11 (by decide) (fun _ => ?_) (fun _ => ?_)
    · refine r_iconst C dJ6_compare_7cf53_18 ?_
      exact r_iret C dJ6_compare_7cf53_19 (by decide) (by decide)
    · refine r_iconst C dJ6_compare_7cf53_14 ?_
      refine r_goto C 19 dJ6_compare_7cf53_15 (by decide) ?_
      exact r_iret C dJ6_compare_7cf53_19 (by decide) (by decide)
  · refine r_iconst C dJ6_compare_7cf53_5 ?_
    refine r_goto C 19 dJ6_compare_7cf53_6 (by decide) ?_
    exact r_iret C dJ6_compare_7cf53_19 (by decide) (by decide)
theorem dX1_ofSort_0 : decode cX1_ofSort 0 = .ok (.iconst 0, 1) := by decide +kernel
theorem dX1_ofSort_1 : decode cX1_ofSort 1 = .ok (.istore_n 2, 1) := by decide +kernel
theorem dX1_ofSort_2 : decode cX1_ofSort 2 = .ok (.iconst 0, 1) := by decide +kernel
theorem dX1_ofSort_3 : decode cX1_ofSort 3 = .ok (.istore_n 3, 1) := by decide +kernel
theorem dX1_ofSort_4 : decode cX1_ofSort 4 = .ok (.iload_n 3, 1) := by decide +kernel
theorem dX1_ofSort_5 : decode cX1_ofSort 5 = .ok (.aload_n 0, 1) := by decide +kernel
theorem dX1_ofSort_6 : decode cX1_ofSort 6 = .ok (.getfield 24, 3) := by decide +kernel
theorem dX1_ofSort_9 : decode cX1_ofSort 9 = .ok (.if_icmp .ge 27, 3) := by decide +kernel
theorem dX1_ofSort_12 : decode cX1_ofSort 12 = .ok (.iload_n 2, 1) := by decide +kernel
theorem dX1_ofSort_13 : decode cX1_ofSort 13 = .ok (.aload_n 0, 1) := by decide +kernel
theorem dX1_ofSort_14 : decode cX1_ofSort 14 = .ok (.getfield 9, 3) := by decide +kernel
theorem dX1_ofSort_17 : decode cX1_ofSort 17 = .ok (.iload_n 3, 1) := by decide +kernel
theorem dX1_ofSort_18 : decode cX1_ofSort 18 = .ok (.iaload, 1) := by decide +kernel
theorem dX1_ofSort_19 : decode cX1_ofSort 19 = .ok (.iload_n 1, 1) := by decide +kernel
theorem dX1_ofSort_20 : decode cX1_ofSort 20 = .ok (.if_icmp .ne 7, 3) := by decide +kernel
theorem dX1_ofSort_23 : decode cX1_ofSort 23 = .ok (.iconst 1, 1) := by decide +kernel
theorem dX1_ofSort_24 : decode cX1_ofSort 24 = .ok (.goto 4, 3) := by decide +kernel
theorem dX1_ofSort_27 : decode cX1_ofSort 27 = .ok (.iconst 0, 1) := by decide +kernel
theorem dX1_ofSort_28 : decode cX1_ofSort 28 = .ok (.iadd, 1) := by decide +kernel
theorem dX1_ofSort_29 : decode cX1_ofSort 29 = .ok (.istore_n 2, 1) := by decide +kernel
theorem dX1_ofSort_30 : decode cX1_ofSort 30 = .ok (.iinc 3 1, 3) := by decide +kernel
theorem dX1_ofSort_33 : decode cX1_ofSort 33 = .ok (.goto (-29), 3) := by decide +kernel
theorem dX1_ofSort_36 : decode cX1_ofSort 36 = .ok (.iload_n 2, 1) := by decide +kernel
theorem dX1_ofSort_37 : decode cX1_ofSort 37 = .ok (.ireturn, 1) := by decide +kernel
abbrev z_X1_ofSort_33 : Z9 := (some .int, 1, 0, 0, 1, 0)
def b_X1_ofSort_33_c4 (k_X1_ofSort_33_c4 : Int → Int → Int → D9 → Option R9) (v1 v2 v3 : Int) (d : D9) : Option R9 := if w32 (d 33 0) ≤ w32 v3 then rt v2 d else ld d 34 40 v3 (fun t1 => if w32 t1 ≠ w32 v1 then lt9v (v2 + 0) (fun a2 => k_X1_ofSort_33_c4 v1 a2 (v3 + 1) d) else lt9v (v2 + 1) (fun a3 => k_X1_ofSort_33_c4 v1 a3 (v3 + 1) d))
def m_X1_ofSort_33_c4 : Int → Int → Int → D9 → Option R9 := fix9 (fun _ _ _ _ => none) (fun k => b_X1_ofSort_33_c4 k) FU
def m_X1_ofSort_33 (p1 : Int) (d : D9) : Option R9 := m_X1_ofSort_33_c4  p1 0 0 d
set_option maxRecDepth 100000 in
theorem sb_X1_ofSort_33_c4 {G : G9} {X : X9} (C : CX G X cX1_ofSort 4 RX1 [] z_X1_ofSort_33) (k_X1_ofSort_33_c4 : Int → Int → Int → D9 → Option R9) (hk_X1_ofSort_33_c4 : ∀ (v1 v2 v3 : Int) (d : D9), SS G X 4 0 0 4 [(0, rf G 33), (1, i9 v1), (2, i9 v2), (3, i9 v3)] [] d (k_X1_ofSort_33_c4 v1 v2 v3 d)) : ∀ (v1 v2 v3 : Int) (d : D9), SS G X 4 0 0 4 [(0, rf G 33), (1, i9 v1), (2, i9 v2), (3, i9 v3)] [] d (b_X1_ofSort_33_c4 k_X1_ofSort_33_c4 v1 v2 v3 d) := by
  intro v1 v2 v3 d
  unfold b_X1_ofSort_33_c4
  refine r_iload_n C 3 dX1_ofSort_4 rfl rfl ?_
  refine r_aload_n C 0 dX1_ofSort_5 rfl rfl ?_
  refine r_getI C dX1_ofSort_6 fl_X1_24 la_33 ly_33 rfl ?_
  refine r_icmp_ge C 36 dX1_ofSort_9 (by decide) (fun _ => ?_) (fun _ => ?_)
  · refine r_iload_n C 2 dX1_ofSort_36 rfl rfl ?_
    exact r_iret C dX1_ofSort_37 (by decide) (by decide)
  · refine r_iload_n C 2 dX1_ofSort_12 rfl rfl ?_
    refine r_aload_n C 0 dX1_ofSort_13 rfl rfl ?_
    refine r_getR C 34 dX1_ofSort_14 fl_X1_9 la_33 ly_33 rfl rfl ?_
    refine r_iload_n C 3 dX1_ofSort_17 rfl rfl ?_
    refine r_iald C dX1_ofSort_18 la_34 ly_34 (fun t1 => ?_)
    refine r_iload_n C 1 dX1_ofSort_19 rfl rfl ?_
    refine r_icmp_ne C 27 dX1_ofSort_20 (by decide) (fun _ => ?_) (fun _ => ?_)
    · refine r_iconst C dX1_ofSort_27 ?_
      refine r_iadd C dX1_ofSort_28 ?_
      refine ss_lt (fun a2 => ?_)
      refine r_istore_n C [(2, i9 a2), (0, rf G 33), (1, i9 v1), (3, i9 v3)] dX1_ofSort_29 rfl (by decide) rfl ?_
      refine r_iinc C 3 [(3, i9 (v3 + 1)), (2, i9 a2), (0, rf G 33), (1, i9 v1)] dX1_ofSort_30 rfl (by decide) rfl ?_
      refine r_goto C 4 dX1_ofSort_33 (by decide) ?_
      refine ss_wide (k' := 0) (n' := 0) (by decide) (by decide) ?_
      refine ss_ls [(0, rf G 33), (1, i9 v1), (2, i9 a2), (3, i9 (v3 + 1))] [2, 3, 1, 0] rfl ?_
      exact hk_X1_ofSort_33_c4 v1 a2 (v3 + 1) d
    · refine r_iconst C dX1_ofSort_23 ?_
      refine r_goto C 28 dX1_ofSort_24 (by decide) ?_
      refine r_iadd C dX1_ofSort_28 ?_
      refine ss_lt (fun a3 => ?_)
      refine r_istore_n C [(2, i9 a3), (0, rf G 33), (1, i9 v1), (3, i9 v3)] dX1_ofSort_29 rfl (by decide) rfl ?_
      refine r_iinc C 3 [(3, i9 (v3 + 1)), (2, i9 a3), (0, rf G 33), (1, i9 v1)] dX1_ofSort_30 rfl (by decide) rfl ?_
      refine r_goto C 4 dX1_ofSort_33 (by decide) ?_
      refine ss_wide (k' := 0) (n' := 0) (by decide) (by decide) ?_
      refine ss_ls [(0, rf G 33), (1, i9 v1), (2, i9 a3), (3, i9 (v3 + 1))] [2, 3, 1, 0] rfl ?_
      exact hk_X1_ofSort_33_c4 v1 a3 (v3 + 1) d
theorem s_X1_ofSort_33_c4 {G : G9} {X : X9} (C : CX G X cX1_ofSort 4 RX1 [] z_X1_ofSort_33) : ∀ (v1 v2 v3 : Int) (d : D9), SS G X 4 0 0 4 [(0, rf G 33), (1, i9 v1), (2, i9 v2), (3, i9 v3)] [] d (m_X1_ofSort_33_c4  v1 v2 v3 d) :=
  fix9_ind (P := fun k => ∀ (v1 v2 v3 : Int) (d : D9), SS G X 4 0 0 4 [(0, rf G 33), (1, i9 v1), (2, i9 v2), (3, i9 v3)] [] d (k v1 v2 v3 d)) (fun _ _ _ _ => ss_none) (fun k hk => sb_X1_ofSort_33_c4 C k hk) FU
set_option maxRecDepth 100000 in
theorem t_X1_ofSort_33 {G : G9} {l : Launch} (h1 : va_D (A9 G) (wl G (fun _ _ => 0))) (h2 : l.stackTraces = false) (p1 : Int) (d : D9) : MT G l yX1_ofSort cX1_ofSort 4 z_X1_ofSort_33 [rf G 33, i9 p1] d (m_X1_ofSort_33 p1 d) := by
  refine mt_of (own := RX1) (by decide) rfl (Nat.le_of_ble_eq_true rfl) h1 h2 [(0, rf G 33), (1, i9 p1)] rfl (fun X hX C => ?_)
  unfold m_X1_ofSort_33
  refine r_iconst C dX1_ofSort_0 ?_
  refine r_istore_n C [(2, i9 0), (0, rf G 33), (1, i9 p1)] dX1_ofSort_1 rfl (by decide) rfl ?_
  refine r_iconst C dX1_ofSort_2 ?_
  refine r_istore_n C [(3, i9 0), (2, i9 0), (0, rf G 33), (1, i9 p1)] dX1_ofSort_3 rfl (by decide) rfl ?_
  refine ss_wide (k' := 0) (n' := 0) (by decide) (by decide) ?_
  refine ss_ls [(0, rf G 33), (1, i9 p1), (2, i9 0), (3, i9 0)] [2, 3, 1, 0] rfl ?_
  exact s_X1_ofSort_33_c4 C  p1 0 0 d
theorem dX1_ringStands_0 : decode cX1_ringStands 0 = .ok (.aload_n 0, 1) := by decide +kernel
theorem dX1_ringStands_1 : decode cX1_ringStands 1 = .ok (.getfield 15, 3) := by decide +kernel
theorem dX1_ringStands_4 : decode cX1_ringStands 4 = .ok (.iload_n 1, 1) := by decide +kernel
theorem dX1_ringStands_5 : decode cX1_ringStands 5 = .ok (.iconst 5, 1) := by decide +kernel
theorem dX1_ringStands_6 : decode cX1_ringStands 6 = .ok (.imul, 1) := by decide +kernel
theorem dX1_ringStands_7 : decode cX1_ringStands 7 = .ok (.iconst 3, 1) := by decide +kernel
theorem dX1_ringStands_8 : decode cX1_ringStands 8 = .ok (.iadd, 1) := by decide +kernel
theorem dX1_ringStands_9 : decode cX1_ringStands 9 = .ok (.iaload, 1) := by decide +kernel
theorem dX1_ringStands_10 : decode cX1_ringStands 10 = .ok (.aload_n 0, 1) := by decide +kernel
theorem dX1_ringStands_11 : decode cX1_ringStands 11 = .ok (.getfield 15, 3) := by decide +kernel
theorem dX1_ringStands_14 : decode cX1_ringStands 14 = .ok (.iload_n 1, 1) := by decide +kernel
theorem dX1_ringStands_15 : decode cX1_ringStands 15 = .ok (.iconst 5, 1) := by decide +kernel
theorem dX1_ringStands_16 : decode cX1_ringStands 16 = .ok (.imul, 1) := by decide +kernel
theorem dX1_ringStands_17 : decode cX1_ringStands 17 = .ok (.iconst 1, 1) := by decide +kernel
theorem dX1_ringStands_18 : decode cX1_ringStands 18 = .ok (.iadd, 1) := by decide +kernel
theorem dX1_ringStands_19 : decode cX1_ringStands 19 = .ok (.iaload, 1) := by decide +kernel
theorem dX1_ringStands_20 : decode cX1_ringStands 20 = .ok (.invokestatic 32, 3) := by decide +kernel
theorem dX1_ringStands_23 : decode cX1_ringStands 23 = .ok (.ireturn, 1) := by decide +kernel
abbrev z_X1_ringStands_33 : Z9 := (some .int, 1, 0, 0, 2, 21)
def m_X1_ringStands_33 (p1 : Int) (d : D9) : Option R9 := ld d 35 200 ((p1 * 5) + 3) (fun t1 => ld d 35 200 ((p1 * 5) + 1) (fun t2 => cl (m_J6_compare_7cf53 t1 t2 d) (fun r3 d4 => rt r3 d4)))
set_option maxRecDepth 100000 in
theorem t_X1_ringStands_33 {G : G9} {l : Launch} (h1 : va_D (A9 G) (wl G (fun _ _ => 0))) (h2 : l.stackTraces = false) (p1 : Int) (d : D9) : MT G l yX1_ringStands cX1_ringStands 2 z_X1_ringStands_33 [rf G 33, i9 p1] d (m_X1_ringStands_33 p1 d) := by
  refine mt_of (own := RX1) (by decide) rfl (Nat.le_of_ble_eq_true rfl) h1 h2 [(0, rf G 33), (1, i9 p1)] rfl (fun X hX C => ?_)
  unfold m_X1_ringStands_33
  refine r_aload_n C 0 dX1_ringStands_0 rfl rfl ?_
  refine r_getR C 35 dX1_ringStands_1 fl_X1_15 la_33 ly_33 rfl rfl ?_
  refine r_iload_n C 1 dX1_ringStands_4 rfl rfl ?_
  refine r_iconst C dX1_ringStands_5 ?_
  refine r_imul C dX1_ringStands_6 ?_
  refine r_iconst C dX1_ringStands_7 ?_
  refine r_iadd C dX1_ringStands_8 ?_
  refine r_iald C dX1_ringStands_9 la_35 ly_35 (fun t1 => ?_)
  refine r_aload_n C 0 dX1_ringStands_10 rfl rfl ?_
  refine r_getR C 35 dX1_ringStands_11 fl_X1_15 la_33 ly_33 rfl rfl ?_
  refine r_iload_n C 1 dX1_ringStands_14 rfl rfl ?_
  refine r_iconst C dX1_ringStands_15 ?_
  refine r_imul C dX1_ringStands_16 ?_
  refine r_iconst C dX1_ringStands_17 ?_
  refine r_iadd C dX1_ringStands_18 ?_
  refine r_iald C dX1_ringStands_19 la_35 ly_35 (fun t2 => ?_)
  refine r_callS C [i9 t2, i9 t1] dX1_ringStands_20 (t_J6_compare_7cf53 C.h1 C.h2 t1 t2 d) mw_X1_32 ms_J6_compare_7cf53 (by decide) (by decide) (by decide) rfl rfl (Nat.le_of_ble_eq_true rfl) (fun r3 d4 => ?_)
  show SS G X 2 _ _ 23 [(0, rf G 33), (1, i9 p1)] [i9 r3] d4 _
  exact r_iret C dX1_ringStands_23 (by decide) (by decide)
theorem dX10_ringedInto_0 : decode cX10_ringedInto 0 = .ok (.aload_n 0, 1) := by decide +kernel
theorem dX10_ringedInto_1 : decode cX10_ringedInto 1 = .ok (.getfield 12, 3) := by decide +kernel
theorem dX10_ringedInto_4 : decode cX10_ringedInto 4 = .ok (.getfield 139, 3) := by decide +kernel
theorem dX10_ringedInto_7 : decode cX10_ringedInto 7 = .ok (.iload_n 1, 1) := by decide +kernel
theorem dX10_ringedInto_8 : decode cX10_ringedInto 8 = .ok (.iconst 5, 1) := by decide +kernel
theorem dX10_ringedInto_9 : decode cX10_ringedInto 9 = .ok (.imul, 1) := by decide +kernel
theorem dX10_ringedInto_10 : decode cX10_ringedInto 10 = .ok (.iconst 1, 1) := by decide +kernel
theorem dX10_ringedInto_11 : decode cX10_ringedInto 11 = .ok (.iadd, 1) := by decide +kernel
theorem dX10_ringedInto_12 : decode cX10_ringedInto 12 = .ok (.iaload, 1) := by decide +kernel
theorem dX10_ringedInto_13 : decode cX10_ringedInto 13 = .ok (.istore 4, 2) := by decide +kernel
theorem dX10_ringedInto_15 : decode cX10_ringedInto 15 = .ok (.aload_n 0, 1) := by decide +kernel
theorem dX10_ringedInto_16 : decode cX10_ringedInto 16 = .ok (.getfield 12, 3) := by decide +kernel
theorem dX10_ringedInto_19 : decode cX10_ringedInto 19 = .ok (.getfield 139, 3) := by decide +kernel
theorem dX10_ringedInto_22 : decode cX10_ringedInto 22 = .ok (.iload_n 1, 1) := by decide +kernel
theorem dX10_ringedInto_23 : decode cX10_ringedInto 23 = .ok (.iconst 5, 1) := by decide +kernel
theorem dX10_ringedInto_24 : decode cX10_ringedInto 24 = .ok (.imul, 1) := by decide +kernel
theorem dX10_ringedInto_25 : decode cX10_ringedInto 25 = .ok (.iconst 3, 1) := by decide +kernel
theorem dX10_ringedInto_26 : decode cX10_ringedInto 26 = .ok (.iadd, 1) := by decide +kernel
theorem dX10_ringedInto_27 : decode cX10_ringedInto 27 = .ok (.iaload, 1) := by decide +kernel
theorem dX10_ringedInto_28 : decode cX10_ringedInto 28 = .ok (.istore 5, 2) := by decide +kernel
theorem dX10_ringedInto_30 : decode cX10_ringedInto 30 = .ok (.iload 4, 2) := by decide +kernel
theorem dX10_ringedInto_32 : decode cX10_ringedInto 32 = .ok (.ifCond .eq 8, 3) := by decide +kernel
theorem dX10_ringedInto_35 : decode cX10_ringedInto 35 = .ok (.iload 5, 2) := by decide +kernel
theorem dX10_ringedInto_37 : decode cX10_ringedInto 37 = .ok (.ifCond .ne 8, 3) := by decide +kernel
theorem dX10_ringedInto_40 : decode cX10_ringedInto 40 = .ok (.aload_n 3, 1) := by decide +kernel
theorem dX10_ringedInto_41 : decode cX10_ringedInto 41 = .ok (.invokevirtual 154, 3) := by decide +kernel
theorem dX10_ringedInto_44 : decode cX10_ringedInto 44 = .ok (.ireturn, 1) := by decide +kernel
theorem dX10_ringedInto_45 : decode cX10_ringedInto 45 = .ok (.iload 5, 2) := by decide +kernel
theorem dX10_ringedInto_47 : decode cX10_ringedInto 47 = .ok (.iload 4, 2) := by decide +kernel
theorem dX10_ringedInto_49 : decode cX10_ringedInto 49 = .ok (.invokestatic 164, 3) := by decide +kernel
theorem dX10_ringedInto_52 : decode cX10_ringedInto 52 = .ok (.istore 6, 2) := by decide +kernel
theorem dX10_ringedInto_54 : decode cX10_ringedInto 54 = .ok (.iconst 0, 1) := by decide +kernel
theorem dX10_ringedInto_55 : decode cX10_ringedInto 55 = .ok (.istore 7, 2) := by decide +kernel
theorem dX10_ringedInto_57 : decode cX10_ringedInto 57 = .ok (.iconst 0, 1) := by decide +kernel
theorem dX10_ringedInto_58 : decode cX10_ringedInto 58 = .ok (.istore 8, 2) := by decide +kernel
theorem dX10_ringedInto_60 : decode cX10_ringedInto 60 = .ok (.iload 8, 2) := by decide +kernel
theorem dX10_ringedInto_62 : decode cX10_ringedInto 62 = .ok (.aload_n 0, 1) := by decide +kernel
theorem dX10_ringedInto_63 : decode cX10_ringedInto 63 = .ok (.getfield 49, 3) := by decide +kernel
theorem dX10_ringedInto_66 : decode cX10_ringedInto 66 = .ok (.getfield 133, 3) := by decide +kernel
theorem dX10_ringedInto_69 : decode cX10_ringedInto 69 = .ok (.if_icmp .ge 40, 3) := by decide +kernel
theorem dX10_ringedInto_72 : decode cX10_ringedInto 72 = .ok (.aload_n 0, 1) := by decide +kernel
theorem dX10_ringedInto_73 : decode cX10_ringedInto 73 = .ok (.getfield 49, 3) := by decide +kernel
theorem dX10_ringedInto_76 : decode cX10_ringedInto 76 = .ok (.getfield 134, 3) := by decide +kernel
theorem dX10_ringedInto_79 : decode cX10_ringedInto 79 = .ok (.iload 8, 2) := by decide +kernel
theorem dX10_ringedInto_81 : decode cX10_ringedInto 81 = .ok (.iaload, 1) := by decide +kernel
theorem dX10_ringedInto_82 : decode cX10_ringedInto 82 = .ok (.iload_n 2, 1) := by decide +kernel
theorem dX10_ringedInto_83 : decode cX10_ringedInto 83 = .ok (.if_icmp .ne 20, 3) := by decide +kernel
theorem dX10_ringedInto_86 : decode cX10_ringedInto 86 = .ok (.aload_n 0, 1) := by decide +kernel
theorem dX10_ringedInto_87 : decode cX10_ringedInto 87 = .ok (.getfield 49, 3) := by decide +kernel
theorem dX10_ringedInto_90 : decode cX10_ringedInto 90 = .ok (.iload 8, 2) := by decide +kernel
theorem dX10_ringedInto_92 : decode cX10_ringedInto 92 = .ok (.invokevirtual 169, 3) := by decide +kernel
theorem dX10_ringedInto_95 : decode cX10_ringedInto 95 = .ok (.iload 6, 2) := by decide +kernel
theorem dX10_ringedInto_97 : decode cX10_ringedInto 97 = .ok (.if_icmp .ne 6, 3) := by decide +kernel
theorem dX10_ringedInto_100 : decode cX10_ringedInto 100 = .ok (.iinc 7 1, 3) := by decide +kernel
theorem dX10_ringedInto_103 : decode cX10_ringedInto 103 = .ok (.iinc 8 1, 3) := by decide +kernel
theorem dX10_ringedInto_106 : decode cX10_ringedInto 106 = .ok (.goto (-46), 3) := by decide +kernel
theorem dX10_ringedInto_109 : decode cX10_ringedInto 109 = .ok (.aload_n 3, 1) := by decide +kernel
theorem dX10_ringedInto_110 : decode cX10_ringedInto 110 = .ok (.iload 7, 2) := by decide +kernel
theorem dX10_ringedInto_112 : decode cX10_ringedInto 112 = .ok (.i2l, 1) := by decide +kernel
theorem dX10_ringedInto_113 : decode cX10_ringedInto 113 = .ok (.aload_n 0, 1) := by decide +kernel
theorem dX10_ringedInto_114 : decode cX10_ringedInto 114 = .ok (.getfield 49, 3) := by decide +kernel
theorem dX10_ringedInto_117 : decode cX10_ringedInto 117 = .ok (.iload_n 2, 1) := by decide +kernel
theorem dX10_ringedInto_118 : decode cX10_ringedInto 118 = .ok (.invokevirtual 151, 3) := by decide +kernel
theorem dX10_ringedInto_121 : decode cX10_ringedInto 121 = .ok (.i2l, 1) := by decide +kernel
theorem dX10_ringedInto_122 : decode cX10_ringedInto 122 = .ok (.invokevirtual 127, 3) := by decide +kernel
theorem dX10_ringedInto_125 : decode cX10_ringedInto 125 = .ok (.ireturn, 1) := by decide +kernel
abbrev z_X10_ringedInto_1_53 : Z9 := (some .boolean, 1, 0, 0, 3, 56)
def m_X10_ringedInto_1_53_c40 (d : D9) : Option R9 := cl (m_X0_drop_53 d) (fun r1 d2 => rt (r1 % 2) d2)
def b_X10_ringedInto_1_53_c60 (k_X10_ringedInto_1_53_c60 : Int → Int → Int → Int → D9 → Option R9) (v2 v6 v7 v8 : Int) (d : D9) : Option R9 := if w32 (d 33 0) ≤ w32 v8 then cl (m_X1_ofSort_33 v2 d) (fun r1 d2 => cl (m_X0_put_53 (w32 v7) (w32 r1) d2) (fun r3 d4 => rt (r3 % 2) d4)) else ld d 34 40 v8 (fun t5 => if w32 t5 ≠ w32 v2 then k_X10_ringedInto_1_53_c60 v2 v6 v7 (v8 + 1) d else cl (m_X1_ringStands_33 v8 d) (fun r6 d7 => if w32 r6 ≠ w32 v6 then k_X10_ringedInto_1_53_c60 v2 v6 v7 (v8 + 1) d7 else k_X10_ringedInto_1_53_c60 v2 v6 (v7 + 1) (v8 + 1) d7))
def m_X10_ringedInto_1_53_c60 : Int → Int → Int → Int → D9 → Option R9 := fix9 (fun _ _ _ _ _ => none) (fun k => b_X10_ringedInto_1_53_c60 k) FU
def m_X10_ringedInto_1_53 (p1 p2 : Int) (d : D9) : Option R9 := ld d 6 150 ((p1 * 5) + 1) (fun t1 => ld d 6 150 ((p1 * 5) + 3) (fun t2 => if w32 t1 = 0 then m_X10_ringedInto_1_53_c40   d else if w32 t2 ≠ 0 then cl (m_J6_compare_7cf53 t2 t1 d) (fun r3 d4 => m_X10_ringedInto_1_53_c60  p2 r3 0 0 d4) else m_X10_ringedInto_1_53_c40   d))
set_option maxRecDepth 100000 in
theorem s_X10_ringedInto_1_53_c40 {G : G9} {X : X9} (C : CX G X cX10_ringedInto 9 RX10 [] z_X10_ringedInto_1_53) : ∀ (d : D9), SS G X 9 0 0 40 [(3, rf G 53)] [] d (m_X10_ringedInto_1_53_c40   d) := by
  intro  d
  unfold m_X10_ringedInto_1_53_c40
  refine r_aload_n C 0 dX10_ringedInto_40 rfl rfl ?_
  refine r_callV C [rf G 53] dX10_ringedInto_41 (t_X0_drop_53 C.h1 C.h2 d) mw_X10_154 mv_X0_drop la_53 ly_53 rfl (by decide) (by decide) (by decide) rfl rfl (Nat.le_of_ble_eq_true rfl) (fun r1 d2 => ?_)
  show SS G X 9 _ _ 44 [(3, rf G 53)] [i9 r1] d2 _
  exact r_zret C dX10_ringedInto_44 (by decide) (by decide)
set_option maxRecDepth 100000 in
theorem sb_X10_ringedInto_1_53_c60 {G : G9} {X : X9} (C : CX G X cX10_ringedInto 9 RX10 [] z_X10_ringedInto_1_53) (k_X10_ringedInto_1_53_c60 : Int → Int → Int → Int → D9 → Option R9) (hk_X10_ringedInto_1_53_c60 : ∀ (v2 v6 v7 v8 : Int) (d : D9), SS G X 9 0 0 60 [(0, rf G 1), (2, i9 v2), (3, rf G 53), (6, i9 v6), (7, i9 v7), (8, i9 v8)] [] d (k_X10_ringedInto_1_53_c60 v2 v6 v7 v8 d)) : ∀ (v2 v6 v7 v8 : Int) (d : D9), SS G X 9 0 0 60 [(0, rf G 1), (2, i9 v2), (3, rf G 53), (6, i9 v6), (7, i9 v7), (8, i9 v8)] [] d (b_X10_ringedInto_1_53_c60 k_X10_ringedInto_1_53_c60 v2 v6 v7 v8 d) := by
  intro v2 v6 v7 v8 d
  unfold b_X10_ringedInto_1_53_c60
  refine r_iload C 5 dX10_ringedInto_60 rfl ?_
  refine r_aload_n C 0 dX10_ringedInto_62 rfl rfl ?_
  refine r_getR C 33 dX10_ringedInto_63 fl_X10_49 la_1 ly_1 rfl rfl ?_
  refine r_getI C dX10_ringedInto_66 fl_X10_133 la_33 ly_33 rfl ?_
  refine r_icmp_ge C 109 dX10_ringedInto_69 (by decide) (fun _ => ?_) (fun _ => ?_)
  · refine r_aload_n C 2 dX10_ringedInto_109 rfl rfl ?_
    refine r_iload C 4 dX10_ringedInto_110 rfl ?_
    refine r_i2l C dX10_ringedInto_112 ?_
    refine r_aload_n C 0 dX10_ringedInto_113 rfl rfl ?_
    refine r_getR C 33 dX10_ringedInto_114 fl_X10_49 la_1 ly_1 rfl rfl ?_
    refine r_iload_n C 1 dX10_ringedInto_117 rfl rfl ?_
    refine r_callV C [i9 v2, rf G 33, l9 (w32 v7), rf G 53] dX10_ringedInto_118 (t_X1_ofSort_33 C.h1 C.h2 v2 d) mw_X10_151 mv_X1_ofSort la_33 ly_33 rfl (by decide) (by decide) (by decide) rfl rfl (Nat.le_of_ble_eq_true rfl) (fun r1 d2 => ?_)
    show SS G X 9 _ _ 121 [(0, rf G 1), (2, i9 v2), (3, rf G 53), (6, i9 v6), (7, i9 v7), (8, i9 v8)] [i9 r1, l9 (w32 v7), rf G 53] d2 _
    refine r_i2l C dX10_ringedInto_121 ?_
    refine r_callV C [l9 (w32 r1), l9 (w32 v7), rf G 53] dX10_ringedInto_122 (t_X0_put_53 C.h1 C.h2 (w32 v7) (w32 r1) d2) mw_X10_127 mv_X0_put la_53 ly_53 rfl (by decide) (by decide) (by decide) rfl rfl (Nat.le_of_ble_eq_true rfl) (fun r3 d4 => ?_)
    show SS G X 9 _ _ 125 [(0, rf G 1), (2, i9 v2), (3, rf G 53), (6, i9 v6), (7, i9 v7), (8, i9 v8)] [i9 r3] d4 _
    exact r_zret C dX10_ringedInto_125 (by decide) (by decide)
  · refine r_aload_n C 0 dX10_ringedInto_72 rfl rfl ?_
    refine r_getR C 33 dX10_ringedInto_73 fl_X10_49 la_1 ly_1 rfl rfl ?_
    refine r_getR C 34 dX10_ringedInto_76 fl_X10_134 la_33 ly_33 rfl rfl ?_
    refine r_iload C 5 dX10_ringedInto_79 rfl ?_
    refine r_iald C dX10_ringedInto_81 la_34 ly_34 (fun t5 => ?_)
    refine r_iload_n C 1 dX10_ringedInto_82 rfl rfl ?_
    refine r_icmp_ne C 103 dX10_ringedInto_83 (by decide) (fun _ => ?_) (fun _ => ?_)
    · refine r_iinc C 5 [(8, i9 (v8 + 1)), (0, rf G 1), (2, i9 v2), (3, rf G 53), (6, i9 v6), (7, i9 v7)] dX10_ringedInto_103 rfl (by decide) rfl ?_
      refine r_goto C 60 dX10_ringedInto_106 (by decide) ?_
      refine ss_wide (k' := 0) (n' := 0) (by decide) (by decide) ?_
      refine ss_ls [(0, rf G 1), (2, i9 v2), (3, rf G 53), (6, i9 v6), (7, i9 v7), (8, i9 (v8 + 1))] [1, 2, 3, 4, 5, 0] rfl ?_
      exact hk_X10_ringedInto_1_53_c60 v2 v6 v7 (v8 + 1) d
    · refine r_aload_n C 0 dX10_ringedInto_86 rfl rfl ?_
      refine r_getR C 33 dX10_ringedInto_87 fl_X10_49 la_1 ly_1 rfl rfl ?_
      refine r_iload C 5 dX10_ringedInto_90 rfl ?_
      refine r_callV C [i9 v8, rf G 33] dX10_ringedInto_92 (t_X1_ringStands_33 C.h1 C.h2 v8 d) mw_X10_169 mv_X1_ringStands la_33 ly_33 rfl (by decide) (by decide) (by decide) rfl rfl (Nat.le_of_ble_eq_true rfl) (fun r6 d7 => ?_)
      show SS G X 9 _ _ 95 [(0, rf G 1), (2, i9 v2), (3, rf G 53), (6, i9 v6), (7, i9 v7), (8, i9 v8)] [i9 r6] d7 _
      refine r_iload C 3 dX10_ringedInto_95 rfl ?_
      refine r_icmp_ne C 103 dX10_ringedInto_97 (by decide) (fun _ => ?_) (fun _ => ?_)
      · refine r_iinc C 5 [(8, i9 (v8 + 1)), (0, rf G 1), (2, i9 v2), (3, rf G 53), (6, i9 v6), (7, i9 v7)] dX10_ringedInto_103 rfl (by decide) rfl ?_
        refine r_goto C 60 dX10_ringedInto_106 (by decide) ?_
        refine ss_wide (k' := 0) (n' := 0) (by decide) (by decide) ?_
        refine ss_ls [(0, rf G 1), (2, i9 v2), (3, rf G 53), (6, i9 v6), (7, i9 v7), (8, i9 (v8 + 1))] [1, 2, 3, 4, 5, 0] rfl ?_
        exact hk_X10_ringedInto_1_53_c60 v2 v6 v7 (v8 + 1) d7
      · refine r_iinc C 4 [(7, i9 (v7 + 1)), (0, rf G 1), (2, i9 v2), (3, rf G 53), (6, i9 v6), (8, i9 v8)] dX10_ringedInto_100 rfl (by decide) rfl ?_
        refine r_iinc C 5 [(8, i9 (v8 + 1)), (7, i9 (v7 + 1)), (0, rf G 1), (2, i9 v2), (3, rf G 53), (6, i9 v6)] dX10_ringedInto_103 rfl (by decide) rfl ?_
        refine r_goto C 60 dX10_ringedInto_106 (by decide) ?_
        refine ss_wide (k' := 0) (n' := 0) (by decide) (by decide) ?_
        refine ss_ls [(0, rf G 1), (2, i9 v2), (3, rf G 53), (6, i9 v6), (7, i9 (v7 + 1)), (8, i9 (v8 + 1))] [2, 3, 4, 5, 1, 0] rfl ?_
        exact hk_X10_ringedInto_1_53_c60 v2 v6 (v7 + 1) (v8 + 1) d7
theorem s_X10_ringedInto_1_53_c60 {G : G9} {X : X9} (C : CX G X cX10_ringedInto 9 RX10 [] z_X10_ringedInto_1_53) : ∀ (v2 v6 v7 v8 : Int) (d : D9), SS G X 9 0 0 60 [(0, rf G 1), (2, i9 v2), (3, rf G 53), (6, i9 v6), (7, i9 v7), (8, i9 v8)] [] d (m_X10_ringedInto_1_53_c60  v2 v6 v7 v8 d) :=
  fix9_ind (P := fun k => ∀ (v2 v6 v7 v8 : Int) (d : D9), SS G X 9 0 0 60 [(0, rf G 1), (2, i9 v2), (3, rf G 53), (6, i9 v6), (7, i9 v7), (8, i9 v8)] [] d (k v2 v6 v7 v8 d)) (fun _ _ _ _ _ => ss_none) (fun k hk => sb_X10_ringedInto_1_53_c60 C k hk) FU
set_option maxRecDepth 100000 in
theorem t_X10_ringedInto_1_53 {G : G9} {l : Launch} (h1 : va_D (A9 G) (wl G (fun _ _ => 0))) (h2 : l.stackTraces = false) (p1 p2 : Int) (d : D9) : MT G l yX10_ringedInto cX10_ringedInto 9 z_X10_ringedInto_1_53 [rf G 1, i9 p1, i9 p2, rf G 53] d (m_X10_ringedInto_1_53 p1 p2 d) := by
  refine mt_of (own := RX10) (by decide) rfl (Nat.le_of_ble_eq_true rfl) h1 h2 [(0, rf G 1), (1, i9 p1), (2, i9 p2), (3, rf G 53)] rfl (fun X hX C => ?_)
  unfold m_X10_ringedInto_1_53
  refine r_aload_n C 0 dX10_ringedInto_0 rfl rfl ?_
  refine r_getR C 2 dX10_ringedInto_1 fl_X10_12 la_1 ly_1 rfl rfl ?_
  refine r_getR C 6 dX10_ringedInto_4 fl_X10_139 la_2 ly_2 rfl rfl ?_
  refine r_iload_n C 1 dX10_ringedInto_7 rfl rfl ?_
  refine r_iconst C dX10_ringedInto_8 ?_
  refine r_imul C dX10_ringedInto_9 ?_
  refine r_iconst C dX10_ringedInto_10 ?_
  refine r_iadd C dX10_ringedInto_11 ?_
  refine r_iald C dX10_ringedInto_12 la_6 ly_6 (fun t1 => ?_)
  refine r_istore C [(4, i9 t1), (0, rf G 1), (1, i9 p1), (2, i9 p2), (3, rf G 53)] dX10_ringedInto_13 (by decide) rfl ?_
  refine r_aload_n C 1 dX10_ringedInto_15 rfl rfl ?_
  refine r_getR C 2 dX10_ringedInto_16 fl_X10_12 la_1 ly_1 rfl rfl ?_
  refine r_getR C 6 dX10_ringedInto_19 fl_X10_139 la_2 ly_2 rfl rfl ?_
  refine r_iload_n C 2 dX10_ringedInto_22 rfl rfl ?_
  refine r_iconst C dX10_ringedInto_23 ?_
  refine r_imul C dX10_ringedInto_24 ?_
  refine r_iconst C dX10_ringedInto_25 ?_
  refine r_iadd C dX10_ringedInto_26 ?_
  refine r_iald C dX10_ringedInto_27 la_6 ly_6 (fun t2 => ?_)
  refine r_istore C [(5, i9 t2), (4, i9 t1), (0, rf G 1), (1, i9 p1), (2, i9 p2), (3, rf G 53)] dX10_ringedInto_28 (by decide) rfl ?_
  refine r_iload C 1 dX10_ringedInto_30 rfl ?_
  refine r_if_eq C (b := 0) 40 dX10_ringedInto_32 (by decide) (fun _ => ?_) (fun _ => ?_)
  · refine ss_wide (k' := 0) (n' := 0) (by decide) (by decide) ?_
    refine ss_ls [(3, rf G 53)] [5] rfl ?_
    exact s_X10_ringedInto_1_53_c40 C   d
  · refine r_iload C 0 dX10_ringedInto_35 rfl ?_
    refine r_if_ne C (b := 0) 45 dX10_ringedInto_37 (by decide) (fun _ => ?_) (fun _ => ?_)
    · refine r_iload C 0 dX10_ringedInto_45 rfl ?_
      refine r_iload C 1 dX10_ringedInto_47 rfl ?_
      refine r_callS C [i9 t1, i9 t2] dX10_ringedInto_49 (t_J6_compare_7cf53 C.h1 C.h2 t2 t1 d) mw_X10_164 ms_J6_compare_7cf53 (by decide) (by decide) (by decide) rfl rfl (Nat.le_of_ble_eq_true rfl) (fun r3 d4 => ?_)
      show SS G X 9 _ _ 52 [(5, i9 t2), (4, i9 t1), (0, rf G 1), (1, i9 p1), (2, i9 p2), (3, rf G 53)] [i9 r3] d4 _
      refine r_istore C [(6, i9 r3), (5, i9 t2), (4, i9 t1), (0, rf G 1), (1, i9 p1), (2, i9 p2), (3, rf G 53)] dX10_ringedInto_52 (by decide) rfl ?_
      refine r_iconst C dX10_ringedInto_54 ?_
      refine r_istore C [(7, i9 0), (6, i9 r3), (5, i9 t2), (4, i9 t1), (0, rf G 1), (1, i9 p1), (2, i9 p2), (3, rf G 53)] dX10_ringedInto_55 (by decide) rfl ?_
      refine r_iconst C dX10_ringedInto_57 ?_
      refine r_istore C [(8, i9 0), (7, i9 0), (6, i9 r3), (5, i9 t2), (4, i9 t1), (0, rf G 1), (1, i9 p1), (2, i9 p2), (3, rf G 53)] dX10_ringedInto_58 (by decide) rfl ?_
      refine ss_wide (k' := 0) (n' := 0) (by decide) (by decide) ?_
      refine ss_ls [(0, rf G 1), (2, i9 p2), (3, rf G 53), (6, i9 r3), (7, i9 0), (8, i9 0)] [5, 7, 8, 2, 1, 0] rfl ?_
      exact s_X10_ringedInto_1_53_c60 C  p2 r3 0 0 d4
    · refine ss_wide (k' := 0) (n' := 0) (by decide) (by decide) ?_
      refine ss_ls [(3, rf G 53)] [5] rfl ?_
      exact s_X10_ringedInto_1_53_c40 C   d
theorem dX11_ringed_0 : decode cX11_ringed 0 = .ok (.aload_n 0, 1) := by decide +kernel
theorem dX11_ringed_1 : decode cX11_ringed 1 = .ok (.iload_n 1, 1) := by decide +kernel
theorem dX11_ringed_2 : decode cX11_ringed 2 = .ok (.invokevirtual 87, 3) := by decide +kernel
theorem dX11_ringed_5 : decode cX11_ringed 5 = .ok (.iload_n 2, 1) := by decide +kernel
theorem dX11_ringed_6 : decode cX11_ringed 6 = .ok (.iconst 0, 1) := by decide +kernel
theorem dX11_ringed_7 : decode cX11_ringed 7 = .ok (.iconst 3, 1) := by decide +kernel
theorem dX11_ringed_8 : decode cX11_ringed 8 = .ok (.invokestatic 73, 3) := by decide +kernel
theorem dX11_ringed_11 : decode cX11_ringed 11 = .ok (.aload_n 0, 1) := by decide +kernel
theorem dX11_ringed_12 : decode cX11_ringed 12 = .ok (.getfield 10, 3) := by decide +kernel
theorem dX11_ringed_15 : decode cX11_ringed 15 = .ok (.iload_n 1, 1) := by decide +kernel
theorem dX11_ringed_16 : decode cX11_ringed 16 = .ok (.iload_n 2, 1) := by decide +kernel
theorem dX11_ringed_17 : decode cX11_ringed 17 = .ok (.aload_n 0, 1) := by decide +kernel
theorem dX11_ringed_18 : decode cX11_ringed 18 = .ok (.getfield 55, 3) := by decide +kernel
theorem dX11_ringed_21 : decode cX11_ringed 21 = .ok (.invokevirtual 329, 3) := by decide +kernel
theorem dX11_ringed_24 : decode cX11_ringed 24 = .ok (.ireturn, 1) := by decide +kernel
abbrev z_X11_ringed_0 : Z9 := (some .boolean, 1, 3, 18, 8, 142)
def m_X11_ringed_0 (p1 p2 : Int) (d : D9) : Option R9 := cl (m_X11_askHand_0 p1 d) (fun r1 d2 => cl (m_X11_askWithin p2 0 3 d2) (fun r3 d4 => cl (m_X10_ringedInto_1_53 p1 p2 d4) (fun r5 d6 => rt (r5 % 2) d6)))
set_option maxRecDepth 100000 in
theorem t_X11_ringed_0 {G : G9} {l : Launch} (h1 : va_D (A9 G) (wl G (fun _ _ => 0))) (h2 : l.stackTraces = false) (p1 p2 : Int) (d : D9) : MT G l yX11_ringed cX11_ringed 3 z_X11_ringed_0 [rf G 0, i9 p1, i9 p2] d (m_X11_ringed_0 p1 p2 d) := by
  refine mt_of (own := RX11) (by decide) rfl (Nat.le_of_ble_eq_true rfl) h1 h2 [(0, rf G 0), (1, i9 p1), (2, i9 p2)] rfl (fun X hX C => ?_)
  unfold m_X11_ringed_0
  refine r_aload_n C 0 dX11_ringed_0 rfl rfl ?_
  refine r_iload_n C 1 dX11_ringed_1 rfl rfl ?_
  refine r_callV C [i9 p1, rf G 0] dX11_ringed_2 (t_X11_askHand_0 C.h1 C.h2 p1 d) mw_X11_87 mv_X11_askHand la_0 ly_0 rfl (by decide) (by decide) (by decide) rfl rfl (Nat.le_of_ble_eq_true rfl) (fun r1 d2 => ?_)
  show SS G X 3 _ _ 5 [(0, rf G 0), (1, i9 p1), (2, i9 p2)] [] d2 _
  refine r_iload_n C 2 dX11_ringed_5 rfl rfl ?_
  refine r_iconst C dX11_ringed_6 ?_
  refine r_iconst C dX11_ringed_7 ?_
  refine r_callS C [i9 3, i9 0, i9 p2] dX11_ringed_8 (t_X11_askWithin C.h1 C.h2 p2 0 3 d2) mw_X11_73 ms_X11_askWithin (by decide) (by decide) (by decide) rfl rfl (Nat.le_of_ble_eq_true rfl) (fun r3 d4 => ?_)
  show SS G X 3 _ _ 11 [(0, rf G 0), (1, i9 p1), (2, i9 p2)] [] d4 _
  refine r_aload_n C 0 dX11_ringed_11 rfl rfl ?_
  refine r_getR C 1 dX11_ringed_12 fl_X11_10 la_0 ly_0 rfl rfl ?_
  refine r_iload_n C 1 dX11_ringed_15 rfl rfl ?_
  refine r_iload_n C 2 dX11_ringed_16 rfl rfl ?_
  refine r_aload_n C 0 dX11_ringed_17 rfl rfl ?_
  refine r_getR C 53 dX11_ringed_18 fl_X11_55 la_0 ly_0 rfl rfl ?_
  refine r_callV C [rf G 53, i9 p2, i9 p1, rf G 1] dX11_ringed_21 (t_X10_ringedInto_1_53 C.h1 C.h2 p1 p2 d4) mw_X11_329 mv_X10_ringedInto la_1 ly_1 rfl (by decide) (by decide) (by decide) rfl rfl (Nat.le_of_ble_eq_true rfl) (fun r5 d6 => ?_)
  show SS G X 3 _ _ 24 [(0, rf G 0), (1, i9 p1), (2, i9 p2)] [i9 r5] d6 _
  exact r_zret C dX11_ringed_24 (by decide) (by decide)
theorem dX7_oldestPeople_0 : decode cX7_oldestPeople 0 = .ok (.iconst (-1), 1) := by decide +kernel
theorem dX7_oldestPeople_1 : decode cX7_oldestPeople 1 = .ok (.istore_n 1, 1) := by decide +kernel
theorem dX7_oldestPeople_2 : decode cX7_oldestPeople 2 = .ok (.iconst 0, 1) := by decide +kernel
theorem dX7_oldestPeople_3 : decode cX7_oldestPeople 3 = .ok (.istore_n 2, 1) := by decide +kernel
theorem dX7_oldestPeople_4 : decode cX7_oldestPeople 4 = .ok (.iload_n 2, 1) := by decide +kernel
theorem dX7_oldestPeople_5 : decode cX7_oldestPeople 5 = .ok (.aload_n 0, 1) := by decide +kernel
theorem dX7_oldestPeople_6 : decode cX7_oldestPeople 6 = .ok (.getfield 24, 3) := by decide +kernel
theorem dX7_oldestPeople_9 : decode cX7_oldestPeople 9 = .ok (.if_icmp .ge 31, 3) := by decide +kernel
theorem dX7_oldestPeople_12 : decode cX7_oldestPeople 12 = .ok (.aload_n 0, 1) := by decide +kernel
theorem dX7_oldestPeople_13 : decode cX7_oldestPeople 13 = .ok (.getfield 9, 3) := by decide +kernel
theorem dX7_oldestPeople_16 : decode cX7_oldestPeople 16 = .ok (.iload_n 2, 1) := by decide +kernel
theorem dX7_oldestPeople_17 : decode cX7_oldestPeople 17 = .ok (.iaload, 1) := by decide +kernel
theorem dX7_oldestPeople_18 : decode cX7_oldestPeople 18 = .ok (.bipush 24, 2) := by decide +kernel
theorem dX7_oldestPeople_20 : decode cX7_oldestPeople 20 = .ok (.if_icmp .ne 14, 3) := by decide +kernel
theorem dX7_oldestPeople_23 : decode cX7_oldestPeople 23 = .ok (.iload_n 1, 1) := by decide +kernel
theorem dX7_oldestPeople_24 : decode cX7_oldestPeople 24 = .ok (.aload_n 0, 1) := by decide +kernel
theorem dX7_oldestPeople_25 : decode cX7_oldestPeople 25 = .ok (.getfield 21, 3) := by decide +kernel
theorem dX7_oldestPeople_28 : decode cX7_oldestPeople 28 = .ok (.iload_n 2, 1) := by decide +kernel
theorem dX7_oldestPeople_29 : decode cX7_oldestPeople 29 = .ok (.iaload, 1) := by decide +kernel
theorem dX7_oldestPeople_30 : decode cX7_oldestPeople 30 = .ok (.invokestatic 61, 3) := by decide +kernel
theorem dX7_oldestPeople_33 : decode cX7_oldestPeople 33 = .ok (.istore_n 1, 1) := by decide +kernel
theorem dX7_oldestPeople_34 : decode cX7_oldestPeople 34 = .ok (.iinc 2 1, 3) := by decide +kernel
theorem dX7_oldestPeople_37 : decode cX7_oldestPeople 37 = .ok (.goto (-33), 3) := by decide +kernel
theorem dX7_oldestPeople_40 : decode cX7_oldestPeople 40 = .ok (.iload_n 1, 1) := by decide +kernel
theorem dX7_oldestPeople_41 : decode cX7_oldestPeople 41 = .ok (.ireturn, 1) := by decide +kernel
abbrev z_X7_oldestPeople_23 : Z9 := (some .int, 1, 0, 0, 2, 60)
def b_X7_oldestPeople_23_c4 (k_X7_oldestPeople_23_c4 : Int → Int → D9 → Option R9) (v1 v2 : Int) (d : D9) : Option R9 := if w32 (d 23 0) ≤ w32 v2 then rt v1 d else ld d 24 12 v2 (fun t1 => if w32 t1 ≠ w32 24 then k_X7_oldestPeople_23_c4 v1 (v2 + 1) d else ld d 27 12 v2 (fun t2 => lt9v (max9 v1 t2) (fun a3 => k_X7_oldestPeople_23_c4 a3 (v2 + 1) d)))
def m_X7_oldestPeople_23_c4 : Int → Int → D9 → Option R9 := fix9 (fun _ _ _ => none) (fun k => b_X7_oldestPeople_23_c4 k) FU
def m_X7_oldestPeople_23 (d : D9) : Option R9 := m_X7_oldestPeople_23_c4  (-1) 0 d
set_option maxRecDepth 100000 in
theorem sb_X7_oldestPeople_23_c4 {G : G9} {X : X9} (C : CX G X cX7_oldestPeople 3 RX7 [] z_X7_oldestPeople_23) (k_X7_oldestPeople_23_c4 : Int → Int → D9 → Option R9) (hk_X7_oldestPeople_23_c4 : ∀ (v1 v2 : Int) (d : D9), SS G X 3 0 0 4 [(0, rf G 23), (1, i9 v1), (2, i9 v2)] [] d (k_X7_oldestPeople_23_c4 v1 v2 d)) : ∀ (v1 v2 : Int) (d : D9), SS G X 3 0 0 4 [(0, rf G 23), (1, i9 v1), (2, i9 v2)] [] d (b_X7_oldestPeople_23_c4 k_X7_oldestPeople_23_c4 v1 v2 d) := by
  intro v1 v2 d
  unfold b_X7_oldestPeople_23_c4
  refine r_iload_n C 2 dX7_oldestPeople_4 rfl rfl ?_
  refine r_aload_n C 0 dX7_oldestPeople_5 rfl rfl ?_
  refine r_getI C dX7_oldestPeople_6 fl_X7_24 la_23 ly_23 rfl ?_
  refine r_icmp_ge C 40 dX7_oldestPeople_9 (by decide) (fun _ => ?_) (fun _ => ?_)
  · refine r_iload_n C 1 dX7_oldestPeople_40 rfl rfl ?_
    exact r_iret C dX7_oldestPeople_41 (by decide) (by decide)
  · refine r_aload_n C 0 dX7_oldestPeople_12 rfl rfl ?_
    refine r_getR C 24 dX7_oldestPeople_13 fl_X7_9 la_23 ly_23 rfl rfl ?_
    refine r_iload_n C 2 dX7_oldestPeople_16 rfl rfl ?_
    refine r_iald C dX7_oldestPeople_17 la_24 ly_24 (fun t1 => ?_)
    refine r_bipush C dX7_oldestPeople_18 rfl ?_
    refine r_icmp_ne C 34 dX7_oldestPeople_20 (by decide) (fun _ => ?_) (fun _ => ?_)
    · refine r_iinc C 2 [(2, i9 (v2 + 1)), (0, rf G 23), (1, i9 v1)] dX7_oldestPeople_34 rfl (by decide) rfl ?_
      refine r_goto C 4 dX7_oldestPeople_37 (by decide) ?_
      refine ss_wide (k' := 0) (n' := 0) (by decide) (by decide) ?_
      refine ss_ls [(0, rf G 23), (1, i9 v1), (2, i9 (v2 + 1))] [1, 2, 0] rfl ?_
      exact hk_X7_oldestPeople_23_c4 v1 (v2 + 1) d
    · refine r_iload_n C 1 dX7_oldestPeople_23 rfl rfl ?_
      refine r_aload_n C 0 dX7_oldestPeople_24 rfl rfl ?_
      refine r_getR C 27 dX7_oldestPeople_25 fl_X7_21 la_23 ly_23 rfl rfl ?_
      refine r_iload_n C 2 dX7_oldestPeople_28 rfl rfl ?_
      refine r_iald C dX7_oldestPeople_29 la_27 ly_27 (fun t2 => ?_)
      refine r_mmax C dX7_oldestPeople_30 mm_X7_61 ⟨Nat.le_of_ble_eq_true rfl, Nat.le_of_ble_eq_true rfl⟩ (by decide) (by decide) ?_
      refine ss_lt (fun a3 => ?_)
      refine r_istore_n C [(1, i9 a3), (0, rf G 23), (2, i9 v2)] dX7_oldestPeople_33 rfl (by decide) rfl ?_
      refine r_iinc C 2 [(2, i9 (v2 + 1)), (1, i9 a3), (0, rf G 23)] dX7_oldestPeople_34 rfl (by decide) rfl ?_
      refine r_goto C 4 dX7_oldestPeople_37 (by decide) ?_
      refine ss_wide (k' := 0) (n' := 0) (by decide) (by decide) ?_
      refine ss_ls [(0, rf G 23), (1, i9 a3), (2, i9 (v2 + 1))] [2, 1, 0] rfl ?_
      exact hk_X7_oldestPeople_23_c4 a3 (v2 + 1) d
theorem s_X7_oldestPeople_23_c4 {G : G9} {X : X9} (C : CX G X cX7_oldestPeople 3 RX7 [] z_X7_oldestPeople_23) : ∀ (v1 v2 : Int) (d : D9), SS G X 3 0 0 4 [(0, rf G 23), (1, i9 v1), (2, i9 v2)] [] d (m_X7_oldestPeople_23_c4  v1 v2 d) :=
  fix9_ind (P := fun k => ∀ (v1 v2 : Int) (d : D9), SS G X 3 0 0 4 [(0, rf G 23), (1, i9 v1), (2, i9 v2)] [] d (k v1 v2 d)) (fun _ _ _ => ss_none) (fun k hk => sb_X7_oldestPeople_23_c4 C k hk) FU
set_option maxRecDepth 100000 in
theorem t_X7_oldestPeople_23 {G : G9} {l : Launch} (h1 : va_D (A9 G) (wl G (fun _ _ => 0))) (h2 : l.stackTraces = false) (d : D9) : MT G l yX7_oldestPeople cX7_oldestPeople 3 z_X7_oldestPeople_23 [rf G 23] d (m_X7_oldestPeople_23  d) := by
  refine mt_of (own := RX7) (by decide) rfl (Nat.le_of_ble_eq_true rfl) h1 h2 [(0, rf G 23)] rfl (fun X hX C => ?_)
  unfold m_X7_oldestPeople_23
  refine r_iconst C dX7_oldestPeople_0 ?_
  refine r_istore_n C [(1, i9 (-1)), (0, rf G 23)] dX7_oldestPeople_1 rfl (by decide) rfl ?_
  refine r_iconst C dX7_oldestPeople_2 ?_
  refine r_istore_n C [(2, i9 0), (1, i9 (-1)), (0, rf G 23)] dX7_oldestPeople_3 rfl (by decide) rfl ?_
  refine ss_wide (k' := 0) (n' := 0) (by decide) (by decide) ?_
  refine ss_ls [(0, rf G 23), (1, i9 (-1)), (2, i9 0)] [2, 1, 0] rfl ?_
  exact s_X7_oldestPeople_23_c4 C  (-1) 0 d
theorem dX10_isOfOnePeople_0 : decode cX10_isOfOnePeople 0 = .ok (.aload_n 0, 1) := by decide +kernel
theorem dX10_isOfOnePeople_1 : decode cX10_isOfOnePeople 1 = .ok (.iload_n 1, 1) := by decide +kernel
theorem dX10_isOfOnePeople_2 : decode cX10_isOfOnePeople 2 = .ok (.invokevirtual 89, 3) := by decide +kernel
theorem dX10_isOfOnePeople_5 : decode cX10_isOfOnePeople 5 = .ok (.istore_n 2, 1) := by decide +kernel
theorem dX10_isOfOnePeople_6 : decode cX10_isOfOnePeople 6 = .ok (.iconst 0, 1) := by decide +kernel
theorem dX10_isOfOnePeople_7 : decode cX10_isOfOnePeople 7 = .ok (.istore_n 3, 1) := by decide +kernel
theorem dX10_isOfOnePeople_8 : decode cX10_isOfOnePeople 8 = .ok (.aload_n 0, 1) := by decide +kernel
theorem dX10_isOfOnePeople_9 : decode cX10_isOfOnePeople 9 = .ok (.iload_n 1, 1) := by decide +kernel
theorem dX10_isOfOnePeople_10 : decode cX10_isOfOnePeople 10 = .ok (.invokevirtual 86, 3) := by decide +kernel
theorem dX10_isOfOnePeople_13 : decode cX10_isOfOnePeople 13 = .ok (.istore 4, 2) := by decide +kernel
theorem dX10_isOfOnePeople_15 : decode cX10_isOfOnePeople 15 = .ok (.iload 4, 2) := by decide +kernel
theorem dX10_isOfOnePeople_17 : decode cX10_isOfOnePeople 17 = .ok (.iload_n 2, 1) := by decide +kernel
theorem dX10_isOfOnePeople_18 : decode cX10_isOfOnePeople 18 = .ok (.if_icmp .gt 54, 3) := by decide +kernel
theorem dX10_isOfOnePeople_21 : decode cX10_isOfOnePeople 21 = .ok (.aload_n 0, 1) := by decide +kernel
theorem dX10_isOfOnePeople_22 : decode cX10_isOfOnePeople 22 = .ok (.iload_n 1, 1) := by decide +kernel
theorem dX10_isOfOnePeople_23 : decode cX10_isOfOnePeople 23 = .ok (.iload 4, 2) := by decide +kernel
theorem dX10_isOfOnePeople_25 : decode cX10_isOfOnePeople 25 = .ok (.invokevirtual 193, 3) := by decide +kernel
theorem dX10_isOfOnePeople_28 : decode cX10_isOfOnePeople 28 = .ok (.ifCond .eq 38, 3) := by decide +kernel
theorem dX10_isOfOnePeople_31 : decode cX10_isOfOnePeople 31 = .ok (.aload_n 0, 1) := by decide +kernel
theorem dX10_isOfOnePeople_32 : decode cX10_isOfOnePeople 32 = .ok (.getfield 35, 3) := by decide +kernel
theorem dX10_isOfOnePeople_35 : decode cX10_isOfOnePeople 35 = .ok (.iload 4, 2) := by decide +kernel
theorem dX10_isOfOnePeople_37 : decode cX10_isOfOnePeople 37 = .ok (.invokevirtual 196, 3) := by decide +kernel
theorem dX10_isOfOnePeople_40 : decode cX10_isOfOnePeople 40 = .ok (.istore 5, 2) := by decide +kernel
theorem dX10_isOfOnePeople_42 : decode cX10_isOfOnePeople 42 = .ok (.iload 5, 2) := by decide +kernel
theorem dX10_isOfOnePeople_44 : decode cX10_isOfOnePeople 44 = .ok (.invokestatic 199, 3) := by decide +kernel
theorem dX10_isOfOnePeople_47 : decode cX10_isOfOnePeople 47 = .ok (.iconst 1, 1) := by decide +kernel
theorem dX10_isOfOnePeople_48 : decode cX10_isOfOnePeople 48 = .ok (.if_icmp .ne 13, 3) := by decide +kernel
theorem dX10_isOfOnePeople_51 : decode cX10_isOfOnePeople 51 = .ok (.iload_n 3, 1) := by decide +kernel
theorem dX10_isOfOnePeople_52 : decode cX10_isOfOnePeople 52 = .ok (.ifCond .eq 11, 3) := by decide +kernel
theorem dX10_isOfOnePeople_55 : decode cX10_isOfOnePeople 55 = .ok (.iload 5, 2) := by decide +kernel
theorem dX10_isOfOnePeople_57 : decode cX10_isOfOnePeople 57 = .ok (.iload_n 3, 1) := by decide +kernel
theorem dX10_isOfOnePeople_58 : decode cX10_isOfOnePeople 58 = .ok (.if_icmp .eq 5, 3) := by decide +kernel
theorem dX10_isOfOnePeople_61 : decode cX10_isOfOnePeople 61 = .ok (.iconst 0, 1) := by decide +kernel
theorem dX10_isOfOnePeople_62 : decode cX10_isOfOnePeople 62 = .ok (.ireturn, 1) := by decide +kernel
theorem dX10_isOfOnePeople_63 : decode cX10_isOfOnePeople 63 = .ok (.iload 5, 2) := by decide +kernel
theorem dX10_isOfOnePeople_65 : decode cX10_isOfOnePeople 65 = .ok (.istore_n 3, 1) := by decide +kernel
theorem dX10_isOfOnePeople_66 : decode cX10_isOfOnePeople 66 = .ok (.iinc 4 1, 3) := by decide +kernel
theorem dX10_isOfOnePeople_69 : decode cX10_isOfOnePeople 69 = .ok (.goto (-54), 3) := by decide +kernel
theorem dX10_isOfOnePeople_72 : decode cX10_isOfOnePeople 72 = .ok (.iload_n 3, 1) := by decide +kernel
theorem dX10_isOfOnePeople_73 : decode cX10_isOfOnePeople 73 = .ok (.ifCond .eq 7, 3) := by decide +kernel
theorem dX10_isOfOnePeople_76 : decode cX10_isOfOnePeople 76 = .ok (.iconst 1, 1) := by decide +kernel
theorem dX10_isOfOnePeople_77 : decode cX10_isOfOnePeople 77 = .ok (.goto 4, 3) := by decide +kernel
theorem dX10_isOfOnePeople_80 : decode cX10_isOfOnePeople 80 = .ok (.iconst 0, 1) := by decide +kernel
theorem dX10_isOfOnePeople_81 : decode cX10_isOfOnePeople 81 = .ok (.ireturn, 1) := by decide +kernel
abbrev z_X10_isOfOnePeople_1 : Z9 := (some .boolean, 1, 0, 0, 5, 105)
def b_X10_isOfOnePeople_1_c15 (k_X10_isOfOnePeople_1_c15 : Int → Int → Int → Int → D9 → Option R9) (v1 v2 v3 v4 : Int) (d : D9) : Option R9 := if w32 v2 < w32 v4 then if w32 v3 = 0 then rt (0 % 2) d else rt (1 % 2) d else cl (m_X10_livesAt_1 v1 v4 d) (fun r1 d2 => if w32 r1 = 0 then k_X10_isOfOnePeople_1_c15 v1 v2 v3 (v4 + 1) d2 else cl (m_X7_peoplesAt_23 v4 d2) (fun r3 d4 => cl (m_J6_bitCount_0f7a4 r3 d4) (fun r5 d6 => if w32 r5 ≠ w32 1 then rt (0 % 2) d6 else if w32 v3 = 0 then k_X10_isOfOnePeople_1_c15 v1 v2 r3 (v4 + 1) d6 else if w32 r3 = w32 v3 then k_X10_isOfOnePeople_1_c15 v1 v2 r3 (v4 + 1) d6 else rt (0 % 2) d6)))
def m_X10_isOfOnePeople_1_c15 : Int → Int → Int → Int → D9 → Option R9 := fix9 (fun _ _ _ _ _ => none) (fun k => b_X10_isOfOnePeople_1_c15 k) FU
def m_X10_isOfOnePeople_1 (p1 : Int) (d : D9) : Option R9 := cl (m_X10_mostOf_1 p1 d) (fun r1 d2 => cl (m_X10_leastOf_1 p1 d2) (fun r3 d4 => m_X10_isOfOnePeople_1_c15  p1 r1 0 r3 d4))
set_option maxRecDepth 100000 in
theorem sb_X10_isOfOnePeople_1_c15 {G : G9} {X : X9} (C : CX G X cX10_isOfOnePeople 6 RX10 [] z_X10_isOfOnePeople_1) (k_X10_isOfOnePeople_1_c15 : Int → Int → Int → Int → D9 → Option R9) (hk_X10_isOfOnePeople_1_c15 : ∀ (v1 v2 v3 v4 : Int) (d : D9), SS G X 6 0 0 15 [(0, rf G 1), (1, i9 v1), (2, i9 v2), (3, i9 v3), (4, i9 v4)] [] d (k_X10_isOfOnePeople_1_c15 v1 v2 v3 v4 d)) : ∀ (v1 v2 v3 v4 : Int) (d : D9), SS G X 6 0 0 15 [(0, rf G 1), (1, i9 v1), (2, i9 v2), (3, i9 v3), (4, i9 v4)] [] d (b_X10_isOfOnePeople_1_c15 k_X10_isOfOnePeople_1_c15 v1 v2 v3 v4 d) := by
  intro v1 v2 v3 v4 d
  unfold b_X10_isOfOnePeople_1_c15
  refine r_iload C 4 dX10_isOfOnePeople_15 rfl ?_
  refine r_iload_n C 2 dX10_isOfOnePeople_17 rfl rfl ?_
  refine r_icmp_gt C 72 dX10_isOfOnePeople_18 (by decide) (fun _ => ?_) (fun _ => ?_)
  · refine r_iload_n C 3 dX10_isOfOnePeople_72 rfl rfl ?_
    refine r_if_eq C (b := 0) 80 dX10_isOfOnePeople_73 (by decide) (fun _ => ?_) (fun _ => ?_)
    · refine r_iconst C dX10_isOfOnePeople_80 ?_
      exact r_zret C dX10_isOfOnePeople_81 (by decide) (by decide)
    · refine r_iconst C dX10_isOfOnePeople_76 ?_
      refine r_goto C 81 dX10_isOfOnePeople_77 (by decide) ?_
      exact r_zret C dX10_isOfOnePeople_81 (by decide) (by decide)
  · refine r_aload_n C 0 dX10_isOfOnePeople_21 rfl rfl ?_
    refine r_iload_n C 1 dX10_isOfOnePeople_22 rfl rfl ?_
    refine r_iload C 4 dX10_isOfOnePeople_23 rfl ?_
    refine r_callV C [i9 v4, i9 v1, rf G 1] dX10_isOfOnePeople_25 (t_X10_livesAt_1 C.h1 C.h2 v1 v4 d) mw_X10_193 mv_X10_livesAt la_1 ly_1 rfl (by decide) (by decide) (by decide) rfl rfl (Nat.le_of_ble_eq_true rfl) (fun r1 d2 => ?_)
    show SS G X 6 _ _ 28 [(0, rf G 1), (1, i9 v1), (2, i9 v2), (3, i9 v3), (4, i9 v4)] [i9 r1] d2 _
    refine r_if_eq C (b := 0) 66 dX10_isOfOnePeople_28 (by decide) (fun _ => ?_) (fun _ => ?_)
    · refine r_iinc C 4 [(4, i9 (v4 + 1)), (0, rf G 1), (1, i9 v1), (2, i9 v2), (3, i9 v3)] dX10_isOfOnePeople_66 rfl (by decide) rfl ?_
      refine r_goto C 15 dX10_isOfOnePeople_69 (by decide) ?_
      refine ss_wide (k' := 0) (n' := 0) (by decide) (by decide) ?_
      refine ss_ls [(0, rf G 1), (1, i9 v1), (2, i9 v2), (3, i9 v3), (4, i9 (v4 + 1))] [1, 2, 3, 4, 0] rfl ?_
      exact hk_X10_isOfOnePeople_1_c15 v1 v2 v3 (v4 + 1) d2
    · refine r_aload_n C 0 dX10_isOfOnePeople_31 rfl rfl ?_
      refine r_getR C 23 dX10_isOfOnePeople_32 fl_X10_35 la_1 ly_1 rfl rfl ?_
      refine r_iload C 4 dX10_isOfOnePeople_35 rfl ?_
      refine r_callV C [i9 v4, rf G 23] dX10_isOfOnePeople_37 (t_X7_peoplesAt_23 C.h1 C.h2 v4 d2) mw_X10_196 mv_X7_peoplesAt la_23 ly_23 rfl (by decide) (by decide) (by decide) rfl rfl (Nat.le_of_ble_eq_true rfl) (fun r3 d4 => ?_)
      show SS G X 6 _ _ 40 [(0, rf G 1), (1, i9 v1), (2, i9 v2), (3, i9 v3), (4, i9 v4)] [i9 r3] d4 _
      refine r_istore C [(5, i9 r3), (0, rf G 1), (1, i9 v1), (2, i9 v2), (3, i9 v3), (4, i9 v4)] dX10_isOfOnePeople_40 (by decide) rfl ?_
      refine r_iload C 0 dX10_isOfOnePeople_42 rfl ?_
      refine r_callS C [i9 r3] dX10_isOfOnePeople_44 (t_J6_bitCount_0f7a4 C.h1 C.h2 r3 d4) mw_X10_199 ms_J6_bitCount_0f7a4 (by decide) (by decide) (by decide) rfl rfl (Nat.le_of_ble_eq_true rfl) (fun r5 d6 => ?_)
      show SS G X 6 _ _ 47 [(5, i9 r3), (0, rf G 1), (1, i9 v1), (2, i9 v2), (3, i9 v3), (4, i9 v4)] [i9 r5] d6 _
      refine r_iconst C dX10_isOfOnePeople_47 ?_
      refine r_icmp_ne C 61 dX10_isOfOnePeople_48 (by decide) (fun _ => ?_) (fun _ => ?_)
      · refine r_iconst C dX10_isOfOnePeople_61 ?_
        exact r_zret C dX10_isOfOnePeople_62 (by decide) (by decide)
      · refine r_iload_n C 4 dX10_isOfOnePeople_51 rfl rfl ?_
        refine r_if_eq C (b := 0) 63 dX10_isOfOnePeople_52 (by decide) (fun _ => ?_) (fun _ => ?_)
        · refine r_iload C 0 dX10_isOfOnePeople_63 rfl ?_
          refine r_istore_n C [(3, i9 r3), (5, i9 r3), (0, rf G 1), (1, i9 v1), (2, i9 v2), (4, i9 v4)] dX10_isOfOnePeople_65 rfl (by decide) rfl ?_
          refine r_iinc C 5 [(4, i9 (v4 + 1)), (3, i9 r3), (5, i9 r3), (0, rf G 1), (1, i9 v1), (2, i9 v2)] dX10_isOfOnePeople_66 rfl (by decide) rfl ?_
          refine r_goto C 15 dX10_isOfOnePeople_69 (by decide) ?_
          refine ss_wide (k' := 0) (n' := 0) (by decide) (by decide) ?_
          refine ss_ls [(0, rf G 1), (1, i9 v1), (2, i9 v2), (3, i9 r3), (4, i9 (v4 + 1))] [3, 4, 5, 1, 0] rfl ?_
          exact hk_X10_isOfOnePeople_1_c15 v1 v2 r3 (v4 + 1) d6
        · refine r_iload C 0 dX10_isOfOnePeople_55 rfl ?_
          refine r_iload_n C 4 dX10_isOfOnePeople_57 rfl rfl ?_
          refine r_icmp_eq C 63 dX10_isOfOnePeople_58 (by decide) (fun _ => ?_) (fun _ => ?_)
          · refine r_iload C 0 dX10_isOfOnePeople_63 rfl ?_
            refine r_istore_n C [(3, i9 r3), (5, i9 r3), (0, rf G 1), (1, i9 v1), (2, i9 v2), (4, i9 v4)] dX10_isOfOnePeople_65 rfl (by decide) rfl ?_
            refine r_iinc C 5 [(4, i9 (v4 + 1)), (3, i9 r3), (5, i9 r3), (0, rf G 1), (1, i9 v1), (2, i9 v2)] dX10_isOfOnePeople_66 rfl (by decide) rfl ?_
            refine r_goto C 15 dX10_isOfOnePeople_69 (by decide) ?_
            refine ss_wide (k' := 0) (n' := 0) (by decide) (by decide) ?_
            refine ss_ls [(0, rf G 1), (1, i9 v1), (2, i9 v2), (3, i9 r3), (4, i9 (v4 + 1))] [3, 4, 5, 1, 0] rfl ?_
            exact hk_X10_isOfOnePeople_1_c15 v1 v2 r3 (v4 + 1) d6
          · refine r_iconst C dX10_isOfOnePeople_61 ?_
            exact r_zret C dX10_isOfOnePeople_62 (by decide) (by decide)
theorem s_X10_isOfOnePeople_1_c15 {G : G9} {X : X9} (C : CX G X cX10_isOfOnePeople 6 RX10 [] z_X10_isOfOnePeople_1) : ∀ (v1 v2 v3 v4 : Int) (d : D9), SS G X 6 0 0 15 [(0, rf G 1), (1, i9 v1), (2, i9 v2), (3, i9 v3), (4, i9 v4)] [] d (m_X10_isOfOnePeople_1_c15  v1 v2 v3 v4 d) :=
  fix9_ind (P := fun k => ∀ (v1 v2 v3 v4 : Int) (d : D9), SS G X 6 0 0 15 [(0, rf G 1), (1, i9 v1), (2, i9 v2), (3, i9 v3), (4, i9 v4)] [] d (k v1 v2 v3 v4 d)) (fun _ _ _ _ _ => ss_none) (fun k hk => sb_X10_isOfOnePeople_1_c15 C k hk) FU
set_option maxRecDepth 100000 in
theorem t_X10_isOfOnePeople_1 {G : G9} {l : Launch} (h1 : va_D (A9 G) (wl G (fun _ _ => 0))) (h2 : l.stackTraces = false) (p1 : Int) (d : D9) : MT G l yX10_isOfOnePeople cX10_isOfOnePeople 6 z_X10_isOfOnePeople_1 [rf G 1, i9 p1] d (m_X10_isOfOnePeople_1 p1 d) := by
  refine mt_of (own := RX10) (by decide) rfl (Nat.le_of_ble_eq_true rfl) h1 h2 [(0, rf G 1), (1, i9 p1)] rfl (fun X hX C => ?_)
  unfold m_X10_isOfOnePeople_1
  refine r_aload_n C 0 dX10_isOfOnePeople_0 rfl rfl ?_
  refine r_iload_n C 1 dX10_isOfOnePeople_1 rfl rfl ?_
  refine r_callV C [i9 p1, rf G 1] dX10_isOfOnePeople_2 (t_X10_mostOf_1 C.h1 C.h2 p1 d) mw_X10_89 mv_X10_mostOf la_1 ly_1 rfl (by decide) (by decide) (by decide) rfl rfl (Nat.le_of_ble_eq_true rfl) (fun r1 d2 => ?_)
  show SS G X 6 _ _ 5 [(0, rf G 1), (1, i9 p1)] [i9 r1] d2 _
  refine r_istore_n C [(2, i9 r1), (0, rf G 1), (1, i9 p1)] dX10_isOfOnePeople_5 rfl (by decide) rfl ?_
  refine r_iconst C dX10_isOfOnePeople_6 ?_
  refine r_istore_n C [(3, i9 0), (2, i9 r1), (0, rf G 1), (1, i9 p1)] dX10_isOfOnePeople_7 rfl (by decide) rfl ?_
  refine r_aload_n C 2 dX10_isOfOnePeople_8 rfl rfl ?_
  refine r_iload_n C 3 dX10_isOfOnePeople_9 rfl rfl ?_
  refine r_callV C [i9 p1, rf G 1] dX10_isOfOnePeople_10 (t_X10_leastOf_1 C.h1 C.h2 p1 d2) mw_X10_86 mv_X10_leastOf la_1 ly_1 rfl (by decide) (by decide) (by decide) rfl rfl (Nat.le_of_ble_eq_true rfl) (fun r3 d4 => ?_)
  show SS G X 6 _ _ 13 [(3, i9 0), (2, i9 r1), (0, rf G 1), (1, i9 p1)] [i9 r3] d4 _
  refine r_istore C [(4, i9 r3), (3, i9 0), (2, i9 r1), (0, rf G 1), (1, i9 p1)] dX10_isOfOnePeople_13 (by decide) rfl ?_
  refine ss_wide (k' := 0) (n' := 0) (by decide) (by decide) ?_
  refine ss_ls [(0, rf G 1), (1, i9 p1), (2, i9 r1), (3, i9 0), (4, i9 r3)] [3, 4, 2, 1, 0] rfl ?_
  exact s_X10_isOfOnePeople_1_c15 C  p1 r1 0 r3 d4
theorem dX10_sayOf_0 : decode cX10_sayOf 0 = .ok (.aload_n 0, 1) := by decide +kernel
theorem dX10_sayOf_1 : decode cX10_sayOf 1 = .ok (.iload_n 1, 1) := by decide +kernel
theorem dX10_sayOf_2 : decode cX10_sayOf 2 = .ok (.invokevirtual 86, 3) := by decide +kernel
theorem dX10_sayOf_5 : decode cX10_sayOf 5 = .ok (.istore_n 2, 1) := by decide +kernel
theorem dX10_sayOf_6 : decode cX10_sayOf 6 = .ok (.aload_n 0, 1) := by decide +kernel
theorem dX10_sayOf_7 : decode cX10_sayOf 7 = .ok (.iload_n 1, 1) := by decide +kernel
theorem dX10_sayOf_8 : decode cX10_sayOf 8 = .ok (.invokevirtual 89, 3) := by decide +kernel
theorem dX10_sayOf_11 : decode cX10_sayOf 11 = .ok (.istore_n 3, 1) := by decide +kernel
theorem dX10_sayOf_12 : decode cX10_sayOf 12 = .ok (.aload_n 0, 1) := by decide +kernel
theorem dX10_sayOf_13 : decode cX10_sayOf 13 = .ok (.iload_n 1, 1) := by decide +kernel
theorem dX10_sayOf_14 : decode cX10_sayOf 14 = .ok (.invokevirtual 202, 3) := by decide +kernel
theorem dX10_sayOf_17 : decode cX10_sayOf 17 = .ok (.ifCond .eq 5, 3) := by decide +kernel
theorem dX10_sayOf_20 : decode cX10_sayOf 20 = .ok (.iconst 0, 1) := by decide +kernel
theorem dX10_sayOf_21 : decode cX10_sayOf 21 = .ok (.ireturn, 1) := by decide +kernel
theorem dX10_sayOf_22 : decode cX10_sayOf 22 = .ok (.iload_n 2, 1) := by decide +kernel
theorem dX10_sayOf_23 : decode cX10_sayOf 23 = .ok (.iload_n 3, 1) := by decide +kernel
theorem dX10_sayOf_24 : decode cX10_sayOf 24 = .ok (.if_icmp .le 5, 3) := by decide +kernel
theorem dX10_sayOf_27 : decode cX10_sayOf 27 = .ok (.iconst 1, 1) := by decide +kernel
theorem dX10_sayOf_28 : decode cX10_sayOf 28 = .ok (.ireturn, 1) := by decide +kernel
theorem dX10_sayOf_29 : decode cX10_sayOf 29 = .ok (.iload_n 2, 1) := by decide +kernel
theorem dX10_sayOf_30 : decode cX10_sayOf 30 = .ok (.ifCond .ne 12, 3) := by decide +kernel
theorem dX10_sayOf_33 : decode cX10_sayOf 33 = .ok (.iload_n 3, 1) := by decide +kernel
theorem dX10_sayOf_34 : decode cX10_sayOf 34 = .ok (.sipush 400, 3) := by decide +kernel
theorem dX10_sayOf_37 : decode cX10_sayOf 37 = .ok (.if_icmp .ne 5, 3) := by decide +kernel
theorem dX10_sayOf_40 : decode cX10_sayOf 40 = .ok (.iconst 2, 1) := by decide +kernel
theorem dX10_sayOf_41 : decode cX10_sayOf 41 = .ok (.ireturn, 1) := by decide +kernel
theorem dX10_sayOf_42 : decode cX10_sayOf 42 = .ok (.aload_n 0, 1) := by decide +kernel
theorem dX10_sayOf_43 : decode cX10_sayOf 43 = .ok (.getfield 35, 3) := by decide +kernel
theorem dX10_sayOf_46 : decode cX10_sayOf 46 = .ok (.invokevirtual 206, 3) := by decide +kernel
theorem dX10_sayOf_49 : decode cX10_sayOf 49 = .ok (.istore 4, 2) := by decide +kernel
theorem dX10_sayOf_51 : decode cX10_sayOf 51 = .ok (.iload 4, 2) := by decide +kernel
theorem dX10_sayOf_53 : decode cX10_sayOf 53 = .ok (.iconst (-1), 1) := by decide +kernel
theorem dX10_sayOf_54 : decode cX10_sayOf 54 = .ok (.if_icmp .eq 11, 3) := by decide +kernel
theorem dX10_sayOf_57 : decode cX10_sayOf 57 = .ok (.iload_n 2, 1) := by decide +kernel
theorem dX10_sayOf_58 : decode cX10_sayOf 58 = .ok (.iload 4, 2) := by decide +kernel
theorem dX10_sayOf_60 : decode cX10_sayOf 60 = .ok (.if_icmp .le 5, 3) := by decide +kernel
theorem dX10_sayOf_63 : decode cX10_sayOf 63 = .ok (.iconst 3, 1) := by decide +kernel
theorem dX10_sayOf_64 : decode cX10_sayOf 64 = .ok (.ireturn, 1) := by decide +kernel
theorem dX10_sayOf_65 : decode cX10_sayOf 65 = .ok (.aload_n 0, 1) := by decide +kernel
theorem dX10_sayOf_66 : decode cX10_sayOf 66 = .ok (.iload_n 1, 1) := by decide +kernel
theorem dX10_sayOf_67 : decode cX10_sayOf 67 = .ok (.invokevirtual 210, 3) := by decide +kernel
theorem dX10_sayOf_70 : decode cX10_sayOf 70 = .ok (.ifCond .eq 5, 3) := by decide +kernel
theorem dX10_sayOf_73 : decode cX10_sayOf 73 = .ok (.iconst 4, 1) := by decide +kernel
theorem dX10_sayOf_74 : decode cX10_sayOf 74 = .ok (.ireturn, 1) := by decide +kernel
theorem dX10_sayOf_75 : decode cX10_sayOf 75 = .ok (.iload_n 2, 1) := by decide +kernel
theorem dX10_sayOf_76 : decode cX10_sayOf 76 = .ok (.ifCond .le 17, 3) := by decide +kernel
theorem dX10_sayOf_79 : decode cX10_sayOf 79 = .ok (.iload_n 3, 1) := by decide +kernel
theorem dX10_sayOf_80 : decode cX10_sayOf 80 = .ok (.sipush 400, 3) := by decide +kernel
theorem dX10_sayOf_83 : decode cX10_sayOf 83 = .ok (.if_icmp .ge 7, 3) := by decide +kernel
theorem dX10_sayOf_86 : decode cX10_sayOf 86 = .ok (.iconst 5, 1) := by decide +kernel
theorem dX10_sayOf_87 : decode cX10_sayOf 87 = .ok (.goto 5, 3) := by decide +kernel
theorem dX10_sayOf_90 : decode cX10_sayOf 90 = .ok (.bipush 6, 2) := by decide +kernel
theorem dX10_sayOf_92 : decode cX10_sayOf 92 = .ok (.ireturn, 1) := by decide +kernel
theorem dX10_sayOf_93 : decode cX10_sayOf 93 = .ok (.bipush 7, 2) := by decide +kernel
theorem dX10_sayOf_95 : decode cX10_sayOf 95 = .ok (.ireturn, 1) := by decide +kernel
abbrev z_X10_sayOf_1 : Z9 := (some .int, 1, 0, 0, 6, 130)
def m_X10_sayOf_1_c65 (v1 v2 v3 : Int) (d : D9) : Option R9 := cl (m_X10_isOfOnePeople_1 v1 d) (fun r1 d2 => if w32 r1 = 0 then if w32 v2 ≤ 0 then rt 7 d2 else if w32 400 ≤ w32 v3 then rt 6 d2 else rt 5 d2 else rt 4 d2)
def m_X10_sayOf_1_c42 (v1 v2 v3 : Int) (d : D9) : Option R9 := cl (m_X7_oldestPeople_23 d) (fun r1 d2 => if w32 r1 = w32 (-1) then m_X10_sayOf_1_c65  v1 v2 v3 d2 else if w32 v2 ≤ w32 r1 then m_X10_sayOf_1_c65  v1 v2 v3 d2 else rt 3 d2)
def m_X10_sayOf_1 (p1 : Int) (d : D9) : Option R9 := cl (m_X10_leastOf_1 p1 d) (fun r1 d2 => cl (m_X10_mostOf_1 p1 d2) (fun r3 d4 => cl (m_X10_isRing_1 p1 d4) (fun r5 d6 => if w32 r5 = 0 then if w32 r1 ≤ w32 r3 then if w32 r1 ≠ 0 then m_X10_sayOf_1_c42  p1 r1 r3 d6 else if w32 r3 ≠ w32 400 then m_X10_sayOf_1_c42  p1 r1 r3 d6 else rt 2 d6 else rt 1 d6 else rt 0 d6)))
set_option maxRecDepth 100000 in
theorem s_X10_sayOf_1_c65 {G : G9} {X : X9} (C : CX G X cX10_sayOf 5 RX10 [] z_X10_sayOf_1) : ∀ (v1 v2 v3 : Int) (d : D9), SS G X 5 0 0 65 [(0, rf G 1), (1, i9 v1), (2, i9 v2), (3, i9 v3)] [] d (m_X10_sayOf_1_c65  v1 v2 v3 d) := by
  intro v1 v2 v3 d
  unfold m_X10_sayOf_1_c65
  refine r_aload_n C 0 dX10_sayOf_65 rfl rfl ?_
  refine r_iload_n C 1 dX10_sayOf_66 rfl rfl ?_
  refine r_callV C [i9 v1, rf G 1] dX10_sayOf_67 (t_X10_isOfOnePeople_1 C.h1 C.h2 v1 d) mw_X10_210 mv_X10_isOfOnePeople la_1 ly_1 rfl (by decide) (by decide) (by decide) rfl rfl (Nat.le_of_ble_eq_true rfl) (fun r1 d2 => ?_)
  show SS G X 5 _ _ 70 [(0, rf G 1), (1, i9 v1), (2, i9 v2), (3, i9 v3)] [i9 r1] d2 _
  refine r_if_eq C (b := 0) 75 dX10_sayOf_70 (by decide) (fun _ => ?_) (fun _ => ?_)
  · refine r_iload_n C 2 dX10_sayOf_75 rfl rfl ?_
    refine r_if_le C (b := 0) 93 dX10_sayOf_76 (by decide) (fun _ => ?_) (fun _ => ?_)
    · refine r_bipush C dX10_sayOf_93 rfl ?_
      exact r_iret C dX10_sayOf_95 (by decide) (by decide)
    · refine r_iload_n C 3 dX10_sayOf_79 rfl rfl ?_
      refine r_sipush C dX10_sayOf_80 rfl ?_
      refine r_icmp_ge C 90 dX10_sayOf_83 (by decide) (fun _ => ?_) (fun _ => ?_)
      · refine r_bipush C dX10_sayOf_90 rfl ?_
        exact r_iret C dX10_sayOf_92 (by decide) (by decide)
      · refine r_iconst C dX10_sayOf_86 ?_
        refine r_goto C 92 dX10_sayOf_87 (by decide) ?_
        exact r_iret C dX10_sayOf_92 (by decide) (by decide)
  · refine r_iconst C dX10_sayOf_73 ?_
    exact r_iret C dX10_sayOf_74 (by decide) (by decide)
set_option maxRecDepth 100000 in
theorem s_X10_sayOf_1_c42 {G : G9} {X : X9} (C : CX G X cX10_sayOf 5 RX10 [] z_X10_sayOf_1) : ∀ (v1 v2 v3 : Int) (d : D9), SS G X 5 0 0 42 [(0, rf G 1), (1, i9 v1), (2, i9 v2), (3, i9 v3)] [] d (m_X10_sayOf_1_c42  v1 v2 v3 d) := by
  intro v1 v2 v3 d
  unfold m_X10_sayOf_1_c42
  refine r_aload_n C 0 dX10_sayOf_42 rfl rfl ?_
  refine r_getR C 23 dX10_sayOf_43 fl_X10_35 la_1 ly_1 rfl rfl ?_
  refine r_callV C [rf G 23] dX10_sayOf_46 (t_X7_oldestPeople_23 C.h1 C.h2 d) mw_X10_206 mv_X7_oldestPeople la_23 ly_23 rfl (by decide) (by decide) (by decide) rfl rfl (Nat.le_of_ble_eq_true rfl) (fun r1 d2 => ?_)
  show SS G X 5 _ _ 49 [(0, rf G 1), (1, i9 v1), (2, i9 v2), (3, i9 v3)] [i9 r1] d2 _
  refine r_istore C [(4, i9 r1), (0, rf G 1), (1, i9 v1), (2, i9 v2), (3, i9 v3)] dX10_sayOf_49 (by decide) rfl ?_
  refine r_iload C 0 dX10_sayOf_51 rfl ?_
  refine r_iconst C dX10_sayOf_53 ?_
  refine r_icmp_eq C 65 dX10_sayOf_54 (by decide) (fun _ => ?_) (fun _ => ?_)
  · refine ss_wide (k' := 0) (n' := 0) (by decide) (by decide) ?_
    refine ss_ls [(0, rf G 1), (1, i9 v1), (2, i9 v2), (3, i9 v3)] [1, 2, 3, 4] rfl ?_
    exact s_X10_sayOf_1_c65 C  v1 v2 v3 d2
  · refine r_iload_n C 3 dX10_sayOf_57 rfl rfl ?_
    refine r_iload C 0 dX10_sayOf_58 rfl ?_
    refine r_icmp_le C 65 dX10_sayOf_60 (by decide) (fun _ => ?_) (fun _ => ?_)
    · refine ss_wide (k' := 0) (n' := 0) (by decide) (by decide) ?_
      refine ss_ls [(0, rf G 1), (1, i9 v1), (2, i9 v2), (3, i9 v3)] [1, 2, 3, 4] rfl ?_
      exact s_X10_sayOf_1_c65 C  v1 v2 v3 d2
    · refine r_iconst C dX10_sayOf_63 ?_
      exact r_iret C dX10_sayOf_64 (by decide) (by decide)
set_option maxRecDepth 100000 in
theorem t_X10_sayOf_1 {G : G9} {l : Launch} (h1 : va_D (A9 G) (wl G (fun _ _ => 0))) (h2 : l.stackTraces = false) (p1 : Int) (d : D9) : MT G l yX10_sayOf cX10_sayOf 5 z_X10_sayOf_1 [rf G 1, i9 p1] d (m_X10_sayOf_1 p1 d) := by
  refine mt_of (own := RX10) (by decide) rfl (Nat.le_of_ble_eq_true rfl) h1 h2 [(0, rf G 1), (1, i9 p1)] rfl (fun X hX C => ?_)
  unfold m_X10_sayOf_1
  refine r_aload_n C 0 dX10_sayOf_0 rfl rfl ?_
  refine r_iload_n C 1 dX10_sayOf_1 rfl rfl ?_
  refine r_callV C [i9 p1, rf G 1] dX10_sayOf_2 (t_X10_leastOf_1 C.h1 C.h2 p1 d) mw_X10_86 mv_X10_leastOf la_1 ly_1 rfl (by decide) (by decide) (by decide) rfl rfl (Nat.le_of_ble_eq_true rfl) (fun r1 d2 => ?_)
  show SS G X 5 _ _ 5 [(0, rf G 1), (1, i9 p1)] [i9 r1] d2 _
  refine r_istore_n C [(2, i9 r1), (0, rf G 1), (1, i9 p1)] dX10_sayOf_5 rfl (by decide) rfl ?_
  refine r_aload_n C 1 dX10_sayOf_6 rfl rfl ?_
  refine r_iload_n C 2 dX10_sayOf_7 rfl rfl ?_
  refine r_callV C [i9 p1, rf G 1] dX10_sayOf_8 (t_X10_mostOf_1 C.h1 C.h2 p1 d2) mw_X10_89 mv_X10_mostOf la_1 ly_1 rfl (by decide) (by decide) (by decide) rfl rfl (Nat.le_of_ble_eq_true rfl) (fun r3 d4 => ?_)
  show SS G X 5 _ _ 11 [(2, i9 r1), (0, rf G 1), (1, i9 p1)] [i9 r3] d4 _
  refine r_istore_n C [(3, i9 r3), (2, i9 r1), (0, rf G 1), (1, i9 p1)] dX10_sayOf_11 rfl (by decide) rfl ?_
  refine r_aload_n C 2 dX10_sayOf_12 rfl rfl ?_
  refine r_iload_n C 3 dX10_sayOf_13 rfl rfl ?_
  refine r_callV C [i9 p1, rf G 1] dX10_sayOf_14 (t_X10_isRing_1 C.h1 C.h2 p1 d4) mw_X10_202 mv_X10_isRing la_1 ly_1 rfl (by decide) (by decide) (by decide) rfl rfl (Nat.le_of_ble_eq_true rfl) (fun r5 d6 => ?_)
  show SS G X 5 _ _ 17 [(3, i9 r3), (2, i9 r1), (0, rf G 1), (1, i9 p1)] [i9 r5] d6 _
  refine r_if_eq C (b := 0) 22 dX10_sayOf_17 (by decide) (fun _ => ?_) (fun _ => ?_)
  · refine r_iload_n C 1 dX10_sayOf_22 rfl rfl ?_
    refine r_iload_n C 0 dX10_sayOf_23 rfl rfl ?_
    refine r_icmp_le C 29 dX10_sayOf_24 (by decide) (fun _ => ?_) (fun _ => ?_)
    · refine r_iload_n C 1 dX10_sayOf_29 rfl rfl ?_
      refine r_if_ne C (b := 0) 42 dX10_sayOf_30 (by decide) (fun _ => ?_) (fun _ => ?_)
      · refine ss_wide (k' := 0) (n' := 0) (by decide) (by decide) ?_
        refine ss_ls [(0, rf G 1), (1, i9 p1), (2, i9 r1), (3, i9 r3)] [2, 3, 1, 0] rfl ?_
        exact s_X10_sayOf_1_c42 C  p1 r1 r3 d6
      · refine r_iload_n C 0 dX10_sayOf_33 rfl rfl ?_
        refine r_sipush C dX10_sayOf_34 rfl ?_
        refine r_icmp_ne C 42 dX10_sayOf_37 (by decide) (fun _ => ?_) (fun _ => ?_)
        · refine ss_wide (k' := 0) (n' := 0) (by decide) (by decide) ?_
          refine ss_ls [(0, rf G 1), (1, i9 p1), (2, i9 r1), (3, i9 r3)] [2, 3, 1, 0] rfl ?_
          exact s_X10_sayOf_1_c42 C  p1 r1 r3 d6
        · refine r_iconst C dX10_sayOf_40 ?_
          exact r_iret C dX10_sayOf_41 (by decide) (by decide)
    · refine r_iconst C dX10_sayOf_27 ?_
      exact r_iret C dX10_sayOf_28 (by decide) (by decide)
  · refine r_iconst C dX10_sayOf_20 ?_
    exact r_iret C dX10_sayOf_21 (by decide) (by decide)
theorem dX11_say_0 : decode cX11_say 0 = .ok (.aload_n 0, 1) := by decide +kernel
theorem dX11_say_1 : decode cX11_say 1 = .ok (.iload_n 1, 1) := by decide +kernel
theorem dX11_say_2 : decode cX11_say 2 = .ok (.invokevirtual 103, 3) := by decide +kernel
theorem dX11_say_5 : decode cX11_say 5 = .ok (.aload_n 0, 1) := by decide +kernel
theorem dX11_say_6 : decode cX11_say 6 = .ok (.getfield 10, 3) := by decide +kernel
theorem dX11_say_9 : decode cX11_say 9 = .ok (.iload_n 1, 1) := by decide +kernel
theorem dX11_say_10 : decode cX11_say 10 = .ok (.invokevirtual 401, 3) := by decide +kernel
theorem dX11_say_13 : decode cX11_say 13 = .ok (.ireturn, 1) := by decide +kernel
abbrev z_X11_say_0 : Z9 := (some .int, 1, 1, 6, 7, 154)
def m_X11_say_0 (p1 : Int) (d : D9) : Option R9 := cl (m_X11_askPaint_0 p1 d) (fun r1 d2 => cl (m_X10_sayOf_1 p1 d2) (fun r3 d4 => rt r3 d4))
set_option maxRecDepth 100000 in
theorem t_X11_say_0 {G : G9} {l : Launch} (h1 : va_D (A9 G) (wl G (fun _ _ => 0))) (h2 : l.stackTraces = false) (p1 : Int) (d : D9) : MT G l yX11_say cX11_say 2 z_X11_say_0 [rf G 0, i9 p1] d (m_X11_say_0 p1 d) := by
  refine mt_of (own := RX11) (by decide) rfl (Nat.le_of_ble_eq_true rfl) h1 h2 [(0, rf G 0), (1, i9 p1)] rfl (fun X hX C => ?_)
  unfold m_X11_say_0
  refine r_aload_n C 0 dX11_say_0 rfl rfl ?_
  refine r_iload_n C 1 dX11_say_1 rfl rfl ?_
  refine r_callV C [i9 p1, rf G 0] dX11_say_2 (t_X11_askPaint_0 C.h1 C.h2 p1 d) mw_X11_103 mv_X11_askPaint la_0 ly_0 rfl (by decide) (by decide) (by decide) rfl rfl (Nat.le_of_ble_eq_true rfl) (fun r1 d2 => ?_)
  show SS G X 2 _ _ 5 [(0, rf G 0), (1, i9 p1)] [] d2 _
  refine r_aload_n C 0 dX11_say_5 rfl rfl ?_
  refine r_getR C 1 dX11_say_6 fl_X11_10 la_0 ly_0 rfl rfl ?_
  refine r_iload_n C 1 dX11_say_9 rfl rfl ?_
  refine r_callV C [i9 p1, rf G 1] dX11_say_10 (t_X10_sayOf_1 C.h1 C.h2 p1 d2) mw_X11_401 mv_X10_sayOf la_1 ly_1 rfl (by decide) (by decide) (by decide) rfl rfl (Nat.le_of_ble_eq_true rfl) (fun r3 d4 => ?_)
  show SS G X 2 _ _ 13 [(0, rf G 0), (1, i9 p1)] [i9 r3] d4 _
  exact r_iret C dX11_say_13 (by decide) (by decide)
theorem dX11_says_0 : decode cX11_says 0 = .ok (.aload_n 0, 1) := by decide +kernel
theorem dX11_says_1 : decode cX11_says 1 = .ok (.iload_n 1, 1) := by decide +kernel
theorem dX11_says_2 : decode cX11_says 2 = .ok (.invokevirtual 131, 3) := by decide +kernel
theorem dX11_says_5 : decode cX11_says 5 = .ok (.aload_n 0, 1) := by decide +kernel
theorem dX11_says_6 : decode cX11_says 6 = .ok (.getfield 10, 3) := by decide +kernel
theorem dX11_says_9 : decode cX11_says 9 = .ok (.getfield 122, 3) := by decide +kernel
theorem dX11_says_12 : decode cX11_says 12 = .ok (.getfield 232, 3) := by decide +kernel
theorem dX11_says_15 : decode cX11_says 15 = .ok (.iload_n 1, 1) := by decide +kernel
theorem dX11_says_16 : decode cX11_says 16 = .ok (.iaload, 1) := by decide +kernel
theorem dX11_says_17 : decode cX11_says 17 = .ok (.ireturn, 1) := by decide +kernel
abbrev z_X11_says_0 : Z9 := (some .int, 1, 1, 6, 7, 121)
def m_X11_says_0 (p1 : Int) (d : D9) : Option R9 := cl (m_X11_askSkin_0 p1 d) (fun r1 d2 => ld d2 16 30 p1 (fun t3 => rt t3 d2))
set_option maxRecDepth 100000 in
theorem t_X11_says_0 {G : G9} {l : Launch} (h1 : va_D (A9 G) (wl G (fun _ _ => 0))) (h2 : l.stackTraces = false) (p1 : Int) (d : D9) : MT G l yX11_says cX11_says 2 z_X11_says_0 [rf G 0, i9 p1] d (m_X11_says_0 p1 d) := by
  refine mt_of (own := RX11) (by decide) rfl (Nat.le_of_ble_eq_true rfl) h1 h2 [(0, rf G 0), (1, i9 p1)] rfl (fun X hX C => ?_)
  unfold m_X11_says_0
  refine r_aload_n C 0 dX11_says_0 rfl rfl ?_
  refine r_iload_n C 1 dX11_says_1 rfl rfl ?_
  refine r_callV C [i9 p1, rf G 0] dX11_says_2 (t_X11_askSkin_0 C.h1 C.h2 p1 d) mw_X11_131 mv_X11_askSkin la_0 ly_0 rfl (by decide) (by decide) (by decide) rfl rfl (Nat.le_of_ble_eq_true rfl) (fun r1 d2 => ?_)
  show SS G X 2 _ _ 5 [(0, rf G 0), (1, i9 p1)] [] d2 _
  refine r_aload_n C 0 dX11_says_5 rfl rfl ?_
  refine r_getR C 1 dX11_says_6 fl_X11_10 la_0 ly_0 rfl rfl ?_
  refine r_getR C 9 dX11_says_9 fl_X11_122 la_1 ly_1 rfl rfl ?_
  refine r_getR C 16 dX11_says_12 fl_X11_232 la_9 ly_9 rfl rfl ?_
  refine r_iload_n C 1 dX11_says_15 rfl rfl ?_
  refine r_iald C dX11_says_16 la_16 ly_16 (fun t3 => ?_)
  exact r_iret C dX11_says_17 (by decide) (by decide)
theorem dX4_keepStep_0 : decode cX4_keepStep 0 = .ok (.aload_n 0, 1) := by decide +kernel
theorem dX4_keepStep_1 : decode cX4_keepStep 1 = .ok (.getfield 28, 3) := by decide +kernel
theorem dX4_keepStep_4 : decode cX4_keepStep 4 = .ok (.aload_n 0, 1) := by decide +kernel
theorem dX4_keepStep_5 : decode cX4_keepStep 5 = .ok (.getfield 21, 3) := by decide +kernel
theorem dX4_keepStep_8 : decode cX4_keepStep 8 = .ok (.arraylength, 1) := by decide +kernel
theorem dX4_keepStep_9 : decode cX4_keepStep 9 = .ok (.if_icmp .ge 29, 3) := by decide +kernel
theorem dX4_keepStep_12 : decode cX4_keepStep 12 = .ok (.aload_n 0, 1) := by decide +kernel
theorem dX4_keepStep_13 : decode cX4_keepStep 13 = .ok (.getfield 21, 3) := by decide +kernel
theorem dX4_keepStep_16 : decode cX4_keepStep 16 = .ok (.aload_n 0, 1) := by decide +kernel
theorem dX4_keepStep_17 : decode cX4_keepStep 17 = .ok (.getfield 28, 3) := by decide +kernel
theorem dX4_keepStep_20 : decode cX4_keepStep 20 = .ok (.iload_n 1, 1) := by decide +kernel
theorem dX4_keepStep_21 : decode cX4_keepStep 21 = .ok (.sipush 1000, 3) := by decide +kernel
theorem dX4_keepStep_24 : decode cX4_keepStep 24 = .ok (.imul, 1) := by decide +kernel
theorem dX4_keepStep_25 : decode cX4_keepStep 25 = .ok (.iload_n 2, 1) := by decide +kernel
theorem dX4_keepStep_26 : decode cX4_keepStep 26 = .ok (.iadd, 1) := by decide +kernel
theorem dX4_keepStep_27 : decode cX4_keepStep 27 = .ok (.iastore, 1) := by decide +kernel
theorem dX4_keepStep_28 : decode cX4_keepStep 28 = .ok (.aload_n 0, 1) := by decide +kernel
theorem dX4_keepStep_29 : decode cX4_keepStep 29 = .ok (.dup, 1) := by decide +kernel
theorem dX4_keepStep_30 : decode cX4_keepStep 30 = .ok (.getfield 28, 3) := by decide +kernel
theorem dX4_keepStep_33 : decode cX4_keepStep 33 = .ok (.iconst 1, 1) := by decide +kernel
theorem dX4_keepStep_34 : decode cX4_keepStep 34 = .ok (.iadd, 1) := by decide +kernel
theorem dX4_keepStep_35 : decode cX4_keepStep 35 = .ok (.putfield 28, 3) := by decide +kernel
theorem dX4_keepStep_38 : decode cX4_keepStep 38 = .ok (.return_, 1) := by decide +kernel
abbrev z_X4_keepStep_46 : Z9 := (none, 0, 0, 0, 1, 0)
def m_X4_keepStep_46 (p1 p2 : Int) (d : D9) : Option R9 := if w32 400 ≤ w32 (d 46 1) then rt 0 d else sd d 50 400 (d 46 1) ((p1 * 1000) + p2) (fun d1 => pf d1 46 1 ((d1 46 1) + 1) (fun d2 => rt 0 d2))
set_option maxRecDepth 100000 in
theorem t_X4_keepStep_46 {G : G9} {l : Launch} (h1 : va_D (A9 G) (wl G (fun _ _ => 0))) (h2 : l.stackTraces = false) (p1 p2 : Int) (d : D9) : MT G l yX4_keepStep cX4_keepStep 3 z_X4_keepStep_46 [rf G 46, i9 p1, i9 p2] d (m_X4_keepStep_46 p1 p2 d) := by
  refine mt_of (own := RX4) (by decide) rfl (Nat.le_of_ble_eq_true rfl) h1 h2 [(0, rf G 46), (1, i9 p1), (2, i9 p2)] rfl (fun X hX C => ?_)
  unfold m_X4_keepStep_46
  refine r_aload_n C 0 dX4_keepStep_0 rfl rfl ?_
  refine r_getI C dX4_keepStep_1 fl_X4_28 la_46 ly_46 rfl ?_
  refine r_aload_n C 0 dX4_keepStep_4 rfl rfl ?_
  refine r_getR C 50 dX4_keepStep_5 fl_X4_21 la_46 ly_46 rfl rfl ?_
  refine r_alen C dX4_keepStep_8 la_50 ly_50 ?_
  refine r_icmp_ge C 38 dX4_keepStep_9 (by decide) (fun _ => ?_) (fun _ => ?_)
  · exact r_vret C dX4_keepStep_38 (by decide) (by decide)
  · refine r_aload_n C 0 dX4_keepStep_12 rfl rfl ?_
    refine r_getR C 50 dX4_keepStep_13 fl_X4_21 la_46 ly_46 rfl rfl ?_
    refine r_aload_n C 0 dX4_keepStep_16 rfl rfl ?_
    refine r_getI C dX4_keepStep_17 fl_X4_28 la_46 ly_46 rfl ?_
    refine r_iload_n C 1 dX4_keepStep_20 rfl rfl ?_
    refine r_sipush C dX4_keepStep_21 rfl ?_
    refine r_imul C dX4_keepStep_24 ?_
    refine r_iload_n C 2 dX4_keepStep_25 rfl rfl ?_
    refine r_iadd C dX4_keepStep_26 ?_
    refine r_iast C dX4_keepStep_27 la_50 ly_50 (fun d1 => ?_)
    refine r_aload_n C 0 dX4_keepStep_28 rfl rfl ?_
    refine r_dup C dX4_keepStep_29 rfl ?_
    refine r_getI C dX4_keepStep_30 fl_X4_28 la_46 ly_46 rfl ?_
    refine r_iconst C dX4_keepStep_33 ?_
    refine r_iadd C dX4_keepStep_34 ?_
    refine r_putI C dX4_keepStep_35 fp_X4_28 la_46 ly_46 rfl (fun d2 => ?_)
    exact r_vret C dX4_keepStep_38 (by decide) (by decide)
theorem dX4_readPart_0 : decode cX4_readPart 0 = .ok (.aload_n 0, 1) := by decide +kernel
theorem dX4_readPart_1 : decode cX4_readPart 1 = .ok (.aload_n 1, 1) := by decide +kernel
theorem dX4_readPart_2 : decode cX4_readPart 2 = .ok (.iload_n 2, 1) := by decide +kernel
theorem dX4_readPart_3 : decode cX4_readPart 3 = .ok (.invokevirtual 71, 3) := by decide +kernel
theorem dX4_readPart_6 : decode cX4_readPart 6 = .ok (.iconst 0, 1) := by decide +kernel
theorem dX4_readPart_7 : decode cX4_readPart 7 = .ok (.istore_n 3, 1) := by decide +kernel
theorem dX4_readPart_8 : decode cX4_readPart 8 = .ok (.iload_n 3, 1) := by decide +kernel
theorem dX4_readPart_9 : decode cX4_readPart 9 = .ok (.sipush 400, 3) := by decide +kernel
theorem dX4_readPart_12 : decode cX4_readPart 12 = .ok (.if_icmp .ge 31, 3) := by decide +kernel
theorem dX4_readPart_15 : decode cX4_readPart 15 = .ok (.aload_n 1, 1) := by decide +kernel
theorem dX4_readPart_16 : decode cX4_readPart 16 = .ok (.bipush 14, 2) := by decide +kernel
theorem dX4_readPart_18 : decode cX4_readPart 18 = .ok (.invokevirtual 53, 3) := by decide +kernel
theorem dX4_readPart_21 : decode cX4_readPart 21 = .ok (.ifCond .eq 22, 3) := by decide +kernel
theorem dX4_readPart_24 : decode cX4_readPart 24 = .ok (.aload_n 0, 1) := by decide +kernel
theorem dX4_readPart_25 : decode cX4_readPart 25 = .ok (.aload_n 1, 1) := by decide +kernel
theorem dX4_readPart_26 : decode cX4_readPart 26 = .ok (.iload_n 2, 1) := by decide +kernel
theorem dX4_readPart_27 : decode cX4_readPart 27 = .ok (.invokevirtual 71, 3) := by decide +kernel
theorem dX4_readPart_30 : decode cX4_readPart 30 = .ok (.aload_n 0, 1) := by decide +kernel
theorem dX4_readPart_31 : decode cX4_readPart 31 = .ok (.bipush 14, 2) := by decide +kernel
theorem dX4_readPart_33 : decode cX4_readPart 33 = .ok (.iconst 0, 1) := by decide +kernel
theorem dX4_readPart_34 : decode cX4_readPart 34 = .ok (.invokevirtual 67, 3) := by decide +kernel
theorem dX4_readPart_37 : decode cX4_readPart 37 = .ok (.iinc 3 1, 3) := by decide +kernel
theorem dX4_readPart_40 : decode cX4_readPart 40 = .ok (.goto (-32), 3) := by decide +kernel
theorem dX4_readPart_43 : decode cX4_readPart 43 = .ok (.return_, 1) := by decide +kernel
abbrev z_X4_readPart_46_51 (n9 : Nat) : Z9 := (none, 0, 0, 0, 15 + 4 * n9, 550 + 200 * n9)
abbrev z_X4_readTest_46_51 (n9 : Nat) : Z9 := (none, 0, 0, 0, 16 + 4 * n9, 600 + 200 * n9)
abbrev z_X4_readFact_46_51 (n9 : Nat) : Z9 := (none, 0, 0, 0, 14 + 4 * n9, 500 + 200 * n9)
def b_X4_readPart_46_51_c8 (kF : Int → D9 → Option R9) (k_X4_readPart_46_51_c8 : Int → Int → D9 → Option R9) (v2 v3 : Int) (d : D9) : Option R9 := if w32 400 ≤ w32 v3 then rt 0 d else cl (m_X8_takeWord_51 14 d) (fun r1 d2 => if w32 r1 = 0 then rt 0 d2 else cl (kF v2 d2) (fun r3 d4 => cl (m_X4_keepStep_46 14 0 d4) (fun r5 d6 => k_X4_readPart_46_51_c8 v2 (v3 + 1) d6)))
def m_X4_readPart_46_51_c8 (kF : Int → D9 → Option R9) : Int → Int → D9 → Option R9 := fix9 (fun _ _ _ => none) (fun k => b_X4_readPart_46_51_c8 kF k) FU
def m_X4_readPart_46_51 (kF : Int → D9 → Option R9) (p2 : Int) (d : D9) : Option R9 := cl (kF p2 d) (fun r1 d2 => m_X4_readPart_46_51_c8 kF  p2 0 d2)
set_option maxRecDepth 100000 in
theorem sb_X4_readPart_46_51_c8 {G : G9} {X : X9} {n9 : Nat} (C : CX G X cX4_readPart 4 RX4 [] (z_X4_readPart_46_51 n9)) (kF : Int → D9 → Option R9) (hkF : ∀ {l : Launch}, l.stackTraces = false → ∀ (p2 : Int) (d : D9), MT G l yX4_readFact cX4_readFact 7 (z_X4_readFact_46_51 n9) [rf G 46, rf G 51, i9 p2] d (kF p2 d)) (k_X4_readPart_46_51_c8 : Int → Int → D9 → Option R9) (hk_X4_readPart_46_51_c8 : ∀ (v2 v3 : Int) (d : D9), SS G X 4 0 0 8 [(0, rf G 46), (1, rf G 51), (2, i9 v2), (3, i9 v3)] [] d (k_X4_readPart_46_51_c8 v2 v3 d)) : ∀ (v2 v3 : Int) (d : D9), SS G X 4 0 0 8 [(0, rf G 46), (1, rf G 51), (2, i9 v2), (3, i9 v3)] [] d (b_X4_readPart_46_51_c8 kF k_X4_readPart_46_51_c8 v2 v3 d) := by
  intro v2 v3 d
  unfold b_X4_readPart_46_51_c8
  refine r_iload_n C 3 dX4_readPart_8 rfl rfl ?_
  refine r_sipush C dX4_readPart_9 rfl ?_
  refine r_icmp_ge C 43 dX4_readPart_12 (by decide) (fun _ => ?_) (fun _ => ?_)
  · exact r_vret C dX4_readPart_43 (Nat.le_of_ble_eq_true rfl) (Nat.le_of_ble_eq_true rfl)
  · refine r_aload_n C 1 dX4_readPart_15 rfl rfl ?_
    refine r_bipush C dX4_readPart_16 rfl ?_
    refine r_callV C [i9 14, rf G 51] dX4_readPart_18 (t_X8_takeWord_51 C.h1 C.h2 14 d) mw_X4_53 mv_X8_takeWord la_51 ly_51 rfl ⟨(show 10 + 1 ≤ (15 + 4 * n9) by omega), (show 8 + (3 + 11) + 295 ≤ (550 + 200 * n9) by omega)⟩ (Nat.le_of_ble_eq_true rfl) (Nat.le_of_ble_eq_true rfl) rfl rfl (Nat.le_of_ble_eq_true rfl) (fun r1 d2 => ?_)
    show SS G X 4 _ _ 21 [(0, rf G 46), (1, rf G 51), (2, i9 v2), (3, i9 v3)] [i9 r1] d2 _
    refine r_if_eq C (b := 0) 43 dX4_readPart_21 (by decide) (fun _ => ?_) (fun _ => ?_)
    · exact r_vret C dX4_readPart_43 (Nat.le_of_ble_eq_true rfl) (Nat.le_of_ble_eq_true rfl)
    · refine r_aload_n C 0 dX4_readPart_24 rfl rfl ?_
      refine r_aload_n C 1 dX4_readPart_25 rfl rfl ?_
      refine r_iload_n C 2 dX4_readPart_26 rfl rfl ?_
      refine r_callV C [i9 v2, rf G 51, rf G 46] dX4_readPart_27 (hkF C.h2 v2 d2) mw_X4_71 mv_X4_readFact la_46 ly_46 rfl ⟨(show (14 + 4 * n9) + 1 ≤ (15 + 4 * n9) by omega), (show 8 + (7 + 11) + (500 + 200 * n9) ≤ (550 + 200 * n9) by omega)⟩ (Nat.le_of_ble_eq_true rfl) (Nat.le_of_ble_eq_true rfl) rfl rfl (Nat.le_of_ble_eq_true rfl) (fun r3 d4 => ?_)
      show SS G X 4 _ _ 30 [(0, rf G 46), (1, rf G 51), (2, i9 v2), (3, i9 v3)] [] d4 _
      refine r_aload_n C 0 dX4_readPart_30 rfl rfl ?_
      refine r_bipush C dX4_readPart_31 rfl ?_
      refine r_iconst C dX4_readPart_33 ?_
      refine r_callV C [i9 0, i9 14, rf G 46] dX4_readPart_34 (t_X4_keepStep_46 C.h1 C.h2 14 0 d4) mw_X4_67 mv_X4_keepStep la_46 ly_46 rfl ⟨(show 1 + 1 ≤ (15 + 4 * n9) by omega), (show 8 + (3 + 11) + 0 ≤ (550 + 200 * n9) by omega)⟩ (Nat.le_of_ble_eq_true rfl) (Nat.le_of_ble_eq_true rfl) rfl rfl (Nat.le_of_ble_eq_true rfl) (fun r5 d6 => ?_)
      show SS G X 4 _ _ 37 [(0, rf G 46), (1, rf G 51), (2, i9 v2), (3, i9 v3)] [] d6 _
      refine r_iinc C 3 [(3, i9 (v3 + 1)), (0, rf G 46), (1, rf G 51), (2, i9 v2)] dX4_readPart_37 rfl (by decide) rfl ?_
      refine r_goto C 8 dX4_readPart_40 (by decide) ?_
      refine ss_wide (k' := 0) (n' := 0) (Nat.le_of_ble_eq_true rfl) (Nat.le_of_ble_eq_true rfl) ?_
      refine ss_ls [(0, rf G 46), (1, rf G 51), (2, i9 v2), (3, i9 (v3 + 1))] [1, 2, 3, 0] rfl ?_
      exact hk_X4_readPart_46_51_c8 v2 (v3 + 1) d6
theorem s_X4_readPart_46_51_c8 {G : G9} {X : X9} {n9 : Nat} (C : CX G X cX4_readPart 4 RX4 [] (z_X4_readPart_46_51 n9)) (kF : Int → D9 → Option R9) (hkF : ∀ {l : Launch}, l.stackTraces = false → ∀ (p2 : Int) (d : D9), MT G l yX4_readFact cX4_readFact 7 (z_X4_readFact_46_51 n9) [rf G 46, rf G 51, i9 p2] d (kF p2 d)) : ∀ (v2 v3 : Int) (d : D9), SS G X 4 0 0 8 [(0, rf G 46), (1, rf G 51), (2, i9 v2), (3, i9 v3)] [] d (m_X4_readPart_46_51_c8 kF  v2 v3 d) :=
  fix9_ind (P := fun k => ∀ (v2 v3 : Int) (d : D9), SS G X 4 0 0 8 [(0, rf G 46), (1, rf G 51), (2, i9 v2), (3, i9 v3)] [] d (k v2 v3 d)) (fun _ _ _ => ss_none) (fun k hk => sb_X4_readPart_46_51_c8 C kF hkF k hk) FU
set_option maxRecDepth 100000 in
theorem t_X4_readPart_46_51 {G : G9} {l : Launch} (h1 : va_D (A9 G) (wl G (fun _ _ => 0))) (n9 : Nat) (kF : Int → D9 → Option R9) (hkF : ∀ {l : Launch}, l.stackTraces = false → ∀ (p2 : Int) (d : D9), MT G l yX4_readFact cX4_readFact 7 (z_X4_readFact_46_51 n9) [rf G 46, rf G 51, i9 p2] d (kF p2 d)) (h2 : l.stackTraces = false) (p2 : Int) (d : D9) : MT G l yX4_readPart cX4_readPart 4 (z_X4_readPart_46_51 n9) [rf G 46, rf G 51, i9 p2] d (m_X4_readPart_46_51 kF p2 d) := by
  refine mt_of (own := RX4) (by decide) rfl (Nat.le_of_ble_eq_true rfl) h1 h2 [(0, rf G 46), (1, rf G 51), (2, i9 p2)] rfl (fun X hX C => ?_)
  unfold m_X4_readPart_46_51
  refine r_aload_n C 0 dX4_readPart_0 rfl rfl ?_
  refine r_aload_n C 1 dX4_readPart_1 rfl rfl ?_
  refine r_iload_n C 2 dX4_readPart_2 rfl rfl ?_
  refine r_callV C [i9 p2, rf G 51, rf G 46] dX4_readPart_3 (hkF C.h2 p2 d) mw_X4_71 mv_X4_readFact la_46 ly_46 rfl ⟨(show (14 + 4 * n9) + 1 ≤ (15 + 4 * n9) by omega), (show 8 + (7 + 11) + (500 + 200 * n9) ≤ (550 + 200 * n9) by omega)⟩ (Nat.le_of_ble_eq_true rfl) (Nat.le_of_ble_eq_true rfl) rfl rfl (Nat.le_of_ble_eq_true rfl) (fun r1 d2 => ?_)
  show SS G X 4 _ _ 6 [(0, rf G 46), (1, rf G 51), (2, i9 p2)] [] d2 _
  refine r_iconst C dX4_readPart_6 ?_
  refine r_istore_n C [(3, i9 0), (0, rf G 46), (1, rf G 51), (2, i9 p2)] dX4_readPart_7 rfl (by decide) rfl ?_
  refine ss_wide (k' := 0) (n' := 0) (Nat.le_of_ble_eq_true rfl) (Nat.le_of_ble_eq_true rfl) ?_
  refine ss_ls [(0, rf G 46), (1, rf G 51), (2, i9 p2), (3, i9 0)] [1, 2, 3, 0] rfl ?_
  exact s_X4_readPart_46_51_c8 C kF hkF  p2 0 d2
theorem dX4_readTest_0 : decode cX4_readTest 0 = .ok (.aload_n 0, 1) := by decide +kernel
theorem dX4_readTest_1 : decode cX4_readTest 1 = .ok (.aload_n 1, 1) := by decide +kernel
theorem dX4_readTest_2 : decode cX4_readTest 2 = .ok (.iload_n 2, 1) := by decide +kernel
theorem dX4_readTest_3 : decode cX4_readTest 3 = .ok (.invokevirtual 64, 3) := by decide +kernel
theorem dX4_readTest_6 : decode cX4_readTest 6 = .ok (.iconst 0, 1) := by decide +kernel
theorem dX4_readTest_7 : decode cX4_readTest 7 = .ok (.istore_n 3, 1) := by decide +kernel
theorem dX4_readTest_8 : decode cX4_readTest 8 = .ok (.iload_n 3, 1) := by decide +kernel
theorem dX4_readTest_9 : decode cX4_readTest 9 = .ok (.sipush 400, 3) := by decide +kernel
theorem dX4_readTest_12 : decode cX4_readTest 12 = .ok (.if_icmp .ge 31, 3) := by decide +kernel
theorem dX4_readTest_15 : decode cX4_readTest 15 = .ok (.aload_n 1, 1) := by decide +kernel
theorem dX4_readTest_16 : decode cX4_readTest 16 = .ok (.bipush 13, 2) := by decide +kernel
theorem dX4_readTest_18 : decode cX4_readTest 18 = .ok (.invokevirtual 53, 3) := by decide +kernel
theorem dX4_readTest_21 : decode cX4_readTest 21 = .ok (.ifCond .eq 22, 3) := by decide +kernel
theorem dX4_readTest_24 : decode cX4_readTest 24 = .ok (.aload_n 0, 1) := by decide +kernel
theorem dX4_readTest_25 : decode cX4_readTest 25 = .ok (.aload_n 1, 1) := by decide +kernel
theorem dX4_readTest_26 : decode cX4_readTest 26 = .ok (.iload_n 2, 1) := by decide +kernel
theorem dX4_readTest_27 : decode cX4_readTest 27 = .ok (.invokevirtual 64, 3) := by decide +kernel
theorem dX4_readTest_30 : decode cX4_readTest 30 = .ok (.aload_n 0, 1) := by decide +kernel
theorem dX4_readTest_31 : decode cX4_readTest 31 = .ok (.bipush 13, 2) := by decide +kernel
theorem dX4_readTest_33 : decode cX4_readTest 33 = .ok (.iconst 0, 1) := by decide +kernel
theorem dX4_readTest_34 : decode cX4_readTest 34 = .ok (.invokevirtual 67, 3) := by decide +kernel
theorem dX4_readTest_37 : decode cX4_readTest 37 = .ok (.iinc 3 1, 3) := by decide +kernel
theorem dX4_readTest_40 : decode cX4_readTest 40 = .ok (.goto (-32), 3) := by decide +kernel
theorem dX4_readTest_43 : decode cX4_readTest 43 = .ok (.return_, 1) := by decide +kernel
def b_X4_readTest_46_51_c8 (kF : Int → D9 → Option R9) (k_X4_readTest_46_51_c8 : Int → Int → D9 → Option R9) (v2 v3 : Int) (d : D9) : Option R9 := if w32 400 ≤ w32 v3 then rt 0 d else cl (m_X8_takeWord_51 13 d) (fun r1 d2 => if w32 r1 = 0 then rt 0 d2 else cl (m_X4_readPart_46_51 kF v2 d2) (fun r3 d4 => cl (m_X4_keepStep_46 13 0 d4) (fun r5 d6 => k_X4_readTest_46_51_c8 v2 (v3 + 1) d6)))
def m_X4_readTest_46_51_c8 (kF : Int → D9 → Option R9) : Int → Int → D9 → Option R9 := fix9 (fun _ _ _ => none) (fun k => b_X4_readTest_46_51_c8 kF k) FU
def m_X4_readTest_46_51 (kF : Int → D9 → Option R9) (p2 : Int) (d : D9) : Option R9 := cl (m_X4_readPart_46_51 kF p2 d) (fun r1 d2 => m_X4_readTest_46_51_c8 kF  p2 0 d2)
set_option maxRecDepth 100000 in
theorem sb_X4_readTest_46_51_c8 {G : G9} {X : X9} {n9 : Nat} (C : CX G X cX4_readTest 4 RX4 [] (z_X4_readTest_46_51 n9)) (kF : Int → D9 → Option R9) (hkF : ∀ {l : Launch}, l.stackTraces = false → ∀ (p2 : Int) (d : D9), MT G l yX4_readFact cX4_readFact 7 (z_X4_readFact_46_51 n9) [rf G 46, rf G 51, i9 p2] d (kF p2 d)) (k_X4_readTest_46_51_c8 : Int → Int → D9 → Option R9) (hk_X4_readTest_46_51_c8 : ∀ (v2 v3 : Int) (d : D9), SS G X 4 0 0 8 [(0, rf G 46), (1, rf G 51), (2, i9 v2), (3, i9 v3)] [] d (k_X4_readTest_46_51_c8 v2 v3 d)) : ∀ (v2 v3 : Int) (d : D9), SS G X 4 0 0 8 [(0, rf G 46), (1, rf G 51), (2, i9 v2), (3, i9 v3)] [] d (b_X4_readTest_46_51_c8 kF k_X4_readTest_46_51_c8 v2 v3 d) := by
  intro v2 v3 d
  unfold b_X4_readTest_46_51_c8
  refine r_iload_n C 3 dX4_readTest_8 rfl rfl ?_
  refine r_sipush C dX4_readTest_9 rfl ?_
  refine r_icmp_ge C 43 dX4_readTest_12 (by decide) (fun _ => ?_) (fun _ => ?_)
  · exact r_vret C dX4_readTest_43 (Nat.le_of_ble_eq_true rfl) (Nat.le_of_ble_eq_true rfl)
  · refine r_aload_n C 1 dX4_readTest_15 rfl rfl ?_
    refine r_bipush C dX4_readTest_16 rfl ?_
    refine r_callV C [i9 13, rf G 51] dX4_readTest_18 (t_X8_takeWord_51 C.h1 C.h2 13 d) mw_X4_53 mv_X8_takeWord la_51 ly_51 rfl ⟨(show 10 + 1 ≤ (16 + 4 * n9) by omega), (show 8 + (3 + 11) + 295 ≤ (600 + 200 * n9) by omega)⟩ (Nat.le_of_ble_eq_true rfl) (Nat.le_of_ble_eq_true rfl) rfl rfl (Nat.le_of_ble_eq_true rfl) (fun r1 d2 => ?_)
    show SS G X 4 _ _ 21 [(0, rf G 46), (1, rf G 51), (2, i9 v2), (3, i9 v3)] [i9 r1] d2 _
    refine r_if_eq C (b := 0) 43 dX4_readTest_21 (by decide) (fun _ => ?_) (fun _ => ?_)
    · exact r_vret C dX4_readTest_43 (Nat.le_of_ble_eq_true rfl) (Nat.le_of_ble_eq_true rfl)
    · refine r_aload_n C 0 dX4_readTest_24 rfl rfl ?_
      refine r_aload_n C 1 dX4_readTest_25 rfl rfl ?_
      refine r_iload_n C 2 dX4_readTest_26 rfl rfl ?_
      refine r_callV C [i9 v2, rf G 51, rf G 46] dX4_readTest_27 (t_X4_readPart_46_51 C.h1 n9 kF hkF C.h2 v2 d2) mw_X4_64 mv_X4_readPart la_46 ly_46 rfl ⟨(show (15 + 4 * n9) + 1 ≤ (16 + 4 * n9) by omega), (show 8 + (4 + 11) + (550 + 200 * n9) ≤ (600 + 200 * n9) by omega)⟩ (Nat.le_of_ble_eq_true rfl) (Nat.le_of_ble_eq_true rfl) rfl rfl (Nat.le_of_ble_eq_true rfl) (fun r3 d4 => ?_)
      show SS G X 4 _ _ 30 [(0, rf G 46), (1, rf G 51), (2, i9 v2), (3, i9 v3)] [] d4 _
      refine r_aload_n C 0 dX4_readTest_30 rfl rfl ?_
      refine r_bipush C dX4_readTest_31 rfl ?_
      refine r_iconst C dX4_readTest_33 ?_
      refine r_callV C [i9 0, i9 13, rf G 46] dX4_readTest_34 (t_X4_keepStep_46 C.h1 C.h2 13 0 d4) mw_X4_67 mv_X4_keepStep la_46 ly_46 rfl ⟨(show 1 + 1 ≤ (16 + 4 * n9) by omega), (show 8 + (3 + 11) + 0 ≤ (600 + 200 * n9) by omega)⟩ (Nat.le_of_ble_eq_true rfl) (Nat.le_of_ble_eq_true rfl) rfl rfl (Nat.le_of_ble_eq_true rfl) (fun r5 d6 => ?_)
      show SS G X 4 _ _ 37 [(0, rf G 46), (1, rf G 51), (2, i9 v2), (3, i9 v3)] [] d6 _
      refine r_iinc C 3 [(3, i9 (v3 + 1)), (0, rf G 46), (1, rf G 51), (2, i9 v2)] dX4_readTest_37 rfl (by decide) rfl ?_
      refine r_goto C 8 dX4_readTest_40 (by decide) ?_
      refine ss_wide (k' := 0) (n' := 0) (Nat.le_of_ble_eq_true rfl) (Nat.le_of_ble_eq_true rfl) ?_
      refine ss_ls [(0, rf G 46), (1, rf G 51), (2, i9 v2), (3, i9 (v3 + 1))] [1, 2, 3, 0] rfl ?_
      exact hk_X4_readTest_46_51_c8 v2 (v3 + 1) d6
theorem s_X4_readTest_46_51_c8 {G : G9} {X : X9} {n9 : Nat} (C : CX G X cX4_readTest 4 RX4 [] (z_X4_readTest_46_51 n9)) (kF : Int → D9 → Option R9) (hkF : ∀ {l : Launch}, l.stackTraces = false → ∀ (p2 : Int) (d : D9), MT G l yX4_readFact cX4_readFact 7 (z_X4_readFact_46_51 n9) [rf G 46, rf G 51, i9 p2] d (kF p2 d)) : ∀ (v2 v3 : Int) (d : D9), SS G X 4 0 0 8 [(0, rf G 46), (1, rf G 51), (2, i9 v2), (3, i9 v3)] [] d (m_X4_readTest_46_51_c8 kF  v2 v3 d) :=
  fix9_ind (P := fun k => ∀ (v2 v3 : Int) (d : D9), SS G X 4 0 0 8 [(0, rf G 46), (1, rf G 51), (2, i9 v2), (3, i9 v3)] [] d (k v2 v3 d)) (fun _ _ _ => ss_none) (fun k hk => sb_X4_readTest_46_51_c8 C kF hkF k hk) FU
set_option maxRecDepth 100000 in
theorem t_X4_readTest_46_51 {G : G9} {l : Launch} (h1 : va_D (A9 G) (wl G (fun _ _ => 0))) (n9 : Nat) (kF : Int → D9 → Option R9) (hkF : ∀ {l : Launch}, l.stackTraces = false → ∀ (p2 : Int) (d : D9), MT G l yX4_readFact cX4_readFact 7 (z_X4_readFact_46_51 n9) [rf G 46, rf G 51, i9 p2] d (kF p2 d)) (h2 : l.stackTraces = false) (p2 : Int) (d : D9) : MT G l yX4_readTest cX4_readTest 4 (z_X4_readTest_46_51 n9) [rf G 46, rf G 51, i9 p2] d (m_X4_readTest_46_51 kF p2 d) := by
  refine mt_of (own := RX4) (by decide) rfl (Nat.le_of_ble_eq_true rfl) h1 h2 [(0, rf G 46), (1, rf G 51), (2, i9 p2)] rfl (fun X hX C => ?_)
  unfold m_X4_readTest_46_51
  refine r_aload_n C 0 dX4_readTest_0 rfl rfl ?_
  refine r_aload_n C 1 dX4_readTest_1 rfl rfl ?_
  refine r_iload_n C 2 dX4_readTest_2 rfl rfl ?_
  refine r_callV C [i9 p2, rf G 51, rf G 46] dX4_readTest_3 (t_X4_readPart_46_51 C.h1 n9 kF hkF C.h2 p2 d) mw_X4_64 mv_X4_readPart la_46 ly_46 rfl ⟨(show (15 + 4 * n9) + 1 ≤ (16 + 4 * n9) by omega), (show 8 + (4 + 11) + (550 + 200 * n9) ≤ (600 + 200 * n9) by omega)⟩ (Nat.le_of_ble_eq_true rfl) (Nat.le_of_ble_eq_true rfl) rfl rfl (Nat.le_of_ble_eq_true rfl) (fun r1 d2 => ?_)
  show SS G X 4 _ _ 6 [(0, rf G 46), (1, rf G 51), (2, i9 p2)] [] d2 _
  refine r_iconst C dX4_readTest_6 ?_
  refine r_istore_n C [(3, i9 0), (0, rf G 46), (1, rf G 51), (2, i9 p2)] dX4_readTest_7 rfl (by decide) rfl ?_
  refine ss_wide (k' := 0) (n' := 0) (Nat.le_of_ble_eq_true rfl) (Nat.le_of_ble_eq_true rfl) ?_
  refine ss_ls [(0, rf G 46), (1, rf G 51), (2, i9 p2), (3, i9 0)] [1, 2, 3, 0] rfl ?_
  exact s_X4_readTest_46_51_c8 C kF hkF  p2 0 d2
theorem dX4_readFact_0 : decode cX4_readFact 0 = .ok (.aload_n 1, 1) := by decide +kernel
theorem dX4_readFact_1 : decode cX4_readFact 1 = .ok (.bipush 15, 2) := by decide +kernel
theorem dX4_readFact_3 : decode cX4_readFact 3 = .ok (.invokevirtual 74, 3) := by decide +kernel
theorem dX4_readFact_6 : decode cX4_readFact 6 = .ok (.istore_n 3, 1) := by decide +kernel
theorem dX4_readFact_7 : decode cX4_readFact 7 = .ok (.iload_n 3, 1) := by decide +kernel
theorem dX4_readFact_8 : decode cX4_readFact 8 = .ok (.ifCond .ne 12, 3) := by decide +kernel
theorem dX4_readFact_11 : decode cX4_readFact 11 = .ok (.aload_n 1, 1) := by decide +kernel
theorem dX4_readFact_12 : decode cX4_readFact 12 = .ok (.bipush 40, 2) := by decide +kernel
theorem dX4_readFact_14 : decode cX4_readFact 14 = .ok (.invokevirtual 77, 3) := by decide +kernel
theorem dX4_readFact_17 : decode cX4_readFact 17 = .ok (.ifCond .eq 7, 3) := by decide +kernel
theorem dX4_readFact_20 : decode cX4_readFact 20 = .ok (.iconst 1, 1) := by decide +kernel
theorem dX4_readFact_21 : decode cX4_readFact 21 = .ok (.goto 4, 3) := by decide +kernel
theorem dX4_readFact_24 : decode cX4_readFact 24 = .ok (.iconst 0, 1) := by decide +kernel
theorem dX4_readFact_25 : decode cX4_readFact 25 = .ok (.istore 4, 2) := by decide +kernel
theorem dX4_readFact_27 : decode cX4_readFact 27 = .ok (.iload 4, 2) := by decide +kernel
theorem dX4_readFact_29 : decode cX4_readFact 29 = .ok (.ifCond .eq 17, 3) := by decide +kernel
theorem dX4_readFact_32 : decode cX4_readFact 32 = .ok (.iload_n 2, 1) := by decide +kernel
theorem dX4_readFact_33 : decode cX4_readFact 33 = .ok (.bipush 8, 2) := by decide +kernel
theorem dX4_readFact_35 : decode cX4_readFact 35 = .ok (.if_icmp .lt 11, 3) := by decide +kernel
theorem dX4_readFact_38 : decode cX4_readFact 38 = .ok (.aload_n 1, 1) := by decide +kernel
theorem dX4_readFact_39 : decode cX4_readFact 39 = .ok (.iconst 5, 1) := by decide +kernel
theorem dX4_readFact_40 : decode cX4_readFact 40 = .ok (.invokevirtual 81, 3) := by decide +kernel
theorem dX4_readFact_43 : decode cX4_readFact 43 = .ok (.goto 110, 3) := by decide +kernel
theorem dX4_readFact_46 : decode cX4_readFact 46 = .ok (.iload_n 3, 1) := by decide +kernel
theorem dX4_readFact_47 : decode cX4_readFact 47 = .ok (.ifCond .eq 25, 3) := by decide +kernel
theorem dX4_readFact_50 : decode cX4_readFact 50 = .ok (.aload_n 1, 1) := by decide +kernel
theorem dX4_readFact_51 : decode cX4_readFact 51 = .ok (.invokevirtual 85, 3) := by decide +kernel
theorem dX4_readFact_54 : decode cX4_readFact 54 = .ok (.aload_n 0, 1) := by decide +kernel
theorem dX4_readFact_55 : decode cX4_readFact 55 = .ok (.aload_n 1, 1) := by decide +kernel
theorem dX4_readFact_56 : decode cX4_readFact 56 = .ok (.iload_n 2, 1) := by decide +kernel
theorem dX4_readFact_57 : decode cX4_readFact 57 = .ok (.iconst 1, 1) := by decide +kernel
theorem dX4_readFact_58 : decode cX4_readFact 58 = .ok (.iadd, 1) := by decide +kernel
theorem dX4_readFact_59 : decode cX4_readFact 59 = .ok (.invokevirtual 71, 3) := by decide +kernel
theorem dX4_readFact_62 : decode cX4_readFact 62 = .ok (.aload_n 0, 1) := by decide +kernel
theorem dX4_readFact_63 : decode cX4_readFact 63 = .ok (.bipush 15, 2) := by decide +kernel
theorem dX4_readFact_65 : decode cX4_readFact 65 = .ok (.iconst 0, 1) := by decide +kernel
theorem dX4_readFact_66 : decode cX4_readFact 66 = .ok (.invokevirtual 67, 3) := by decide +kernel
theorem dX4_readFact_69 : decode cX4_readFact 69 = .ok (.goto 84, 3) := by decide +kernel
theorem dX4_readFact_72 : decode cX4_readFact 72 = .ok (.iload 4, 2) := by decide +kernel
theorem dX4_readFact_74 : decode cX4_readFact 74 = .ok (.ifCond .eq 24, 3) := by decide +kernel
theorem dX4_readFact_77 : decode cX4_readFact 77 = .ok (.aload_n 1, 1) := by decide +kernel
theorem dX4_readFact_78 : decode cX4_readFact 78 = .ok (.invokevirtual 85, 3) := by decide +kernel
theorem dX4_readFact_81 : decode cX4_readFact 81 = .ok (.aload_n 0, 1) := by decide +kernel
theorem dX4_readFact_82 : decode cX4_readFact 82 = .ok (.aload_n 1, 1) := by decide +kernel
theorem dX4_readFact_83 : decode cX4_readFact 83 = .ok (.iload_n 2, 1) := by decide +kernel
theorem dX4_readFact_84 : decode cX4_readFact 84 = .ok (.iconst 1, 1) := by decide +kernel
theorem dX4_readFact_85 : decode cX4_readFact 85 = .ok (.iadd, 1) := by decide +kernel
theorem dX4_readFact_86 : decode cX4_readFact 86 = .ok (.invokevirtual 57, 3) := by decide +kernel
theorem dX4_readFact_89 : decode cX4_readFact 89 = .ok (.aload_n 1, 1) := by decide +kernel
theorem dX4_readFact_90 : decode cX4_readFact 90 = .ok (.bipush 41, 2) := by decide +kernel
theorem dX4_readFact_92 : decode cX4_readFact 92 = .ok (.invokevirtual 60, 3) := by decide +kernel
theorem dX4_readFact_95 : decode cX4_readFact 95 = .ok (.goto 58, 3) := by decide +kernel
theorem dX4_readFact_98 : decode cX4_readFact 98 = .ok (.aload_n 1, 1) := by decide +kernel
theorem dX4_readFact_99 : decode cX4_readFact 99 = .ok (.bipush 16, 2) := by decide +kernel
theorem dX4_readFact_101 : decode cX4_readFact 101 = .ok (.bipush 23, 2) := by decide +kernel
theorem dX4_readFact_103 : decode cX4_readFact 103 = .ok (.invokevirtual 49, 3) := by decide +kernel
theorem dX4_readFact_106 : decode cX4_readFact 106 = .ok (.istore 5, 2) := by decide +kernel
theorem dX4_readFact_108 : decode cX4_readFact 108 = .ok (.iconst 0, 1) := by decide +kernel
theorem dX4_readFact_109 : decode cX4_readFact 109 = .ok (.istore 6, 2) := by decide +kernel
theorem dX4_readFact_111 : decode cX4_readFact 111 = .ok (.iload 5, 2) := by decide +kernel
theorem dX4_readFact_113 : decode cX4_readFact 113 = .ok (.bipush 16, 2) := by decide +kernel
theorem dX4_readFact_115 : decode cX4_readFact 115 = .ok (.if_icmp .ne 15, 3) := by decide +kernel
theorem dX4_readFact_118 : decode cX4_readFact 118 = .ok (.aload_n 1, 1) := by decide +kernel
theorem dX4_readFact_119 : decode cX4_readFact 119 = .ok (.iconst 1, 1) := by decide +kernel
theorem dX4_readFact_120 : decode cX4_readFact 120 = .ok (.bipush 99, 2) := by decide +kernel
theorem dX4_readFact_122 : decode cX4_readFact 122 = .ok (.invokevirtual 88, 3) := by decide +kernel
theorem dX4_readFact_125 : decode cX4_readFact 125 = .ok (.istore 6, 2) := by decide +kernel
theorem dX4_readFact_127 : decode cX4_readFact 127 = .ok (.goto 18, 3) := by decide +kernel
theorem dX4_readFact_130 : decode cX4_readFact 130 = .ok (.iload 5, 2) := by decide +kernel
theorem dX4_readFact_132 : decode cX4_readFact 132 = .ok (.bipush 17, 2) := by decide +kernel
theorem dX4_readFact_134 : decode cX4_readFact 134 = .ok (.if_icmp .ne 11, 3) := by decide +kernel
theorem dX4_readFact_137 : decode cX4_readFact 137 = .ok (.aload_n 1, 1) := by decide +kernel
theorem dX4_readFact_138 : decode cX4_readFact 138 = .ok (.iconst 0, 1) := by decide +kernel
theorem dX4_readFact_139 : decode cX4_readFact 139 = .ok (.iconst 5, 1) := by decide +kernel
theorem dX4_readFact_140 : decode cX4_readFact 140 = .ok (.invokevirtual 88, 3) := by decide +kernel
theorem dX4_readFact_143 : decode cX4_readFact 143 = .ok (.istore 6, 2) := by decide +kernel
theorem dX4_readFact_145 : decode cX4_readFact 145 = .ok (.aload_n 0, 1) := by decide +kernel
theorem dX4_readFact_146 : decode cX4_readFact 146 = .ok (.iload 5, 2) := by decide +kernel
theorem dX4_readFact_148 : decode cX4_readFact 148 = .ok (.iload 6, 2) := by decide +kernel
theorem dX4_readFact_150 : decode cX4_readFact 150 = .ok (.invokevirtual 67, 3) := by decide +kernel
theorem dX4_readFact_153 : decode cX4_readFact 153 = .ok (.return_, 1) := by decide +kernel
def m_X4_readFact_46_51_c145 (kF : Int → D9 → Option R9) (v5 v6 : Int) (d : D9) : Option R9 := cl (m_X4_keepStep_46 v5 v6 d) (fun r1 d2 => rt 0 d2)
def m_X4_readFact_46_51_c46 (kF : Int → D9 → Option R9) (v2 v3 v4 : Int) (d : D9) : Option R9 := if w32 v3 = 0 then if w32 v4 = 0 then cl (m_X8_wordAmong_51 16 23 d) (fun r1 d2 => if w32 r1 ≠ w32 16 then if w32 r1 ≠ w32 17 then m_X4_readFact_46_51_c145 kF  r1 0 d2 else cl (m_X8_number_51 0 5 d2) (fun r3 d4 => m_X4_readFact_46_51_c145 kF  r1 r3 d4) else cl (m_X8_number_51 1 99 d2) (fun r5 d6 => m_X4_readFact_46_51_c145 kF  r1 r5 d6)) else cl (m_X8_advance_51 d) (fun r7 d8 => cl (m_X4_readTest_46_51 kF (v2 + 1) d8) (fun r9 d10 => cl (m_X8_needSign_51 41 d10) (fun r11 d12 => rt 0 d12))) else cl (m_X8_advance_51 d) (fun r13 d14 => cl (kF (v2 + 1) d14) (fun r15 d16 => cl (m_X4_keepStep_46 15 0 d16) (fun r17 d18 => rt 0 d18)))
def m_X4_readFact_46_51_c25 (kF : Int → D9 → Option R9) (v2 v3 s0 : Int) (d : D9) : Option R9 := if w32 s0 = 0 then m_X4_readFact_46_51_c46 kF  v2 v3 s0 d else if w32 v2 < w32 8 then m_X4_readFact_46_51_c46 kF  v2 v3 s0 d else cl (m_X8_fail_51 5 d) (fun r1 d2 => rt 0 d2)
def b_X4_readFact_46_51 (kF : Int → D9 → Option R9) (p2 : Int) (d : D9) : Option R9 := cl (m_X8_isWord_51 15 d) (fun r1 d2 => if w32 r1 ≠ 0 then m_X4_readFact_46_51_c25 kF  p2 r1 1 d2 else cl (m_X8_isSign_51 40 d2) (fun r3 d4 => if w32 r3 = 0 then m_X4_readFact_46_51_c25 kF  p2 r1 0 d4 else m_X4_readFact_46_51_c25 kF  p2 r1 1 d4))
def m_X4_readFact_46_51 : Int → D9 → Option R9 := fix9 (fun _ _ => none) (fun k => b_X4_readFact_46_51 k) 12
def m_X4_readTest_46_51R (p2 : Int) (d : D9) : Option R9 := m_X4_readTest_46_51 m_X4_readFact_46_51 p2 d
set_option maxRecDepth 100000 in
theorem s_X4_readFact_46_51_c145 {G : G9} {X : X9} {n9 : Nat} (C : CX G X cX4_readFact 7 RX4 [] (z_X4_readFact_46_51 (n9 + 1))) (kF : Int → D9 → Option R9) (hkF : ∀ {l : Launch}, l.stackTraces = false → ∀ (p2 : Int) (d : D9), MT G l yX4_readFact cX4_readFact 7 (z_X4_readFact_46_51 n9) [rf G 46, rf G 51, i9 p2] d (kF p2 d)) : ∀ (v5 v6 : Int) (d : D9), SS G X 7 0 0 145 [(0, rf G 46), (5, i9 v5), (6, i9 v6)] [] d (m_X4_readFact_46_51_c145 kF  v5 v6 d) := by
  intro v5 v6 d
  unfold m_X4_readFact_46_51_c145
  refine r_aload_n C 0 dX4_readFact_145 rfl rfl ?_
  refine r_iload C 1 dX4_readFact_146 rfl ?_
  refine r_iload C 2 dX4_readFact_148 rfl ?_
  refine r_callV C [i9 v6, i9 v5, rf G 46] dX4_readFact_150 (t_X4_keepStep_46 C.h1 C.h2 v5 v6 d) mw_X4_67 mv_X4_keepStep la_46 ly_46 rfl ⟨(show 1 + 1 ≤ (14 + 4 * (n9 + 1)) by omega), (show 8 + (3 + 11) + 0 ≤ (500 + 200 * (n9 + 1)) by omega)⟩ (Nat.le_of_ble_eq_true rfl) (Nat.le_of_ble_eq_true rfl) rfl rfl (Nat.le_of_ble_eq_true rfl) (fun r1 d2 => ?_)
  show SS G X 7 _ _ 153 [(0, rf G 46), (5, i9 v5), (6, i9 v6)] [] d2 _
  exact r_vret C dX4_readFact_153 (Nat.le_of_ble_eq_true rfl) (Nat.le_of_ble_eq_true rfl)
set_option maxRecDepth 100000 in
theorem s_X4_readFact_46_51_c46 {G : G9} {X : X9} {n9 : Nat} (C : CX G X cX4_readFact 7 RX4 [] (z_X4_readFact_46_51 (n9 + 1))) (kF : Int → D9 → Option R9) (hkF : ∀ {l : Launch}, l.stackTraces = false → ∀ (p2 : Int) (d : D9), MT G l yX4_readFact cX4_readFact 7 (z_X4_readFact_46_51 n9) [rf G 46, rf G 51, i9 p2] d (kF p2 d)) : ∀ (v2 v3 v4 : Int) (d : D9), SS G X 7 0 0 46 [(0, rf G 46), (1, rf G 51), (2, i9 v2), (3, i9 v3), (4, i9 v4)] [] d (m_X4_readFact_46_51_c46 kF  v2 v3 v4 d) := by
  intro v2 v3 v4 d
  unfold m_X4_readFact_46_51_c46
  refine r_iload_n C 3 dX4_readFact_46 rfl rfl ?_
  refine r_if_eq C (b := 0) 72 dX4_readFact_47 (by decide) (fun _ => ?_) (fun _ => ?_)
  · refine r_iload C 4 dX4_readFact_72 rfl ?_
    refine r_if_eq C (b := 0) 98 dX4_readFact_74 (by decide) (fun _ => ?_) (fun _ => ?_)
    · refine r_aload_n C 1 dX4_readFact_98 rfl rfl ?_
      refine r_bipush C dX4_readFact_99 rfl ?_
      refine r_bipush C dX4_readFact_101 rfl ?_
      refine r_callV C [i9 23, i9 16, rf G 51] dX4_readFact_103 (t_X8_wordAmong_51 C.h1 C.h2 16 23 d) mw_X4_49 mv_X8_wordAmong la_51 ly_51 rfl ⟨(show 10 + 1 ≤ (14 + 4 * (n9 + 1)) by omega), (show 8 + (4 + 11) + 295 ≤ (500 + 200 * (n9 + 1)) by omega)⟩ (Nat.le_of_ble_eq_true rfl) (Nat.le_of_ble_eq_true rfl) rfl rfl (Nat.le_of_ble_eq_true rfl) (fun r1 d2 => ?_)
      show SS G X 7 _ _ 106 [(0, rf G 46), (1, rf G 51), (2, i9 v2), (3, i9 v3), (4, i9 v4)] [i9 r1] d2 _
      refine r_istore C [(5, i9 r1), (0, rf G 46), (1, rf G 51), (2, i9 v2), (3, i9 v3), (4, i9 v4)] dX4_readFact_106 (by decide) rfl ?_
      refine r_iconst C dX4_readFact_108 ?_
      refine r_istore C [(6, i9 0), (5, i9 r1), (0, rf G 46), (1, rf G 51), (2, i9 v2), (3, i9 v3), (4, i9 v4)] dX4_readFact_109 (by decide) rfl ?_
      refine r_iload C 1 dX4_readFact_111 rfl ?_
      refine r_bipush C dX4_readFact_113 rfl ?_
      refine r_icmp_ne C 130 dX4_readFact_115 (by decide) (fun _ => ?_) (fun _ => ?_)
      · refine r_iload C 1 dX4_readFact_130 rfl ?_
        refine r_bipush C dX4_readFact_132 rfl ?_
        refine r_icmp_ne C 145 dX4_readFact_134 (by decide) (fun _ => ?_) (fun _ => ?_)
        · refine ss_wide (k' := 0) (n' := 0) (Nat.le_of_ble_eq_true rfl) (Nat.le_of_ble_eq_true rfl) ?_
          refine ss_ls [(0, rf G 46), (5, i9 r1), (6, i9 0)] [2, 1, 0] rfl ?_
          exact s_X4_readFact_46_51_c145 C kF hkF  r1 0 d2
        · refine r_aload_n C 3 dX4_readFact_137 rfl rfl ?_
          refine r_iconst C dX4_readFact_138 ?_
          refine r_iconst C dX4_readFact_139 ?_
          refine r_callV C [i9 5, i9 0, rf G 51] dX4_readFact_140 (t_X8_number_51 C.h1 C.h2 0 5 d2) mw_X4_88 mv_X8_number la_51 ly_51 rfl ⟨(show 10 + 1 ≤ (14 + 4 * (n9 + 1)) by omega), (show 8 + (4 + 11) + 295 ≤ (500 + 200 * (n9 + 1)) by omega)⟩ (Nat.le_of_ble_eq_true rfl) (Nat.le_of_ble_eq_true rfl) rfl rfl (Nat.le_of_ble_eq_true rfl) (fun r3 d4 => ?_)
          show SS G X 7 _ _ 143 [(6, i9 0), (5, i9 r1), (0, rf G 46), (1, rf G 51), (2, i9 v2), (3, i9 v3), (4, i9 v4)] [i9 r3] d4 _
          refine r_istore C [(6, i9 r3), (5, i9 r1), (0, rf G 46), (1, rf G 51), (2, i9 v2), (3, i9 v3), (4, i9 v4)] dX4_readFact_143 (by decide) rfl ?_
          refine ss_wide (k' := 0) (n' := 0) (Nat.le_of_ble_eq_true rfl) (Nat.le_of_ble_eq_true rfl) ?_
          refine ss_ls [(0, rf G 46), (5, i9 r1), (6, i9 r3)] [2, 1, 0] rfl ?_
          exact s_X4_readFact_46_51_c145 C kF hkF  r1 r3 d4
      · refine r_aload_n C 3 dX4_readFact_118 rfl rfl ?_
        refine r_iconst C dX4_readFact_119 ?_
        refine r_bipush C dX4_readFact_120 rfl ?_
        refine r_callV C [i9 99, i9 1, rf G 51] dX4_readFact_122 (t_X8_number_51 C.h1 C.h2 1 99 d2) mw_X4_88 mv_X8_number la_51 ly_51 rfl ⟨(show 10 + 1 ≤ (14 + 4 * (n9 + 1)) by omega), (show 8 + (4 + 11) + 295 ≤ (500 + 200 * (n9 + 1)) by omega)⟩ (Nat.le_of_ble_eq_true rfl) (Nat.le_of_ble_eq_true rfl) rfl rfl (Nat.le_of_ble_eq_true rfl) (fun r5 d6 => ?_)
        show SS G X 7 _ _ 125 [(6, i9 0), (5, i9 r1), (0, rf G 46), (1, rf G 51), (2, i9 v2), (3, i9 v3), (4, i9 v4)] [i9 r5] d6 _
        refine r_istore C [(6, i9 r5), (5, i9 r1), (0, rf G 46), (1, rf G 51), (2, i9 v2), (3, i9 v3), (4, i9 v4)] dX4_readFact_125 (by decide) rfl ?_
        refine r_goto C 145 dX4_readFact_127 (by decide) ?_
        refine ss_wide (k' := 0) (n' := 0) (Nat.le_of_ble_eq_true rfl) (Nat.le_of_ble_eq_true rfl) ?_
        refine ss_ls [(0, rf G 46), (5, i9 r1), (6, i9 r5)] [2, 1, 0] rfl ?_
        exact s_X4_readFact_46_51_c145 C kF hkF  r1 r5 d6
    · refine r_aload_n C 1 dX4_readFact_77 rfl rfl ?_
      refine r_callV C [rf G 51] dX4_readFact_78 (t_X8_advance_51 C.h1 C.h2 d) mw_X4_85 mv_X8_advance la_51 ly_51 rfl ⟨(show 9 + 1 ≤ (14 + 4 * (n9 + 1)) by omega), (show 8 + (2 + 11) + 274 ≤ (500 + 200 * (n9 + 1)) by omega)⟩ (Nat.le_of_ble_eq_true rfl) (Nat.le_of_ble_eq_true rfl) rfl rfl (Nat.le_of_ble_eq_true rfl) (fun r7 d8 => ?_)
      show SS G X 7 _ _ 81 [(0, rf G 46), (1, rf G 51), (2, i9 v2), (3, i9 v3), (4, i9 v4)] [] d8 _
      refine r_aload_n C 0 dX4_readFact_81 rfl rfl ?_
      refine r_aload_n C 1 dX4_readFact_82 rfl rfl ?_
      refine r_iload_n C 2 dX4_readFact_83 rfl rfl ?_
      refine r_iconst C dX4_readFact_84 ?_
      refine r_iadd C dX4_readFact_85 ?_
      refine r_callV C [i9 (v2 + 1), rf G 51, rf G 46] dX4_readFact_86 (t_X4_readTest_46_51 C.h1 n9 kF hkF C.h2 (v2 + 1) d8) mw_X4_57 mv_X4_readTest la_46 ly_46 rfl ⟨(show (16 + 4 * n9) + 1 ≤ (14 + 4 * (n9 + 1)) by omega), (show 8 + (4 + 11) + (600 + 200 * n9) ≤ (500 + 200 * (n9 + 1)) by omega)⟩ (Nat.le_of_ble_eq_true rfl) (Nat.le_of_ble_eq_true rfl) rfl rfl (Nat.le_of_ble_eq_true rfl) (fun r9 d10 => ?_)
      show SS G X 7 _ _ 89 [(0, rf G 46), (1, rf G 51), (2, i9 v2), (3, i9 v3), (4, i9 v4)] [] d10 _
      refine r_aload_n C 1 dX4_readFact_89 rfl rfl ?_
      refine r_bipush C dX4_readFact_90 rfl ?_
      refine r_callV C [i9 41, rf G 51] dX4_readFact_92 (t_X8_needSign_51 C.h1 C.h2 41 d10) mw_X4_60 mv_X8_needSign la_51 ly_51 rfl ⟨(show 10 + 1 ≤ (14 + 4 * (n9 + 1)) by omega), (show 8 + (2 + 11) + 295 ≤ (500 + 200 * (n9 + 1)) by omega)⟩ (Nat.le_of_ble_eq_true rfl) (Nat.le_of_ble_eq_true rfl) rfl rfl (Nat.le_of_ble_eq_true rfl) (fun r11 d12 => ?_)
      show SS G X 7 _ _ 95 [(0, rf G 46), (1, rf G 51), (2, i9 v2), (3, i9 v3), (4, i9 v4)] [] d12 _
      refine r_goto C 153 dX4_readFact_95 (by decide) ?_
      exact r_vret C dX4_readFact_153 (Nat.le_of_ble_eq_true rfl) (Nat.le_of_ble_eq_true rfl)
  · refine r_aload_n C 1 dX4_readFact_50 rfl rfl ?_
    refine r_callV C [rf G 51] dX4_readFact_51 (t_X8_advance_51 C.h1 C.h2 d) mw_X4_85 mv_X8_advance la_51 ly_51 rfl ⟨(show 9 + 1 ≤ (14 + 4 * (n9 + 1)) by omega), (show 8 + (2 + 11) + 274 ≤ (500 + 200 * (n9 + 1)) by omega)⟩ (Nat.le_of_ble_eq_true rfl) (Nat.le_of_ble_eq_true rfl) rfl rfl (Nat.le_of_ble_eq_true rfl) (fun r13 d14 => ?_)
    show SS G X 7 _ _ 54 [(0, rf G 46), (1, rf G 51), (2, i9 v2), (3, i9 v3), (4, i9 v4)] [] d14 _
    refine r_aload_n C 0 dX4_readFact_54 rfl rfl ?_
    refine r_aload_n C 1 dX4_readFact_55 rfl rfl ?_
    refine r_iload_n C 2 dX4_readFact_56 rfl rfl ?_
    refine r_iconst C dX4_readFact_57 ?_
    refine r_iadd C dX4_readFact_58 ?_
    refine r_callV C [i9 (v2 + 1), rf G 51, rf G 46] dX4_readFact_59 (hkF C.h2 (v2 + 1) d14) mw_X4_71 mv_X4_readFact la_46 ly_46 rfl ⟨(show (14 + 4 * n9) + 1 ≤ (14 + 4 * (n9 + 1)) by omega), (show 8 + (7 + 11) + (500 + 200 * n9) ≤ (500 + 200 * (n9 + 1)) by omega)⟩ (Nat.le_of_ble_eq_true rfl) (Nat.le_of_ble_eq_true rfl) rfl rfl (Nat.le_of_ble_eq_true rfl) (fun r15 d16 => ?_)
    show SS G X 7 _ _ 62 [(0, rf G 46), (1, rf G 51), (2, i9 v2), (3, i9 v3), (4, i9 v4)] [] d16 _
    refine r_aload_n C 0 dX4_readFact_62 rfl rfl ?_
    refine r_bipush C dX4_readFact_63 rfl ?_
    refine r_iconst C dX4_readFact_65 ?_
    refine r_callV C [i9 0, i9 15, rf G 46] dX4_readFact_66 (t_X4_keepStep_46 C.h1 C.h2 15 0 d16) mw_X4_67 mv_X4_keepStep la_46 ly_46 rfl ⟨(show 1 + 1 ≤ (14 + 4 * (n9 + 1)) by omega), (show 8 + (3 + 11) + 0 ≤ (500 + 200 * (n9 + 1)) by omega)⟩ (Nat.le_of_ble_eq_true rfl) (Nat.le_of_ble_eq_true rfl) rfl rfl (Nat.le_of_ble_eq_true rfl) (fun r17 d18 => ?_)
    show SS G X 7 _ _ 69 [(0, rf G 46), (1, rf G 51), (2, i9 v2), (3, i9 v3), (4, i9 v4)] [] d18 _
    refine r_goto C 153 dX4_readFact_69 (by decide) ?_
    exact r_vret C dX4_readFact_153 (Nat.le_of_ble_eq_true rfl) (Nat.le_of_ble_eq_true rfl)
set_option maxRecDepth 100000 in
theorem s_X4_readFact_46_51_c25 {G : G9} {X : X9} {n9 : Nat} (C : CX G X cX4_readFact 7 RX4 [] (z_X4_readFact_46_51 (n9 + 1))) (kF : Int → D9 → Option R9) (hkF : ∀ {l : Launch}, l.stackTraces = false → ∀ (p2 : Int) (d : D9), MT G l yX4_readFact cX4_readFact 7 (z_X4_readFact_46_51 n9) [rf G 46, rf G 51, i9 p2] d (kF p2 d)) : ∀ (v2 v3 s0 : Int) (d : D9), SS G X 7 0 0 25 [(0, rf G 46), (1, rf G 51), (2, i9 v2), (3, i9 v3)] [i9 s0] d (m_X4_readFact_46_51_c25 kF  v2 v3 s0 d) := by
  intro v2 v3 s0 d
  unfold m_X4_readFact_46_51_c25
  refine r_istore C [(4, i9 s0), (0, rf G 46), (1, rf G 51), (2, i9 v2), (3, i9 v3)] dX4_readFact_25 (by decide) rfl ?_
  refine r_iload C 0 dX4_readFact_27 rfl ?_
  refine r_if_eq C (b := 0) 46 dX4_readFact_29 (by decide) (fun _ => ?_) (fun _ => ?_)
  · refine ss_wide (k' := 0) (n' := 0) (Nat.le_of_ble_eq_true rfl) (Nat.le_of_ble_eq_true rfl) ?_
    refine ss_ls [(0, rf G 46), (1, rf G 51), (2, i9 v2), (3, i9 v3), (4, i9 s0)] [1, 2, 3, 4, 0] rfl ?_
    exact s_X4_readFact_46_51_c46 C kF hkF  v2 v3 s0 d
  · refine r_iload_n C 3 dX4_readFact_32 rfl rfl ?_
    refine r_bipush C dX4_readFact_33 rfl ?_
    refine r_icmp_lt C 46 dX4_readFact_35 (by decide) (fun _ => ?_) (fun _ => ?_)
    · refine ss_wide (k' := 0) (n' := 0) (Nat.le_of_ble_eq_true rfl) (Nat.le_of_ble_eq_true rfl) ?_
      refine ss_ls [(0, rf G 46), (1, rf G 51), (2, i9 v2), (3, i9 v3), (4, i9 s0)] [1, 2, 3, 4, 0] rfl ?_
      exact s_X4_readFact_46_51_c46 C kF hkF  v2 v3 s0 d
    · refine r_aload_n C 2 dX4_readFact_38 rfl rfl ?_
      refine r_iconst C dX4_readFact_39 ?_
      refine r_callV C [i9 5, rf G 51] dX4_readFact_40 (t_X8_fail_51 C.h1 C.h2 5 d) mw_X4_81 mv_X8_fail la_51 ly_51 rfl ⟨(show 1 + 1 ≤ (14 + 4 * (n9 + 1)) by omega), (show 8 + (2 + 11) + 0 ≤ (500 + 200 * (n9 + 1)) by omega)⟩ (Nat.le_of_ble_eq_true rfl) (Nat.le_of_ble_eq_true rfl) rfl rfl (Nat.le_of_ble_eq_true rfl) (fun r1 d2 => ?_)
      show SS G X 7 _ _ 43 [(4, i9 s0), (0, rf G 46), (1, rf G 51), (2, i9 v2), (3, i9 v3)] [] d2 _
      refine r_goto C 153 dX4_readFact_43 (by decide) ?_
      exact r_vret C dX4_readFact_153 (Nat.le_of_ble_eq_true rfl) (Nat.le_of_ble_eq_true rfl)
set_option maxRecDepth 100000 in
theorem tb_X4_readFact_46_51 {G : G9} {l : Launch} (h1 : va_D (A9 G) (wl G (fun _ _ => 0))) (n9 : Nat) (kF : Int → D9 → Option R9) (hkF : ∀ {l : Launch}, l.stackTraces = false → ∀ (p2 : Int) (d : D9), MT G l yX4_readFact cX4_readFact 7 (z_X4_readFact_46_51 n9) [rf G 46, rf G 51, i9 p2] d (kF p2 d)) (h2 : l.stackTraces = false) (p2 : Int) (d : D9) : MT G l yX4_readFact cX4_readFact 7 (z_X4_readFact_46_51 (n9 + 1)) [rf G 46, rf G 51, i9 p2] d (b_X4_readFact_46_51 kF p2 d) := by
  refine mt_of (own := RX4) (by decide) rfl (Nat.le_of_ble_eq_true rfl) h1 h2 [(0, rf G 46), (1, rf G 51), (2, i9 p2)] rfl (fun X hX C => ?_)
  unfold b_X4_readFact_46_51
  refine r_aload_n C 1 dX4_readFact_0 rfl rfl ?_
  refine r_bipush C dX4_readFact_1 rfl ?_
  refine r_callV C [i9 15, rf G 51] dX4_readFact_3 (t_X8_isWord_51 C.h1 C.h2 15 d) mw_X4_74 mv_X8_isWord la_51 ly_51 rfl ⟨(show 1 + 1 ≤ (14 + 4 * (n9 + 1)) by omega), (show 8 + (2 + 11) + 0 ≤ (500 + 200 * (n9 + 1)) by omega)⟩ (Nat.le_of_ble_eq_true rfl) (Nat.le_of_ble_eq_true rfl) rfl rfl (Nat.le_of_ble_eq_true rfl) (fun r1 d2 => ?_)
  show SS G X 7 _ _ 6 [(0, rf G 46), (1, rf G 51), (2, i9 p2)] [i9 r1] d2 _
  refine r_istore_n C [(3, i9 r1), (0, rf G 46), (1, rf G 51), (2, i9 p2)] dX4_readFact_6 rfl (by decide) rfl ?_
  refine r_iload_n C 0 dX4_readFact_7 rfl rfl ?_
  refine r_if_ne C (b := 0) 20 dX4_readFact_8 (by decide) (fun _ => ?_) (fun _ => ?_)
  · refine r_iconst C dX4_readFact_20 ?_
    refine r_goto C 25 dX4_readFact_21 (by decide) ?_
    refine ss_wide (k' := 0) (n' := 0) (Nat.le_of_ble_eq_true rfl) (Nat.le_of_ble_eq_true rfl) ?_
    refine ss_ls [(0, rf G 46), (1, rf G 51), (2, i9 p2), (3, i9 r1)] [1, 2, 3, 0] rfl ?_
    exact s_X4_readFact_46_51_c25 C kF hkF  p2 r1 1 d2
  · refine r_aload_n C 2 dX4_readFact_11 rfl rfl ?_
    refine r_bipush C dX4_readFact_12 rfl ?_
    refine r_callV C [i9 40, rf G 51] dX4_readFact_14 (t_X8_isSign_51 C.h1 C.h2 40 d2) mw_X4_77 mv_X8_isSign la_51 ly_51 rfl ⟨(show 1 + 1 ≤ (14 + 4 * (n9 + 1)) by omega), (show 8 + (2 + 11) + 0 ≤ (500 + 200 * (n9 + 1)) by omega)⟩ (Nat.le_of_ble_eq_true rfl) (Nat.le_of_ble_eq_true rfl) rfl rfl (Nat.le_of_ble_eq_true rfl) (fun r3 d4 => ?_)
    show SS G X 7 _ _ 17 [(3, i9 r1), (0, rf G 46), (1, rf G 51), (2, i9 p2)] [i9 r3] d4 _
    refine r_if_eq C (b := 0) 24 dX4_readFact_17 (by decide) (fun _ => ?_) (fun _ => ?_)
    · refine r_iconst C dX4_readFact_24 ?_
      refine ss_wide (k' := 0) (n' := 0) (Nat.le_of_ble_eq_true rfl) (Nat.le_of_ble_eq_true rfl) ?_
      refine ss_ls [(0, rf G 46), (1, rf G 51), (2, i9 p2), (3, i9 r1)] [1, 2, 3, 0] rfl ?_
      exact s_X4_readFact_46_51_c25 C kF hkF  p2 r1 0 d4
    · refine r_iconst C dX4_readFact_20 ?_
      refine r_goto C 25 dX4_readFact_21 (by decide) ?_
      refine ss_wide (k' := 0) (n' := 0) (Nat.le_of_ble_eq_true rfl) (Nat.le_of_ble_eq_true rfl) ?_
      refine ss_ls [(0, rf G 46), (1, rf G 51), (2, i9 p2), (3, i9 r1)] [1, 2, 3, 0] rfl ?_
      exact s_X4_readFact_46_51_c25 C kF hkF  p2 r1 1 d4
theorem t_X4_readFact_46_51_n {G : G9} (h1 : va_D (A9 G) (wl G (fun _ _ => 0))) : ∀ (n9 : Nat) {l : Launch}, l.stackTraces = false → ∀ (p2 : Int) (d : D9), MT G l yX4_readFact cX4_readFact 7 (z_X4_readFact_46_51 n9) [rf G 46, rf G 51, i9 p2] d (fix9 (fun _ _ => none) (fun k => b_X4_readFact_46_51 k) n9 p2 d)
  | 0, _, _, _, _ => fun r h => nomatch h
  | n9 + 1, _, h2, p2, d => tb_X4_readFact_46_51 h1 n9 _ (t_X4_readFact_46_51_n h1 n9) h2 p2 d
theorem t_X4_readTest_46_51R {G : G9} {l : Launch} (h1 : va_D (A9 G) (wl G (fun _ _ => 0))) (h2 : l.stackTraces = false) (p2 : Int) (d : D9) : MT G l yX4_readTest cX4_readTest 4 (z_X4_readTest_46_51 12) [rf G 46, rf G 51, i9 p2] d (m_X4_readTest_46_51R p2 d) := t_X4_readTest_46_51 h1 12 _ (t_X4_readFact_46_51_n h1 12) h2 p2 d
theorem dX4_readRule_0 : decode cX4_readRule 0 = .ok (.aload_n 0, 1) := by decide +kernel
theorem dX4_readRule_1 : decode cX4_readRule 1 = .ok (.getfield 9, 3) := by decide +kernel
theorem dX4_readRule_4 : decode cX4_readRule 4 = .ok (.iload_n 2, 1) := by decide +kernel
theorem dX4_readRule_5 : decode cX4_readRule 5 = .ok (.aload_n 1, 1) := by decide +kernel
theorem dX4_readRule_6 : decode cX4_readRule 6 = .ok (.bipush 10, 2) := by decide +kernel
theorem dX4_readRule_8 : decode cX4_readRule 8 = .ok (.bipush 12, 2) := by decide +kernel
theorem dX4_readRule_10 : decode cX4_readRule 10 = .ok (.invokevirtual 49, 3) := by decide +kernel
theorem dX4_readRule_13 : decode cX4_readRule 13 = .ok (.bipush 10, 2) := by decide +kernel
theorem dX4_readRule_15 : decode cX4_readRule 15 = .ok (.isub, 1) := by decide +kernel
theorem dX4_readRule_16 : decode cX4_readRule 16 = .ok (.iastore, 1) := by decide +kernel
theorem dX4_readRule_17 : decode cX4_readRule 17 = .ok (.aload_n 0, 1) := by decide +kernel
theorem dX4_readRule_18 : decode cX4_readRule 18 = .ok (.getfield 15, 3) := by decide +kernel
theorem dX4_readRule_21 : decode cX4_readRule 21 = .ok (.iload_n 2, 1) := by decide +kernel
theorem dX4_readRule_22 : decode cX4_readRule 22 = .ok (.aload_n 0, 1) := by decide +kernel
theorem dX4_readRule_23 : decode cX4_readRule 23 = .ok (.getfield 28, 3) := by decide +kernel
theorem dX4_readRule_26 : decode cX4_readRule 26 = .ok (.iastore, 1) := by decide +kernel
theorem dX4_readRule_27 : decode cX4_readRule 27 = .ok (.aload_n 1, 1) := by decide +kernel
theorem dX4_readRule_28 : decode cX4_readRule 28 = .ok (.bipush 9, 2) := by decide +kernel
theorem dX4_readRule_30 : decode cX4_readRule 30 = .ok (.invokevirtual 53, 3) := by decide +kernel
theorem dX4_readRule_33 : decode cX4_readRule 33 = .ok (.ifCond .eq 9, 3) := by decide +kernel
theorem dX4_readRule_36 : decode cX4_readRule 36 = .ok (.aload_n 0, 1) := by decide +kernel
theorem dX4_readRule_37 : decode cX4_readRule 37 = .ok (.aload_n 1, 1) := by decide +kernel
theorem dX4_readRule_38 : decode cX4_readRule 38 = .ok (.iconst 0, 1) := by decide +kernel
theorem dX4_readRule_39 : decode cX4_readRule 39 = .ok (.invokevirtual 57, 3) := by decide +kernel
theorem dX4_readRule_42 : decode cX4_readRule 42 = .ok (.aload_n 0, 1) := by decide +kernel
theorem dX4_readRule_43 : decode cX4_readRule 43 = .ok (.getfield 18, 3) := by decide +kernel
theorem dX4_readRule_46 : decode cX4_readRule 46 = .ok (.iload_n 2, 1) := by decide +kernel
theorem dX4_readRule_47 : decode cX4_readRule 47 = .ok (.aload_n 0, 1) := by decide +kernel
theorem dX4_readRule_48 : decode cX4_readRule 48 = .ok (.getfield 28, 3) := by decide +kernel
theorem dX4_readRule_51 : decode cX4_readRule 51 = .ok (.iastore, 1) := by decide +kernel
theorem dX4_readRule_52 : decode cX4_readRule 52 = .ok (.aload_n 1, 1) := by decide +kernel
theorem dX4_readRule_53 : decode cX4_readRule 53 = .ok (.bipush 59, 2) := by decide +kernel
theorem dX4_readRule_55 : decode cX4_readRule 55 = .ok (.invokevirtual 60, 3) := by decide +kernel
theorem dX4_readRule_58 : decode cX4_readRule 58 = .ok (.return_, 1) := by decide +kernel
abbrev z_X4_readRule_46_51 : Z9 := (none, 0, 0, 0, 65, 3023)
def m_X4_readRule_46_51_c42 (v2 : Int) (d : D9) : Option R9 := sd d 49 12 v2 (d 46 1) (fun d1 => cl (m_X8_needSign_51 59 d1) (fun r2 d3 => rt 0 d3))
def m_X4_readRule_46_51 (p2 : Int) (d : D9) : Option R9 := cl (m_X8_wordAmong_51 10 12 d) (fun r1 d2 => sd d2 47 12 p2 (r1 - 10) (fun d3 => sd d3 48 12 p2 (d3 46 1) (fun d4 => cl (m_X8_takeWord_51 9 d4) (fun r5 d6 => if w32 r5 = 0 then m_X4_readRule_46_51_c42  p2 d6 else cl (m_X4_readTest_46_51R 0 d6) (fun r7 d8 => m_X4_readRule_46_51_c42  p2 d8)))))
set_option maxRecDepth 100000 in
theorem s_X4_readRule_46_51_c42 {G : G9} {X : X9} (C : CX G X cX4_readRule 3 RX4 [] z_X4_readRule_46_51) : ∀ (v2 : Int) (d : D9), SS G X 3 0 0 42 [(0, rf G 46), (1, rf G 51), (2, i9 v2)] [] d (m_X4_readRule_46_51_c42  v2 d) := by
  intro v2 d
  unfold m_X4_readRule_46_51_c42
  refine r_aload_n C 0 dX4_readRule_42 rfl rfl ?_
  refine r_getR C 49 dX4_readRule_43 fl_X4_18 la_46 ly_46 rfl rfl ?_
  refine r_iload_n C 2 dX4_readRule_46 rfl rfl ?_
  refine r_aload_n C 0 dX4_readRule_47 rfl rfl ?_
  refine r_getI C dX4_readRule_48 fl_X4_28 la_46 ly_46 rfl ?_
  refine r_iast C dX4_readRule_51 la_49 ly_49 (fun d1 => ?_)
  refine r_aload_n C 1 dX4_readRule_52 rfl rfl ?_
  refine r_bipush C dX4_readRule_53 rfl ?_
  refine r_callV C [i9 59, rf G 51] dX4_readRule_55 (t_X8_needSign_51 C.h1 C.h2 59 d1) mw_X4_60 mv_X8_needSign la_51 ly_51 rfl (by decide) (by decide) (by decide) rfl rfl (Nat.le_of_ble_eq_true rfl) (fun r2 d3 => ?_)
  show SS G X 3 _ _ 58 [(0, rf G 46), (1, rf G 51), (2, i9 v2)] [] d3 _
  exact r_vret C dX4_readRule_58 (by decide) (by decide)
set_option maxRecDepth 100000 in
theorem t_X4_readRule_46_51 {G : G9} {l : Launch} (h1 : va_D (A9 G) (wl G (fun _ _ => 0))) (h2 : l.stackTraces = false) (p2 : Int) (d : D9) : MT G l yX4_readRule cX4_readRule 3 z_X4_readRule_46_51 [rf G 46, rf G 51, i9 p2] d (m_X4_readRule_46_51 p2 d) := by
  refine mt_of (own := RX4) (by decide) rfl (Nat.le_of_ble_eq_true rfl) h1 h2 [(0, rf G 46), (1, rf G 51), (2, i9 p2)] rfl (fun X hX C => ?_)
  unfold m_X4_readRule_46_51
  refine r_aload_n C 0 dX4_readRule_0 rfl rfl ?_
  refine r_getR C 47 dX4_readRule_1 fl_X4_9 la_46 ly_46 rfl rfl ?_
  refine r_iload_n C 2 dX4_readRule_4 rfl rfl ?_
  refine r_aload_n C 1 dX4_readRule_5 rfl rfl ?_
  refine r_bipush C dX4_readRule_6 rfl ?_
  refine r_bipush C dX4_readRule_8 rfl ?_
  refine r_callV C [i9 12, i9 10, rf G 51, i9 p2, rf G 47] dX4_readRule_10 (t_X8_wordAmong_51 C.h1 C.h2 10 12 d) mw_X4_49 mv_X8_wordAmong la_51 ly_51 rfl (by decide) (by decide) (by decide) rfl rfl (Nat.le_of_ble_eq_true rfl) (fun r1 d2 => ?_)
  show SS G X 3 _ _ 13 [(0, rf G 46), (1, rf G 51), (2, i9 p2)] [i9 r1, i9 p2, rf G 47] d2 _
  refine r_bipush C dX4_readRule_13 rfl ?_
  refine r_isub C dX4_readRule_15 ?_
  refine r_iast C dX4_readRule_16 la_47 ly_47 (fun d3 => ?_)
  refine r_aload_n C 0 dX4_readRule_17 rfl rfl ?_
  refine r_getR C 48 dX4_readRule_18 fl_X4_15 la_46 ly_46 rfl rfl ?_
  refine r_iload_n C 2 dX4_readRule_21 rfl rfl ?_
  refine r_aload_n C 0 dX4_readRule_22 rfl rfl ?_
  refine r_getI C dX4_readRule_23 fl_X4_28 la_46 ly_46 rfl ?_
  refine r_iast C dX4_readRule_26 la_48 ly_48 (fun d4 => ?_)
  refine r_aload_n C 1 dX4_readRule_27 rfl rfl ?_
  refine r_bipush C dX4_readRule_28 rfl ?_
  refine r_callV C [i9 9, rf G 51] dX4_readRule_30 (t_X8_takeWord_51 C.h1 C.h2 9 d4) mw_X4_53 mv_X8_takeWord la_51 ly_51 rfl (by decide) (by decide) (by decide) rfl rfl (Nat.le_of_ble_eq_true rfl) (fun r5 d6 => ?_)
  show SS G X 3 _ _ 33 [(0, rf G 46), (1, rf G 51), (2, i9 p2)] [i9 r5] d6 _
  refine r_if_eq C (b := 0) 42 dX4_readRule_33 (by decide) (fun _ => ?_) (fun _ => ?_)
  · refine ss_wide (k' := 0) (n' := 0) (by decide) (by decide) ?_
    refine ss_ls [(0, rf G 46), (1, rf G 51), (2, i9 p2)] [0, 1, 2] rfl ?_
    exact s_X4_readRule_46_51_c42 C  p2 d6
  · refine r_aload_n C 0 dX4_readRule_36 rfl rfl ?_
    refine r_aload_n C 1 dX4_readRule_37 rfl rfl ?_
    refine r_iconst C dX4_readRule_38 ?_
    refine r_callV C [i9 0, rf G 51, rf G 46] dX4_readRule_39 (t_X4_readTest_46_51R C.h1 C.h2 0 d6) mw_X4_57 mv_X4_readTest la_46 ly_46 rfl (by decide) (by decide) (by decide) rfl rfl (Nat.le_of_ble_eq_true rfl) (fun r7 d8 => ?_)
    show SS G X 3 _ _ 42 [(0, rf G 46), (1, rf G 51), (2, i9 p2)] [] d8 _
    refine ss_wide (k' := 0) (n' := 0) (by decide) (by decide) ?_
    refine ss_ls [(0, rf G 46), (1, rf G 51), (2, i9 p2)] [0, 1, 2] rfl ?_
    exact s_X4_readRule_46_51_c42 C  p2 d8
theorem dX4_readFrom_0 : decode cX4_readFrom 0 = .ok (.aload_n 0, 1) := by decide +kernel
theorem dX4_readFrom_1 : decode cX4_readFrom 1 = .ok (.iconst 0, 1) := by decide +kernel
theorem dX4_readFrom_2 : decode cX4_readFrom 2 = .ok (.putfield 24, 3) := by decide +kernel
theorem dX4_readFrom_5 : decode cX4_readFrom 5 = .ok (.aload_n 0, 1) := by decide +kernel
theorem dX4_readFrom_6 : decode cX4_readFrom 6 = .ok (.iconst 0, 1) := by decide +kernel
theorem dX4_readFrom_7 : decode cX4_readFrom 7 = .ok (.putfield 28, 3) := by decide +kernel
theorem dX4_readFrom_10 : decode cX4_readFrom 10 = .ok (.iconst 0, 1) := by decide +kernel
theorem dX4_readFrom_11 : decode cX4_readFrom 11 = .ok (.istore_n 2, 1) := by decide +kernel
theorem dX4_readFrom_12 : decode cX4_readFrom 12 = .ok (.iload_n 2, 1) := by decide +kernel
theorem dX4_readFrom_13 : decode cX4_readFrom 13 = .ok (.bipush 12, 2) := by decide +kernel
theorem dX4_readFrom_15 : decode cX4_readFrom 15 = .ok (.if_icmp .gt 50, 3) := by decide +kernel
theorem dX4_readFrom_18 : decode cX4_readFrom 18 = .ok (.aload_n 1, 1) := by decide +kernel
theorem dX4_readFrom_19 : decode cX4_readFrom 19 = .ok (.invokevirtual 35, 3) := by decide +kernel
theorem dX4_readFrom_22 : decode cX4_readFrom 22 = .ok (.ifCond .eq 43, 3) := by decide +kernel
theorem dX4_readFrom_25 : decode cX4_readFrom 25 = .ok (.aload_n 1, 1) := by decide +kernel
theorem dX4_readFrom_26 : decode cX4_readFrom 26 = .ok (.bipush 8, 2) := by decide +kernel
theorem dX4_readFrom_28 : decode cX4_readFrom 28 = .ok (.bipush 8, 2) := by decide +kernel
theorem dX4_readFrom_30 : decode cX4_readFrom 30 = .ok (.iload_n 2, 1) := by decide +kernel
theorem dX4_readFrom_31 : decode cX4_readFrom 31 = .ok (.invokevirtual 41, 3) := by decide +kernel
theorem dX4_readFrom_34 : decode cX4_readFrom 34 = .ok (.istore_n 3, 1) := by decide +kernel
theorem dX4_readFrom_35 : decode cX4_readFrom 35 = .ok (.iload_n 3, 1) := by decide +kernel
theorem dX4_readFrom_36 : decode cX4_readFrom 36 = .ok (.iconst (-1), 1) := by decide +kernel
theorem dX4_readFrom_37 : decode cX4_readFrom 37 = .ok (.if_icmp .eq 22, 3) := by decide +kernel
theorem dX4_readFrom_40 : decode cX4_readFrom 40 = .ok (.iload_n 2, 1) := by decide +kernel
theorem dX4_readFrom_41 : decode cX4_readFrom 41 = .ok (.bipush 12, 2) := by decide +kernel
theorem dX4_readFrom_43 : decode cX4_readFrom 43 = .ok (.if_icmp .ge 16, 3) := by decide +kernel
theorem dX4_readFrom_46 : decode cX4_readFrom 46 = .ok (.aload_n 0, 1) := by decide +kernel
theorem dX4_readFrom_47 : decode cX4_readFrom 47 = .ok (.aload_n 1, 1) := by decide +kernel
theorem dX4_readFrom_48 : decode cX4_readFrom 48 = .ok (.iload_n 2, 1) := by decide +kernel
theorem dX4_readFrom_49 : decode cX4_readFrom 49 = .ok (.invokevirtual 45, 3) := by decide +kernel
theorem dX4_readFrom_52 : decode cX4_readFrom 52 = .ok (.aload_n 0, 1) := by decide +kernel
theorem dX4_readFrom_53 : decode cX4_readFrom 53 = .ok (.iload_n 2, 1) := by decide +kernel
theorem dX4_readFrom_54 : decode cX4_readFrom 54 = .ok (.iconst 1, 1) := by decide +kernel
theorem dX4_readFrom_55 : decode cX4_readFrom 55 = .ok (.iadd, 1) := by decide +kernel
theorem dX4_readFrom_56 : decode cX4_readFrom 56 = .ok (.putfield 24, 3) := by decide +kernel
theorem dX4_readFrom_59 : decode cX4_readFrom 59 = .ok (.iinc 2 1, 3) := by decide +kernel
theorem dX4_readFrom_62 : decode cX4_readFrom 62 = .ok (.goto (-50), 3) := by decide +kernel
theorem dX4_readFrom_65 : decode cX4_readFrom 65 = .ok (.return_, 1) := by decide +kernel
abbrev z_X4_readFrom_46_51 : Z9 := (none, 0, 0, 0, 66, 3045)
def b_X4_readFrom_46_51_c12 (k_X4_readFrom_46_51_c12 : Int → D9 → Option R9) (v2 : Int) (d : D9) : Option R9 := if w32 12 < w32 v2 then rt 0 d else cl (m_X8_goesOn_51 d) (fun r1 d2 => if w32 r1 = 0 then rt 0 d2 else cl (m_X8_firstWord_51 8 8 v2 d2) (fun r3 d4 => if w32 r3 = w32 (-1) then k_X4_readFrom_46_51_c12 (v2 + 1) d4 else if w32 12 ≤ w32 v2 then k_X4_readFrom_46_51_c12 (v2 + 1) d4 else cl (m_X4_readRule_46_51 v2 d4) (fun r5 d6 => pf d6 46 0 (v2 + 1) (fun d7 => k_X4_readFrom_46_51_c12 (v2 + 1) d7))))
def m_X4_readFrom_46_51_c12 : Int → D9 → Option R9 := fix9 (fun _ _ => none) (fun k => b_X4_readFrom_46_51_c12 k) FU
def m_X4_readFrom_46_51 (d : D9) : Option R9 := pf d 46 0 0 (fun d1 => pf d1 46 1 0 (fun d2 => m_X4_readFrom_46_51_c12  0 d2))
set_option maxRecDepth 100000 in
theorem sb_X4_readFrom_46_51_c12 {G : G9} {X : X9} (C : CX G X cX4_readFrom 4 RX4 [] z_X4_readFrom_46_51) (k_X4_readFrom_46_51_c12 : Int → D9 → Option R9) (hk_X4_readFrom_46_51_c12 : ∀ (v2 : Int) (d : D9), SS G X 4 0 0 12 [(0, rf G 46), (1, rf G 51), (2, i9 v2)] [] d (k_X4_readFrom_46_51_c12 v2 d)) : ∀ (v2 : Int) (d : D9), SS G X 4 0 0 12 [(0, rf G 46), (1, rf G 51), (2, i9 v2)] [] d (b_X4_readFrom_46_51_c12 k_X4_readFrom_46_51_c12 v2 d) := by
  intro v2 d
  unfold b_X4_readFrom_46_51_c12
  refine r_iload_n C 2 dX4_readFrom_12 rfl rfl ?_
  refine r_bipush C dX4_readFrom_13 rfl ?_
  refine r_icmp_gt C 65 dX4_readFrom_15 (by decide) (fun _ => ?_) (fun _ => ?_)
  · exact r_vret C dX4_readFrom_65 (by decide) (by decide)
  · refine r_aload_n C 1 dX4_readFrom_18 rfl rfl ?_
    refine r_callV C [rf G 51] dX4_readFrom_19 (t_X8_goesOn_51 C.h1 C.h2 d) mw_X4_35 mv_X8_goesOn la_51 ly_51 rfl (by decide) (by decide) (by decide) rfl rfl (Nat.le_of_ble_eq_true rfl) (fun r1 d2 => ?_)
    show SS G X 4 _ _ 22 [(0, rf G 46), (1, rf G 51), (2, i9 v2)] [i9 r1] d2 _
    refine r_if_eq C (b := 0) 65 dX4_readFrom_22 (by decide) (fun _ => ?_) (fun _ => ?_)
    · exact r_vret C dX4_readFrom_65 (by decide) (by decide)
    · refine r_aload_n C 1 dX4_readFrom_25 rfl rfl ?_
      refine r_bipush C dX4_readFrom_26 rfl ?_
      refine r_bipush C dX4_readFrom_28 rfl ?_
      refine r_iload_n C 2 dX4_readFrom_30 rfl rfl ?_
      refine r_callV C [i9 v2, i9 8, i9 8, rf G 51] dX4_readFrom_31 (t_X8_firstWord_51 C.h1 C.h2 8 8 v2 d2) mw_X4_41 mv_X8_firstWord la_51 ly_51 rfl (by decide) (by decide) (by decide) rfl rfl (Nat.le_of_ble_eq_true rfl) (fun r3 d4 => ?_)
      show SS G X 4 _ _ 34 [(0, rf G 46), (1, rf G 51), (2, i9 v2)] [i9 r3] d4 _
      refine r_istore_n C [(3, i9 r3), (0, rf G 46), (1, rf G 51), (2, i9 v2)] dX4_readFrom_34 rfl (by decide) rfl ?_
      refine r_iload_n C 0 dX4_readFrom_35 rfl rfl ?_
      refine r_iconst C dX4_readFrom_36 ?_
      refine r_icmp_eq C 59 dX4_readFrom_37 (by decide) (fun _ => ?_) (fun _ => ?_)
      · refine r_iinc C 3 [(2, i9 (v2 + 1)), (3, i9 r3), (0, rf G 46), (1, rf G 51)] dX4_readFrom_59 rfl (by decide) rfl ?_
        refine r_goto C 12 dX4_readFrom_62 (by decide) ?_
        refine ss_wide (k' := 0) (n' := 0) (by decide) (by decide) ?_
        refine ss_ls [(0, rf G 46), (1, rf G 51), (2, i9 (v2 + 1))] [2, 3, 0] rfl ?_
        exact hk_X4_readFrom_46_51_c12 (v2 + 1) d4
      · refine r_iload_n C 3 dX4_readFrom_40 rfl rfl ?_
        refine r_bipush C dX4_readFrom_41 rfl ?_
        refine r_icmp_ge C 59 dX4_readFrom_43 (by decide) (fun _ => ?_) (fun _ => ?_)
        · refine r_iinc C 3 [(2, i9 (v2 + 1)), (3, i9 r3), (0, rf G 46), (1, rf G 51)] dX4_readFrom_59 rfl (by decide) rfl ?_
          refine r_goto C 12 dX4_readFrom_62 (by decide) ?_
          refine ss_wide (k' := 0) (n' := 0) (by decide) (by decide) ?_
          refine ss_ls [(0, rf G 46), (1, rf G 51), (2, i9 (v2 + 1))] [2, 3, 0] rfl ?_
          exact hk_X4_readFrom_46_51_c12 (v2 + 1) d4
        · refine r_aload_n C 1 dX4_readFrom_46 rfl rfl ?_
          refine r_aload_n C 2 dX4_readFrom_47 rfl rfl ?_
          refine r_iload_n C 3 dX4_readFrom_48 rfl rfl ?_
          refine r_callV C [i9 v2, rf G 51, rf G 46] dX4_readFrom_49 (t_X4_readRule_46_51 C.h1 C.h2 v2 d4) mw_X4_45 mv_X4_readRule la_46 ly_46 rfl (by decide) (by decide) (by decide) rfl rfl (Nat.le_of_ble_eq_true rfl) (fun r5 d6 => ?_)
          show SS G X 4 _ _ 52 [(3, i9 r3), (0, rf G 46), (1, rf G 51), (2, i9 v2)] [] d6 _
          refine r_aload_n C 1 dX4_readFrom_52 rfl rfl ?_
          refine r_iload_n C 3 dX4_readFrom_53 rfl rfl ?_
          refine r_iconst C dX4_readFrom_54 ?_
          refine r_iadd C dX4_readFrom_55 ?_
          refine r_putI C dX4_readFrom_56 fp_X4_24 la_46 ly_46 rfl (fun d7 => ?_)
          refine r_iinc C 3 [(2, i9 (v2 + 1)), (3, i9 r3), (0, rf G 46), (1, rf G 51)] dX4_readFrom_59 rfl (by decide) rfl ?_
          refine r_goto C 12 dX4_readFrom_62 (by decide) ?_
          refine ss_wide (k' := 0) (n' := 0) (by decide) (by decide) ?_
          refine ss_ls [(0, rf G 46), (1, rf G 51), (2, i9 (v2 + 1))] [2, 3, 0] rfl ?_
          exact hk_X4_readFrom_46_51_c12 (v2 + 1) d7
theorem s_X4_readFrom_46_51_c12 {G : G9} {X : X9} (C : CX G X cX4_readFrom 4 RX4 [] z_X4_readFrom_46_51) : ∀ (v2 : Int) (d : D9), SS G X 4 0 0 12 [(0, rf G 46), (1, rf G 51), (2, i9 v2)] [] d (m_X4_readFrom_46_51_c12  v2 d) :=
  fix9_ind (P := fun k => ∀ (v2 : Int) (d : D9), SS G X 4 0 0 12 [(0, rf G 46), (1, rf G 51), (2, i9 v2)] [] d (k v2 d)) (fun _ _ => ss_none) (fun k hk => sb_X4_readFrom_46_51_c12 C k hk) FU
set_option maxRecDepth 100000 in
theorem t_X4_readFrom_46_51 {G : G9} {l : Launch} (h1 : va_D (A9 G) (wl G (fun _ _ => 0))) (h2 : l.stackTraces = false) (d : D9) : MT G l yX4_readFrom cX4_readFrom 4 z_X4_readFrom_46_51 [rf G 46, rf G 51] d (m_X4_readFrom_46_51  d) := by
  refine mt_of (own := RX4) (by decide) rfl (Nat.le_of_ble_eq_true rfl) h1 h2 [(0, rf G 46), (1, rf G 51)] rfl (fun X hX C => ?_)
  unfold m_X4_readFrom_46_51
  refine r_aload_n C 0 dX4_readFrom_0 rfl rfl ?_
  refine r_iconst C dX4_readFrom_1 ?_
  refine r_putI C dX4_readFrom_2 fp_X4_24 la_46 ly_46 rfl (fun d1 => ?_)
  refine r_aload_n C 0 dX4_readFrom_5 rfl rfl ?_
  refine r_iconst C dX4_readFrom_6 ?_
  refine r_putI C dX4_readFrom_7 fp_X4_28 la_46 ly_46 rfl (fun d2 => ?_)
  refine r_iconst C dX4_readFrom_10 ?_
  refine r_istore_n C [(2, i9 0), (0, rf G 46), (1, rf G 51)] dX4_readFrom_11 rfl (by decide) rfl ?_
  refine ss_wide (k' := 0) (n' := 0) (by decide) (by decide) ?_
  refine ss_ls [(0, rf G 46), (1, rf G 51), (2, i9 0)] [1, 2, 0] rfl ?_
  exact s_X4_readFrom_46_51_c12 C  0 d2
abbrev z_X11_copyRow_47_29 : Z9 := (none, 0, 0, 0, 2, 200)
def m_X11_copyRow_47_29 (d : D9) : Option R9 := cp9 d 47 12 29 12 (min9 12 12) (fun d1 => rt 0 d1)
set_option maxRecDepth 100000 in
theorem t_X11_copyRow_47_29 {G : G9} {l : Launch} (h1 : va_D (A9 G) (wl G (fun _ _ => 0))) (h2 : l.stackTraces = false) (d : D9) : MT G l yX11_copyRow cX11_copyRow 2 z_X11_copyRow_47_29 [rf G 47, rf G 29] d (m_X11_copyRow_47_29  d) := by
  refine mt_of (own := RX11) (by decide) rfl (Nat.le_of_ble_eq_true rfl) h1 h2 [(0, rf G 47), (1, rf G 29)] rfl (fun X hX C => ?_)
  unfold m_X11_copyRow_47_29
  refine r_aload_n C 0 dX11_copyRow_0 rfl rfl ?_
  refine r_iconst C dX11_copyRow_1 ?_
  refine r_aload_n C 1 dX11_copyRow_2 rfl rfl ?_
  refine r_iconst C dX11_copyRow_3 ?_
  refine r_aload_n C 0 dX11_copyRow_4 rfl rfl ?_
  refine r_alen C dX11_copyRow_5 la_47 ly_47 ?_
  refine r_aload_n C 1 dX11_copyRow_6 rfl rfl ?_
  refine r_alen C dX11_copyRow_7 la_29 ly_29 ?_
  refine r_mmin C dX11_copyRow_8 mm_X11_465 ⟨Nat.le_of_ble_eq_true rfl, Nat.le_of_ble_eq_true rfl⟩ (by decide) (by decide) ?_
  refine r_acopy C dX11_copyRow_11 aw_X11_470 la_47 ly_47 la_29 ly_29 (by decide) (Nat.le_of_ble_eq_true rfl) (fun d1 => ?_)
  exact r_vret C dX11_copyRow_14 (by decide) (by decide)
theorem n_X11_copyRow_47_29 (d : D9) : NT9 (m_X11_copyRow_47_29  d) := by
  unfold m_X11_copyRow_47_29
  repeat (first | exact nt_rt | exact nt_none | apply nt_if | refine nt_cl ?_ (fun _ _ => ?_) | refine nt_cp9 (fun _ => ?_))
abbrev z_X11_copyRow_48_30 : Z9 := (none, 0, 0, 0, 2, 200)
def m_X11_copyRow_48_30 (d : D9) : Option R9 := cp9 d 48 12 30 12 (min9 12 12) (fun d1 => rt 0 d1)
set_option maxRecDepth 100000 in
theorem t_X11_copyRow_48_30 {G : G9} {l : Launch} (h1 : va_D (A9 G) (wl G (fun _ _ => 0))) (h2 : l.stackTraces = false) (d : D9) : MT G l yX11_copyRow cX11_copyRow 2 z_X11_copyRow_48_30 [rf G 48, rf G 30] d (m_X11_copyRow_48_30  d) := by
  refine mt_of (own := RX11) (by decide) rfl (Nat.le_of_ble_eq_true rfl) h1 h2 [(0, rf G 48), (1, rf G 30)] rfl (fun X hX C => ?_)
  unfold m_X11_copyRow_48_30
  refine r_aload_n C 0 dX11_copyRow_0 rfl rfl ?_
  refine r_iconst C dX11_copyRow_1 ?_
  refine r_aload_n C 1 dX11_copyRow_2 rfl rfl ?_
  refine r_iconst C dX11_copyRow_3 ?_
  refine r_aload_n C 0 dX11_copyRow_4 rfl rfl ?_
  refine r_alen C dX11_copyRow_5 la_48 ly_48 ?_
  refine r_aload_n C 1 dX11_copyRow_6 rfl rfl ?_
  refine r_alen C dX11_copyRow_7 la_30 ly_30 ?_
  refine r_mmin C dX11_copyRow_8 mm_X11_465 ⟨Nat.le_of_ble_eq_true rfl, Nat.le_of_ble_eq_true rfl⟩ (by decide) (by decide) ?_
  refine r_acopy C dX11_copyRow_11 aw_X11_470 la_48 ly_48 la_30 ly_30 (by decide) (Nat.le_of_ble_eq_true rfl) (fun d1 => ?_)
  exact r_vret C dX11_copyRow_14 (by decide) (by decide)
theorem n_X11_copyRow_48_30 (d : D9) : NT9 (m_X11_copyRow_48_30  d) := by
  unfold m_X11_copyRow_48_30
  repeat (first | exact nt_rt | exact nt_none | apply nt_if | refine nt_cl ?_ (fun _ _ => ?_) | refine nt_cp9 (fun _ => ?_))
abbrev z_X11_copyRow_49_31 : Z9 := (none, 0, 0, 0, 2, 200)
def m_X11_copyRow_49_31 (d : D9) : Option R9 := cp9 d 49 12 31 12 (min9 12 12) (fun d1 => rt 0 d1)
set_option maxRecDepth 100000 in
theorem t_X11_copyRow_49_31 {G : G9} {l : Launch} (h1 : va_D (A9 G) (wl G (fun _ _ => 0))) (h2 : l.stackTraces = false) (d : D9) : MT G l yX11_copyRow cX11_copyRow 2 z_X11_copyRow_49_31 [rf G 49, rf G 31] d (m_X11_copyRow_49_31  d) := by
  refine mt_of (own := RX11) (by decide) rfl (Nat.le_of_ble_eq_true rfl) h1 h2 [(0, rf G 49), (1, rf G 31)] rfl (fun X hX C => ?_)
  unfold m_X11_copyRow_49_31
  refine r_aload_n C 0 dX11_copyRow_0 rfl rfl ?_
  refine r_iconst C dX11_copyRow_1 ?_
  refine r_aload_n C 1 dX11_copyRow_2 rfl rfl ?_
  refine r_iconst C dX11_copyRow_3 ?_
  refine r_aload_n C 0 dX11_copyRow_4 rfl rfl ?_
  refine r_alen C dX11_copyRow_5 la_49 ly_49 ?_
  refine r_aload_n C 1 dX11_copyRow_6 rfl rfl ?_
  refine r_alen C dX11_copyRow_7 la_31 ly_31 ?_
  refine r_mmin C dX11_copyRow_8 mm_X11_465 ⟨Nat.le_of_ble_eq_true rfl, Nat.le_of_ble_eq_true rfl⟩ (by decide) (by decide) ?_
  refine r_acopy C dX11_copyRow_11 aw_X11_470 la_49 ly_49 la_31 ly_31 (by decide) (Nat.le_of_ble_eq_true rfl) (fun d1 => ?_)
  exact r_vret C dX11_copyRow_14 (by decide) (by decide)
theorem n_X11_copyRow_49_31 (d : D9) : NT9 (m_X11_copyRow_49_31  d) := by
  unfold m_X11_copyRow_49_31
  repeat (first | exact nt_rt | exact nt_none | apply nt_if | refine nt_cl ?_ (fun _ _ => ?_) | refine nt_cp9 (fun _ => ?_))
abbrev z_X11_copyRow_50_32 : Z9 := (none, 0, 0, 0, 2, 200)
def m_X11_copyRow_50_32 (d : D9) : Option R9 := cp9 d 50 400 32 400 (min9 400 400) (fun d1 => rt 0 d1)
set_option maxRecDepth 100000 in
theorem t_X11_copyRow_50_32 {G : G9} {l : Launch} (h1 : va_D (A9 G) (wl G (fun _ _ => 0))) (h2 : l.stackTraces = false) (d : D9) : MT G l yX11_copyRow cX11_copyRow 2 z_X11_copyRow_50_32 [rf G 50, rf G 32] d (m_X11_copyRow_50_32  d) := by
  refine mt_of (own := RX11) (by decide) rfl (Nat.le_of_ble_eq_true rfl) h1 h2 [(0, rf G 50), (1, rf G 32)] rfl (fun X hX C => ?_)
  unfold m_X11_copyRow_50_32
  refine r_aload_n C 0 dX11_copyRow_0 rfl rfl ?_
  refine r_iconst C dX11_copyRow_1 ?_
  refine r_aload_n C 1 dX11_copyRow_2 rfl rfl ?_
  refine r_iconst C dX11_copyRow_3 ?_
  refine r_aload_n C 0 dX11_copyRow_4 rfl rfl ?_
  refine r_alen C dX11_copyRow_5 la_50 ly_50 ?_
  refine r_aload_n C 1 dX11_copyRow_6 rfl rfl ?_
  refine r_alen C dX11_copyRow_7 la_32 ly_32 ?_
  refine r_mmin C dX11_copyRow_8 mm_X11_465 ⟨Nat.le_of_ble_eq_true rfl, Nat.le_of_ble_eq_true rfl⟩ (by decide) (by decide) ?_
  refine r_acopy C dX11_copyRow_11 aw_X11_470 la_50 ly_50 la_32 ly_32 (by decide) (Nat.le_of_ble_eq_true rfl) (fun d1 => ?_)
  exact r_vret C dX11_copyRow_14 (by decide) (by decide)
theorem n_X11_copyRow_50_32 (d : D9) : NT9 (m_X11_copyRow_50_32  d) := by
  unfold m_X11_copyRow_50_32
  repeat (first | exact nt_rt | exact nt_none | apply nt_if | refine nt_cl ?_ (fun _ _ => ?_) | refine nt_cp9 (fun _ => ?_))
abbrev z_X4_copyFrom_28_46 : Z9 := (none, 0, 0, 0, 3, 221)
def m_X4_copyFrom_28_46 (d : D9) : Option R9 := pf d 28 0 (d 46 0) (fun d1 => pf d1 28 1 (d1 46 1) (fun d2 => cl (m_X11_copyRow_47_29 d2) (fun r3 d4 => cl (m_X11_copyRow_48_30 d4) (fun r5 d6 => cl (m_X11_copyRow_49_31 d6) (fun r7 d8 => cl (m_X11_copyRow_50_32 d8) (fun r9 d10 => rt 0 d10))))))
set_option maxRecDepth 100000 in
theorem t_X4_copyFrom_28_46 {G : G9} {l : Launch} (h1 : va_D (A9 G) (wl G (fun _ _ => 0))) (h2 : l.stackTraces = false) (d : D9) : MT G l yX4_copyFrom cX4_copyFrom 2 z_X4_copyFrom_28_46 [rf G 28, rf G 46] d (m_X4_copyFrom_28_46  d) := by
  refine mt_of (own := RX4) (by decide) rfl (Nat.le_of_ble_eq_true rfl) h1 h2 [(0, rf G 28), (1, rf G 46)] rfl (fun X hX C => ?_)
  unfold m_X4_copyFrom_28_46
  refine r_aload_n C 0 dX4_copyFrom_0 rfl rfl ?_
  refine r_aload_n C 1 dX4_copyFrom_1 rfl rfl ?_
  refine r_getI C dX4_copyFrom_2 fl_X4_24 la_46 ly_46 rfl ?_
  refine r_putI C dX4_copyFrom_5 fp_X4_24 la_28 ly_28 rfl (fun d1 => ?_)
  refine r_aload_n C 0 dX4_copyFrom_8 rfl rfl ?_
  refine r_aload_n C 1 dX4_copyFrom_9 rfl rfl ?_
  refine r_getI C dX4_copyFrom_10 fl_X4_28 la_46 ly_46 rfl ?_
  refine r_putI C dX4_copyFrom_13 fp_X4_28 la_28 ly_28 rfl (fun d2 => ?_)
  refine r_aload_n C 1 dX4_copyFrom_16 rfl rfl ?_
  refine r_getR C 47 dX4_copyFrom_17 fl_X4_9 la_46 ly_46 rfl rfl ?_
  refine r_aload_n C 0 dX4_copyFrom_20 rfl rfl ?_
  refine r_getR C 29 dX4_copyFrom_21 fl_X4_9 la_28 ly_28 rfl rfl ?_
  refine r_callN C [rf G 29, rf G 47] dX4_copyFrom_24 (t_X11_copyRow_47_29 C.h1 C.h2 d2) (n_X11_copyRow_47_29 d2) mn_X4_31 ms_X11_copyRow (by decide) (by decide) (by decide) rfl rfl (Nat.le_of_ble_eq_true rfl) (fun r3 d4 => ?_)
  show SS G X 2 _ _ 27 [(0, rf G 28), (1, rf G 46)] [] d4 _
  refine r_aload_n C 1 dX4_copyFrom_27 rfl rfl ?_
  refine r_getR C 48 dX4_copyFrom_28 fl_X4_15 la_46 ly_46 rfl rfl ?_
  refine r_aload_n C 0 dX4_copyFrom_31 rfl rfl ?_
  refine r_getR C 30 dX4_copyFrom_32 fl_X4_15 la_28 ly_28 rfl rfl ?_
  refine r_callN C [rf G 30, rf G 48] dX4_copyFrom_35 (t_X11_copyRow_48_30 C.h1 C.h2 d4) (n_X11_copyRow_48_30 d4) mn_X4_31 ms_X11_copyRow (by decide) (by decide) (by decide) rfl rfl (Nat.le_of_ble_eq_true rfl) (fun r5 d6 => ?_)
  show SS G X 2 _ _ 38 [(0, rf G 28), (1, rf G 46)] [] d6 _
  refine r_aload_n C 1 dX4_copyFrom_38 rfl rfl ?_
  refine r_getR C 49 dX4_copyFrom_39 fl_X4_18 la_46 ly_46 rfl rfl ?_
  refine r_aload_n C 0 dX4_copyFrom_42 rfl rfl ?_
  refine r_getR C 31 dX4_copyFrom_43 fl_X4_18 la_28 ly_28 rfl rfl ?_
  refine r_callN C [rf G 31, rf G 49] dX4_copyFrom_46 (t_X11_copyRow_49_31 C.h1 C.h2 d6) (n_X11_copyRow_49_31 d6) mn_X4_31 ms_X11_copyRow (by decide) (by decide) (by decide) rfl rfl (Nat.le_of_ble_eq_true rfl) (fun r7 d8 => ?_)
  show SS G X 2 _ _ 49 [(0, rf G 28), (1, rf G 46)] [] d8 _
  refine r_aload_n C 1 dX4_copyFrom_49 rfl rfl ?_
  refine r_getR C 50 dX4_copyFrom_50 fl_X4_21 la_46 ly_46 rfl rfl ?_
  refine r_aload_n C 0 dX4_copyFrom_53 rfl rfl ?_
  refine r_getR C 32 dX4_copyFrom_54 fl_X4_21 la_28 ly_28 rfl rfl ?_
  refine r_callN C [rf G 32, rf G 50] dX4_copyFrom_57 (t_X11_copyRow_50_32 C.h1 C.h2 d8) (n_X11_copyRow_50_32 d8) mn_X4_31 ms_X11_copyRow (by decide) (by decide) (by decide) rfl rfl (Nat.le_of_ble_eq_true rfl) (fun r9 d10 => ?_)
  show SS G X 2 _ _ 60 [(0, rf G 28), (1, rf G 46)] [] d10 _
  exact r_vret C dX4_copyFrom_60 (by decide) (by decide)
theorem dX11_scrapers_0 : decode cX11_scrapers 0 = .ok (.iload_n 1, 1) := by decide +kernel
theorem dX11_scrapers_1 : decode cX11_scrapers 1 = .ok (.iconst 0, 1) := by decide +kernel
theorem dX11_scrapers_2 : decode cX11_scrapers 2 = .ok (.aload_n 0, 1) := by decide +kernel
theorem dX11_scrapers_3 : decode cX11_scrapers 3 = .ok (.getfield 48, 3) := by decide +kernel
theorem dX11_scrapers_6 : decode cX11_scrapers 6 = .ok (.getfield 159, 3) := by decide +kernel
theorem dX11_scrapers_9 : decode cX11_scrapers 9 = .ok (.invokestatic 73, 3) := by decide +kernel
theorem dX11_scrapers_12 : decode cX11_scrapers 12 = .ok (.aload_n 0, 1) := by decide +kernel
theorem dX11_scrapers_13 : decode cX11_scrapers 13 = .ok (.getfield 48, 3) := by decide +kernel
theorem dX11_scrapers_16 : decode cX11_scrapers 16 = .ok (.iload_n 1, 1) := by decide +kernel
theorem dX11_scrapers_17 : decode cX11_scrapers 17 = .ok (.invokevirtual 166, 3) := by decide +kernel
theorem dX11_scrapers_20 : decode cX11_scrapers 20 = .ok (.aload_n 0, 1) := by decide +kernel
theorem dX11_scrapers_21 : decode cX11_scrapers 21 = .ok (.getfield 41, 3) := by decide +kernel
theorem dX11_scrapers_24 : decode cX11_scrapers 24 = .ok (.aload_n 0, 1) := by decide +kernel
theorem dX11_scrapers_25 : decode cX11_scrapers 25 = .ok (.getfield 48, 3) := by decide +kernel
theorem dX11_scrapers_28 : decode cX11_scrapers 28 = .ok (.invokevirtual 202, 3) := by decide +kernel
theorem dX11_scrapers_31 : decode cX11_scrapers 31 = .ok (.aload_n 0, 1) := by decide +kernel
theorem dX11_scrapers_32 : decode cX11_scrapers 32 = .ok (.getfield 48, 3) := by decide +kernel
theorem dX11_scrapers_35 : decode cX11_scrapers 35 = .ok (.invokevirtual 173, 3) := by decide +kernel
theorem dX11_scrapers_38 : decode cX11_scrapers 38 = .ok (.ifCond .eq 14, 3) := by decide +kernel
theorem dX11_scrapers_41 : decode cX11_scrapers 41 = .ok (.bipush (-10), 2) := by decide +kernel
theorem dX11_scrapers_43 : decode cX11_scrapers 43 = .ok (.aload_n 0, 1) := by decide +kernel
theorem dX11_scrapers_44 : decode cX11_scrapers 44 = .ok (.getfield 48, 3) := by decide +kernel
theorem dX11_scrapers_47 : decode cX11_scrapers 47 = .ok (.getfield 177, 3) := by decide +kernel
theorem dX11_scrapers_50 : decode cX11_scrapers 50 = .ok (.isub, 1) := by decide +kernel
theorem dX11_scrapers_51 : decode cX11_scrapers 51 = .ok (.ireturn, 1) := by decide +kernel
theorem dX11_scrapers_52 : decode cX11_scrapers 52 = .ok (.aload_n 0, 1) := by decide +kernel
theorem dX11_scrapers_53 : decode cX11_scrapers 53 = .ok (.getfield 10, 3) := by decide +kernel
theorem dX11_scrapers_56 : decode cX11_scrapers 56 = .ok (.getfield 203, 3) := by decide +kernel
theorem dX11_scrapers_59 : decode cX11_scrapers 59 = .ok (.aload_n 0, 1) := by decide +kernel
theorem dX11_scrapers_60 : decode cX11_scrapers 60 = .ok (.getfield 41, 3) := by decide +kernel
theorem dX11_scrapers_63 : decode cX11_scrapers 63 = .ok (.invokevirtual 206, 3) := by decide +kernel
theorem dX11_scrapers_66 : decode cX11_scrapers 66 = .ok (.aload_n 0, 1) := by decide +kernel
theorem dX11_scrapers_67 : decode cX11_scrapers 67 = .ok (.getfield 10, 3) := by decide +kernel
theorem dX11_scrapers_70 : decode cX11_scrapers 70 = .ok (.getfield 203, 3) := by decide +kernel
theorem dX11_scrapers_73 : decode cX11_scrapers 73 = .ok (.getfield 209, 3) := by decide +kernel
theorem dX11_scrapers_76 : decode cX11_scrapers 76 = .ok (.ireturn, 1) := by decide +kernel
abbrev z_X11_scrapers_0 : Z9 := (some .int, 1, 1, 6, 67, 3068)
def m_X11_scrapers_0 (p1 : Int) (d : D9) : Option R9 := cl (m_X11_askWithin p1 0 (d 51 1) d) (fun r1 d2 => cl (m_X8_begin_51 p1 d2) (fun r3 d4 => cl (m_X4_readFrom_46_51 d4) (fun r5 d6 => cl (m_X8_failed_51 d6) (fun r7 d8 => if w32 r7 = 0 then cl (m_X4_copyFrom_28_46 d8) (fun r9 d10 => rt (d10 28 0) d10) else rt ((-10) - (d8 51 2)) d8))))
set_option maxRecDepth 100000 in
theorem t_X11_scrapers_0 {G : G9} {l : Launch} (h1 : va_D (A9 G) (wl G (fun _ _ => 0))) (h2 : l.stackTraces = false) (p1 : Int) (d : D9) : MT G l yX11_scrapers cX11_scrapers 2 z_X11_scrapers_0 [rf G 0, i9 p1] d (m_X11_scrapers_0 p1 d) := by
  refine mt_of (own := RX11) (by decide) rfl (Nat.le_of_ble_eq_true rfl) h1 h2 [(0, rf G 0), (1, i9 p1)] rfl (fun X hX C => ?_)
  unfold m_X11_scrapers_0
  refine r_iload_n C 1 dX11_scrapers_0 rfl rfl ?_
  refine r_iconst C dX11_scrapers_1 ?_
  refine r_aload_n C 0 dX11_scrapers_2 rfl rfl ?_
  refine r_getR C 51 dX11_scrapers_3 fl_X11_48 la_0 ly_0 rfl rfl ?_
  refine r_getI C dX11_scrapers_6 fl_X11_159 la_51 ly_51 rfl ?_
  refine r_callS C [i9 (d 51 1), i9 0, i9 p1] dX11_scrapers_9 (t_X11_askWithin C.h1 C.h2 p1 0 (d 51 1) d) mw_X11_73 ms_X11_askWithin (by decide) (by decide) (by decide) rfl rfl (Nat.le_of_ble_eq_true rfl) (fun r1 d2 => ?_)
  show SS G X 2 _ _ 12 [(0, rf G 0), (1, i9 p1)] [] d2 _
  refine r_aload_n C 0 dX11_scrapers_12 rfl rfl ?_
  refine r_getR C 51 dX11_scrapers_13 fl_X11_48 la_0 ly_0 rfl rfl ?_
  refine r_iload_n C 1 dX11_scrapers_16 rfl rfl ?_
  refine r_callV C [i9 p1, rf G 51] dX11_scrapers_17 (t_X8_begin_51 C.h1 C.h2 p1 d2) mw_X11_166 mv_X8_begin la_51 ly_51 rfl (by decide) (by decide) (by decide) rfl rfl (Nat.le_of_ble_eq_true rfl) (fun r3 d4 => ?_)
  show SS G X 2 _ _ 20 [(0, rf G 0), (1, i9 p1)] [] d4 _
  refine r_aload_n C 0 dX11_scrapers_20 rfl rfl ?_
  refine r_getR C 46 dX11_scrapers_21 fl_X11_41 la_0 ly_0 rfl rfl ?_
  refine r_aload_n C 0 dX11_scrapers_24 rfl rfl ?_
  refine r_getR C 51 dX11_scrapers_25 fl_X11_48 la_0 ly_0 rfl rfl ?_
  refine r_callV C [rf G 51, rf G 46] dX11_scrapers_28 (t_X4_readFrom_46_51 C.h1 C.h2 d4) mw_X11_202 mv_X4_readFrom la_46 ly_46 rfl (by decide) (by decide) (by decide) rfl rfl (Nat.le_of_ble_eq_true rfl) (fun r5 d6 => ?_)
  show SS G X 2 _ _ 31 [(0, rf G 0), (1, i9 p1)] [] d6 _
  refine r_aload_n C 0 dX11_scrapers_31 rfl rfl ?_
  refine r_getR C 51 dX11_scrapers_32 fl_X11_48 la_0 ly_0 rfl rfl ?_
  refine r_callV C [rf G 51] dX11_scrapers_35 (t_X8_failed_51 C.h1 C.h2 d6) mw_X11_173 mv_X8_failed la_51 ly_51 rfl (by decide) (by decide) (by decide) rfl rfl (Nat.le_of_ble_eq_true rfl) (fun r7 d8 => ?_)
  show SS G X 2 _ _ 38 [(0, rf G 0), (1, i9 p1)] [i9 r7] d8 _
  refine r_if_eq C (b := 0) 52 dX11_scrapers_38 (by decide) (fun _ => ?_) (fun _ => ?_)
  · refine r_aload_n C 0 dX11_scrapers_52 rfl rfl ?_
    refine r_getR C 1 dX11_scrapers_53 fl_X11_10 la_0 ly_0 rfl rfl ?_
    refine r_getR C 28 dX11_scrapers_56 fl_X11_203 la_1 ly_1 rfl rfl ?_
    refine r_aload_n C 0 dX11_scrapers_59 rfl rfl ?_
    refine r_getR C 46 dX11_scrapers_60 fl_X11_41 la_0 ly_0 rfl rfl ?_
    refine r_callV C [rf G 46, rf G 28] dX11_scrapers_63 (t_X4_copyFrom_28_46 C.h1 C.h2 d8) mw_X11_206 mv_X4_copyFrom la_28 ly_28 rfl (by decide) (by decide) (by decide) rfl rfl (Nat.le_of_ble_eq_true rfl) (fun r9 d10 => ?_)
    show SS G X 2 _ _ 66 [(0, rf G 0), (1, i9 p1)] [] d10 _
    refine r_aload_n C 0 dX11_scrapers_66 rfl rfl ?_
    refine r_getR C 1 dX11_scrapers_67 fl_X11_10 la_0 ly_0 rfl rfl ?_
    refine r_getR C 28 dX11_scrapers_70 fl_X11_203 la_1 ly_1 rfl rfl ?_
    refine r_getI C dX11_scrapers_73 fl_X11_209 la_28 ly_28 rfl ?_
    exact r_iret C dX11_scrapers_76 (by decide) (by decide)
  · refine r_bipush C dX11_scrapers_41 rfl ?_
    refine r_aload_n C 0 dX11_scrapers_43 rfl rfl ?_
    refine r_getR C 51 dX11_scrapers_44 fl_X11_48 la_0 ly_0 rfl rfl ?_
    refine r_getI C dX11_scrapers_47 fl_X11_177 la_51 ly_51 rfl ?_
    refine r_isub C dX11_scrapers_50 ?_
    exact r_iret C dX11_scrapers_51 (by decide) (by decide)
theorem dX6_add_0 : decode cX6_add 0 = .ok (.aload_n 0, 1) := by decide +kernel
theorem dX6_add_1 : decode cX6_add 1 = .ok (.getfield 48, 3) := by decide +kernel
theorem dX6_add_4 : decode cX6_add 4 = .ok (.bipush 30, 2) := by decide +kernel
theorem dX6_add_6 : decode cX6_add 6 = .ok (.if_icmp .lt 5, 3) := by decide +kernel
theorem dX6_add_9 : decode cX6_add 9 = .ok (.iconst (-1), 1) := by decide +kernel
theorem dX6_add_10 : decode cX6_add 10 = .ok (.ireturn, 1) := by decide +kernel
theorem dX6_add_11 : decode cX6_add 11 = .ok (.aload_n 0, 1) := by decide +kernel
theorem dX6_add_12 : decode cX6_add 12 = .ok (.getfield 9, 3) := by decide +kernel
theorem dX6_add_15 : decode cX6_add 15 = .ok (.aload_n 0, 1) := by decide +kernel
theorem dX6_add_16 : decode cX6_add 16 = .ok (.getfield 48, 3) := by decide +kernel
theorem dX6_add_19 : decode cX6_add 19 = .ok (.iload_n 1, 1) := by decide +kernel
theorem dX6_add_20 : decode cX6_add 20 = .ok (.iastore, 1) := by decide +kernel
theorem dX6_add_21 : decode cX6_add 21 = .ok (.aload_n 0, 1) := by decide +kernel
theorem dX6_add_22 : decode cX6_add 22 = .ok (.getfield 15, 3) := by decide +kernel
theorem dX6_add_25 : decode cX6_add 25 = .ok (.aload_n 0, 1) := by decide +kernel
theorem dX6_add_26 : decode cX6_add 26 = .ok (.getfield 48, 3) := by decide +kernel
theorem dX6_add_29 : decode cX6_add 29 = .ok (.iload_n 2, 1) := by decide +kernel
theorem dX6_add_30 : decode cX6_add 30 = .ok (.iastore, 1) := by decide +kernel
theorem dX6_add_31 : decode cX6_add 31 = .ok (.aload_n 0, 1) := by decide +kernel
theorem dX6_add_32 : decode cX6_add 32 = .ok (.getfield 18, 3) := by decide +kernel
theorem dX6_add_35 : decode cX6_add 35 = .ok (.aload_n 0, 1) := by decide +kernel
theorem dX6_add_36 : decode cX6_add 36 = .ok (.getfield 48, 3) := by decide +kernel
theorem dX6_add_39 : decode cX6_add 39 = .ok (.iload_n 3, 1) := by decide +kernel
theorem dX6_add_40 : decode cX6_add 40 = .ok (.iastore, 1) := by decide +kernel
theorem dX6_add_41 : decode cX6_add 41 = .ok (.aload_n 0, 1) := by decide +kernel
theorem dX6_add_42 : decode cX6_add 42 = .ok (.getfield 21, 3) := by decide +kernel
theorem dX6_add_45 : decode cX6_add 45 = .ok (.aload_n 0, 1) := by decide +kernel
theorem dX6_add_46 : decode cX6_add 46 = .ok (.getfield 48, 3) := by decide +kernel
theorem dX6_add_49 : decode cX6_add 49 = .ok (.iload 4, 2) := by decide +kernel
theorem dX6_add_51 : decode cX6_add 51 = .ok (.iastore, 1) := by decide +kernel
theorem dX6_add_52 : decode cX6_add 52 = .ok (.aload_n 0, 1) := by decide +kernel
theorem dX6_add_53 : decode cX6_add 53 = .ok (.getfield 24, 3) := by decide +kernel
theorem dX6_add_56 : decode cX6_add 56 = .ok (.aload_n 0, 1) := by decide +kernel
theorem dX6_add_57 : decode cX6_add 57 = .ok (.getfield 48, 3) := by decide +kernel
theorem dX6_add_60 : decode cX6_add 60 = .ok (.iconst 0, 1) := by decide +kernel
theorem dX6_add_61 : decode cX6_add 61 = .ok (.iastore, 1) := by decide +kernel
theorem dX6_add_62 : decode cX6_add 62 = .ok (.aload_n 0, 1) := by decide +kernel
theorem dX6_add_63 : decode cX6_add 63 = .ok (.getfield 27, 3) := by decide +kernel
theorem dX6_add_66 : decode cX6_add 66 = .ok (.aload_n 0, 1) := by decide +kernel
theorem dX6_add_67 : decode cX6_add 67 = .ok (.getfield 48, 3) := by decide +kernel
theorem dX6_add_70 : decode cX6_add 70 = .ok (.iconst 0, 1) := by decide +kernel
theorem dX6_add_71 : decode cX6_add 71 = .ok (.iastore, 1) := by decide +kernel
theorem dX6_add_72 : decode cX6_add 72 = .ok (.aload_n 0, 1) := by decide +kernel
theorem dX6_add_73 : decode cX6_add 73 = .ok (.getfield 30, 3) := by decide +kernel
theorem dX6_add_76 : decode cX6_add 76 = .ok (.aload_n 0, 1) := by decide +kernel
theorem dX6_add_77 : decode cX6_add 77 = .ok (.getfield 48, 3) := by decide +kernel
theorem dX6_add_80 : decode cX6_add 80 = .ok (.iconst (-1), 1) := by decide +kernel
theorem dX6_add_81 : decode cX6_add 81 = .ok (.iastore, 1) := by decide +kernel
theorem dX6_add_82 : decode cX6_add 82 = .ok (.aload_n 0, 1) := by decide +kernel
theorem dX6_add_83 : decode cX6_add 83 = .ok (.dup, 1) := by decide +kernel
theorem dX6_add_84 : decode cX6_add 84 = .ok (.getfield 48, 3) := by decide +kernel
theorem dX6_add_87 : decode cX6_add 87 = .ok (.iconst 1, 1) := by decide +kernel
theorem dX6_add_88 : decode cX6_add 88 = .ok (.iadd, 1) := by decide +kernel
theorem dX6_add_89 : decode cX6_add 89 = .ok (.putfield 48, 3) := by decide +kernel
theorem dX6_add_92 : decode cX6_add 92 = .ok (.aload_n 0, 1) := by decide +kernel
theorem dX6_add_93 : decode cX6_add 93 = .ok (.getfield 48, 3) := by decide +kernel
theorem dX6_add_96 : decode cX6_add 96 = .ok (.iconst 1, 1) := by decide +kernel
theorem dX6_add_97 : decode cX6_add 97 = .ok (.isub, 1) := by decide +kernel
theorem dX6_add_98 : decode cX6_add 98 = .ok (.ireturn, 1) := by decide +kernel
abbrev z_X6_add_9 : Z9 := (some .int, 1, 0, 0, 1, 0)
def m_X6_add_9 (p1 p2 p3 p4 : Int) (d : D9) : Option R9 := if w32 (d 9 0) < w32 30 then sd d 10 30 (d 9 0) p1 (fun d1 => sd d1 11 30 (d1 9 0) p2 (fun d2 => sd d2 12 30 (d2 9 0) p3 (fun d3 => sd d3 13 30 (d3 9 0) p4 (fun d4 => sd d4 14 30 (d4 9 0) 0 (fun d5 => sd d5 15 30 (d5 9 0) 0 (fun d6 => sd d6 16 30 (d6 9 0) (-1) (fun d7 => pf d7 9 0 ((d7 9 0) + 1) (fun d8 => rt ((d8 9 0) - 1) d8)))))))) else rt (-1) d
set_option maxRecDepth 100000 in
theorem t_X6_add_9 {G : G9} {l : Launch} (h1 : va_D (A9 G) (wl G (fun _ _ => 0))) (h2 : l.stackTraces = false) (p1 p2 p3 p4 : Int) (d : D9) : MT G l yX6_add cX6_add 5 z_X6_add_9 [rf G 9, i9 p1, i9 p2, i9 p3, i9 p4] d (m_X6_add_9 p1 p2 p3 p4 d) := by
  refine mt_of (own := RX6) (by decide) rfl (Nat.le_of_ble_eq_true rfl) h1 h2 [(0, rf G 9), (1, i9 p1), (2, i9 p2), (3, i9 p3), (4, i9 p4)] rfl (fun X hX C => ?_)
  unfold m_X6_add_9
  refine r_aload_n C 0 dX6_add_0 rfl rfl ?_
  refine r_getI C dX6_add_1 fl_X6_48 la_9 ly_9 rfl ?_
  refine r_bipush C dX6_add_4 rfl ?_
  refine r_icmp_lt C 11 dX6_add_6 (by decide) (fun _ => ?_) (fun _ => ?_)
  · refine r_aload_n C 0 dX6_add_11 rfl rfl ?_
    refine r_getR C 10 dX6_add_12 fl_X6_9 la_9 ly_9 rfl rfl ?_
    refine r_aload_n C 0 dX6_add_15 rfl rfl ?_
    refine r_getI C dX6_add_16 fl_X6_48 la_9 ly_9 rfl ?_
    refine r_iload_n C 1 dX6_add_19 rfl rfl ?_
    refine r_iast C dX6_add_20 la_10 ly_10 (fun d1 => ?_)
    refine r_aload_n C 0 dX6_add_21 rfl rfl ?_
    refine r_getR C 11 dX6_add_22 fl_X6_15 la_9 ly_9 rfl rfl ?_
    refine r_aload_n C 0 dX6_add_25 rfl rfl ?_
    refine r_getI C dX6_add_26 fl_X6_48 la_9 ly_9 rfl ?_
    refine r_iload_n C 2 dX6_add_29 rfl rfl ?_
    refine r_iast C dX6_add_30 la_11 ly_11 (fun d2 => ?_)
    refine r_aload_n C 0 dX6_add_31 rfl rfl ?_
    refine r_getR C 12 dX6_add_32 fl_X6_18 la_9 ly_9 rfl rfl ?_
    refine r_aload_n C 0 dX6_add_35 rfl rfl ?_
    refine r_getI C dX6_add_36 fl_X6_48 la_9 ly_9 rfl ?_
    refine r_iload_n C 3 dX6_add_39 rfl rfl ?_
    refine r_iast C dX6_add_40 la_12 ly_12 (fun d3 => ?_)
    refine r_aload_n C 0 dX6_add_41 rfl rfl ?_
    refine r_getR C 13 dX6_add_42 fl_X6_21 la_9 ly_9 rfl rfl ?_
    refine r_aload_n C 0 dX6_add_45 rfl rfl ?_
    refine r_getI C dX6_add_46 fl_X6_48 la_9 ly_9 rfl ?_
    refine r_iload C 4 dX6_add_49 rfl ?_
    refine r_iast C dX6_add_51 la_13 ly_13 (fun d4 => ?_)
    refine r_aload_n C 0 dX6_add_52 rfl rfl ?_
    refine r_getR C 14 dX6_add_53 fl_X6_24 la_9 ly_9 rfl rfl ?_
    refine r_aload_n C 0 dX6_add_56 rfl rfl ?_
    refine r_getI C dX6_add_57 fl_X6_48 la_9 ly_9 rfl ?_
    refine r_iconst C dX6_add_60 ?_
    refine r_iast C dX6_add_61 la_14 ly_14 (fun d5 => ?_)
    refine r_aload_n C 0 dX6_add_62 rfl rfl ?_
    refine r_getR C 15 dX6_add_63 fl_X6_27 la_9 ly_9 rfl rfl ?_
    refine r_aload_n C 0 dX6_add_66 rfl rfl ?_
    refine r_getI C dX6_add_67 fl_X6_48 la_9 ly_9 rfl ?_
    refine r_iconst C dX6_add_70 ?_
    refine r_iast C dX6_add_71 la_15 ly_15 (fun d6 => ?_)
    refine r_aload_n C 0 dX6_add_72 rfl rfl ?_
    refine r_getR C 16 dX6_add_73 fl_X6_30 la_9 ly_9 rfl rfl ?_
    refine r_aload_n C 0 dX6_add_76 rfl rfl ?_
    refine r_getI C dX6_add_77 fl_X6_48 la_9 ly_9 rfl ?_
    refine r_iconst C dX6_add_80 ?_
    refine r_iast C dX6_add_81 la_16 ly_16 (fun d7 => ?_)
    refine r_aload_n C 0 dX6_add_82 rfl rfl ?_
    refine r_dup C dX6_add_83 rfl ?_
    refine r_getI C dX6_add_84 fl_X6_48 la_9 ly_9 rfl ?_
    refine r_iconst C dX6_add_87 ?_
    refine r_iadd C dX6_add_88 ?_
    refine r_putI C dX6_add_89 fp_X6_48 la_9 ly_9 rfl (fun d8 => ?_)
    refine r_aload_n C 0 dX6_add_92 rfl rfl ?_
    refine r_getI C dX6_add_93 fl_X6_48 la_9 ly_9 rfl ?_
    refine r_iconst C dX6_add_96 ?_
    refine r_isub C dX6_add_97 ?_
    exact r_iret C dX6_add_98 (by decide) (by decide)
  · refine r_iconst C dX6_add_9 ?_
    exact r_iret C dX6_add_10 (by decide) (by decide)
theorem dX11_skin_0 : decode cX11_skin 0 = .ok (.iload_n 2, 1) := by decide +kernel
theorem dX11_skin_1 : decode cX11_skin 1 = .ok (.iconst 1, 1) := by decide +kernel
theorem dX11_skin_2 : decode cX11_skin 2 = .ok (.if_icmp .eq 8, 3) := by decide +kernel
theorem dX11_skin_5 : decode cX11_skin 5 = .ok (.iload_n 2, 1) := by decide +kernel
theorem dX11_skin_6 : decode cX11_skin 6 = .ok (.iconst 2, 1) := by decide +kernel
theorem dX11_skin_7 : decode cX11_skin 7 = .ok (.if_icmp .ne 7, 3) := by decide +kernel
theorem dX11_skin_10 : decode cX11_skin 10 = .ok (.iconst 1, 1) := by decide +kernel
theorem dX11_skin_11 : decode cX11_skin 11 = .ok (.goto 4, 3) := by decide +kernel
theorem dX11_skin_14 : decode cX11_skin 14 = .ok (.iconst 0, 1) := by decide +kernel
theorem dX11_skin_15 : decode cX11_skin 15 = .ok (.istore 5, 2) := by decide +kernel
theorem dX11_skin_17 : decode cX11_skin 17 = .ok (.iload 5, 2) := by decide +kernel
theorem dX11_skin_19 : decode cX11_skin 19 = .ok (.ifCond .eq 8, 3) := by decide +kernel
theorem dX11_skin_22 : decode cX11_skin 22 = .ok (.aload_n 0, 1) := by decide +kernel
theorem dX11_skin_23 : decode cX11_skin 23 = .ok (.iload_n 3, 1) := by decide +kernel
theorem dX11_skin_24 : decode cX11_skin 24 = .ok (.invokevirtual 103, 3) := by decide +kernel
theorem dX11_skin_27 : decode cX11_skin 27 = .ok (.iload_n 1, 1) := by decide +kernel
theorem dX11_skin_28 : decode cX11_skin 28 = .ok (.iconst 0, 1) := by decide +kernel
theorem dX11_skin_29 : decode cX11_skin 29 = .ok (.iconst 5, 1) := by decide +kernel
theorem dX11_skin_30 : decode cX11_skin 30 = .ok (.invokestatic 73, 3) := by decide +kernel
theorem dX11_skin_33 : decode cX11_skin 33 = .ok (.iload_n 2, 1) := by decide +kernel
theorem dX11_skin_34 : decode cX11_skin 34 = .ok (.iconst 0, 1) := by decide +kernel
theorem dX11_skin_35 : decode cX11_skin 35 = .ok (.iconst 2, 1) := by decide +kernel
theorem dX11_skin_36 : decode cX11_skin 36 = .ok (.invokestatic 73, 3) := by decide +kernel
theorem dX11_skin_39 : decode cX11_skin 39 = .ok (.iload 4, 2) := by decide +kernel
theorem dX11_skin_41 : decode cX11_skin 41 = .ok (.iconst 1, 1) := by decide +kernel
theorem dX11_skin_42 : decode cX11_skin 42 = .ok (.bipush 99, 2) := by decide +kernel
theorem dX11_skin_44 : decode cX11_skin 44 = .ok (.invokestatic 73, 3) := by decide +kernel
theorem dX11_skin_47 : decode cX11_skin 47 = .ok (.iload 5, 2) := by decide +kernel
theorem dX11_skin_49 : decode cX11_skin 49 = .ok (.ifCond .eq 29, 3) := by decide +kernel
theorem dX11_skin_52 : decode cX11_skin 52 = .ok (.aload_n 0, 1) := by decide +kernel
theorem dX11_skin_53 : decode cX11_skin 53 = .ok (.getfield 10, 3) := by decide +kernel
theorem dX11_skin_56 : decode cX11_skin 56 = .ok (.getfield 77, 3) := by decide +kernel
theorem dX11_skin_59 : decode cX11_skin 59 = .ok (.getfield 106, 3) := by decide +kernel
theorem dX11_skin_62 : decode cX11_skin 62 = .ok (.iload_n 3, 1) := by decide +kernel
theorem dX11_skin_63 : decode cX11_skin 63 = .ok (.iaload, 1) := by decide +kernel
theorem dX11_skin_64 : decode cX11_skin 64 = .ok (.iload_n 1, 1) := by decide +kernel
theorem dX11_skin_65 : decode cX11_skin 65 = .ok (.if_icmp .eq 13, 3) := by decide +kernel
theorem dX11_skin_68 : decode cX11_skin 68 = .ok (.new 109, 3) := by decide +kernel
theorem dX11_skin_71 : decode cX11_skin 71 = .ok (.dup, 1) := by decide +kernel
theorem dX11_skin_72 : decode cX11_skin 72 = .ok (.ldc 120, 2) := by decide +kernel
theorem dX11_skin_74 : decode cX11_skin 74 = .ok (.invokespecial 113, 3) := by decide +kernel
theorem dX11_skin_77 : decode cX11_skin 77 = .ok (.athrow, 1) := by decide +kernel
theorem dX11_skin_78 : decode cX11_skin 78 = .ok (.aload_n 0, 1) := by decide +kernel
theorem dX11_skin_79 : decode cX11_skin 79 = .ok (.getfield 10, 3) := by decide +kernel
theorem dX11_skin_82 : decode cX11_skin 82 = .ok (.getfield 122, 3) := by decide +kernel
theorem dX11_skin_85 : decode cX11_skin 85 = .ok (.iload_n 1, 1) := by decide +kernel
theorem dX11_skin_86 : decode cX11_skin 86 = .ok (.iload_n 2, 1) := by decide +kernel
theorem dX11_skin_87 : decode cX11_skin 87 = .ok (.iload 5, 2) := by decide +kernel
theorem dX11_skin_89 : decode cX11_skin 89 = .ok (.ifCond .eq 7, 3) := by decide +kernel
theorem dX11_skin_92 : decode cX11_skin 92 = .ok (.iload_n 3, 1) := by decide +kernel
theorem dX11_skin_93 : decode cX11_skin 93 = .ok (.goto 4, 3) := by decide +kernel
theorem dX11_skin_96 : decode cX11_skin 96 = .ok (.iconst 0, 1) := by decide +kernel
theorem dX11_skin_97 : decode cX11_skin 97 = .ok (.iload 4, 2) := by decide +kernel
theorem dX11_skin_99 : decode cX11_skin 99 = .ok (.invokevirtual 126, 3) := by decide +kernel
theorem dX11_skin_102 : decode cX11_skin 102 = .ok (.ireturn, 1) := by decide +kernel
abbrev z_X11_skin_0 : Z9 := (some .int, 1, 5, 30, 7, 122)
def m_X11_skin_0_c97 (v4 s0 s1 s2 : Int) (d : D9) : Option R9 := cl (m_X6_add_9 s2 s1 s0 v4 d) (fun r1 d2 => rt r1 d2)
def m_X11_skin_0_c78 (v1 v2 v3 v4 v5 : Int) (d : D9) : Option R9 := if w32 v5 = 0 then m_X11_skin_0_c97  v4 0 v2 v1 d else m_X11_skin_0_c97  v4 v3 v2 v1 d
def m_X11_skin_0_c27 (v1 v2 v3 v4 v5 : Int) (d : D9) : Option R9 := cl (m_X11_askWithin v1 0 5 d) (fun r1 d2 => cl (m_X11_askWithin v2 0 2 d2) (fun r3 d4 => cl (m_X11_askWithin v4 1 99 d4) (fun r5 d6 => if w32 v5 = 0 then m_X11_skin_0_c78  v1 v2 v3 v4 v5 d6 else ld d6 4 30 v3 (fun t7 => if w32 t7 = w32 v1 then m_X11_skin_0_c78  v1 v2 v3 v4 v5 d6 else th 0 d6))))
def m_X11_skin_0_c15 (v1 v2 v3 v4 s0 : Int) (d : D9) : Option R9 := if w32 s0 = 0 then m_X11_skin_0_c27  v1 v2 v3 v4 s0 d else cl (m_X11_askPaint_0 v3 d) (fun r1 d2 => m_X11_skin_0_c27  v1 v2 v3 v4 s0 d2)
def m_X11_skin_0 (p1 p2 p3 p4 : Int) (d : D9) : Option R9 := if w32 p2 = w32 1 then m_X11_skin_0_c15  p1 p2 p3 p4 1 d else if w32 p2 ≠ w32 2 then m_X11_skin_0_c15  p1 p2 p3 p4 0 d else m_X11_skin_0_c15  p1 p2 p3 p4 1 d
set_option maxRecDepth 100000 in
theorem s_X11_skin_0_c97 {G : G9} {X : X9} (C : CX G X cX11_skin 6 RX11 [] z_X11_skin_0) : ∀ (v4 s0 s1 s2 : Int) (d : D9), SS G X 6 4 24 97 [(4, i9 v4)] [i9 s0, i9 s1, i9 s2, rf G 9] d (m_X11_skin_0_c97  v4 s0 s1 s2 d) := by
  intro v4 s0 s1 s2 d
  unfold m_X11_skin_0_c97
  refine r_iload C 0 dX11_skin_97 rfl ?_
  refine r_callV C [i9 v4, i9 s0, i9 s1, i9 s2, rf G 9] dX11_skin_99 (t_X6_add_9 C.h1 C.h2 s2 s1 s0 v4 d) mw_X11_126 mv_X6_add la_9 ly_9 rfl (by decide) (by decide) (by decide) rfl rfl (Nat.le_of_ble_eq_true rfl) (fun r1 d2 => ?_)
  show SS G X 6 _ _ 102 [(4, i9 v4)] [i9 r1] d2 _
  exact r_iret C dX11_skin_102 (by decide) (by decide)
set_option maxRecDepth 100000 in
theorem s_X11_skin_0_c78 {G : G9} {X : X9} (C : CX G X cX11_skin 6 RX11 [] z_X11_skin_0) : ∀ (v1 v2 v3 v4 v5 : Int) (d : D9), SS G X 6 4 24 78 [(0, rf G 0), (1, i9 v1), (2, i9 v2), (3, i9 v3), (4, i9 v4), (5, i9 v5)] [] d (m_X11_skin_0_c78  v1 v2 v3 v4 v5 d) := by
  intro v1 v2 v3 v4 v5 d
  unfold m_X11_skin_0_c78
  refine r_aload_n C 0 dX11_skin_78 rfl rfl ?_
  refine r_getR C 1 dX11_skin_79 fl_X11_10 la_0 ly_0 rfl rfl ?_
  refine r_getR C 9 dX11_skin_82 fl_X11_122 la_1 ly_1 rfl rfl ?_
  refine r_iload_n C 1 dX11_skin_85 rfl rfl ?_
  refine r_iload_n C 2 dX11_skin_86 rfl rfl ?_
  refine r_iload C 5 dX11_skin_87 rfl ?_
  refine r_if_eq C (b := 0) 96 dX11_skin_89 (by decide) (fun _ => ?_) (fun _ => ?_)
  · refine r_iconst C dX11_skin_96 ?_
    refine ss_wide (k' := 4) (n' := 24) (by decide) (by decide) ?_
    refine ss_ls [(4, i9 v4)] [4] rfl ?_
    exact s_X11_skin_0_c97 C  v4 0 v2 v1 d
  · refine r_iload_n C 3 dX11_skin_92 rfl rfl ?_
    refine r_goto C 97 dX11_skin_93 (by decide) ?_
    refine ss_wide (k' := 4) (n' := 24) (by decide) (by decide) ?_
    refine ss_ls [(4, i9 v4)] [4] rfl ?_
    exact s_X11_skin_0_c97 C  v4 v3 v2 v1 d
set_option maxRecDepth 100000 in
theorem s_X11_skin_0_c27 {G : G9} {X : X9} (C : CX G X cX11_skin 6 RX11 [] z_X11_skin_0) : ∀ (v1 v2 v3 v4 v5 : Int) (d : D9), SS G X 6 1 6 27 [(0, rf G 0), (1, i9 v1), (2, i9 v2), (3, i9 v3), (4, i9 v4), (5, i9 v5)] [] d (m_X11_skin_0_c27  v1 v2 v3 v4 v5 d) := by
  intro v1 v2 v3 v4 v5 d
  unfold m_X11_skin_0_c27
  refine r_iload_n C 1 dX11_skin_27 rfl rfl ?_
  refine r_iconst C dX11_skin_28 ?_
  refine r_iconst C dX11_skin_29 ?_
  refine r_callS C [i9 5, i9 0, i9 v1] dX11_skin_30 (t_X11_askWithin C.h1 C.h2 v1 0 5 d) mw_X11_73 ms_X11_askWithin (by decide) (by decide) (by decide) rfl rfl (Nat.le_of_ble_eq_true rfl) (fun r1 d2 => ?_)
  show SS G X 6 _ _ 33 [(0, rf G 0), (1, i9 v1), (2, i9 v2), (3, i9 v3), (4, i9 v4), (5, i9 v5)] [] d2 _
  refine r_iload_n C 2 dX11_skin_33 rfl rfl ?_
  refine r_iconst C dX11_skin_34 ?_
  refine r_iconst C dX11_skin_35 ?_
  refine r_callS C [i9 2, i9 0, i9 v2] dX11_skin_36 (t_X11_askWithin C.h1 C.h2 v2 0 2 d2) mw_X11_73 ms_X11_askWithin (by decide) (by decide) (by decide) rfl rfl (Nat.le_of_ble_eq_true rfl) (fun r3 d4 => ?_)
  show SS G X 6 _ _ 39 [(0, rf G 0), (1, i9 v1), (2, i9 v2), (3, i9 v3), (4, i9 v4), (5, i9 v5)] [] d4 _
  refine r_iload C 4 dX11_skin_39 rfl ?_
  refine r_iconst C dX11_skin_41 ?_
  refine r_bipush C dX11_skin_42 rfl ?_
  refine r_callS C [i9 99, i9 1, i9 v4] dX11_skin_44 (t_X11_askWithin C.h1 C.h2 v4 1 99 d4) mw_X11_73 ms_X11_askWithin (by decide) (by decide) (by decide) rfl rfl (Nat.le_of_ble_eq_true rfl) (fun r5 d6 => ?_)
  show SS G X 6 _ _ 47 [(0, rf G 0), (1, i9 v1), (2, i9 v2), (3, i9 v3), (4, i9 v4), (5, i9 v5)] [] d6 _
  refine r_iload C 5 dX11_skin_47 rfl ?_
  refine r_if_eq C (b := 0) 78 dX11_skin_49 (by decide) (fun _ => ?_) (fun _ => ?_)
  · refine ss_wide (k' := 4) (n' := 24) (by decide) (by decide) ?_
    refine ss_ls [(0, rf G 0), (1, i9 v1), (2, i9 v2), (3, i9 v3), (4, i9 v4), (5, i9 v5)] [0, 1, 2, 3, 4, 5] rfl ?_
    exact s_X11_skin_0_c78 C  v1 v2 v3 v4 v5 d6
  · refine r_aload_n C 0 dX11_skin_52 rfl rfl ?_
    refine r_getR C 1 dX11_skin_53 fl_X11_10 la_0 ly_0 rfl rfl ?_
    refine r_getR C 2 dX11_skin_56 fl_X11_77 la_1 ly_1 rfl rfl ?_
    refine r_getR C 4 dX11_skin_59 fl_X11_106 la_2 ly_2 rfl rfl ?_
    refine r_iload_n C 3 dX11_skin_62 rfl rfl ?_
    refine r_iald C dX11_skin_63 la_4 ly_4 (fun t7 => ?_)
    refine r_iload_n C 1 dX11_skin_64 rfl rfl ?_
    refine r_icmp_eq C 78 dX11_skin_65 (by decide) (fun _ => ?_) (fun _ => ?_)
    · refine ss_wide (k' := 4) (n' := 24) (by decide) (by decide) ?_
      refine ss_ls [(0, rf G 0), (1, i9 v1), (2, i9 v2), (3, i9 v3), (4, i9 v4), (5, i9 v5)] [0, 1, 2, 3, 4, 5] rfl ?_
      exact s_X11_skin_0_c78 C  v1 v2 v3 v4 v5 d6
    · exact r_throwS C (e := 0) 4 rfl tw_0_113 tc_0 dX11_skin_68 dX11_skin_71 dX11_skin_72 dX11_skin_74 dX11_skin_77 (by decide) (by decide) (by decide) (by decide)
set_option maxRecDepth 100000 in
theorem s_X11_skin_0_c15 {G : G9} {X : X9} (C : CX G X cX11_skin 6 RX11 [] z_X11_skin_0) : ∀ (v1 v2 v3 v4 s0 : Int) (d : D9), SS G X 6 0 0 15 [(0, rf G 0), (1, i9 v1), (2, i9 v2), (3, i9 v3), (4, i9 v4)] [i9 s0] d (m_X11_skin_0_c15  v1 v2 v3 v4 s0 d) := by
  intro v1 v2 v3 v4 s0 d
  unfold m_X11_skin_0_c15
  refine r_istore C [(5, i9 s0), (0, rf G 0), (1, i9 v1), (2, i9 v2), (3, i9 v3), (4, i9 v4)] dX11_skin_15 (by decide) rfl ?_
  refine r_iload C 0 dX11_skin_17 rfl ?_
  refine r_if_eq C (b := 0) 27 dX11_skin_19 (by decide) (fun _ => ?_) (fun _ => ?_)
  · refine ss_wide (k' := 1) (n' := 6) (by decide) (by decide) ?_
    refine ss_ls [(0, rf G 0), (1, i9 v1), (2, i9 v2), (3, i9 v3), (4, i9 v4), (5, i9 s0)] [1, 2, 3, 4, 5, 0] rfl ?_
    exact s_X11_skin_0_c27 C  v1 v2 v3 v4 s0 d
  · refine r_aload_n C 1 dX11_skin_22 rfl rfl ?_
    refine r_iload_n C 4 dX11_skin_23 rfl rfl ?_
    refine r_callV C [i9 v3, rf G 0] dX11_skin_24 (t_X11_askPaint_0 C.h1 C.h2 v3 d) mw_X11_103 mv_X11_askPaint la_0 ly_0 rfl (by decide) (by decide) (by decide) rfl rfl (Nat.le_of_ble_eq_true rfl) (fun r1 d2 => ?_)
    show SS G X 6 _ _ 27 [(5, i9 s0), (0, rf G 0), (1, i9 v1), (2, i9 v2), (3, i9 v3), (4, i9 v4)] [] d2 _
    refine ss_wide (k' := 1) (n' := 6) (by decide) (by decide) ?_
    refine ss_ls [(0, rf G 0), (1, i9 v1), (2, i9 v2), (3, i9 v3), (4, i9 v4), (5, i9 s0)] [1, 2, 3, 4, 5, 0] rfl ?_
    exact s_X11_skin_0_c27 C  v1 v2 v3 v4 s0 d2
set_option maxRecDepth 100000 in
theorem t_X11_skin_0 {G : G9} {l : Launch} (h1 : va_D (A9 G) (wl G (fun _ _ => 0))) (h2 : l.stackTraces = false) (p1 p2 p3 p4 : Int) (d : D9) : MT G l yX11_skin cX11_skin 6 z_X11_skin_0 [rf G 0, i9 p1, i9 p2, i9 p3, i9 p4] d (m_X11_skin_0 p1 p2 p3 p4 d) := by
  refine mt_of (own := RX11) (by decide) rfl (Nat.le_of_ble_eq_true rfl) h1 h2 [(0, rf G 0), (1, i9 p1), (2, i9 p2), (3, i9 p3), (4, i9 p4)] rfl (fun X hX C => ?_)
  unfold m_X11_skin_0
  refine r_iload_n C 2 dX11_skin_0 rfl rfl ?_
  refine r_iconst C dX11_skin_1 ?_
  refine r_icmp_eq C 10 dX11_skin_2 (by decide) (fun _ => ?_) (fun _ => ?_)
  · refine r_iconst C dX11_skin_10 ?_
    refine r_goto C 15 dX11_skin_11 (by decide) ?_
    refine ss_wide (k' := 0) (n' := 0) (by decide) (by decide) ?_
    refine ss_ls [(0, rf G 0), (1, i9 p1), (2, i9 p2), (3, i9 p3), (4, i9 p4)] [0, 1, 2, 3, 4] rfl ?_
    exact s_X11_skin_0_c15 C  p1 p2 p3 p4 1 d
  · refine r_iload_n C 2 dX11_skin_5 rfl rfl ?_
    refine r_iconst C dX11_skin_6 ?_
    refine r_icmp_ne C 14 dX11_skin_7 (by decide) (fun _ => ?_) (fun _ => ?_)
    · refine r_iconst C dX11_skin_14 ?_
      refine ss_wide (k' := 0) (n' := 0) (by decide) (by decide) ?_
      refine ss_ls [(0, rf G 0), (1, i9 p1), (2, i9 p2), (3, i9 p3), (4, i9 p4)] [0, 1, 2, 3, 4] rfl ?_
      exact s_X11_skin_0_c15 C  p1 p2 p3 p4 0 d
    · refine r_iconst C dX11_skin_10 ?_
      refine r_goto C 15 dX11_skin_11 (by decide) ?_
      refine ss_wide (k' := 0) (n' := 0) (by decide) (by decide) ?_
      refine ss_ls [(0, rf G 0), (1, i9 p1), (2, i9 p2), (3, i9 p3), (4, i9 p4)] [0, 1, 2, 3, 4] rfl ?_
      exact s_X11_skin_0_c15 C  p1 p2 p3 p4 1 d
theorem dX11_sort_0 : decode cX11_sort 0 = .ok (.aload_n 0, 1) := by decide +kernel
theorem dX11_sort_1 : decode cX11_sort 1 = .ok (.iload_n 1, 1) := by decide +kernel
theorem dX11_sort_2 : decode cX11_sort 2 = .ok (.invokevirtual 131, 3) := by decide +kernel
theorem dX11_sort_5 : decode cX11_sort 5 = .ok (.aload_n 0, 1) := by decide +kernel
theorem dX11_sort_6 : decode cX11_sort 6 = .ok (.getfield 10, 3) := by decide +kernel
theorem dX11_sort_9 : decode cX11_sort 9 = .ok (.getfield 122, 3) := by decide +kernel
theorem dX11_sort_12 : decode cX11_sort 12 = .ok (.getfield 229, 3) := by decide +kernel
theorem dX11_sort_15 : decode cX11_sort 15 = .ok (.iload_n 1, 1) := by decide +kernel
theorem dX11_sort_16 : decode cX11_sort 16 = .ok (.iaload, 1) := by decide +kernel
theorem dX11_sort_17 : decode cX11_sort 17 = .ok (.ireturn, 1) := by decide +kernel
abbrev z_X11_sort_0 : Z9 := (some .int, 1, 1, 6, 7, 121)
def m_X11_sort_0 (p1 : Int) (d : D9) : Option R9 := cl (m_X11_askSkin_0 p1 d) (fun r1 d2 => ld d2 15 30 p1 (fun t3 => rt t3 d2))
set_option maxRecDepth 100000 in
theorem t_X11_sort_0 {G : G9} {l : Launch} (h1 : va_D (A9 G) (wl G (fun _ _ => 0))) (h2 : l.stackTraces = false) (p1 : Int) (d : D9) : MT G l yX11_sort cX11_sort 2 z_X11_sort_0 [rf G 0, i9 p1] d (m_X11_sort_0 p1 d) := by
  refine mt_of (own := RX11) (by decide) rfl (Nat.le_of_ble_eq_true rfl) h1 h2 [(0, rf G 0), (1, i9 p1)] rfl (fun X hX C => ?_)
  unfold m_X11_sort_0
  refine r_aload_n C 0 dX11_sort_0 rfl rfl ?_
  refine r_iload_n C 1 dX11_sort_1 rfl rfl ?_
  refine r_callV C [i9 p1, rf G 0] dX11_sort_2 (t_X11_askSkin_0 C.h1 C.h2 p1 d) mw_X11_131 mv_X11_askSkin la_0 ly_0 rfl (by decide) (by decide) (by decide) rfl rfl (Nat.le_of_ble_eq_true rfl) (fun r1 d2 => ?_)
  show SS G X 2 _ _ 5 [(0, rf G 0), (1, i9 p1)] [] d2 _
  refine r_aload_n C 0 dX11_sort_5 rfl rfl ?_
  refine r_getR C 1 dX11_sort_6 fl_X11_10 la_0 ly_0 rfl rfl ?_
  refine r_getR C 9 dX11_sort_9 fl_X11_122 la_1 ly_1 rfl rfl ?_
  refine r_getR C 15 dX11_sort_12 fl_X11_229 la_9 ly_9 rfl rfl ?_
  refine r_iload_n C 1 dX11_sort_15 rfl rfl ?_
  refine r_iald C dX11_sort_16 la_15 ly_15 (fun t3 => ?_)
  exact r_iret C dX11_sort_17 (by decide) (by decide)
theorem dX11_span_0 : decode cX11_span 0 = .ok (.aload_n 0, 1) := by decide +kernel
theorem dX11_span_1 : decode cX11_span 1 = .ok (.iload_n 1, 1) := by decide +kernel
theorem dX11_span_2 : decode cX11_span 2 = .ok (.invokevirtual 131, 3) := by decide +kernel
theorem dX11_span_5 : decode cX11_span 5 = .ok (.aload_n 0, 1) := by decide +kernel
theorem dX11_span_6 : decode cX11_span 6 = .ok (.getfield 10, 3) := by decide +kernel
theorem dX11_span_9 : decode cX11_span 9 = .ok (.getfield 122, 3) := by decide +kernel
theorem dX11_span_12 : decode cX11_span 12 = .ok (.astore 4, 2) := by decide +kernel
theorem dX11_span_14 : decode cX11_span 14 = .ok (.iload_n 2, 1) := by decide +kernel
theorem dX11_span_15 : decode cX11_span 15 = .ok (.ifCond .lt 14, 3) := by decide +kernel
theorem dX11_span_18 : decode cX11_span 18 = .ok (.iload_n 2, 1) := by decide +kernel
theorem dX11_span_19 : decode cX11_span 19 = .ok (.aload 4, 2) := by decide +kernel
theorem dX11_span_21 : decode cX11_span 21 = .ok (.getfield 134, 3) := by decide +kernel
theorem dX11_span_24 : decode cX11_span 24 = .ok (.iload_n 1, 1) := by decide +kernel
theorem dX11_span_25 : decode cX11_span 25 = .ok (.iaload, 1) := by decide +kernel
theorem dX11_span_26 : decode cX11_span 26 = .ok (.if_icmp .lt 13, 3) := by decide +kernel
theorem dX11_span_29 : decode cX11_span 29 = .ok (.new 218, 3) := by decide +kernel
theorem dX11_span_32 : decode cX11_span 32 = .ok (.dup, 1) := by decide +kernel
theorem dX11_span_33 : decode cX11_span 33 = .ok (.ldc 220, 2) := by decide +kernel
theorem dX11_span_35 : decode cX11_span 35 = .ok (.invokespecial 222, 3) := by decide +kernel
theorem dX11_span_38 : decode cX11_span 38 = .ok (.athrow, 1) := by decide +kernel
theorem dX11_span_39 : decode cX11_span 39 = .ok (.iload_n 1, 1) := by decide +kernel
theorem dX11_span_40 : decode cX11_span 40 = .ok (.iconst 4, 1) := by decide +kernel
theorem dX11_span_41 : decode cX11_span 41 = .ok (.imul, 1) := by decide +kernel
theorem dX11_span_42 : decode cX11_span 42 = .ok (.iload_n 2, 1) := by decide +kernel
theorem dX11_span_43 : decode cX11_span 43 = .ok (.iadd, 1) := by decide +kernel
theorem dX11_span_44 : decode cX11_span 44 = .ok (.istore 5, 2) := by decide +kernel
theorem dX11_span_46 : decode cX11_span 46 = .ok (.iload_n 3, 1) := by decide +kernel
theorem dX11_span_47 : decode cX11_span 47 = .ok (.ifCond .eq 14, 3) := by decide +kernel
theorem dX11_span_50 : decode cX11_span 50 = .ok (.aload 4, 2) := by decide +kernel
theorem dX11_span_52 : decode cX11_span 52 = .ok (.getfield 223, 3) := by decide +kernel
theorem dX11_span_55 : decode cX11_span 55 = .ok (.iload 5, 2) := by decide +kernel
theorem dX11_span_57 : decode cX11_span 57 = .ok (.iaload, 1) := by decide +kernel
theorem dX11_span_58 : decode cX11_span 58 = .ok (.goto 11, 3) := by decide +kernel
theorem dX11_span_61 : decode cX11_span 61 = .ok (.aload 4, 2) := by decide +kernel
theorem dX11_span_63 : decode cX11_span 63 = .ok (.getfield 226, 3) := by decide +kernel
theorem dX11_span_66 : decode cX11_span 66 = .ok (.iload 5, 2) := by decide +kernel
theorem dX11_span_68 : decode cX11_span 68 = .ok (.iaload, 1) := by decide +kernel
theorem dX11_span_69 : decode cX11_span 69 = .ok (.ireturn, 1) := by decide +kernel
abbrev z_X11_span_0 : Z9 := (some .int, 1, 2, 12, 7, 121)
def m_X11_span_0_c29 (d : D9) : Option R9 := th 2 d
def m_X11_span_0 (p1 p2 p3 : Int) (d : D9) : Option R9 := cl (m_X11_askSkin_0 p1 d) (fun r1 d2 => if w32 p2 < 0 then m_X11_span_0_c29   d2 else ld d2 14 30 p1 (fun t3 => if w32 p2 < w32 t3 then lt9v ((p1 * 4) + p2) (fun a4 => if w32 p3 = 0 then ld d2 20 120 a4 (fun t5 => rt t5 d2) else ld d2 21 120 a4 (fun t6 => rt t6 d2)) else m_X11_span_0_c29   d2))
set_option maxRecDepth 100000 in
theorem s_X11_span_0_c29 {G : G9} {X : X9} (C : CX G X cX11_span 6 RX11 [] z_X11_span_0) : ∀ (d : D9), SS G X 6 1 6 29 [] [] d (m_X11_span_0_c29   d) := by
  intro  d
  unfold m_X11_span_0_c29
  exact r_throwNS C 7 rfl tn_222 tc_2 dX11_span_29 dX11_span_32 dX11_span_33 dX11_span_35 dX11_span_38 (by decide) (by decide) (by decide) (by decide)
set_option maxRecDepth 100000 in
theorem t_X11_span_0 {G : G9} {l : Launch} (h1 : va_D (A9 G) (wl G (fun _ _ => 0))) (h2 : l.stackTraces = false) (p1 p2 p3 : Int) (d : D9) : MT G l yX11_span cX11_span 6 z_X11_span_0 [rf G 0, i9 p1, i9 p2, i9 p3] d (m_X11_span_0 p1 p2 p3 d) := by
  refine mt_of (own := RX11) (by decide) rfl (Nat.le_of_ble_eq_true rfl) h1 h2 [(0, rf G 0), (1, i9 p1), (2, i9 p2), (3, i9 p3)] rfl (fun X hX C => ?_)
  unfold m_X11_span_0
  refine r_aload_n C 0 dX11_span_0 rfl rfl ?_
  refine r_iload_n C 1 dX11_span_1 rfl rfl ?_
  refine r_callV C [i9 p1, rf G 0] dX11_span_2 (t_X11_askSkin_0 C.h1 C.h2 p1 d) mw_X11_131 mv_X11_askSkin la_0 ly_0 rfl (by decide) (by decide) (by decide) rfl rfl (Nat.le_of_ble_eq_true rfl) (fun r1 d2 => ?_)
  show SS G X 6 _ _ 5 [(0, rf G 0), (1, i9 p1), (2, i9 p2), (3, i9 p3)] [] d2 _
  refine r_aload_n C 0 dX11_span_5 rfl rfl ?_
  refine r_getR C 1 dX11_span_6 fl_X11_10 la_0 ly_0 rfl rfl ?_
  refine r_getR C 9 dX11_span_9 fl_X11_122 la_1 ly_1 rfl rfl ?_
  refine r_astore C [(4, rf G 9), (0, rf G 0), (1, i9 p1), (2, i9 p2), (3, i9 p3)] dX11_span_12 (by decide) rfl ?_
  refine r_iload_n C 3 dX11_span_14 rfl rfl ?_
  refine r_if_lt C (b := 0) 29 dX11_span_15 (by decide) (fun _ => ?_) (fun _ => ?_)
  · refine ss_wide (k' := 1) (n' := 6) (by decide) (by decide) ?_
    refine ss_ls [] [] rfl ?_
    exact s_X11_span_0_c29 C   d2
  · refine r_iload_n C 3 dX11_span_18 rfl rfl ?_
    refine r_aload C 0 dX11_span_19 rfl ?_
    refine r_getR C 14 dX11_span_21 fl_X11_134 la_9 ly_9 rfl rfl ?_
    refine r_iload_n C 2 dX11_span_24 rfl rfl ?_
    refine r_iald C dX11_span_25 la_14 ly_14 (fun t3 => ?_)
    refine r_icmp_lt C 39 dX11_span_26 (by decide) (fun _ => ?_) (fun _ => ?_)
    · refine r_iload_n C 2 dX11_span_39 rfl rfl ?_
      refine r_iconst C dX11_span_40 ?_
      refine r_imul C dX11_span_41 ?_
      refine r_iload_n C 3 dX11_span_42 rfl rfl ?_
      refine r_iadd C dX11_span_43 ?_
      refine ss_lt (fun a4 => ?_)
      refine r_istore C [(5, i9 a4), (4, rf G 9), (0, rf G 0), (1, i9 p1), (2, i9 p2), (3, i9 p3)] dX11_span_44 (by decide) rfl ?_
      refine r_iload_n C 5 dX11_span_46 rfl rfl ?_
      refine r_if_eq C (b := 0) 61 dX11_span_47 (by decide) (fun _ => ?_) (fun _ => ?_)
      · refine r_aload C 1 dX11_span_61 rfl ?_
        refine r_getR C 20 dX11_span_63 fl_X11_226 la_9 ly_9 rfl rfl ?_
        refine r_iload C 0 dX11_span_66 rfl ?_
        refine r_iald C dX11_span_68 la_20 ly_20 (fun t5 => ?_)
        exact r_iret C dX11_span_69 (by decide) (by decide)
      · refine r_aload C 1 dX11_span_50 rfl ?_
        refine r_getR C 21 dX11_span_52 fl_X11_223 la_9 ly_9 rfl rfl ?_
        refine r_iload C 0 dX11_span_55 rfl ?_
        refine r_iald C dX11_span_57 la_21 ly_21 (fun t6 => ?_)
        refine r_goto C 69 dX11_span_58 (by decide) ?_
        exact r_iret C dX11_span_69 (by decide) (by decide)
    · refine ss_wide (k' := 1) (n' := 6) (by decide) (by decide) ?_
      refine ss_ls [] [] rfl ?_
      exact s_X11_span_0_c29 C   d2
theorem dX11_spread_0 : decode cX11_spread 0 = .ok (.iload_n 1, 1) := by decide +kernel
theorem dX11_spread_1 : decode cX11_spread 1 = .ok (.iconst 0, 1) := by decide +kernel
theorem dX11_spread_2 : decode cX11_spread 2 = .ok (.bipush 9, 2) := by decide +kernel
theorem dX11_spread_4 : decode cX11_spread 4 = .ok (.invokestatic 73, 3) := by decide +kernel
theorem dX11_spread_7 : decode cX11_spread 7 = .ok (.iconst 0, 1) := by decide +kernel
theorem dX11_spread_8 : decode cX11_spread 8 = .ok (.istore_n 2, 1) := by decide +kernel
theorem dX11_spread_9 : decode cX11_spread 9 = .ok (.iconst 0, 1) := by decide +kernel
theorem dX11_spread_10 : decode cX11_spread 10 = .ok (.istore_n 3, 1) := by decide +kernel
theorem dX11_spread_11 : decode cX11_spread 11 = .ok (.iload_n 3, 1) := by decide +kernel
theorem dX11_spread_12 : decode cX11_spread 12 = .ok (.aload_n 0, 1) := by decide +kernel
theorem dX11_spread_13 : decode cX11_spread 13 = .ok (.getfield 10, 3) := by decide +kernel
theorem dX11_spread_16 : decode cX11_spread 16 = .ok (.getfield 77, 3) := by decide +kernel
theorem dX11_spread_19 : decode cX11_spread 19 = .ok (.getfield 278, 3) := by decide +kernel
theorem dX11_spread_22 : decode cX11_spread 22 = .ok (.if_icmp .ge 41, 3) := by decide +kernel
theorem dX11_spread_25 : decode cX11_spread 25 = .ok (.aload_n 0, 1) := by decide +kernel
theorem dX11_spread_26 : decode cX11_spread 26 = .ok (.getfield 10, 3) := by decide +kernel
theorem dX11_spread_29 : decode cX11_spread 29 = .ok (.getfield 77, 3) := by decide +kernel
theorem dX11_spread_32 : decode cX11_spread 32 = .ok (.iload_n 3, 1) := by decide +kernel
theorem dX11_spread_33 : decode cX11_spread 33 = .ok (.iload_n 1, 1) := by decide +kernel
theorem dX11_spread_34 : decode cX11_spread 34 = .ok (.invokevirtual 372, 3) := by decide +kernel
theorem dX11_spread_37 : decode cX11_spread 37 = .ok (.ifCond .eq 20, 3) := by decide +kernel
theorem dX11_spread_40 : decode cX11_spread 40 = .ok (.iload_n 2, 1) := by decide +kernel
theorem dX11_spread_41 : decode cX11_spread 41 = .ok (.iconst 1, 1) := by decide +kernel
theorem dX11_spread_42 : decode cX11_spread 42 = .ok (.aload_n 0, 1) := by decide +kernel
theorem dX11_spread_43 : decode cX11_spread 43 = .ok (.getfield 10, 3) := by decide +kernel
theorem dX11_spread_46 : decode cX11_spread 46 = .ok (.getfield 77, 3) := by decide +kernel
theorem dX11_spread_49 : decode cX11_spread 49 = .ok (.getfield 106, 3) := by decide +kernel
theorem dX11_spread_52 : decode cX11_spread 52 = .ok (.iload_n 3, 1) := by decide +kernel
theorem dX11_spread_53 : decode cX11_spread 53 = .ok (.iaload, 1) := by decide +kernel
theorem dX11_spread_54 : decode cX11_spread 54 = .ok (.ishl, 1) := by decide +kernel
theorem dX11_spread_55 : decode cX11_spread 55 = .ok (.ior, 1) := by decide +kernel
theorem dX11_spread_56 : decode cX11_spread 56 = .ok (.istore_n 2, 1) := by decide +kernel
theorem dX11_spread_57 : decode cX11_spread 57 = .ok (.iinc 3 1, 3) := by decide +kernel
theorem dX11_spread_60 : decode cX11_spread 60 = .ok (.goto (-49), 3) := by decide +kernel
theorem dX11_spread_63 : decode cX11_spread 63 = .ok (.iload_n 2, 1) := by decide +kernel
theorem dX11_spread_64 : decode cX11_spread 64 = .ok (.invokestatic 153, 3) := by decide +kernel
theorem dX11_spread_67 : decode cX11_spread 67 = .ok (.ireturn, 1) := by decide +kernel
abbrev z_X11_spread_0 : Z9 := (some .int, 1, 1, 6, 7, 122)
def b_X11_spread_0_c11 (k_X11_spread_0_c11 : Int → Int → Int → D9 → Option R9) (v1 v2 v3 : Int) (d : D9) : Option R9 := if w32 (d 2 0) ≤ w32 v3 then cl (m_J6_bitCount_0f7a4 v2 d) (fun r1 d2 => rt r1 d2) else cl (m_X3_isSign_2 v3 v1 d) (fun r3 d4 => if w32 r3 = 0 then k_X11_spread_0_c11 v1 v2 (v3 + 1) d4 else ld d4 4 30 v3 (fun t5 => lt9v (or9 v2 (shl9 1 t5)) (fun a6 => k_X11_spread_0_c11 v1 a6 (v3 + 1) d4)))
def m_X11_spread_0_c11 : Int → Int → Int → D9 → Option R9 := fix9 (fun _ _ _ _ => none) (fun k => b_X11_spread_0_c11 k) FU
def m_X11_spread_0 (p1 : Int) (d : D9) : Option R9 := cl (m_X11_askWithin p1 0 9 d) (fun r1 d2 => m_X11_spread_0_c11  p1 0 0 d2)
set_option maxRecDepth 100000 in
theorem sb_X11_spread_0_c11 {G : G9} {X : X9} (C : CX G X cX11_spread 4 RX11 [] z_X11_spread_0) (k_X11_spread_0_c11 : Int → Int → Int → D9 → Option R9) (hk_X11_spread_0_c11 : ∀ (v1 v2 v3 : Int) (d : D9), SS G X 4 1 6 11 [(0, rf G 0), (1, i9 v1), (2, i9 v2), (3, i9 v3)] [] d (k_X11_spread_0_c11 v1 v2 v3 d)) : ∀ (v1 v2 v3 : Int) (d : D9), SS G X 4 1 6 11 [(0, rf G 0), (1, i9 v1), (2, i9 v2), (3, i9 v3)] [] d (b_X11_spread_0_c11 k_X11_spread_0_c11 v1 v2 v3 d) := by
  intro v1 v2 v3 d
  unfold b_X11_spread_0_c11
  refine r_iload_n C 3 dX11_spread_11 rfl rfl ?_
  refine r_aload_n C 0 dX11_spread_12 rfl rfl ?_
  refine r_getR C 1 dX11_spread_13 fl_X11_10 la_0 ly_0 rfl rfl ?_
  refine r_getR C 2 dX11_spread_16 fl_X11_77 la_1 ly_1 rfl rfl ?_
  refine r_getI C dX11_spread_19 fl_X11_278 la_2 ly_2 rfl ?_
  refine r_icmp_ge C 63 dX11_spread_22 (by decide) (fun _ => ?_) (fun _ => ?_)
  · refine r_iload_n C 2 dX11_spread_63 rfl rfl ?_
    refine r_callS C [i9 v2] dX11_spread_64 (t_J6_bitCount_0f7a4 C.h1 C.h2 v2 d) mw_X11_153 ms_J6_bitCount_0f7a4 (by decide) (by decide) (by decide) rfl rfl (Nat.le_of_ble_eq_true rfl) (fun r1 d2 => ?_)
    show SS G X 4 _ _ 67 [(0, rf G 0), (1, i9 v1), (2, i9 v2), (3, i9 v3)] [i9 r1] d2 _
    exact r_iret C dX11_spread_67 (by decide) (by decide)
  · refine r_aload_n C 0 dX11_spread_25 rfl rfl ?_
    refine r_getR C 1 dX11_spread_26 fl_X11_10 la_0 ly_0 rfl rfl ?_
    refine r_getR C 2 dX11_spread_29 fl_X11_77 la_1 ly_1 rfl rfl ?_
    refine r_iload_n C 3 dX11_spread_32 rfl rfl ?_
    refine r_iload_n C 1 dX11_spread_33 rfl rfl ?_
    refine r_callV C [i9 v1, i9 v3, rf G 2] dX11_spread_34 (t_X3_isSign_2 C.h1 C.h2 v3 v1 d) mw_X11_372 mv_X3_isSign la_2 ly_2 rfl (by decide) (by decide) (by decide) rfl rfl (Nat.le_of_ble_eq_true rfl) (fun r3 d4 => ?_)
    show SS G X 4 _ _ 37 [(0, rf G 0), (1, i9 v1), (2, i9 v2), (3, i9 v3)] [i9 r3] d4 _
    refine r_if_eq C (b := 0) 57 dX11_spread_37 (by decide) (fun _ => ?_) (fun _ => ?_)
    · refine r_iinc C 3 [(3, i9 (v3 + 1)), (0, rf G 0), (1, i9 v1), (2, i9 v2)] dX11_spread_57 rfl (by decide) rfl ?_
      refine r_goto C 11 dX11_spread_60 (by decide) ?_
      refine ss_wide (k' := 1) (n' := 6) (by decide) (by decide) ?_
      refine ss_ls [(0, rf G 0), (1, i9 v1), (2, i9 v2), (3, i9 (v3 + 1))] [1, 2, 3, 0] rfl ?_
      exact hk_X11_spread_0_c11 v1 v2 (v3 + 1) d4
    · refine r_iload_n C 2 dX11_spread_40 rfl rfl ?_
      refine r_iconst C dX11_spread_41 ?_
      refine r_aload_n C 0 dX11_spread_42 rfl rfl ?_
      refine r_getR C 1 dX11_spread_43 fl_X11_10 la_0 ly_0 rfl rfl ?_
      refine r_getR C 2 dX11_spread_46 fl_X11_77 la_1 ly_1 rfl rfl ?_
      refine r_getR C 4 dX11_spread_49 fl_X11_106 la_2 ly_2 rfl rfl ?_
      refine r_iload_n C 3 dX11_spread_52 rfl rfl ?_
      refine r_iald C dX11_spread_53 la_4 ly_4 (fun t5 => ?_)
      refine r_ishl C dX11_spread_54 ?_
      refine r_ior C dX11_spread_55 ?_
      refine ss_lt (fun a6 => ?_)
      refine r_istore_n C [(2, i9 a6), (0, rf G 0), (1, i9 v1), (3, i9 v3)] dX11_spread_56 rfl (by decide) rfl ?_
      refine r_iinc C 3 [(3, i9 (v3 + 1)), (2, i9 a6), (0, rf G 0), (1, i9 v1)] dX11_spread_57 rfl (by decide) rfl ?_
      refine r_goto C 11 dX11_spread_60 (by decide) ?_
      refine ss_wide (k' := 1) (n' := 6) (by decide) (by decide) ?_
      refine ss_ls [(0, rf G 0), (1, i9 v1), (2, i9 a6), (3, i9 (v3 + 1))] [2, 3, 1, 0] rfl ?_
      exact hk_X11_spread_0_c11 v1 a6 (v3 + 1) d4
theorem s_X11_spread_0_c11 {G : G9} {X : X9} (C : CX G X cX11_spread 4 RX11 [] z_X11_spread_0) : ∀ (v1 v2 v3 : Int) (d : D9), SS G X 4 1 6 11 [(0, rf G 0), (1, i9 v1), (2, i9 v2), (3, i9 v3)] [] d (m_X11_spread_0_c11  v1 v2 v3 d) :=
  fix9_ind (P := fun k => ∀ (v1 v2 v3 : Int) (d : D9), SS G X 4 1 6 11 [(0, rf G 0), (1, i9 v1), (2, i9 v2), (3, i9 v3)] [] d (k v1 v2 v3 d)) (fun _ _ _ _ => ss_none) (fun k hk => sb_X11_spread_0_c11 C k hk) FU
set_option maxRecDepth 100000 in
theorem t_X11_spread_0 {G : G9} {l : Launch} (h1 : va_D (A9 G) (wl G (fun _ _ => 0))) (h2 : l.stackTraces = false) (p1 : Int) (d : D9) : MT G l yX11_spread cX11_spread 4 z_X11_spread_0 [rf G 0, i9 p1] d (m_X11_spread_0 p1 d) := by
  refine mt_of (own := RX11) (by decide) rfl (Nat.le_of_ble_eq_true rfl) h1 h2 [(0, rf G 0), (1, i9 p1)] rfl (fun X hX C => ?_)
  unfold m_X11_spread_0
  refine r_iload_n C 1 dX11_spread_0 rfl rfl ?_
  refine r_iconst C dX11_spread_1 ?_
  refine r_bipush C dX11_spread_2 rfl ?_
  refine r_callS C [i9 9, i9 0, i9 p1] dX11_spread_4 (t_X11_askWithin C.h1 C.h2 p1 0 9 d) mw_X11_73 ms_X11_askWithin (by decide) (by decide) (by decide) rfl rfl (Nat.le_of_ble_eq_true rfl) (fun r1 d2 => ?_)
  show SS G X 4 _ _ 7 [(0, rf G 0), (1, i9 p1)] [] d2 _
  refine r_iconst C dX11_spread_7 ?_
  refine r_istore_n C [(2, i9 0), (0, rf G 0), (1, i9 p1)] dX11_spread_8 rfl (by decide) rfl ?_
  refine r_iconst C dX11_spread_9 ?_
  refine r_istore_n C [(3, i9 0), (2, i9 0), (0, rf G 0), (1, i9 p1)] dX11_spread_10 rfl (by decide) rfl ?_
  refine ss_wide (k' := 1) (n' := 6) (by decide) (by decide) ?_
  refine ss_ls [(0, rf G 0), (1, i9 p1), (2, i9 0), (3, i9 0)] [2, 3, 1, 0] rfl ?_
  exact s_X11_spread_0_c11 C  p1 0 0 d2
theorem dX7_readLine_0 : decode cX7_readLine 0 = .ok (.aload_n 0, 1) := by decide +kernel
theorem dX7_readLine_1 : decode cX7_readLine 1 = .ok (.getfield 9, 3) := by decide +kernel
theorem dX7_readLine_4 : decode cX7_readLine 4 = .ok (.iload_n 3, 1) := by decide +kernel
theorem dX7_readLine_5 : decode cX7_readLine 5 = .ok (.iload_n 2, 1) := by decide +kernel
theorem dX7_readLine_6 : decode cX7_readLine 6 = .ok (.iastore, 1) := by decide +kernel
theorem dX7_readLine_7 : decode cX7_readLine 7 = .ok (.aload_n 0, 1) := by decide +kernel
theorem dX7_readLine_8 : decode cX7_readLine 8 = .ok (.getfield 15, 3) := by decide +kernel
theorem dX7_readLine_11 : decode cX7_readLine 11 = .ok (.iload_n 3, 1) := by decide +kernel
theorem dX7_readLine_12 : decode cX7_readLine 12 = .ok (.aload_n 1, 1) := by decide +kernel
theorem dX7_readLine_13 : decode cX7_readLine 13 = .ok (.iconst 0, 1) := by decide +kernel
theorem dX7_readLine_14 : decode cX7_readLine 14 = .ok (.iload_n 2, 1) := by decide +kernel
theorem dX7_readLine_15 : decode cX7_readLine 15 = .ok (.bipush 23, 2) := by decide +kernel
theorem dX7_readLine_17 : decode cX7_readLine 17 = .ok (.if_icmp .ne 8, 3) := by decide +kernel
theorem dX7_readLine_20 : decode cX7_readLine 20 = .ok (.bipush 10, 2) := by decide +kernel
theorem dX7_readLine_22 : decode cX7_readLine 22 = .ok (.goto 5, 3) := by decide +kernel
theorem dX7_readLine_25 : decode cX7_readLine 25 = .ok (.bipush 6, 2) := by decide +kernel
theorem dX7_readLine_27 : decode cX7_readLine 27 = .ok (.iconst 1, 1) := by decide +kernel
theorem dX7_readLine_28 : decode cX7_readLine 28 = .ok (.isub, 1) := by decide +kernel
theorem dX7_readLine_29 : decode cX7_readLine 29 = .ok (.invokevirtual 46, 3) := by decide +kernel
theorem dX7_readLine_32 : decode cX7_readLine 32 = .ok (.iastore, 1) := by decide +kernel
theorem dX7_readLine_33 : decode cX7_readLine 33 = .ok (.aload_n 1, 1) := by decide +kernel
theorem dX7_readLine_34 : decode cX7_readLine 34 = .ok (.bipush 7, 2) := by decide +kernel
theorem dX7_readLine_36 : decode cX7_readLine 36 = .ok (.invokevirtual 49, 3) := by decide +kernel
theorem dX7_readLine_39 : decode cX7_readLine 39 = .ok (.aload_n 0, 1) := by decide +kernel
theorem dX7_readLine_40 : decode cX7_readLine 40 = .ok (.getfield 18, 3) := by decide +kernel
theorem dX7_readLine_43 : decode cX7_readLine 43 = .ok (.iload_n 3, 1) := by decide +kernel
theorem dX7_readLine_44 : decode cX7_readLine 44 = .ok (.aload_n 1, 1) := by decide +kernel
theorem dX7_readLine_45 : decode cX7_readLine 45 = .ok (.iconst 0, 1) := by decide +kernel
theorem dX7_readLine_46 : decode cX7_readLine 46 = .ok (.sipush 400, 3) := by decide +kernel
theorem dX7_readLine_49 : decode cX7_readLine 49 = .ok (.invokevirtual 46, 3) := by decide +kernel
theorem dX7_readLine_52 : decode cX7_readLine 52 = .ok (.iastore, 1) := by decide +kernel
theorem dX7_readLine_53 : decode cX7_readLine 53 = .ok (.aload_n 1, 1) := by decide +kernel
theorem dX7_readLine_54 : decode cX7_readLine 54 = .ok (.bipush 6, 2) := by decide +kernel
theorem dX7_readLine_56 : decode cX7_readLine 56 = .ok (.invokevirtual 49, 3) := by decide +kernel
theorem dX7_readLine_59 : decode cX7_readLine 59 = .ok (.aload_n 0, 1) := by decide +kernel
theorem dX7_readLine_60 : decode cX7_readLine 60 = .ok (.getfield 21, 3) := by decide +kernel
theorem dX7_readLine_63 : decode cX7_readLine 63 = .ok (.iload_n 3, 1) := by decide +kernel
theorem dX7_readLine_64 : decode cX7_readLine 64 = .ok (.aload_n 1, 1) := by decide +kernel
theorem dX7_readLine_65 : decode cX7_readLine 65 = .ok (.aload_n 0, 1) := by decide +kernel
theorem dX7_readLine_66 : decode cX7_readLine 66 = .ok (.getfield 18, 3) := by decide +kernel
theorem dX7_readLine_69 : decode cX7_readLine 69 = .ok (.iload_n 3, 1) := by decide +kernel
theorem dX7_readLine_70 : decode cX7_readLine 70 = .ok (.iaload, 1) := by decide +kernel
theorem dX7_readLine_71 : decode cX7_readLine 71 = .ok (.sipush 400, 3) := by decide +kernel
theorem dX7_readLine_74 : decode cX7_readLine 74 = .ok (.invokevirtual 46, 3) := by decide +kernel
theorem dX7_readLine_77 : decode cX7_readLine 77 = .ok (.iastore, 1) := by decide +kernel
theorem dX7_readLine_78 : decode cX7_readLine 78 = .ok (.aload_n 1, 1) := by decide +kernel
theorem dX7_readLine_79 : decode cX7_readLine 79 = .ok (.bipush 59, 2) := by decide +kernel
theorem dX7_readLine_81 : decode cX7_readLine 81 = .ok (.invokevirtual 53, 3) := by decide +kernel
theorem dX7_readLine_84 : decode cX7_readLine 84 = .ok (.return_, 1) := by decide +kernel
abbrev z_X7_readLine_41_51 : Z9 := (none, 0, 0, 0, 12, 338)
def m_X7_readLine_41_51_c27 (v3 s0 s1 s3 : Int) (d : D9) : Option R9 := cl (m_X8_number_51 s1 (s0 - 1) d) (fun r1 d2 => sd d2 43 12 s3 r1 (fun d3 => cl (m_X8_needWord_51 7 d3) (fun r4 d5 => cl (m_X8_number_51 0 400 d5) (fun r6 d7 => sd d7 44 12 v3 r6 (fun d8 => cl (m_X8_needWord_51 6 d8) (fun r9 d10 => ld d10 44 12 v3 (fun t11 => cl (m_X8_number_51 t11 400 d10) (fun r12 d13 => sd d13 45 12 v3 r12 (fun d14 => cl (m_X8_needSign_51 59 d14) (fun r15 d16 => rt 0 d16))))))))))
def m_X7_readLine_41_51 (p2 p3 : Int) (d : D9) : Option R9 := sd d 42 12 p3 p2 (fun d1 => if w32 p2 ≠ w32 23 then m_X7_readLine_41_51_c27  p3 6 0 p3 d1 else m_X7_readLine_41_51_c27  p3 10 0 p3 d1)
set_option maxRecDepth 100000 in
theorem s_X7_readLine_41_51_c27 {G : G9} {X : X9} (C : CX G X cX7_readLine 4 RX7 [] z_X7_readLine_41_51) : ∀ (v3 s0 s1 s3 : Int) (d : D9), SS G X 4 0 0 27 [(0, rf G 41), (1, rf G 51), (3, i9 v3)] [i9 s0, i9 s1, rf G 51, i9 s3, rf G 43] d (m_X7_readLine_41_51_c27  v3 s0 s1 s3 d) := by
  intro v3 s0 s1 s3 d
  unfold m_X7_readLine_41_51_c27
  refine r_iconst C dX7_readLine_27 ?_
  refine r_isub C dX7_readLine_28 ?_
  refine r_callV C [i9 (s0 - 1), i9 s1, rf G 51, i9 s3, rf G 43] dX7_readLine_29 (t_X8_number_51 C.h1 C.h2 s1 (s0 - 1) d) mw_X7_46 mv_X8_number la_51 ly_51 rfl (by decide) (by decide) (by decide) rfl rfl (Nat.le_of_ble_eq_true rfl) (fun r1 d2 => ?_)
  show SS G X 4 _ _ 32 [(0, rf G 41), (1, rf G 51), (3, i9 v3)] [i9 r1, i9 s3, rf G 43] d2 _
  refine r_iast C dX7_readLine_32 la_43 ly_43 (fun d3 => ?_)
  refine r_aload_n C 1 dX7_readLine_33 rfl rfl ?_
  refine r_bipush C dX7_readLine_34 rfl ?_
  refine r_callV C [i9 7, rf G 51] dX7_readLine_36 (t_X8_needWord_51 C.h1 C.h2 7 d3) mw_X7_49 mv_X8_needWord la_51 ly_51 rfl (by decide) (by decide) (by decide) rfl rfl (Nat.le_of_ble_eq_true rfl) (fun r4 d5 => ?_)
  show SS G X 4 _ _ 39 [(0, rf G 41), (1, rf G 51), (3, i9 v3)] [] d5 _
  refine r_aload_n C 0 dX7_readLine_39 rfl rfl ?_
  refine r_getR C 44 dX7_readLine_40 fl_X7_18 la_41 ly_41 rfl rfl ?_
  refine r_iload_n C 2 dX7_readLine_43 rfl rfl ?_
  refine r_aload_n C 1 dX7_readLine_44 rfl rfl ?_
  refine r_iconst C dX7_readLine_45 ?_
  refine r_sipush C dX7_readLine_46 rfl ?_
  refine r_callV C [i9 400, i9 0, rf G 51, i9 v3, rf G 44] dX7_readLine_49 (t_X8_number_51 C.h1 C.h2 0 400 d5) mw_X7_46 mv_X8_number la_51 ly_51 rfl (by decide) (by decide) (by decide) rfl rfl (Nat.le_of_ble_eq_true rfl) (fun r6 d7 => ?_)
  show SS G X 4 _ _ 52 [(0, rf G 41), (1, rf G 51), (3, i9 v3)] [i9 r6, i9 v3, rf G 44] d7 _
  refine r_iast C dX7_readLine_52 la_44 ly_44 (fun d8 => ?_)
  refine r_aload_n C 1 dX7_readLine_53 rfl rfl ?_
  refine r_bipush C dX7_readLine_54 rfl ?_
  refine r_callV C [i9 6, rf G 51] dX7_readLine_56 (t_X8_needWord_51 C.h1 C.h2 6 d8) mw_X7_49 mv_X8_needWord la_51 ly_51 rfl (by decide) (by decide) (by decide) rfl rfl (Nat.le_of_ble_eq_true rfl) (fun r9 d10 => ?_)
  show SS G X 4 _ _ 59 [(0, rf G 41), (1, rf G 51), (3, i9 v3)] [] d10 _
  refine r_aload_n C 0 dX7_readLine_59 rfl rfl ?_
  refine r_getR C 45 dX7_readLine_60 fl_X7_21 la_41 ly_41 rfl rfl ?_
  refine r_iload_n C 2 dX7_readLine_63 rfl rfl ?_
  refine r_aload_n C 1 dX7_readLine_64 rfl rfl ?_
  refine r_aload_n C 0 dX7_readLine_65 rfl rfl ?_
  refine r_getR C 44 dX7_readLine_66 fl_X7_18 la_41 ly_41 rfl rfl ?_
  refine r_iload_n C 2 dX7_readLine_69 rfl rfl ?_
  refine r_iald C dX7_readLine_70 la_44 ly_44 (fun t11 => ?_)
  refine r_sipush C dX7_readLine_71 rfl ?_
  refine r_callV C [i9 400, i9 t11, rf G 51, i9 v3, rf G 45] dX7_readLine_74 (t_X8_number_51 C.h1 C.h2 t11 400 d10) mw_X7_46 mv_X8_number la_51 ly_51 rfl (by decide) (by decide) (by decide) rfl rfl (Nat.le_of_ble_eq_true rfl) (fun r12 d13 => ?_)
  show SS G X 4 _ _ 77 [(0, rf G 41), (1, rf G 51), (3, i9 v3)] [i9 r12, i9 v3, rf G 45] d13 _
  refine r_iast C dX7_readLine_77 la_45 ly_45 (fun d14 => ?_)
  refine r_aload_n C 1 dX7_readLine_78 rfl rfl ?_
  refine r_bipush C dX7_readLine_79 rfl ?_
  refine r_callV C [i9 59, rf G 51] dX7_readLine_81 (t_X8_needSign_51 C.h1 C.h2 59 d14) mw_X7_53 mv_X8_needSign la_51 ly_51 rfl (by decide) (by decide) (by decide) rfl rfl (Nat.le_of_ble_eq_true rfl) (fun r15 d16 => ?_)
  show SS G X 4 _ _ 84 [(0, rf G 41), (1, rf G 51), (3, i9 v3)] [] d16 _
  exact r_vret C dX7_readLine_84 (by decide) (by decide)
set_option maxRecDepth 100000 in
theorem t_X7_readLine_41_51 {G : G9} {l : Launch} (h1 : va_D (A9 G) (wl G (fun _ _ => 0))) (h2 : l.stackTraces = false) (p2 p3 : Int) (d : D9) : MT G l yX7_readLine cX7_readLine 4 z_X7_readLine_41_51 [rf G 41, rf G 51, i9 p2, i9 p3] d (m_X7_readLine_41_51 p2 p3 d) := by
  refine mt_of (own := RX7) (by decide) rfl (Nat.le_of_ble_eq_true rfl) h1 h2 [(0, rf G 41), (1, rf G 51), (2, i9 p2), (3, i9 p3)] rfl (fun X hX C => ?_)
  unfold m_X7_readLine_41_51
  refine r_aload_n C 0 dX7_readLine_0 rfl rfl ?_
  refine r_getR C 42 dX7_readLine_1 fl_X7_9 la_41 ly_41 rfl rfl ?_
  refine r_iload_n C 3 dX7_readLine_4 rfl rfl ?_
  refine r_iload_n C 2 dX7_readLine_5 rfl rfl ?_
  refine r_iast C dX7_readLine_6 la_42 ly_42 (fun d1 => ?_)
  refine r_aload_n C 0 dX7_readLine_7 rfl rfl ?_
  refine r_getR C 43 dX7_readLine_8 fl_X7_15 la_41 ly_41 rfl rfl ?_
  refine r_iload_n C 3 dX7_readLine_11 rfl rfl ?_
  refine r_aload_n C 1 dX7_readLine_12 rfl rfl ?_
  refine r_iconst C dX7_readLine_13 ?_
  refine r_iload_n C 2 dX7_readLine_14 rfl rfl ?_
  refine r_bipush C dX7_readLine_15 rfl ?_
  refine r_icmp_ne C 25 dX7_readLine_17 (by decide) (fun _ => ?_) (fun _ => ?_)
  · refine r_bipush C dX7_readLine_25 rfl ?_
    refine ss_wide (k' := 0) (n' := 0) (by decide) (by decide) ?_
    refine ss_ls [(0, rf G 41), (1, rf G 51), (3, i9 p3)] [0, 1, 3] rfl ?_
    exact s_X7_readLine_41_51_c27 C  p3 6 0 p3 d1
  · refine r_bipush C dX7_readLine_20 rfl ?_
    refine r_goto C 27 dX7_readLine_22 (by decide) ?_
    refine ss_wide (k' := 0) (n' := 0) (by decide) (by decide) ?_
    refine ss_ls [(0, rf G 41), (1, rf G 51), (3, i9 p3)] [0, 1, 3] rfl ?_
    exact s_X7_readLine_41_51_c27 C  p3 10 0 p3 d1
theorem dX7_readFrom_0 : decode cX7_readFrom 0 = .ok (.aload_n 0, 1) := by decide +kernel
theorem dX7_readFrom_1 : decode cX7_readFrom 1 = .ok (.iconst 0, 1) := by decide +kernel
theorem dX7_readFrom_2 : decode cX7_readFrom 2 = .ok (.putfield 24, 3) := by decide +kernel
theorem dX7_readFrom_5 : decode cX7_readFrom 5 = .ok (.iconst 0, 1) := by decide +kernel
theorem dX7_readFrom_6 : decode cX7_readFrom 6 = .ok (.istore_n 2, 1) := by decide +kernel
theorem dX7_readFrom_7 : decode cX7_readFrom 7 = .ok (.iload_n 2, 1) := by decide +kernel
theorem dX7_readFrom_8 : decode cX7_readFrom 8 = .ok (.bipush 12, 2) := by decide +kernel
theorem dX7_readFrom_10 : decode cX7_readFrom 10 = .ok (.if_icmp .gt 51, 3) := by decide +kernel
theorem dX7_readFrom_13 : decode cX7_readFrom 13 = .ok (.aload_n 1, 1) := by decide +kernel
theorem dX7_readFrom_14 : decode cX7_readFrom 14 = .ok (.invokevirtual 32, 3) := by decide +kernel
theorem dX7_readFrom_17 : decode cX7_readFrom 17 = .ok (.ifCond .eq 44, 3) := by decide +kernel
theorem dX7_readFrom_20 : decode cX7_readFrom 20 = .ok (.aload_n 1, 1) := by decide +kernel
theorem dX7_readFrom_21 : decode cX7_readFrom 21 = .ok (.bipush 23, 2) := by decide +kernel
theorem dX7_readFrom_23 : decode cX7_readFrom 23 = .ok (.bipush 24, 2) := by decide +kernel
theorem dX7_readFrom_25 : decode cX7_readFrom 25 = .ok (.iload_n 2, 1) := by decide +kernel
theorem dX7_readFrom_26 : decode cX7_readFrom 26 = .ok (.invokevirtual 38, 3) := by decide +kernel
theorem dX7_readFrom_29 : decode cX7_readFrom 29 = .ok (.istore_n 3, 1) := by decide +kernel
theorem dX7_readFrom_30 : decode cX7_readFrom 30 = .ok (.iload_n 3, 1) := by decide +kernel
theorem dX7_readFrom_31 : decode cX7_readFrom 31 = .ok (.iconst (-1), 1) := by decide +kernel
theorem dX7_readFrom_32 : decode cX7_readFrom 32 = .ok (.if_icmp .eq 23, 3) := by decide +kernel
theorem dX7_readFrom_35 : decode cX7_readFrom 35 = .ok (.iload_n 2, 1) := by decide +kernel
theorem dX7_readFrom_36 : decode cX7_readFrom 36 = .ok (.bipush 12, 2) := by decide +kernel
theorem dX7_readFrom_38 : decode cX7_readFrom 38 = .ok (.if_icmp .ge 17, 3) := by decide +kernel
theorem dX7_readFrom_41 : decode cX7_readFrom 41 = .ok (.aload_n 0, 1) := by decide +kernel
theorem dX7_readFrom_42 : decode cX7_readFrom 42 = .ok (.aload_n 1, 1) := by decide +kernel
theorem dX7_readFrom_43 : decode cX7_readFrom 43 = .ok (.iload_n 3, 1) := by decide +kernel
theorem dX7_readFrom_44 : decode cX7_readFrom 44 = .ok (.iload_n 2, 1) := by decide +kernel
theorem dX7_readFrom_45 : decode cX7_readFrom 45 = .ok (.invokevirtual 42, 3) := by decide +kernel
theorem dX7_readFrom_48 : decode cX7_readFrom 48 = .ok (.aload_n 0, 1) := by decide +kernel
theorem dX7_readFrom_49 : decode cX7_readFrom 49 = .ok (.iload_n 2, 1) := by decide +kernel
theorem dX7_readFrom_50 : decode cX7_readFrom 50 = .ok (.iconst 1, 1) := by decide +kernel
theorem dX7_readFrom_51 : decode cX7_readFrom 51 = .ok (.iadd, 1) := by decide +kernel
theorem dX7_readFrom_52 : decode cX7_readFrom 52 = .ok (.putfield 24, 3) := by decide +kernel
theorem dX7_readFrom_55 : decode cX7_readFrom 55 = .ok (.iinc 2 1, 3) := by decide +kernel
theorem dX7_readFrom_58 : decode cX7_readFrom 58 = .ok (.goto (-51), 3) := by decide +kernel
theorem dX7_readFrom_61 : decode cX7_readFrom 61 = .ok (.return_, 1) := by decide +kernel
abbrev z_X7_readFrom_41_51 : Z9 := (none, 0, 0, 0, 13, 361)
def b_X7_readFrom_41_51_c7 (k_X7_readFrom_41_51_c7 : Int → D9 → Option R9) (v2 : Int) (d : D9) : Option R9 := if w32 12 < w32 v2 then rt 0 d else cl (m_X8_goesOn_51 d) (fun r1 d2 => if w32 r1 = 0 then rt 0 d2 else cl (m_X8_firstWord_51 23 24 v2 d2) (fun r3 d4 => if w32 r3 = w32 (-1) then k_X7_readFrom_41_51_c7 (v2 + 1) d4 else if w32 12 ≤ w32 v2 then k_X7_readFrom_41_51_c7 (v2 + 1) d4 else cl (m_X7_readLine_41_51 r3 v2 d4) (fun r5 d6 => pf d6 41 0 (v2 + 1) (fun d7 => k_X7_readFrom_41_51_c7 (v2 + 1) d7))))
def m_X7_readFrom_41_51_c7 : Int → D9 → Option R9 := fix9 (fun _ _ => none) (fun k => b_X7_readFrom_41_51_c7 k) FU
def m_X7_readFrom_41_51 (d : D9) : Option R9 := pf d 41 0 0 (fun d1 => m_X7_readFrom_41_51_c7  0 d1)
set_option maxRecDepth 100000 in
theorem sb_X7_readFrom_41_51_c7 {G : G9} {X : X9} (C : CX G X cX7_readFrom 4 RX7 [] z_X7_readFrom_41_51) (k_X7_readFrom_41_51_c7 : Int → D9 → Option R9) (hk_X7_readFrom_41_51_c7 : ∀ (v2 : Int) (d : D9), SS G X 4 0 0 7 [(0, rf G 41), (1, rf G 51), (2, i9 v2)] [] d (k_X7_readFrom_41_51_c7 v2 d)) : ∀ (v2 : Int) (d : D9), SS G X 4 0 0 7 [(0, rf G 41), (1, rf G 51), (2, i9 v2)] [] d (b_X7_readFrom_41_51_c7 k_X7_readFrom_41_51_c7 v2 d) := by
  intro v2 d
  unfold b_X7_readFrom_41_51_c7
  refine r_iload_n C 2 dX7_readFrom_7 rfl rfl ?_
  refine r_bipush C dX7_readFrom_8 rfl ?_
  refine r_icmp_gt C 61 dX7_readFrom_10 (by decide) (fun _ => ?_) (fun _ => ?_)
  · exact r_vret C dX7_readFrom_61 (by decide) (by decide)
  · refine r_aload_n C 1 dX7_readFrom_13 rfl rfl ?_
    refine r_callV C [rf G 51] dX7_readFrom_14 (t_X8_goesOn_51 C.h1 C.h2 d) mw_X7_32 mv_X8_goesOn la_51 ly_51 rfl (by decide) (by decide) (by decide) rfl rfl (Nat.le_of_ble_eq_true rfl) (fun r1 d2 => ?_)
    show SS G X 4 _ _ 17 [(0, rf G 41), (1, rf G 51), (2, i9 v2)] [i9 r1] d2 _
    refine r_if_eq C (b := 0) 61 dX7_readFrom_17 (by decide) (fun _ => ?_) (fun _ => ?_)
    · exact r_vret C dX7_readFrom_61 (by decide) (by decide)
    · refine r_aload_n C 1 dX7_readFrom_20 rfl rfl ?_
      refine r_bipush C dX7_readFrom_21 rfl ?_
      refine r_bipush C dX7_readFrom_23 rfl ?_
      refine r_iload_n C 2 dX7_readFrom_25 rfl rfl ?_
      refine r_callV C [i9 v2, i9 24, i9 23, rf G 51] dX7_readFrom_26 (t_X8_firstWord_51 C.h1 C.h2 23 24 v2 d2) mw_X7_38 mv_X8_firstWord la_51 ly_51 rfl (by decide) (by decide) (by decide) rfl rfl (Nat.le_of_ble_eq_true rfl) (fun r3 d4 => ?_)
      show SS G X 4 _ _ 29 [(0, rf G 41), (1, rf G 51), (2, i9 v2)] [i9 r3] d4 _
      refine r_istore_n C [(3, i9 r3), (0, rf G 41), (1, rf G 51), (2, i9 v2)] dX7_readFrom_29 rfl (by decide) rfl ?_
      refine r_iload_n C 0 dX7_readFrom_30 rfl rfl ?_
      refine r_iconst C dX7_readFrom_31 ?_
      refine r_icmp_eq C 55 dX7_readFrom_32 (by decide) (fun _ => ?_) (fun _ => ?_)
      · refine r_iinc C 3 [(2, i9 (v2 + 1)), (3, i9 r3), (0, rf G 41), (1, rf G 51)] dX7_readFrom_55 rfl (by decide) rfl ?_
        refine r_goto C 7 dX7_readFrom_58 (by decide) ?_
        refine ss_wide (k' := 0) (n' := 0) (by decide) (by decide) ?_
        refine ss_ls [(0, rf G 41), (1, rf G 51), (2, i9 (v2 + 1))] [2, 3, 0] rfl ?_
        exact hk_X7_readFrom_41_51_c7 (v2 + 1) d4
      · refine r_iload_n C 3 dX7_readFrom_35 rfl rfl ?_
        refine r_bipush C dX7_readFrom_36 rfl ?_
        refine r_icmp_ge C 55 dX7_readFrom_38 (by decide) (fun _ => ?_) (fun _ => ?_)
        · refine r_iinc C 3 [(2, i9 (v2 + 1)), (3, i9 r3), (0, rf G 41), (1, rf G 51)] dX7_readFrom_55 rfl (by decide) rfl ?_
          refine r_goto C 7 dX7_readFrom_58 (by decide) ?_
          refine ss_wide (k' := 0) (n' := 0) (by decide) (by decide) ?_
          refine ss_ls [(0, rf G 41), (1, rf G 51), (2, i9 (v2 + 1))] [2, 3, 0] rfl ?_
          exact hk_X7_readFrom_41_51_c7 (v2 + 1) d4
        · refine r_aload_n C 1 dX7_readFrom_41 rfl rfl ?_
          refine r_aload_n C 2 dX7_readFrom_42 rfl rfl ?_
          refine r_iload_n C 0 dX7_readFrom_43 rfl rfl ?_
          refine r_iload_n C 3 dX7_readFrom_44 rfl rfl ?_
          refine r_callV C [i9 v2, i9 r3, rf G 51, rf G 41] dX7_readFrom_45 (t_X7_readLine_41_51 C.h1 C.h2 r3 v2 d4) mw_X7_42 mv_X7_readLine la_41 ly_41 rfl (by decide) (by decide) (by decide) rfl rfl (Nat.le_of_ble_eq_true rfl) (fun r5 d6 => ?_)
          show SS G X 4 _ _ 48 [(3, i9 r3), (0, rf G 41), (1, rf G 51), (2, i9 v2)] [] d6 _
          refine r_aload_n C 1 dX7_readFrom_48 rfl rfl ?_
          refine r_iload_n C 3 dX7_readFrom_49 rfl rfl ?_
          refine r_iconst C dX7_readFrom_50 ?_
          refine r_iadd C dX7_readFrom_51 ?_
          refine r_putI C dX7_readFrom_52 fp_X7_24 la_41 ly_41 rfl (fun d7 => ?_)
          refine r_iinc C 3 [(2, i9 (v2 + 1)), (3, i9 r3), (0, rf G 41), (1, rf G 51)] dX7_readFrom_55 rfl (by decide) rfl ?_
          refine r_goto C 7 dX7_readFrom_58 (by decide) ?_
          refine ss_wide (k' := 0) (n' := 0) (by decide) (by decide) ?_
          refine ss_ls [(0, rf G 41), (1, rf G 51), (2, i9 (v2 + 1))] [2, 3, 0] rfl ?_
          exact hk_X7_readFrom_41_51_c7 (v2 + 1) d7
theorem s_X7_readFrom_41_51_c7 {G : G9} {X : X9} (C : CX G X cX7_readFrom 4 RX7 [] z_X7_readFrom_41_51) : ∀ (v2 : Int) (d : D9), SS G X 4 0 0 7 [(0, rf G 41), (1, rf G 51), (2, i9 v2)] [] d (m_X7_readFrom_41_51_c7  v2 d) :=
  fix9_ind (P := fun k => ∀ (v2 : Int) (d : D9), SS G X 4 0 0 7 [(0, rf G 41), (1, rf G 51), (2, i9 v2)] [] d (k v2 d)) (fun _ _ => ss_none) (fun k hk => sb_X7_readFrom_41_51_c7 C k hk) FU
set_option maxRecDepth 100000 in
theorem t_X7_readFrom_41_51 {G : G9} {l : Launch} (h1 : va_D (A9 G) (wl G (fun _ _ => 0))) (h2 : l.stackTraces = false) (d : D9) : MT G l yX7_readFrom cX7_readFrom 4 z_X7_readFrom_41_51 [rf G 41, rf G 51] d (m_X7_readFrom_41_51  d) := by
  refine mt_of (own := RX7) (by decide) rfl (Nat.le_of_ble_eq_true rfl) h1 h2 [(0, rf G 41), (1, rf G 51)] rfl (fun X hX C => ?_)
  unfold m_X7_readFrom_41_51
  refine r_aload_n C 0 dX7_readFrom_0 rfl rfl ?_
  refine r_iconst C dX7_readFrom_1 ?_
  refine r_putI C dX7_readFrom_2 fp_X7_24 la_41 ly_41 rfl (fun d1 => ?_)
  refine r_iconst C dX7_readFrom_5 ?_
  refine r_istore_n C [(2, i9 0), (0, rf G 41), (1, rf G 51)] dX7_readFrom_6 rfl (by decide) rfl ?_
  refine ss_wide (k' := 0) (n' := 0) (by decide) (by decide) ?_
  refine ss_ls [(0, rf G 41), (1, rf G 51), (2, i9 0)] [1, 2, 0] rfl ?_
  exact s_X7_readFrom_41_51_c7 C  0 d1

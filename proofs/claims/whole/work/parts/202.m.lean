theorem dX5_nextByRule_0 : decode cX5_nextByRule 0 = .ok (.aload_n 1, 1) := by decide +kernel
theorem dX5_nextByRule_1 : decode cX5_nextByRule 1 = .ok (.getfield 87, 3) := by decide +kernel
theorem dX5_nextByRule_4 : decode cX5_nextByRule 4 = .ok (.astore_n 3, 1) := by decide +kernel
theorem dX5_nextByRule_5 : decode cX5_nextByRule 5 = .ok (.iconst (-1), 1) := by decide +kernel
theorem dX5_nextByRule_6 : decode cX5_nextByRule 6 = .ok (.istore 4, 2) := by decide +kernel
theorem dX5_nextByRule_8 : decode cX5_nextByRule 8 = .ok (.iconst 0, 1) := by decide +kernel
theorem dX5_nextByRule_9 : decode cX5_nextByRule 9 = .ok (.istore 5, 2) := by decide +kernel
theorem dX5_nextByRule_11 : decode cX5_nextByRule 11 = .ok (.iload 5, 2) := by decide +kernel
theorem dX5_nextByRule_13 : decode cX5_nextByRule 13 = .ok (.aload_n 3, 1) := by decide +kernel
theorem dX5_nextByRule_14 : decode cX5_nextByRule 14 = .ok (.getfield 58, 3) := by decide +kernel
theorem dX5_nextByRule_17 : decode cX5_nextByRule 17 = .ok (.if_icmp .ge 126, 3) := by decide +kernel
theorem dX5_nextByRule_20 : decode cX5_nextByRule 20 = .ok (.aload_n 3, 1) := by decide +kernel
theorem dX5_nextByRule_21 : decode cX5_nextByRule 21 = .ok (.getfield 61, 3) := by decide +kernel
theorem dX5_nextByRule_24 : decode cX5_nextByRule 24 = .ok (.iload 5, 2) := by decide +kernel
theorem dX5_nextByRule_26 : decode cX5_nextByRule 26 = .ok (.iaload, 1) := by decide +kernel
theorem dX5_nextByRule_27 : decode cX5_nextByRule 27 = .ok (.ifCond .ne 33, 3) := by decide +kernel
theorem dX5_nextByRule_30 : decode cX5_nextByRule 30 = .ok (.aload_n 0, 1) := by decide +kernel
theorem dX5_nextByRule_31 : decode cX5_nextByRule 31 = .ok (.getfield 81, 3) := by decide +kernel
theorem dX5_nextByRule_34 : decode cX5_nextByRule 34 = .ok (.iload 5, 2) := by decide +kernel
theorem dX5_nextByRule_36 : decode cX5_nextByRule 36 = .ok (.invokestatic 74, 3) := by decide +kernel
theorem dX5_nextByRule_39 : decode cX5_nextByRule 39 = .ok (.ifCond .ne 21, 3) := by decide +kernel
theorem dX5_nextByRule_42 : decode cX5_nextByRule 42 = .ok (.aload_n 3, 1) := by decide +kernel
theorem dX5_nextByRule_43 : decode cX5_nextByRule 43 = .ok (.getfield 68, 3) := by decide +kernel
theorem dX5_nextByRule_46 : decode cX5_nextByRule 46 = .ok (.iload 5, 2) := by decide +kernel
theorem dX5_nextByRule_48 : decode cX5_nextByRule 48 = .ok (.iaload, 1) := by decide +kernel
theorem dX5_nextByRule_49 : decode cX5_nextByRule 49 = .ok (.aload_n 0, 1) := by decide +kernel
theorem dX5_nextByRule_50 : decode cX5_nextByRule 50 = .ok (.getfield 84, 3) := by decide +kernel
theorem dX5_nextByRule_53 : decode cX5_nextByRule 53 = .ok (.if_icmp .gt 7, 3) := by decide +kernel
theorem dX5_nextByRule_56 : decode cX5_nextByRule 56 = .ok (.iconst 1, 1) := by decide +kernel
theorem dX5_nextByRule_57 : decode cX5_nextByRule 57 = .ok (.goto 4, 3) := by decide +kernel
theorem dX5_nextByRule_60 : decode cX5_nextByRule 60 = .ok (.iconst 0, 1) := by decide +kernel
theorem dX5_nextByRule_61 : decode cX5_nextByRule 61 = .ok (.istore 6, 2) := by decide +kernel
theorem dX5_nextByRule_63 : decode cX5_nextByRule 63 = .ok (.iload 4, 2) := by decide +kernel
theorem dX5_nextByRule_65 : decode cX5_nextByRule 65 = .ok (.iconst (-1), 1) := by decide +kernel
theorem dX5_nextByRule_66 : decode cX5_nextByRule 66 = .ok (.if_icmp .eq 20, 3) := by decide +kernel
theorem dX5_nextByRule_69 : decode cX5_nextByRule 69 = .ok (.aload_n 3, 1) := by decide +kernel
theorem dX5_nextByRule_70 : decode cX5_nextByRule 70 = .ok (.getfield 68, 3) := by decide +kernel
theorem dX5_nextByRule_73 : decode cX5_nextByRule 73 = .ok (.iload 5, 2) := by decide +kernel
theorem dX5_nextByRule_75 : decode cX5_nextByRule 75 = .ok (.iaload, 1) := by decide +kernel
theorem dX5_nextByRule_76 : decode cX5_nextByRule 76 = .ok (.aload_n 3, 1) := by decide +kernel
theorem dX5_nextByRule_77 : decode cX5_nextByRule 77 = .ok (.getfield 68, 3) := by decide +kernel
theorem dX5_nextByRule_80 : decode cX5_nextByRule 80 = .ok (.iload 4, 2) := by decide +kernel
theorem dX5_nextByRule_82 : decode cX5_nextByRule 82 = .ok (.iaload, 1) := by decide +kernel
theorem dX5_nextByRule_83 : decode cX5_nextByRule 83 = .ok (.if_icmp .ge 7, 3) := by decide +kernel
theorem dX5_nextByRule_86 : decode cX5_nextByRule 86 = .ok (.iconst 1, 1) := by decide +kernel
theorem dX5_nextByRule_87 : decode cX5_nextByRule 87 = .ok (.goto 4, 3) := by decide +kernel
theorem dX5_nextByRule_90 : decode cX5_nextByRule 90 = .ok (.iconst 0, 1) := by decide +kernel
theorem dX5_nextByRule_91 : decode cX5_nextByRule 91 = .ok (.istore 7, 2) := by decide +kernel
theorem dX5_nextByRule_93 : decode cX5_nextByRule 93 = .ok (.iload 6, 2) := by decide +kernel
theorem dX5_nextByRule_95 : decode cX5_nextByRule 95 = .ok (.ifCond .eq 42, 3) := by decide +kernel
theorem dX5_nextByRule_98 : decode cX5_nextByRule 98 = .ok (.iload 7, 2) := by decide +kernel
theorem dX5_nextByRule_100 : decode cX5_nextByRule 100 = .ok (.ifCond .eq 37, 3) := by decide +kernel
theorem dX5_nextByRule_103 : decode cX5_nextByRule 103 = .ok (.aload_n 3, 1) := by decide +kernel
theorem dX5_nextByRule_104 : decode cX5_nextByRule 104 = .ok (.getfield 130, 3) := by decide +kernel
theorem dX5_nextByRule_107 : decode cX5_nextByRule 107 = .ok (.iload 5, 2) := by decide +kernel
theorem dX5_nextByRule_109 : decode cX5_nextByRule 109 = .ok (.iaload, 1) := by decide +kernel
theorem dX5_nextByRule_110 : decode cX5_nextByRule 110 = .ok (.aload_n 1, 1) := by decide +kernel
theorem dX5_nextByRule_111 : decode cX5_nextByRule 111 = .ok (.getfield 117, 3) := by decide +kernel
theorem dX5_nextByRule_114 : decode cX5_nextByRule 114 = .ok (.getfield 133, 3) := by decide +kernel
theorem dX5_nextByRule_117 : decode cX5_nextByRule 117 = .ok (.iload_n 2, 1) := by decide +kernel
theorem dX5_nextByRule_118 : decode cX5_nextByRule 118 = .ok (.iaload, 1) := by decide +kernel
theorem dX5_nextByRule_119 : decode cX5_nextByRule 119 = .ok (.if_icmp .ne 18, 3) := by decide +kernel
theorem dX5_nextByRule_122 : decode cX5_nextByRule 122 = .ok (.aload_n 0, 1) := by decide +kernel
theorem dX5_nextByRule_123 : decode cX5_nextByRule 123 = .ok (.aload_n 1, 1) := by decide +kernel
theorem dX5_nextByRule_124 : decode cX5_nextByRule 124 = .ok (.iload_n 2, 1) := by decide +kernel
theorem dX5_nextByRule_125 : decode cX5_nextByRule 125 = .ok (.iload 5, 2) := by decide +kernel
theorem dX5_nextByRule_127 : decode cX5_nextByRule 127 = .ok (.invokevirtual 134, 3) := by decide +kernel
theorem dX5_nextByRule_130 : decode cX5_nextByRule 130 = .ok (.ifCond .eq 7, 3) := by decide +kernel
theorem dX5_nextByRule_133 : decode cX5_nextByRule 133 = .ok (.iload 5, 2) := by decide +kernel
theorem dX5_nextByRule_135 : decode cX5_nextByRule 135 = .ok (.istore 4, 2) := by decide +kernel
theorem dX5_nextByRule_137 : decode cX5_nextByRule 137 = .ok (.iinc 5 1, 3) := by decide +kernel
theorem dX5_nextByRule_140 : decode cX5_nextByRule 140 = .ok (.goto (-129), 3) := by decide +kernel
theorem dX5_nextByRule_143 : decode cX5_nextByRule 143 = .ok (.iload 4, 2) := by decide +kernel
theorem dX5_nextByRule_145 : decode cX5_nextByRule 145 = .ok (.ireturn, 1) := by decide +kernel
abbrev z_X5_nextByRule_58_1 : Z9 := (some .int, 1, 0, 0, 4, 77)
def m_X5_nextByRule_58_1_c91 (k_X5_nextByRule_58_1_c11 : Int → Int → Int → D9 → Option R9) (v2 v4 v5 v6 s0 : Int) (d : D9) : Option R9 := if w32 v6 = 0 then k_X5_nextByRule_58_1_c11 v2 v4 (v5 + 1) d else if w32 s0 = 0 then k_X5_nextByRule_58_1_c11 v2 v4 (v5 + 1) d else ld d 11 30 v5 (fun t1 => ld d 29 12 v2 (fun t2 => if w32 t1 ≠ w32 t2 then k_X5_nextByRule_58_1_c11 v2 v4 (v5 + 1) d else cl (m_X5_holds_58_1 v2 v5 d) (fun r3 d4 => if w32 r3 = 0 then k_X5_nextByRule_58_1_c11 v2 v4 (v5 + 1) d4 else k_X5_nextByRule_58_1_c11 v2 v5 (v5 + 1) d4)))
def m_X5_nextByRule_58_1_c61 (k_X5_nextByRule_58_1_c11 : Int → Int → Int → D9 → Option R9) (v2 v4 v5 s0 : Int) (d : D9) : Option R9 := if w32 v4 = w32 (-1) then m_X5_nextByRule_58_1_c91 k_X5_nextByRule_58_1_c11 v2 v4 v5 s0 1 d else ld d 13 30 v5 (fun t1 => ld d 13 30 v4 (fun t2 => if w32 t2 ≤ w32 t1 then m_X5_nextByRule_58_1_c91 k_X5_nextByRule_58_1_c11 v2 v4 v5 s0 0 d else m_X5_nextByRule_58_1_c91 k_X5_nextByRule_58_1_c11 v2 v4 v5 s0 1 d))
def b_X5_nextByRule_58_1_c11 (k_X5_nextByRule_58_1_c11 : Int → Int → Int → D9 → Option R9) (v2 v4 v5 : Int) (d : D9) : Option R9 := if w32 (d 9 0) ≤ w32 v5 then rt v4 d else ld d 14 30 v5 (fun t1 => if w32 t1 ≠ 0 then m_X5_nextByRule_58_1_c61 k_X5_nextByRule_58_1_c11 v2 v4 v5 0 d else cl (m_X11_isIn (d 58 6) v5 d) (fun r2 d3 => if w32 r2 ≠ 0 then m_X5_nextByRule_58_1_c61 k_X5_nextByRule_58_1_c11 v2 v4 v5 0 d3 else ld d3 13 30 v5 (fun t4 => if w32 (d3 58 7) < w32 t4 then m_X5_nextByRule_58_1_c61 k_X5_nextByRule_58_1_c11 v2 v4 v5 0 d3 else m_X5_nextByRule_58_1_c61 k_X5_nextByRule_58_1_c11 v2 v4 v5 1 d3)))
def m_X5_nextByRule_58_1_c11 : Int → Int → Int → D9 → Option R9 := fix9 (fun _ _ _ _ => none) (fun k => b_X5_nextByRule_58_1_c11 k) FU
def m_X5_nextByRule_58_1 (p2 : Int) (d : D9) : Option R9 := m_X5_nextByRule_58_1_c11  p2 (-1) 0 d
set_option maxRecDepth 100000 in
theorem s_X5_nextByRule_58_1_c91 {G : G9} {X : X9} (C : CX G X cX5_nextByRule 8 RX5 [] z_X5_nextByRule_58_1) (k_X5_nextByRule_58_1_c11 : Int → Int → Int → D9 → Option R9) (hk_X5_nextByRule_58_1_c11 : ∀ (v2 v4 v5 : Int) (d : D9), SS G X 8 0 0 11 [(0, rf G 58), (1, rf G 1), (2, i9 v2), (3, rf G 9), (4, i9 v4), (5, i9 v5)] [] d (k_X5_nextByRule_58_1_c11 v2 v4 v5 d)) : ∀ (v2 v4 v5 v6 s0 : Int) (d : D9), SS G X 8 0 0 91 [(0, rf G 58), (1, rf G 1), (2, i9 v2), (3, rf G 9), (4, i9 v4), (5, i9 v5), (6, i9 v6)] [i9 s0] d (m_X5_nextByRule_58_1_c91 k_X5_nextByRule_58_1_c11 v2 v4 v5 v6 s0 d) := by
  intro v2 v4 v5 v6 s0 d
  unfold m_X5_nextByRule_58_1_c91
  refine r_istore C [(7, i9 s0), (0, rf G 58), (1, rf G 1), (2, i9 v2), (3, rf G 9), (4, i9 v4), (5, i9 v5), (6, i9 v6)] dX5_nextByRule_91 (by decide) rfl ?_
  refine r_iload C 7 dX5_nextByRule_93 rfl ?_
  refine r_if_eq C (b := 0) 137 dX5_nextByRule_95 (by decide) (fun _ => ?_) (fun _ => ?_)
  · refine r_iinc C 6 [(5, i9 (v5 + 1)), (7, i9 s0), (0, rf G 58), (1, rf G 1), (2, i9 v2), (3, rf G 9), (4, i9 v4), (6, i9 v6)] dX5_nextByRule_137 rfl (by decide) rfl ?_
    refine r_goto C 11 dX5_nextByRule_140 (by decide) ?_
    refine ss_wide (k' := 0) (n' := 0) (by decide) (by decide) ?_
    refine ss_ls [(0, rf G 58), (1, rf G 1), (2, i9 v2), (3, rf G 9), (4, i9 v4), (5, i9 (v5 + 1))] [2, 3, 4, 5, 6, 0] rfl ?_
    exact hk_X5_nextByRule_58_1_c11 v2 v4 (v5 + 1) d
  · refine r_iload C 0 dX5_nextByRule_98 rfl ?_
    refine r_if_eq C (b := 0) 137 dX5_nextByRule_100 (by decide) (fun _ => ?_) (fun _ => ?_)
    · refine r_iinc C 6 [(5, i9 (v5 + 1)), (7, i9 s0), (0, rf G 58), (1, rf G 1), (2, i9 v2), (3, rf G 9), (4, i9 v4), (6, i9 v6)] dX5_nextByRule_137 rfl (by decide) rfl ?_
      refine r_goto C 11 dX5_nextByRule_140 (by decide) ?_
      refine ss_wide (k' := 0) (n' := 0) (by decide) (by decide) ?_
      refine ss_ls [(0, rf G 58), (1, rf G 1), (2, i9 v2), (3, rf G 9), (4, i9 v4), (5, i9 (v5 + 1))] [2, 3, 4, 5, 6, 0] rfl ?_
      exact hk_X5_nextByRule_58_1_c11 v2 v4 (v5 + 1) d
    · refine r_aload_n C 4 dX5_nextByRule_103 rfl rfl ?_
      refine r_getR C 11 dX5_nextByRule_104 fl_X5_130 la_9 ly_9 rfl rfl ?_
      refine r_iload C 6 dX5_nextByRule_107 rfl ?_
      refine r_iald C dX5_nextByRule_109 la_11 ly_11 (fun t1 => ?_)
      refine r_aload_n C 2 dX5_nextByRule_110 rfl rfl ?_
      refine r_getR C 28 dX5_nextByRule_111 fl_X5_117 la_1 ly_1 rfl rfl ?_
      refine r_getR C 29 dX5_nextByRule_114 fl_X5_133 la_28 ly_28 rfl rfl ?_
      refine r_iload_n C 3 dX5_nextByRule_117 rfl rfl ?_
      refine r_iald C dX5_nextByRule_118 la_29 ly_29 (fun t2 => ?_)
      refine r_icmp_ne C 137 dX5_nextByRule_119 (by decide) (fun _ => ?_) (fun _ => ?_)
      · refine r_iinc C 6 [(5, i9 (v5 + 1)), (7, i9 s0), (0, rf G 58), (1, rf G 1), (2, i9 v2), (3, rf G 9), (4, i9 v4), (6, i9 v6)] dX5_nextByRule_137 rfl (by decide) rfl ?_
        refine r_goto C 11 dX5_nextByRule_140 (by decide) ?_
        refine ss_wide (k' := 0) (n' := 0) (by decide) (by decide) ?_
        refine ss_ls [(0, rf G 58), (1, rf G 1), (2, i9 v2), (3, rf G 9), (4, i9 v4), (5, i9 (v5 + 1))] [2, 3, 4, 5, 6, 0] rfl ?_
        exact hk_X5_nextByRule_58_1_c11 v2 v4 (v5 + 1) d
      · refine r_aload_n C 1 dX5_nextByRule_122 rfl rfl ?_
        refine r_aload_n C 2 dX5_nextByRule_123 rfl rfl ?_
        refine r_iload_n C 3 dX5_nextByRule_124 rfl rfl ?_
        refine r_iload C 6 dX5_nextByRule_125 rfl ?_
        refine r_callV C [i9 v5, i9 v2, rf G 1, rf G 58] dX5_nextByRule_127 (t_X5_holds_58_1 C.h1 C.h2 v2 v5 d) mw_X5_134 mv_X5_holds la_58 ly_58 rfl (by decide) (by decide) (by decide) rfl rfl (Nat.le_of_ble_eq_true rfl) (fun r3 d4 => ?_)
        show SS G X 8 _ _ 130 [(7, i9 s0), (0, rf G 58), (1, rf G 1), (2, i9 v2), (3, rf G 9), (4, i9 v4), (5, i9 v5), (6, i9 v6)] [i9 r3] d4 _
        refine r_if_eq C (b := 0) 137 dX5_nextByRule_130 (by decide) (fun _ => ?_) (fun _ => ?_)
        · refine r_iinc C 6 [(5, i9 (v5 + 1)), (7, i9 s0), (0, rf G 58), (1, rf G 1), (2, i9 v2), (3, rf G 9), (4, i9 v4), (6, i9 v6)] dX5_nextByRule_137 rfl (by decide) rfl ?_
          refine r_goto C 11 dX5_nextByRule_140 (by decide) ?_
          refine ss_wide (k' := 0) (n' := 0) (by decide) (by decide) ?_
          refine ss_ls [(0, rf G 58), (1, rf G 1), (2, i9 v2), (3, rf G 9), (4, i9 v4), (5, i9 (v5 + 1))] [2, 3, 4, 5, 6, 0] rfl ?_
          exact hk_X5_nextByRule_58_1_c11 v2 v4 (v5 + 1) d4
        · refine r_iload C 6 dX5_nextByRule_133 rfl ?_
          refine r_istore C [(4, i9 v5), (7, i9 s0), (0, rf G 58), (1, rf G 1), (2, i9 v2), (3, rf G 9), (5, i9 v5), (6, i9 v6)] dX5_nextByRule_135 (by decide) rfl ?_
          refine r_iinc C 6 [(5, i9 (v5 + 1)), (4, i9 v5), (7, i9 s0), (0, rf G 58), (1, rf G 1), (2, i9 v2), (3, rf G 9), (6, i9 v6)] dX5_nextByRule_137 rfl (by decide) rfl ?_
          refine r_goto C 11 dX5_nextByRule_140 (by decide) ?_
          refine ss_wide (k' := 0) (n' := 0) (by decide) (by decide) ?_
          refine ss_ls [(0, rf G 58), (1, rf G 1), (2, i9 v2), (3, rf G 9), (4, i9 v5), (5, i9 (v5 + 1))] [3, 4, 5, 6, 1, 0] rfl ?_
          exact hk_X5_nextByRule_58_1_c11 v2 v5 (v5 + 1) d4
set_option maxRecDepth 100000 in
theorem s_X5_nextByRule_58_1_c61 {G : G9} {X : X9} (C : CX G X cX5_nextByRule 8 RX5 [] z_X5_nextByRule_58_1) (k_X5_nextByRule_58_1_c11 : Int → Int → Int → D9 → Option R9) (hk_X5_nextByRule_58_1_c11 : ∀ (v2 v4 v5 : Int) (d : D9), SS G X 8 0 0 11 [(0, rf G 58), (1, rf G 1), (2, i9 v2), (3, rf G 9), (4, i9 v4), (5, i9 v5)] [] d (k_X5_nextByRule_58_1_c11 v2 v4 v5 d)) : ∀ (v2 v4 v5 s0 : Int) (d : D9), SS G X 8 0 0 61 [(0, rf G 58), (1, rf G 1), (2, i9 v2), (3, rf G 9), (4, i9 v4), (5, i9 v5)] [i9 s0] d (m_X5_nextByRule_58_1_c61 k_X5_nextByRule_58_1_c11 v2 v4 v5 s0 d) := by
  intro v2 v4 v5 s0 d
  unfold m_X5_nextByRule_58_1_c61
  refine r_istore C [(6, i9 s0), (0, rf G 58), (1, rf G 1), (2, i9 v2), (3, rf G 9), (4, i9 v4), (5, i9 v5)] dX5_nextByRule_61 (by decide) rfl ?_
  refine r_iload C 5 dX5_nextByRule_63 rfl ?_
  refine r_iconst C dX5_nextByRule_65 ?_
  refine r_icmp_eq C 86 dX5_nextByRule_66 (by decide) (fun _ => ?_) (fun _ => ?_)
  · refine r_iconst C dX5_nextByRule_86 ?_
    refine r_goto C 91 dX5_nextByRule_87 (by decide) ?_
    refine ss_wide (k' := 0) (n' := 0) (by decide) (by decide) ?_
    refine ss_ls [(0, rf G 58), (1, rf G 1), (2, i9 v2), (3, rf G 9), (4, i9 v4), (5, i9 v5), (6, i9 s0)] [1, 2, 3, 4, 5, 6, 0] rfl ?_
    exact s_X5_nextByRule_58_1_c91 C k_X5_nextByRule_58_1_c11 hk_X5_nextByRule_58_1_c11 v2 v4 v5 s0 1 d
  · refine r_aload_n C 4 dX5_nextByRule_69 rfl rfl ?_
    refine r_getR C 13 dX5_nextByRule_70 fl_X5_68 la_9 ly_9 rfl rfl ?_
    refine r_iload C 6 dX5_nextByRule_73 rfl ?_
    refine r_iald C dX5_nextByRule_75 la_13 ly_13 (fun t1 => ?_)
    refine r_aload_n C 4 dX5_nextByRule_76 rfl rfl ?_
    refine r_getR C 13 dX5_nextByRule_77 fl_X5_68 la_9 ly_9 rfl rfl ?_
    refine r_iload C 5 dX5_nextByRule_80 rfl ?_
    refine r_iald C dX5_nextByRule_82 la_13 ly_13 (fun t2 => ?_)
    refine r_icmp_ge C 90 dX5_nextByRule_83 (by decide) (fun _ => ?_) (fun _ => ?_)
    · refine r_iconst C dX5_nextByRule_90 ?_
      refine ss_wide (k' := 0) (n' := 0) (by decide) (by decide) ?_
      refine ss_ls [(0, rf G 58), (1, rf G 1), (2, i9 v2), (3, rf G 9), (4, i9 v4), (5, i9 v5), (6, i9 s0)] [1, 2, 3, 4, 5, 6, 0] rfl ?_
      exact s_X5_nextByRule_58_1_c91 C k_X5_nextByRule_58_1_c11 hk_X5_nextByRule_58_1_c11 v2 v4 v5 s0 0 d
    · refine r_iconst C dX5_nextByRule_86 ?_
      refine r_goto C 91 dX5_nextByRule_87 (by decide) ?_
      refine ss_wide (k' := 0) (n' := 0) (by decide) (by decide) ?_
      refine ss_ls [(0, rf G 58), (1, rf G 1), (2, i9 v2), (3, rf G 9), (4, i9 v4), (5, i9 v5), (6, i9 s0)] [1, 2, 3, 4, 5, 6, 0] rfl ?_
      exact s_X5_nextByRule_58_1_c91 C k_X5_nextByRule_58_1_c11 hk_X5_nextByRule_58_1_c11 v2 v4 v5 s0 1 d
set_option maxRecDepth 100000 in
theorem sb_X5_nextByRule_58_1_c11 {G : G9} {X : X9} (C : CX G X cX5_nextByRule 8 RX5 [] z_X5_nextByRule_58_1) (k_X5_nextByRule_58_1_c11 : Int → Int → Int → D9 → Option R9) (hk_X5_nextByRule_58_1_c11 : ∀ (v2 v4 v5 : Int) (d : D9), SS G X 8 0 0 11 [(0, rf G 58), (1, rf G 1), (2, i9 v2), (3, rf G 9), (4, i9 v4), (5, i9 v5)] [] d (k_X5_nextByRule_58_1_c11 v2 v4 v5 d)) : ∀ (v2 v4 v5 : Int) (d : D9), SS G X 8 0 0 11 [(0, rf G 58), (1, rf G 1), (2, i9 v2), (3, rf G 9), (4, i9 v4), (5, i9 v5)] [] d (b_X5_nextByRule_58_1_c11 k_X5_nextByRule_58_1_c11 v2 v4 v5 d) := by
  intro v2 v4 v5 d
  unfold b_X5_nextByRule_58_1_c11
  refine r_iload C 5 dX5_nextByRule_11 rfl ?_
  refine r_aload_n C 3 dX5_nextByRule_13 rfl rfl ?_
  refine r_getI C dX5_nextByRule_14 fl_X5_58 la_9 ly_9 rfl ?_
  refine r_icmp_ge C 143 dX5_nextByRule_17 (by decide) (fun _ => ?_) (fun _ => ?_)
  · refine r_iload C 4 dX5_nextByRule_143 rfl ?_
    exact r_iret C dX5_nextByRule_145 (by decide) (by decide)
  · refine r_aload_n C 3 dX5_nextByRule_20 rfl rfl ?_
    refine r_getR C 14 dX5_nextByRule_21 fl_X5_61 la_9 ly_9 rfl rfl ?_
    refine r_iload C 5 dX5_nextByRule_24 rfl ?_
    refine r_iald C dX5_nextByRule_26 la_14 ly_14 (fun t1 => ?_)
    refine r_if_ne C (b := 0) 60 dX5_nextByRule_27 (by decide) (fun _ => ?_) (fun _ => ?_)
    · refine r_iconst C dX5_nextByRule_60 ?_
      refine ss_wide (k' := 0) (n' := 0) (by decide) (by decide) ?_
      refine ss_ls [(0, rf G 58), (1, rf G 1), (2, i9 v2), (3, rf G 9), (4, i9 v4), (5, i9 v5)] [0, 1, 2, 3, 4, 5] rfl ?_
      exact s_X5_nextByRule_58_1_c61 C k_X5_nextByRule_58_1_c11 hk_X5_nextByRule_58_1_c11 v2 v4 v5 0 d
    · refine r_aload_n C 0 dX5_nextByRule_30 rfl rfl ?_
      refine r_getI C dX5_nextByRule_31 fl_X5_81 la_58 ly_58 rfl ?_
      refine r_iload C 5 dX5_nextByRule_34 rfl ?_
      refine r_callN C [i9 v5, i9 (d 58 6)] dX5_nextByRule_36 (t_X11_isIn C.h1 C.h2 (d 58 6) v5 d) (n_X11_isIn (d 58 6) v5 d) mn_X5_74 ms_X11_isIn (by decide) (by decide) (by decide) rfl rfl (Nat.le_of_ble_eq_true rfl) (fun r2 d3 => ?_)
      show SS G X 8 _ _ 39 [(0, rf G 58), (1, rf G 1), (2, i9 v2), (3, rf G 9), (4, i9 v4), (5, i9 v5)] [i9 r2] d3 _
      refine r_if_ne C (b := 0) 60 dX5_nextByRule_39 (by decide) (fun _ => ?_) (fun _ => ?_)
      · refine r_iconst C dX5_nextByRule_60 ?_
        refine ss_wide (k' := 0) (n' := 0) (by decide) (by decide) ?_
        refine ss_ls [(0, rf G 58), (1, rf G 1), (2, i9 v2), (3, rf G 9), (4, i9 v4), (5, i9 v5)] [0, 1, 2, 3, 4, 5] rfl ?_
        exact s_X5_nextByRule_58_1_c61 C k_X5_nextByRule_58_1_c11 hk_X5_nextByRule_58_1_c11 v2 v4 v5 0 d3
      · refine r_aload_n C 3 dX5_nextByRule_42 rfl rfl ?_
        refine r_getR C 13 dX5_nextByRule_43 fl_X5_68 la_9 ly_9 rfl rfl ?_
        refine r_iload C 5 dX5_nextByRule_46 rfl ?_
        refine r_iald C dX5_nextByRule_48 la_13 ly_13 (fun t4 => ?_)
        refine r_aload_n C 0 dX5_nextByRule_49 rfl rfl ?_
        refine r_getI C dX5_nextByRule_50 fl_X5_84 la_58 ly_58 rfl ?_
        refine r_icmp_gt C 60 dX5_nextByRule_53 (by decide) (fun _ => ?_) (fun _ => ?_)
        · refine r_iconst C dX5_nextByRule_60 ?_
          refine ss_wide (k' := 0) (n' := 0) (by decide) (by decide) ?_
          refine ss_ls [(0, rf G 58), (1, rf G 1), (2, i9 v2), (3, rf G 9), (4, i9 v4), (5, i9 v5)] [0, 1, 2, 3, 4, 5] rfl ?_
          exact s_X5_nextByRule_58_1_c61 C k_X5_nextByRule_58_1_c11 hk_X5_nextByRule_58_1_c11 v2 v4 v5 0 d3
        · refine r_iconst C dX5_nextByRule_56 ?_
          refine r_goto C 61 dX5_nextByRule_57 (by decide) ?_
          refine ss_wide (k' := 0) (n' := 0) (by decide) (by decide) ?_
          refine ss_ls [(0, rf G 58), (1, rf G 1), (2, i9 v2), (3, rf G 9), (4, i9 v4), (5, i9 v5)] [0, 1, 2, 3, 4, 5] rfl ?_
          exact s_X5_nextByRule_58_1_c61 C k_X5_nextByRule_58_1_c11 hk_X5_nextByRule_58_1_c11 v2 v4 v5 1 d3
theorem s_X5_nextByRule_58_1_c11 {G : G9} {X : X9} (C : CX G X cX5_nextByRule 8 RX5 [] z_X5_nextByRule_58_1) : ∀ (v2 v4 v5 : Int) (d : D9), SS G X 8 0 0 11 [(0, rf G 58), (1, rf G 1), (2, i9 v2), (3, rf G 9), (4, i9 v4), (5, i9 v5)] [] d (m_X5_nextByRule_58_1_c11  v2 v4 v5 d) :=
  fix9_ind (P := fun k => ∀ (v2 v4 v5 : Int) (d : D9), SS G X 8 0 0 11 [(0, rf G 58), (1, rf G 1), (2, i9 v2), (3, rf G 9), (4, i9 v4), (5, i9 v5)] [] d (k v2 v4 v5 d)) (fun _ _ _ _ => ss_none) (fun k hk => sb_X5_nextByRule_58_1_c11 C k hk) FU
set_option maxRecDepth 100000 in
theorem t_X5_nextByRule_58_1 {G : G9} {l : Launch} (h1 : va_D (A9 G) (wl G (fun _ _ => 0))) (h2 : l.stackTraces = false) (p2 : Int) (d : D9) : MT G l yX5_nextByRule cX5_nextByRule 8 z_X5_nextByRule_58_1 [rf G 58, rf G 1, i9 p2] d (m_X5_nextByRule_58_1 p2 d) := by
  refine mt_of (own := RX5) (by decide) rfl (Nat.le_of_ble_eq_true rfl) h1 h2 [(0, rf G 58), (1, rf G 1), (2, i9 p2)] rfl (fun X hX C => ?_)
  unfold m_X5_nextByRule_58_1
  refine r_aload_n C 1 dX5_nextByRule_0 rfl rfl ?_
  refine r_getR C 9 dX5_nextByRule_1 fl_X5_87 la_1 ly_1 rfl rfl ?_
  refine r_astore_n C [(3, rf G 9), (0, rf G 58), (1, rf G 1), (2, i9 p2)] dX5_nextByRule_4 rfl (by decide) rfl ?_
  refine r_iconst C dX5_nextByRule_5 ?_
  refine r_istore C [(4, i9 (-1)), (3, rf G 9), (0, rf G 58), (1, rf G 1), (2, i9 p2)] dX5_nextByRule_6 (by decide) rfl ?_
  refine r_iconst C dX5_nextByRule_8 ?_
  refine r_istore C [(5, i9 0), (4, i9 (-1)), (3, rf G 9), (0, rf G 58), (1, rf G 1), (2, i9 p2)] dX5_nextByRule_9 (by decide) rfl ?_
  refine ss_wide (k' := 0) (n' := 0) (by decide) (by decide) ?_
  refine ss_ls [(0, rf G 58), (1, rf G 1), (2, i9 p2), (3, rf G 9), (4, i9 (-1)), (5, i9 0)] [3, 4, 5, 2, 1, 0] rfl ?_
  exact s_X5_nextByRule_58_1_c11 C  p2 (-1) 0 d
theorem dX5_nextByRules_0 : decode cX5_nextByRules 0 = .ok (.iconst 0, 1) := by decide +kernel
theorem dX5_nextByRules_1 : decode cX5_nextByRules 1 = .ok (.istore_n 2, 1) := by decide +kernel
theorem dX5_nextByRules_2 : decode cX5_nextByRules 2 = .ok (.iload_n 2, 1) := by decide +kernel
theorem dX5_nextByRules_3 : decode cX5_nextByRules 3 = .ok (.aload_n 1, 1) := by decide +kernel
theorem dX5_nextByRules_4 : decode cX5_nextByRules 4 = .ok (.getfield 117, 3) := by decide +kernel
theorem dX5_nextByRules_7 : decode cX5_nextByRules 7 = .ok (.getfield 121, 3) := by decide +kernel
theorem dX5_nextByRules_10 : decode cX5_nextByRules 10 = .ok (.if_icmp .ge 23, 3) := by decide +kernel
theorem dX5_nextByRules_13 : decode cX5_nextByRules 13 = .ok (.aload_n 0, 1) := by decide +kernel
theorem dX5_nextByRules_14 : decode cX5_nextByRules 14 = .ok (.aload_n 1, 1) := by decide +kernel
theorem dX5_nextByRules_15 : decode cX5_nextByRules 15 = .ok (.iload_n 2, 1) := by decide +kernel
theorem dX5_nextByRules_16 : decode cX5_nextByRules 16 = .ok (.invokevirtual 126, 3) := by decide +kernel
theorem dX5_nextByRules_19 : decode cX5_nextByRules 19 = .ok (.istore_n 3, 1) := by decide +kernel
theorem dX5_nextByRules_20 : decode cX5_nextByRules 20 = .ok (.iload_n 3, 1) := by decide +kernel
theorem dX5_nextByRules_21 : decode cX5_nextByRules 21 = .ok (.iconst (-1), 1) := by decide +kernel
theorem dX5_nextByRules_22 : decode cX5_nextByRules 22 = .ok (.if_icmp .eq 5, 3) := by decide +kernel
theorem dX5_nextByRules_25 : decode cX5_nextByRules 25 = .ok (.iload_n 3, 1) := by decide +kernel
theorem dX5_nextByRules_26 : decode cX5_nextByRules 26 = .ok (.ireturn, 1) := by decide +kernel
theorem dX5_nextByRules_27 : decode cX5_nextByRules 27 = .ok (.iinc 2 1, 3) := by decide +kernel
theorem dX5_nextByRules_30 : decode cX5_nextByRules 30 = .ok (.goto (-28), 3) := by decide +kernel
theorem dX5_nextByRules_33 : decode cX5_nextByRules 33 = .ok (.iconst (-1), 1) := by decide +kernel
theorem dX5_nextByRules_34 : decode cX5_nextByRules 34 = .ok (.ireturn, 1) := by decide +kernel
abbrev z_X5_nextByRules_58_1 : Z9 := (some .int, 1, 0, 0, 5, 104)
def b_X5_nextByRules_58_1_c2 (k_X5_nextByRules_58_1_c2 : Int → D9 → Option R9) (v2 : Int) (d : D9) : Option R9 := if w32 (d 28 0) ≤ w32 v2 then rt (-1) d else cl (m_X5_nextByRule_58_1 v2 d) (fun r1 d2 => if w32 r1 = w32 (-1) then k_X5_nextByRules_58_1_c2 (v2 + 1) d2 else rt r1 d2)
def m_X5_nextByRules_58_1_c2 : Int → D9 → Option R9 := fix9 (fun _ _ => none) (fun k => b_X5_nextByRules_58_1_c2 k) FU
def m_X5_nextByRules_58_1 (d : D9) : Option R9 := m_X5_nextByRules_58_1_c2  0 d
set_option maxRecDepth 100000 in
theorem sb_X5_nextByRules_58_1_c2 {G : G9} {X : X9} (C : CX G X cX5_nextByRules 4 RX5 [] z_X5_nextByRules_58_1) (k_X5_nextByRules_58_1_c2 : Int → D9 → Option R9) (hk_X5_nextByRules_58_1_c2 : ∀ (v2 : Int) (d : D9), SS G X 4 0 0 2 [(0, rf G 58), (1, rf G 1), (2, i9 v2)] [] d (k_X5_nextByRules_58_1_c2 v2 d)) : ∀ (v2 : Int) (d : D9), SS G X 4 0 0 2 [(0, rf G 58), (1, rf G 1), (2, i9 v2)] [] d (b_X5_nextByRules_58_1_c2 k_X5_nextByRules_58_1_c2 v2 d) := by
  intro v2 d
  unfold b_X5_nextByRules_58_1_c2
  refine r_iload_n C 2 dX5_nextByRules_2 rfl rfl ?_
  refine r_aload_n C 1 dX5_nextByRules_3 rfl rfl ?_
  refine r_getR C 28 dX5_nextByRules_4 fl_X5_117 la_1 ly_1 rfl rfl ?_
  refine r_getI C dX5_nextByRules_7 fl_X5_121 la_28 ly_28 rfl ?_
  refine r_icmp_ge C 33 dX5_nextByRules_10 (by decide) (fun _ => ?_) (fun _ => ?_)
  · refine r_iconst C dX5_nextByRules_33 ?_
    exact r_iret C dX5_nextByRules_34 (by decide) (by decide)
  · refine r_aload_n C 0 dX5_nextByRules_13 rfl rfl ?_
    refine r_aload_n C 1 dX5_nextByRules_14 rfl rfl ?_
    refine r_iload_n C 2 dX5_nextByRules_15 rfl rfl ?_
    refine r_callV C [i9 v2, rf G 1, rf G 58] dX5_nextByRules_16 (t_X5_nextByRule_58_1 C.h1 C.h2 v2 d) mw_X5_126 mv_X5_nextByRule la_58 ly_58 rfl (by decide) (by decide) (by decide) rfl rfl (Nat.le_of_ble_eq_true rfl) (fun r1 d2 => ?_)
    show SS G X 4 _ _ 19 [(0, rf G 58), (1, rf G 1), (2, i9 v2)] [i9 r1] d2 _
    refine r_istore_n C [(3, i9 r1), (0, rf G 58), (1, rf G 1), (2, i9 v2)] dX5_nextByRules_19 rfl (by decide) rfl ?_
    refine r_iload_n C 0 dX5_nextByRules_20 rfl rfl ?_
    refine r_iconst C dX5_nextByRules_21 ?_
    refine r_icmp_eq C 27 dX5_nextByRules_22 (by decide) (fun _ => ?_) (fun _ => ?_)
    · refine r_iinc C 3 [(2, i9 (v2 + 1)), (3, i9 r1), (0, rf G 58), (1, rf G 1)] dX5_nextByRules_27 rfl (by decide) rfl ?_
      refine r_goto C 2 dX5_nextByRules_30 (by decide) ?_
      refine ss_wide (k' := 0) (n' := 0) (by decide) (by decide) ?_
      refine ss_ls [(0, rf G 58), (1, rf G 1), (2, i9 (v2 + 1))] [2, 3, 0] rfl ?_
      exact hk_X5_nextByRules_58_1_c2 (v2 + 1) d2
    · refine r_iload_n C 0 dX5_nextByRules_25 rfl rfl ?_
      exact r_iret C dX5_nextByRules_26 (by decide) (by decide)
theorem s_X5_nextByRules_58_1_c2 {G : G9} {X : X9} (C : CX G X cX5_nextByRules 4 RX5 [] z_X5_nextByRules_58_1) : ∀ (v2 : Int) (d : D9), SS G X 4 0 0 2 [(0, rf G 58), (1, rf G 1), (2, i9 v2)] [] d (m_X5_nextByRules_58_1_c2  v2 d) :=
  fix9_ind (P := fun k => ∀ (v2 : Int) (d : D9), SS G X 4 0 0 2 [(0, rf G 58), (1, rf G 1), (2, i9 v2)] [] d (k v2 d)) (fun _ _ => ss_none) (fun k hk => sb_X5_nextByRules_58_1_c2 C k hk) FU
set_option maxRecDepth 100000 in
theorem t_X5_nextByRules_58_1 {G : G9} {l : Launch} (h1 : va_D (A9 G) (wl G (fun _ _ => 0))) (h2 : l.stackTraces = false) (d : D9) : MT G l yX5_nextByRules cX5_nextByRules 4 z_X5_nextByRules_58_1 [rf G 58, rf G 1] d (m_X5_nextByRules_58_1  d) := by
  refine mt_of (own := RX5) (by decide) rfl (Nat.le_of_ble_eq_true rfl) h1 h2 [(0, rf G 58), (1, rf G 1)] rfl (fun X hX C => ?_)
  unfold m_X5_nextByRules_58_1
  refine r_iconst C dX5_nextByRules_0 ?_
  refine r_istore_n C [(2, i9 0), (0, rf G 58), (1, rf G 1)] dX5_nextByRules_1 rfl (by decide) rfl ?_
  refine ss_wide (k' := 0) (n' := 0) (by decide) (by decide) ?_
  refine ss_ls [(0, rf G 58), (1, rf G 1), (2, i9 0)] [1, 2, 0] rfl ?_
  exact s_X5_nextByRules_58_1_c2 C  0 d
theorem dX5_take_0 : decode cX5_take 0 = .ok (.aload_n 0, 1) := by decide +kernel
theorem dX5_take_1 : decode cX5_take 1 = .ok (.getfield 78, 3) := by decide +kernel
theorem dX5_take_4 : decode cX5_take 4 = .ok (.bipush 30, 2) := by decide +kernel
theorem dX5_take_6 : decode cX5_take 6 = .ok (.if_icmp .lt 4, 3) := by decide +kernel
theorem dX5_take_9 : decode cX5_take 9 = .ok (.return_, 1) := by decide +kernel
theorem dX5_take_10 : decode cX5_take 10 = .ok (.aload_n 0, 1) := by decide +kernel
theorem dX5_take_11 : decode cX5_take 11 = .ok (.getfield 9, 3) := by decide +kernel
theorem dX5_take_14 : decode cX5_take 14 = .ok (.aload_n 0, 1) := by decide +kernel
theorem dX5_take_15 : decode cX5_take 15 = .ok (.getfield 78, 3) := by decide +kernel
theorem dX5_take_18 : decode cX5_take 18 = .ok (.iload_n 2, 1) := by decide +kernel
theorem dX5_take_19 : decode cX5_take 19 = .ok (.iastore, 1) := by decide +kernel
theorem dX5_take_20 : decode cX5_take 20 = .ok (.aload_n 0, 1) := by decide +kernel
theorem dX5_take_21 : decode cX5_take 21 = .ok (.dup, 1) := by decide +kernel
theorem dX5_take_22 : decode cX5_take 22 = .ok (.getfield 78, 3) := by decide +kernel
theorem dX5_take_25 : decode cX5_take 25 = .ok (.iconst 1, 1) := by decide +kernel
theorem dX5_take_26 : decode cX5_take 26 = .ok (.iadd, 1) := by decide +kernel
theorem dX5_take_27 : decode cX5_take 27 = .ok (.putfield 78, 3) := by decide +kernel
theorem dX5_take_30 : decode cX5_take 30 = .ok (.aload_n 0, 1) := by decide +kernel
theorem dX5_take_31 : decode cX5_take 31 = .ok (.dup, 1) := by decide +kernel
theorem dX5_take_32 : decode cX5_take 32 = .ok (.getfield 81, 3) := by decide +kernel
theorem dX5_take_35 : decode cX5_take 35 = .ok (.iconst 1, 1) := by decide +kernel
theorem dX5_take_36 : decode cX5_take 36 = .ok (.iload_n 2, 1) := by decide +kernel
theorem dX5_take_37 : decode cX5_take 37 = .ok (.ishl, 1) := by decide +kernel
theorem dX5_take_38 : decode cX5_take 38 = .ok (.ior, 1) := by decide +kernel
theorem dX5_take_39 : decode cX5_take 39 = .ok (.putfield 81, 3) := by decide +kernel
theorem dX5_take_42 : decode cX5_take 42 = .ok (.aload_n 0, 1) := by decide +kernel
theorem dX5_take_43 : decode cX5_take 43 = .ok (.dup, 1) := by decide +kernel
theorem dX5_take_44 : decode cX5_take 44 = .ok (.getfield 84, 3) := by decide +kernel
theorem dX5_take_47 : decode cX5_take 47 = .ok (.aload_n 1, 1) := by decide +kernel
theorem dX5_take_48 : decode cX5_take 48 = .ok (.getfield 68, 3) := by decide +kernel
theorem dX5_take_51 : decode cX5_take 51 = .ok (.iload_n 2, 1) := by decide +kernel
theorem dX5_take_52 : decode cX5_take 52 = .ok (.iaload, 1) := by decide +kernel
theorem dX5_take_53 : decode cX5_take 53 = .ok (.isub, 1) := by decide +kernel
theorem dX5_take_54 : decode cX5_take 54 = .ok (.putfield 84, 3) := by decide +kernel
theorem dX5_take_57 : decode cX5_take 57 = .ok (.aload_n 1, 1) := by decide +kernel
theorem dX5_take_58 : decode cX5_take 58 = .ok (.iload_n 2, 1) := by decide +kernel
theorem dX5_take_59 : decode cX5_take 59 = .ok (.invokevirtual 64, 3) := by decide +kernel
theorem dX5_take_62 : decode cX5_take 62 = .ok (.ifCond .eq 20, 3) := by decide +kernel
theorem dX5_take_65 : decode cX5_take 65 = .ok (.aload_n 0, 1) := by decide +kernel
theorem dX5_take_66 : decode cX5_take 66 = .ok (.dup, 1) := by decide +kernel
theorem dX5_take_67 : decode cX5_take 67 = .ok (.getfield 93, 3) := by decide +kernel
theorem dX5_take_70 : decode cX5_take 70 = .ok (.iconst 1, 1) := by decide +kernel
theorem dX5_take_71 : decode cX5_take 71 = .ok (.aload_n 1, 1) := by decide +kernel
theorem dX5_take_72 : decode cX5_take 72 = .ok (.getfield 71, 3) := by decide +kernel
theorem dX5_take_75 : decode cX5_take 75 = .ok (.iload_n 2, 1) := by decide +kernel
theorem dX5_take_76 : decode cX5_take 76 = .ok (.iaload, 1) := by decide +kernel
theorem dX5_take_77 : decode cX5_take 77 = .ok (.ishl, 1) := by decide +kernel
theorem dX5_take_78 : decode cX5_take 78 = .ok (.ior, 1) := by decide +kernel
theorem dX5_take_79 : decode cX5_take 79 = .ok (.putfield 93, 3) := by decide +kernel
theorem dX5_take_82 : decode cX5_take 82 = .ok (.return_, 1) := by decide +kernel
abbrev z_X5_take_58_9 : Z9 := (none, 0, 0, 0, 2, 21)
def m_X5_take_58_9 (p2 : Int) (d : D9) : Option R9 := if w32 (d 58 3) < w32 30 then sd d 59 30 (d 58 3) p2 (fun d1 => pf d1 58 3 ((d1 58 3) + 1) (fun d2 => pf d2 58 6 (or9 (d2 58 6) (shl9 1 p2)) (fun d3 => ld d3 13 30 p2 (fun t4 => pf d3 58 7 ((d3 58 7) - t4) (fun d5 => cl (m_X6_touches_9 p2 d5) (fun r6 d7 => if w32 r6 = 0 then rt 0 d7 else ld d7 12 30 p2 (fun t8 => pf d7 58 4 (or9 (d7 58 4) (shl9 1 t8)) (fun d9 => rt 0 d9)))))))) else rt 0 d
set_option maxRecDepth 100000 in
theorem t_X5_take_58_9 {G : G9} {l : Launch} (h1 : va_D (A9 G) (wl G (fun _ _ => 0))) (h2 : l.stackTraces = false) (p2 : Int) (d : D9) : MT G l yX5_take cX5_take 3 z_X5_take_58_9 [rf G 58, rf G 9, i9 p2] d (m_X5_take_58_9 p2 d) := by
  refine mt_of (own := RX5) (by decide) rfl (Nat.le_of_ble_eq_true rfl) h1 h2 [(0, rf G 58), (1, rf G 9), (2, i9 p2)] rfl (fun X hX C => ?_)
  unfold m_X5_take_58_9
  refine r_aload_n C 0 dX5_take_0 rfl rfl ?_
  refine r_getI C dX5_take_1 fl_X5_78 la_58 ly_58 rfl ?_
  refine r_bipush C dX5_take_4 rfl ?_
  refine r_icmp_lt C 10 dX5_take_6 (by decide) (fun _ => ?_) (fun _ => ?_)
  · refine r_aload_n C 0 dX5_take_10 rfl rfl ?_
    refine r_getR C 59 dX5_take_11 fl_X5_9 la_58 ly_58 rfl rfl ?_
    refine r_aload_n C 0 dX5_take_14 rfl rfl ?_
    refine r_getI C dX5_take_15 fl_X5_78 la_58 ly_58 rfl ?_
    refine r_iload_n C 2 dX5_take_18 rfl rfl ?_
    refine r_iast C dX5_take_19 la_59 ly_59 (fun d1 => ?_)
    refine r_aload_n C 0 dX5_take_20 rfl rfl ?_
    refine r_dup C dX5_take_21 rfl ?_
    refine r_getI C dX5_take_22 fl_X5_78 la_58 ly_58 rfl ?_
    refine r_iconst C dX5_take_25 ?_
    refine r_iadd C dX5_take_26 ?_
    refine r_putI C dX5_take_27 fp_X5_78 la_58 ly_58 rfl (fun d2 => ?_)
    refine r_aload_n C 0 dX5_take_30 rfl rfl ?_
    refine r_dup C dX5_take_31 rfl ?_
    refine r_getI C dX5_take_32 fl_X5_81 la_58 ly_58 rfl ?_
    refine r_iconst C dX5_take_35 ?_
    refine r_iload_n C 2 dX5_take_36 rfl rfl ?_
    refine r_ishl C dX5_take_37 ?_
    refine r_ior C dX5_take_38 ?_
    refine r_putI C dX5_take_39 fp_X5_81 la_58 ly_58 rfl (fun d3 => ?_)
    refine r_aload_n C 0 dX5_take_42 rfl rfl ?_
    refine r_dup C dX5_take_43 rfl ?_
    refine r_getI C dX5_take_44 fl_X5_84 la_58 ly_58 rfl ?_
    refine r_aload_n C 1 dX5_take_47 rfl rfl ?_
    refine r_getR C 13 dX5_take_48 fl_X5_68 la_9 ly_9 rfl rfl ?_
    refine r_iload_n C 2 dX5_take_51 rfl rfl ?_
    refine r_iald C dX5_take_52 la_13 ly_13 (fun t4 => ?_)
    refine r_isub C dX5_take_53 ?_
    refine r_putI C dX5_take_54 fp_X5_84 la_58 ly_58 rfl (fun d5 => ?_)
    refine r_aload_n C 1 dX5_take_57 rfl rfl ?_
    refine r_iload_n C 2 dX5_take_58 rfl rfl ?_
    refine r_callV C [i9 p2, rf G 9] dX5_take_59 (t_X6_touches_9 C.h1 C.h2 p2 d5) mw_X5_64 mv_X6_touches la_9 ly_9 rfl (by decide) (by decide) (by decide) rfl rfl (Nat.le_of_ble_eq_true rfl) (fun r6 d7 => ?_)
    show SS G X 3 _ _ 62 [(0, rf G 58), (1, rf G 9), (2, i9 p2)] [i9 r6] d7 _
    refine r_if_eq C (b := 0) 82 dX5_take_62 (by decide) (fun _ => ?_) (fun _ => ?_)
    · exact r_vret C dX5_take_82 (by decide) (by decide)
    · refine r_aload_n C 0 dX5_take_65 rfl rfl ?_
      refine r_dup C dX5_take_66 rfl ?_
      refine r_getI C dX5_take_67 fl_X5_93 la_58 ly_58 rfl ?_
      refine r_iconst C dX5_take_70 ?_
      refine r_aload_n C 1 dX5_take_71 rfl rfl ?_
      refine r_getR C 12 dX5_take_72 fl_X5_71 la_9 ly_9 rfl rfl ?_
      refine r_iload_n C 2 dX5_take_75 rfl rfl ?_
      refine r_iald C dX5_take_76 la_12 ly_12 (fun t8 => ?_)
      refine r_ishl C dX5_take_77 ?_
      refine r_ior C dX5_take_78 ?_
      refine r_putI C dX5_take_79 fp_X5_93 la_58 ly_58 rfl (fun d9 => ?_)
      exact r_vret C dX5_take_82 (by decide) (by decide)
  · exact r_vret C dX5_take_9 (by decide) (by decide)
theorem dX10_isOpen_0 : decode cX10_isOpen 0 = .ok (.aload_n 0, 1) := by decide +kernel
theorem dX10_isOpen_1 : decode cX10_isOpen 1 = .ok (.iload_n 1, 1) := by decide +kernel
theorem dX10_isOpen_2 : decode cX10_isOpen 2 = .ok (.invokevirtual 86, 3) := by decide +kernel
theorem dX10_isOpen_5 : decode cX10_isOpen 5 = .ok (.ifCond .ne 18, 3) := by decide +kernel
theorem dX10_isOpen_8 : decode cX10_isOpen 8 = .ok (.aload_n 0, 1) := by decide +kernel
theorem dX10_isOpen_9 : decode cX10_isOpen 9 = .ok (.iload_n 1, 1) := by decide +kernel
theorem dX10_isOpen_10 : decode cX10_isOpen 10 = .ok (.invokevirtual 89, 3) := by decide +kernel
theorem dX10_isOpen_13 : decode cX10_isOpen 13 = .ok (.sipush 400, 3) := by decide +kernel
theorem dX10_isOpen_16 : decode cX10_isOpen 16 = .ok (.if_icmp .ne 7, 3) := by decide +kernel
theorem dX10_isOpen_19 : decode cX10_isOpen 19 = .ok (.iconst 1, 1) := by decide +kernel
theorem dX10_isOpen_20 : decode cX10_isOpen 20 = .ok (.goto 4, 3) := by decide +kernel
theorem dX10_isOpen_23 : decode cX10_isOpen 23 = .ok (.iconst 0, 1) := by decide +kernel
theorem dX10_isOpen_24 : decode cX10_isOpen 24 = .ok (.ireturn, 1) := by decide +kernel
abbrev z_X10_isOpen_1 : Z9 := (some .boolean, 1, 0, 0, 5, 105)
def m_X10_isOpen_1 (p1 : Int) (d : D9) : Option R9 := cl (m_X10_leastOf_1 p1 d) (fun r1 d2 => if w32 r1 ≠ 0 then rt (0 % 2) d2 else cl (m_X10_mostOf_1 p1 d2) (fun r3 d4 => if w32 r3 ≠ w32 400 then rt (0 % 2) d4 else rt (1 % 2) d4))
set_option maxRecDepth 100000 in
theorem t_X10_isOpen_1 {G : G9} {l : Launch} (h1 : va_D (A9 G) (wl G (fun _ _ => 0))) (h2 : l.stackTraces = false) (p1 : Int) (d : D9) : MT G l yX10_isOpen cX10_isOpen 2 z_X10_isOpen_1 [rf G 1, i9 p1] d (m_X10_isOpen_1 p1 d) := by
  refine mt_of (own := RX10) (by decide) rfl (Nat.le_of_ble_eq_true rfl) h1 h2 [(0, rf G 1), (1, i9 p1)] rfl (fun X hX C => ?_)
  unfold m_X10_isOpen_1
  refine r_aload_n C 0 dX10_isOpen_0 rfl rfl ?_
  refine r_iload_n C 1 dX10_isOpen_1 rfl rfl ?_
  refine r_callV C [i9 p1, rf G 1] dX10_isOpen_2 (t_X10_leastOf_1 C.h1 C.h2 p1 d) mw_X10_86 mv_X10_leastOf la_1 ly_1 rfl (by decide) (by decide) (by decide) rfl rfl (Nat.le_of_ble_eq_true rfl) (fun r1 d2 => ?_)
  show SS G X 2 _ _ 5 [(0, rf G 1), (1, i9 p1)] [i9 r1] d2 _
  refine r_if_ne C (b := 0) 23 dX10_isOpen_5 (by decide) (fun _ => ?_) (fun _ => ?_)
  · refine r_iconst C dX10_isOpen_23 ?_
    exact r_zret C dX10_isOpen_24 (by decide) (by decide)
  · refine r_aload_n C 0 dX10_isOpen_8 rfl rfl ?_
    refine r_iload_n C 1 dX10_isOpen_9 rfl rfl ?_
    refine r_callV C [i9 p1, rf G 1] dX10_isOpen_10 (t_X10_mostOf_1 C.h1 C.h2 p1 d2) mw_X10_89 mv_X10_mostOf la_1 ly_1 rfl (by decide) (by decide) (by decide) rfl rfl (Nat.le_of_ble_eq_true rfl) (fun r3 d4 => ?_)
    show SS G X 2 _ _ 13 [(0, rf G 1), (1, i9 p1)] [i9 r3] d4 _
    refine r_sipush C dX10_isOpen_13 rfl ?_
    refine r_icmp_ne C 23 dX10_isOpen_16 (by decide) (fun _ => ?_) (fun _ => ?_)
    · refine r_iconst C dX10_isOpen_23 ?_
      exact r_zret C dX10_isOpen_24 (by decide) (by decide)
    · refine r_iconst C dX10_isOpen_19 ?_
      refine r_goto C 24 dX10_isOpen_20 (by decide) ?_
      exact r_zret C dX10_isOpen_24 (by decide) (by decide)
theorem dX5_makeRow_0 : decode cX5_makeRow 0 = .ok (.aload_n 0, 1) := by decide +kernel
theorem dX5_makeRow_1 : decode cX5_makeRow 1 = .ok (.iconst 0, 1) := by decide +kernel
theorem dX5_makeRow_2 : decode cX5_makeRow 2 = .ok (.putfield 78, 3) := by decide +kernel
theorem dX5_makeRow_5 : decode cX5_makeRow 5 = .ok (.aload_n 0, 1) := by decide +kernel
theorem dX5_makeRow_6 : decode cX5_makeRow 6 = .ok (.iconst 0, 1) := by decide +kernel
theorem dX5_makeRow_7 : decode cX5_makeRow 7 = .ok (.putfield 81, 3) := by decide +kernel
theorem dX5_makeRow_10 : decode cX5_makeRow 10 = .ok (.aload_n 0, 1) := by decide +kernel
theorem dX5_makeRow_11 : decode cX5_makeRow 11 = .ok (.iload_n 2, 1) := by decide +kernel
theorem dX5_makeRow_12 : decode cX5_makeRow 12 = .ok (.putfield 84, 3) := by decide +kernel
theorem dX5_makeRow_15 : decode cX5_makeRow 15 = .ok (.aload_n 0, 1) := by decide +kernel
theorem dX5_makeRow_16 : decode cX5_makeRow 16 = .ok (.aload_n 1, 1) := by decide +kernel
theorem dX5_makeRow_17 : decode cX5_makeRow 17 = .ok (.getfield 87, 3) := by decide +kernel
theorem dX5_makeRow_20 : decode cX5_makeRow 20 = .ok (.invokevirtual 28, 3) := by decide +kernel
theorem dX5_makeRow_23 : decode cX5_makeRow 23 = .ok (.putfield 93, 3) := by decide +kernel
theorem dX5_makeRow_26 : decode cX5_makeRow 26 = .ok (.aload_n 0, 1) := by decide +kernel
theorem dX5_makeRow_27 : decode cX5_makeRow 27 = .ok (.iconst 0, 1) := by decide +kernel
theorem dX5_makeRow_28 : decode cX5_makeRow 28 = .ok (.putfield 96, 3) := by decide +kernel
theorem dX5_makeRow_31 : decode cX5_makeRow 31 = .ok (.iconst 0, 1) := by decide +kernel
theorem dX5_makeRow_32 : decode cX5_makeRow 32 = .ok (.istore_n 3, 1) := by decide +kernel
theorem dX5_makeRow_33 : decode cX5_makeRow 33 = .ok (.iload_n 3, 1) := by decide +kernel
theorem dX5_makeRow_34 : decode cX5_makeRow 34 = .ok (.aload_n 1, 1) := by decide +kernel
theorem dX5_makeRow_35 : decode cX5_makeRow 35 = .ok (.getfield 99, 3) := by decide +kernel
theorem dX5_makeRow_38 : decode cX5_makeRow 38 = .ok (.getfield 103, 3) := by decide +kernel
theorem dX5_makeRow_41 : decode cX5_makeRow 41 = .ok (.if_icmp .ge 33, 3) := by decide +kernel
theorem dX5_makeRow_44 : decode cX5_makeRow 44 = .ok (.aload_n 0, 1) := by decide +kernel
theorem dX5_makeRow_45 : decode cX5_makeRow 45 = .ok (.dup, 1) := by decide +kernel
theorem dX5_makeRow_46 : decode cX5_makeRow 46 = .ok (.getfield 96, 3) := by decide +kernel
theorem dX5_makeRow_49 : decode cX5_makeRow 49 = .ok (.aload_n 1, 1) := by decide +kernel
theorem dX5_makeRow_50 : decode cX5_makeRow 50 = .ok (.iload_n 3, 1) := by decide +kernel
theorem dX5_makeRow_51 : decode cX5_makeRow 51 = .ok (.invokevirtual 106, 3) := by decide +kernel
theorem dX5_makeRow_54 : decode cX5_makeRow 54 = .ok (.ifCond .eq 9, 3) := by decide +kernel
theorem dX5_makeRow_57 : decode cX5_makeRow 57 = .ok (.iconst 1, 1) := by decide +kernel
theorem dX5_makeRow_58 : decode cX5_makeRow 58 = .ok (.iload_n 3, 1) := by decide +kernel
theorem dX5_makeRow_59 : decode cX5_makeRow 59 = .ok (.ishl, 1) := by decide +kernel
theorem dX5_makeRow_60 : decode cX5_makeRow 60 = .ok (.goto 4, 3) := by decide +kernel
theorem dX5_makeRow_63 : decode cX5_makeRow 63 = .ok (.iconst 0, 1) := by decide +kernel
theorem dX5_makeRow_64 : decode cX5_makeRow 64 = .ok (.ior, 1) := by decide +kernel
theorem dX5_makeRow_65 : decode cX5_makeRow 65 = .ok (.putfield 96, 3) := by decide +kernel
theorem dX5_makeRow_68 : decode cX5_makeRow 68 = .ok (.iinc 3 1, 3) := by decide +kernel
theorem dX5_makeRow_71 : decode cX5_makeRow 71 = .ok (.goto (-38), 3) := by decide +kernel
theorem dX5_makeRow_74 : decode cX5_makeRow 74 = .ok (.aload_n 0, 1) := by decide +kernel
theorem dX5_makeRow_75 : decode cX5_makeRow 75 = .ok (.aload_n 1, 1) := by decide +kernel
theorem dX5_makeRow_76 : decode cX5_makeRow 76 = .ok (.invokevirtual 109, 3) := by decide +kernel
theorem dX5_makeRow_79 : decode cX5_makeRow 79 = .ok (.istore_n 3, 1) := by decide +kernel
theorem dX5_makeRow_80 : decode cX5_makeRow 80 = .ok (.iconst 0, 1) := by decide +kernel
theorem dX5_makeRow_81 : decode cX5_makeRow 81 = .ok (.istore 4, 2) := by decide +kernel
theorem dX5_makeRow_83 : decode cX5_makeRow 83 = .ok (.iload 4, 2) := by decide +kernel
theorem dX5_makeRow_85 : decode cX5_makeRow 85 = .ok (.bipush 30, 2) := by decide +kernel
theorem dX5_makeRow_87 : decode cX5_makeRow 87 = .ok (.if_icmp .ge 29, 3) := by decide +kernel
theorem dX5_makeRow_90 : decode cX5_makeRow 90 = .ok (.iload_n 3, 1) := by decide +kernel
theorem dX5_makeRow_91 : decode cX5_makeRow 91 = .ok (.iconst (-1), 1) := by decide +kernel
theorem dX5_makeRow_92 : decode cX5_makeRow 92 = .ok (.if_icmp .eq 24, 3) := by decide +kernel
theorem dX5_makeRow_95 : decode cX5_makeRow 95 = .ok (.aload_n 0, 1) := by decide +kernel
theorem dX5_makeRow_96 : decode cX5_makeRow 96 = .ok (.aload_n 1, 1) := by decide +kernel
theorem dX5_makeRow_97 : decode cX5_makeRow 97 = .ok (.getfield 87, 3) := by decide +kernel
theorem dX5_makeRow_100 : decode cX5_makeRow 100 = .ok (.iload_n 3, 1) := by decide +kernel
theorem dX5_makeRow_101 : decode cX5_makeRow 101 = .ok (.invokevirtual 113, 3) := by decide +kernel
theorem dX5_makeRow_104 : decode cX5_makeRow 104 = .ok (.aload_n 0, 1) := by decide +kernel
theorem dX5_makeRow_105 : decode cX5_makeRow 105 = .ok (.aload_n 1, 1) := by decide +kernel
theorem dX5_makeRow_106 : decode cX5_makeRow 106 = .ok (.invokevirtual 109, 3) := by decide +kernel
theorem dX5_makeRow_109 : decode cX5_makeRow 109 = .ok (.istore_n 3, 1) := by decide +kernel
theorem dX5_makeRow_110 : decode cX5_makeRow 110 = .ok (.iinc 4 1, 3) := by decide +kernel
theorem dX5_makeRow_113 : decode cX5_makeRow 113 = .ok (.goto (-30), 3) := by decide +kernel
theorem dX5_makeRow_116 : decode cX5_makeRow 116 = .ok (.return_, 1) := by decide +kernel
abbrev z_X5_makeRow_58_1 : Z9 := (none, 0, 0, 0, 6, 127)
def b_X5_makeRow_58_1_c83 (k_X5_makeRow_58_1_c83 : Int → Int → D9 → Option R9) (v3 v4 : Int) (d : D9) : Option R9 := if w32 30 ≤ w32 v4 then rt 0 d else if w32 v3 = w32 (-1) then rt 0 d else cl (m_X5_take_58_9 v3 d) (fun r1 d2 => cl (m_X5_nextByRules_58_1 d2) (fun r3 d4 => k_X5_makeRow_58_1_c83 r3 (v4 + 1) d4))
def m_X5_makeRow_58_1_c83 : Int → Int → D9 → Option R9 := fix9 (fun _ _ _ => none) (fun k => b_X5_makeRow_58_1_c83 k) FU
def b_X5_makeRow_58_1_c33 (k_X5_makeRow_58_1_c33 : Int → D9 → Option R9) (v3 : Int) (d : D9) : Option R9 := if w32 (d 2 0) ≤ w32 v3 then cl (m_X5_nextByRules_58_1 d) (fun r1 d2 => m_X5_makeRow_58_1_c83  r1 0 d2) else cl (m_X10_isOpen_1 v3 d) (fun r3 d4 => if w32 r3 = 0 then pf d4 58 8 (or9 (d 58 8) 0) (fun d5 => k_X5_makeRow_58_1_c33 (v3 + 1) d5) else pf d4 58 8 (or9 (d 58 8) (shl9 1 v3)) (fun d6 => k_X5_makeRow_58_1_c33 (v3 + 1) d6))
def m_X5_makeRow_58_1_c33 : Int → D9 → Option R9 := fix9 (fun _ _ => none) (fun k => b_X5_makeRow_58_1_c33 k) FU
def m_X5_makeRow_58_1 (p2 : Int) (d : D9) : Option R9 := pf d 58 3 0 (fun d1 => pf d1 58 6 0 (fun d2 => pf d2 58 7 p2 (fun d3 => cl (m_X6_datedPaints_9 d3) (fun r4 d5 => pf d5 58 4 r4 (fun d6 => pf d6 58 8 0 (fun d7 => m_X5_makeRow_58_1_c33  0 d7))))))
set_option maxRecDepth 100000 in
theorem sb_X5_makeRow_58_1_c83 {G : G9} {X : X9} (C : CX G X cX5_makeRow 5 RX5 [] z_X5_makeRow_58_1) (k_X5_makeRow_58_1_c83 : Int → Int → D9 → Option R9) (hk_X5_makeRow_58_1_c83 : ∀ (v3 v4 : Int) (d : D9), SS G X 5 0 0 83 [(0, rf G 58), (1, rf G 1), (3, i9 v3), (4, i9 v4)] [] d (k_X5_makeRow_58_1_c83 v3 v4 d)) : ∀ (v3 v4 : Int) (d : D9), SS G X 5 0 0 83 [(0, rf G 58), (1, rf G 1), (3, i9 v3), (4, i9 v4)] [] d (b_X5_makeRow_58_1_c83 k_X5_makeRow_58_1_c83 v3 v4 d) := by
  intro v3 v4 d
  unfold b_X5_makeRow_58_1_c83
  refine r_iload C 3 dX5_makeRow_83 rfl ?_
  refine r_bipush C dX5_makeRow_85 rfl ?_
  refine r_icmp_ge C 116 dX5_makeRow_87 (by decide) (fun _ => ?_) (fun _ => ?_)
  · exact r_vret C dX5_makeRow_116 (by decide) (by decide)
  · refine r_iload_n C 2 dX5_makeRow_90 rfl rfl ?_
    refine r_iconst C dX5_makeRow_91 ?_
    refine r_icmp_eq C 116 dX5_makeRow_92 (by decide) (fun _ => ?_) (fun _ => ?_)
    · exact r_vret C dX5_makeRow_116 (by decide) (by decide)
    · refine r_aload_n C 0 dX5_makeRow_95 rfl rfl ?_
      refine r_aload_n C 1 dX5_makeRow_96 rfl rfl ?_
      refine r_getR C 9 dX5_makeRow_97 fl_X5_87 la_1 ly_1 rfl rfl ?_
      refine r_iload_n C 2 dX5_makeRow_100 rfl rfl ?_
      refine r_callV C [i9 v3, rf G 9, rf G 58] dX5_makeRow_101 (t_X5_take_58_9 C.h1 C.h2 v3 d) mw_X5_113 mv_X5_take la_58 ly_58 rfl (by decide) (by decide) (by decide) rfl rfl (Nat.le_of_ble_eq_true rfl) (fun r1 d2 => ?_)
      show SS G X 5 _ _ 104 [(0, rf G 58), (1, rf G 1), (3, i9 v3), (4, i9 v4)] [] d2 _
      refine r_aload_n C 0 dX5_makeRow_104 rfl rfl ?_
      refine r_aload_n C 1 dX5_makeRow_105 rfl rfl ?_
      refine r_callV C [rf G 1, rf G 58] dX5_makeRow_106 (t_X5_nextByRules_58_1 C.h1 C.h2 d2) mw_X5_109 mv_X5_nextByRules la_58 ly_58 rfl (by decide) (by decide) (by decide) rfl rfl (Nat.le_of_ble_eq_true rfl) (fun r3 d4 => ?_)
      show SS G X 5 _ _ 109 [(0, rf G 58), (1, rf G 1), (3, i9 v3), (4, i9 v4)] [i9 r3] d4 _
      refine r_istore_n C [(3, i9 r3), (0, rf G 58), (1, rf G 1), (4, i9 v4)] dX5_makeRow_109 rfl (by decide) rfl ?_
      refine r_iinc C 3 [(4, i9 (v4 + 1)), (3, i9 r3), (0, rf G 58), (1, rf G 1)] dX5_makeRow_110 rfl (by decide) rfl ?_
      refine r_goto C 83 dX5_makeRow_113 (by decide) ?_
      refine ss_wide (k' := 0) (n' := 0) (by decide) (by decide) ?_
      refine ss_ls [(0, rf G 58), (1, rf G 1), (3, i9 r3), (4, i9 (v4 + 1))] [2, 3, 1, 0] rfl ?_
      exact hk_X5_makeRow_58_1_c83 r3 (v4 + 1) d4
theorem s_X5_makeRow_58_1_c83 {G : G9} {X : X9} (C : CX G X cX5_makeRow 5 RX5 [] z_X5_makeRow_58_1) : ∀ (v3 v4 : Int) (d : D9), SS G X 5 0 0 83 [(0, rf G 58), (1, rf G 1), (3, i9 v3), (4, i9 v4)] [] d (m_X5_makeRow_58_1_c83  v3 v4 d) :=
  fix9_ind (P := fun k => ∀ (v3 v4 : Int) (d : D9), SS G X 5 0 0 83 [(0, rf G 58), (1, rf G 1), (3, i9 v3), (4, i9 v4)] [] d (k v3 v4 d)) (fun _ _ _ => ss_none) (fun k hk => sb_X5_makeRow_58_1_c83 C k hk) FU
set_option maxRecDepth 100000 in
theorem sb_X5_makeRow_58_1_c33 {G : G9} {X : X9} (C : CX G X cX5_makeRow 5 RX5 [] z_X5_makeRow_58_1) (k_X5_makeRow_58_1_c33 : Int → D9 → Option R9) (hk_X5_makeRow_58_1_c33 : ∀ (v3 : Int) (d : D9), SS G X 5 0 0 33 [(0, rf G 58), (1, rf G 1), (3, i9 v3)] [] d (k_X5_makeRow_58_1_c33 v3 d)) : ∀ (v3 : Int) (d : D9), SS G X 5 0 0 33 [(0, rf G 58), (1, rf G 1), (3, i9 v3)] [] d (b_X5_makeRow_58_1_c33 k_X5_makeRow_58_1_c33 v3 d) := by
  intro v3 d
  unfold b_X5_makeRow_58_1_c33
  refine r_iload_n C 2 dX5_makeRow_33 rfl rfl ?_
  refine r_aload_n C 1 dX5_makeRow_34 rfl rfl ?_
  refine r_getR C 2 dX5_makeRow_35 fl_X5_99 la_1 ly_1 rfl rfl ?_
  refine r_getI C dX5_makeRow_38 fl_X5_103 la_2 ly_2 rfl ?_
  refine r_icmp_ge C 74 dX5_makeRow_41 (by decide) (fun _ => ?_) (fun _ => ?_)
  · refine r_aload_n C 0 dX5_makeRow_74 rfl rfl ?_
    refine r_aload_n C 1 dX5_makeRow_75 rfl rfl ?_
    refine r_callV C [rf G 1, rf G 58] dX5_makeRow_76 (t_X5_nextByRules_58_1 C.h1 C.h2 d) mw_X5_109 mv_X5_nextByRules la_58 ly_58 rfl (by decide) (by decide) (by decide) rfl rfl (Nat.le_of_ble_eq_true rfl) (fun r1 d2 => ?_)
    show SS G X 5 _ _ 79 [(0, rf G 58), (1, rf G 1), (3, i9 v3)] [i9 r1] d2 _
    refine r_istore_n C [(3, i9 r1), (0, rf G 58), (1, rf G 1)] dX5_makeRow_79 rfl (by decide) rfl ?_
    refine r_iconst C dX5_makeRow_80 ?_
    refine r_istore C [(4, i9 0), (3, i9 r1), (0, rf G 58), (1, rf G 1)] dX5_makeRow_81 (by decide) rfl ?_
    refine ss_wide (k' := 0) (n' := 0) (by decide) (by decide) ?_
    refine ss_ls [(0, rf G 58), (1, rf G 1), (3, i9 r1), (4, i9 0)] [2, 3, 1, 0] rfl ?_
    exact s_X5_makeRow_58_1_c83 C  r1 0 d2
  · refine r_aload_n C 0 dX5_makeRow_44 rfl rfl ?_
    refine r_dup C dX5_makeRow_45 rfl ?_
    refine r_getI C dX5_makeRow_46 fl_X5_96 la_58 ly_58 rfl ?_
    refine r_aload_n C 1 dX5_makeRow_49 rfl rfl ?_
    refine r_iload_n C 2 dX5_makeRow_50 rfl rfl ?_
    refine r_callV C [i9 v3, rf G 1, i9 (d 58 8), rf G 58] dX5_makeRow_51 (t_X10_isOpen_1 C.h1 C.h2 v3 d) mw_X5_106 mv_X10_isOpen la_1 ly_1 rfl (by decide) (by decide) (by decide) rfl rfl (Nat.le_of_ble_eq_true rfl) (fun r3 d4 => ?_)
    show SS G X 5 _ _ 54 [(0, rf G 58), (1, rf G 1), (3, i9 v3)] [i9 r3, i9 (d 58 8), rf G 58] d4 _
    refine r_if_eq C (b := 0) 63 dX5_makeRow_54 (by decide) (fun _ => ?_) (fun _ => ?_)
    · refine r_iconst C dX5_makeRow_63 ?_
      refine r_ior C dX5_makeRow_64 ?_
      refine r_putI C dX5_makeRow_65 fp_X5_96 la_58 ly_58 rfl (fun d5 => ?_)
      refine r_iinc C 2 [(3, i9 (v3 + 1)), (0, rf G 58), (1, rf G 1)] dX5_makeRow_68 rfl (by decide) rfl ?_
      refine r_goto C 33 dX5_makeRow_71 (by decide) ?_
      refine ss_wide (k' := 0) (n' := 0) (by decide) (by decide) ?_
      refine ss_ls [(0, rf G 58), (1, rf G 1), (3, i9 (v3 + 1))] [1, 2, 0] rfl ?_
      exact hk_X5_makeRow_58_1_c33 (v3 + 1) d5
    · refine r_iconst C dX5_makeRow_57 ?_
      refine r_iload_n C 2 dX5_makeRow_58 rfl rfl ?_
      refine r_ishl C dX5_makeRow_59 ?_
      refine r_goto C 64 dX5_makeRow_60 (by decide) ?_
      refine r_ior C dX5_makeRow_64 ?_
      refine r_putI C dX5_makeRow_65 fp_X5_96 la_58 ly_58 rfl (fun d6 => ?_)
      refine r_iinc C 2 [(3, i9 (v3 + 1)), (0, rf G 58), (1, rf G 1)] dX5_makeRow_68 rfl (by decide) rfl ?_
      refine r_goto C 33 dX5_makeRow_71 (by decide) ?_
      refine ss_wide (k' := 0) (n' := 0) (by decide) (by decide) ?_
      refine ss_ls [(0, rf G 58), (1, rf G 1), (3, i9 (v3 + 1))] [1, 2, 0] rfl ?_
      exact hk_X5_makeRow_58_1_c33 (v3 + 1) d6
theorem s_X5_makeRow_58_1_c33 {G : G9} {X : X9} (C : CX G X cX5_makeRow 5 RX5 [] z_X5_makeRow_58_1) : ∀ (v3 : Int) (d : D9), SS G X 5 0 0 33 [(0, rf G 58), (1, rf G 1), (3, i9 v3)] [] d (m_X5_makeRow_58_1_c33  v3 d) :=
  fix9_ind (P := fun k => ∀ (v3 : Int) (d : D9), SS G X 5 0 0 33 [(0, rf G 58), (1, rf G 1), (3, i9 v3)] [] d (k v3 d)) (fun _ _ => ss_none) (fun k hk => sb_X5_makeRow_58_1_c33 C k hk) FU
set_option maxRecDepth 100000 in
theorem t_X5_makeRow_58_1 {G : G9} {l : Launch} (h1 : va_D (A9 G) (wl G (fun _ _ => 0))) (h2 : l.stackTraces = false) (p2 : Int) (d : D9) : MT G l yX5_makeRow cX5_makeRow 5 z_X5_makeRow_58_1 [rf G 58, rf G 1, i9 p2] d (m_X5_makeRow_58_1 p2 d) := by
  refine mt_of (own := RX5) (by decide) rfl (Nat.le_of_ble_eq_true rfl) h1 h2 [(0, rf G 58), (1, rf G 1), (2, i9 p2)] rfl (fun X hX C => ?_)
  unfold m_X5_makeRow_58_1
  refine r_aload_n C 0 dX5_makeRow_0 rfl rfl ?_
  refine r_iconst C dX5_makeRow_1 ?_
  refine r_putI C dX5_makeRow_2 fp_X5_78 la_58 ly_58 rfl (fun d1 => ?_)
  refine r_aload_n C 0 dX5_makeRow_5 rfl rfl ?_
  refine r_iconst C dX5_makeRow_6 ?_
  refine r_putI C dX5_makeRow_7 fp_X5_81 la_58 ly_58 rfl (fun d2 => ?_)
  refine r_aload_n C 0 dX5_makeRow_10 rfl rfl ?_
  refine r_iload_n C 2 dX5_makeRow_11 rfl rfl ?_
  refine r_putI C dX5_makeRow_12 fp_X5_84 la_58 ly_58 rfl (fun d3 => ?_)
  refine r_aload_n C 0 dX5_makeRow_15 rfl rfl ?_
  refine r_aload_n C 1 dX5_makeRow_16 rfl rfl ?_
  refine r_getR C 9 dX5_makeRow_17 fl_X5_87 la_1 ly_1 rfl rfl ?_
  refine r_callV C [rf G 9, rf G 58] dX5_makeRow_20 (t_X6_datedPaints_9 C.h1 C.h2 d3) mw_X5_28 mv_X6_datedPaints la_9 ly_9 rfl (by decide) (by decide) (by decide) rfl rfl (Nat.le_of_ble_eq_true rfl) (fun r4 d5 => ?_)
  show SS G X 5 _ _ 23 [(0, rf G 58), (1, rf G 1), (2, i9 p2)] [i9 r4, rf G 58] d5 _
  refine r_putI C dX5_makeRow_23 fp_X5_93 la_58 ly_58 rfl (fun d6 => ?_)
  refine r_aload_n C 0 dX5_makeRow_26 rfl rfl ?_
  refine r_iconst C dX5_makeRow_27 ?_
  refine r_putI C dX5_makeRow_28 fp_X5_96 la_58 ly_58 rfl (fun d7 => ?_)
  refine r_iconst C dX5_makeRow_31 ?_
  refine r_istore_n C [(3, i9 0), (0, rf G 58), (1, rf G 1), (2, i9 p2)] dX5_makeRow_32 rfl (by decide) rfl ?_
  refine ss_wide (k' := 0) (n' := 0) (by decide) (by decide) ?_
  refine ss_ls [(0, rf G 58), (1, rf G 1), (3, i9 0)] [1, 2, 0] rfl ?_
  exact s_X5_makeRow_58_1_c33 C  0 d7
theorem dX11_behind_0 : decode cX11_behind 0 = .ok (.iload_n 1, 1) := by decide +kernel
theorem dX11_behind_1 : decode cX11_behind 1 = .ok (.iconst 0, 1) := by decide +kernel
theorem dX11_behind_2 : decode cX11_behind 2 = .ok (.sipush 999, 3) := by decide +kernel
theorem dX11_behind_5 : decode cX11_behind 5 = .ok (.invokestatic 73, 3) := by decide +kernel
theorem dX11_behind_8 : decode cX11_behind 8 = .ok (.aload_n 0, 1) := by decide +kernel
theorem dX11_behind_9 : decode cX11_behind 9 = .ok (.getfield 69, 3) := by decide +kernel
theorem dX11_behind_12 : decode cX11_behind 12 = .ok (.aload_n 0, 1) := by decide +kernel
theorem dX11_behind_13 : decode cX11_behind 13 = .ok (.getfield 10, 3) := by decide +kernel
theorem dX11_behind_16 : decode cX11_behind 16 = .ok (.getfield 122, 3) := by decide +kernel
theorem dX11_behind_19 : decode cX11_behind 19 = .ok (.iload_n 1, 1) := by decide +kernel
theorem dX11_behind_20 : decode cX11_behind 20 = .ok (.invokevirtual 375, 3) := by decide +kernel
theorem dX11_behind_23 : decode cX11_behind 23 = .ok (.aload_n 0, 1) := by decide +kernel
theorem dX11_behind_24 : decode cX11_behind 24 = .ok (.getfield 69, 3) := by decide +kernel
theorem dX11_behind_27 : decode cX11_behind 27 = .ok (.aload_n 0, 1) := by decide +kernel
theorem dX11_behind_28 : decode cX11_behind 28 = .ok (.getfield 10, 3) := by decide +kernel
theorem dX11_behind_31 : decode cX11_behind 31 = .ok (.iload_n 1, 1) := by decide +kernel
theorem dX11_behind_32 : decode cX11_behind 32 = .ok (.invokevirtual 388, 3) := by decide +kernel
theorem dX11_behind_35 : decode cX11_behind 35 = .ok (.aload_n 0, 1) := by decide +kernel
theorem dX11_behind_36 : decode cX11_behind 36 = .ok (.getfield 69, 3) := by decide +kernel
theorem dX11_behind_39 : decode cX11_behind 39 = .ok (.getfield 382, 3) := by decide +kernel
theorem dX11_behind_42 : decode cX11_behind 42 = .ok (.aload_n 0, 1) := by decide +kernel
theorem dX11_behind_43 : decode cX11_behind 43 = .ok (.getfield 69, 3) := by decide +kernel
theorem dX11_behind_46 : decode cX11_behind 46 = .ok (.getfield 398, 3) := by decide +kernel
theorem dX11_behind_49 : decode cX11_behind 49 = .ok (.invokestatic 153, 3) := by decide +kernel
theorem dX11_behind_52 : decode cX11_behind 52 = .ok (.isub, 1) := by decide +kernel
theorem dX11_behind_53 : decode cX11_behind 53 = .ok (.ireturn, 1) := by decide +kernel
abbrev z_X11_behind_0 : Z9 := (some .int, 1, 1, 6, 7, 151)
def m_X11_behind_0 (p1 : Int) (d : D9) : Option R9 := cl (m_X11_askWithin p1 0 999 d) (fun r1 d2 => cl (m_X5_makePlan_58_9 p1 d2) (fun r3 d4 => cl (m_X5_makeRow_58_1 p1 d4) (fun r5 d6 => cl (m_J6_bitCount_0f7a4 (d6 58 4) d6) (fun r7 d8 => rt ((d6 58 1) - r7) d8))))
set_option maxRecDepth 100000 in
theorem t_X11_behind_0 {G : G9} {l : Launch} (h1 : va_D (A9 G) (wl G (fun _ _ => 0))) (h2 : l.stackTraces = false) (p1 : Int) (d : D9) : MT G l yX11_behind cX11_behind 2 z_X11_behind_0 [rf G 0, i9 p1] d (m_X11_behind_0 p1 d) := by
  refine mt_of (own := RX11) (by decide) rfl (Nat.le_of_ble_eq_true rfl) h1 h2 [(0, rf G 0), (1, i9 p1)] rfl (fun X hX C => ?_)
  unfold m_X11_behind_0
  refine r_iload_n C 1 dX11_behind_0 rfl rfl ?_
  refine r_iconst C dX11_behind_1 ?_
  refine r_sipush C dX11_behind_2 rfl ?_
  refine r_callS C [i9 999, i9 0, i9 p1] dX11_behind_5 (t_X11_askWithin C.h1 C.h2 p1 0 999 d) mw_X11_73 ms_X11_askWithin (by decide) (by decide) (by decide) rfl rfl (Nat.le_of_ble_eq_true rfl) (fun r1 d2 => ?_)
  show SS G X 2 _ _ 8 [(0, rf G 0), (1, i9 p1)] [] d2 _
  refine r_aload_n C 0 dX11_behind_8 rfl rfl ?_
  refine r_getR C 58 dX11_behind_9 fl_X11_69 la_0 ly_0 rfl rfl ?_
  refine r_aload_n C 0 dX11_behind_12 rfl rfl ?_
  refine r_getR C 1 dX11_behind_13 fl_X11_10 la_0 ly_0 rfl rfl ?_
  refine r_getR C 9 dX11_behind_16 fl_X11_122 la_1 ly_1 rfl rfl ?_
  refine r_iload_n C 1 dX11_behind_19 rfl rfl ?_
  refine r_callV C [i9 p1, rf G 9, rf G 58] dX11_behind_20 (t_X5_makePlan_58_9 C.h1 C.h2 p1 d2) mw_X11_375 mv_X5_makePlan la_58 ly_58 rfl (by decide) (by decide) (by decide) rfl rfl (Nat.le_of_ble_eq_true rfl) (fun r3 d4 => ?_)
  show SS G X 2 _ _ 23 [(0, rf G 0), (1, i9 p1)] [] d4 _
  refine r_aload_n C 0 dX11_behind_23 rfl rfl ?_
  refine r_getR C 58 dX11_behind_24 fl_X11_69 la_0 ly_0 rfl rfl ?_
  refine r_aload_n C 0 dX11_behind_27 rfl rfl ?_
  refine r_getR C 1 dX11_behind_28 fl_X11_10 la_0 ly_0 rfl rfl ?_
  refine r_iload_n C 1 dX11_behind_31 rfl rfl ?_
  refine r_callV C [i9 p1, rf G 1, rf G 58] dX11_behind_32 (t_X5_makeRow_58_1 C.h1 C.h2 p1 d4) mw_X11_388 mv_X5_makeRow la_58 ly_58 rfl (by decide) (by decide) (by decide) rfl rfl (Nat.le_of_ble_eq_true rfl) (fun r5 d6 => ?_)
  show SS G X 2 _ _ 35 [(0, rf G 0), (1, i9 p1)] [] d6 _
  refine r_aload_n C 0 dX11_behind_35 rfl rfl ?_
  refine r_getR C 58 dX11_behind_36 fl_X11_69 la_0 ly_0 rfl rfl ?_
  refine r_getI C dX11_behind_39 fl_X11_382 la_58 ly_58 rfl ?_
  refine r_aload_n C 0 dX11_behind_42 rfl rfl ?_
  refine r_getR C 58 dX11_behind_43 fl_X11_69 la_0 ly_0 rfl rfl ?_
  refine r_getI C dX11_behind_46 fl_X11_398 la_58 ly_58 rfl ?_
  refine r_callS C [i9 (d6 58 4), i9 (d6 58 1)] dX11_behind_49 (t_J6_bitCount_0f7a4 C.h1 C.h2 (d6 58 4) d6) mw_X11_153 ms_J6_bitCount_0f7a4 (by decide) (by decide) (by decide) rfl rfl (Nat.le_of_ble_eq_true rfl) (fun r7 d8 => ?_)
  show SS G X 2 _ _ 52 [(0, rf G 0), (1, i9 p1)] [i9 r7, i9 (d6 58 1)] d8 _
  refine r_isub C dX11_behind_52 ?_
  exact r_iret C dX11_behind_53 (by decide) (by decide)
theorem dX11_askHand_0 : decode cX11_askHand 0 = .ok (.aload_n 0, 1) := by decide +kernel
theorem dX11_askHand_1 : decode cX11_askHand 1 = .ok (.iload_n 1, 1) := by decide +kernel
theorem dX11_askHand_2 : decode cX11_askHand 2 = .ok (.invokevirtual 103, 3) := by decide +kernel
theorem dX11_askHand_5 : decode cX11_askHand 5 = .ok (.aload_n 0, 1) := by decide +kernel
theorem dX11_askHand_6 : decode cX11_askHand 6 = .ok (.getfield 10, 3) := by decide +kernel
theorem dX11_askHand_9 : decode cX11_askHand 9 = .ok (.getfield 77, 3) := by decide +kernel
theorem dX11_askHand_12 : decode cX11_askHand 12 = .ok (.getfield 144, 3) := by decide +kernel
theorem dX11_askHand_15 : decode cX11_askHand 15 = .ok (.iload_n 1, 1) := by decide +kernel
theorem dX11_askHand_16 : decode cX11_askHand 16 = .ok (.iaload, 1) := by decide +kernel
theorem dX11_askHand_17 : decode cX11_askHand 17 = .ok (.ifCond .eq 14, 3) := by decide +kernel
theorem dX11_askHand_20 : decode cX11_askHand 20 = .ok (.new 430, 3) := by decide +kernel
theorem dX11_askHand_23 : decode cX11_askHand 23 = .ok (.dup, 1) := by decide +kernel
theorem dX11_askHand_24 : decode cX11_askHand 24 = .ok (.ldc_w 455, 3) := by decide +kernel
theorem dX11_askHand_27 : decode cX11_askHand 27 = .ok (.invokespecial 434, 3) := by decide +kernel
theorem dX11_askHand_30 : decode cX11_askHand 30 = .ok (.athrow, 1) := by decide +kernel
theorem dX11_askHand_31 : decode cX11_askHand 31 = .ok (.return_, 1) := by decide +kernel
abbrev z_X11_askHand_0 : Z9 := (none, 0, 2, 12, 7, 121)
def m_X11_askHand_0 (p1 : Int) (d : D9) : Option R9 := cl (m_X11_askPaint_0 p1 d) (fun r1 d2 => ld d2 3 30 p1 (fun t3 => if w32 t3 = 0 then rt 0 d2 else th 1 d2))
set_option maxRecDepth 100000 in
theorem t_X11_askHand_0 {G : G9} {l : Launch} (h1 : va_D (A9 G) (wl G (fun _ _ => 0))) (h2 : l.stackTraces = false) (p1 : Int) (d : D9) : MT G l yX11_askHand cX11_askHand 2 z_X11_askHand_0 [rf G 0, i9 p1] d (m_X11_askHand_0 p1 d) := by
  refine mt_of (own := RX11) (by decide) rfl (Nat.le_of_ble_eq_true rfl) h1 h2 [(0, rf G 0), (1, i9 p1)] rfl (fun X hX C => ?_)
  unfold m_X11_askHand_0
  refine r_aload_n C 0 dX11_askHand_0 rfl rfl ?_
  refine r_iload_n C 1 dX11_askHand_1 rfl rfl ?_
  refine r_callV C [i9 p1, rf G 0] dX11_askHand_2 (t_X11_askPaint_0 C.h1 C.h2 p1 d) mw_X11_103 mv_X11_askPaint la_0 ly_0 rfl (by decide) (by decide) (by decide) rfl rfl (Nat.le_of_ble_eq_true rfl) (fun r1 d2 => ?_)
  show SS G X 2 _ _ 5 [(0, rf G 0), (1, i9 p1)] [] d2 _
  refine r_aload_n C 0 dX11_askHand_5 rfl rfl ?_
  refine r_getR C 1 dX11_askHand_6 fl_X11_10 la_0 ly_0 rfl rfl ?_
  refine r_getR C 2 dX11_askHand_9 fl_X11_77 la_1 ly_1 rfl rfl ?_
  refine r_getR C 3 dX11_askHand_12 fl_X11_144 la_2 ly_2 rfl rfl ?_
  refine r_iload_n C 1 dX11_askHand_15 rfl rfl ?_
  refine r_iald C dX11_askHand_16 la_3 ly_3 (fun t3 => ?_)
  refine r_if_eq C (b := 0) 31 dX11_askHand_17 (by decide) (fun _ => ?_) (fun _ => ?_)
  · exact r_vret C dX11_askHand_31 (by decide) (by decide)
  · exact r_throwW C (e := 1) 2 rfl tw_1_434 tc_1 dX11_askHand_20 dX11_askHand_23 dX11_askHand_24 dX11_askHand_27 dX11_askHand_30 (by decide) (by decide) (by decide) (by decide)
theorem dX10_isLike_0 : decode cX10_isLike 0 = .ok (.iconst 0, 1) := by decide +kernel
theorem dX10_isLike_1 : decode cX10_isLike 1 = .ok (.istore 4, 2) := by decide +kernel
theorem dX10_isLike_3 : decode cX10_isLike 3 = .ok (.iload 4, 2) := by decide +kernel
theorem dX10_isLike_5 : decode cX10_isLike 5 = .ok (.iconst 5, 1) := by decide +kernel
theorem dX10_isLike_6 : decode cX10_isLike 6 = .ok (.if_icmp .ge 72, 3) := by decide +kernel
theorem dX10_isLike_9 : decode cX10_isLike 9 = .ok (.aload_n 0, 1) := by decide +kernel
theorem dX10_isLike_10 : decode cX10_isLike 10 = .ok (.getfield 12, 3) := by decide +kernel
theorem dX10_isLike_13 : decode cX10_isLike 13 = .ok (.getfield 139, 3) := by decide +kernel
theorem dX10_isLike_16 : decode cX10_isLike 16 = .ok (.iload_n 2, 1) := by decide +kernel
theorem dX10_isLike_17 : decode cX10_isLike 17 = .ok (.iconst 5, 1) := by decide +kernel
theorem dX10_isLike_18 : decode cX10_isLike 18 = .ok (.imul, 1) := by decide +kernel
theorem dX10_isLike_19 : decode cX10_isLike 19 = .ok (.iload 4, 2) := by decide +kernel
theorem dX10_isLike_21 : decode cX10_isLike 21 = .ok (.iadd, 1) := by decide +kernel
theorem dX10_isLike_22 : decode cX10_isLike 22 = .ok (.iaload, 1) := by decide +kernel
theorem dX10_isLike_23 : decode cX10_isLike 23 = .ok (.istore 5, 2) := by decide +kernel
theorem dX10_isLike_25 : decode cX10_isLike 25 = .ok (.iload 5, 2) := by decide +kernel
theorem dX10_isLike_27 : decode cX10_isLike 27 = .ok (.aload_n 0, 1) := by decide +kernel
theorem dX10_isLike_28 : decode cX10_isLike 28 = .ok (.getfield 49, 3) := by decide +kernel
theorem dX10_isLike_31 : decode cX10_isLike 31 = .ok (.getfield 142, 3) := by decide +kernel
theorem dX10_isLike_34 : decode cX10_isLike 34 = .ok (.iload_n 1, 1) := by decide +kernel
theorem dX10_isLike_35 : decode cX10_isLike 35 = .ok (.iconst 5, 1) := by decide +kernel
theorem dX10_isLike_36 : decode cX10_isLike 36 = .ok (.imul, 1) := by decide +kernel
theorem dX10_isLike_37 : decode cX10_isLike 37 = .ok (.iload 4, 2) := by decide +kernel
theorem dX10_isLike_39 : decode cX10_isLike 39 = .ok (.iadd, 1) := by decide +kernel
theorem dX10_isLike_40 : decode cX10_isLike 40 = .ok (.iaload, 1) := by decide +kernel
theorem dX10_isLike_41 : decode cX10_isLike 41 = .ok (.isub, 1) := by decide +kernel
theorem dX10_isLike_42 : decode cX10_isLike 42 = .ok (.invokestatic 143, 3) := by decide +kernel
theorem dX10_isLike_45 : decode cX10_isLike 45 = .ok (.istore 6, 2) := by decide +kernel
theorem dX10_isLike_47 : decode cX10_isLike 47 = .ok (.iload 4, 2) := by decide +kernel
theorem dX10_isLike_49 : decode cX10_isLike 49 = .ok (.iload_n 3, 1) := by decide +kernel
theorem dX10_isLike_50 : decode cX10_isLike 50 = .ok (.if_icmp .eq 22, 3) := by decide +kernel
theorem dX10_isLike_53 : decode cX10_isLike 53 = .ok (.iload 5, 2) := by decide +kernel
theorem dX10_isLike_55 : decode cX10_isLike 55 = .ok (.ifCond .le 17, 3) := by decide +kernel
theorem dX10_isLike_58 : decode cX10_isLike 58 = .ok (.iload 6, 2) := by decide +kernel
theorem dX10_isLike_60 : decode cX10_isLike 60 = .ok (.aload_n 0, 1) := by decide +kernel
theorem dX10_isLike_61 : decode cX10_isLike 61 = .ok (.getfield 28, 3) := by decide +kernel
theorem dX10_isLike_64 : decode cX10_isLike 64 = .ok (.getfield 148, 3) := by decide +kernel
theorem dX10_isLike_67 : decode cX10_isLike 67 = .ok (.if_icmp .le 5, 3) := by decide +kernel
theorem dX10_isLike_70 : decode cX10_isLike 70 = .ok (.iconst 0, 1) := by decide +kernel
theorem dX10_isLike_71 : decode cX10_isLike 71 = .ok (.ireturn, 1) := by decide +kernel
theorem dX10_isLike_72 : decode cX10_isLike 72 = .ok (.iinc 4 1, 3) := by decide +kernel
theorem dX10_isLike_75 : decode cX10_isLike 75 = .ok (.goto (-72), 3) := by decide +kernel
theorem dX10_isLike_78 : decode cX10_isLike 78 = .ok (.iconst 1, 1) := by decide +kernel
theorem dX10_isLike_79 : decode cX10_isLike 79 = .ok (.ireturn, 1) := by decide +kernel
abbrev z_X10_isLike_1 : Z9 := (some .boolean, 1, 0, 0, 2, 60)
def b_X10_isLike_1_c3 (k_X10_isLike_1_c3 : Int → Int → Int → Int → D9 → Option R9) (v1 v2 v3 v4 : Int) (d : D9) : Option R9 := if w32 5 ≤ w32 v4 then rt (1 % 2) d else ld d 6 150 ((v2 * 5) + v4) (fun t1 => ld d 35 200 ((v1 * 5) + v4) (fun t2 => lt9v (abs9 (t1 - t2)) (fun a3 => if w32 v4 = w32 v3 then k_X10_isLike_1_c3 v1 v2 v3 (v4 + 1) d else if w32 t1 ≤ 0 then k_X10_isLike_1_c3 v1 v2 v3 (v4 + 1) d else if w32 a3 ≤ w32 (d 22 7) then k_X10_isLike_1_c3 v1 v2 v3 (v4 + 1) d else rt (0 % 2) d)))
def m_X10_isLike_1_c3 : Int → Int → Int → Int → D9 → Option R9 := fix9 (fun _ _ _ _ _ => none) (fun k => b_X10_isLike_1_c3 k) FU
def m_X10_isLike_1 (p1 p2 p3 : Int) (d : D9) : Option R9 := m_X10_isLike_1_c3  p1 p2 p3 0 d
set_option maxRecDepth 100000 in
theorem sb_X10_isLike_1_c3 {G : G9} {X : X9} (C : CX G X cX10_isLike 7 RX10 [] z_X10_isLike_1) (k_X10_isLike_1_c3 : Int → Int → Int → Int → D9 → Option R9) (hk_X10_isLike_1_c3 : ∀ (v1 v2 v3 v4 : Int) (d : D9), SS G X 7 0 0 3 [(0, rf G 1), (1, i9 v1), (2, i9 v2), (3, i9 v3), (4, i9 v4)] [] d (k_X10_isLike_1_c3 v1 v2 v3 v4 d)) : ∀ (v1 v2 v3 v4 : Int) (d : D9), SS G X 7 0 0 3 [(0, rf G 1), (1, i9 v1), (2, i9 v2), (3, i9 v3), (4, i9 v4)] [] d (b_X10_isLike_1_c3 k_X10_isLike_1_c3 v1 v2 v3 v4 d) := by
  intro v1 v2 v3 v4 d
  unfold b_X10_isLike_1_c3
  refine r_iload C 4 dX10_isLike_3 rfl ?_
  refine r_iconst C dX10_isLike_5 ?_
  refine r_icmp_ge C 78 dX10_isLike_6 (by decide) (fun _ => ?_) (fun _ => ?_)
  · refine r_iconst C dX10_isLike_78 ?_
    exact r_zret C dX10_isLike_79 (by decide) (by decide)
  · refine r_aload_n C 0 dX10_isLike_9 rfl rfl ?_
    refine r_getR C 2 dX10_isLike_10 fl_X10_12 la_1 ly_1 rfl rfl ?_
    refine r_getR C 6 dX10_isLike_13 fl_X10_139 la_2 ly_2 rfl rfl ?_
    refine r_iload_n C 2 dX10_isLike_16 rfl rfl ?_
    refine r_iconst C dX10_isLike_17 ?_
    refine r_imul C dX10_isLike_18 ?_
    refine r_iload C 4 dX10_isLike_19 rfl ?_
    refine r_iadd C dX10_isLike_21 ?_
    refine r_iald C dX10_isLike_22 la_6 ly_6 (fun t1 => ?_)
    refine r_istore C [(5, i9 t1), (0, rf G 1), (1, i9 v1), (2, i9 v2), (3, i9 v3), (4, i9 v4)] dX10_isLike_23 (by decide) rfl ?_
    refine r_iload C 0 dX10_isLike_25 rfl ?_
    refine r_aload_n C 1 dX10_isLike_27 rfl rfl ?_
    refine r_getR C 33 dX10_isLike_28 fl_X10_49 la_1 ly_1 rfl rfl ?_
    refine r_getR C 35 dX10_isLike_31 fl_X10_142 la_33 ly_33 rfl rfl ?_
    refine r_iload_n C 2 dX10_isLike_34 rfl rfl ?_
    refine r_iconst C dX10_isLike_35 ?_
    refine r_imul C dX10_isLike_36 ?_
    refine r_iload C 5 dX10_isLike_37 rfl ?_
    refine r_iadd C dX10_isLike_39 ?_
    refine r_iald C dX10_isLike_40 la_35 ly_35 (fun t2 => ?_)
    refine r_isub C dX10_isLike_41 ?_
    refine r_mabs C dX10_isLike_42 mm_X10_143 ⟨Nat.le_of_ble_eq_true rfl, Nat.le_of_ble_eq_true rfl⟩ (by decide) (by decide) ?_
    refine ss_lt (fun a3 => ?_)
    refine r_istore C [(6, i9 a3), (5, i9 t1), (0, rf G 1), (1, i9 v1), (2, i9 v2), (3, i9 v3), (4, i9 v4)] dX10_isLike_45 (by decide) rfl ?_
    refine r_iload C 6 dX10_isLike_47 rfl ?_
    refine r_iload_n C 5 dX10_isLike_49 rfl rfl ?_
    refine r_icmp_eq C 72 dX10_isLike_50 (by decide) (fun _ => ?_) (fun _ => ?_)
    · refine r_iinc C 6 [(4, i9 (v4 + 1)), (6, i9 a3), (5, i9 t1), (0, rf G 1), (1, i9 v1), (2, i9 v2), (3, i9 v3)] dX10_isLike_72 rfl (by decide) rfl ?_
      refine r_goto C 3 dX10_isLike_75 (by decide) ?_
      refine ss_wide (k' := 0) (n' := 0) (by decide) (by decide) ?_
      refine ss_ls [(0, rf G 1), (1, i9 v1), (2, i9 v2), (3, i9 v3), (4, i9 (v4 + 1))] [3, 4, 5, 6, 0] rfl ?_
      exact hk_X10_isLike_1_c3 v1 v2 v3 (v4 + 1) d
    · refine r_iload C 1 dX10_isLike_53 rfl ?_
      refine r_if_le C (b := 0) 72 dX10_isLike_55 (by decide) (fun _ => ?_) (fun _ => ?_)
      · refine r_iinc C 6 [(4, i9 (v4 + 1)), (6, i9 a3), (5, i9 t1), (0, rf G 1), (1, i9 v1), (2, i9 v2), (3, i9 v3)] dX10_isLike_72 rfl (by decide) rfl ?_
        refine r_goto C 3 dX10_isLike_75 (by decide) ?_
        refine ss_wide (k' := 0) (n' := 0) (by decide) (by decide) ?_
        refine ss_ls [(0, rf G 1), (1, i9 v1), (2, i9 v2), (3, i9 v3), (4, i9 (v4 + 1))] [3, 4, 5, 6, 0] rfl ?_
        exact hk_X10_isLike_1_c3 v1 v2 v3 (v4 + 1) d
      · refine r_iload C 0 dX10_isLike_58 rfl ?_
        refine r_aload_n C 2 dX10_isLike_60 rfl rfl ?_
        refine r_getR C 22 dX10_isLike_61 fl_X10_28 la_1 ly_1 rfl rfl ?_
        refine r_getI C dX10_isLike_64 fl_X10_148 la_22 ly_22 rfl ?_
        refine r_icmp_le C 72 dX10_isLike_67 (by decide) (fun _ => ?_) (fun _ => ?_)
        · refine r_iinc C 6 [(4, i9 (v4 + 1)), (6, i9 a3), (5, i9 t1), (0, rf G 1), (1, i9 v1), (2, i9 v2), (3, i9 v3)] dX10_isLike_72 rfl (by decide) rfl ?_
          refine r_goto C 3 dX10_isLike_75 (by decide) ?_
          refine ss_wide (k' := 0) (n' := 0) (by decide) (by decide) ?_
          refine ss_ls [(0, rf G 1), (1, i9 v1), (2, i9 v2), (3, i9 v3), (4, i9 (v4 + 1))] [3, 4, 5, 6, 0] rfl ?_
          exact hk_X10_isLike_1_c3 v1 v2 v3 (v4 + 1) d
        · refine r_iconst C dX10_isLike_70 ?_
          exact r_zret C dX10_isLike_71 (by decide) (by decide)
theorem s_X10_isLike_1_c3 {G : G9} {X : X9} (C : CX G X cX10_isLike 7 RX10 [] z_X10_isLike_1) : ∀ (v1 v2 v3 v4 : Int) (d : D9), SS G X 7 0 0 3 [(0, rf G 1), (1, i9 v1), (2, i9 v2), (3, i9 v3), (4, i9 v4)] [] d (m_X10_isLike_1_c3  v1 v2 v3 v4 d) :=
  fix9_ind (P := fun k => ∀ (v1 v2 v3 v4 : Int) (d : D9), SS G X 7 0 0 3 [(0, rf G 1), (1, i9 v1), (2, i9 v2), (3, i9 v3), (4, i9 v4)] [] d (k v1 v2 v3 v4 d)) (fun _ _ _ _ _ => ss_none) (fun k hk => sb_X10_isLike_1_c3 C k hk) FU
set_option maxRecDepth 100000 in
theorem t_X10_isLike_1 {G : G9} {l : Launch} (h1 : va_D (A9 G) (wl G (fun _ _ => 0))) (h2 : l.stackTraces = false) (p1 p2 p3 : Int) (d : D9) : MT G l yX10_isLike cX10_isLike 7 z_X10_isLike_1 [rf G 1, i9 p1, i9 p2, i9 p3] d (m_X10_isLike_1 p1 p2 p3 d) := by
  refine mt_of (own := RX10) (by decide) rfl (Nat.le_of_ble_eq_true rfl) h1 h2 [(0, rf G 1), (1, i9 p1), (2, i9 p2), (3, i9 p3)] rfl (fun X hX C => ?_)
  unfold m_X10_isLike_1
  refine r_iconst C dX10_isLike_0 ?_
  refine r_istore C [(4, i9 0), (0, rf G 1), (1, i9 p1), (2, i9 p2), (3, i9 p3)] dX10_isLike_1 (by decide) rfl ?_
  refine ss_wide (k' := 0) (n' := 0) (by decide) (by decide) ?_
  refine ss_ls [(0, rf G 1), (1, i9 p1), (2, i9 p2), (3, i9 p3), (4, i9 0)] [1, 2, 3, 4, 0] rfl ?_
  exact s_X10_isLike_1_c3 C  p1 p2 p3 0 d
theorem dX10_dueOf_0 : decode cX10_dueOf 0 = .ok (.iconst 0, 1) := by decide +kernel
theorem dX10_dueOf_1 : decode cX10_dueOf 1 = .ok (.istore_n 3, 1) := by decide +kernel
theorem dX10_dueOf_2 : decode cX10_dueOf 2 = .ok (.iconst 0, 1) := by decide +kernel
theorem dX10_dueOf_3 : decode cX10_dueOf 3 = .ok (.istore 4, 2) := by decide +kernel
theorem dX10_dueOf_5 : decode cX10_dueOf 5 = .ok (.iconst 0, 1) := by decide +kernel
theorem dX10_dueOf_6 : decode cX10_dueOf 6 = .ok (.istore 5, 2) := by decide +kernel
theorem dX10_dueOf_8 : decode cX10_dueOf 8 = .ok (.iload 5, 2) := by decide +kernel
theorem dX10_dueOf_10 : decode cX10_dueOf 10 = .ok (.aload_n 0, 1) := by decide +kernel
theorem dX10_dueOf_11 : decode cX10_dueOf 11 = .ok (.getfield 49, 3) := by decide +kernel
theorem dX10_dueOf_14 : decode cX10_dueOf 14 = .ok (.getfield 133, 3) := by decide +kernel
theorem dX10_dueOf_17 : decode cX10_dueOf 17 = .ok (.if_icmp .ge 40, 3) := by decide +kernel
theorem dX10_dueOf_20 : decode cX10_dueOf 20 = .ok (.aload_n 0, 1) := by decide +kernel
theorem dX10_dueOf_21 : decode cX10_dueOf 21 = .ok (.iload 5, 2) := by decide +kernel
theorem dX10_dueOf_23 : decode cX10_dueOf 23 = .ok (.iload_n 1, 1) := by decide +kernel
theorem dX10_dueOf_24 : decode cX10_dueOf 24 = .ok (.iload_n 2, 1) := by decide +kernel
theorem dX10_dueOf_25 : decode cX10_dueOf 25 = .ok (.invokevirtual 135, 3) := by decide +kernel
theorem dX10_dueOf_28 : decode cX10_dueOf 28 = .ok (.ifCond .eq 23, 3) := by decide +kernel
theorem dX10_dueOf_31 : decode cX10_dueOf 31 = .ok (.iload_n 3, 1) := by decide +kernel
theorem dX10_dueOf_32 : decode cX10_dueOf 32 = .ok (.aload_n 0, 1) := by decide +kernel
theorem dX10_dueOf_33 : decode cX10_dueOf 33 = .ok (.getfield 49, 3) := by decide +kernel
theorem dX10_dueOf_36 : decode cX10_dueOf 36 = .ok (.getfield 142, 3) := by decide +kernel
theorem dX10_dueOf_39 : decode cX10_dueOf 39 = .ok (.iload 5, 2) := by decide +kernel
theorem dX10_dueOf_41 : decode cX10_dueOf 41 = .ok (.iconst 5, 1) := by decide +kernel
theorem dX10_dueOf_42 : decode cX10_dueOf 42 = .ok (.imul, 1) := by decide +kernel
theorem dX10_dueOf_43 : decode cX10_dueOf 43 = .ok (.iload_n 2, 1) := by decide +kernel
theorem dX10_dueOf_44 : decode cX10_dueOf 44 = .ok (.iadd, 1) := by decide +kernel
theorem dX10_dueOf_45 : decode cX10_dueOf 45 = .ok (.iaload, 1) := by decide +kernel
theorem dX10_dueOf_46 : decode cX10_dueOf 46 = .ok (.iadd, 1) := by decide +kernel
theorem dX10_dueOf_47 : decode cX10_dueOf 47 = .ok (.istore_n 3, 1) := by decide +kernel
theorem dX10_dueOf_48 : decode cX10_dueOf 48 = .ok (.iinc 4 1, 3) := by decide +kernel
theorem dX10_dueOf_51 : decode cX10_dueOf 51 = .ok (.iinc 5 1, 3) := by decide +kernel
theorem dX10_dueOf_54 : decode cX10_dueOf 54 = .ok (.goto (-46), 3) := by decide +kernel
theorem dX10_dueOf_57 : decode cX10_dueOf 57 = .ok (.iload 4, 2) := by decide +kernel
theorem dX10_dueOf_59 : decode cX10_dueOf 59 = .ok (.ifCond .le 10, 3) := by decide +kernel
theorem dX10_dueOf_62 : decode cX10_dueOf 62 = .ok (.iload_n 3, 1) := by decide +kernel
theorem dX10_dueOf_63 : decode cX10_dueOf 63 = .ok (.iload 4, 2) := by decide +kernel
theorem dX10_dueOf_65 : decode cX10_dueOf 65 = .ok (.idiv, 1) := by decide +kernel
theorem dX10_dueOf_66 : decode cX10_dueOf 66 = .ok (.goto 4, 3) := by decide +kernel
theorem dX10_dueOf_69 : decode cX10_dueOf 69 = .ok (.iconst (-1), 1) := by decide +kernel
theorem dX10_dueOf_70 : decode cX10_dueOf 70 = .ok (.ireturn, 1) := by decide +kernel
abbrev z_X10_dueOf_1 : Z9 := (some .int, 1, 0, 0, 3, 86)
def b_X10_dueOf_1_c8 (k_X10_dueOf_1_c8 : Int → Int → Int → Int → Int → D9 → Option R9) (v1 v2 v3 v4 v5 : Int) (d : D9) : Option R9 := if w32 (d 33 0) ≤ w32 v5 then if w32 v4 ≤ 0 then rt (-1) d else dv v4 (rt (div9 v3 v4) d) else cl (m_X10_isLike_1 v5 v1 v2 d) (fun r2 d3 => if w32 r2 = 0 then k_X10_dueOf_1_c8 v1 v2 v3 v4 (v5 + 1) d3 else ld d3 35 200 ((v5 * 5) + v2) (fun t4 => lt9v (v3 + t4) (fun a5 => k_X10_dueOf_1_c8 v1 v2 a5 (v4 + 1) (v5 + 1) d3)))
def m_X10_dueOf_1_c8 : Int → Int → Int → Int → Int → D9 → Option R9 := fix9 (fun _ _ _ _ _ _ => none) (fun k => b_X10_dueOf_1_c8 k) FU
def m_X10_dueOf_1 (p1 p2 : Int) (d : D9) : Option R9 := m_X10_dueOf_1_c8  p1 p2 0 0 0 d
set_option maxRecDepth 100000 in
theorem sb_X10_dueOf_1_c8 {G : G9} {X : X9} (C : CX G X cX10_dueOf 6 RX10 [] z_X10_dueOf_1) (k_X10_dueOf_1_c8 : Int → Int → Int → Int → Int → D9 → Option R9) (hk_X10_dueOf_1_c8 : ∀ (v1 v2 v3 v4 v5 : Int) (d : D9), SS G X 6 0 0 8 [(0, rf G 1), (1, i9 v1), (2, i9 v2), (3, i9 v3), (4, i9 v4), (5, i9 v5)] [] d (k_X10_dueOf_1_c8 v1 v2 v3 v4 v5 d)) : ∀ (v1 v2 v3 v4 v5 : Int) (d : D9), SS G X 6 0 0 8 [(0, rf G 1), (1, i9 v1), (2, i9 v2), (3, i9 v3), (4, i9 v4), (5, i9 v5)] [] d (b_X10_dueOf_1_c8 k_X10_dueOf_1_c8 v1 v2 v3 v4 v5 d) := by
  intro v1 v2 v3 v4 v5 d
  unfold b_X10_dueOf_1_c8
  refine r_iload C 5 dX10_dueOf_8 rfl ?_
  refine r_aload_n C 0 dX10_dueOf_10 rfl rfl ?_
  refine r_getR C 33 dX10_dueOf_11 fl_X10_49 la_1 ly_1 rfl rfl ?_
  refine r_getI C dX10_dueOf_14 fl_X10_133 la_33 ly_33 rfl ?_
  refine r_icmp_ge C 57 dX10_dueOf_17 (by decide) (fun _ => ?_) (fun _ => ?_)
  · refine r_iload C 4 dX10_dueOf_57 rfl ?_
    refine r_if_le C (b := 0) 69 dX10_dueOf_59 (by decide) (fun _ => ?_) (fun _ => ?_)
    · refine r_iconst C dX10_dueOf_69 ?_
      exact r_iret C dX10_dueOf_70 (by decide) (by decide)
    · refine r_iload_n C 3 dX10_dueOf_62 rfl rfl ?_
      refine r_iload C 4 dX10_dueOf_63 rfl ?_
      refine ss_dv (fun h1 => ?_)
      refine r_idiv C dX10_dueOf_65 h1 ?_
      refine r_goto C 70 dX10_dueOf_66 (by decide) ?_
      exact r_iret C dX10_dueOf_70 (by decide) (by decide)
  · refine r_aload_n C 0 dX10_dueOf_20 rfl rfl ?_
    refine r_iload C 5 dX10_dueOf_21 rfl ?_
    refine r_iload_n C 1 dX10_dueOf_23 rfl rfl ?_
    refine r_iload_n C 2 dX10_dueOf_24 rfl rfl ?_
    refine r_callV C [i9 v2, i9 v1, i9 v5, rf G 1] dX10_dueOf_25 (t_X10_isLike_1 C.h1 C.h2 v5 v1 v2 d) mw_X10_135 mv_X10_isLike la_1 ly_1 rfl (by decide) (by decide) (by decide) rfl rfl (Nat.le_of_ble_eq_true rfl) (fun r2 d3 => ?_)
    show SS G X 6 _ _ 28 [(0, rf G 1), (1, i9 v1), (2, i9 v2), (3, i9 v3), (4, i9 v4), (5, i9 v5)] [i9 r2] d3 _
    refine r_if_eq C (b := 0) 51 dX10_dueOf_28 (by decide) (fun _ => ?_) (fun _ => ?_)
    · refine r_iinc C 5 [(5, i9 (v5 + 1)), (0, rf G 1), (1, i9 v1), (2, i9 v2), (3, i9 v3), (4, i9 v4)] dX10_dueOf_51 rfl (by decide) rfl ?_
      refine r_goto C 8 dX10_dueOf_54 (by decide) ?_
      refine ss_wide (k' := 0) (n' := 0) (by decide) (by decide) ?_
      refine ss_ls [(0, rf G 1), (1, i9 v1), (2, i9 v2), (3, i9 v3), (4, i9 v4), (5, i9 (v5 + 1))] [1, 2, 3, 4, 5, 0] rfl ?_
      exact hk_X10_dueOf_1_c8 v1 v2 v3 v4 (v5 + 1) d3
    · refine r_iload_n C 3 dX10_dueOf_31 rfl rfl ?_
      refine r_aload_n C 0 dX10_dueOf_32 rfl rfl ?_
      refine r_getR C 33 dX10_dueOf_33 fl_X10_49 la_1 ly_1 rfl rfl ?_
      refine r_getR C 35 dX10_dueOf_36 fl_X10_142 la_33 ly_33 rfl rfl ?_
      refine r_iload C 5 dX10_dueOf_39 rfl ?_
      refine r_iconst C dX10_dueOf_41 ?_
      refine r_imul C dX10_dueOf_42 ?_
      refine r_iload_n C 2 dX10_dueOf_43 rfl rfl ?_
      refine r_iadd C dX10_dueOf_44 ?_
      refine r_iald C dX10_dueOf_45 la_35 ly_35 (fun t4 => ?_)
      refine r_iadd C dX10_dueOf_46 ?_
      refine ss_lt (fun a5 => ?_)
      refine r_istore_n C [(3, i9 a5), (0, rf G 1), (1, i9 v1), (2, i9 v2), (4, i9 v4), (5, i9 v5)] dX10_dueOf_47 rfl (by decide) rfl ?_
      refine r_iinc C 4 [(4, i9 (v4 + 1)), (3, i9 a5), (0, rf G 1), (1, i9 v1), (2, i9 v2), (5, i9 v5)] dX10_dueOf_48 rfl (by decide) rfl ?_
      refine r_iinc C 5 [(5, i9 (v5 + 1)), (4, i9 (v4 + 1)), (3, i9 a5), (0, rf G 1), (1, i9 v1), (2, i9 v2)] dX10_dueOf_51 rfl (by decide) rfl ?_
      refine r_goto C 8 dX10_dueOf_54 (by decide) ?_
      refine ss_wide (k' := 0) (n' := 0) (by decide) (by decide) ?_
      refine ss_ls [(0, rf G 1), (1, i9 v1), (2, i9 v2), (3, i9 a5), (4, i9 (v4 + 1)), (5, i9 (v5 + 1))] [3, 4, 5, 2, 1, 0] rfl ?_
      exact hk_X10_dueOf_1_c8 v1 v2 a5 (v4 + 1) (v5 + 1) d3
theorem s_X10_dueOf_1_c8 {G : G9} {X : X9} (C : CX G X cX10_dueOf 6 RX10 [] z_X10_dueOf_1) : ∀ (v1 v2 v3 v4 v5 : Int) (d : D9), SS G X 6 0 0 8 [(0, rf G 1), (1, i9 v1), (2, i9 v2), (3, i9 v3), (4, i9 v4), (5, i9 v5)] [] d (m_X10_dueOf_1_c8  v1 v2 v3 v4 v5 d) :=
  fix9_ind (P := fun k => ∀ (v1 v2 v3 v4 v5 : Int) (d : D9), SS G X 6 0 0 8 [(0, rf G 1), (1, i9 v1), (2, i9 v2), (3, i9 v3), (4, i9 v4), (5, i9 v5)] [] d (k v1 v2 v3 v4 v5 d)) (fun _ _ _ _ _ _ => ss_none) (fun k hk => sb_X10_dueOf_1_c8 C k hk) FU
set_option maxRecDepth 100000 in
theorem t_X10_dueOf_1 {G : G9} {l : Launch} (h1 : va_D (A9 G) (wl G (fun _ _ => 0))) (h2 : l.stackTraces = false) (p1 p2 : Int) (d : D9) : MT G l yX10_dueOf cX10_dueOf 6 z_X10_dueOf_1 [rf G 1, i9 p1, i9 p2] d (m_X10_dueOf_1 p1 p2 d) := by
  refine mt_of (own := RX10) (by decide) rfl (Nat.le_of_ble_eq_true rfl) h1 h2 [(0, rf G 1), (1, i9 p1), (2, i9 p2)] rfl (fun X hX C => ?_)
  unfold m_X10_dueOf_1
  refine r_iconst C dX10_dueOf_0 ?_
  refine r_istore_n C [(3, i9 0), (0, rf G 1), (1, i9 p1), (2, i9 p2)] dX10_dueOf_1 rfl (by decide) rfl ?_
  refine r_iconst C dX10_dueOf_2 ?_
  refine r_istore C [(4, i9 0), (3, i9 0), (0, rf G 1), (1, i9 p1), (2, i9 p2)] dX10_dueOf_3 (by decide) rfl ?_
  refine r_iconst C dX10_dueOf_5 ?_
  refine r_istore C [(5, i9 0), (4, i9 0), (3, i9 0), (0, rf G 1), (1, i9 p1), (2, i9 p2)] dX10_dueOf_6 (by decide) rfl ?_
  refine ss_wide (k' := 0) (n' := 0) (by decide) (by decide) ?_
  refine ss_ls [(0, rf G 1), (1, i9 p1), (2, i9 p2), (3, i9 0), (4, i9 0), (5, i9 0)] [3, 4, 5, 2, 1, 0] rfl ?_
  exact s_X10_dueOf_1_c8 C  p1 p2 0 0 0 d
theorem dX0_drop_0 : decode cX0_drop 0 = .ok (.aload_n 0, 1) := by decide +kernel
theorem dX0_drop_1 : decode cX0_drop 1 = .ok (.lconst 0, 1) := by decide +kernel
theorem dX0_drop_2 : decode cX0_drop 2 = .ok (.putfield 17, 3) := by decide +kernel
theorem dX0_drop_5 : decode cX0_drop 5 = .ok (.aload_n 0, 1) := by decide +kernel
theorem dX0_drop_6 : decode cX0_drop 6 = .ok (.lconst 0, 1) := by decide +kernel
theorem dX0_drop_7 : decode cX0_drop 7 = .ok (.putfield 21, 3) := by decide +kernel
theorem dX0_drop_10 : decode cX0_drop 10 = .ok (.iconst 0, 1) := by decide +kernel
theorem dX0_drop_11 : decode cX0_drop 11 = .ok (.ireturn, 1) := by decide +kernel
abbrev z_X0_drop_53 : Z9 := (some .boolean, 1, 0, 0, 1, 0)
def m_X0_drop_53 (d : D9) : Option R9 := pf d 53 0 0 (fun d1 => pf d1 53 1 0 (fun d2 => rt (0 % 2) d2))
set_option maxRecDepth 100000 in
theorem t_X0_drop_53 {G : G9} {l : Launch} (h1 : va_D (A9 G) (wl G (fun _ _ => 0))) (h2 : l.stackTraces = false) (d : D9) : MT G l yX0_drop cX0_drop 1 z_X0_drop_53 [rf G 53] d (m_X0_drop_53  d) := by
  refine mt_of (own := RX0) (by decide) rfl (Nat.le_of_ble_eq_true rfl) h1 h2 [(0, rf G 53)] rfl (fun X hX C => ?_)
  unfold m_X0_drop_53
  refine r_aload_n C 0 dX0_drop_0 rfl rfl ?_
  refine r_lconst C dX0_drop_1 (a := 0) rfl ?_
  refine r_putL C dX0_drop_2 fp_X0_17 la_53 ly_53 rfl (fun d1 => ?_)
  refine r_aload_n C 0 dX0_drop_5 rfl rfl ?_
  refine r_lconst C dX0_drop_6 (a := 0) rfl ?_
  refine r_putL C dX0_drop_7 fp_X0_21 la_53 ly_53 rfl (fun d2 => ?_)
  refine r_iconst C dX0_drop_10 ?_
  exact r_zret C dX0_drop_11 (by decide) (by decide)
theorem dX10_isStump_0 : decode cX10_isStump 0 = .ok (.iconst 2, 1) := by decide +kernel
theorem dX10_isStump_1 : decode cX10_isStump 1 = .ok (.aload_n 0, 1) := by decide +kernel
theorem dX10_isStump_2 : decode cX10_isStump 2 = .ok (.getfield 12, 3) := by decide +kernel
theorem dX10_isStump_5 : decode cX10_isStump 5 = .ok (.getfield 139, 3) := by decide +kernel
theorem dX10_isStump_8 : decode cX10_isStump 8 = .ok (.iload_n 1, 1) := by decide +kernel
theorem dX10_isStump_9 : decode cX10_isStump 9 = .ok (.iconst 5, 1) := by decide +kernel
theorem dX10_isStump_10 : decode cX10_isStump 10 = .ok (.imul, 1) := by decide +kernel
theorem dX10_isStump_11 : decode cX10_isStump 11 = .ok (.iload_n 2, 1) := by decide +kernel
theorem dX10_isStump_12 : decode cX10_isStump 12 = .ok (.iadd, 1) := by decide +kernel
theorem dX10_isStump_13 : decode cX10_isStump 13 = .ok (.iaload, 1) := by decide +kernel
theorem dX10_isStump_14 : decode cX10_isStump 14 = .ok (.imul, 1) := by decide +kernel
theorem dX10_isStump_15 : decode cX10_isStump 15 = .ok (.iload_n 3, 1) := by decide +kernel
theorem dX10_isStump_16 : decode cX10_isStump 16 = .ok (.if_icmp .ge 7, 3) := by decide +kernel
theorem dX10_isStump_19 : decode cX10_isStump 19 = .ok (.iconst 1, 1) := by decide +kernel
theorem dX10_isStump_20 : decode cX10_isStump 20 = .ok (.goto 4, 3) := by decide +kernel
theorem dX10_isStump_23 : decode cX10_isStump 23 = .ok (.iconst 0, 1) := by decide +kernel
theorem dX10_isStump_24 : decode cX10_isStump 24 = .ok (.ireturn, 1) := by decide +kernel
abbrev z_X10_isStump_1 : Z9 := (some .boolean, 1, 0, 0, 1, 0)
def m_X10_isStump_1 (p1 p2 p3 : Int) (d : D9) : Option R9 := ld d 6 150 ((p1 * 5) + p2) (fun t1 => if w32 p3 ≤ w32 (2 * t1) then rt (0 % 2) d else rt (1 % 2) d)
set_option maxRecDepth 100000 in
theorem t_X10_isStump_1 {G : G9} {l : Launch} (h1 : va_D (A9 G) (wl G (fun _ _ => 0))) (h2 : l.stackTraces = false) (p1 p2 p3 : Int) (d : D9) : MT G l yX10_isStump cX10_isStump 4 z_X10_isStump_1 [rf G 1, i9 p1, i9 p2, i9 p3] d (m_X10_isStump_1 p1 p2 p3 d) := by
  refine mt_of (own := RX10) (by decide) rfl (Nat.le_of_ble_eq_true rfl) h1 h2 [(0, rf G 1), (1, i9 p1), (2, i9 p2), (3, i9 p3)] rfl (fun X hX C => ?_)
  unfold m_X10_isStump_1
  refine r_iconst C dX10_isStump_0 ?_
  refine r_aload_n C 0 dX10_isStump_1 rfl rfl ?_
  refine r_getR C 2 dX10_isStump_2 fl_X10_12 la_1 ly_1 rfl rfl ?_
  refine r_getR C 6 dX10_isStump_5 fl_X10_139 la_2 ly_2 rfl rfl ?_
  refine r_iload_n C 1 dX10_isStump_8 rfl rfl ?_
  refine r_iconst C dX10_isStump_9 ?_
  refine r_imul C dX10_isStump_10 ?_
  refine r_iload_n C 2 dX10_isStump_11 rfl rfl ?_
  refine r_iadd C dX10_isStump_12 ?_
  refine r_iald C dX10_isStump_13 la_6 ly_6 (fun t1 => ?_)
  refine r_imul C dX10_isStump_14 ?_
  refine r_iload_n C 3 dX10_isStump_15 rfl rfl ?_
  refine r_icmp_ge C 23 dX10_isStump_16 (by decide) (fun _ => ?_) (fun _ => ?_)
  · refine r_iconst C dX10_isStump_23 ?_
    exact r_zret C dX10_isStump_24 (by decide) (by decide)
  · refine r_iconst C dX10_isStump_19 ?_
    refine r_goto C 24 dX10_isStump_20 (by decide) ?_
    exact r_zret C dX10_isStump_24 (by decide) (by decide)
theorem dX0_commonOf_0 : decode cX0_commonOf 0 = .ok (.lload_n 0, 1) := by decide +kernel
theorem dX0_commonOf_1 : decode cX0_commonOf 1 = .ok (.lstore 4, 2) := by decide +kernel
theorem dX0_commonOf_3 : decode cX0_commonOf 3 = .ok (.lload_n 2, 1) := by decide +kernel
theorem dX0_commonOf_4 : decode cX0_commonOf 4 = .ok (.lstore 6, 2) := by decide +kernel
theorem dX0_commonOf_6 : decode cX0_commonOf 6 = .ok (.iconst 0, 1) := by decide +kernel
theorem dX0_commonOf_7 : decode cX0_commonOf 7 = .ok (.istore 8, 2) := by decide +kernel
theorem dX0_commonOf_9 : decode cX0_commonOf 9 = .ok (.iload 8, 2) := by decide +kernel
theorem dX0_commonOf_11 : decode cX0_commonOf 11 = .ok (.bipush 100, 2) := by decide +kernel
theorem dX0_commonOf_13 : decode cX0_commonOf 13 = .ok (.if_icmp .ge 31, 3) := by decide +kernel
theorem dX0_commonOf_16 : decode cX0_commonOf 16 = .ok (.lload 6, 2) := by decide +kernel
theorem dX0_commonOf_18 : decode cX0_commonOf 18 = .ok (.lconst 0, 1) := by decide +kernel
theorem dX0_commonOf_19 : decode cX0_commonOf 19 = .ok (.lcmp, 1) := by decide +kernel
theorem dX0_commonOf_20 : decode cX0_commonOf 20 = .ok (.ifCond .eq 24, 3) := by decide +kernel
theorem dX0_commonOf_23 : decode cX0_commonOf 23 = .ok (.lload 4, 2) := by decide +kernel
theorem dX0_commonOf_25 : decode cX0_commonOf 25 = .ok (.lload 6, 2) := by decide +kernel
theorem dX0_commonOf_27 : decode cX0_commonOf 27 = .ok (.lrem, 1) := by decide +kernel
theorem dX0_commonOf_28 : decode cX0_commonOf 28 = .ok (.lstore 9, 2) := by decide +kernel
theorem dX0_commonOf_30 : decode cX0_commonOf 30 = .ok (.lload 6, 2) := by decide +kernel
theorem dX0_commonOf_32 : decode cX0_commonOf 32 = .ok (.lstore 4, 2) := by decide +kernel
theorem dX0_commonOf_34 : decode cX0_commonOf 34 = .ok (.lload 9, 2) := by decide +kernel
theorem dX0_commonOf_36 : decode cX0_commonOf 36 = .ok (.lstore 6, 2) := by decide +kernel
theorem dX0_commonOf_38 : decode cX0_commonOf 38 = .ok (.iinc 8 1, 3) := by decide +kernel
theorem dX0_commonOf_41 : decode cX0_commonOf 41 = .ok (.goto (-32), 3) := by decide +kernel
theorem dX0_commonOf_44 : decode cX0_commonOf 44 = .ok (.lload 4, 2) := by decide +kernel
theorem dX0_commonOf_46 : decode cX0_commonOf 46 = .ok (.lreturn, 1) := by decide +kernel
abbrev z_X0_commonOf : Z9 := (some .long, 2, 0, 0, 1, 0)
def b_X0_commonOf_c9 (k_X0_commonOf_c9 : Int → Int → Int → D9 → Option R9) (v4 v6 v8 : Int) (d : D9) : Option R9 := if w32 100 ≤ w32 v8 then rt v4 d else if w64 v6 = w64 0 then rt v4 d else dvL v6 (lt9v (remL v4 v6) (fun a2 => k_X0_commonOf_c9 v6 a2 (v8 + 1) d))
def m_X0_commonOf_c9 : Int → Int → Int → D9 → Option R9 := fix9 (fun _ _ _ _ => none) (fun k => b_X0_commonOf_c9 k) FU
def m_X0_commonOf (p0 p1 : Int) (d : D9) : Option R9 := m_X0_commonOf_c9  p0 p1 0 d
set_option maxRecDepth 100000 in
theorem sb_X0_commonOf_c9 {G : G9} {X : X9} (C : CX G X cX0_commonOf 11 RX0 [] z_X0_commonOf) (k_X0_commonOf_c9 : Int → Int → Int → D9 → Option R9) (hk_X0_commonOf_c9 : ∀ (v4 v6 v8 : Int) (d : D9), SS G X 11 0 0 9 [(4, l9 v4), (6, l9 v6), (8, i9 v8)] [] d (k_X0_commonOf_c9 v4 v6 v8 d)) : ∀ (v4 v6 v8 : Int) (d : D9), SS G X 11 0 0 9 [(4, l9 v4), (6, l9 v6), (8, i9 v8)] [] d (b_X0_commonOf_c9 k_X0_commonOf_c9 v4 v6 v8 d) := by
  intro v4 v6 v8 d
  unfold b_X0_commonOf_c9
  refine r_iload C 2 dX0_commonOf_9 rfl ?_
  refine r_bipush C dX0_commonOf_11 rfl ?_
  refine r_icmp_ge C 44 dX0_commonOf_13 (by decide) (fun _ => ?_) (fun _ => ?_)
  · refine r_lload C 0 dX0_commonOf_44 rfl ?_
    exact r_lret C dX0_commonOf_46 (by decide) (by decide)
  · refine r_lload C 1 dX0_commonOf_16 rfl ?_
    refine r_lconst C dX0_commonOf_18 (a := 0) rfl ?_
    refine r_lcmp_eq C 44 dX0_commonOf_19 dX0_commonOf_20 (by decide) (fun _ => ?_) (fun _ => ?_)
    · refine r_lload C 0 dX0_commonOf_44 rfl ?_
      exact r_lret C dX0_commonOf_46 (by decide) (by decide)
    · refine r_lload C 0 dX0_commonOf_23 rfl ?_
      refine r_lload C 1 dX0_commonOf_25 rfl ?_
      refine ss_dvL (fun h1 => ?_)
      refine r_lrem C dX0_commonOf_27 h1 ?_
      refine ss_ltL (fun a2 => ?_)
      refine r_lstore C [(9, l9 a2), (4, l9 v4), (6, l9 v6), (8, i9 v8)] dX0_commonOf_28 (by decide) rfl ?_
      refine r_lload C 2 dX0_commonOf_30 rfl ?_
      refine r_lstore C [(4, l9 v6), (9, l9 a2), (6, l9 v6), (8, i9 v8)] dX0_commonOf_32 (by decide) rfl ?_
      refine r_lload C 1 dX0_commonOf_34 rfl ?_
      refine r_lstore C [(6, l9 a2), (4, l9 v6), (9, l9 a2), (8, i9 v8)] dX0_commonOf_36 (by decide) rfl ?_
      refine r_iinc C 3 [(8, i9 (v8 + 1)), (6, l9 a2), (4, l9 v6), (9, l9 a2)] dX0_commonOf_38 rfl (by decide) rfl ?_
      refine r_goto C 9 dX0_commonOf_41 (by decide) ?_
      refine ss_wide (k' := 0) (n' := 0) (by decide) (by decide) ?_
      refine ss_ls [(4, l9 v6), (6, l9 a2), (8, i9 (v8 + 1))] [2, 1, 0] rfl ?_
      exact hk_X0_commonOf_c9 v6 a2 (v8 + 1) d
theorem s_X0_commonOf_c9 {G : G9} {X : X9} (C : CX G X cX0_commonOf 11 RX0 [] z_X0_commonOf) : ∀ (v4 v6 v8 : Int) (d : D9), SS G X 11 0 0 9 [(4, l9 v4), (6, l9 v6), (8, i9 v8)] [] d (m_X0_commonOf_c9  v4 v6 v8 d) :=
  fix9_ind (P := fun k => ∀ (v4 v6 v8 : Int) (d : D9), SS G X 11 0 0 9 [(4, l9 v4), (6, l9 v6), (8, i9 v8)] [] d (k v4 v6 v8 d)) (fun _ _ _ _ => ss_none) (fun k hk => sb_X0_commonOf_c9 C k hk) FU
set_option maxRecDepth 100000 in
theorem t_X0_commonOf {G : G9} {l : Launch} (h1 : va_D (A9 G) (wl G (fun _ _ => 0))) (h2 : l.stackTraces = false) (p0 p1 : Int) (d : D9) : MT G l yX0_commonOf cX0_commonOf 11 z_X0_commonOf [l9 p0, l9 p1] d (m_X0_commonOf p0 p1 d) := by
  refine mt_of (own := RX0) (by decide) rfl (Nat.le_of_ble_eq_true rfl) h1 h2 [(0, l9 p0), (2, l9 p1)] rfl (fun X hX C => ?_)
  unfold m_X0_commonOf
  refine r_lload_n C 0 dX0_commonOf_0 rfl rfl ?_
  refine r_lstore C [(4, l9 p0), (0, l9 p0), (2, l9 p1)] dX0_commonOf_1 (by decide) rfl ?_
  refine r_lload_n C 2 dX0_commonOf_3 rfl rfl ?_
  refine r_lstore C [(6, l9 p1), (4, l9 p0), (0, l9 p0), (2, l9 p1)] dX0_commonOf_4 (by decide) rfl ?_
  refine r_iconst C dX0_commonOf_6 ?_
  refine r_istore C [(8, i9 0), (6, l9 p1), (4, l9 p0), (0, l9 p0), (2, l9 p1)] dX0_commonOf_7 (by decide) rfl ?_
  refine ss_wide (k' := 0) (n' := 0) (by decide) (by decide) ?_
  refine ss_ls [(4, l9 p0), (6, l9 p1), (8, i9 0)] [2, 1, 0] rfl ?_
  exact s_X0_commonOf_c9 C  p0 p1 0 d
theorem dX0_put_0 : decode cX0_put 0 = .ok (.lload_n 3, 1) := by decide +kernel
theorem dX0_put_1 : decode cX0_put 1 = .ok (.lconst 0, 1) := by decide +kernel
theorem dX0_put_2 : decode cX0_put 2 = .ok (.lcmp, 1) := by decide +kernel
theorem dX0_put_3 : decode cX0_put 3 = .ok (.ifCond .gt 8, 3) := by decide +kernel
theorem dX0_put_6 : decode cX0_put 6 = .ok (.aload_n 0, 1) := by decide +kernel
theorem dX0_put_7 : decode cX0_put 7 = .ok (.invokevirtual 7, 3) := by decide +kernel
theorem dX0_put_10 : decode cX0_put 10 = .ok (.ireturn, 1) := by decide +kernel
theorem dX0_put_11 : decode cX0_put 11 = .ok (.lload_n 1, 1) := by decide +kernel
theorem dX0_put_12 : decode cX0_put 12 = .ok (.lload_n 3, 1) := by decide +kernel
theorem dX0_put_13 : decode cX0_put 13 = .ok (.invokestatic 13, 3) := by decide +kernel
theorem dX0_put_16 : decode cX0_put 16 = .ok (.lstore 5, 2) := by decide +kernel
theorem dX0_put_18 : decode cX0_put 18 = .ok (.lload 5, 2) := by decide +kernel
theorem dX0_put_20 : decode cX0_put 20 = .ok (.lconst 0, 1) := by decide +kernel
theorem dX0_put_21 : decode cX0_put 21 = .ok (.lcmp, 1) := by decide +kernel
theorem dX0_put_22 : decode cX0_put 22 = .ok (.ifCond .gt 8, 3) := by decide +kernel
theorem dX0_put_25 : decode cX0_put 25 = .ok (.aload_n 0, 1) := by decide +kernel
theorem dX0_put_26 : decode cX0_put 26 = .ok (.invokevirtual 7, 3) := by decide +kernel
theorem dX0_put_29 : decode cX0_put 29 = .ok (.ireturn, 1) := by decide +kernel
theorem dX0_put_30 : decode cX0_put 30 = .ok (.aload_n 0, 1) := by decide +kernel
theorem dX0_put_31 : decode cX0_put 31 = .ok (.lload_n 1, 1) := by decide +kernel
theorem dX0_put_32 : decode cX0_put 32 = .ok (.lload 5, 2) := by decide +kernel
theorem dX0_put_34 : decode cX0_put 34 = .ok (.ldiv, 1) := by decide +kernel
theorem dX0_put_35 : decode cX0_put 35 = .ok (.putfield 17, 3) := by decide +kernel
theorem dX0_put_38 : decode cX0_put 38 = .ok (.aload_n 0, 1) := by decide +kernel
theorem dX0_put_39 : decode cX0_put 39 = .ok (.lload_n 3, 1) := by decide +kernel
theorem dX0_put_40 : decode cX0_put 40 = .ok (.lload 5, 2) := by decide +kernel
theorem dX0_put_42 : decode cX0_put 42 = .ok (.ldiv, 1) := by decide +kernel
theorem dX0_put_43 : decode cX0_put 43 = .ok (.putfield 21, 3) := by decide +kernel
theorem dX0_put_46 : decode cX0_put 46 = .ok (.iconst 1, 1) := by decide +kernel
theorem dX0_put_47 : decode cX0_put 47 = .ok (.ireturn, 1) := by decide +kernel
abbrev z_X0_put_53 : Z9 := (some .boolean, 1, 0, 0, 2, 30)
def m_X0_put_53 (p1 p2 : Int) (d : D9) : Option R9 := if w64 0 < w64 p2 then cl (m_X0_commonOf p1 p2 d) (fun r1 d2 => if w64 0 < w64 r1 then dvL r1 (pf d2 53 0 (divL p1 r1) (fun d4 => dvL r1 (pf d4 53 1 (divL p2 r1) (fun d6 => rt (1 % 2) d6)))) else cl (m_X0_drop_53 d2) (fun r7 d8 => rt (r7 % 2) d8)) else cl (m_X0_drop_53 d) (fun r9 d10 => rt (r9 % 2) d10)
set_option maxRecDepth 100000 in
theorem t_X0_put_53 {G : G9} {l : Launch} (h1 : va_D (A9 G) (wl G (fun _ _ => 0))) (h2 : l.stackTraces = false) (p1 p2 : Int) (d : D9) : MT G l yX0_put cX0_put 7 z_X0_put_53 [rf G 53, l9 p1, l9 p2] d (m_X0_put_53 p1 p2 d) := by
  refine mt_of (own := RX0) (by decide) rfl (Nat.le_of_ble_eq_true rfl) h1 h2 [(0, rf G 53), (1, l9 p1), (3, l9 p2)] rfl (fun X hX C => ?_)
  unfold m_X0_put_53
  refine r_lload_n C 2 dX0_put_0 rfl rfl ?_
  refine r_lconst C dX0_put_1 (a := 0) rfl ?_
  refine r_lcmp_gt C 11 dX0_put_2 dX0_put_3 (by decide) (fun _ => ?_) (fun _ => ?_)
  · refine r_lload_n C 1 dX0_put_11 rfl rfl ?_
    refine r_lload_n C 2 dX0_put_12 rfl rfl ?_
    refine r_callS C [l9 p2, l9 p1] dX0_put_13 (t_X0_commonOf C.h1 C.h2 p1 p2 d) mw_X0_13 ms_X0_commonOf (by decide) (by decide) (by decide) rfl rfl (Nat.le_of_ble_eq_true rfl) (fun r1 d2 => ?_)
    show SS G X 7 _ _ 16 [(0, rf G 53), (1, l9 p1), (3, l9 p2)] [l9 r1] d2 _
    refine r_lstore C [(5, l9 r1), (0, rf G 53), (1, l9 p1), (3, l9 p2)] dX0_put_16 (by decide) rfl ?_
    refine r_lload C 0 dX0_put_18 rfl ?_
    refine r_lconst C dX0_put_20 (a := 0) rfl ?_
    refine r_lcmp_gt C 30 dX0_put_21 dX0_put_22 (by decide) (fun _ => ?_) (fun _ => ?_)
    · refine r_aload_n C 1 dX0_put_30 rfl rfl ?_
      refine r_lload_n C 2 dX0_put_31 rfl rfl ?_
      refine r_lload C 0 dX0_put_32 rfl ?_
      refine ss_dvL (fun h3 => ?_)
      refine r_ldiv C dX0_put_34 h3 ?_
      refine r_putL C dX0_put_35 fp_X0_17 la_53 ly_53 rfl (fun d4 => ?_)
      refine r_aload_n C 1 dX0_put_38 rfl rfl ?_
      refine r_lload_n C 3 dX0_put_39 rfl rfl ?_
      refine r_lload C 0 dX0_put_40 rfl ?_
      refine ss_dvL (fun h5 => ?_)
      refine r_ldiv C dX0_put_42 h5 ?_
      refine r_putL C dX0_put_43 fp_X0_21 la_53 ly_53 rfl (fun d6 => ?_)
      refine r_iconst C dX0_put_46 ?_
      exact r_zret C dX0_put_47 (by decide) (by decide)
    · refine r_aload_n C 1 dX0_put_25 rfl rfl ?_
      refine r_callV C [rf G 53] dX0_put_26 (t_X0_drop_53 C.h1 C.h2 d2) mw_X0_7 mv_X0_drop la_53 ly_53 rfl (by decide) (by decide) (by decide) rfl rfl (Nat.le_of_ble_eq_true rfl) (fun r7 d8 => ?_)
      show SS G X 7 _ _ 29 [(5, l9 r1), (0, rf G 53), (1, l9 p1), (3, l9 p2)] [i9 r7] d8 _
      exact r_zret C dX0_put_29 (by decide) (by decide)
  · refine r_aload_n C 0 dX0_put_6 rfl rfl ?_
    refine r_callV C [rf G 53] dX0_put_7 (t_X0_drop_53 C.h1 C.h2 d) mw_X0_7 mv_X0_drop la_53 ly_53 rfl (by decide) (by decide) (by decide) rfl rfl (Nat.le_of_ble_eq_true rfl) (fun r9 d10 => ?_)
    show SS G X 7 _ _ 10 [(0, rf G 53), (1, l9 p1), (3, l9 p2)] [i9 r9] d10 _
    exact r_zret C dX0_put_10 (by decide) (by decide)
theorem dX10_bentInto_0 : decode cX10_bentInto 0 = .ok (.aload_n 0, 1) := by decide +kernel
theorem dX10_bentInto_1 : decode cX10_bentInto 1 = .ok (.iload_n 1, 1) := by decide +kernel
theorem dX10_bentInto_2 : decode cX10_bentInto 2 = .ok (.iload_n 2, 1) := by decide +kernel
theorem dX10_bentInto_3 : decode cX10_bentInto 3 = .ok (.invokevirtual 172, 3) := by decide +kernel
theorem dX10_bentInto_6 : decode cX10_bentInto 6 = .ok (.istore 4, 2) := by decide +kernel
theorem dX10_bentInto_8 : decode cX10_bentInto 8 = .ok (.iload 4, 2) := by decide +kernel
theorem dX10_bentInto_10 : decode cX10_bentInto 10 = .ok (.ifCond .le 14, 3) := by decide +kernel
theorem dX10_bentInto_13 : decode cX10_bentInto 13 = .ok (.aload_n 0, 1) := by decide +kernel
theorem dX10_bentInto_14 : decode cX10_bentInto 14 = .ok (.iload_n 1, 1) := by decide +kernel
theorem dX10_bentInto_15 : decode cX10_bentInto 15 = .ok (.iload_n 2, 1) := by decide +kernel
theorem dX10_bentInto_16 : decode cX10_bentInto 16 = .ok (.iload 4, 2) := by decide +kernel
theorem dX10_bentInto_18 : decode cX10_bentInto 18 = .ok (.invokevirtual 175, 3) := by decide +kernel
theorem dX10_bentInto_21 : decode cX10_bentInto 21 = .ok (.ifCond .ne 8, 3) := by decide +kernel
theorem dX10_bentInto_24 : decode cX10_bentInto 24 = .ok (.aload_n 3, 1) := by decide +kernel
theorem dX10_bentInto_25 : decode cX10_bentInto 25 = .ok (.invokevirtual 154, 3) := by decide +kernel
theorem dX10_bentInto_28 : decode cX10_bentInto 28 = .ok (.ireturn, 1) := by decide +kernel
theorem dX10_bentInto_29 : decode cX10_bentInto 29 = .ok (.bipush 10, 2) := by decide +kernel
theorem dX10_bentInto_31 : decode cX10_bentInto 31 = .ok (.aload_n 0, 1) := by decide +kernel
theorem dX10_bentInto_32 : decode cX10_bentInto 32 = .ok (.getfield 12, 3) := by decide +kernel
theorem dX10_bentInto_35 : decode cX10_bentInto 35 = .ok (.getfield 139, 3) := by decide +kernel
theorem dX10_bentInto_38 : decode cX10_bentInto 38 = .ok (.iload_n 1, 1) := by decide +kernel
theorem dX10_bentInto_39 : decode cX10_bentInto 39 = .ok (.iconst 5, 1) := by decide +kernel
theorem dX10_bentInto_40 : decode cX10_bentInto 40 = .ok (.imul, 1) := by decide +kernel
theorem dX10_bentInto_41 : decode cX10_bentInto 41 = .ok (.iload_n 2, 1) := by decide +kernel
theorem dX10_bentInto_42 : decode cX10_bentInto 42 = .ok (.iadd, 1) := by decide +kernel
theorem dX10_bentInto_43 : decode cX10_bentInto 43 = .ok (.iaload, 1) := by decide +kernel
theorem dX10_bentInto_44 : decode cX10_bentInto 44 = .ok (.imul, 1) := by decide +kernel
theorem dX10_bentInto_45 : decode cX10_bentInto 45 = .ok (.iload 4, 2) := by decide +kernel
theorem dX10_bentInto_47 : decode cX10_bentInto 47 = .ok (.idiv, 1) := by decide +kernel
theorem dX10_bentInto_48 : decode cX10_bentInto 48 = .ok (.istore 5, 2) := by decide +kernel
theorem dX10_bentInto_50 : decode cX10_bentInto 50 = .ok (.iload 5, 2) := by decide +kernel
theorem dX10_bentInto_52 : decode cX10_bentInto 52 = .ok (.ifCond .lt 9, 3) := by decide +kernel
theorem dX10_bentInto_55 : decode cX10_bentInto 55 = .ok (.iload 5, 2) := by decide +kernel
theorem dX10_bentInto_57 : decode cX10_bentInto 57 = .ok (.iconst 5, 1) := by decide +kernel
theorem dX10_bentInto_58 : decode cX10_bentInto 58 = .ok (.if_icmp .lt 8, 3) := by decide +kernel
theorem dX10_bentInto_61 : decode cX10_bentInto 61 = .ok (.aload_n 3, 1) := by decide +kernel
theorem dX10_bentInto_62 : decode cX10_bentInto 62 = .ok (.invokevirtual 154, 3) := by decide +kernel
theorem dX10_bentInto_65 : decode cX10_bentInto 65 = .ok (.ireturn, 1) := by decide +kernel
theorem dX10_bentInto_66 : decode cX10_bentInto 66 = .ok (.aload_n 0, 1) := by decide +kernel
theorem dX10_bentInto_67 : decode cX10_bentInto 67 = .ok (.getfield 49, 3) := by decide +kernel
theorem dX10_bentInto_70 : decode cX10_bentInto 70 = .ok (.getfield 178, 3) := by decide +kernel
theorem dX10_bentInto_73 : decode cX10_bentInto 73 = .ok (.iload 5, 2) := by decide +kernel
theorem dX10_bentInto_75 : decode cX10_bentInto 75 = .ok (.iaload, 1) := by decide +kernel
theorem dX10_bentInto_76 : decode cX10_bentInto 76 = .ok (.istore 6, 2) := by decide +kernel
theorem dX10_bentInto_78 : decode cX10_bentInto 78 = .ok (.aload_n 3, 1) := by decide +kernel
theorem dX10_bentInto_79 : decode cX10_bentInto 79 = .ok (.iload 6, 2) := by decide +kernel
theorem dX10_bentInto_81 : decode cX10_bentInto 81 = .ok (.i2l, 1) := by decide +kernel
theorem dX10_bentInto_82 : decode cX10_bentInto 82 = .ok (.iload 6, 2) := by decide +kernel
theorem dX10_bentInto_84 : decode cX10_bentInto 84 = .ok (.aload_n 0, 1) := by decide +kernel
theorem dX10_bentInto_85 : decode cX10_bentInto 85 = .ok (.getfield 49, 3) := by decide +kernel
theorem dX10_bentInto_88 : decode cX10_bentInto 88 = .ok (.getfield 181, 3) := by decide +kernel
theorem dX10_bentInto_91 : decode cX10_bentInto 91 = .ok (.iload 5, 2) := by decide +kernel
theorem dX10_bentInto_93 : decode cX10_bentInto 93 = .ok (.iaload, 1) := by decide +kernel
theorem dX10_bentInto_94 : decode cX10_bentInto 94 = .ok (.iadd, 1) := by decide +kernel
theorem dX10_bentInto_95 : decode cX10_bentInto 95 = .ok (.i2l, 1) := by decide +kernel
theorem dX10_bentInto_96 : decode cX10_bentInto 96 = .ok (.invokevirtual 127, 3) := by decide +kernel
theorem dX10_bentInto_99 : decode cX10_bentInto 99 = .ok (.ireturn, 1) := by decide +kernel
abbrev z_X10_bentInto_1_53 : Z9 := (some .boolean, 1, 0, 0, 4, 111)
def m_X10_bentInto_1_53_c24 (d : D9) : Option R9 := cl (m_X0_drop_53 d) (fun r1 d2 => rt (r1 % 2) d2)
def m_X10_bentInto_1_53_c61 (d : D9) : Option R9 := cl (m_X0_drop_53 d) (fun r1 d2 => rt (r1 % 2) d2)
def m_X10_bentInto_1_53 (p1 p2 : Int) (d : D9) : Option R9 := cl (m_X10_dueOf_1 p1 p2 d) (fun r1 d2 => if w32 r1 ≤ 0 then m_X10_bentInto_1_53_c24   d2 else cl (m_X10_isStump_1 p1 p2 r1 d2) (fun r3 d4 => if w32 r3 ≠ 0 then ld d4 6 150 ((p1 * 5) + p2) (fun t5 => dv r1 (lt9v (div9 (10 * t5) r1) (fun a7 => if w32 a7 < 0 then m_X10_bentInto_1_53_c61   d4 else if w32 a7 < w32 5 then ld d4 36 5 a7 (fun t8 => ld d4 37 5 a7 (fun t9 => cl (m_X0_put_53 (w32 t8) (w32 (t8 + t9)) d4) (fun r10 d11 => rt (r10 % 2) d11))) else m_X10_bentInto_1_53_c61   d4))) else m_X10_bentInto_1_53_c24   d4))
set_option maxRecDepth 100000 in
theorem s_X10_bentInto_1_53_c24 {G : G9} {X : X9} (C : CX G X cX10_bentInto 7 RX10 [] z_X10_bentInto_1_53) : ∀ (d : D9), SS G X 7 0 0 24 [(3, rf G 53)] [] d (m_X10_bentInto_1_53_c24   d) := by
  intro  d
  unfold m_X10_bentInto_1_53_c24
  refine r_aload_n C 0 dX10_bentInto_24 rfl rfl ?_
  refine r_callV C [rf G 53] dX10_bentInto_25 (t_X0_drop_53 C.h1 C.h2 d) mw_X10_154 mv_X0_drop la_53 ly_53 rfl (by decide) (by decide) (by decide) rfl rfl (Nat.le_of_ble_eq_true rfl) (fun r1 d2 => ?_)
  show SS G X 7 _ _ 28 [(3, rf G 53)] [i9 r1] d2 _
  exact r_zret C dX10_bentInto_28 (by decide) (by decide)
set_option maxRecDepth 100000 in
theorem s_X10_bentInto_1_53_c61 {G : G9} {X : X9} (C : CX G X cX10_bentInto 7 RX10 [] z_X10_bentInto_1_53) : ∀ (d : D9), SS G X 7 0 0 61 [(3, rf G 53)] [] d (m_X10_bentInto_1_53_c61   d) := by
  intro  d
  unfold m_X10_bentInto_1_53_c61
  refine r_aload_n C 0 dX10_bentInto_61 rfl rfl ?_
  refine r_callV C [rf G 53] dX10_bentInto_62 (t_X0_drop_53 C.h1 C.h2 d) mw_X10_154 mv_X0_drop la_53 ly_53 rfl (by decide) (by decide) (by decide) rfl rfl (Nat.le_of_ble_eq_true rfl) (fun r1 d2 => ?_)
  show SS G X 7 _ _ 65 [(3, rf G 53)] [i9 r1] d2 _
  exact r_zret C dX10_bentInto_65 (by decide) (by decide)
set_option maxRecDepth 100000 in
theorem t_X10_bentInto_1_53 {G : G9} {l : Launch} (h1 : va_D (A9 G) (wl G (fun _ _ => 0))) (h2 : l.stackTraces = false) (p1 p2 : Int) (d : D9) : MT G l yX10_bentInto cX10_bentInto 7 z_X10_bentInto_1_53 [rf G 1, i9 p1, i9 p2, rf G 53] d (m_X10_bentInto_1_53 p1 p2 d) := by
  refine mt_of (own := RX10) (by decide) rfl (Nat.le_of_ble_eq_true rfl) h1 h2 [(0, rf G 1), (1, i9 p1), (2, i9 p2), (3, rf G 53)] rfl (fun X hX C => ?_)
  unfold m_X10_bentInto_1_53
  refine r_aload_n C 0 dX10_bentInto_0 rfl rfl ?_
  refine r_iload_n C 1 dX10_bentInto_1 rfl rfl ?_
  refine r_iload_n C 2 dX10_bentInto_2 rfl rfl ?_
  refine r_callV C [i9 p2, i9 p1, rf G 1] dX10_bentInto_3 (t_X10_dueOf_1 C.h1 C.h2 p1 p2 d) mw_X10_172 mv_X10_dueOf la_1 ly_1 rfl (by decide) (by decide) (by decide) rfl rfl (Nat.le_of_ble_eq_true rfl) (fun r1 d2 => ?_)
  show SS G X 7 _ _ 6 [(0, rf G 1), (1, i9 p1), (2, i9 p2), (3, rf G 53)] [i9 r1] d2 _
  refine r_istore C [(4, i9 r1), (0, rf G 1), (1, i9 p1), (2, i9 p2), (3, rf G 53)] dX10_bentInto_6 (by decide) rfl ?_
  refine r_iload C 0 dX10_bentInto_8 rfl ?_
  refine r_if_le C (b := 0) 24 dX10_bentInto_10 (by decide) (fun _ => ?_) (fun _ => ?_)
  · refine ss_wide (k' := 0) (n' := 0) (by decide) (by decide) ?_
    refine ss_ls [(3, rf G 53)] [4] rfl ?_
    exact s_X10_bentInto_1_53_c24 C   d2
  · refine r_aload_n C 1 dX10_bentInto_13 rfl rfl ?_
    refine r_iload_n C 2 dX10_bentInto_14 rfl rfl ?_
    refine r_iload_n C 3 dX10_bentInto_15 rfl rfl ?_
    refine r_iload C 0 dX10_bentInto_16 rfl ?_
    refine r_callV C [i9 r1, i9 p2, i9 p1, rf G 1] dX10_bentInto_18 (t_X10_isStump_1 C.h1 C.h2 p1 p2 r1 d2) mw_X10_175 mv_X10_isStump la_1 ly_1 rfl (by decide) (by decide) (by decide) rfl rfl (Nat.le_of_ble_eq_true rfl) (fun r3 d4 => ?_)
    show SS G X 7 _ _ 21 [(4, i9 r1), (0, rf G 1), (1, i9 p1), (2, i9 p2), (3, rf G 53)] [i9 r3] d4 _
    refine r_if_ne C (b := 0) 29 dX10_bentInto_21 (by decide) (fun _ => ?_) (fun _ => ?_)
    · refine r_bipush C dX10_bentInto_29 rfl ?_
      refine r_aload_n C 1 dX10_bentInto_31 rfl rfl ?_
      refine r_getR C 2 dX10_bentInto_32 fl_X10_12 la_1 ly_1 rfl rfl ?_
      refine r_getR C 6 dX10_bentInto_35 fl_X10_139 la_2 ly_2 rfl rfl ?_
      refine r_iload_n C 2 dX10_bentInto_38 rfl rfl ?_
      refine r_iconst C dX10_bentInto_39 ?_
      refine r_imul C dX10_bentInto_40 ?_
      refine r_iload_n C 3 dX10_bentInto_41 rfl rfl ?_
      refine r_iadd C dX10_bentInto_42 ?_
      refine r_iald C dX10_bentInto_43 la_6 ly_6 (fun t5 => ?_)
      refine r_imul C dX10_bentInto_44 ?_
      refine r_iload C 0 dX10_bentInto_45 rfl ?_
      refine ss_dv (fun h6 => ?_)
      refine r_idiv C dX10_bentInto_47 h6 ?_
      refine ss_lt (fun a7 => ?_)
      refine r_istore C [(5, i9 a7), (4, i9 r1), (0, rf G 1), (1, i9 p1), (2, i9 p2), (3, rf G 53)] dX10_bentInto_48 (by decide) rfl ?_
      refine r_iload C 0 dX10_bentInto_50 rfl ?_
      refine r_if_lt C (b := 0) 61 dX10_bentInto_52 (by decide) (fun _ => ?_) (fun _ => ?_)
      · refine ss_wide (k' := 0) (n' := 0) (by decide) (by decide) ?_
        refine ss_ls [(3, rf G 53)] [5] rfl ?_
        exact s_X10_bentInto_1_53_c61 C   d4
      · refine r_iload C 0 dX10_bentInto_55 rfl ?_
        refine r_iconst C dX10_bentInto_57 ?_
        refine r_icmp_lt C 66 dX10_bentInto_58 (by decide) (fun _ => ?_) (fun _ => ?_)
        · refine r_aload_n C 2 dX10_bentInto_66 rfl rfl ?_
          refine r_getR C 33 dX10_bentInto_67 fl_X10_49 la_1 ly_1 rfl rfl ?_
          refine r_getR C 36 dX10_bentInto_70 fl_X10_178 la_33 ly_33 rfl rfl ?_
          refine r_iload C 0 dX10_bentInto_73 rfl ?_
          refine r_iald C dX10_bentInto_75 la_36 ly_36 (fun t8 => ?_)
          refine r_istore C [(6, i9 t8), (5, i9 a7), (4, i9 r1), (0, rf G 1), (1, i9 p1), (2, i9 p2), (3, rf G 53)] dX10_bentInto_76 (by decide) rfl ?_
          refine r_aload_n C 6 dX10_bentInto_78 rfl rfl ?_
          refine r_iload C 0 dX10_bentInto_79 rfl ?_
          refine r_i2l C dX10_bentInto_81 ?_
          refine r_iload C 0 dX10_bentInto_82 rfl ?_
          refine r_aload_n C 3 dX10_bentInto_84 rfl rfl ?_
          refine r_getR C 33 dX10_bentInto_85 fl_X10_49 la_1 ly_1 rfl rfl ?_
          refine r_getR C 37 dX10_bentInto_88 fl_X10_181 la_33 ly_33 rfl rfl ?_
          refine r_iload C 1 dX10_bentInto_91 rfl ?_
          refine r_iald C dX10_bentInto_93 la_37 ly_37 (fun t9 => ?_)
          refine r_iadd C dX10_bentInto_94 ?_
          refine r_i2l C dX10_bentInto_95 ?_
          refine r_callV C [l9 (w32 (t8 + t9)), l9 (w32 t8), rf G 53] dX10_bentInto_96 (t_X0_put_53 C.h1 C.h2 (w32 t8) (w32 (t8 + t9)) d4) mw_X10_127 mv_X0_put la_53 ly_53 rfl (by decide) (by decide) (by decide) rfl rfl (Nat.le_of_ble_eq_true rfl) (fun r10 d11 => ?_)
          show SS G X 7 _ _ 99 [(6, i9 t8), (5, i9 a7), (4, i9 r1), (0, rf G 1), (1, i9 p1), (2, i9 p2), (3, rf G 53)] [i9 r10] d11 _
          exact r_zret C dX10_bentInto_99 (by decide) (by decide)
        · refine ss_wide (k' := 0) (n' := 0) (by decide) (by decide) ?_
          refine ss_ls [(3, rf G 53)] [5] rfl ?_
          exact s_X10_bentInto_1_53_c61 C   d4
    · refine ss_wide (k' := 0) (n' := 0) (by decide) (by decide) ?_
      refine ss_ls [(3, rf G 53)] [4] rfl ?_
      exact s_X10_bentInto_1_53_c24 C   d4
theorem dX11_bent_0 : decode cX11_bent 0 = .ok (.aload_n 0, 1) := by decide +kernel
theorem dX11_bent_1 : decode cX11_bent 1 = .ok (.iload_n 1, 1) := by decide +kernel
theorem dX11_bent_2 : decode cX11_bent 2 = .ok (.invokevirtual 87, 3) := by decide +kernel
theorem dX11_bent_5 : decode cX11_bent 5 = .ok (.iload_n 2, 1) := by decide +kernel
theorem dX11_bent_6 : decode cX11_bent 6 = .ok (.iconst 0, 1) := by decide +kernel
theorem dX11_bent_7 : decode cX11_bent 7 = .ok (.iconst 4, 1) := by decide +kernel
theorem dX11_bent_8 : decode cX11_bent 8 = .ok (.invokestatic 73, 3) := by decide +kernel
theorem dX11_bent_11 : decode cX11_bent 11 = .ok (.aload_n 0, 1) := by decide +kernel
theorem dX11_bent_12 : decode cX11_bent 12 = .ok (.getfield 10, 3) := by decide +kernel
theorem dX11_bent_15 : decode cX11_bent 15 = .ok (.iload_n 1, 1) := by decide +kernel
theorem dX11_bent_16 : decode cX11_bent 16 = .ok (.iload_n 2, 1) := by decide +kernel
theorem dX11_bent_17 : decode cX11_bent 17 = .ok (.aload_n 0, 1) := by decide +kernel
theorem dX11_bent_18 : decode cX11_bent 18 = .ok (.getfield 55, 3) := by decide +kernel
theorem dX11_bent_21 : decode cX11_bent 21 = .ok (.invokevirtual 339, 3) := by decide +kernel
theorem dX11_bent_24 : decode cX11_bent 24 = .ok (.ireturn, 1) := by decide +kernel
abbrev z_X11_bent_0 : Z9 := (some .boolean, 1, 3, 18, 8, 142)
def m_X11_bent_0 (p1 p2 : Int) (d : D9) : Option R9 := cl (m_X11_askHand_0 p1 d) (fun r1 d2 => cl (m_X11_askWithin p2 0 4 d2) (fun r3 d4 => cl (m_X10_bentInto_1_53 p1 p2 d4) (fun r5 d6 => rt (r5 % 2) d6)))
set_option maxRecDepth 100000 in
theorem t_X11_bent_0 {G : G9} {l : Launch} (h1 : va_D (A9 G) (wl G (fun _ _ => 0))) (h2 : l.stackTraces = false) (p1 p2 : Int) (d : D9) : MT G l yX11_bent cX11_bent 3 z_X11_bent_0 [rf G 0, i9 p1, i9 p2] d (m_X11_bent_0 p1 p2 d) := by
  refine mt_of (own := RX11) (by decide) rfl (Nat.le_of_ble_eq_true rfl) h1 h2 [(0, rf G 0), (1, i9 p1), (2, i9 p2)] rfl (fun X hX C => ?_)
  unfold m_X11_bent_0
  refine r_aload_n C 0 dX11_bent_0 rfl rfl ?_
  refine r_iload_n C 1 dX11_bent_1 rfl rfl ?_
  refine r_callV C [i9 p1, rf G 0] dX11_bent_2 (t_X11_askHand_0 C.h1 C.h2 p1 d) mw_X11_87 mv_X11_askHand la_0 ly_0 rfl (by decide) (by decide) (by decide) rfl rfl (Nat.le_of_ble_eq_true rfl) (fun r1 d2 => ?_)
  show SS G X 3 _ _ 5 [(0, rf G 0), (1, i9 p1), (2, i9 p2)] [] d2 _
  refine r_iload_n C 2 dX11_bent_5 rfl rfl ?_
  refine r_iconst C dX11_bent_6 ?_
  refine r_iconst C dX11_bent_7 ?_
  refine r_callS C [i9 4, i9 0, i9 p2] dX11_bent_8 (t_X11_askWithin C.h1 C.h2 p2 0 4 d2) mw_X11_73 ms_X11_askWithin (by decide) (by decide) (by decide) rfl rfl (Nat.le_of_ble_eq_true rfl) (fun r3 d4 => ?_)
  show SS G X 3 _ _ 11 [(0, rf G 0), (1, i9 p1), (2, i9 p2)] [] d4 _
  refine r_aload_n C 0 dX11_bent_11 rfl rfl ?_
  refine r_getR C 1 dX11_bent_12 fl_X11_10 la_0 ly_0 rfl rfl ?_
  refine r_iload_n C 1 dX11_bent_15 rfl rfl ?_
  refine r_iload_n C 2 dX11_bent_16 rfl rfl ?_
  refine r_aload_n C 0 dX11_bent_17 rfl rfl ?_
  refine r_getR C 53 dX11_bent_18 fl_X11_55 la_0 ly_0 rfl rfl ?_
  refine r_callV C [rf G 53, i9 p2, i9 p1, rf G 1] dX11_bent_21 (t_X10_bentInto_1_53 C.h1 C.h2 p1 p2 d4) mw_X11_339 mv_X10_bentInto la_1 ly_1 rfl (by decide) (by decide) (by decide) rfl rfl (Nat.le_of_ble_eq_true rfl) (fun r5 d6 => ?_)
  show SS G X 3 _ _ 24 [(0, rf G 0), (1, i9 p1), (2, i9 p2)] [i9 r5] d6 _
  exact r_zret C dX11_bent_24 (by decide) (by decide)
theorem dX11_bound_0 : decode cX11_bound 0 = .ok (.aload_n 0, 1) := by decide +kernel
theorem dX11_bound_1 : decode cX11_bound 1 = .ok (.iload_n 1, 1) := by decide +kernel
theorem dX11_bound_2 : decode cX11_bound 2 = .ok (.invokevirtual 103, 3) := by decide +kernel
theorem dX11_bound_5 : decode cX11_bound 5 = .ok (.iload_n 2, 1) := by decide +kernel
theorem dX11_bound_6 : decode cX11_bound 6 = .ok (.ifCond .eq 14, 3) := by decide +kernel
theorem dX11_bound_9 : decode cX11_bound 9 = .ok (.aload_n 0, 1) := by decide +kernel
theorem dX11_bound_10 : decode cX11_bound 10 = .ok (.getfield 10, 3) := by decide +kernel
theorem dX11_bound_13 : decode cX11_bound 13 = .ok (.iload_n 1, 1) := by decide +kernel
theorem dX11_bound_14 : decode cX11_bound 14 = .ok (.invokevirtual 272, 3) := by decide +kernel
theorem dX11_bound_17 : decode cX11_bound 17 = .ok (.goto 11, 3) := by decide +kernel
theorem dX11_bound_20 : decode cX11_bound 20 = .ok (.aload_n 0, 1) := by decide +kernel
theorem dX11_bound_21 : decode cX11_bound 21 = .ok (.getfield 10, 3) := by decide +kernel
theorem dX11_bound_24 : decode cX11_bound 24 = .ok (.iload_n 1, 1) := by decide +kernel
theorem dX11_bound_25 : decode cX11_bound 25 = .ok (.invokevirtual 275, 3) := by decide +kernel
theorem dX11_bound_28 : decode cX11_bound 28 = .ok (.ireturn, 1) := by decide +kernel
abbrev z_X11_bound_0 : Z9 := (some .int, 1, 1, 6, 7, 121)
def m_X11_bound_0 (p1 p2 : Int) (d : D9) : Option R9 := cl (m_X11_askPaint_0 p1 d) (fun r1 d2 => if w32 p2 = 0 then cl (m_X10_leastOf_1 p1 d2) (fun r3 d4 => rt r3 d4) else cl (m_X10_mostOf_1 p1 d2) (fun r5 d6 => rt r5 d6))
set_option maxRecDepth 100000 in
theorem t_X11_bound_0 {G : G9} {l : Launch} (h1 : va_D (A9 G) (wl G (fun _ _ => 0))) (h2 : l.stackTraces = false) (p1 p2 : Int) (d : D9) : MT G l yX11_bound cX11_bound 3 z_X11_bound_0 [rf G 0, i9 p1, i9 p2] d (m_X11_bound_0 p1 p2 d) := by
  refine mt_of (own := RX11) (by decide) rfl (Nat.le_of_ble_eq_true rfl) h1 h2 [(0, rf G 0), (1, i9 p1), (2, i9 p2)] rfl (fun X hX C => ?_)
  unfold m_X11_bound_0
  refine r_aload_n C 0 dX11_bound_0 rfl rfl ?_
  refine r_iload_n C 1 dX11_bound_1 rfl rfl ?_
  refine r_callV C [i9 p1, rf G 0] dX11_bound_2 (t_X11_askPaint_0 C.h1 C.h2 p1 d) mw_X11_103 mv_X11_askPaint la_0 ly_0 rfl (by decide) (by decide) (by decide) rfl rfl (Nat.le_of_ble_eq_true rfl) (fun r1 d2 => ?_)
  show SS G X 3 _ _ 5 [(0, rf G 0), (1, i9 p1), (2, i9 p2)] [] d2 _
  refine r_iload_n C 2 dX11_bound_5 rfl rfl ?_
  refine r_if_eq C (b := 0) 20 dX11_bound_6 (by decide) (fun _ => ?_) (fun _ => ?_)
  · refine r_aload_n C 0 dX11_bound_20 rfl rfl ?_
    refine r_getR C 1 dX11_bound_21 fl_X11_10 la_0 ly_0 rfl rfl ?_
    refine r_iload_n C 1 dX11_bound_24 rfl rfl ?_
    refine r_callV C [i9 p1, rf G 1] dX11_bound_25 (t_X10_leastOf_1 C.h1 C.h2 p1 d2) mw_X11_275 mv_X10_leastOf la_1 ly_1 rfl (by decide) (by decide) (by decide) rfl rfl (Nat.le_of_ble_eq_true rfl) (fun r3 d4 => ?_)
    show SS G X 3 _ _ 28 [(0, rf G 0), (1, i9 p1), (2, i9 p2)] [i9 r3] d4 _
    exact r_iret C dX11_bound_28 (by decide) (by decide)
  · refine r_aload_n C 0 dX11_bound_9 rfl rfl ?_
    refine r_getR C 1 dX11_bound_10 fl_X11_10 la_0 ly_0 rfl rfl ?_
    refine r_iload_n C 1 dX11_bound_13 rfl rfl ?_
    refine r_callV C [i9 p1, rf G 1] dX11_bound_14 (t_X10_mostOf_1 C.h1 C.h2 p1 d2) mw_X11_272 mv_X10_mostOf la_1 ly_1 rfl (by decide) (by decide) (by decide) rfl rfl (Nat.le_of_ble_eq_true rfl) (fun r5 d6 => ?_)
    show SS G X 3 _ _ 17 [(0, rf G 0), (1, i9 p1), (2, i9 p2)] [i9 r5] d6 _
    refine r_goto C 28 dX11_bound_17 (by decide) ?_
    exact r_iret C dX11_bound_28 (by decide) (by decide)
theorem dX10_isClash_0 : decode cX10_isClash 0 = .ok (.aload_n 0, 1) := by decide +kernel
theorem dX10_isClash_1 : decode cX10_isClash 1 = .ok (.iload_n 1, 1) := by decide +kernel
theorem dX10_isClash_2 : decode cX10_isClash 2 = .ok (.invokevirtual 86, 3) := by decide +kernel
theorem dX10_isClash_5 : decode cX10_isClash 5 = .ok (.aload_n 0, 1) := by decide +kernel
theorem dX10_isClash_6 : decode cX10_isClash 6 = .ok (.iload_n 1, 1) := by decide +kernel
theorem dX10_isClash_7 : decode cX10_isClash 7 = .ok (.invokevirtual 89, 3) := by decide +kernel
theorem dX10_isClash_10 : decode cX10_isClash 10 = .ok (.if_icmp .le 7, 3) := by decide +kernel
theorem dX10_isClash_13 : decode cX10_isClash 13 = .ok (.iconst 1, 1) := by decide +kernel
theorem dX10_isClash_14 : decode cX10_isClash 14 = .ok (.goto 4, 3) := by decide +kernel
theorem dX10_isClash_17 : decode cX10_isClash 17 = .ok (.iconst 0, 1) := by decide +kernel
theorem dX10_isClash_18 : decode cX10_isClash 18 = .ok (.ireturn, 1) := by decide +kernel
abbrev z_X10_isClash_1 : Z9 := (some .boolean, 1, 0, 0, 5, 105)
def m_X10_isClash_1 (p1 : Int) (d : D9) : Option R9 := cl (m_X10_leastOf_1 p1 d) (fun r1 d2 => cl (m_X10_mostOf_1 p1 d2) (fun r3 d4 => if w32 r1 ≤ w32 r3 then rt (0 % 2) d4 else rt (1 % 2) d4))
set_option maxRecDepth 100000 in
theorem t_X10_isClash_1 {G : G9} {l : Launch} (h1 : va_D (A9 G) (wl G (fun _ _ => 0))) (h2 : l.stackTraces = false) (p1 : Int) (d : D9) : MT G l yX10_isClash cX10_isClash 2 z_X10_isClash_1 [rf G 1, i9 p1] d (m_X10_isClash_1 p1 d) := by
  refine mt_of (own := RX10) (by decide) rfl (Nat.le_of_ble_eq_true rfl) h1 h2 [(0, rf G 1), (1, i9 p1)] rfl (fun X hX C => ?_)
  unfold m_X10_isClash_1
  refine r_aload_n C 0 dX10_isClash_0 rfl rfl ?_
  refine r_iload_n C 1 dX10_isClash_1 rfl rfl ?_
  refine r_callV C [i9 p1, rf G 1] dX10_isClash_2 (t_X10_leastOf_1 C.h1 C.h2 p1 d) mw_X10_86 mv_X10_leastOf la_1 ly_1 rfl (by decide) (by decide) (by decide) rfl rfl (Nat.le_of_ble_eq_true rfl) (fun r1 d2 => ?_)
  show SS G X 2 _ _ 5 [(0, rf G 1), (1, i9 p1)] [i9 r1] d2 _
  refine r_aload_n C 0 dX10_isClash_5 rfl rfl ?_
  refine r_iload_n C 1 dX10_isClash_6 rfl rfl ?_
  refine r_callV C [i9 p1, rf G 1, i9 r1] dX10_isClash_7 (t_X10_mostOf_1 C.h1 C.h2 p1 d2) mw_X10_89 mv_X10_mostOf la_1 ly_1 rfl (by decide) (by decide) (by decide) rfl rfl (Nat.le_of_ble_eq_true rfl) (fun r3 d4 => ?_)
  show SS G X 2 _ _ 10 [(0, rf G 1), (1, i9 p1)] [i9 r3, i9 r1] d4 _
  refine r_icmp_le C 17 dX10_isClash_10 (by decide) (fun _ => ?_) (fun _ => ?_)
  · refine r_iconst C dX10_isClash_17 ?_
    exact r_zret C dX10_isClash_18 (by decide) (by decide)
  · refine r_iconst C dX10_isClash_13 ?_
    refine r_goto C 18 dX10_isClash_14 (by decide) ?_
    exact r_zret C dX10_isClash_18 (by decide) (by decide)
theorem dX11_clash_0 : decode cX11_clash 0 = .ok (.iconst 0, 1) := by decide +kernel
theorem dX11_clash_1 : decode cX11_clash 1 = .ok (.istore_n 2, 1) := by decide +kernel
theorem dX11_clash_2 : decode cX11_clash 2 = .ok (.iconst 0, 1) := by decide +kernel
theorem dX11_clash_3 : decode cX11_clash 3 = .ok (.istore_n 3, 1) := by decide +kernel
theorem dX11_clash_4 : decode cX11_clash 4 = .ok (.iload_n 3, 1) := by decide +kernel
theorem dX11_clash_5 : decode cX11_clash 5 = .ok (.aload_n 0, 1) := by decide +kernel
theorem dX11_clash_6 : decode cX11_clash 6 = .ok (.getfield 10, 3) := by decide +kernel
theorem dX11_clash_9 : decode cX11_clash 9 = .ok (.getfield 77, 3) := by decide +kernel
theorem dX11_clash_12 : decode cX11_clash 12 = .ok (.getfield 278, 3) := by decide +kernel
theorem dX11_clash_15 : decode cX11_clash 15 = .ok (.if_icmp .ge 30, 3) := by decide +kernel
theorem dX11_clash_18 : decode cX11_clash 18 = .ok (.aload_n 0, 1) := by decide +kernel
theorem dX11_clash_19 : decode cX11_clash 19 = .ok (.getfield 10, 3) := by decide +kernel
theorem dX11_clash_22 : decode cX11_clash 22 = .ok (.iload_n 3, 1) := by decide +kernel
theorem dX11_clash_23 : decode cX11_clash 23 = .ok (.invokevirtual 281, 3) := by decide +kernel
theorem dX11_clash_26 : decode cX11_clash 26 = .ok (.ifCond .eq 13, 3) := by decide +kernel
theorem dX11_clash_29 : decode cX11_clash 29 = .ok (.iload_n 2, 1) := by decide +kernel
theorem dX11_clash_30 : decode cX11_clash 30 = .ok (.iload_n 1, 1) := by decide +kernel
theorem dX11_clash_31 : decode cX11_clash 31 = .ok (.if_icmp .ne 5, 3) := by decide +kernel
theorem dX11_clash_34 : decode cX11_clash 34 = .ok (.iload_n 3, 1) := by decide +kernel
theorem dX11_clash_35 : decode cX11_clash 35 = .ok (.ireturn, 1) := by decide +kernel
theorem dX11_clash_36 : decode cX11_clash 36 = .ok (.iinc 2 1, 3) := by decide +kernel
theorem dX11_clash_39 : decode cX11_clash 39 = .ok (.iinc 3 1, 3) := by decide +kernel
theorem dX11_clash_42 : decode cX11_clash 42 = .ok (.goto (-38), 3) := by decide +kernel
theorem dX11_clash_45 : decode cX11_clash 45 = .ok (.iload_n 1, 1) := by decide +kernel
theorem dX11_clash_46 : decode cX11_clash 46 = .ok (.iconst (-1), 1) := by decide +kernel
theorem dX11_clash_47 : decode cX11_clash 47 = .ok (.if_icmp .ne 7, 3) := by decide +kernel
theorem dX11_clash_50 : decode cX11_clash 50 = .ok (.iload_n 2, 1) := by decide +kernel
theorem dX11_clash_51 : decode cX11_clash 51 = .ok (.goto 4, 3) := by decide +kernel
theorem dX11_clash_54 : decode cX11_clash 54 = .ok (.iconst (-1), 1) := by decide +kernel
theorem dX11_clash_55 : decode cX11_clash 55 = .ok (.ireturn, 1) := by decide +kernel
abbrev z_X11_clash_0 : Z9 := (some .int, 1, 0, 0, 6, 126)
def b_X11_clash_0_c4 (k_X11_clash_0_c4 : Int → Int → Int → D9 → Option R9) (v1 v2 v3 : Int) (d : D9) : Option R9 := if w32 (d 2 0) ≤ w32 v3 then if w32 v1 ≠ w32 (-1) then rt (-1) d else rt v2 d else cl (m_X10_isClash_1 v3 d) (fun r1 d2 => if w32 r1 = 0 then k_X11_clash_0_c4 v1 v2 (v3 + 1) d2 else if w32 v2 ≠ w32 v1 then k_X11_clash_0_c4 v1 (v2 + 1) (v3 + 1) d2 else rt v3 d2)
def m_X11_clash_0_c4 : Int → Int → Int → D9 → Option R9 := fix9 (fun _ _ _ _ => none) (fun k => b_X11_clash_0_c4 k) FU
def m_X11_clash_0 (p1 : Int) (d : D9) : Option R9 := m_X11_clash_0_c4  p1 0 0 d
set_option maxRecDepth 100000 in
theorem sb_X11_clash_0_c4 {G : G9} {X : X9} (C : CX G X cX11_clash 4 RX11 [] z_X11_clash_0) (k_X11_clash_0_c4 : Int → Int → Int → D9 → Option R9) (hk_X11_clash_0_c4 : ∀ (v1 v2 v3 : Int) (d : D9), SS G X 4 0 0 4 [(0, rf G 0), (1, i9 v1), (2, i9 v2), (3, i9 v3)] [] d (k_X11_clash_0_c4 v1 v2 v3 d)) : ∀ (v1 v2 v3 : Int) (d : D9), SS G X 4 0 0 4 [(0, rf G 0), (1, i9 v1), (2, i9 v2), (3, i9 v3)] [] d (b_X11_clash_0_c4 k_X11_clash_0_c4 v1 v2 v3 d) := by
  intro v1 v2 v3 d
  unfold b_X11_clash_0_c4
  refine r_iload_n C 3 dX11_clash_4 rfl rfl ?_
  refine r_aload_n C 0 dX11_clash_5 rfl rfl ?_
  refine r_getR C 1 dX11_clash_6 fl_X11_10 la_0 ly_0 rfl rfl ?_
  refine r_getR C 2 dX11_clash_9 fl_X11_77 la_1 ly_1 rfl rfl ?_
  refine r_getI C dX11_clash_12 fl_X11_278 la_2 ly_2 rfl ?_
  refine r_icmp_ge C 45 dX11_clash_15 (by decide) (fun _ => ?_) (fun _ => ?_)
  · refine r_iload_n C 1 dX11_clash_45 rfl rfl ?_
    refine r_iconst C dX11_clash_46 ?_
    refine r_icmp_ne C 54 dX11_clash_47 (by decide) (fun _ => ?_) (fun _ => ?_)
    · refine r_iconst C dX11_clash_54 ?_
      exact r_iret C dX11_clash_55 (by decide) (by decide)
    · refine r_iload_n C 2 dX11_clash_50 rfl rfl ?_
      refine r_goto C 55 dX11_clash_51 (by decide) ?_
      exact r_iret C dX11_clash_55 (by decide) (by decide)
  · refine r_aload_n C 0 dX11_clash_18 rfl rfl ?_
    refine r_getR C 1 dX11_clash_19 fl_X11_10 la_0 ly_0 rfl rfl ?_
    refine r_iload_n C 3 dX11_clash_22 rfl rfl ?_
    refine r_callV C [i9 v3, rf G 1] dX11_clash_23 (t_X10_isClash_1 C.h1 C.h2 v3 d) mw_X11_281 mv_X10_isClash la_1 ly_1 rfl (by decide) (by decide) (by decide) rfl rfl (Nat.le_of_ble_eq_true rfl) (fun r1 d2 => ?_)
    show SS G X 4 _ _ 26 [(0, rf G 0), (1, i9 v1), (2, i9 v2), (3, i9 v3)] [i9 r1] d2 _
    refine r_if_eq C (b := 0) 39 dX11_clash_26 (by decide) (fun _ => ?_) (fun _ => ?_)
    · refine r_iinc C 3 [(3, i9 (v3 + 1)), (0, rf G 0), (1, i9 v1), (2, i9 v2)] dX11_clash_39 rfl (by decide) rfl ?_
      refine r_goto C 4 dX11_clash_42 (by decide) ?_
      refine ss_wide (k' := 0) (n' := 0) (by decide) (by decide) ?_
      refine ss_ls [(0, rf G 0), (1, i9 v1), (2, i9 v2), (3, i9 (v3 + 1))] [1, 2, 3, 0] rfl ?_
      exact hk_X11_clash_0_c4 v1 v2 (v3 + 1) d2
    · refine r_iload_n C 2 dX11_clash_29 rfl rfl ?_
      refine r_iload_n C 1 dX11_clash_30 rfl rfl ?_
      refine r_icmp_ne C 36 dX11_clash_31 (by decide) (fun _ => ?_) (fun _ => ?_)
      · refine r_iinc C 2 [(2, i9 (v2 + 1)), (0, rf G 0), (1, i9 v1), (3, i9 v3)] dX11_clash_36 rfl (by decide) rfl ?_
        refine r_iinc C 3 [(3, i9 (v3 + 1)), (2, i9 (v2 + 1)), (0, rf G 0), (1, i9 v1)] dX11_clash_39 rfl (by decide) rfl ?_
        refine r_goto C 4 dX11_clash_42 (by decide) ?_
        refine ss_wide (k' := 0) (n' := 0) (by decide) (by decide) ?_
        refine ss_ls [(0, rf G 0), (1, i9 v1), (2, i9 (v2 + 1)), (3, i9 (v3 + 1))] [2, 3, 1, 0] rfl ?_
        exact hk_X11_clash_0_c4 v1 (v2 + 1) (v3 + 1) d2
      · refine r_iload_n C 3 dX11_clash_34 rfl rfl ?_
        exact r_iret C dX11_clash_35 (by decide) (by decide)
theorem s_X11_clash_0_c4 {G : G9} {X : X9} (C : CX G X cX11_clash 4 RX11 [] z_X11_clash_0) : ∀ (v1 v2 v3 : Int) (d : D9), SS G X 4 0 0 4 [(0, rf G 0), (1, i9 v1), (2, i9 v2), (3, i9 v3)] [] d (m_X11_clash_0_c4  v1 v2 v3 d) :=
  fix9_ind (P := fun k => ∀ (v1 v2 v3 : Int) (d : D9), SS G X 4 0 0 4 [(0, rf G 0), (1, i9 v1), (2, i9 v2), (3, i9 v3)] [] d (k v1 v2 v3 d)) (fun _ _ _ _ => ss_none) (fun k hk => sb_X11_clash_0_c4 C k hk) FU
set_option maxRecDepth 100000 in
theorem t_X11_clash_0 {G : G9} {l : Launch} (h1 : va_D (A9 G) (wl G (fun _ _ => 0))) (h2 : l.stackTraces = false) (p1 : Int) (d : D9) : MT G l yX11_clash cX11_clash 4 z_X11_clash_0 [rf G 0, i9 p1] d (m_X11_clash_0 p1 d) := by
  refine mt_of (own := RX11) (by decide) rfl (Nat.le_of_ble_eq_true rfl) h1 h2 [(0, rf G 0), (1, i9 p1)] rfl (fun X hX C => ?_)
  unfold m_X11_clash_0
  refine r_iconst C dX11_clash_0 ?_
  refine r_istore_n C [(2, i9 0), (0, rf G 0), (1, i9 p1)] dX11_clash_1 rfl (by decide) rfl ?_
  refine r_iconst C dX11_clash_2 ?_
  refine r_istore_n C [(3, i9 0), (2, i9 0), (0, rf G 0), (1, i9 p1)] dX11_clash_3 rfl (by decide) rfl ?_
  refine ss_wide (k' := 0) (n' := 0) (by decide) (by decide) ?_
  refine ss_ls [(0, rf G 0), (1, i9 p1), (2, i9 0), (3, i9 0)] [2, 3, 1, 0] rfl ?_
  exact s_X11_clash_0_c4 C  p1 0 0 d
theorem dX11_count_0 : decode cX11_count 0 = .ok (.iload_n 1, 1) := by decide +kernel
theorem dX11_count_1 : decode cX11_count 1 = .ok (.bipush 100, 2) := by decide +kernel
theorem dX11_count_3 : decode cX11_count 3 = .ok (.if_icmp .lt 40, 3) := by decide +kernel
theorem dX11_count_6 : decode cX11_count 6 = .ok (.iload_n 1, 1) := by decide +kernel
theorem dX11_count_7 : decode cX11_count 7 = .ok (.bipush 100, 2) := by decide +kernel
theorem dX11_count_9 : decode cX11_count 9 = .ok (.isub, 1) := by decide +kernel
theorem dX11_count_10 : decode cX11_count 10 = .ok (.aload_n 0, 1) := by decide +kernel
theorem dX11_count_11 : decode cX11_count 11 = .ok (.getfield 10, 3) := by decide +kernel
theorem dX11_count_14 : decode cX11_count 14 = .ok (.getfield 122, 3) := by decide +kernel
theorem dX11_count_17 : decode cX11_count 17 = .ok (.getfield 435, 3) := by decide +kernel
theorem dX11_count_20 : decode cX11_count 20 = .ok (.if_icmp .ge 21, 3) := by decide +kernel
theorem dX11_count_23 : decode cX11_count 23 = .ok (.aload_n 0, 1) := by decide +kernel
theorem dX11_count_24 : decode cX11_count 24 = .ok (.getfield 10, 3) := by decide +kernel
theorem dX11_count_27 : decode cX11_count 27 = .ok (.getfield 122, 3) := by decide +kernel
theorem dX11_count_30 : decode cX11_count 30 = .ok (.getfield 134, 3) := by decide +kernel
theorem dX11_count_33 : decode cX11_count 33 = .ok (.iload_n 1, 1) := by decide +kernel
theorem dX11_count_34 : decode cX11_count 34 = .ok (.bipush 100, 2) := by decide +kernel
theorem dX11_count_36 : decode cX11_count 36 = .ok (.isub, 1) := by decide +kernel
theorem dX11_count_37 : decode cX11_count 37 = .ok (.iaload, 1) := by decide +kernel
theorem dX11_count_38 : decode cX11_count 38 = .ok (.goto 4, 3) := by decide +kernel
theorem dX11_count_41 : decode cX11_count 41 = .ok (.iconst (-1), 1) := by decide +kernel
theorem dX11_count_42 : decode cX11_count 42 = .ok (.ireturn, 1) := by decide +kernel
theorem dX11_count_43 : decode cX11_count 43 = .ok (.iload_n 1, 1) := by decide +kernel
theorem dX11_count_44 : decode cX11_count 44 = .ok (.tableswitch 238 0 14 #[76, 87, 98, 109, 120, 131, 142, 150, 161, 172, 183, 194, 205, 216, 227], 76) := by decide +kernel
theorem dX11_count_120 : decode cX11_count 120 = .ok (.aload_n 0, 1) := by decide +kernel
theorem dX11_count_121 : decode cX11_count 121 = .ok (.getfield 10, 3) := by decide +kernel
theorem dX11_count_124 : decode cX11_count 124 = .ok (.getfield 77, 3) := by decide +kernel
theorem dX11_count_127 : decode cX11_count 127 = .ok (.getfield 278, 3) := by decide +kernel
theorem dX11_count_130 : decode cX11_count 130 = .ok (.ireturn, 1) := by decide +kernel
theorem dX11_count_131 : decode cX11_count 131 = .ok (.aload_n 0, 1) := by decide +kernel
theorem dX11_count_132 : decode cX11_count 132 = .ok (.getfield 10, 3) := by decide +kernel
theorem dX11_count_135 : decode cX11_count 135 = .ok (.getfield 122, 3) := by decide +kernel
theorem dX11_count_138 : decode cX11_count 138 = .ok (.getfield 435, 3) := by decide +kernel
theorem dX11_count_141 : decode cX11_count 141 = .ok (.ireturn, 1) := by decide +kernel
theorem dX11_count_142 : decode cX11_count 142 = .ok (.aload_n 0, 1) := by decide +kernel
theorem dX11_count_143 : decode cX11_count 143 = .ok (.getfield 10, 3) := by decide +kernel
theorem dX11_count_146 : decode cX11_count 146 = .ok (.getfield 77, 3) := by decide +kernel
theorem dX11_count_149 : decode cX11_count 149 = .ok (.getfield 436, 3) := by decide +kernel
theorem dX11_count_152 : decode cX11_count 152 = .ok (.ireturn, 1) := by decide +kernel
theorem dX11_count_153 : decode cX11_count 153 = .ok (.aload_n 0, 1) := by decide +kernel
theorem dX11_count_154 : decode cX11_count 154 = .ok (.getfield 10, 3) := by decide +kernel
theorem dX11_count_157 : decode cX11_count 157 = .ok (.getfield 313, 3) := by decide +kernel
theorem dX11_count_160 : decode cX11_count 160 = .ok (.getfield 317, 3) := by decide +kernel
theorem dX11_count_163 : decode cX11_count 163 = .ok (.ireturn, 1) := by decide +kernel
theorem dX11_count_164 : decode cX11_count 164 = .ok (.aload_n 0, 1) := by decide +kernel
theorem dX11_count_165 : decode cX11_count 165 = .ok (.getfield 10, 3) := by decide +kernel
theorem dX11_count_168 : decode cX11_count 168 = .ok (.getfield 137, 3) := by decide +kernel
theorem dX11_count_171 : decode cX11_count 171 = .ok (.getfield 191, 3) := by decide +kernel
theorem dX11_count_174 : decode cX11_count 174 = .ok (.ireturn, 1) := by decide +kernel
theorem dX11_count_175 : decode cX11_count 175 = .ok (.aload_n 0, 1) := by decide +kernel
theorem dX11_count_176 : decode cX11_count 176 = .ok (.getfield 10, 3) := by decide +kernel
theorem dX11_count_179 : decode cX11_count 179 = .ok (.getfield 195, 3) := by decide +kernel
theorem dX11_count_182 : decode cX11_count 182 = .ok (.getfield 201, 3) := by decide +kernel
theorem dX11_count_185 : decode cX11_count 185 = .ok (.ireturn, 1) := by decide +kernel
theorem dX11_count_186 : decode cX11_count 186 = .ok (.aload_n 0, 1) := by decide +kernel
theorem dX11_count_187 : decode cX11_count 187 = .ok (.getfield 48, 3) := by decide +kernel
theorem dX11_count_190 : decode cX11_count 190 = .ok (.getfield 159, 3) := by decide +kernel
theorem dX11_count_193 : decode cX11_count 193 = .ok (.ireturn, 1) := by decide +kernel
theorem dX11_count_194 : decode cX11_count 194 = .ok (.aload_n 0, 1) := by decide +kernel
theorem dX11_count_195 : decode cX11_count 195 = .ok (.getfield 10, 3) := by decide +kernel
theorem dX11_count_198 : decode cX11_count 198 = .ok (.getfield 137, 3) := by decide +kernel
theorem dX11_count_201 : decode cX11_count 201 = .ok (.getfield 439, 3) := by decide +kernel
theorem dX11_count_204 : decode cX11_count 204 = .ok (.ireturn, 1) := by decide +kernel
theorem dX11_count_205 : decode cX11_count 205 = .ok (.aload_n 0, 1) := by decide +kernel
theorem dX11_count_206 : decode cX11_count 206 = .ok (.getfield 10, 3) := by decide +kernel
theorem dX11_count_209 : decode cX11_count 209 = .ok (.getfield 137, 3) := by decide +kernel
theorem dX11_count_212 : decode cX11_count 212 = .ok (.getfield 266, 3) := by decide +kernel
theorem dX11_count_215 : decode cX11_count 215 = .ok (.ireturn, 1) := by decide +kernel
theorem dX11_count_216 : decode cX11_count 216 = .ok (.aload_n 0, 1) := by decide +kernel
theorem dX11_count_217 : decode cX11_count 217 = .ok (.getfield 10, 3) := by decide +kernel
theorem dX11_count_220 : decode cX11_count 220 = .ok (.getfield 137, 3) := by decide +kernel
theorem dX11_count_223 : decode cX11_count 223 = .ok (.getfield 263, 3) := by decide +kernel
theorem dX11_count_226 : decode cX11_count 226 = .ok (.ireturn, 1) := by decide +kernel
theorem dX11_count_227 : decode cX11_count 227 = .ok (.aload_n 0, 1) := by decide +kernel
theorem dX11_count_228 : decode cX11_count 228 = .ok (.getfield 10, 3) := by decide +kernel
theorem dX11_count_231 : decode cX11_count 231 = .ok (.getfield 137, 3) := by decide +kernel
theorem dX11_count_234 : decode cX11_count 234 = .ok (.getfield 442, 3) := by decide +kernel
theorem dX11_count_237 : decode cX11_count 237 = .ok (.ireturn, 1) := by decide +kernel
theorem dX11_count_238 : decode cX11_count 238 = .ok (.aload_n 0, 1) := by decide +kernel
theorem dX11_count_239 : decode cX11_count 239 = .ok (.getfield 10, 3) := by decide +kernel
theorem dX11_count_242 : decode cX11_count 242 = .ok (.getfield 137, 3) := by decide +kernel
theorem dX11_count_245 : decode cX11_count 245 = .ok (.getfield 445, 3) := by decide +kernel
theorem dX11_count_248 : decode cX11_count 248 = .ok (.ireturn, 1) := by decide +kernel
theorem dX11_count_249 : decode cX11_count 249 = .ok (.aload_n 0, 1) := by decide +kernel
theorem dX11_count_250 : decode cX11_count 250 = .ok (.getfield 10, 3) := by decide +kernel
theorem dX11_count_253 : decode cX11_count 253 = .ok (.getfield 137, 3) := by decide +kernel
theorem dX11_count_256 : decode cX11_count 256 = .ok (.getfield 301, 3) := by decide +kernel
theorem dX11_count_259 : decode cX11_count 259 = .ok (.ireturn, 1) := by decide +kernel
theorem dX11_count_260 : decode cX11_count 260 = .ok (.aload_n 0, 1) := by decide +kernel
theorem dX11_count_261 : decode cX11_count 261 = .ok (.getfield 10, 3) := by decide +kernel
theorem dX11_count_264 : decode cX11_count 264 = .ok (.getfield 137, 3) := by decide +kernel
theorem dX11_count_267 : decode cX11_count 267 = .ok (.getfield 448, 3) := by decide +kernel
theorem dX11_count_270 : decode cX11_count 270 = .ok (.ireturn, 1) := by decide +kernel
theorem dX11_count_271 : decode cX11_count 271 = .ok (.aload_n 0, 1) := by decide +kernel
theorem dX11_count_272 : decode cX11_count 272 = .ok (.getfield 10, 3) := by decide +kernel
theorem dX11_count_275 : decode cX11_count 275 = .ok (.getfield 203, 3) := by decide +kernel
theorem dX11_count_278 : decode cX11_count 278 = .ok (.getfield 209, 3) := by decide +kernel
theorem dX11_count_281 : decode cX11_count 281 = .ok (.ireturn, 1) := by decide +kernel
theorem dX11_count_282 : decode cX11_count 282 = .ok (.iconst (-1), 1) := by decide +kernel
theorem dX11_count_283 : decode cX11_count 283 = .ok (.ireturn, 1) := by decide +kernel
abbrev z_X11_count_0 : Z9 := (some .int, 1, 0, 0, 1, 0)
def m_X11_count_0 (p1 : Int) (d : D9) : Option R9 := if w32 p1 < w32 100 then if w32 p1 = 0 then rt (d 2 0) d else if w32 p1 = 1 then rt (d 9 0) d else if w32 p1 = 2 then rt (d 2 1) d else if w32 p1 = 3 then rt (d 33 0) d else if w32 p1 = 4 then rt (d 22 0) d else if w32 p1 = 5 then rt (d 23 0) d else if w32 p1 = 6 then rt (d 51 1) d else if w32 p1 = 7 then rt (d 22 1) d else if w32 p1 = 8 then rt (d 22 2) d else if w32 p1 = 9 then rt (d 22 3) d else if w32 p1 = 10 then rt (d 22 4) d else if w32 p1 = 11 then rt (d 22 5) d else if w32 p1 = 12 then rt (d 22 6) d else if w32 p1 = 13 then rt (d 22 7) d else if w32 p1 = 14 then rt (d 28 0) d else rt (-1) d else if w32 (d 9 0) ≤ w32 (p1 - 100) then rt (-1) d else ld d 14 30 (p1 - 100) (fun t16 => rt t16 d)
set_option maxRecDepth 100000 in
theorem t_X11_count_0 {G : G9} {l : Launch} (h1 : va_D (A9 G) (wl G (fun _ _ => 0))) (h2 : l.stackTraces = false) (p1 : Int) (d : D9) : MT G l yX11_count cX11_count 2 z_X11_count_0 [rf G 0, i9 p1] d (m_X11_count_0 p1 d) := by
  refine mt_of (own := RX11) (by decide) rfl (Nat.le_of_ble_eq_true rfl) h1 h2 [(0, rf G 0), (1, i9 p1)] rfl (fun X hX C => ?_)
  unfold m_X11_count_0
  refine r_iload_n C 1 dX11_count_0 rfl rfl ?_
  refine r_bipush C dX11_count_1 rfl ?_
  refine r_icmp_lt C 43 dX11_count_3 (by decide) (fun _ => ?_) (fun _ => ?_)
  · refine r_iload_n C 1 dX11_count_43 rfl rfl ?_
    refine r_tsw C 0 0 120 dX11_count_44 (by decide) rfl (by decide) (fun _ => ?_) (fun h1 => ?_)
    · refine r_aload_n C 0 dX11_count_120 rfl rfl ?_
      refine r_getR C 1 dX11_count_121 fl_X11_10 la_0 ly_0 rfl rfl ?_
      refine r_getR C 2 dX11_count_124 fl_X11_77 la_1 ly_1 rfl rfl ?_
      refine r_getI C dX11_count_127 fl_X11_278 la_2 ly_2 rfl ?_
      exact r_iret C dX11_count_130 (by decide) (by decide)
    refine r_tsw C 1 1 131 dX11_count_44 (by decide) rfl (by decide) (fun _ => ?_) (fun h2 => ?_)
    · refine r_aload_n C 0 dX11_count_131 rfl rfl ?_
      refine r_getR C 1 dX11_count_132 fl_X11_10 la_0 ly_0 rfl rfl ?_
      refine r_getR C 9 dX11_count_135 fl_X11_122 la_1 ly_1 rfl rfl ?_
      refine r_getI C dX11_count_138 fl_X11_435 la_9 ly_9 rfl ?_
      exact r_iret C dX11_count_141 (by decide) (by decide)
    refine r_tsw C 2 2 142 dX11_count_44 (by decide) rfl (by decide) (fun _ => ?_) (fun h3 => ?_)
    · refine r_aload_n C 0 dX11_count_142 rfl rfl ?_
      refine r_getR C 1 dX11_count_143 fl_X11_10 la_0 ly_0 rfl rfl ?_
      refine r_getR C 2 dX11_count_146 fl_X11_77 la_1 ly_1 rfl rfl ?_
      refine r_getI C dX11_count_149 fl_X11_436 la_2 ly_2 rfl ?_
      exact r_iret C dX11_count_152 (by decide) (by decide)
    refine r_tsw C 3 3 153 dX11_count_44 (by decide) rfl (by decide) (fun _ => ?_) (fun h4 => ?_)
    · refine r_aload_n C 0 dX11_count_153 rfl rfl ?_
      refine r_getR C 1 dX11_count_154 fl_X11_10 la_0 ly_0 rfl rfl ?_
      refine r_getR C 33 dX11_count_157 fl_X11_313 la_1 ly_1 rfl rfl ?_
      refine r_getI C dX11_count_160 fl_X11_317 la_33 ly_33 rfl ?_
      exact r_iret C dX11_count_163 (by decide) (by decide)
    refine r_tsw C 4 4 164 dX11_count_44 (by decide) rfl (by decide) (fun _ => ?_) (fun h5 => ?_)
    · refine r_aload_n C 0 dX11_count_164 rfl rfl ?_
      refine r_getR C 1 dX11_count_165 fl_X11_10 la_0 ly_0 rfl rfl ?_
      refine r_getR C 22 dX11_count_168 fl_X11_137 la_1 ly_1 rfl rfl ?_
      refine r_getI C dX11_count_171 fl_X11_191 la_22 ly_22 rfl ?_
      exact r_iret C dX11_count_174 (by decide) (by decide)
    refine r_tsw C 5 5 175 dX11_count_44 (by decide) rfl (by decide) (fun _ => ?_) (fun h6 => ?_)
    · refine r_aload_n C 0 dX11_count_175 rfl rfl ?_
      refine r_getR C 1 dX11_count_176 fl_X11_10 la_0 ly_0 rfl rfl ?_
      refine r_getR C 23 dX11_count_179 fl_X11_195 la_1 ly_1 rfl rfl ?_
      refine r_getI C dX11_count_182 fl_X11_201 la_23 ly_23 rfl ?_
      exact r_iret C dX11_count_185 (by decide) (by decide)
    refine r_tsw C 6 6 186 dX11_count_44 (by decide) rfl (by decide) (fun _ => ?_) (fun h7 => ?_)
    · refine r_aload_n C 0 dX11_count_186 rfl rfl ?_
      refine r_getR C 51 dX11_count_187 fl_X11_48 la_0 ly_0 rfl rfl ?_
      refine r_getI C dX11_count_190 fl_X11_159 la_51 ly_51 rfl ?_
      exact r_iret C dX11_count_193 (by decide) (by decide)
    refine r_tsw C 7 7 194 dX11_count_44 (by decide) rfl (by decide) (fun _ => ?_) (fun h8 => ?_)
    · refine r_aload_n C 0 dX11_count_194 rfl rfl ?_
      refine r_getR C 1 dX11_count_195 fl_X11_10 la_0 ly_0 rfl rfl ?_
      refine r_getR C 22 dX11_count_198 fl_X11_137 la_1 ly_1 rfl rfl ?_
      refine r_getI C dX11_count_201 fl_X11_439 la_22 ly_22 rfl ?_
      exact r_iret C dX11_count_204 (by decide) (by decide)
    refine r_tsw C 8 8 205 dX11_count_44 (by decide) rfl (by decide) (fun _ => ?_) (fun h9 => ?_)
    · refine r_aload_n C 0 dX11_count_205 rfl rfl ?_
      refine r_getR C 1 dX11_count_206 fl_X11_10 la_0 ly_0 rfl rfl ?_
      refine r_getR C 22 dX11_count_209 fl_X11_137 la_1 ly_1 rfl rfl ?_
      refine r_getI C dX11_count_212 fl_X11_266 la_22 ly_22 rfl ?_
      exact r_iret C dX11_count_215 (by decide) (by decide)
    refine r_tsw C 9 9 216 dX11_count_44 (by decide) rfl (by decide) (fun _ => ?_) (fun h10 => ?_)
    · refine r_aload_n C 0 dX11_count_216 rfl rfl ?_
      refine r_getR C 1 dX11_count_217 fl_X11_10 la_0 ly_0 rfl rfl ?_
      refine r_getR C 22 dX11_count_220 fl_X11_137 la_1 ly_1 rfl rfl ?_
      refine r_getI C dX11_count_223 fl_X11_263 la_22 ly_22 rfl ?_
      exact r_iret C dX11_count_226 (by decide) (by decide)
    refine r_tsw C 10 10 227 dX11_count_44 (by decide) rfl (by decide) (fun _ => ?_) (fun h11 => ?_)
    · refine r_aload_n C 0 dX11_count_227 rfl rfl ?_
      refine r_getR C 1 dX11_count_228 fl_X11_10 la_0 ly_0 rfl rfl ?_
      refine r_getR C 22 dX11_count_231 fl_X11_137 la_1 ly_1 rfl rfl ?_
      refine r_getI C dX11_count_234 fl_X11_442 la_22 ly_22 rfl ?_
      exact r_iret C dX11_count_237 (by decide) (by decide)
    refine r_tsw C 11 11 238 dX11_count_44 (by decide) rfl (by decide) (fun _ => ?_) (fun h12 => ?_)
    · refine r_aload_n C 0 dX11_count_238 rfl rfl ?_
      refine r_getR C 1 dX11_count_239 fl_X11_10 la_0 ly_0 rfl rfl ?_
      refine r_getR C 22 dX11_count_242 fl_X11_137 la_1 ly_1 rfl rfl ?_
      refine r_getI C dX11_count_245 fl_X11_445 la_22 ly_22 rfl ?_
      exact r_iret C dX11_count_248 (by decide) (by decide)
    refine r_tsw C 12 12 249 dX11_count_44 (by decide) rfl (by decide) (fun _ => ?_) (fun h13 => ?_)
    · refine r_aload_n C 0 dX11_count_249 rfl rfl ?_
      refine r_getR C 1 dX11_count_250 fl_X11_10 la_0 ly_0 rfl rfl ?_
      refine r_getR C 22 dX11_count_253 fl_X11_137 la_1 ly_1 rfl rfl ?_
      refine r_getI C dX11_count_256 fl_X11_301 la_22 ly_22 rfl ?_
      exact r_iret C dX11_count_259 (by decide) (by decide)
    refine r_tsw C 13 13 260 dX11_count_44 (by decide) rfl (by decide) (fun _ => ?_) (fun h14 => ?_)
    · refine r_aload_n C 0 dX11_count_260 rfl rfl ?_
      refine r_getR C 1 dX11_count_261 fl_X11_10 la_0 ly_0 rfl rfl ?_
      refine r_getR C 22 dX11_count_264 fl_X11_137 la_1 ly_1 rfl rfl ?_
      refine r_getI C dX11_count_267 fl_X11_448 la_22 ly_22 rfl ?_
      exact r_iret C dX11_count_270 (by decide) (by decide)
    refine r_tsw C 14 14 271 dX11_count_44 (by decide) rfl (by decide) (fun _ => ?_) (fun h15 => ?_)
    · refine r_aload_n C 0 dX11_count_271 rfl rfl ?_
      refine r_getR C 1 dX11_count_272 fl_X11_10 la_0 ly_0 rfl rfl ?_
      refine r_getR C 28 dX11_count_275 fl_X11_203 la_1 ly_1 rfl rfl ?_
      refine r_getI C dX11_count_278 fl_X11_209 la_28 ly_28 rfl ?_
      exact r_iret C dX11_count_281 (by decide) (by decide)
    refine r_tswd C 282 dX11_count_44 (by omega) (by decide) ?_
    refine r_iconst C dX11_count_282 ?_
    exact r_iret C dX11_count_283 (by decide) (by decide)
  · refine r_iload_n C 1 dX11_count_6 rfl rfl ?_
    refine r_bipush C dX11_count_7 rfl ?_
    refine r_isub C dX11_count_9 ?_
    refine r_aload_n C 0 dX11_count_10 rfl rfl ?_
    refine r_getR C 1 dX11_count_11 fl_X11_10 la_0 ly_0 rfl rfl ?_
    refine r_getR C 9 dX11_count_14 fl_X11_122 la_1 ly_1 rfl rfl ?_
    refine r_getI C dX11_count_17 fl_X11_435 la_9 ly_9 rfl ?_
    refine r_icmp_ge C 41 dX11_count_20 (by decide) (fun _ => ?_) (fun _ => ?_)
    · refine r_iconst C dX11_count_41 ?_
      exact r_iret C dX11_count_42 (by decide) (by decide)
    · refine r_aload_n C 0 dX11_count_23 rfl rfl ?_
      refine r_getR C 1 dX11_count_24 fl_X11_10 la_0 ly_0 rfl rfl ?_
      refine r_getR C 9 dX11_count_27 fl_X11_122 la_1 ly_1 rfl rfl ?_
      refine r_getR C 14 dX11_count_30 fl_X11_134 la_9 ly_9 rfl rfl ?_
      refine r_iload_n C 1 dX11_count_33 rfl rfl ?_
      refine r_bipush C dX11_count_34 rfl ?_
      refine r_isub C dX11_count_36 ?_
      refine r_iald C dX11_count_37 la_14 ly_14 (fun t16 => ?_)
      refine r_goto C 42 dX11_count_38 (by decide) ?_
      exact r_iret C dX11_count_42 (by decide) (by decide)
theorem dX11_askSkin_0 : decode cX11_askSkin 0 = .ok (.iload_n 1, 1) := by decide +kernel
theorem dX11_askSkin_1 : decode cX11_askSkin 1 = .ok (.ifCond .lt 17, 3) := by decide +kernel
theorem dX11_askSkin_4 : decode cX11_askSkin 4 = .ok (.iload_n 1, 1) := by decide +kernel
theorem dX11_askSkin_5 : decode cX11_askSkin 5 = .ok (.aload_n 0, 1) := by decide +kernel
theorem dX11_askSkin_6 : decode cX11_askSkin 6 = .ok (.getfield 10, 3) := by decide +kernel
theorem dX11_askSkin_9 : decode cX11_askSkin 9 = .ok (.getfield 122, 3) := by decide +kernel
theorem dX11_askSkin_12 : decode cX11_askSkin 12 = .ok (.getfield 435, 3) := by decide +kernel
theorem dX11_askSkin_15 : decode cX11_askSkin 15 = .ok (.if_icmp .lt 14, 3) := by decide +kernel
theorem dX11_askSkin_18 : decode cX11_askSkin 18 = .ok (.new 218, 3) := by decide +kernel
theorem dX11_askSkin_21 : decode cX11_askSkin 21 = .ok (.dup, 1) := by decide +kernel
theorem dX11_askSkin_22 : decode cX11_askSkin 22 = .ok (.ldc_w 457, 3) := by decide +kernel
theorem dX11_askSkin_25 : decode cX11_askSkin 25 = .ok (.invokespecial 222, 3) := by decide +kernel
theorem dX11_askSkin_28 : decode cX11_askSkin 28 = .ok (.athrow, 1) := by decide +kernel
theorem dX11_askSkin_29 : decode cX11_askSkin 29 = .ok (.return_, 1) := by decide +kernel
abbrev z_X11_askSkin_0 : Z9 := (none, 0, 1, 6, 6, 100)
def m_X11_askSkin_0_c18 (d : D9) : Option R9 := th 2 d
def m_X11_askSkin_0 (p1 : Int) (d : D9) : Option R9 := if w32 p1 < 0 then m_X11_askSkin_0_c18   d else if w32 p1 < w32 (d 9 0) then rt 0 d else m_X11_askSkin_0_c18   d
set_option maxRecDepth 100000 in
theorem s_X11_askSkin_0_c18 {G : G9} {X : X9} (C : CX G X cX11_askSkin 2 RX11 [] z_X11_askSkin_0) : ∀ (d : D9), SS G X 2 0 0 18 [] [] d (m_X11_askSkin_0_c18   d) := by
  intro  d
  unfold m_X11_askSkin_0_c18
  exact r_throwNW C 5 rfl tn_222 tc_2 dX11_askSkin_18 dX11_askSkin_21 dX11_askSkin_22 dX11_askSkin_25 dX11_askSkin_28 (by decide) (by decide) (by decide) (by decide)
set_option maxRecDepth 100000 in
theorem t_X11_askSkin_0 {G : G9} {l : Launch} (h1 : va_D (A9 G) (wl G (fun _ _ => 0))) (h2 : l.stackTraces = false) (p1 : Int) (d : D9) : MT G l yX11_askSkin cX11_askSkin 2 z_X11_askSkin_0 [rf G 0, i9 p1] d (m_X11_askSkin_0 p1 d) := by
  refine mt_of (own := RX11) (by decide) rfl (Nat.le_of_ble_eq_true rfl) h1 h2 [(0, rf G 0), (1, i9 p1)] rfl (fun X hX C => ?_)
  unfold m_X11_askSkin_0
  refine r_iload_n C 1 dX11_askSkin_0 rfl rfl ?_
  refine r_if_lt C (b := 0) 18 dX11_askSkin_1 (by decide) (fun _ => ?_) (fun _ => ?_)
  · refine ss_wide (k' := 0) (n' := 0) (by decide) (by decide) ?_
    refine ss_ls [] [] rfl ?_
    exact s_X11_askSkin_0_c18 C   d
  · refine r_iload_n C 1 dX11_askSkin_4 rfl rfl ?_
    refine r_aload_n C 0 dX11_askSkin_5 rfl rfl ?_
    refine r_getR C 1 dX11_askSkin_6 fl_X11_10 la_0 ly_0 rfl rfl ?_
    refine r_getR C 9 dX11_askSkin_9 fl_X11_122 la_1 ly_1 rfl rfl ?_
    refine r_getI C dX11_askSkin_12 fl_X11_435 la_9 ly_9 rfl ?_
    refine r_icmp_lt C 29 dX11_askSkin_15 (by decide) (fun _ => ?_) (fun _ => ?_)
    · exact r_vret C dX11_askSkin_29 (by decide) (by decide)
    · refine ss_wide (k' := 0) (n' := 0) (by decide) (by decide) ?_
      refine ss_ls [] [] rfl ?_
      exact s_X11_askSkin_0_c18 C   d
theorem dX11_askDrip_0 : decode cX11_askDrip 0 = .ok (.iload_n 0, 1) := by decide +kernel
theorem dX11_askDrip_1 : decode cX11_askDrip 1 = .ok (.iconst 0, 1) := by decide +kernel
theorem dX11_askDrip_2 : decode cX11_askDrip 2 = .ok (.sipush 400, 3) := by decide +kernel
theorem dX11_askDrip_5 : decode cX11_askDrip 5 = .ok (.invokestatic 73, 3) := by decide +kernel
theorem dX11_askDrip_8 : decode cX11_askDrip 8 = .ok (.iload_n 1, 1) := by decide +kernel
theorem dX11_askDrip_9 : decode cX11_askDrip 9 = .ok (.iconst 0, 1) := by decide +kernel
theorem dX11_askDrip_10 : decode cX11_askDrip 10 = .ok (.sipush 9999, 3) := by decide +kernel
theorem dX11_askDrip_13 : decode cX11_askDrip 13 = .ok (.invokestatic 73, 3) := by decide +kernel
theorem dX11_askDrip_16 : decode cX11_askDrip 16 = .ok (.iload_n 2, 1) := by decide +kernel
theorem dX11_askDrip_17 : decode cX11_askDrip 17 = .ok (.iconst 0, 1) := by decide +kernel
theorem dX11_askDrip_18 : decode cX11_askDrip 18 = .ok (.sipush 9999, 3) := by decide +kernel
theorem dX11_askDrip_21 : decode cX11_askDrip 21 = .ok (.invokestatic 73, 3) := by decide +kernel
theorem dX11_askDrip_24 : decode cX11_askDrip 24 = .ok (.iload_n 3, 1) := by decide +kernel
theorem dX11_askDrip_25 : decode cX11_askDrip 25 = .ok (.iconst 0, 1) := by decide +kernel
theorem dX11_askDrip_26 : decode cX11_askDrip 26 = .ok (.bipush 99, 2) := by decide +kernel
theorem dX11_askDrip_28 : decode cX11_askDrip 28 = .ok (.invokestatic 73, 3) := by decide +kernel
theorem dX11_askDrip_31 : decode cX11_askDrip 31 = .ok (.return_, 1) := by decide +kernel
abbrev z_X11_askDrip : Z9 := (none, 0, 4, 24, 7, 122)
def m_X11_askDrip (p0 p1 p2 p3 : Int) (d : D9) : Option R9 := cl (m_X11_askWithin p0 0 400 d) (fun r1 d2 => cl (m_X11_askWithin p1 0 9999 d2) (fun r3 d4 => cl (m_X11_askWithin p2 0 9999 d4) (fun r5 d6 => cl (m_X11_askWithin p3 0 99 d6) (fun r7 d8 => rt 0 d8))))
set_option maxRecDepth 100000 in
theorem t_X11_askDrip {G : G9} {l : Launch} (h1 : va_D (A9 G) (wl G (fun _ _ => 0))) (h2 : l.stackTraces = false) (p0 p1 p2 p3 : Int) (d : D9) : MT G l yX11_askDrip cX11_askDrip 4 z_X11_askDrip [i9 p0, i9 p1, i9 p2, i9 p3] d (m_X11_askDrip p0 p1 p2 p3 d) := by
  refine mt_of (own := RX11) (by decide) rfl (Nat.le_of_ble_eq_true rfl) h1 h2 [(0, i9 p0), (1, i9 p1), (2, i9 p2), (3, i9 p3)] rfl (fun X hX C => ?_)
  unfold m_X11_askDrip
  refine r_iload_n C 0 dX11_askDrip_0 rfl rfl ?_
  refine r_iconst C dX11_askDrip_1 ?_
  refine r_sipush C dX11_askDrip_2 rfl ?_
  refine r_callS C [i9 400, i9 0, i9 p0] dX11_askDrip_5 (t_X11_askWithin C.h1 C.h2 p0 0 400 d) mw_X11_73 ms_X11_askWithin (by decide) (by decide) (by decide) rfl rfl (Nat.le_of_ble_eq_true rfl) (fun r1 d2 => ?_)
  show SS G X 4 _ _ 8 [(0, i9 p0), (1, i9 p1), (2, i9 p2), (3, i9 p3)] [] d2 _
  refine r_iload_n C 1 dX11_askDrip_8 rfl rfl ?_
  refine r_iconst C dX11_askDrip_9 ?_
  refine r_sipush C dX11_askDrip_10 rfl ?_
  refine r_callS C [i9 9999, i9 0, i9 p1] dX11_askDrip_13 (t_X11_askWithin C.h1 C.h2 p1 0 9999 d2) mw_X11_73 ms_X11_askWithin (by decide) (by decide) (by decide) rfl rfl (Nat.le_of_ble_eq_true rfl) (fun r3 d4 => ?_)
  show SS G X 4 _ _ 16 [(0, i9 p0), (1, i9 p1), (2, i9 p2), (3, i9 p3)] [] d4 _
  refine r_iload_n C 2 dX11_askDrip_16 rfl rfl ?_
  refine r_iconst C dX11_askDrip_17 ?_
  refine r_sipush C dX11_askDrip_18 rfl ?_
  refine r_callS C [i9 9999, i9 0, i9 p2] dX11_askDrip_21 (t_X11_askWithin C.h1 C.h2 p2 0 9999 d4) mw_X11_73 ms_X11_askWithin (by decide) (by decide) (by decide) rfl rfl (Nat.le_of_ble_eq_true rfl) (fun r5 d6 => ?_)
  show SS G X 4 _ _ 24 [(0, i9 p0), (1, i9 p1), (2, i9 p2), (3, i9 p3)] [] d6 _
  refine r_iload_n C 3 dX11_askDrip_24 rfl rfl ?_
  refine r_iconst C dX11_askDrip_25 ?_
  refine r_bipush C dX11_askDrip_26 rfl ?_
  refine r_callS C [i9 99, i9 0, i9 p3] dX11_askDrip_28 (t_X11_askWithin C.h1 C.h2 p3 0 99 d6) mw_X11_73 ms_X11_askWithin (by decide) (by decide) (by decide) rfl rfl (Nat.le_of_ble_eq_true rfl) (fun r7 d8 => ?_)
  show SS G X 4 _ _ 31 [(0, i9 p0), (1, i9 p1), (2, i9 p2), (3, i9 p3)] [] d8 _
  exact r_vret C dX11_askDrip_31 (by decide) (by decide)
theorem dX2_grownBy_0 : decode cX2_grownBy 0 = .ok (.bipush 10, 2) := by decide +kernel
theorem dX2_grownBy_2 : decode cX2_grownBy 2 = .ok (.iload_n 3, 1) := by decide +kernel
theorem dX2_grownBy_3 : decode cX2_grownBy 3 = .ok (.imul, 1) := by decide +kernel
theorem dX2_grownBy_4 : decode cX2_grownBy 4 = .ok (.iload 4, 2) := by decide +kernel
theorem dX2_grownBy_6 : decode cX2_grownBy 6 = .ok (.imul, 1) := by decide +kernel
theorem dX2_grownBy_7 : decode cX2_grownBy 7 = .ok (.istore 5, 2) := by decide +kernel
theorem dX2_grownBy_9 : decode cX2_grownBy 9 = .ok (.iconst 0, 1) := by decide +kernel
theorem dX2_grownBy_10 : decode cX2_grownBy 10 = .ok (.istore 6, 2) := by decide +kernel
theorem dX2_grownBy_12 : decode cX2_grownBy 12 = .ok (.iload 6, 2) := by decide +kernel
theorem dX2_grownBy_14 : decode cX2_grownBy 14 = .ok (.iload_n 1, 1) := by decide +kernel
theorem dX2_grownBy_15 : decode cX2_grownBy 15 = .ok (.if_icmp .ge 33, 3) := by decide +kernel
theorem dX2_grownBy_18 : decode cX2_grownBy 18 = .ok (.aload_n 0, 1) := by decide +kernel
theorem dX2_grownBy_19 : decode cX2_grownBy 19 = .ok (.iload 5, 2) := by decide +kernel
theorem dX2_grownBy_21 : decode cX2_grownBy 21 = .ok (.iload_n 2, 1) := by decide +kernel
theorem dX2_grownBy_22 : decode cX2_grownBy 22 = .ok (.invokevirtual 74, 3) := by decide +kernel
theorem dX2_grownBy_25 : decode cX2_grownBy 25 = .ok (.istore 7, 2) := by decide +kernel
theorem dX2_grownBy_27 : decode cX2_grownBy 27 = .ok (.iload 7, 2) := by decide +kernel
theorem dX2_grownBy_29 : decode cX2_grownBy 29 = .ok (.ifCond .ne 6, 3) := by decide +kernel
theorem dX2_grownBy_32 : decode cX2_grownBy 32 = .ok (.goto 16, 3) := by decide +kernel
theorem dX2_grownBy_35 : decode cX2_grownBy 35 = .ok (.iload 5, 2) := by decide +kernel
theorem dX2_grownBy_37 : decode cX2_grownBy 37 = .ok (.iload 7, 2) := by decide +kernel
theorem dX2_grownBy_39 : decode cX2_grownBy 39 = .ok (.iadd, 1) := by decide +kernel
theorem dX2_grownBy_40 : decode cX2_grownBy 40 = .ok (.istore 5, 2) := by decide +kernel
theorem dX2_grownBy_42 : decode cX2_grownBy 42 = .ok (.iinc 6 1, 3) := by decide +kernel
theorem dX2_grownBy_45 : decode cX2_grownBy 45 = .ok (.goto (-33), 3) := by decide +kernel
theorem dX2_grownBy_48 : decode cX2_grownBy 48 = .ok (.iload 5, 2) := by decide +kernel
theorem dX2_grownBy_50 : decode cX2_grownBy 50 = .ok (.ireturn, 1) := by decide +kernel
abbrev z_X2_grownBy_22 : Z9 := (some .int, 1, 0, 0, 3, 82)
def b_X2_grownBy_22_c12 (k_X2_grownBy_22_c12 : Int → Int → Int → Int → D9 → Option R9) (v1 v2 v5 v6 : Int) (d : D9) : Option R9 := if w32 v1 ≤ w32 v6 then rt v5 d else cl (m_X2_growth_22 v5 v2 d) (fun r1 d2 => if w32 r1 ≠ 0 then lt9v (v5 + r1) (fun a3 => k_X2_grownBy_22_c12 v1 v2 a3 (v6 + 1) d2) else rt v5 d2)
def m_X2_grownBy_22_c12 : Int → Int → Int → Int → D9 → Option R9 := fix9 (fun _ _ _ _ _ => none) (fun k => b_X2_grownBy_22_c12 k) FU
def m_X2_grownBy_22 (p1 p2 p3 p4 : Int) (d : D9) : Option R9 := lt9v ((10 * p3) * p4) (fun a1 => m_X2_grownBy_22_c12  p1 p2 a1 0 d)
set_option maxRecDepth 100000 in
theorem sb_X2_grownBy_22_c12 {G : G9} {X : X9} (C : CX G X cX2_grownBy 8 RX2 [] z_X2_grownBy_22) (k_X2_grownBy_22_c12 : Int → Int → Int → Int → D9 → Option R9) (hk_X2_grownBy_22_c12 : ∀ (v1 v2 v5 v6 : Int) (d : D9), SS G X 8 0 0 12 [(0, rf G 22), (1, i9 v1), (2, i9 v2), (5, i9 v5), (6, i9 v6)] [] d (k_X2_grownBy_22_c12 v1 v2 v5 v6 d)) : ∀ (v1 v2 v5 v6 : Int) (d : D9), SS G X 8 0 0 12 [(0, rf G 22), (1, i9 v1), (2, i9 v2), (5, i9 v5), (6, i9 v6)] [] d (b_X2_grownBy_22_c12 k_X2_grownBy_22_c12 v1 v2 v5 v6 d) := by
  intro v1 v2 v5 v6 d
  unfold b_X2_grownBy_22_c12
  refine r_iload C 4 dX2_grownBy_12 rfl ?_
  refine r_iload_n C 1 dX2_grownBy_14 rfl rfl ?_
  refine r_icmp_ge C 48 dX2_grownBy_15 (by decide) (fun _ => ?_) (fun _ => ?_)
  · refine r_iload C 3 dX2_grownBy_48 rfl ?_
    exact r_iret C dX2_grownBy_50 (by decide) (by decide)
  · refine r_aload_n C 0 dX2_grownBy_18 rfl rfl ?_
    refine r_iload C 3 dX2_grownBy_19 rfl ?_
    refine r_iload_n C 2 dX2_grownBy_21 rfl rfl ?_
    refine r_callV C [i9 v2, i9 v5, rf G 22] dX2_grownBy_22 (t_X2_growth_22 C.h1 C.h2 v5 v2 d) mw_X2_74 mv_X2_growth la_22 ly_22 rfl (by decide) (by decide) (by decide) rfl rfl (Nat.le_of_ble_eq_true rfl) (fun r1 d2 => ?_)
    show SS G X 8 _ _ 25 [(0, rf G 22), (1, i9 v1), (2, i9 v2), (5, i9 v5), (6, i9 v6)] [i9 r1] d2 _
    refine r_istore C [(7, i9 r1), (0, rf G 22), (1, i9 v1), (2, i9 v2), (5, i9 v5), (6, i9 v6)] dX2_grownBy_25 (by decide) rfl ?_
    refine r_iload C 0 dX2_grownBy_27 rfl ?_
    refine r_if_ne C (b := 0) 35 dX2_grownBy_29 (by decide) (fun _ => ?_) (fun _ => ?_)
    · refine r_iload C 4 dX2_grownBy_35 rfl ?_
      refine r_iload C 0 dX2_grownBy_37 rfl ?_
      refine r_iadd C dX2_grownBy_39 ?_
      refine ss_lt (fun a3 => ?_)
      refine r_istore C [(5, i9 a3), (7, i9 r1), (0, rf G 22), (1, i9 v1), (2, i9 v2), (6, i9 v6)] dX2_grownBy_40 (by decide) rfl ?_
      refine r_iinc C 5 [(6, i9 (v6 + 1)), (5, i9 a3), (7, i9 r1), (0, rf G 22), (1, i9 v1), (2, i9 v2)] dX2_grownBy_42 rfl (by decide) rfl ?_
      refine r_goto C 12 dX2_grownBy_45 (by decide) ?_
      refine ss_wide (k' := 0) (n' := 0) (by decide) (by decide) ?_
      refine ss_ls [(0, rf G 22), (1, i9 v1), (2, i9 v2), (5, i9 a3), (6, i9 (v6 + 1))] [3, 4, 5, 1, 0] rfl ?_
      exact hk_X2_grownBy_22_c12 v1 v2 a3 (v6 + 1) d2
    · refine r_goto C 48 dX2_grownBy_32 (by decide) ?_
      refine r_iload C 4 dX2_grownBy_48 rfl ?_
      exact r_iret C dX2_grownBy_50 (by decide) (by decide)
theorem s_X2_grownBy_22_c12 {G : G9} {X : X9} (C : CX G X cX2_grownBy 8 RX2 [] z_X2_grownBy_22) : ∀ (v1 v2 v5 v6 : Int) (d : D9), SS G X 8 0 0 12 [(0, rf G 22), (1, i9 v1), (2, i9 v2), (5, i9 v5), (6, i9 v6)] [] d (m_X2_grownBy_22_c12  v1 v2 v5 v6 d) :=
  fix9_ind (P := fun k => ∀ (v1 v2 v5 v6 : Int) (d : D9), SS G X 8 0 0 12 [(0, rf G 22), (1, i9 v1), (2, i9 v2), (5, i9 v5), (6, i9 v6)] [] d (k v1 v2 v5 v6 d)) (fun _ _ _ _ _ => ss_none) (fun k hk => sb_X2_grownBy_22_c12 C k hk) FU
set_option maxRecDepth 100000 in
theorem t_X2_grownBy_22 {G : G9} {l : Launch} (h1 : va_D (A9 G) (wl G (fun _ _ => 0))) (h2 : l.stackTraces = false) (p1 p2 p3 p4 : Int) (d : D9) : MT G l yX2_grownBy cX2_grownBy 8 z_X2_grownBy_22 [rf G 22, i9 p1, i9 p2, i9 p3, i9 p4] d (m_X2_grownBy_22 p1 p2 p3 p4 d) := by
  refine mt_of (own := RX2) (by decide) rfl (Nat.le_of_ble_eq_true rfl) h1 h2 [(0, rf G 22), (1, i9 p1), (2, i9 p2), (3, i9 p3), (4, i9 p4)] rfl (fun X hX C => ?_)
  unfold m_X2_grownBy_22
  refine r_bipush C dX2_grownBy_0 rfl ?_
  refine r_iload_n C 3 dX2_grownBy_2 rfl rfl ?_
  refine r_imul C dX2_grownBy_3 ?_
  refine r_iload C 4 dX2_grownBy_4 rfl ?_
  refine r_imul C dX2_grownBy_6 ?_
  refine ss_lt (fun a1 => ?_)
  refine r_istore C [(5, i9 a1), (0, rf G 22), (1, i9 p1), (2, i9 p2), (3, i9 p3), (4, i9 p4)] dX2_grownBy_7 (by decide) rfl ?_
  refine r_iconst C dX2_grownBy_9 ?_
  refine r_istore C [(6, i9 0), (5, i9 a1), (0, rf G 22), (1, i9 p1), (2, i9 p2), (3, i9 p3), (4, i9 p4)] dX2_grownBy_10 (by decide) rfl ?_
  refine ss_wide (k' := 0) (n' := 0) (by decide) (by decide) ?_
  refine ss_ls [(0, rf G 22), (1, i9 p1), (2, i9 p2), (5, i9 a1), (6, i9 0)] [2, 3, 4, 1, 0] rfl ?_
  exact s_X2_grownBy_22_c12 C  p1 p2 a1 0 d
theorem dX2_drawn_0 : decode cX2_drawn 0 = .ok (.ldc 84, 2) := by decide +kernel
theorem dX2_drawn_2 : decode cX2_drawn 2 = .ok (.iload_n 2, 1) := by decide +kernel
theorem dX2_drawn_3 : decode cX2_drawn 3 = .ok (.imul, 1) := by decide +kernel
theorem dX2_drawn_4 : decode cX2_drawn 4 = .ok (.sipush 12345, 3) := by decide +kernel
theorem dX2_drawn_7 : decode cX2_drawn 7 = .ok (.iadd, 1) := by decide +kernel
theorem dX2_drawn_8 : decode cX2_drawn 8 = .ok (.istore_n 3, 1) := by decide +kernel
theorem dX2_drawn_9 : decode cX2_drawn 9 = .ok (.iload_n 1, 1) := by decide +kernel
theorem dX2_drawn_10 : decode cX2_drawn 10 = .ok (.aload_n 0, 1) := by decide +kernel
theorem dX2_drawn_11 : decode cX2_drawn 11 = .ok (.getfield 30, 3) := by decide +kernel
theorem dX2_drawn_14 : decode cX2_drawn 14 = .ok (.imul, 1) := by decide +kernel
theorem dX2_drawn_15 : decode cX2_drawn 15 = .ok (.bipush 100, 2) := by decide +kernel
theorem dX2_drawn_17 : decode cX2_drawn 17 = .ok (.idiv, 1) := by decide +kernel
theorem dX2_drawn_18 : decode cX2_drawn 18 = .ok (.istore 4, 2) := by decide +kernel
theorem dX2_drawn_20 : decode cX2_drawn 20 = .ok (.iconst 2, 1) := by decide +kernel
theorem dX2_drawn_21 : decode cX2_drawn 21 = .ok (.iload 4, 2) := by decide +kernel
theorem dX2_drawn_23 : decode cX2_drawn 23 = .ok (.imul, 1) := by decide +kernel
theorem dX2_drawn_24 : decode cX2_drawn 24 = .ok (.iconst 1, 1) := by decide +kernel
theorem dX2_drawn_25 : decode cX2_drawn 25 = .ok (.iadd, 1) := by decide +kernel
theorem dX2_drawn_26 : decode cX2_drawn 26 = .ok (.istore 5, 2) := by decide +kernel
theorem dX2_drawn_28 : decode cX2_drawn 28 = .ok (.iload 5, 2) := by decide +kernel
theorem dX2_drawn_30 : decode cX2_drawn 30 = .ok (.ifCond .le 13, 3) := by decide +kernel
theorem dX2_drawn_33 : decode cX2_drawn 33 = .ok (.iload_n 3, 1) := by decide +kernel
theorem dX2_drawn_34 : decode cX2_drawn 34 = .ok (.bipush 16, 2) := by decide +kernel
theorem dX2_drawn_36 : decode cX2_drawn 36 = .ok (.iushr, 1) := by decide +kernel
theorem dX2_drawn_37 : decode cX2_drawn 37 = .ok (.iload 5, 2) := by decide +kernel
theorem dX2_drawn_39 : decode cX2_drawn 39 = .ok (.irem, 1) := by decide +kernel
theorem dX2_drawn_40 : decode cX2_drawn 40 = .ok (.goto 4, 3) := by decide +kernel
theorem dX2_drawn_43 : decode cX2_drawn 43 = .ok (.iconst 0, 1) := by decide +kernel
theorem dX2_drawn_44 : decode cX2_drawn 44 = .ok (.istore 6, 2) := by decide +kernel
theorem dX2_drawn_46 : decode cX2_drawn 46 = .ok (.iconst 0, 1) := by decide +kernel
theorem dX2_drawn_47 : decode cX2_drawn 47 = .ok (.sipush 9999, 3) := by decide +kernel
theorem dX2_drawn_50 : decode cX2_drawn 50 = .ok (.iload_n 1, 1) := by decide +kernel
theorem dX2_drawn_51 : decode cX2_drawn 51 = .ok (.iload 4, 2) := by decide +kernel
theorem dX2_drawn_53 : decode cX2_drawn 53 = .ok (.isub, 1) := by decide +kernel
theorem dX2_drawn_54 : decode cX2_drawn 54 = .ok (.iload 6, 2) := by decide +kernel
theorem dX2_drawn_56 : decode cX2_drawn 56 = .ok (.iadd, 1) := by decide +kernel
theorem dX2_drawn_57 : decode cX2_drawn 57 = .ok (.invokestatic 85, 3) := by decide +kernel
theorem dX2_drawn_60 : decode cX2_drawn 60 = .ok (.invokestatic 65, 3) := by decide +kernel
theorem dX2_drawn_63 : decode cX2_drawn 63 = .ok (.ireturn, 1) := by decide +kernel
abbrev z_X2_drawn_22 : Z9 := (some .int, 1, 0, 0, 2, 60)
def m_X2_drawn_22_c44 (v1 v4 s0 : Int) (d : D9) : Option R9 := rt (max9 0 (min9 9999 ((v1 - v4) + s0))) d
def m_X2_drawn_22 (p1 p2 : Int) (d : D9) : Option R9 := lt9v ((1103515245 * p2) + 12345) (fun a1 => lt9v (div9 (p1 * (d 22 5)) 100) (fun a2 => lt9v ((2 * a2) + 1) (fun a3 => if w32 a3 ≤ 0 then m_X2_drawn_22_c44  p1 a2 0 d else dv a3 (m_X2_drawn_22_c44  p1 a2 (rem9 (ush9 a1 16) a3) d))))
set_option maxRecDepth 100000 in
theorem s_X2_drawn_22_c44 {G : G9} {X : X9} (C : CX G X cX2_drawn 7 RX2 [] z_X2_drawn_22) : ∀ (v1 v4 s0 : Int) (d : D9), SS G X 7 0 0 44 [(1, i9 v1), (4, i9 v4)] [i9 s0] d (m_X2_drawn_22_c44  v1 v4 s0 d) := by
  intro v1 v4 s0 d
  unfold m_X2_drawn_22_c44
  refine r_istore C [(6, i9 s0), (1, i9 v1), (4, i9 v4)] dX2_drawn_44 (by decide) rfl ?_
  refine r_iconst C dX2_drawn_46 ?_
  refine r_sipush C dX2_drawn_47 rfl ?_
  refine r_iload_n C 1 dX2_drawn_50 rfl rfl ?_
  refine r_iload C 2 dX2_drawn_51 rfl ?_
  refine r_isub C dX2_drawn_53 ?_
  refine r_iload C 0 dX2_drawn_54 rfl ?_
  refine r_iadd C dX2_drawn_56 ?_
  refine r_mmin C dX2_drawn_57 mm_X2_85 ⟨Nat.le_of_ble_eq_true rfl, Nat.le_of_ble_eq_true rfl⟩ (by decide) (by decide) ?_
  refine r_mmax C dX2_drawn_60 mm_X2_65 ⟨Nat.le_of_ble_eq_true rfl, Nat.le_of_ble_eq_true rfl⟩ (by decide) (by decide) ?_
  exact r_iret C dX2_drawn_63 (by decide) (by decide)
set_option maxRecDepth 100000 in
theorem t_X2_drawn_22 {G : G9} {l : Launch} (h1 : va_D (A9 G) (wl G (fun _ _ => 0))) (h2 : l.stackTraces = false) (p1 p2 : Int) (d : D9) : MT G l yX2_drawn cX2_drawn 7 z_X2_drawn_22 [rf G 22, i9 p1, i9 p2] d (m_X2_drawn_22 p1 p2 d) := by
  refine mt_of (own := RX2) (by decide) rfl (Nat.le_of_ble_eq_true rfl) h1 h2 [(0, rf G 22), (1, i9 p1), (2, i9 p2)] rfl (fun X hX C => ?_)
  unfold m_X2_drawn_22
  refine r_ldcI C dX2_drawn_0 kc_X2_84 ?_
  refine r_iload_n C 2 dX2_drawn_2 rfl rfl ?_
  refine r_imul C dX2_drawn_3 ?_
  refine r_sipush C dX2_drawn_4 rfl ?_
  refine r_iadd C dX2_drawn_7 ?_
  refine ss_lt (fun a1 => ?_)
  refine r_istore_n C [(3, i9 a1), (0, rf G 22), (1, i9 p1), (2, i9 p2)] dX2_drawn_8 rfl (by decide) rfl ?_
  refine r_iload_n C 2 dX2_drawn_9 rfl rfl ?_
  refine r_aload_n C 1 dX2_drawn_10 rfl rfl ?_
  refine r_getI C dX2_drawn_11 fl_X2_30 la_22 ly_22 rfl ?_
  refine r_imul C dX2_drawn_14 ?_
  refine r_bipush C dX2_drawn_15 rfl ?_
  refine r_idiv C dX2_drawn_17 (by decide) ?_
  refine ss_lt (fun a2 => ?_)
  refine r_istore C [(4, i9 a2), (3, i9 a1), (0, rf G 22), (1, i9 p1), (2, i9 p2)] dX2_drawn_18 (by decide) rfl ?_
  refine r_iconst C dX2_drawn_20 ?_
  refine r_iload C 0 dX2_drawn_21 rfl ?_
  refine r_imul C dX2_drawn_23 ?_
  refine r_iconst C dX2_drawn_24 ?_
  refine r_iadd C dX2_drawn_25 ?_
  refine ss_lt (fun a3 => ?_)
  refine r_istore C [(5, i9 a3), (4, i9 a2), (3, i9 a1), (0, rf G 22), (1, i9 p1), (2, i9 p2)] dX2_drawn_26 (by decide) rfl ?_
  refine r_iload C 0 dX2_drawn_28 rfl ?_
  refine r_if_le C (b := 0) 43 dX2_drawn_30 (by decide) (fun _ => ?_) (fun _ => ?_)
  · refine r_iconst C dX2_drawn_43 ?_
    refine ss_wide (k' := 0) (n' := 0) (by decide) (by decide) ?_
    refine ss_ls [(1, i9 p1), (4, i9 a2)] [4, 1] rfl ?_
    exact s_X2_drawn_22_c44 C  p1 a2 0 d
  · refine r_iload_n C 2 dX2_drawn_33 rfl rfl ?_
    refine r_bipush C dX2_drawn_34 rfl ?_
    refine r_iushr C dX2_drawn_36 ?_
    refine r_iload C 0 dX2_drawn_37 rfl ?_
    refine ss_dv (fun h4 => ?_)
    refine r_irem C dX2_drawn_39 h4 ?_
    refine r_goto C 44 dX2_drawn_40 (by decide) ?_
    refine ss_wide (k' := 0) (n' := 0) (by decide) (by decide) ?_
    refine ss_ls [(1, i9 p1), (4, i9 a2)] [4, 1] rfl ?_
    exact s_X2_drawn_22_c44 C  p1 a2 (rem9 (ush9 a1 16) a3) d
theorem dX2_isThin_0 : decode cX2_isThin 0 = .ok (.iload_n 1, 1) := by decide +kernel
theorem dX2_isThin_1 : decode cX2_isThin 1 = .ok (.aload_n 0, 1) := by decide +kernel
theorem dX2_isThin_2 : decode cX2_isThin 2 = .ok (.getfield 27, 3) := by decide +kernel
theorem dX2_isThin_5 : decode cX2_isThin 5 = .ok (.if_icmp .ge 7, 3) := by decide +kernel
theorem dX2_isThin_8 : decode cX2_isThin 8 = .ok (.iconst 1, 1) := by decide +kernel
theorem dX2_isThin_9 : decode cX2_isThin 9 = .ok (.goto 4, 3) := by decide +kernel
theorem dX2_isThin_12 : decode cX2_isThin 12 = .ok (.iconst 0, 1) := by decide +kernel
theorem dX2_isThin_13 : decode cX2_isThin 13 = .ok (.ireturn, 1) := by decide +kernel
abbrev z_X2_isThin_22 : Z9 := (some .boolean, 1, 0, 0, 1, 0)
def m_X2_isThin_22 (p1 : Int) (d : D9) : Option R9 := if w32 (d 22 4) ≤ w32 p1 then rt (0 % 2) d else rt (1 % 2) d
set_option maxRecDepth 100000 in
theorem t_X2_isThin_22 {G : G9} {l : Launch} (h1 : va_D (A9 G) (wl G (fun _ _ => 0))) (h2 : l.stackTraces = false) (p1 : Int) (d : D9) : MT G l yX2_isThin cX2_isThin 2 z_X2_isThin_22 [rf G 22, i9 p1] d (m_X2_isThin_22 p1 d) := by
  refine mt_of (own := RX2) (by decide) rfl (Nat.le_of_ble_eq_true rfl) h1 h2 [(0, rf G 22), (1, i9 p1)] rfl (fun X hX C => ?_)
  unfold m_X2_isThin_22
  refine r_iload_n C 1 dX2_isThin_0 rfl rfl ?_
  refine r_aload_n C 0 dX2_isThin_1 rfl rfl ?_
  refine r_getI C dX2_isThin_2 fl_X2_27 la_22 ly_22 rfl ?_
  refine r_icmp_ge C 12 dX2_isThin_5 (by decide) (fun _ => ?_) (fun _ => ?_)
  · refine r_iconst C dX2_isThin_12 ?_
    exact r_zret C dX2_isThin_13 (by decide) (by decide)
  · refine r_iconst C dX2_isThin_8 ?_
    refine r_goto C 13 dX2_isThin_9 (by decide) ?_
    exact r_zret C dX2_isThin_13 (by decide) (by decide)
theorem dX2_goalBelow_0 : decode cX2_goalBelow 0 = .ok (.sipush 1000, 3) := by decide +kernel
theorem dX2_goalBelow_3 : decode cX2_goalBelow 3 = .ok (.iload_n 1, 1) := by decide +kernel
theorem dX2_goalBelow_4 : decode cX2_goalBelow 4 = .ok (.bipush 100, 2) := by decide +kernel
theorem dX2_goalBelow_6 : decode cX2_goalBelow 6 = .ok (.aload_n 0, 1) := by decide +kernel
theorem dX2_goalBelow_7 : decode cX2_goalBelow 7 = .ok (.getfield 30, 3) := by decide +kernel
theorem dX2_goalBelow_10 : decode cX2_goalBelow 10 = .ok (.isub, 1) := by decide +kernel
theorem dX2_goalBelow_11 : decode cX2_goalBelow 11 = .ok (.imul, 1) := by decide +kernel
theorem dX2_goalBelow_12 : decode cX2_goalBelow 12 = .ok (.bipush 100, 2) := by decide +kernel
theorem dX2_goalBelow_14 : decode cX2_goalBelow 14 = .ok (.idiv, 1) := by decide +kernel
theorem dX2_goalBelow_15 : decode cX2_goalBelow 15 = .ok (.imul, 1) := by decide +kernel
theorem dX2_goalBelow_16 : decode cX2_goalBelow 16 = .ok (.ireturn, 1) := by decide +kernel
abbrev z_X2_goalBelow_22 : Z9 := (some .int, 1, 0, 0, 1, 0)
def m_X2_goalBelow_22 (p1 : Int) (d : D9) : Option R9 := rt (1000 * (div9 (p1 * (100 - (d 22 5))) 100)) d
set_option maxRecDepth 100000 in
theorem t_X2_goalBelow_22 {G : G9} {l : Launch} (h1 : va_D (A9 G) (wl G (fun _ _ => 0))) (h2 : l.stackTraces = false) (p1 : Int) (d : D9) : MT G l yX2_goalBelow cX2_goalBelow 2 z_X2_goalBelow_22 [rf G 22, i9 p1] d (m_X2_goalBelow_22 p1 d) := by
  refine mt_of (own := RX2) (by decide) rfl (Nat.le_of_ble_eq_true rfl) h1 h2 [(0, rf G 22), (1, i9 p1)] rfl (fun X hX C => ?_)
  unfold m_X2_goalBelow_22
  refine r_sipush C dX2_goalBelow_0 rfl ?_
  refine r_iload_n C 1 dX2_goalBelow_3 rfl rfl ?_
  refine r_bipush C dX2_goalBelow_4 rfl ?_
  refine r_aload_n C 0 dX2_goalBelow_6 rfl rfl ?_
  refine r_getI C dX2_goalBelow_7 fl_X2_30 la_22 ly_22 rfl ?_
  refine r_isub C dX2_goalBelow_10 ?_
  refine r_imul C dX2_goalBelow_11 ?_
  refine r_bipush C dX2_goalBelow_12 rfl ?_
  refine r_idiv C dX2_goalBelow_14 (by decide) ?_
  refine r_imul C dX2_goalBelow_15 ?_
  exact r_iret C dX2_goalBelow_16 (by decide) (by decide)
theorem dX2_leastFor_0 : decode cX2_leastFor 0 = .ok (.aload_n 0, 1) := by decide +kernel
theorem dX2_leastFor_1 : decode cX2_leastFor 1 = .ok (.aload_n 0, 1) := by decide +kernel
theorem dX2_leastFor_2 : decode cX2_leastFor 2 = .ok (.iload_n 1, 1) := by decide +kernel
theorem dX2_leastFor_3 : decode cX2_leastFor 3 = .ok (.invokevirtual 77, 3) := by decide +kernel
theorem dX2_leastFor_6 : decode cX2_leastFor 6 = .ok (.iload_n 2, 1) := by decide +kernel
theorem dX2_leastFor_7 : decode cX2_leastFor 7 = .ok (.iload_n 3, 1) := by decide +kernel
theorem dX2_leastFor_8 : decode cX2_leastFor 8 = .ok (.aload_n 0, 1) := by decide +kernel
theorem dX2_leastFor_9 : decode cX2_leastFor 9 = .ok (.getfield 24, 3) := by decide +kernel
theorem dX2_leastFor_12 : decode cX2_leastFor 12 = .ok (.invokevirtual 70, 3) := by decide +kernel
theorem dX2_leastFor_15 : decode cX2_leastFor 15 = .ok (.ireturn, 1) := by decide +kernel
abbrev z_X2_leastFor_22 : Z9 := (some .int, 1, 0, 0, 4, 109)
def m_X2_leastFor_22 (p1 p2 p3 : Int) (d : D9) : Option R9 := cl (m_X2_goalBelow_22 p1 d) (fun r1 d2 => cl (m_X2_ageAt_22 r1 p2 p3 (d2 22 3) d2) (fun r3 d4 => rt r3 d4))
set_option maxRecDepth 100000 in
theorem t_X2_leastFor_22 {G : G9} {l : Launch} (h1 : va_D (A9 G) (wl G (fun _ _ => 0))) (h2 : l.stackTraces = false) (p1 p2 p3 : Int) (d : D9) : MT G l yX2_leastFor cX2_leastFor 4 z_X2_leastFor_22 [rf G 22, i9 p1, i9 p2, i9 p3] d (m_X2_leastFor_22 p1 p2 p3 d) := by
  refine mt_of (own := RX2) (by decide) rfl (Nat.le_of_ble_eq_true rfl) h1 h2 [(0, rf G 22), (1, i9 p1), (2, i9 p2), (3, i9 p3)] rfl (fun X hX C => ?_)
  unfold m_X2_leastFor_22
  refine r_aload_n C 0 dX2_leastFor_0 rfl rfl ?_
  refine r_aload_n C 0 dX2_leastFor_1 rfl rfl ?_
  refine r_iload_n C 1 dX2_leastFor_2 rfl rfl ?_
  refine r_callV C [i9 p1, rf G 22, rf G 22] dX2_leastFor_3 (t_X2_goalBelow_22 C.h1 C.h2 p1 d) mw_X2_77 mv_X2_goalBelow la_22 ly_22 rfl (by decide) (by decide) (by decide) rfl rfl (Nat.le_of_ble_eq_true rfl) (fun r1 d2 => ?_)
  show SS G X 4 _ _ 6 [(0, rf G 22), (1, i9 p1), (2, i9 p2), (3, i9 p3)] [i9 r1, rf G 22] d2 _
  refine r_iload_n C 2 dX2_leastFor_6 rfl rfl ?_
  refine r_iload_n C 3 dX2_leastFor_7 rfl rfl ?_
  refine r_aload_n C 0 dX2_leastFor_8 rfl rfl ?_
  refine r_getI C dX2_leastFor_9 fl_X2_24 la_22 ly_22 rfl ?_
  refine r_callV C [i9 (d2 22 3), i9 p3, i9 p2, i9 r1, rf G 22] dX2_leastFor_12 (t_X2_ageAt_22 C.h1 C.h2 r1 p2 p3 (d2 22 3) d2) mw_X2_70 mv_X2_ageAt la_22 ly_22 rfl (by decide) (by decide) (by decide) rfl rfl (Nat.le_of_ble_eq_true rfl) (fun r3 d4 => ?_)
  show SS G X 4 _ _ 15 [(0, rf G 22), (1, i9 p1), (2, i9 p2), (3, i9 p3)] [i9 r3] d4 _
  exact r_iret C dX2_leastFor_15 (by decide) (by decide)
theorem dX2_goalAbove_0 : decode cX2_goalAbove 0 = .ok (.sipush 1000, 3) := by decide +kernel
theorem dX2_goalAbove_3 : decode cX2_goalAbove 3 = .ok (.iload_n 1, 1) := by decide +kernel
theorem dX2_goalAbove_4 : decode cX2_goalAbove 4 = .ok (.bipush 100, 2) := by decide +kernel
theorem dX2_goalAbove_6 : decode cX2_goalAbove 6 = .ok (.aload_n 0, 1) := by decide +kernel
theorem dX2_goalAbove_7 : decode cX2_goalAbove 7 = .ok (.getfield 30, 3) := by decide +kernel
theorem dX2_goalAbove_10 : decode cX2_goalAbove 10 = .ok (.iadd, 1) := by decide +kernel
theorem dX2_goalAbove_11 : decode cX2_goalAbove 11 = .ok (.imul, 1) := by decide +kernel
theorem dX2_goalAbove_12 : decode cX2_goalAbove 12 = .ok (.bipush 100, 2) := by decide +kernel
theorem dX2_goalAbove_14 : decode cX2_goalAbove 14 = .ok (.idiv, 1) := by decide +kernel
theorem dX2_goalAbove_15 : decode cX2_goalAbove 15 = .ok (.imul, 1) := by decide +kernel
theorem dX2_goalAbove_16 : decode cX2_goalAbove 16 = .ok (.ireturn, 1) := by decide +kernel
abbrev z_X2_goalAbove_22 : Z9 := (some .int, 1, 0, 0, 1, 0)
def m_X2_goalAbove_22 (p1 : Int) (d : D9) : Option R9 := rt (1000 * (div9 (p1 * (100 + (d 22 5))) 100)) d
set_option maxRecDepth 100000 in
theorem t_X2_goalAbove_22 {G : G9} {l : Launch} (h1 : va_D (A9 G) (wl G (fun _ _ => 0))) (h2 : l.stackTraces = false) (p1 : Int) (d : D9) : MT G l yX2_goalAbove cX2_goalAbove 2 z_X2_goalAbove_22 [rf G 22, i9 p1] d (m_X2_goalAbove_22 p1 d) := by
  refine mt_of (own := RX2) (by decide) rfl (Nat.le_of_ble_eq_true rfl) h1 h2 [(0, rf G 22), (1, i9 p1)] rfl (fun X hX C => ?_)
  unfold m_X2_goalAbove_22
  refine r_sipush C dX2_goalAbove_0 rfl ?_
  refine r_iload_n C 1 dX2_goalAbove_3 rfl rfl ?_
  refine r_bipush C dX2_goalAbove_4 rfl ?_
  refine r_aload_n C 0 dX2_goalAbove_6 rfl rfl ?_
  refine r_getI C dX2_goalAbove_7 fl_X2_30 la_22 ly_22 rfl ?_
  refine r_iadd C dX2_goalAbove_10 ?_
  refine r_imul C dX2_goalAbove_11 ?_
  refine r_bipush C dX2_goalAbove_12 rfl ?_
  refine r_idiv C dX2_goalAbove_14 (by decide) ?_
  refine r_imul C dX2_goalAbove_15 ?_
  exact r_iret C dX2_goalAbove_16 (by decide) (by decide)
theorem dX2_greatestFor_0 : decode cX2_greatestFor 0 = .ok (.aload_n 0, 1) := by decide +kernel
theorem dX2_greatestFor_1 : decode cX2_greatestFor 1 = .ok (.aload_n 0, 1) := by decide +kernel
theorem dX2_greatestFor_2 : decode cX2_greatestFor 2 = .ok (.iload_n 1, 1) := by decide +kernel
theorem dX2_greatestFor_3 : decode cX2_greatestFor 3 = .ok (.invokevirtual 81, 3) := by decide +kernel
theorem dX2_greatestFor_6 : decode cX2_greatestFor 6 = .ok (.iload_n 2, 1) := by decide +kernel
theorem dX2_greatestFor_7 : decode cX2_greatestFor 7 = .ok (.iload_n 3, 1) := by decide +kernel
theorem dX2_greatestFor_8 : decode cX2_greatestFor 8 = .ok (.aload_n 0, 1) := by decide +kernel
theorem dX2_greatestFor_9 : decode cX2_greatestFor 9 = .ok (.getfield 21, 3) := by decide +kernel
theorem dX2_greatestFor_12 : decode cX2_greatestFor 12 = .ok (.invokevirtual 70, 3) := by decide +kernel
theorem dX2_greatestFor_15 : decode cX2_greatestFor 15 = .ok (.ireturn, 1) := by decide +kernel
abbrev z_X2_greatestFor_22 : Z9 := (some .int, 1, 0, 0, 4, 109)
def m_X2_greatestFor_22 (p1 p2 p3 : Int) (d : D9) : Option R9 := cl (m_X2_goalAbove_22 p1 d) (fun r1 d2 => cl (m_X2_ageAt_22 r1 p2 p3 (d2 22 2) d2) (fun r3 d4 => rt r3 d4))
set_option maxRecDepth 100000 in
theorem t_X2_greatestFor_22 {G : G9} {l : Launch} (h1 : va_D (A9 G) (wl G (fun _ _ => 0))) (h2 : l.stackTraces = false) (p1 p2 p3 : Int) (d : D9) : MT G l yX2_greatestFor cX2_greatestFor 4 z_X2_greatestFor_22 [rf G 22, i9 p1, i9 p2, i9 p3] d (m_X2_greatestFor_22 p1 p2 p3 d) := by
  refine mt_of (own := RX2) (by decide) rfl (Nat.le_of_ble_eq_true rfl) h1 h2 [(0, rf G 22), (1, i9 p1), (2, i9 p2), (3, i9 p3)] rfl (fun X hX C => ?_)
  unfold m_X2_greatestFor_22
  refine r_aload_n C 0 dX2_greatestFor_0 rfl rfl ?_
  refine r_aload_n C 0 dX2_greatestFor_1 rfl rfl ?_
  refine r_iload_n C 1 dX2_greatestFor_2 rfl rfl ?_
  refine r_callV C [i9 p1, rf G 22, rf G 22] dX2_greatestFor_3 (t_X2_goalAbove_22 C.h1 C.h2 p1 d) mw_X2_81 mv_X2_goalAbove la_22 ly_22 rfl (by decide) (by decide) (by decide) rfl rfl (Nat.le_of_ble_eq_true rfl) (fun r1 d2 => ?_)
  show SS G X 4 _ _ 6 [(0, rf G 22), (1, i9 p1), (2, i9 p2), (3, i9 p3)] [i9 r1, rf G 22] d2 _
  refine r_iload_n C 2 dX2_greatestFor_6 rfl rfl ?_
  refine r_iload_n C 3 dX2_greatestFor_7 rfl rfl ?_
  refine r_aload_n C 0 dX2_greatestFor_8 rfl rfl ?_
  refine r_getI C dX2_greatestFor_9 fl_X2_21 la_22 ly_22 rfl ?_
  refine r_callV C [i9 (d2 22 2), i9 p3, i9 p2, i9 r1, rf G 22] dX2_greatestFor_12 (t_X2_ageAt_22 C.h1 C.h2 r1 p2 p3 (d2 22 2) d2) mw_X2_70 mv_X2_ageAt la_22 ly_22 rfl (by decide) (by decide) (by decide) rfl rfl (Nat.le_of_ble_eq_true rfl) (fun r3 d4 => ?_)
  show SS G X 4 _ _ 15 [(0, rf G 22), (1, i9 p1), (2, i9 p2), (3, i9 p3)] [i9 r3] d4 _
  exact r_iret C dX2_greatestFor_15 (by decide) (by decide)
theorem dX6_clockCell_0 : decode cX6_clockCell 0 = .ok (.aload_n 2, 1) := by decide +kernel
theorem dX6_clockCell_1 : decode cX6_clockCell 1 = .ok (.aload_n 0, 1) := by decide +kernel
theorem dX6_clockCell_2 : decode cX6_clockCell 2 = .ok (.getfield 36, 3) := by decide +kernel
theorem dX6_clockCell_5 : decode cX6_clockCell 5 = .ok (.iload_n 1, 1) := by decide +kernel
theorem dX6_clockCell_6 : decode cX6_clockCell 6 = .ok (.iaload, 1) := by decide +kernel
theorem dX6_clockCell_7 : decode cX6_clockCell 7 = .ok (.invokevirtual 64, 3) := by decide +kernel
theorem dX6_clockCell_10 : decode cX6_clockCell 10 = .ok (.istore_n 3, 1) := by decide +kernel
theorem dX6_clockCell_11 : decode cX6_clockCell 11 = .ok (.aload_n 0, 1) := by decide +kernel
theorem dX6_clockCell_12 : decode cX6_clockCell 12 = .ok (.getfield 42, 3) := by decide +kernel
theorem dX6_clockCell_15 : decode cX6_clockCell 15 = .ok (.iload_n 1, 1) := by decide +kernel
theorem dX6_clockCell_16 : decode cX6_clockCell 16 = .ok (.iload_n 3, 1) := by decide +kernel
theorem dX6_clockCell_17 : decode cX6_clockCell 17 = .ok (.ifCond .eq 7, 3) := by decide +kernel
theorem dX6_clockCell_20 : decode cX6_clockCell 20 = .ok (.iconst (-1), 1) := by decide +kernel
theorem dX6_clockCell_21 : decode cX6_clockCell 21 = .ok (.goto 25, 3) := by decide +kernel
theorem dX6_clockCell_24 : decode cX6_clockCell 24 = .ok (.aload_n 2, 1) := by decide +kernel
theorem dX6_clockCell_25 : decode cX6_clockCell 25 = .ok (.aload_n 0, 1) := by decide +kernel
theorem dX6_clockCell_26 : decode cX6_clockCell 26 = .ok (.getfield 33, 3) := by decide +kernel
theorem dX6_clockCell_29 : decode cX6_clockCell 29 = .ok (.iload_n 1, 1) := by decide +kernel
theorem dX6_clockCell_30 : decode cX6_clockCell 30 = .ok (.iaload, 1) := by decide +kernel
theorem dX6_clockCell_31 : decode cX6_clockCell 31 = .ok (.aload_n 0, 1) := by decide +kernel
theorem dX6_clockCell_32 : decode cX6_clockCell 32 = .ok (.getfield 36, 3) := by decide +kernel
theorem dX6_clockCell_35 : decode cX6_clockCell 35 = .ok (.iload_n 1, 1) := by decide +kernel
theorem dX6_clockCell_36 : decode cX6_clockCell 36 = .ok (.iaload, 1) := by decide +kernel
theorem dX6_clockCell_37 : decode cX6_clockCell 37 = .ok (.aload_n 0, 1) := by decide +kernel
theorem dX6_clockCell_38 : decode cX6_clockCell 38 = .ok (.getfield 39, 3) := by decide +kernel
theorem dX6_clockCell_41 : decode cX6_clockCell 41 = .ok (.iload_n 1, 1) := by decide +kernel
theorem dX6_clockCell_42 : decode cX6_clockCell 42 = .ok (.iaload, 1) := by decide +kernel
theorem dX6_clockCell_43 : decode cX6_clockCell 43 = .ok (.invokevirtual 70, 3) := by decide +kernel
theorem dX6_clockCell_46 : decode cX6_clockCell 46 = .ok (.iastore, 1) := by decide +kernel
theorem dX6_clockCell_47 : decode cX6_clockCell 47 = .ok (.aload_n 0, 1) := by decide +kernel
theorem dX6_clockCell_48 : decode cX6_clockCell 48 = .ok (.getfield 45, 3) := by decide +kernel
theorem dX6_clockCell_51 : decode cX6_clockCell 51 = .ok (.iload_n 1, 1) := by decide +kernel
theorem dX6_clockCell_52 : decode cX6_clockCell 52 = .ok (.iload_n 3, 1) := by decide +kernel
theorem dX6_clockCell_53 : decode cX6_clockCell 53 = .ok (.ifCond .eq 7, 3) := by decide +kernel
theorem dX6_clockCell_56 : decode cX6_clockCell 56 = .ok (.iconst (-1), 1) := by decide +kernel
theorem dX6_clockCell_57 : decode cX6_clockCell 57 = .ok (.goto 25, 3) := by decide +kernel
theorem dX6_clockCell_60 : decode cX6_clockCell 60 = .ok (.aload_n 2, 1) := by decide +kernel
theorem dX6_clockCell_61 : decode cX6_clockCell 61 = .ok (.aload_n 0, 1) := by decide +kernel
theorem dX6_clockCell_62 : decode cX6_clockCell 62 = .ok (.getfield 33, 3) := by decide +kernel
theorem dX6_clockCell_65 : decode cX6_clockCell 65 = .ok (.iload_n 1, 1) := by decide +kernel
theorem dX6_clockCell_66 : decode cX6_clockCell 66 = .ok (.iaload, 1) := by decide +kernel
theorem dX6_clockCell_67 : decode cX6_clockCell 67 = .ok (.aload_n 0, 1) := by decide +kernel
theorem dX6_clockCell_68 : decode cX6_clockCell 68 = .ok (.getfield 36, 3) := by decide +kernel
theorem dX6_clockCell_71 : decode cX6_clockCell 71 = .ok (.iload_n 1, 1) := by decide +kernel
theorem dX6_clockCell_72 : decode cX6_clockCell 72 = .ok (.iaload, 1) := by decide +kernel
theorem dX6_clockCell_73 : decode cX6_clockCell 73 = .ok (.aload_n 0, 1) := by decide +kernel
theorem dX6_clockCell_74 : decode cX6_clockCell 74 = .ok (.getfield 39, 3) := by decide +kernel
theorem dX6_clockCell_77 : decode cX6_clockCell 77 = .ok (.iload_n 1, 1) := by decide +kernel
theorem dX6_clockCell_78 : decode cX6_clockCell 78 = .ok (.iaload, 1) := by decide +kernel
theorem dX6_clockCell_79 : decode cX6_clockCell 79 = .ok (.invokevirtual 74, 3) := by decide +kernel
theorem dX6_clockCell_82 : decode cX6_clockCell 82 = .ok (.iastore, 1) := by decide +kernel
theorem dX6_clockCell_83 : decode cX6_clockCell 83 = .ok (.return_, 1) := by decide +kernel
abbrev z_X6_clockCell_9_22 : Z9 := (none, 0, 0, 0, 5, 132)
def m_X6_clockCell_9_22_c46 (v1 v3 s0 s1 : Int) (d : D9) : Option R9 := sd d 20 120 s1 s0 (fun d1 => if w32 v3 = 0 then ld d1 17 120 v1 (fun t2 => ld d1 18 120 v1 (fun t3 => ld d1 19 120 v1 (fun t4 => cl (m_X2_greatestFor_22 t2 t3 t4 d1) (fun r5 d6 => sd d6 21 120 v1 r5 (fun d7 => rt 0 d7))))) else sd d1 21 120 v1 (-1) (fun d8 => rt 0 d8))
def m_X6_clockCell_9_22 (p1 : Int) (d : D9) : Option R9 := ld d 18 120 p1 (fun t1 => cl (m_X2_isThin_22 t1 d) (fun r2 d3 => if w32 r2 = 0 then ld d3 17 120 p1 (fun t4 => ld d3 18 120 p1 (fun t5 => ld d3 19 120 p1 (fun t6 => cl (m_X2_leastFor_22 t4 t5 t6 d3) (fun r7 d8 => m_X6_clockCell_9_22_c46  p1 r2 r7 p1 d8)))) else m_X6_clockCell_9_22_c46  p1 r2 (-1) p1 d3))
set_option maxRecDepth 100000 in
theorem s_X6_clockCell_9_22_c46 {G : G9} {X : X9} (C : CX G X cX6_clockCell 4 RX6 [] z_X6_clockCell_9_22) : ∀ (v1 v3 s0 s1 : Int) (d : D9), SS G X 4 0 0 46 [(0, rf G 9), (1, i9 v1), (2, rf G 22), (3, i9 v3)] [i9 s0, i9 s1, rf G 20] d (m_X6_clockCell_9_22_c46  v1 v3 s0 s1 d) := by
  intro v1 v3 s0 s1 d
  unfold m_X6_clockCell_9_22_c46
  refine r_iast C dX6_clockCell_46 la_20 ly_20 (fun d1 => ?_)
  refine r_aload_n C 0 dX6_clockCell_47 rfl rfl ?_
  refine r_getR C 21 dX6_clockCell_48 fl_X6_45 la_9 ly_9 rfl rfl ?_
  refine r_iload_n C 1 dX6_clockCell_51 rfl rfl ?_
  refine r_iload_n C 3 dX6_clockCell_52 rfl rfl ?_
  refine r_if_eq C (b := 0) 60 dX6_clockCell_53 (by decide) (fun _ => ?_) (fun _ => ?_)
  · refine r_aload_n C 2 dX6_clockCell_60 rfl rfl ?_
    refine r_aload_n C 0 dX6_clockCell_61 rfl rfl ?_
    refine r_getR C 17 dX6_clockCell_62 fl_X6_33 la_9 ly_9 rfl rfl ?_
    refine r_iload_n C 1 dX6_clockCell_65 rfl rfl ?_
    refine r_iald C dX6_clockCell_66 la_17 ly_17 (fun t2 => ?_)
    refine r_aload_n C 0 dX6_clockCell_67 rfl rfl ?_
    refine r_getR C 18 dX6_clockCell_68 fl_X6_36 la_9 ly_9 rfl rfl ?_
    refine r_iload_n C 1 dX6_clockCell_71 rfl rfl ?_
    refine r_iald C dX6_clockCell_72 la_18 ly_18 (fun t3 => ?_)
    refine r_aload_n C 0 dX6_clockCell_73 rfl rfl ?_
    refine r_getR C 19 dX6_clockCell_74 fl_X6_39 la_9 ly_9 rfl rfl ?_
    refine r_iload_n C 1 dX6_clockCell_77 rfl rfl ?_
    refine r_iald C dX6_clockCell_78 la_19 ly_19 (fun t4 => ?_)
    refine r_callV C [i9 t4, i9 t3, i9 t2, rf G 22, i9 v1, rf G 21] dX6_clockCell_79 (t_X2_greatestFor_22 C.h1 C.h2 t2 t3 t4 d1) mw_X6_74 mv_X2_greatestFor la_22 ly_22 rfl (by decide) (by decide) (by decide) rfl rfl (Nat.le_of_ble_eq_true rfl) (fun r5 d6 => ?_)
    show SS G X 4 _ _ 82 [(0, rf G 9), (1, i9 v1), (2, rf G 22), (3, i9 v3)] [i9 r5, i9 v1, rf G 21] d6 _
    refine r_iast C dX6_clockCell_82 la_21 ly_21 (fun d7 => ?_)
    exact r_vret C dX6_clockCell_83 (by decide) (by decide)
  · refine r_iconst C dX6_clockCell_56 ?_
    refine r_goto C 82 dX6_clockCell_57 (by decide) ?_
    refine r_iast C dX6_clockCell_82 la_21 ly_21 (fun d8 => ?_)
    exact r_vret C dX6_clockCell_83 (by decide) (by decide)
set_option maxRecDepth 100000 in
theorem t_X6_clockCell_9_22 {G : G9} {l : Launch} (h1 : va_D (A9 G) (wl G (fun _ _ => 0))) (h2 : l.stackTraces = false) (p1 : Int) (d : D9) : MT G l yX6_clockCell cX6_clockCell 4 z_X6_clockCell_9_22 [rf G 9, i9 p1, rf G 22] d (m_X6_clockCell_9_22 p1 d) := by
  refine mt_of (own := RX6) (by decide) rfl (Nat.le_of_ble_eq_true rfl) h1 h2 [(0, rf G 9), (1, i9 p1), (2, rf G 22)] rfl (fun X hX C => ?_)
  unfold m_X6_clockCell_9_22
  refine r_aload_n C 2 dX6_clockCell_0 rfl rfl ?_
  refine r_aload_n C 0 dX6_clockCell_1 rfl rfl ?_
  refine r_getR C 18 dX6_clockCell_2 fl_X6_36 la_9 ly_9 rfl rfl ?_
  refine r_iload_n C 1 dX6_clockCell_5 rfl rfl ?_
  refine r_iald C dX6_clockCell_6 la_18 ly_18 (fun t1 => ?_)
  refine r_callV C [i9 t1, rf G 22] dX6_clockCell_7 (t_X2_isThin_22 C.h1 C.h2 t1 d) mw_X6_64 mv_X2_isThin la_22 ly_22 rfl (by decide) (by decide) (by decide) rfl rfl (Nat.le_of_ble_eq_true rfl) (fun r2 d3 => ?_)
  show SS G X 4 _ _ 10 [(0, rf G 9), (1, i9 p1), (2, rf G 22)] [i9 r2] d3 _
  refine r_istore_n C [(3, i9 r2), (0, rf G 9), (1, i9 p1), (2, rf G 22)] dX6_clockCell_10 rfl (by decide) rfl ?_
  refine r_aload_n C 1 dX6_clockCell_11 rfl rfl ?_
  refine r_getR C 20 dX6_clockCell_12 fl_X6_42 la_9 ly_9 rfl rfl ?_
  refine r_iload_n C 2 dX6_clockCell_15 rfl rfl ?_
  refine r_iload_n C 0 dX6_clockCell_16 rfl rfl ?_
  refine r_if_eq C (b := 0) 24 dX6_clockCell_17 (by decide) (fun _ => ?_) (fun _ => ?_)
  · refine r_aload_n C 3 dX6_clockCell_24 rfl rfl ?_
    refine r_aload_n C 1 dX6_clockCell_25 rfl rfl ?_
    refine r_getR C 17 dX6_clockCell_26 fl_X6_33 la_9 ly_9 rfl rfl ?_
    refine r_iload_n C 2 dX6_clockCell_29 rfl rfl ?_
    refine r_iald C dX6_clockCell_30 la_17 ly_17 (fun t4 => ?_)
    refine r_aload_n C 1 dX6_clockCell_31 rfl rfl ?_
    refine r_getR C 18 dX6_clockCell_32 fl_X6_36 la_9 ly_9 rfl rfl ?_
    refine r_iload_n C 2 dX6_clockCell_35 rfl rfl ?_
    refine r_iald C dX6_clockCell_36 la_18 ly_18 (fun t5 => ?_)
    refine r_aload_n C 1 dX6_clockCell_37 rfl rfl ?_
    refine r_getR C 19 dX6_clockCell_38 fl_X6_39 la_9 ly_9 rfl rfl ?_
    refine r_iload_n C 2 dX6_clockCell_41 rfl rfl ?_
    refine r_iald C dX6_clockCell_42 la_19 ly_19 (fun t6 => ?_)
    refine r_callV C [i9 t6, i9 t5, i9 t4, rf G 22, i9 p1, rf G 20] dX6_clockCell_43 (t_X2_leastFor_22 C.h1 C.h2 t4 t5 t6 d3) mw_X6_70 mv_X2_leastFor la_22 ly_22 rfl (by decide) (by decide) (by decide) rfl rfl (Nat.le_of_ble_eq_true rfl) (fun r7 d8 => ?_)
    show SS G X 4 _ _ 46 [(3, i9 r2), (0, rf G 9), (1, i9 p1), (2, rf G 22)] [i9 r7, i9 p1, rf G 20] d8 _
    refine ss_wide (k' := 0) (n' := 0) (by decide) (by decide) ?_
    refine ss_ls [(0, rf G 9), (1, i9 p1), (2, rf G 22), (3, i9 r2)] [1, 2, 3, 0] rfl ?_
    exact s_X6_clockCell_9_22_c46 C  p1 r2 r7 p1 d8
  · refine r_iconst C dX6_clockCell_20 ?_
    refine r_goto C 46 dX6_clockCell_21 (by decide) ?_
    refine ss_wide (k' := 0) (n' := 0) (by decide) (by decide) ?_
    refine ss_ls [(0, rf G 9), (1, i9 p1), (2, rf G 22), (3, i9 r2)] [1, 2, 3, 0] rfl ?_
    exact s_X6_clockCell_9_22_c46 C  p1 r2 (-1) p1 d3
theorem dX6_thick_0 : decode cX6_thick 0 = .ok (.iconst 0, 1) := by decide +kernel
theorem dX6_thick_1 : decode cX6_thick 1 = .ok (.istore_n 2, 1) := by decide +kernel
theorem dX6_thick_2 : decode cX6_thick 2 = .ok (.iconst 0, 1) := by decide +kernel
theorem dX6_thick_3 : decode cX6_thick 3 = .ok (.istore_n 3, 1) := by decide +kernel
theorem dX6_thick_4 : decode cX6_thick 4 = .ok (.iload_n 3, 1) := by decide +kernel
theorem dX6_thick_5 : decode cX6_thick 5 = .ok (.aload_n 0, 1) := by decide +kernel
theorem dX6_thick_6 : decode cX6_thick 6 = .ok (.getfield 24, 3) := by decide +kernel
theorem dX6_thick_9 : decode cX6_thick 9 = .ok (.iload_n 1, 1) := by decide +kernel
theorem dX6_thick_10 : decode cX6_thick 10 = .ok (.iaload, 1) := by decide +kernel
theorem dX6_thick_11 : decode cX6_thick 11 = .ok (.if_icmp .ge 31, 3) := by decide +kernel
theorem dX6_thick_14 : decode cX6_thick 14 = .ok (.iload_n 2, 1) := by decide +kernel
theorem dX6_thick_15 : decode cX6_thick 15 = .ok (.aload_n 0, 1) := by decide +kernel
theorem dX6_thick_16 : decode cX6_thick 16 = .ok (.getfield 42, 3) := by decide +kernel
theorem dX6_thick_19 : decode cX6_thick 19 = .ok (.iload_n 1, 1) := by decide +kernel
theorem dX6_thick_20 : decode cX6_thick 20 = .ok (.iconst 4, 1) := by decide +kernel
theorem dX6_thick_21 : decode cX6_thick 21 = .ok (.imul, 1) := by decide +kernel
theorem dX6_thick_22 : decode cX6_thick 22 = .ok (.iload_n 3, 1) := by decide +kernel
theorem dX6_thick_23 : decode cX6_thick 23 = .ok (.iadd, 1) := by decide +kernel
theorem dX6_thick_24 : decode cX6_thick 24 = .ok (.iaload, 1) := by decide +kernel
theorem dX6_thick_25 : decode cX6_thick 25 = .ok (.iconst (-1), 1) := by decide +kernel
theorem dX6_thick_26 : decode cX6_thick 26 = .ok (.if_icmp .eq 7, 3) := by decide +kernel
theorem dX6_thick_29 : decode cX6_thick 29 = .ok (.iconst 1, 1) := by decide +kernel
theorem dX6_thick_30 : decode cX6_thick 30 = .ok (.goto 4, 3) := by decide +kernel
theorem dX6_thick_33 : decode cX6_thick 33 = .ok (.iconst 0, 1) := by decide +kernel
theorem dX6_thick_34 : decode cX6_thick 34 = .ok (.iadd, 1) := by decide +kernel
theorem dX6_thick_35 : decode cX6_thick 35 = .ok (.istore_n 2, 1) := by decide +kernel
theorem dX6_thick_36 : decode cX6_thick 36 = .ok (.iinc 3 1, 3) := by decide +kernel
theorem dX6_thick_39 : decode cX6_thick 39 = .ok (.goto (-35), 3) := by decide +kernel
theorem dX6_thick_42 : decode cX6_thick 42 = .ok (.iload_n 2, 1) := by decide +kernel
theorem dX6_thick_43 : decode cX6_thick 43 = .ok (.ireturn, 1) := by decide +kernel
abbrev z_X6_thick_9 : Z9 := (some .int, 1, 0, 0, 1, 0)
def b_X6_thick_9_c4 (k_X6_thick_9_c4 : Int → Int → Int → D9 → Option R9) (v1 v2 v3 : Int) (d : D9) : Option R9 := ld d 14 30 v1 (fun t1 => if w32 t1 ≤ w32 v3 then rt v2 d else ld d 20 120 ((v1 * 4) + v3) (fun t2 => if w32 t2 = w32 (-1) then lt9v (v2 + 0) (fun a3 => k_X6_thick_9_c4 v1 a3 (v3 + 1) d) else lt9v (v2 + 1) (fun a4 => k_X6_thick_9_c4 v1 a4 (v3 + 1) d)))
def m_X6_thick_9_c4 : Int → Int → Int → D9 → Option R9 := fix9 (fun _ _ _ _ => none) (fun k => b_X6_thick_9_c4 k) FU
def m_X6_thick_9 (p1 : Int) (d : D9) : Option R9 := m_X6_thick_9_c4  p1 0 0 d
set_option maxRecDepth 100000 in
theorem sb_X6_thick_9_c4 {G : G9} {X : X9} (C : CX G X cX6_thick 4 RX6 [] z_X6_thick_9) (k_X6_thick_9_c4 : Int → Int → Int → D9 → Option R9) (hk_X6_thick_9_c4 : ∀ (v1 v2 v3 : Int) (d : D9), SS G X 4 0 0 4 [(0, rf G 9), (1, i9 v1), (2, i9 v2), (3, i9 v3)] [] d (k_X6_thick_9_c4 v1 v2 v3 d)) : ∀ (v1 v2 v3 : Int) (d : D9), SS G X 4 0 0 4 [(0, rf G 9), (1, i9 v1), (2, i9 v2), (3, i9 v3)] [] d (b_X6_thick_9_c4 k_X6_thick_9_c4 v1 v2 v3 d) := by
  intro v1 v2 v3 d
  unfold b_X6_thick_9_c4
  refine r_iload_n C 3 dX6_thick_4 rfl rfl ?_
  refine r_aload_n C 0 dX6_thick_5 rfl rfl ?_
  refine r_getR C 14 dX6_thick_6 fl_X6_24 la_9 ly_9 rfl rfl ?_
  refine r_iload_n C 1 dX6_thick_9 rfl rfl ?_
  refine r_iald C dX6_thick_10 la_14 ly_14 (fun t1 => ?_)
  refine r_icmp_ge C 42 dX6_thick_11 (by decide) (fun _ => ?_) (fun _ => ?_)
  · refine r_iload_n C 2 dX6_thick_42 rfl rfl ?_
    exact r_iret C dX6_thick_43 (by decide) (by decide)
  · refine r_iload_n C 2 dX6_thick_14 rfl rfl ?_
    refine r_aload_n C 0 dX6_thick_15 rfl rfl ?_
    refine r_getR C 20 dX6_thick_16 fl_X6_42 la_9 ly_9 rfl rfl ?_
    refine r_iload_n C 1 dX6_thick_19 rfl rfl ?_
    refine r_iconst C dX6_thick_20 ?_
    refine r_imul C dX6_thick_21 ?_
    refine r_iload_n C 3 dX6_thick_22 rfl rfl ?_
    refine r_iadd C dX6_thick_23 ?_
    refine r_iald C dX6_thick_24 la_20 ly_20 (fun t2 => ?_)
    refine r_iconst C dX6_thick_25 ?_
    refine r_icmp_eq C 33 dX6_thick_26 (by decide) (fun _ => ?_) (fun _ => ?_)
    · refine r_iconst C dX6_thick_33 ?_
      refine r_iadd C dX6_thick_34 ?_
      refine ss_lt (fun a3 => ?_)
      refine r_istore_n C [(2, i9 a3), (0, rf G 9), (1, i9 v1), (3, i9 v3)] dX6_thick_35 rfl (by decide) rfl ?_
      refine r_iinc C 3 [(3, i9 (v3 + 1)), (2, i9 a3), (0, rf G 9), (1, i9 v1)] dX6_thick_36 rfl (by decide) rfl ?_
      refine r_goto C 4 dX6_thick_39 (by decide) ?_
      refine ss_wide (k' := 0) (n' := 0) (by decide) (by decide) ?_
      refine ss_ls [(0, rf G 9), (1, i9 v1), (2, i9 a3), (3, i9 (v3 + 1))] [2, 3, 1, 0] rfl ?_
      exact hk_X6_thick_9_c4 v1 a3 (v3 + 1) d
    · refine r_iconst C dX6_thick_29 ?_
      refine r_goto C 34 dX6_thick_30 (by decide) ?_
      refine r_iadd C dX6_thick_34 ?_
      refine ss_lt (fun a4 => ?_)
      refine r_istore_n C [(2, i9 a4), (0, rf G 9), (1, i9 v1), (3, i9 v3)] dX6_thick_35 rfl (by decide) rfl ?_
      refine r_iinc C 3 [(3, i9 (v3 + 1)), (2, i9 a4), (0, rf G 9), (1, i9 v1)] dX6_thick_36 rfl (by decide) rfl ?_
      refine r_goto C 4 dX6_thick_39 (by decide) ?_
      refine ss_wide (k' := 0) (n' := 0) (by decide) (by decide) ?_
      refine ss_ls [(0, rf G 9), (1, i9 v1), (2, i9 a4), (3, i9 (v3 + 1))] [2, 3, 1, 0] rfl ?_
      exact hk_X6_thick_9_c4 v1 a4 (v3 + 1) d
theorem s_X6_thick_9_c4 {G : G9} {X : X9} (C : CX G X cX6_thick 4 RX6 [] z_X6_thick_9) : ∀ (v1 v2 v3 : Int) (d : D9), SS G X 4 0 0 4 [(0, rf G 9), (1, i9 v1), (2, i9 v2), (3, i9 v3)] [] d (m_X6_thick_9_c4  v1 v2 v3 d) :=
  fix9_ind (P := fun k => ∀ (v1 v2 v3 : Int) (d : D9), SS G X 4 0 0 4 [(0, rf G 9), (1, i9 v1), (2, i9 v2), (3, i9 v3)] [] d (k v1 v2 v3 d)) (fun _ _ _ _ => ss_none) (fun k hk => sb_X6_thick_9_c4 C k hk) FU
set_option maxRecDepth 100000 in
theorem t_X6_thick_9 {G : G9} {l : Launch} (h1 : va_D (A9 G) (wl G (fun _ _ => 0))) (h2 : l.stackTraces = false) (p1 : Int) (d : D9) : MT G l yX6_thick cX6_thick 4 z_X6_thick_9 [rf G 9, i9 p1] d (m_X6_thick_9 p1 d) := by
  refine mt_of (own := RX6) (by decide) rfl (Nat.le_of_ble_eq_true rfl) h1 h2 [(0, rf G 9), (1, i9 p1)] rfl (fun X hX C => ?_)
  unfold m_X6_thick_9
  refine r_iconst C dX6_thick_0 ?_
  refine r_istore_n C [(2, i9 0), (0, rf G 9), (1, i9 p1)] dX6_thick_1 rfl (by decide) rfl ?_
  refine r_iconst C dX6_thick_2 ?_
  refine r_istore_n C [(3, i9 0), (2, i9 0), (0, rf G 9), (1, i9 p1)] dX6_thick_3 rfl (by decide) rfl ?_
  refine ss_wide (k' := 0) (n' := 0) (by decide) (by decide) ?_
  refine ss_ls [(0, rf G 9), (1, i9 p1), (2, i9 0), (3, i9 0)] [2, 3, 1, 0] rfl ?_
  exact s_X6_thick_9_c4 C  p1 0 0 d
theorem dX6_isTurned_0 : decode cX6_isTurned 0 = .ok (.iload_n 1, 1) := by decide +kernel
theorem dX6_isTurned_1 : decode cX6_isTurned 1 = .ok (.iconst 4, 1) := by decide +kernel
theorem dX6_isTurned_2 : decode cX6_isTurned 2 = .ok (.imul, 1) := by decide +kernel
theorem dX6_isTurned_3 : decode cX6_isTurned 3 = .ok (.istore_n 2, 1) := by decide +kernel
theorem dX6_isTurned_4 : decode cX6_isTurned 4 = .ok (.iload_n 2, 1) := by decide +kernel
theorem dX6_isTurned_5 : decode cX6_isTurned 5 = .ok (.aload_n 0, 1) := by decide +kernel
theorem dX6_isTurned_6 : decode cX6_isTurned 6 = .ok (.getfield 24, 3) := by decide +kernel
theorem dX6_isTurned_9 : decode cX6_isTurned 9 = .ok (.iload_n 1, 1) := by decide +kernel
theorem dX6_isTurned_10 : decode cX6_isTurned 10 = .ok (.iaload, 1) := by decide +kernel
theorem dX6_isTurned_11 : decode cX6_isTurned 11 = .ok (.iadd, 1) := by decide +kernel
theorem dX6_isTurned_12 : decode cX6_isTurned 12 = .ok (.istore_n 3, 1) := by decide +kernel
theorem dX6_isTurned_13 : decode cX6_isTurned 13 = .ok (.iload_n 2, 1) := by decide +kernel
theorem dX6_isTurned_14 : decode cX6_isTurned 14 = .ok (.istore 4, 2) := by decide +kernel
theorem dX6_isTurned_16 : decode cX6_isTurned 16 = .ok (.iload 4, 2) := by decide +kernel
theorem dX6_isTurned_18 : decode cX6_isTurned 18 = .ok (.iload_n 3, 1) := by decide +kernel
theorem dX6_isTurned_19 : decode cX6_isTurned 19 = .ok (.if_icmp .ge 57, 3) := by decide +kernel
theorem dX6_isTurned_22 : decode cX6_isTurned 22 = .ok (.iload 4, 2) := by decide +kernel
theorem dX6_isTurned_24 : decode cX6_isTurned 24 = .ok (.iconst 1, 1) := by decide +kernel
theorem dX6_isTurned_25 : decode cX6_isTurned 25 = .ok (.iadd, 1) := by decide +kernel
theorem dX6_isTurned_26 : decode cX6_isTurned 26 = .ok (.istore 5, 2) := by decide +kernel
theorem dX6_isTurned_28 : decode cX6_isTurned 28 = .ok (.iload 5, 2) := by decide +kernel
theorem dX6_isTurned_30 : decode cX6_isTurned 30 = .ok (.iload_n 3, 1) := by decide +kernel
theorem dX6_isTurned_31 : decode cX6_isTurned 31 = .ok (.if_icmp .ge 39, 3) := by decide +kernel
theorem dX6_isTurned_34 : decode cX6_isTurned 34 = .ok (.aload_n 0, 1) := by decide +kernel
theorem dX6_isTurned_35 : decode cX6_isTurned 35 = .ok (.getfield 45, 3) := by decide +kernel
theorem dX6_isTurned_38 : decode cX6_isTurned 38 = .ok (.iload 5, 2) := by decide +kernel
theorem dX6_isTurned_40 : decode cX6_isTurned 40 = .ok (.iaload, 1) := by decide +kernel
theorem dX6_isTurned_41 : decode cX6_isTurned 41 = .ok (.iconst (-1), 1) := by decide +kernel
theorem dX6_isTurned_42 : decode cX6_isTurned 42 = .ok (.if_icmp .eq 22, 3) := by decide +kernel
theorem dX6_isTurned_45 : decode cX6_isTurned 45 = .ok (.aload_n 0, 1) := by decide +kernel
theorem dX6_isTurned_46 : decode cX6_isTurned 46 = .ok (.getfield 42, 3) := by decide +kernel
theorem dX6_isTurned_49 : decode cX6_isTurned 49 = .ok (.iload 4, 2) := by decide +kernel
theorem dX6_isTurned_51 : decode cX6_isTurned 51 = .ok (.iaload, 1) := by decide +kernel
theorem dX6_isTurned_52 : decode cX6_isTurned 52 = .ok (.aload_n 0, 1) := by decide +kernel
theorem dX6_isTurned_53 : decode cX6_isTurned 53 = .ok (.getfield 45, 3) := by decide +kernel
theorem dX6_isTurned_56 : decode cX6_isTurned 56 = .ok (.iload 5, 2) := by decide +kernel
theorem dX6_isTurned_58 : decode cX6_isTurned 58 = .ok (.iaload, 1) := by decide +kernel
theorem dX6_isTurned_59 : decode cX6_isTurned 59 = .ok (.if_icmp .le 5, 3) := by decide +kernel
theorem dX6_isTurned_62 : decode cX6_isTurned 62 = .ok (.iconst 1, 1) := by decide +kernel
theorem dX6_isTurned_63 : decode cX6_isTurned 63 = .ok (.ireturn, 1) := by decide +kernel
theorem dX6_isTurned_64 : decode cX6_isTurned 64 = .ok (.iinc 5 1, 3) := by decide +kernel
theorem dX6_isTurned_67 : decode cX6_isTurned 67 = .ok (.goto (-39), 3) := by decide +kernel
theorem dX6_isTurned_70 : decode cX6_isTurned 70 = .ok (.iinc 4 1, 3) := by decide +kernel
theorem dX6_isTurned_73 : decode cX6_isTurned 73 = .ok (.goto (-57), 3) := by decide +kernel
theorem dX6_isTurned_76 : decode cX6_isTurned 76 = .ok (.iconst 0, 1) := by decide +kernel
theorem dX6_isTurned_77 : decode cX6_isTurned 77 = .ok (.ireturn, 1) := by decide +kernel
abbrev z_X6_isTurned_9 : Z9 := (some .boolean, 1, 0, 0, 1, 0)
def b_X6_isTurned_9_c28 (k_X6_isTurned_9_c16 : Int → Int → D9 → Option R9) (k_X6_isTurned_9_c28 : Int → Int → Int → D9 → Option R9) (v3 v4 v5 : Int) (d : D9) : Option R9 := if w32 v3 ≤ w32 v5 then k_X6_isTurned_9_c16 v3 (v4 + 1) d else ld d 21 120 v5 (fun t1 => if w32 t1 = w32 (-1) then k_X6_isTurned_9_c28 v3 v4 (v5 + 1) d else ld d 20 120 v4 (fun t2 => ld d 21 120 v5 (fun t3 => if w32 t2 ≤ w32 t3 then k_X6_isTurned_9_c28 v3 v4 (v5 + 1) d else rt (1 % 2) d)))
def m_X6_isTurned_9_c28 (k_X6_isTurned_9_c16 : Int → Int → D9 → Option R9) : Int → Int → Int → D9 → Option R9 := fix9 (fun _ _ _ _ => none) (fun k => b_X6_isTurned_9_c28 k_X6_isTurned_9_c16 k) FU
def b_X6_isTurned_9_c16 (k_X6_isTurned_9_c16 : Int → Int → D9 → Option R9) (v3 v4 : Int) (d : D9) : Option R9 := if w32 v3 ≤ w32 v4 then rt (0 % 2) d else lt9v (v4 + 1) (fun a1 => m_X6_isTurned_9_c28 k_X6_isTurned_9_c16 v3 v4 a1 d)
def m_X6_isTurned_9_c16 : Int → Int → D9 → Option R9 := fix9 (fun _ _ _ => none) (fun k => b_X6_isTurned_9_c16 k) FU
def m_X6_isTurned_9 (p1 : Int) (d : D9) : Option R9 := lt9v (p1 * 4) (fun a1 => ld d 14 30 p1 (fun t2 => lt9v (a1 + t2) (fun a3 => m_X6_isTurned_9_c16  a3 a1 d)))
set_option maxRecDepth 100000 in
theorem sb_X6_isTurned_9_c28 {G : G9} {X : X9} (C : CX G X cX6_isTurned 6 RX6 [] z_X6_isTurned_9) (k_X6_isTurned_9_c16 : Int → Int → D9 → Option R9) (hk_X6_isTurned_9_c16 : ∀ (v3 v4 : Int) (d : D9), SS G X 6 0 0 16 [(0, rf G 9), (3, i9 v3), (4, i9 v4)] [] d (k_X6_isTurned_9_c16 v3 v4 d)) (k_X6_isTurned_9_c28 : Int → Int → Int → D9 → Option R9) (hk_X6_isTurned_9_c28 : ∀ (v3 v4 v5 : Int) (d : D9), SS G X 6 0 0 28 [(0, rf G 9), (3, i9 v3), (4, i9 v4), (5, i9 v5)] [] d (k_X6_isTurned_9_c28 v3 v4 v5 d)) : ∀ (v3 v4 v5 : Int) (d : D9), SS G X 6 0 0 28 [(0, rf G 9), (3, i9 v3), (4, i9 v4), (5, i9 v5)] [] d (b_X6_isTurned_9_c28 k_X6_isTurned_9_c16 k_X6_isTurned_9_c28 v3 v4 v5 d) := by
  intro v3 v4 v5 d
  unfold b_X6_isTurned_9_c28
  refine r_iload C 3 dX6_isTurned_28 rfl ?_
  refine r_iload_n C 1 dX6_isTurned_30 rfl rfl ?_
  refine r_icmp_ge C 70 dX6_isTurned_31 (by decide) (fun _ => ?_) (fun _ => ?_)
  · refine r_iinc C 2 [(4, i9 (v4 + 1)), (0, rf G 9), (3, i9 v3), (5, i9 v5)] dX6_isTurned_70 rfl (by decide) rfl ?_
    refine r_goto C 16 dX6_isTurned_73 (by decide) ?_
    refine ss_wide (k' := 0) (n' := 0) (by decide) (by decide) ?_
    refine ss_ls [(0, rf G 9), (3, i9 v3), (4, i9 (v4 + 1))] [1, 2, 0] rfl ?_
    exact hk_X6_isTurned_9_c16 v3 (v4 + 1) d
  · refine r_aload_n C 0 dX6_isTurned_34 rfl rfl ?_
    refine r_getR C 21 dX6_isTurned_35 fl_X6_45 la_9 ly_9 rfl rfl ?_
    refine r_iload C 3 dX6_isTurned_38 rfl ?_
    refine r_iald C dX6_isTurned_40 la_21 ly_21 (fun t1 => ?_)
    refine r_iconst C dX6_isTurned_41 ?_
    refine r_icmp_eq C 64 dX6_isTurned_42 (by decide) (fun _ => ?_) (fun _ => ?_)
    · refine r_iinc C 3 [(5, i9 (v5 + 1)), (0, rf G 9), (3, i9 v3), (4, i9 v4)] dX6_isTurned_64 rfl (by decide) rfl ?_
      refine r_goto C 28 dX6_isTurned_67 (by decide) ?_
      refine ss_wide (k' := 0) (n' := 0) (by decide) (by decide) ?_
      refine ss_ls [(0, rf G 9), (3, i9 v3), (4, i9 v4), (5, i9 (v5 + 1))] [1, 2, 3, 0] rfl ?_
      exact hk_X6_isTurned_9_c28 v3 v4 (v5 + 1) d
    · refine r_aload_n C 0 dX6_isTurned_45 rfl rfl ?_
      refine r_getR C 20 dX6_isTurned_46 fl_X6_42 la_9 ly_9 rfl rfl ?_
      refine r_iload C 2 dX6_isTurned_49 rfl ?_
      refine r_iald C dX6_isTurned_51 la_20 ly_20 (fun t2 => ?_)
      refine r_aload_n C 0 dX6_isTurned_52 rfl rfl ?_
      refine r_getR C 21 dX6_isTurned_53 fl_X6_45 la_9 ly_9 rfl rfl ?_
      refine r_iload C 3 dX6_isTurned_56 rfl ?_
      refine r_iald C dX6_isTurned_58 la_21 ly_21 (fun t3 => ?_)
      refine r_icmp_le C 64 dX6_isTurned_59 (by decide) (fun _ => ?_) (fun _ => ?_)
      · refine r_iinc C 3 [(5, i9 (v5 + 1)), (0, rf G 9), (3, i9 v3), (4, i9 v4)] dX6_isTurned_64 rfl (by decide) rfl ?_
        refine r_goto C 28 dX6_isTurned_67 (by decide) ?_
        refine ss_wide (k' := 0) (n' := 0) (by decide) (by decide) ?_
        refine ss_ls [(0, rf G 9), (3, i9 v3), (4, i9 v4), (5, i9 (v5 + 1))] [1, 2, 3, 0] rfl ?_
        exact hk_X6_isTurned_9_c28 v3 v4 (v5 + 1) d
      · refine r_iconst C dX6_isTurned_62 ?_
        exact r_zret C dX6_isTurned_63 (by decide) (by decide)
theorem s_X6_isTurned_9_c28 {G : G9} {X : X9} (C : CX G X cX6_isTurned 6 RX6 [] z_X6_isTurned_9) (k_X6_isTurned_9_c16 : Int → Int → D9 → Option R9) (hk_X6_isTurned_9_c16 : ∀ (v3 v4 : Int) (d : D9), SS G X 6 0 0 16 [(0, rf G 9), (3, i9 v3), (4, i9 v4)] [] d (k_X6_isTurned_9_c16 v3 v4 d)) : ∀ (v3 v4 v5 : Int) (d : D9), SS G X 6 0 0 28 [(0, rf G 9), (3, i9 v3), (4, i9 v4), (5, i9 v5)] [] d (m_X6_isTurned_9_c28 k_X6_isTurned_9_c16 v3 v4 v5 d) :=
  fix9_ind (P := fun k => ∀ (v3 v4 v5 : Int) (d : D9), SS G X 6 0 0 28 [(0, rf G 9), (3, i9 v3), (4, i9 v4), (5, i9 v5)] [] d (k v3 v4 v5 d)) (fun _ _ _ _ => ss_none) (fun k hk => sb_X6_isTurned_9_c28 C k_X6_isTurned_9_c16 hk_X6_isTurned_9_c16 k hk) FU
set_option maxRecDepth 100000 in
theorem sb_X6_isTurned_9_c16 {G : G9} {X : X9} (C : CX G X cX6_isTurned 6 RX6 [] z_X6_isTurned_9) (k_X6_isTurned_9_c16 : Int → Int → D9 → Option R9) (hk_X6_isTurned_9_c16 : ∀ (v3 v4 : Int) (d : D9), SS G X 6 0 0 16 [(0, rf G 9), (3, i9 v3), (4, i9 v4)] [] d (k_X6_isTurned_9_c16 v3 v4 d)) : ∀ (v3 v4 : Int) (d : D9), SS G X 6 0 0 16 [(0, rf G 9), (3, i9 v3), (4, i9 v4)] [] d (b_X6_isTurned_9_c16 k_X6_isTurned_9_c16 v3 v4 d) := by
  intro v3 v4 d
  unfold b_X6_isTurned_9_c16
  refine r_iload C 2 dX6_isTurned_16 rfl ?_
  refine r_iload_n C 1 dX6_isTurned_18 rfl rfl ?_
  refine r_icmp_ge C 76 dX6_isTurned_19 (by decide) (fun _ => ?_) (fun _ => ?_)
  · refine r_iconst C dX6_isTurned_76 ?_
    exact r_zret C dX6_isTurned_77 (by decide) (by decide)
  · refine r_iload C 2 dX6_isTurned_22 rfl ?_
    refine r_iconst C dX6_isTurned_24 ?_
    refine r_iadd C dX6_isTurned_25 ?_
    refine ss_lt (fun a1 => ?_)
    refine r_istore C [(5, i9 a1), (0, rf G 9), (3, i9 v3), (4, i9 v4)] dX6_isTurned_26 (by decide) rfl ?_
    refine ss_wide (k' := 0) (n' := 0) (by decide) (by decide) ?_
    refine ss_ls [(0, rf G 9), (3, i9 v3), (4, i9 v4), (5, i9 a1)] [1, 2, 3, 0] rfl ?_
    exact s_X6_isTurned_9_c28 C k_X6_isTurned_9_c16 hk_X6_isTurned_9_c16 v3 v4 a1 d
theorem s_X6_isTurned_9_c16 {G : G9} {X : X9} (C : CX G X cX6_isTurned 6 RX6 [] z_X6_isTurned_9) : ∀ (v3 v4 : Int) (d : D9), SS G X 6 0 0 16 [(0, rf G 9), (3, i9 v3), (4, i9 v4)] [] d (m_X6_isTurned_9_c16  v3 v4 d) :=
  fix9_ind (P := fun k => ∀ (v3 v4 : Int) (d : D9), SS G X 6 0 0 16 [(0, rf G 9), (3, i9 v3), (4, i9 v4)] [] d (k v3 v4 d)) (fun _ _ _ => ss_none) (fun k hk => sb_X6_isTurned_9_c16 C k hk) FU
set_option maxRecDepth 100000 in
theorem t_X6_isTurned_9 {G : G9} {l : Launch} (h1 : va_D (A9 G) (wl G (fun _ _ => 0))) (h2 : l.stackTraces = false) (p1 : Int) (d : D9) : MT G l yX6_isTurned cX6_isTurned 6 z_X6_isTurned_9 [rf G 9, i9 p1] d (m_X6_isTurned_9 p1 d) := by
  refine mt_of (own := RX6) (by decide) rfl (Nat.le_of_ble_eq_true rfl) h1 h2 [(0, rf G 9), (1, i9 p1)] rfl (fun X hX C => ?_)
  unfold m_X6_isTurned_9
  refine r_iload_n C 1 dX6_isTurned_0 rfl rfl ?_
  refine r_iconst C dX6_isTurned_1 ?_
  refine r_imul C dX6_isTurned_2 ?_
  refine ss_lt (fun a1 => ?_)
  refine r_istore_n C [(2, i9 a1), (0, rf G 9), (1, i9 p1)] dX6_isTurned_3 rfl (by decide) rfl ?_
  refine r_iload_n C 0 dX6_isTurned_4 rfl rfl ?_
  refine r_aload_n C 1 dX6_isTurned_5 rfl rfl ?_
  refine r_getR C 14 dX6_isTurned_6 fl_X6_24 la_9 ly_9 rfl rfl ?_
  refine r_iload_n C 2 dX6_isTurned_9 rfl rfl ?_
  refine r_iald C dX6_isTurned_10 la_14 ly_14 (fun t2 => ?_)
  refine r_iadd C dX6_isTurned_11 ?_
  refine ss_lt (fun a3 => ?_)
  refine r_istore_n C [(3, i9 a3), (2, i9 a1), (0, rf G 9), (1, i9 p1)] dX6_isTurned_12 rfl (by decide) rfl ?_
  refine r_iload_n C 1 dX6_isTurned_13 rfl rfl ?_
  refine r_istore C [(4, i9 a1), (3, i9 a3), (2, i9 a1), (0, rf G 9), (1, i9 p1)] dX6_isTurned_14 (by decide) rfl ?_
  refine ss_wide (k' := 0) (n' := 0) (by decide) (by decide) ?_
  refine ss_ls [(0, rf G 9), (3, i9 a3), (4, i9 a1)] [3, 1, 0] rfl ?_
  exact s_X6_isTurned_9_c16 C  a3 a1 d

/-! the copies of a wall -/
theorem PCW.f2 {d s : D9} {a b K : Nat} (h : PCW d s a b K) (hK : 1 ≤ K ∧ K + 1 ≤ 37) (hdj : a + 37 < b + 2 ∨ b + 37 < a + 2) {x y : Nat} (hx : x = K + 1 + a) (hy : y = K + 1 + b) (hn : siz (K + 1) = 2) : PCW d (up (up s y 0 (s x 0)) y 1 ((up s y 0 (s x 0)) x 1)) a b (K + 1) := by
  subst hx hy
  refine h.st hK hdj (fun k' e => by rw [up_o e, up_o e]) (fun j e => ?_)
  rw [hn] at e
  obtain rfl | rfl : j = 0 ∨ j = 1 := by omega
  · rw [up_us, us_ne (by decide), up_us, us_eq rfl]
  · rw [up_us, us_eq rfl, up_o (by omega)]
theorem q_X3_62_0 {d s : D9} (h : PCW d s 0 62 1) : ∃ s', m_X3_copyFrom_64_2 s = rt 0 s' ∧ PCW d s' 0 62 8 := by
  unfold m_X3_copyFrom_64_2
  rw [pf_v, pf_v, m_X11_copyRow_3_65, cp_in (n := 30) (m := 30) rfl (by decide), cl_rt, m_X11_copyRow_4_66, cp_in (n := 30) (m := 30) rfl (by decide), cl_rt, m_X11_copyRow_5_67, cp_in (n := 30) (m := 30) rfl (by decide), cl_rt, m_X11_copyRow_6_68, cp_in (n := 150) (m := 150) rfl (by decide), cl_rt, m_X11_copyRow_7_69, cp_in (n := 30) (m := 30) rfl (by decide), cl_rt, m_X11_copyRow_8_70, cp_in (n := 30) (m := 30) rfl (by decide), cl_rt]
  exact ⟨_, rfl, (PCW.row (PCW.row (PCW.row (PCW.row (PCW.row (PCW.row (PCW.f2 h (by omega) (by omega) rfl rfl rfl) (by omega) (by omega) rfl rfl rfl) (by omega) (by omega) rfl rfl rfl) (by omega) (by omega) rfl rfl rfl) (by omega) (by omega) rfl rfl rfl) (by omega) (by omega) rfl rfl rfl) (by omega) (by omega) rfl rfl rfl)⟩
theorem q_X6_62_0 {d s : D9} (h : PCW d s 0 62 8) : ∃ s', m_X6_copyFrom_71_9 s = rt 0 s' ∧ PCW d s' 0 62 21 := by
  unfold m_X6_copyFrom_71_9
  rw [pf_v, m_X11_copyRow_10_72, cp_in (n := 30) (m := 30) rfl (by decide), cl_rt, m_X11_copyRow_11_73, cp_in (n := 30) (m := 30) rfl (by decide), cl_rt, m_X11_copyRow_12_74, cp_in (n := 30) (m := 30) rfl (by decide), cl_rt, m_X11_copyRow_13_75, cp_in (n := 30) (m := 30) rfl (by decide), cl_rt, m_X11_copyRow_14_76, cp_in (n := 30) (m := 30) rfl (by decide), cl_rt, m_X11_copyRow_15_77, cp_in (n := 30) (m := 30) rfl (by decide), cl_rt, m_X11_copyRow_16_78, cp_in (n := 30) (m := 30) rfl (by decide), cl_rt, m_X11_copyRow_17_79, cp_in (n := 120) (m := 120) rfl (by decide), cl_rt, m_X11_copyRow_18_80, cp_in (n := 120) (m := 120) rfl (by decide), cl_rt, m_X11_copyRow_19_81, cp_in (n := 120) (m := 120) rfl (by decide), cl_rt, m_X11_copyRow_20_82, cp_in (n := 120) (m := 120) rfl (by decide), cl_rt, m_X11_copyRow_21_83, cp_in (n := 120) (m := 120) rfl (by decide), cl_rt]
  exact ⟨_, rfl, (PCW.row (PCW.row (PCW.row (PCW.row (PCW.row (PCW.row (PCW.row (PCW.row (PCW.row (PCW.row (PCW.row (PCW.row (PCW.f1 h (by omega) (by omega) rfl rfl rfl) (by omega) (by omega) rfl rfl rfl) (by omega) (by omega) rfl rfl rfl) (by omega) (by omega) rfl rfl rfl) (by omega) (by omega) rfl rfl rfl) (by omega) (by omega) rfl rfl rfl) (by omega) (by omega) rfl rfl rfl) (by omega) (by omega) rfl rfl rfl) (by omega) (by omega) rfl rfl rfl) (by omega) (by omega) rfl rfl rfl) (by omega) (by omega) rfl rfl rfl) (by omega) (by omega) rfl rfl rfl) (by omega) (by omega) rfl rfl rfl)⟩
theorem q_X7_62_0 {d s : D9} (h : PCW d s 0 62 22) : ∃ s', m_X7_copyFrom_85_23 s = rt 0 s' ∧ PCW d s' 0 62 27 := by
  unfold m_X7_copyFrom_85_23
  rw [pf_v, m_X11_copyRow_24_86, cp_in (n := 12) (m := 12) rfl (by decide), cl_rt, m_X11_copyRow_25_87, cp_in (n := 12) (m := 12) rfl (by decide), cl_rt, m_X11_copyRow_26_88, cp_in (n := 12) (m := 12) rfl (by decide), cl_rt, m_X11_copyRow_27_89, cp_in (n := 12) (m := 12) rfl (by decide), cl_rt]
  exact ⟨_, rfl, (PCW.row (PCW.row (PCW.row (PCW.row (PCW.f1 h (by omega) (by omega) rfl rfl rfl) (by omega) (by omega) rfl rfl rfl) (by omega) (by omega) rfl rfl rfl) (by omega) (by omega) rfl rfl rfl) (by omega) (by omega) rfl rfl rfl)⟩
theorem q_X4_62_0 {d s : D9} (h : PCW d s 0 62 27) : ∃ s', m_X4_copyFrom_90_28 s = rt 0 s' ∧ PCW d s' 0 62 32 := by
  unfold m_X4_copyFrom_90_28
  rw [pf_v, pf_v, m_X11_copyRow_29_91, cp_in (n := 12) (m := 12) rfl (by decide), cl_rt, m_X11_copyRow_30_92, cp_in (n := 12) (m := 12) rfl (by decide), cl_rt, m_X11_copyRow_31_93, cp_in (n := 12) (m := 12) rfl (by decide), cl_rt, m_X11_copyRow_32_94, cp_in (n := 400) (m := 400) rfl (by decide), cl_rt]
  exact ⟨_, rfl, (PCW.row (PCW.row (PCW.row (PCW.row (PCW.f2 h (by omega) (by omega) rfl rfl rfl) (by omega) (by omega) rfl rfl rfl) (by omega) (by omega) rfl rfl rfl) (by omega) (by omega) rfl rfl rfl) (by omega) (by omega) rfl rfl rfl)⟩
theorem q_X1_62_0 {d s : D9} (h : PCW d s 0 62 32) : ∃ s', m_X1_copyFrom_95_33 s = rt 0 s' ∧ PCW d s' 0 62 37 := by
  unfold m_X1_copyFrom_95_33
  rw [pf_v, m_X11_copyRow_34_96, cp_in (n := 40) (m := 40) rfl (by decide), cl_rt, m_X11_copyRow_35_97, cp_in (n := 200) (m := 200) rfl (by decide), cl_rt, m_X11_copyRow_36_98, cp_in (n := 5) (m := 5) rfl (by decide), cl_rt, m_X11_copyRow_37_99, cp_in (n := 5) (m := 5) rfl (by decide), cl_rt]
  exact ⟨_, rfl, (PCW.row (PCW.row (PCW.row (PCW.row (PCW.f1 h (by omega) (by omega) rfl rfl rfl) (by omega) (by omega) rfl rfl rfl) (by omega) (by omega) rfl rfl rfl) (by omega) (by omega) rfl rfl rfl) (by omega) (by omega) rfl rfl rfl)⟩
theorem q_X2_62_0 {d s : D9} (h : PCW d s 0 62 21) : ∃ s', m_X2_copyFrom_84_22 s = rt 0 s' ∧ PCW d s' 0 62 22 := by
  unfold m_X2_copyFrom_84_22
  simp only [pf_v]
  refine ⟨_, rfl, h.st (by omega) (by omega) (fun k' e => ?_) (fun j e => ?_)⟩
  · simp (disch := omega) only [up_o]
  · have e' : j < 8 := e
    obtain rfl | rfl | rfl | rfl | rfl | rfl | rfl | rfl : j = 0 ∨ j = 1 ∨ j = 2 ∨ j = 3 ∨ j = 4 ∨ j = 5 ∨ j = 6 ∨ j = 7 := by omega
    all_goals simp (disch := omega) only [up_o, up_us, us_ne, us_eq, Nat.reduceAdd]
theorem q_X10_62_0 (d : D9) : ∃ s', m_X10_copyFrom_63_1 d = rt 0 s' ∧ PCW d s' 0 62 37 := by
  obtain ⟨s0, a0, b0⟩ := q_X3_62_0 (PCW.z d 0 62)
  obtain ⟨s1, a1, b1⟩ := q_X6_62_0 b0
  obtain ⟨s2, a2, b2⟩ := q_X2_62_0 b1
  obtain ⟨s3, a3, b3⟩ := q_X7_62_0 b2
  obtain ⟨s4, a4, b4⟩ := q_X4_62_0 b3
  obtain ⟨s5, a5, b5⟩ := q_X1_62_0 b4
  exact ⟨s5, by rw [m_X10_copyFrom_63_1, a0, cl_rt, a1, cl_rt, a2, cl_rt, a3, cl_rt, a4, cl_rt, a5, cl_rt], b5⟩
theorem q_X3_99_0 {d s : D9} (h : PCW d s 0 99 1) : ∃ s', m_X3_copyFrom_101_2 s = rt 0 s' ∧ PCW d s' 0 99 8 := by
  unfold m_X3_copyFrom_101_2
  rw [pf_v, pf_v, m_X11_copyRow_3_102, cp_in (n := 30) (m := 30) rfl (by decide), cl_rt, m_X11_copyRow_4_103, cp_in (n := 30) (m := 30) rfl (by decide), cl_rt, m_X11_copyRow_5_104, cp_in (n := 30) (m := 30) rfl (by decide), cl_rt, m_X11_copyRow_6_105, cp_in (n := 150) (m := 150) rfl (by decide), cl_rt, m_X11_copyRow_7_106, cp_in (n := 30) (m := 30) rfl (by decide), cl_rt, m_X11_copyRow_8_107, cp_in (n := 30) (m := 30) rfl (by decide), cl_rt]
  exact ⟨_, rfl, (PCW.row (PCW.row (PCW.row (PCW.row (PCW.row (PCW.row (PCW.f2 h (by omega) (by omega) rfl rfl rfl) (by omega) (by omega) rfl rfl rfl) (by omega) (by omega) rfl rfl rfl) (by omega) (by omega) rfl rfl rfl) (by omega) (by omega) rfl rfl rfl) (by omega) (by omega) rfl rfl rfl) (by omega) (by omega) rfl rfl rfl)⟩
theorem q_X6_99_0 {d s : D9} (h : PCW d s 0 99 8) : ∃ s', m_X6_copyFrom_108_9 s = rt 0 s' ∧ PCW d s' 0 99 21 := by
  unfold m_X6_copyFrom_108_9
  rw [pf_v, m_X11_copyRow_10_109, cp_in (n := 30) (m := 30) rfl (by decide), cl_rt, m_X11_copyRow_11_110, cp_in (n := 30) (m := 30) rfl (by decide), cl_rt, m_X11_copyRow_12_111, cp_in (n := 30) (m := 30) rfl (by decide), cl_rt, m_X11_copyRow_13_112, cp_in (n := 30) (m := 30) rfl (by decide), cl_rt, m_X11_copyRow_14_113, cp_in (n := 30) (m := 30) rfl (by decide), cl_rt, m_X11_copyRow_15_114, cp_in (n := 30) (m := 30) rfl (by decide), cl_rt, m_X11_copyRow_16_115, cp_in (n := 30) (m := 30) rfl (by decide), cl_rt, m_X11_copyRow_17_116, cp_in (n := 120) (m := 120) rfl (by decide), cl_rt, m_X11_copyRow_18_117, cp_in (n := 120) (m := 120) rfl (by decide), cl_rt, m_X11_copyRow_19_118, cp_in (n := 120) (m := 120) rfl (by decide), cl_rt, m_X11_copyRow_20_119, cp_in (n := 120) (m := 120) rfl (by decide), cl_rt, m_X11_copyRow_21_120, cp_in (n := 120) (m := 120) rfl (by decide), cl_rt]
  exact ⟨_, rfl, (PCW.row (PCW.row (PCW.row (PCW.row (PCW.row (PCW.row (PCW.row (PCW.row (PCW.row (PCW.row (PCW.row (PCW.row (PCW.f1 h (by omega) (by omega) rfl rfl rfl) (by omega) (by omega) rfl rfl rfl) (by omega) (by omega) rfl rfl rfl) (by omega) (by omega) rfl rfl rfl) (by omega) (by omega) rfl rfl rfl) (by omega) (by omega) rfl rfl rfl) (by omega) (by omega) rfl rfl rfl) (by omega) (by omega) rfl rfl rfl) (by omega) (by omega) rfl rfl rfl) (by omega) (by omega) rfl rfl rfl) (by omega) (by omega) rfl rfl rfl) (by omega) (by omega) rfl rfl rfl) (by omega) (by omega) rfl rfl rfl)⟩
theorem q_X7_99_0 {d s : D9} (h : PCW d s 0 99 22) : ∃ s', m_X7_copyFrom_122_23 s = rt 0 s' ∧ PCW d s' 0 99 27 := by
  unfold m_X7_copyFrom_122_23
  rw [pf_v, m_X11_copyRow_24_123, cp_in (n := 12) (m := 12) rfl (by decide), cl_rt, m_X11_copyRow_25_124, cp_in (n := 12) (m := 12) rfl (by decide), cl_rt, m_X11_copyRow_26_125, cp_in (n := 12) (m := 12) rfl (by decide), cl_rt, m_X11_copyRow_27_126, cp_in (n := 12) (m := 12) rfl (by decide), cl_rt]
  exact ⟨_, rfl, (PCW.row (PCW.row (PCW.row (PCW.row (PCW.f1 h (by omega) (by omega) rfl rfl rfl) (by omega) (by omega) rfl rfl rfl) (by omega) (by omega) rfl rfl rfl) (by omega) (by omega) rfl rfl rfl) (by omega) (by omega) rfl rfl rfl)⟩
theorem q_X4_99_0 {d s : D9} (h : PCW d s 0 99 27) : ∃ s', m_X4_copyFrom_127_28 s = rt 0 s' ∧ PCW d s' 0 99 32 := by
  unfold m_X4_copyFrom_127_28
  rw [pf_v, pf_v, m_X11_copyRow_29_128, cp_in (n := 12) (m := 12) rfl (by decide), cl_rt, m_X11_copyRow_30_129, cp_in (n := 12) (m := 12) rfl (by decide), cl_rt, m_X11_copyRow_31_130, cp_in (n := 12) (m := 12) rfl (by decide), cl_rt, m_X11_copyRow_32_131, cp_in (n := 400) (m := 400) rfl (by decide), cl_rt]
  exact ⟨_, rfl, (PCW.row (PCW.row (PCW.row (PCW.row (PCW.f2 h (by omega) (by omega) rfl rfl rfl) (by omega) (by omega) rfl rfl rfl) (by omega) (by omega) rfl rfl rfl) (by omega) (by omega) rfl rfl rfl) (by omega) (by omega) rfl rfl rfl)⟩
theorem q_X1_99_0 {d s : D9} (h : PCW d s 0 99 32) : ∃ s', m_X1_copyFrom_132_33 s = rt 0 s' ∧ PCW d s' 0 99 37 := by
  unfold m_X1_copyFrom_132_33
  rw [pf_v, m_X11_copyRow_34_133, cp_in (n := 40) (m := 40) rfl (by decide), cl_rt, m_X11_copyRow_35_134, cp_in (n := 200) (m := 200) rfl (by decide), cl_rt, m_X11_copyRow_36_135, cp_in (n := 5) (m := 5) rfl (by decide), cl_rt, m_X11_copyRow_37_136, cp_in (n := 5) (m := 5) rfl (by decide), cl_rt]
  exact ⟨_, rfl, (PCW.row (PCW.row (PCW.row (PCW.row (PCW.f1 h (by omega) (by omega) rfl rfl rfl) (by omega) (by omega) rfl rfl rfl) (by omega) (by omega) rfl rfl rfl) (by omega) (by omega) rfl rfl rfl) (by omega) (by omega) rfl rfl rfl)⟩
theorem q_X2_99_0 {d s : D9} (h : PCW d s 0 99 21) : ∃ s', m_X2_copyFrom_121_22 s = rt 0 s' ∧ PCW d s' 0 99 22 := by
  unfold m_X2_copyFrom_121_22
  simp only [pf_v]
  refine ⟨_, rfl, h.st (by omega) (by omega) (fun k' e => ?_) (fun j e => ?_)⟩
  · simp (disch := omega) only [up_o]
  · have e' : j < 8 := e
    obtain rfl | rfl | rfl | rfl | rfl | rfl | rfl | rfl : j = 0 ∨ j = 1 ∨ j = 2 ∨ j = 3 ∨ j = 4 ∨ j = 5 ∨ j = 6 ∨ j = 7 := by omega
    all_goals simp (disch := omega) only [up_o, up_us, us_ne, us_eq, Nat.reduceAdd]
theorem q_X10_99_0 (d : D9) : ∃ s', m_X10_copyFrom_100_1 d = rt 0 s' ∧ PCW d s' 0 99 37 := by
  obtain ⟨s0, a0, b0⟩ := q_X3_99_0 (PCW.z d 0 99)
  obtain ⟨s1, a1, b1⟩ := q_X6_99_0 b0
  obtain ⟨s2, a2, b2⟩ := q_X2_99_0 b1
  obtain ⟨s3, a3, b3⟩ := q_X7_99_0 b2
  obtain ⟨s4, a4, b4⟩ := q_X4_99_0 b3
  obtain ⟨s5, a5, b5⟩ := q_X1_99_0 b4
  exact ⟨s5, by rw [m_X10_copyFrom_100_1, a0, cl_rt, a1, cl_rt, a2, cl_rt, a3, cl_rt, a4, cl_rt, a5, cl_rt], b5⟩
theorem q_X3_136_0 {d s : D9} (h : PCW d s 0 136 1) : ∃ s', m_X3_copyFrom_138_2 s = rt 0 s' ∧ PCW d s' 0 136 8 := by
  unfold m_X3_copyFrom_138_2
  rw [pf_v, pf_v, m_X11_copyRow_3_139, cp_in (n := 30) (m := 30) rfl (by decide), cl_rt, m_X11_copyRow_4_140, cp_in (n := 30) (m := 30) rfl (by decide), cl_rt, m_X11_copyRow_5_141, cp_in (n := 30) (m := 30) rfl (by decide), cl_rt, m_X11_copyRow_6_142, cp_in (n := 150) (m := 150) rfl (by decide), cl_rt, m_X11_copyRow_7_143, cp_in (n := 30) (m := 30) rfl (by decide), cl_rt, m_X11_copyRow_8_144, cp_in (n := 30) (m := 30) rfl (by decide), cl_rt]
  exact ⟨_, rfl, (PCW.row (PCW.row (PCW.row (PCW.row (PCW.row (PCW.row (PCW.f2 h (by omega) (by omega) rfl rfl rfl) (by omega) (by omega) rfl rfl rfl) (by omega) (by omega) rfl rfl rfl) (by omega) (by omega) rfl rfl rfl) (by omega) (by omega) rfl rfl rfl) (by omega) (by omega) rfl rfl rfl) (by omega) (by omega) rfl rfl rfl)⟩
theorem q_X6_136_0 {d s : D9} (h : PCW d s 0 136 8) : ∃ s', m_X6_copyFrom_145_9 s = rt 0 s' ∧ PCW d s' 0 136 21 := by
  unfold m_X6_copyFrom_145_9
  rw [pf_v, m_X11_copyRow_10_146, cp_in (n := 30) (m := 30) rfl (by decide), cl_rt, m_X11_copyRow_11_147, cp_in (n := 30) (m := 30) rfl (by decide), cl_rt, m_X11_copyRow_12_148, cp_in (n := 30) (m := 30) rfl (by decide), cl_rt, m_X11_copyRow_13_149, cp_in (n := 30) (m := 30) rfl (by decide), cl_rt, m_X11_copyRow_14_150, cp_in (n := 30) (m := 30) rfl (by decide), cl_rt, m_X11_copyRow_15_151, cp_in (n := 30) (m := 30) rfl (by decide), cl_rt, m_X11_copyRow_16_152, cp_in (n := 30) (m := 30) rfl (by decide), cl_rt, m_X11_copyRow_17_153, cp_in (n := 120) (m := 120) rfl (by decide), cl_rt, m_X11_copyRow_18_154, cp_in (n := 120) (m := 120) rfl (by decide), cl_rt, m_X11_copyRow_19_155, cp_in (n := 120) (m := 120) rfl (by decide), cl_rt, m_X11_copyRow_20_156, cp_in (n := 120) (m := 120) rfl (by decide), cl_rt, m_X11_copyRow_21_157, cp_in (n := 120) (m := 120) rfl (by decide), cl_rt]
  exact ⟨_, rfl, (PCW.row (PCW.row (PCW.row (PCW.row (PCW.row (PCW.row (PCW.row (PCW.row (PCW.row (PCW.row (PCW.row (PCW.row (PCW.f1 h (by omega) (by omega) rfl rfl rfl) (by omega) (by omega) rfl rfl rfl) (by omega) (by omega) rfl rfl rfl) (by omega) (by omega) rfl rfl rfl) (by omega) (by omega) rfl rfl rfl) (by omega) (by omega) rfl rfl rfl) (by omega) (by omega) rfl rfl rfl) (by omega) (by omega) rfl rfl rfl) (by omega) (by omega) rfl rfl rfl) (by omega) (by omega) rfl rfl rfl) (by omega) (by omega) rfl rfl rfl) (by omega) (by omega) rfl rfl rfl) (by omega) (by omega) rfl rfl rfl)⟩
theorem q_X7_136_0 {d s : D9} (h : PCW d s 0 136 22) : ∃ s', m_X7_copyFrom_159_23 s = rt 0 s' ∧ PCW d s' 0 136 27 := by
  unfold m_X7_copyFrom_159_23
  rw [pf_v, m_X11_copyRow_24_160, cp_in (n := 12) (m := 12) rfl (by decide), cl_rt, m_X11_copyRow_25_161, cp_in (n := 12) (m := 12) rfl (by decide), cl_rt, m_X11_copyRow_26_162, cp_in (n := 12) (m := 12) rfl (by decide), cl_rt, m_X11_copyRow_27_163, cp_in (n := 12) (m := 12) rfl (by decide), cl_rt]
  exact ⟨_, rfl, (PCW.row (PCW.row (PCW.row (PCW.row (PCW.f1 h (by omega) (by omega) rfl rfl rfl) (by omega) (by omega) rfl rfl rfl) (by omega) (by omega) rfl rfl rfl) (by omega) (by omega) rfl rfl rfl) (by omega) (by omega) rfl rfl rfl)⟩
theorem q_X4_136_0 {d s : D9} (h : PCW d s 0 136 27) : ∃ s', m_X4_copyFrom_164_28 s = rt 0 s' ∧ PCW d s' 0 136 32 := by
  unfold m_X4_copyFrom_164_28
  rw [pf_v, pf_v, m_X11_copyRow_29_165, cp_in (n := 12) (m := 12) rfl (by decide), cl_rt, m_X11_copyRow_30_166, cp_in (n := 12) (m := 12) rfl (by decide), cl_rt, m_X11_copyRow_31_167, cp_in (n := 12) (m := 12) rfl (by decide), cl_rt, m_X11_copyRow_32_168, cp_in (n := 400) (m := 400) rfl (by decide), cl_rt]
  exact ⟨_, rfl, (PCW.row (PCW.row (PCW.row (PCW.row (PCW.f2 h (by omega) (by omega) rfl rfl rfl) (by omega) (by omega) rfl rfl rfl) (by omega) (by omega) rfl rfl rfl) (by omega) (by omega) rfl rfl rfl) (by omega) (by omega) rfl rfl rfl)⟩
theorem q_X1_136_0 {d s : D9} (h : PCW d s 0 136 32) : ∃ s', m_X1_copyFrom_169_33 s = rt 0 s' ∧ PCW d s' 0 136 37 := by
  unfold m_X1_copyFrom_169_33
  rw [pf_v, m_X11_copyRow_34_170, cp_in (n := 40) (m := 40) rfl (by decide), cl_rt, m_X11_copyRow_35_171, cp_in (n := 200) (m := 200) rfl (by decide), cl_rt, m_X11_copyRow_36_172, cp_in (n := 5) (m := 5) rfl (by decide), cl_rt, m_X11_copyRow_37_173, cp_in (n := 5) (m := 5) rfl (by decide), cl_rt]
  exact ⟨_, rfl, (PCW.row (PCW.row (PCW.row (PCW.row (PCW.f1 h (by omega) (by omega) rfl rfl rfl) (by omega) (by omega) rfl rfl rfl) (by omega) (by omega) rfl rfl rfl) (by omega) (by omega) rfl rfl rfl) (by omega) (by omega) rfl rfl rfl)⟩
theorem q_X2_136_0 {d s : D9} (h : PCW d s 0 136 21) : ∃ s', m_X2_copyFrom_158_22 s = rt 0 s' ∧ PCW d s' 0 136 22 := by
  unfold m_X2_copyFrom_158_22
  simp only [pf_v]
  refine ⟨_, rfl, h.st (by omega) (by omega) (fun k' e => ?_) (fun j e => ?_)⟩
  · simp (disch := omega) only [up_o]
  · have e' : j < 8 := e
    obtain rfl | rfl | rfl | rfl | rfl | rfl | rfl | rfl : j = 0 ∨ j = 1 ∨ j = 2 ∨ j = 3 ∨ j = 4 ∨ j = 5 ∨ j = 6 ∨ j = 7 := by omega
    all_goals simp (disch := omega) only [up_o, up_us, us_ne, us_eq, Nat.reduceAdd]
theorem q_X10_136_0 (d : D9) : ∃ s', m_X10_copyFrom_137_1 d = rt 0 s' ∧ PCW d s' 0 136 37 := by
  obtain ⟨s0, a0, b0⟩ := q_X3_136_0 (PCW.z d 0 136)
  obtain ⟨s1, a1, b1⟩ := q_X6_136_0 b0
  obtain ⟨s2, a2, b2⟩ := q_X2_136_0 b1
  obtain ⟨s3, a3, b3⟩ := q_X7_136_0 b2
  obtain ⟨s4, a4, b4⟩ := q_X4_136_0 b3
  obtain ⟨s5, a5, b5⟩ := q_X1_136_0 b4
  exact ⟨s5, by rw [m_X10_copyFrom_137_1, a0, cl_rt, a1, cl_rt, a2, cl_rt, a3, cl_rt, a4, cl_rt, a5, cl_rt], b5⟩
theorem q_X3_0_62 {d s : D9} (h : PCW d s 62 0 1) : ∃ s', m_X3_copyFrom_2_64 s = rt 0 s' ∧ PCW d s' 62 0 8 := by
  unfold m_X3_copyFrom_2_64
  rw [pf_v, pf_v, m_X11_copyRow_65_3, cp_in (n := 30) (m := 30) rfl (by decide), cl_rt, m_X11_copyRow_66_4, cp_in (n := 30) (m := 30) rfl (by decide), cl_rt, m_X11_copyRow_67_5, cp_in (n := 30) (m := 30) rfl (by decide), cl_rt, m_X11_copyRow_68_6, cp_in (n := 150) (m := 150) rfl (by decide), cl_rt, m_X11_copyRow_69_7, cp_in (n := 30) (m := 30) rfl (by decide), cl_rt, m_X11_copyRow_70_8, cp_in (n := 30) (m := 30) rfl (by decide), cl_rt]
  exact ⟨_, rfl, (PCW.row (PCW.row (PCW.row (PCW.row (PCW.row (PCW.row (PCW.f2 h (by omega) (by omega) rfl rfl rfl) (by omega) (by omega) rfl rfl rfl) (by omega) (by omega) rfl rfl rfl) (by omega) (by omega) rfl rfl rfl) (by omega) (by omega) rfl rfl rfl) (by omega) (by omega) rfl rfl rfl) (by omega) (by omega) rfl rfl rfl)⟩
theorem q_X6_0_62 {d s : D9} (h : PCW d s 62 0 8) : ∃ s', m_X6_copyFrom_9_71 s = rt 0 s' ∧ PCW d s' 62 0 21 := by
  unfold m_X6_copyFrom_9_71
  rw [pf_v, m_X11_copyRow_72_10, cp_in (n := 30) (m := 30) rfl (by decide), cl_rt, m_X11_copyRow_73_11, cp_in (n := 30) (m := 30) rfl (by decide), cl_rt, m_X11_copyRow_74_12, cp_in (n := 30) (m := 30) rfl (by decide), cl_rt, m_X11_copyRow_75_13, cp_in (n := 30) (m := 30) rfl (by decide), cl_rt, m_X11_copyRow_76_14, cp_in (n := 30) (m := 30) rfl (by decide), cl_rt, m_X11_copyRow_77_15, cp_in (n := 30) (m := 30) rfl (by decide), cl_rt, m_X11_copyRow_78_16, cp_in (n := 30) (m := 30) rfl (by decide), cl_rt, m_X11_copyRow_79_17, cp_in (n := 120) (m := 120) rfl (by decide), cl_rt, m_X11_copyRow_80_18, cp_in (n := 120) (m := 120) rfl (by decide), cl_rt, m_X11_copyRow_81_19, cp_in (n := 120) (m := 120) rfl (by decide), cl_rt, m_X11_copyRow_82_20, cp_in (n := 120) (m := 120) rfl (by decide), cl_rt, m_X11_copyRow_83_21, cp_in (n := 120) (m := 120) rfl (by decide), cl_rt]
  exact ⟨_, rfl, (PCW.row (PCW.row (PCW.row (PCW.row (PCW.row (PCW.row (PCW.row (PCW.row (PCW.row (PCW.row (PCW.row (PCW.row (PCW.f1 h (by omega) (by omega) rfl rfl rfl) (by omega) (by omega) rfl rfl rfl) (by omega) (by omega) rfl rfl rfl) (by omega) (by omega) rfl rfl rfl) (by omega) (by omega) rfl rfl rfl) (by omega) (by omega) rfl rfl rfl) (by omega) (by omega) rfl rfl rfl) (by omega) (by omega) rfl rfl rfl) (by omega) (by omega) rfl rfl rfl) (by omega) (by omega) rfl rfl rfl) (by omega) (by omega) rfl rfl rfl) (by omega) (by omega) rfl rfl rfl) (by omega) (by omega) rfl rfl rfl)⟩
theorem q_X7_0_62 {d s : D9} (h : PCW d s 62 0 22) : ∃ s', m_X7_copyFrom_23_85 s = rt 0 s' ∧ PCW d s' 62 0 27 := by
  unfold m_X7_copyFrom_23_85
  rw [pf_v, m_X11_copyRow_86_24, cp_in (n := 12) (m := 12) rfl (by decide), cl_rt, m_X11_copyRow_87_25, cp_in (n := 12) (m := 12) rfl (by decide), cl_rt, m_X11_copyRow_88_26, cp_in (n := 12) (m := 12) rfl (by decide), cl_rt, m_X11_copyRow_89_27, cp_in (n := 12) (m := 12) rfl (by decide), cl_rt]
  exact ⟨_, rfl, (PCW.row (PCW.row (PCW.row (PCW.row (PCW.f1 h (by omega) (by omega) rfl rfl rfl) (by omega) (by omega) rfl rfl rfl) (by omega) (by omega) rfl rfl rfl) (by omega) (by omega) rfl rfl rfl) (by omega) (by omega) rfl rfl rfl)⟩
theorem q_X4_0_62 {d s : D9} (h : PCW d s 62 0 27) : ∃ s', m_X4_copyFrom_28_90 s = rt 0 s' ∧ PCW d s' 62 0 32 := by
  unfold m_X4_copyFrom_28_90
  rw [pf_v, pf_v, m_X11_copyRow_91_29, cp_in (n := 12) (m := 12) rfl (by decide), cl_rt, m_X11_copyRow_92_30, cp_in (n := 12) (m := 12) rfl (by decide), cl_rt, m_X11_copyRow_93_31, cp_in (n := 12) (m := 12) rfl (by decide), cl_rt, m_X11_copyRow_94_32, cp_in (n := 400) (m := 400) rfl (by decide), cl_rt]
  exact ⟨_, rfl, (PCW.row (PCW.row (PCW.row (PCW.row (PCW.f2 h (by omega) (by omega) rfl rfl rfl) (by omega) (by omega) rfl rfl rfl) (by omega) (by omega) rfl rfl rfl) (by omega) (by omega) rfl rfl rfl) (by omega) (by omega) rfl rfl rfl)⟩
theorem q_X1_0_62 {d s : D9} (h : PCW d s 62 0 32) : ∃ s', m_X1_copyFrom_33_95 s = rt 0 s' ∧ PCW d s' 62 0 37 := by
  unfold m_X1_copyFrom_33_95
  rw [pf_v, m_X11_copyRow_96_34, cp_in (n := 40) (m := 40) rfl (by decide), cl_rt, m_X11_copyRow_97_35, cp_in (n := 200) (m := 200) rfl (by decide), cl_rt, m_X11_copyRow_98_36, cp_in (n := 5) (m := 5) rfl (by decide), cl_rt, m_X11_copyRow_99_37, cp_in (n := 5) (m := 5) rfl (by decide), cl_rt]
  exact ⟨_, rfl, (PCW.row (PCW.row (PCW.row (PCW.row (PCW.f1 h (by omega) (by omega) rfl rfl rfl) (by omega) (by omega) rfl rfl rfl) (by omega) (by omega) rfl rfl rfl) (by omega) (by omega) rfl rfl rfl) (by omega) (by omega) rfl rfl rfl)⟩
theorem q_X2_0_62 {d s : D9} (h : PCW d s 62 0 21) : ∃ s', m_X2_copyFrom_22_84 s = rt 0 s' ∧ PCW d s' 62 0 22 := by
  unfold m_X2_copyFrom_22_84
  simp only [pf_v]
  refine ⟨_, rfl, h.st (by omega) (by omega) (fun k' e => ?_) (fun j e => ?_)⟩
  · simp (disch := omega) only [up_o]
  · have e' : j < 8 := e
    obtain rfl | rfl | rfl | rfl | rfl | rfl | rfl | rfl : j = 0 ∨ j = 1 ∨ j = 2 ∨ j = 3 ∨ j = 4 ∨ j = 5 ∨ j = 6 ∨ j = 7 := by omega
    all_goals simp (disch := omega) only [up_o, up_us, us_ne, us_eq, Nat.reduceAdd]
theorem q_X10_0_62 (d : D9) : ∃ s', m_X10_copyFrom_1_63 d = rt 0 s' ∧ PCW d s' 62 0 37 := by
  obtain ⟨s0, a0, b0⟩ := q_X3_0_62 (PCW.z d 62 0)
  obtain ⟨s1, a1, b1⟩ := q_X6_0_62 b0
  obtain ⟨s2, a2, b2⟩ := q_X2_0_62 b1
  obtain ⟨s3, a3, b3⟩ := q_X7_0_62 b2
  obtain ⟨s4, a4, b4⟩ := q_X4_0_62 b3
  obtain ⟨s5, a5, b5⟩ := q_X1_0_62 b4
  exact ⟨s5, by rw [m_X10_copyFrom_1_63, a0, cl_rt, a1, cl_rt, a2, cl_rt, a3, cl_rt, a4, cl_rt, a5, cl_rt], b5⟩
theorem q_X3_0_99 {d s : D9} (h : PCW d s 99 0 1) : ∃ s', m_X3_copyFrom_2_101 s = rt 0 s' ∧ PCW d s' 99 0 8 := by
  unfold m_X3_copyFrom_2_101
  rw [pf_v, pf_v, m_X11_copyRow_102_3, cp_in (n := 30) (m := 30) rfl (by decide), cl_rt, m_X11_copyRow_103_4, cp_in (n := 30) (m := 30) rfl (by decide), cl_rt, m_X11_copyRow_104_5, cp_in (n := 30) (m := 30) rfl (by decide), cl_rt, m_X11_copyRow_105_6, cp_in (n := 150) (m := 150) rfl (by decide), cl_rt, m_X11_copyRow_106_7, cp_in (n := 30) (m := 30) rfl (by decide), cl_rt, m_X11_copyRow_107_8, cp_in (n := 30) (m := 30) rfl (by decide), cl_rt]
  exact ⟨_, rfl, (PCW.row (PCW.row (PCW.row (PCW.row (PCW.row (PCW.row (PCW.f2 h (by omega) (by omega) rfl rfl rfl) (by omega) (by omega) rfl rfl rfl) (by omega) (by omega) rfl rfl rfl) (by omega) (by omega) rfl rfl rfl) (by omega) (by omega) rfl rfl rfl) (by omega) (by omega) rfl rfl rfl) (by omega) (by omega) rfl rfl rfl)⟩
theorem q_X6_0_99 {d s : D9} (h : PCW d s 99 0 8) : ∃ s', m_X6_copyFrom_9_108 s = rt 0 s' ∧ PCW d s' 99 0 21 := by
  unfold m_X6_copyFrom_9_108
  rw [pf_v, m_X11_copyRow_109_10, cp_in (n := 30) (m := 30) rfl (by decide), cl_rt, m_X11_copyRow_110_11, cp_in (n := 30) (m := 30) rfl (by decide), cl_rt, m_X11_copyRow_111_12, cp_in (n := 30) (m := 30) rfl (by decide), cl_rt, m_X11_copyRow_112_13, cp_in (n := 30) (m := 30) rfl (by decide), cl_rt, m_X11_copyRow_113_14, cp_in (n := 30) (m := 30) rfl (by decide), cl_rt, m_X11_copyRow_114_15, cp_in (n := 30) (m := 30) rfl (by decide), cl_rt, m_X11_copyRow_115_16, cp_in (n := 30) (m := 30) rfl (by decide), cl_rt, m_X11_copyRow_116_17, cp_in (n := 120) (m := 120) rfl (by decide), cl_rt, m_X11_copyRow_117_18, cp_in (n := 120) (m := 120) rfl (by decide), cl_rt, m_X11_copyRow_118_19, cp_in (n := 120) (m := 120) rfl (by decide), cl_rt, m_X11_copyRow_119_20, cp_in (n := 120) (m := 120) rfl (by decide), cl_rt, m_X11_copyRow_120_21, cp_in (n := 120) (m := 120) rfl (by decide), cl_rt]
  exact ⟨_, rfl, (PCW.row (PCW.row (PCW.row (PCW.row (PCW.row (PCW.row (PCW.row (PCW.row (PCW.row (PCW.row (PCW.row (PCW.row (PCW.f1 h (by omega) (by omega) rfl rfl rfl) (by omega) (by omega) rfl rfl rfl) (by omega) (by omega) rfl rfl rfl) (by omega) (by omega) rfl rfl rfl) (by omega) (by omega) rfl rfl rfl) (by omega) (by omega) rfl rfl rfl) (by omega) (by omega) rfl rfl rfl) (by omega) (by omega) rfl rfl rfl) (by omega) (by omega) rfl rfl rfl) (by omega) (by omega) rfl rfl rfl) (by omega) (by omega) rfl rfl rfl) (by omega) (by omega) rfl rfl rfl) (by omega) (by omega) rfl rfl rfl)⟩
theorem q_X7_0_99 {d s : D9} (h : PCW d s 99 0 22) : ∃ s', m_X7_copyFrom_23_122 s = rt 0 s' ∧ PCW d s' 99 0 27 := by
  unfold m_X7_copyFrom_23_122
  rw [pf_v, m_X11_copyRow_123_24, cp_in (n := 12) (m := 12) rfl (by decide), cl_rt, m_X11_copyRow_124_25, cp_in (n := 12) (m := 12) rfl (by decide), cl_rt, m_X11_copyRow_125_26, cp_in (n := 12) (m := 12) rfl (by decide), cl_rt, m_X11_copyRow_126_27, cp_in (n := 12) (m := 12) rfl (by decide), cl_rt]
  exact ⟨_, rfl, (PCW.row (PCW.row (PCW.row (PCW.row (PCW.f1 h (by omega) (by omega) rfl rfl rfl) (by omega) (by omega) rfl rfl rfl) (by omega) (by omega) rfl rfl rfl) (by omega) (by omega) rfl rfl rfl) (by omega) (by omega) rfl rfl rfl)⟩
theorem q_X4_0_99 {d s : D9} (h : PCW d s 99 0 27) : ∃ s', m_X4_copyFrom_28_127 s = rt 0 s' ∧ PCW d s' 99 0 32 := by
  unfold m_X4_copyFrom_28_127
  rw [pf_v, pf_v, m_X11_copyRow_128_29, cp_in (n := 12) (m := 12) rfl (by decide), cl_rt, m_X11_copyRow_129_30, cp_in (n := 12) (m := 12) rfl (by decide), cl_rt, m_X11_copyRow_130_31, cp_in (n := 12) (m := 12) rfl (by decide), cl_rt, m_X11_copyRow_131_32, cp_in (n := 400) (m := 400) rfl (by decide), cl_rt]
  exact ⟨_, rfl, (PCW.row (PCW.row (PCW.row (PCW.row (PCW.f2 h (by omega) (by omega) rfl rfl rfl) (by omega) (by omega) rfl rfl rfl) (by omega) (by omega) rfl rfl rfl) (by omega) (by omega) rfl rfl rfl) (by omega) (by omega) rfl rfl rfl)⟩
theorem q_X1_0_99 {d s : D9} (h : PCW d s 99 0 32) : ∃ s', m_X1_copyFrom_33_132 s = rt 0 s' ∧ PCW d s' 99 0 37 := by
  unfold m_X1_copyFrom_33_132
  rw [pf_v, m_X11_copyRow_133_34, cp_in (n := 40) (m := 40) rfl (by decide), cl_rt, m_X11_copyRow_134_35, cp_in (n := 200) (m := 200) rfl (by decide), cl_rt, m_X11_copyRow_135_36, cp_in (n := 5) (m := 5) rfl (by decide), cl_rt, m_X11_copyRow_136_37, cp_in (n := 5) (m := 5) rfl (by decide), cl_rt]
  exact ⟨_, rfl, (PCW.row (PCW.row (PCW.row (PCW.row (PCW.f1 h (by omega) (by omega) rfl rfl rfl) (by omega) (by omega) rfl rfl rfl) (by omega) (by omega) rfl rfl rfl) (by omega) (by omega) rfl rfl rfl) (by omega) (by omega) rfl rfl rfl)⟩
theorem q_X2_0_99 {d s : D9} (h : PCW d s 99 0 21) : ∃ s', m_X2_copyFrom_22_121 s = rt 0 s' ∧ PCW d s' 99 0 22 := by
  unfold m_X2_copyFrom_22_121
  simp only [pf_v]
  refine ⟨_, rfl, h.st (by omega) (by omega) (fun k' e => ?_) (fun j e => ?_)⟩
  · simp (disch := omega) only [up_o]
  · have e' : j < 8 := e
    obtain rfl | rfl | rfl | rfl | rfl | rfl | rfl | rfl : j = 0 ∨ j = 1 ∨ j = 2 ∨ j = 3 ∨ j = 4 ∨ j = 5 ∨ j = 6 ∨ j = 7 := by omega
    all_goals simp (disch := omega) only [up_o, up_us, us_ne, us_eq, Nat.reduceAdd]
theorem q_X10_0_99 (d : D9) : ∃ s', m_X10_copyFrom_1_100 d = rt 0 s' ∧ PCW d s' 99 0 37 := by
  obtain ⟨s0, a0, b0⟩ := q_X3_0_99 (PCW.z d 99 0)
  obtain ⟨s1, a1, b1⟩ := q_X6_0_99 b0
  obtain ⟨s2, a2, b2⟩ := q_X2_0_99 b1
  obtain ⟨s3, a3, b3⟩ := q_X7_0_99 b2
  obtain ⟨s4, a4, b4⟩ := q_X4_0_99 b3
  obtain ⟨s5, a5, b5⟩ := q_X1_0_99 b4
  exact ⟨s5, by rw [m_X10_copyFrom_1_100, a0, cl_rt, a1, cl_rt, a2, cl_rt, a3, cl_rt, a4, cl_rt, a5, cl_rt], b5⟩
theorem q_X3_0_136 {d s : D9} (h : PCW d s 136 0 1) : ∃ s', m_X3_copyFrom_2_138 s = rt 0 s' ∧ PCW d s' 136 0 8 := by
  unfold m_X3_copyFrom_2_138
  rw [pf_v, pf_v, m_X11_copyRow_139_3, cp_in (n := 30) (m := 30) rfl (by decide), cl_rt, m_X11_copyRow_140_4, cp_in (n := 30) (m := 30) rfl (by decide), cl_rt, m_X11_copyRow_141_5, cp_in (n := 30) (m := 30) rfl (by decide), cl_rt, m_X11_copyRow_142_6, cp_in (n := 150) (m := 150) rfl (by decide), cl_rt, m_X11_copyRow_143_7, cp_in (n := 30) (m := 30) rfl (by decide), cl_rt, m_X11_copyRow_144_8, cp_in (n := 30) (m := 30) rfl (by decide), cl_rt]
  exact ⟨_, rfl, (PCW.row (PCW.row (PCW.row (PCW.row (PCW.row (PCW.row (PCW.f2 h (by omega) (by omega) rfl rfl rfl) (by omega) (by omega) rfl rfl rfl) (by omega) (by omega) rfl rfl rfl) (by omega) (by omega) rfl rfl rfl) (by omega) (by omega) rfl rfl rfl) (by omega) (by omega) rfl rfl rfl) (by omega) (by omega) rfl rfl rfl)⟩
theorem q_X6_0_136 {d s : D9} (h : PCW d s 136 0 8) : ∃ s', m_X6_copyFrom_9_145 s = rt 0 s' ∧ PCW d s' 136 0 21 := by
  unfold m_X6_copyFrom_9_145
  rw [pf_v, m_X11_copyRow_146_10, cp_in (n := 30) (m := 30) rfl (by decide), cl_rt, m_X11_copyRow_147_11, cp_in (n := 30) (m := 30) rfl (by decide), cl_rt, m_X11_copyRow_148_12, cp_in (n := 30) (m := 30) rfl (by decide), cl_rt, m_X11_copyRow_149_13, cp_in (n := 30) (m := 30) rfl (by decide), cl_rt, m_X11_copyRow_150_14, cp_in (n := 30) (m := 30) rfl (by decide), cl_rt, m_X11_copyRow_151_15, cp_in (n := 30) (m := 30) rfl (by decide), cl_rt, m_X11_copyRow_152_16, cp_in (n := 30) (m := 30) rfl (by decide), cl_rt, m_X11_copyRow_153_17, cp_in (n := 120) (m := 120) rfl (by decide), cl_rt, m_X11_copyRow_154_18, cp_in (n := 120) (m := 120) rfl (by decide), cl_rt, m_X11_copyRow_155_19, cp_in (n := 120) (m := 120) rfl (by decide), cl_rt, m_X11_copyRow_156_20, cp_in (n := 120) (m := 120) rfl (by decide), cl_rt, m_X11_copyRow_157_21, cp_in (n := 120) (m := 120) rfl (by decide), cl_rt]
  exact ⟨_, rfl, (PCW.row (PCW.row (PCW.row (PCW.row (PCW.row (PCW.row (PCW.row (PCW.row (PCW.row (PCW.row (PCW.row (PCW.row (PCW.f1 h (by omega) (by omega) rfl rfl rfl) (by omega) (by omega) rfl rfl rfl) (by omega) (by omega) rfl rfl rfl) (by omega) (by omega) rfl rfl rfl) (by omega) (by omega) rfl rfl rfl) (by omega) (by omega) rfl rfl rfl) (by omega) (by omega) rfl rfl rfl) (by omega) (by omega) rfl rfl rfl) (by omega) (by omega) rfl rfl rfl) (by omega) (by omega) rfl rfl rfl) (by omega) (by omega) rfl rfl rfl) (by omega) (by omega) rfl rfl rfl) (by omega) (by omega) rfl rfl rfl)⟩
theorem q_X7_0_136 {d s : D9} (h : PCW d s 136 0 22) : ∃ s', m_X7_copyFrom_23_159 s = rt 0 s' ∧ PCW d s' 136 0 27 := by
  unfold m_X7_copyFrom_23_159
  rw [pf_v, m_X11_copyRow_160_24, cp_in (n := 12) (m := 12) rfl (by decide), cl_rt, m_X11_copyRow_161_25, cp_in (n := 12) (m := 12) rfl (by decide), cl_rt, m_X11_copyRow_162_26, cp_in (n := 12) (m := 12) rfl (by decide), cl_rt, m_X11_copyRow_163_27, cp_in (n := 12) (m := 12) rfl (by decide), cl_rt]
  exact ⟨_, rfl, (PCW.row (PCW.row (PCW.row (PCW.row (PCW.f1 h (by omega) (by omega) rfl rfl rfl) (by omega) (by omega) rfl rfl rfl) (by omega) (by omega) rfl rfl rfl) (by omega) (by omega) rfl rfl rfl) (by omega) (by omega) rfl rfl rfl)⟩
theorem q_X4_0_136 {d s : D9} (h : PCW d s 136 0 27) : ∃ s', m_X4_copyFrom_28_164 s = rt 0 s' ∧ PCW d s' 136 0 32 := by
  unfold m_X4_copyFrom_28_164
  rw [pf_v, pf_v, m_X11_copyRow_165_29, cp_in (n := 12) (m := 12) rfl (by decide), cl_rt, m_X11_copyRow_166_30, cp_in (n := 12) (m := 12) rfl (by decide), cl_rt, m_X11_copyRow_167_31, cp_in (n := 12) (m := 12) rfl (by decide), cl_rt, m_X11_copyRow_168_32, cp_in (n := 400) (m := 400) rfl (by decide), cl_rt]
  exact ⟨_, rfl, (PCW.row (PCW.row (PCW.row (PCW.row (PCW.f2 h (by omega) (by omega) rfl rfl rfl) (by omega) (by omega) rfl rfl rfl) (by omega) (by omega) rfl rfl rfl) (by omega) (by omega) rfl rfl rfl) (by omega) (by omega) rfl rfl rfl)⟩
theorem q_X1_0_136 {d s : D9} (h : PCW d s 136 0 32) : ∃ s', m_X1_copyFrom_33_169 s = rt 0 s' ∧ PCW d s' 136 0 37 := by
  unfold m_X1_copyFrom_33_169
  rw [pf_v, m_X11_copyRow_170_34, cp_in (n := 40) (m := 40) rfl (by decide), cl_rt, m_X11_copyRow_171_35, cp_in (n := 200) (m := 200) rfl (by decide), cl_rt, m_X11_copyRow_172_36, cp_in (n := 5) (m := 5) rfl (by decide), cl_rt, m_X11_copyRow_173_37, cp_in (n := 5) (m := 5) rfl (by decide), cl_rt]
  exact ⟨_, rfl, (PCW.row (PCW.row (PCW.row (PCW.row (PCW.f1 h (by omega) (by omega) rfl rfl rfl) (by omega) (by omega) rfl rfl rfl) (by omega) (by omega) rfl rfl rfl) (by omega) (by omega) rfl rfl rfl) (by omega) (by omega) rfl rfl rfl)⟩
theorem q_X2_0_136 {d s : D9} (h : PCW d s 136 0 21) : ∃ s', m_X2_copyFrom_22_158 s = rt 0 s' ∧ PCW d s' 136 0 22 := by
  unfold m_X2_copyFrom_22_158
  simp only [pf_v]
  refine ⟨_, rfl, h.st (by omega) (by omega) (fun k' e => ?_) (fun j e => ?_)⟩
  · simp (disch := omega) only [up_o]
  · have e' : j < 8 := e
    obtain rfl | rfl | rfl | rfl | rfl | rfl | rfl | rfl : j = 0 ∨ j = 1 ∨ j = 2 ∨ j = 3 ∨ j = 4 ∨ j = 5 ∨ j = 6 ∨ j = 7 := by omega
    all_goals simp (disch := omega) only [up_o, up_us, us_ne, us_eq, Nat.reduceAdd]
theorem q_X10_0_136 (d : D9) : ∃ s', m_X10_copyFrom_1_137 d = rt 0 s' ∧ PCW d s' 136 0 37 := by
  obtain ⟨s0, a0, b0⟩ := q_X3_0_136 (PCW.z d 136 0)
  obtain ⟨s1, a1, b1⟩ := q_X6_0_136 b0
  obtain ⟨s2, a2, b2⟩ := q_X2_0_136 b1
  obtain ⟨s3, a3, b3⟩ := q_X7_0_136 b2
  obtain ⟨s4, a4, b4⟩ := q_X4_0_136 b3
  obtain ⟨s5, a5, b5⟩ := q_X1_0_136 b4
  exact ⟨s5, by rw [m_X10_copyFrom_1_137, a0, cl_rt, a1, cl_rt, a2, cl_rt, a3, cl_rt, a4, cl_rt, a5, cl_rt], b5⟩

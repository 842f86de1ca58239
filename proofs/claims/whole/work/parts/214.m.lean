theorem dX12_lawLine_0 : decode cX12_lawLine 0 = .ok (.aload_n 0, 1) := by decide +kernel
theorem dX12_lawLine_1 : decode cX12_lawLine 1 = .ok (.ldc 190, 2) := by decide +kernel
theorem dX12_lawLine_3 : decode cX12_lawLine 3 = .ok (.invokevirtual 183, 3) := by decide +kernel
theorem dX12_lawLine_6 : decode cX12_lawLine 6 = .ok (.ifCond .eq 8, 3) := by decide +kernel
theorem dX12_lawLine_9 : decode cX12_lawLine 9 = .ok (.bipush 6, 2) := by decide +kernel
theorem dX12_lawLine_11 : decode cX12_lawLine 11 = .ok (.goto 74, 3) := by decide +kernel
theorem dX12_lawLine_14 : decode cX12_lawLine 14 = .ok (.aload_n 0, 1) := by decide +kernel
theorem dX12_lawLine_15 : decode cX12_lawLine 15 = .ok (.ldc 192, 2) := by decide +kernel
theorem dX12_lawLine_17 : decode cX12_lawLine 17 = .ok (.invokevirtual 183, 3) := by decide +kernel
theorem dX12_lawLine_20 : decode cX12_lawLine 20 = .ok (.ifCond .eq 8, 3) := by decide +kernel
theorem dX12_lawLine_23 : decode cX12_lawLine 23 = .ok (.bipush 7, 2) := by decide +kernel
theorem dX12_lawLine_25 : decode cX12_lawLine 25 = .ok (.goto 60, 3) := by decide +kernel
theorem dX12_lawLine_28 : decode cX12_lawLine 28 = .ok (.aload_n 0, 1) := by decide +kernel
theorem dX12_lawLine_29 : decode cX12_lawLine 29 = .ok (.ldc 194, 2) := by decide +kernel
theorem dX12_lawLine_31 : decode cX12_lawLine 31 = .ok (.invokevirtual 183, 3) := by decide +kernel
theorem dX12_lawLine_34 : decode cX12_lawLine 34 = .ok (.ifCond .eq 8, 3) := by decide +kernel
theorem dX12_lawLine_37 : decode cX12_lawLine 37 = .ok (.bipush 9, 2) := by decide +kernel
theorem dX12_lawLine_39 : decode cX12_lawLine 39 = .ok (.goto 46, 3) := by decide +kernel
theorem dX12_lawLine_42 : decode cX12_lawLine 42 = .ok (.aload_n 0, 1) := by decide +kernel
theorem dX12_lawLine_43 : decode cX12_lawLine 43 = .ok (.ldc 196, 2) := by decide +kernel
theorem dX12_lawLine_45 : decode cX12_lawLine 45 = .ok (.invokevirtual 183, 3) := by decide +kernel
theorem dX12_lawLine_48 : decode cX12_lawLine 48 = .ok (.ifCond .eq 8, 3) := by decide +kernel
theorem dX12_lawLine_51 : decode cX12_lawLine 51 = .ok (.bipush 10, 2) := by decide +kernel
theorem dX12_lawLine_53 : decode cX12_lawLine 53 = .ok (.goto 32, 3) := by decide +kernel
theorem dX12_lawLine_56 : decode cX12_lawLine 56 = .ok (.aload_n 0, 1) := by decide +kernel
theorem dX12_lawLine_57 : decode cX12_lawLine 57 = .ok (.ldc 198, 2) := by decide +kernel
theorem dX12_lawLine_59 : decode cX12_lawLine 59 = .ok (.invokevirtual 183, 3) := by decide +kernel
theorem dX12_lawLine_62 : decode cX12_lawLine 62 = .ok (.ifCond .eq 8, 3) := by decide +kernel
theorem dX12_lawLine_65 : decode cX12_lawLine 65 = .ok (.bipush 11, 2) := by decide +kernel
theorem dX12_lawLine_67 : decode cX12_lawLine 67 = .ok (.goto 18, 3) := by decide +kernel
theorem dX12_lawLine_70 : decode cX12_lawLine 70 = .ok (.aload_n 0, 1) := by decide +kernel
theorem dX12_lawLine_71 : decode cX12_lawLine 71 = .ok (.ldc 200, 2) := by decide +kernel
theorem dX12_lawLine_73 : decode cX12_lawLine 73 = .ok (.invokevirtual 183, 3) := by decide +kernel
theorem dX12_lawLine_76 : decode cX12_lawLine 76 = .ok (.ifCond .eq 8, 3) := by decide +kernel
theorem dX12_lawLine_79 : decode cX12_lawLine 79 = .ok (.bipush 12, 2) := by decide +kernel
theorem dX12_lawLine_81 : decode cX12_lawLine 81 = .ok (.goto 4, 3) := by decide +kernel
theorem dX12_lawLine_84 : decode cX12_lawLine 84 = .ok (.iconst (-1), 1) := by decide +kernel
theorem dX12_lawLine_85 : decode cX12_lawLine 85 = .ok (.istore_n 2, 1) := by decide +kernel
theorem dX12_lawLine_86 : decode cX12_lawLine 86 = .ok (.iload_n 2, 1) := by decide +kernel
theorem dX12_lawLine_87 : decode cX12_lawLine 87 = .ok (.iconst (-1), 1) := by decide +kernel
theorem dX12_lawLine_88 : decode cX12_lawLine 88 = .ok (.if_icmp .ne 11, 3) := by decide +kernel
theorem dX12_lawLine_91 : decode cX12_lawLine 91 = .ok (.aload_n 0, 1) := by decide +kernel
theorem dX12_lawLine_92 : decode cX12_lawLine 92 = .ok (.iconst 2, 1) := by decide +kernel
theorem dX12_lawLine_93 : decode cX12_lawLine 93 = .ok (.invokevirtual 176, 3) := by decide +kernel
theorem dX12_lawLine_96 : decode cX12_lawLine 96 = .ok (.goto 14, 3) := by decide +kernel
theorem dX12_lawLine_99 : decode cX12_lawLine 99 = .ok (.iload_n 1, 1) := by decide +kernel
theorem dX12_lawLine_100 : decode cX12_lawLine 100 = .ok (.bipush 12, 2) := by decide +kernel
theorem dX12_lawLine_102 : decode cX12_lawLine 102 = .ok (.if_icmp .ne 8, 3) := by decide +kernel
theorem dX12_lawLine_105 : decode cX12_lawLine 105 = .ok (.aload_n 0, 1) := by decide +kernel
theorem dX12_lawLine_106 : decode cX12_lawLine 106 = .ok (.iconst 4, 1) := by decide +kernel
theorem dX12_lawLine_107 : decode cX12_lawLine 107 = .ok (.invokevirtual 176, 3) := by decide +kernel
theorem dX12_lawLine_110 : decode cX12_lawLine 110 = .ok (.aload_n 0, 1) := by decide +kernel
theorem dX12_lawLine_111 : decode cX12_lawLine 111 = .ok (.getfield 160, 3) := by decide +kernel
theorem dX12_lawLine_114 : decode cX12_lawLine 114 = .ok (.ifCond .eq 4, 3) := by decide +kernel
theorem dX12_lawLine_117 : decode cX12_lawLine 117 = .ok (.return_, 1) := by decide +kernel
theorem dX12_lawLine_118 : decode cX12_lawLine 118 = .ok (.aload_n 0, 1) := by decide +kernel
theorem dX12_lawLine_119 : decode cX12_lawLine 119 = .ok (.invokevirtual 180, 3) := by decide +kernel
theorem dX12_lawLine_122 : decode cX12_lawLine 122 = .ok (.aload_n 0, 1) := by decide +kernel
theorem dX12_lawLine_123 : decode cX12_lawLine 123 = .ok (.iload_n 2, 1) := by decide +kernel
theorem dX12_lawLine_124 : decode cX12_lawLine 124 = .ok (.bipush 6, 2) := by decide +kernel
theorem dX12_lawLine_126 : decode cX12_lawLine 126 = .ok (.if_icmp .eq 9, 3) := by decide +kernel
theorem dX12_lawLine_129 : decode cX12_lawLine 129 = .ok (.iload_n 2, 1) := by decide +kernel
theorem dX12_lawLine_130 : decode cX12_lawLine 130 = .ok (.bipush 11, 2) := by decide +kernel
theorem dX12_lawLine_132 : decode cX12_lawLine 132 = .ok (.if_icmp .ne 7, 3) := by decide +kernel
theorem dX12_lawLine_135 : decode cX12_lawLine 135 = .ok (.iconst 1, 1) := by decide +kernel
theorem dX12_lawLine_136 : decode cX12_lawLine 136 = .ok (.goto 4, 3) := by decide +kernel
theorem dX12_lawLine_139 : decode cX12_lawLine 139 = .ok (.iconst 0, 1) := by decide +kernel
theorem dX12_lawLine_140 : decode cX12_lawLine 140 = .ok (.iload_n 2, 1) := by decide +kernel
theorem dX12_lawLine_141 : decode cX12_lawLine 141 = .ok (.bipush 9, 2) := by decide +kernel
theorem dX12_lawLine_143 : decode cX12_lawLine 143 = .ok (.if_icmp .ne 9, 3) := by decide +kernel
theorem dX12_lawLine_146 : decode cX12_lawLine 146 = .ok (.sipush 999, 3) := by decide +kernel
theorem dX12_lawLine_149 : decode cX12_lawLine 149 = .ok (.goto 22, 3) := by decide +kernel
theorem dX12_lawLine_152 : decode cX12_lawLine 152 = .ok (.iload_n 2, 1) := by decide +kernel
theorem dX12_lawLine_153 : decode cX12_lawLine 153 = .ok (.bipush 10, 2) := by decide +kernel
theorem dX12_lawLine_155 : decode cX12_lawLine 155 = .ok (.if_icmp .eq 9, 3) := by decide +kernel
theorem dX12_lawLine_158 : decode cX12_lawLine 158 = .ok (.iload_n 2, 1) := by decide +kernel
theorem dX12_lawLine_159 : decode cX12_lawLine 159 = .ok (.bipush 12, 2) := by decide +kernel
theorem dX12_lawLine_161 : decode cX12_lawLine 161 = .ok (.if_icmp .ne 8, 3) := by decide +kernel
theorem dX12_lawLine_164 : decode cX12_lawLine 164 = .ok (.bipush 50, 2) := by decide +kernel
theorem dX12_lawLine_166 : decode cX12_lawLine 166 = .ok (.goto 5, 3) := by decide +kernel
theorem dX12_lawLine_169 : decode cX12_lawLine 169 = .ok (.bipush 99, 2) := by decide +kernel
theorem dX12_lawLine_171 : decode cX12_lawLine 171 = .ok (.invokevirtual 202, 3) := by decide +kernel
theorem dX12_lawLine_174 : decode cX12_lawLine 174 = .ok (.istore_n 3, 1) := by decide +kernel
theorem dX12_lawLine_175 : decode cX12_lawLine 175 = .ok (.aload_n 0, 1) := by decide +kernel
theorem dX12_lawLine_176 : decode cX12_lawLine 176 = .ok (.getfield 23, 3) := by decide +kernel
theorem dX12_lawLine_179 : decode cX12_lawLine 179 = .ok (.iload_n 2, 1) := by decide +kernel
theorem dX12_lawLine_180 : decode cX12_lawLine 180 = .ok (.bipush 6, 2) := by decide +kernel
theorem dX12_lawLine_182 : decode cX12_lawLine 182 = .ok (.isub, 1) := by decide +kernel
theorem dX12_lawLine_183 : decode cX12_lawLine 183 = .ok (.iload_n 3, 1) := by decide +kernel
theorem dX12_lawLine_184 : decode cX12_lawLine 184 = .ok (.iastore, 1) := by decide +kernel
theorem dX12_lawLine_185 : decode cX12_lawLine 185 = .ok (.iload_n 2, 1) := by decide +kernel
theorem dX12_lawLine_186 : decode cX12_lawLine 186 = .ok (.bipush 7, 2) := by decide +kernel
theorem dX12_lawLine_188 : decode cX12_lawLine 188 = .ok (.if_icmp .ne 22, 3) := by decide +kernel
theorem dX12_lawLine_191 : decode cX12_lawLine 191 = .ok (.aload_n 0, 1) := by decide +kernel
theorem dX12_lawLine_192 : decode cX12_lawLine 192 = .ok (.ldc 205, 2) := by decide +kernel
theorem dX12_lawLine_194 : decode cX12_lawLine 194 = .ok (.invokevirtual 207, 3) := by decide +kernel
theorem dX12_lawLine_197 : decode cX12_lawLine 197 = .ok (.aload_n 0, 1) := by decide +kernel
theorem dX12_lawLine_198 : decode cX12_lawLine 198 = .ok (.getfield 23, 3) := by decide +kernel
theorem dX12_lawLine_201 : decode cX12_lawLine 201 = .ok (.iconst 2, 1) := by decide +kernel
theorem dX12_lawLine_202 : decode cX12_lawLine 202 = .ok (.aload_n 0, 1) := by decide +kernel
theorem dX12_lawLine_203 : decode cX12_lawLine 203 = .ok (.iload_n 3, 1) := by decide +kernel
theorem dX12_lawLine_204 : decode cX12_lawLine 204 = .ok (.bipush 99, 2) := by decide +kernel
theorem dX12_lawLine_206 : decode cX12_lawLine 206 = .ok (.invokevirtual 202, 3) := by decide +kernel
theorem dX12_lawLine_209 : decode cX12_lawLine 209 = .ok (.iastore, 1) := by decide +kernel
theorem dX12_lawLine_210 : decode cX12_lawLine 210 = .ok (.aload_n 0, 1) := by decide +kernel
theorem dX12_lawLine_211 : decode cX12_lawLine 211 = .ok (.invokevirtual 211, 3) := by decide +kernel
theorem dX12_lawLine_214 : decode cX12_lawLine 214 = .ok (.return_, 1) := by decide +kernel
abbrev z_X12_lawLine_174 : Z9 := (none, 0, 0, 0, 10, 294)
def m_X12_lawLine_174_c210 (d : D9) : Option R9 := cl (m_X12_stop_174 d) (fun r1 d2 => rt 0 d2)
def m_X12_lawLine_174_c171 (v2 s0 s1 : Int) (d : D9) : Option R9 := cl (m_X12_number_174 s1 s0 d) (fun r1 d2 => sd d2 179 7 (v2 - 6) r1 (fun d3 => if w32 v2 ≠ w32 7 then m_X12_lawLine_174_c210   d3 else cl (m_X12_word_174_s21 d3) (fun r4 d5 => cl (m_X12_number_174 r1 99 d5) (fun r6 d7 => sd d7 179 7 2 r6 (fun d8 => m_X12_lawLine_174_c210   d8)))))
def m_X12_lawLine_174_c140 (v2 s0 : Int) (d : D9) : Option R9 := if w32 v2 ≠ w32 9 then if w32 v2 = w32 10 then m_X12_lawLine_174_c171  v2 50 s0 d else if w32 v2 ≠ w32 12 then m_X12_lawLine_174_c171  v2 99 s0 d else m_X12_lawLine_174_c171  v2 50 s0 d else m_X12_lawLine_174_c171  v2 999 s0 d
def m_X12_lawLine_174_c110 (v2 : Int) (d : D9) : Option R9 := if w32 (d 174 13) = 0 then cl (m_X12_next_174 d) (fun r1 d2 => if w32 v2 = w32 6 then m_X12_lawLine_174_c140  v2 1 d2 else if w32 v2 ≠ w32 11 then m_X12_lawLine_174_c140  v2 0 d2 else m_X12_lawLine_174_c140  v2 1 d2) else rt 0 d
def m_X12_lawLine_174_c85 (v1 s0 : Int) (d : D9) : Option R9 := if w32 s0 ≠ w32 (-1) then if w32 v1 ≠ w32 12 then m_X12_lawLine_174_c110  s0 d else cl (m_X12_blames_174 4 d) (fun r1 d2 => m_X12_lawLine_174_c110  s0 d2) else cl (m_X12_blames_174 2 d) (fun r3 d4 => m_X12_lawLine_174_c110  s0 d4)
def m_X12_lawLine_174 (p1 : Int) (d : D9) : Option R9 := cl (m_X12_isWord_174_s15 d) (fun r1 d2 => if w32 r1 = 0 then cl (m_X12_isWord_174_s16 d2) (fun r3 d4 => if w32 r3 = 0 then cl (m_X12_isWord_174_s17 d4) (fun r5 d6 => if w32 r5 = 0 then cl (m_X12_isWord_174_s18 d6) (fun r7 d8 => if w32 r7 = 0 then cl (m_X12_isWord_174_s19 d8) (fun r9 d10 => if w32 r9 = 0 then cl (m_X12_isWord_174_s20 d10) (fun r11 d12 => if w32 r11 = 0 then m_X12_lawLine_174_c85  p1 (-1) d12 else m_X12_lawLine_174_c85  p1 12 d12) else m_X12_lawLine_174_c85  p1 11 d10) else m_X12_lawLine_174_c85  p1 10 d8) else m_X12_lawLine_174_c85  p1 9 d6) else m_X12_lawLine_174_c85  p1 7 d4) else m_X12_lawLine_174_c85  p1 6 d2)
set_option maxRecDepth 100000 in
theorem s_X12_lawLine_174_c210 {G : G9} {X : X9} (C : CX G X cX12_lawLine 4 RX12 [] z_X12_lawLine_174) : ∀ (d : D9), SS G X 4 0 0 210 [(0, rf G 174)] [] d (m_X12_lawLine_174_c210   d) := by
  intro  d
  unfold m_X12_lawLine_174_c210
  refine r_aload_n C 0 dX12_lawLine_210 rfl rfl ?_
  refine r_callV C [rf G 174] dX12_lawLine_211 (t_X12_stop_174 C.h1 C.h2 d) mw_X12_211 mv_X12_stop la_174 ly_174 rfl (by decide) (by decide) (by decide) rfl rfl (Nat.le_of_ble_eq_true rfl) (fun r1 d2 => ?_)
  show SS G X 4 _ _ 214 [(0, rf G 174)] [] d2 _
  exact r_vret C dX12_lawLine_214 (by decide) (by decide)
set_option maxRecDepth 100000 in
theorem s_X12_lawLine_174_c171 {G : G9} {X : X9} (C : CX G X cX12_lawLine 4 RX12 [] z_X12_lawLine_174) : ∀ (v2 s0 s1 : Int) (d : D9), SS G X 4 0 0 171 [(0, rf G 174), (2, i9 v2)] [i9 s0, i9 s1, rf G 174] d (m_X12_lawLine_174_c171  v2 s0 s1 d) := by
  intro v2 s0 s1 d
  unfold m_X12_lawLine_174_c171
  refine r_callV C [i9 s0, i9 s1, rf G 174] dX12_lawLine_171 (t_X12_number_174 C.h1 C.h2 s1 s0 d) mw_X12_202 mv_X12_number la_174 ly_174 rfl (by decide) (by decide) (by decide) rfl rfl (Nat.le_of_ble_eq_true rfl) (fun r1 d2 => ?_)
  show SS G X 4 _ _ 174 [(0, rf G 174), (2, i9 v2)] [i9 r1] d2 _
  refine r_istore_n C [(3, i9 r1), (0, rf G 174), (2, i9 v2)] dX12_lawLine_174 rfl (by decide) rfl ?_
  refine r_aload_n C 1 dX12_lawLine_175 rfl rfl ?_
  refine r_getR C 179 dX12_lawLine_176 fl_X12_23 la_174 ly_174 rfl rfl ?_
  refine r_iload_n C 2 dX12_lawLine_179 rfl rfl ?_
  refine r_bipush C dX12_lawLine_180 rfl ?_
  refine r_isub C dX12_lawLine_182 ?_
  refine r_iload_n C 0 dX12_lawLine_183 rfl rfl ?_
  refine r_iast C dX12_lawLine_184 la_179 ly_179 (fun d3 => ?_)
  refine r_iload_n C 2 dX12_lawLine_185 rfl rfl ?_
  refine r_bipush C dX12_lawLine_186 rfl ?_
  refine r_icmp_ne C 210 dX12_lawLine_188 (by decide) (fun _ => ?_) (fun _ => ?_)
  · refine ss_wide (k' := 0) (n' := 0) (by decide) (by decide) ?_
    refine ss_ls [(0, rf G 174)] [1] rfl ?_
    exact s_X12_lawLine_174_c210 C   d3
  · refine r_aload_n C 1 dX12_lawLine_191 rfl rfl ?_
    refine r_ldcS C 21 dX12_lawLine_192 rfl ?_
    refine r_callV C [sf G 21, rf G 174] dX12_lawLine_194 (t_X12_word_174_s21 C.h1 C.h2 d3) mw_X12_207 mv_X12_word la_174 ly_174 rfl (by decide) (by decide) (by decide) rfl rfl (Nat.le_of_ble_eq_true rfl) (fun r4 d5 => ?_)
    show SS G X 4 _ _ 197 [(3, i9 r1), (0, rf G 174), (2, i9 v2)] [] d5 _
    refine r_aload_n C 1 dX12_lawLine_197 rfl rfl ?_
    refine r_getR C 179 dX12_lawLine_198 fl_X12_23 la_174 ly_174 rfl rfl ?_
    refine r_iconst C dX12_lawLine_201 ?_
    refine r_aload_n C 1 dX12_lawLine_202 rfl rfl ?_
    refine r_iload_n C 0 dX12_lawLine_203 rfl rfl ?_
    refine r_bipush C dX12_lawLine_204 rfl ?_
    refine r_callV C [i9 99, i9 r1, rf G 174, i9 2, rf G 179] dX12_lawLine_206 (t_X12_number_174 C.h1 C.h2 r1 99 d5) mw_X12_202 mv_X12_number la_174 ly_174 rfl (by decide) (by decide) (by decide) rfl rfl (Nat.le_of_ble_eq_true rfl) (fun r6 d7 => ?_)
    show SS G X 4 _ _ 209 [(3, i9 r1), (0, rf G 174), (2, i9 v2)] [i9 r6, i9 2, rf G 179] d7 _
    refine r_iast C dX12_lawLine_209 la_179 ly_179 (fun d8 => ?_)
    refine ss_wide (k' := 0) (n' := 0) (by decide) (by decide) ?_
    refine ss_ls [(0, rf G 174)] [1] rfl ?_
    exact s_X12_lawLine_174_c210 C   d8
set_option maxRecDepth 100000 in
theorem s_X12_lawLine_174_c140 {G : G9} {X : X9} (C : CX G X cX12_lawLine 4 RX12 [] z_X12_lawLine_174) : ∀ (v2 s0 : Int) (d : D9), SS G X 4 0 0 140 [(0, rf G 174), (2, i9 v2)] [i9 s0, rf G 174] d (m_X12_lawLine_174_c140  v2 s0 d) := by
  intro v2 s0 d
  unfold m_X12_lawLine_174_c140
  refine r_iload_n C 1 dX12_lawLine_140 rfl rfl ?_
  refine r_bipush C dX12_lawLine_141 rfl ?_
  refine r_icmp_ne C 152 dX12_lawLine_143 (by decide) (fun _ => ?_) (fun _ => ?_)
  · refine r_iload_n C 1 dX12_lawLine_152 rfl rfl ?_
    refine r_bipush C dX12_lawLine_153 rfl ?_
    refine r_icmp_eq C 164 dX12_lawLine_155 (by decide) (fun _ => ?_) (fun _ => ?_)
    · refine r_bipush C dX12_lawLine_164 rfl ?_
      refine r_goto C 171 dX12_lawLine_166 (by decide) ?_
      refine ss_wide (k' := 0) (n' := 0) (by decide) (by decide) ?_
      refine ss_ls [(0, rf G 174), (2, i9 v2)] [0, 1] rfl ?_
      exact s_X12_lawLine_174_c171 C  v2 50 s0 d
    · refine r_iload_n C 1 dX12_lawLine_158 rfl rfl ?_
      refine r_bipush C dX12_lawLine_159 rfl ?_
      refine r_icmp_ne C 169 dX12_lawLine_161 (by decide) (fun _ => ?_) (fun _ => ?_)
      · refine r_bipush C dX12_lawLine_169 rfl ?_
        refine ss_wide (k' := 0) (n' := 0) (by decide) (by decide) ?_
        refine ss_ls [(0, rf G 174), (2, i9 v2)] [0, 1] rfl ?_
        exact s_X12_lawLine_174_c171 C  v2 99 s0 d
      · refine r_bipush C dX12_lawLine_164 rfl ?_
        refine r_goto C 171 dX12_lawLine_166 (by decide) ?_
        refine ss_wide (k' := 0) (n' := 0) (by decide) (by decide) ?_
        refine ss_ls [(0, rf G 174), (2, i9 v2)] [0, 1] rfl ?_
        exact s_X12_lawLine_174_c171 C  v2 50 s0 d
  · refine r_sipush C dX12_lawLine_146 rfl ?_
    refine r_goto C 171 dX12_lawLine_149 (by decide) ?_
    refine ss_wide (k' := 0) (n' := 0) (by decide) (by decide) ?_
    refine ss_ls [(0, rf G 174), (2, i9 v2)] [0, 1] rfl ?_
    exact s_X12_lawLine_174_c171 C  v2 999 s0 d
set_option maxRecDepth 100000 in
theorem s_X12_lawLine_174_c110 {G : G9} {X : X9} (C : CX G X cX12_lawLine 4 RX12 [] z_X12_lawLine_174) : ∀ (v2 : Int) (d : D9), SS G X 4 0 0 110 [(0, rf G 174), (2, i9 v2)] [] d (m_X12_lawLine_174_c110  v2 d) := by
  intro v2 d
  unfold m_X12_lawLine_174_c110
  refine r_aload_n C 0 dX12_lawLine_110 rfl rfl ?_
  refine r_getI C dX12_lawLine_111 fl_X12_160 la_174 ly_174 rfl ?_
  refine r_if_eq C (b := 0) 118 dX12_lawLine_114 (by decide) (fun _ => ?_) (fun _ => ?_)
  · refine r_aload_n C 0 dX12_lawLine_118 rfl rfl ?_
    refine r_callV C [rf G 174] dX12_lawLine_119 (t_X12_next_174 C.h1 C.h2 d) mw_X12_180 mv_X12_next la_174 ly_174 rfl (by decide) (by decide) (by decide) rfl rfl (Nat.le_of_ble_eq_true rfl) (fun r1 d2 => ?_)
    show SS G X 4 _ _ 122 [(0, rf G 174), (2, i9 v2)] [] d2 _
    refine r_aload_n C 0 dX12_lawLine_122 rfl rfl ?_
    refine r_iload_n C 1 dX12_lawLine_123 rfl rfl ?_
    refine r_bipush C dX12_lawLine_124 rfl ?_
    refine r_icmp_eq C 135 dX12_lawLine_126 (by decide) (fun _ => ?_) (fun _ => ?_)
    · refine r_iconst C dX12_lawLine_135 ?_
      refine r_goto C 140 dX12_lawLine_136 (by decide) ?_
      refine ss_wide (k' := 0) (n' := 0) (by decide) (by decide) ?_
      refine ss_ls [(0, rf G 174), (2, i9 v2)] [0, 1] rfl ?_
      exact s_X12_lawLine_174_c140 C  v2 1 d2
    · refine r_iload_n C 1 dX12_lawLine_129 rfl rfl ?_
      refine r_bipush C dX12_lawLine_130 rfl ?_
      refine r_icmp_ne C 139 dX12_lawLine_132 (by decide) (fun _ => ?_) (fun _ => ?_)
      · refine r_iconst C dX12_lawLine_139 ?_
        refine ss_wide (k' := 0) (n' := 0) (by decide) (by decide) ?_
        refine ss_ls [(0, rf G 174), (2, i9 v2)] [0, 1] rfl ?_
        exact s_X12_lawLine_174_c140 C  v2 0 d2
      · refine r_iconst C dX12_lawLine_135 ?_
        refine r_goto C 140 dX12_lawLine_136 (by decide) ?_
        refine ss_wide (k' := 0) (n' := 0) (by decide) (by decide) ?_
        refine ss_ls [(0, rf G 174), (2, i9 v2)] [0, 1] rfl ?_
        exact s_X12_lawLine_174_c140 C  v2 1 d2
  · exact r_vret C dX12_lawLine_117 (by decide) (by decide)
set_option maxRecDepth 100000 in
theorem s_X12_lawLine_174_c85 {G : G9} {X : X9} (C : CX G X cX12_lawLine 4 RX12 [] z_X12_lawLine_174) : ∀ (v1 s0 : Int) (d : D9), SS G X 4 0 0 85 [(0, rf G 174), (1, i9 v1)] [i9 s0] d (m_X12_lawLine_174_c85  v1 s0 d) := by
  intro v1 s0 d
  unfold m_X12_lawLine_174_c85
  refine r_istore_n C [(2, i9 s0), (0, rf G 174), (1, i9 v1)] dX12_lawLine_85 rfl (by decide) rfl ?_
  refine r_iload_n C 0 dX12_lawLine_86 rfl rfl ?_
  refine r_iconst C dX12_lawLine_87 ?_
  refine r_icmp_ne C 99 dX12_lawLine_88 (by decide) (fun _ => ?_) (fun _ => ?_)
  · refine r_iload_n C 2 dX12_lawLine_99 rfl rfl ?_
    refine r_bipush C dX12_lawLine_100 rfl ?_
    refine r_icmp_ne C 110 dX12_lawLine_102 (by decide) (fun _ => ?_) (fun _ => ?_)
    · refine ss_wide (k' := 0) (n' := 0) (by decide) (by decide) ?_
      refine ss_ls [(0, rf G 174), (2, i9 s0)] [1, 0] rfl ?_
      exact s_X12_lawLine_174_c110 C  s0 d
    · refine r_aload_n C 1 dX12_lawLine_105 rfl rfl ?_
      refine r_iconst C dX12_lawLine_106 ?_
      refine r_callV C [i9 4, rf G 174] dX12_lawLine_107 (t_X12_blames_174 C.h1 C.h2 4 d) mw_X12_176 mv_X12_blames la_174 ly_174 rfl (by decide) (by decide) (by decide) rfl rfl (Nat.le_of_ble_eq_true rfl) (fun r1 d2 => ?_)
      show SS G X 4 _ _ 110 [(2, i9 s0), (0, rf G 174), (1, i9 v1)] [] d2 _
      refine ss_wide (k' := 0) (n' := 0) (by decide) (by decide) ?_
      refine ss_ls [(0, rf G 174), (2, i9 s0)] [1, 0] rfl ?_
      exact s_X12_lawLine_174_c110 C  s0 d2
  · refine r_aload_n C 1 dX12_lawLine_91 rfl rfl ?_
    refine r_iconst C dX12_lawLine_92 ?_
    refine r_callV C [i9 2, rf G 174] dX12_lawLine_93 (t_X12_blames_174 C.h1 C.h2 2 d) mw_X12_176 mv_X12_blames la_174 ly_174 rfl (by decide) (by decide) (by decide) rfl rfl (Nat.le_of_ble_eq_true rfl) (fun r3 d4 => ?_)
    show SS G X 4 _ _ 96 [(2, i9 s0), (0, rf G 174), (1, i9 v1)] [] d4 _
    refine r_goto C 110 dX12_lawLine_96 (by decide) ?_
    refine ss_wide (k' := 0) (n' := 0) (by decide) (by decide) ?_
    refine ss_ls [(0, rf G 174), (2, i9 s0)] [1, 0] rfl ?_
    exact s_X12_lawLine_174_c110 C  s0 d4
set_option maxRecDepth 100000 in
theorem t_X12_lawLine_174 {G : G9} {l : Launch} (h1 : va_D (A9 G) (wl G (fun _ _ => 0))) (h2 : l.stackTraces = false) (p1 : Int) (d : D9) : MT G l yX12_lawLine cX12_lawLine 4 z_X12_lawLine_174 [rf G 174, i9 p1] d (m_X12_lawLine_174 p1 d) := by
  refine mt_of (own := RX12) (by decide) rfl (Nat.le_of_ble_eq_true rfl) h1 h2 [(0, rf G 174), (1, i9 p1)] rfl (fun X hX C => ?_)
  unfold m_X12_lawLine_174
  refine r_aload_n C 0 dX12_lawLine_0 rfl rfl ?_
  refine r_ldcS C 15 dX12_lawLine_1 rfl ?_
  refine r_callV C [sf G 15, rf G 174] dX12_lawLine_3 (t_X12_isWord_174_s15 C.h1 C.h2 d) mw_X12_183 mv_X12_isWord la_174 ly_174 rfl (by decide) (by decide) (by decide) rfl rfl (Nat.le_of_ble_eq_true rfl) (fun r1 d2 => ?_)
  show SS G X 4 _ _ 6 [(0, rf G 174), (1, i9 p1)] [i9 r1] d2 _
  refine r_if_eq C (b := 0) 14 dX12_lawLine_6 (by decide) (fun _ => ?_) (fun _ => ?_)
  · refine r_aload_n C 0 dX12_lawLine_14 rfl rfl ?_
    refine r_ldcS C 16 dX12_lawLine_15 rfl ?_
    refine r_callV C [sf G 16, rf G 174] dX12_lawLine_17 (t_X12_isWord_174_s16 C.h1 C.h2 d2) mw_X12_183 mv_X12_isWord la_174 ly_174 rfl (by decide) (by decide) (by decide) rfl rfl (Nat.le_of_ble_eq_true rfl) (fun r3 d4 => ?_)
    show SS G X 4 _ _ 20 [(0, rf G 174), (1, i9 p1)] [i9 r3] d4 _
    refine r_if_eq C (b := 0) 28 dX12_lawLine_20 (by decide) (fun _ => ?_) (fun _ => ?_)
    · refine r_aload_n C 0 dX12_lawLine_28 rfl rfl ?_
      refine r_ldcS C 17 dX12_lawLine_29 rfl ?_
      refine r_callV C [sf G 17, rf G 174] dX12_lawLine_31 (t_X12_isWord_174_s17 C.h1 C.h2 d4) mw_X12_183 mv_X12_isWord la_174 ly_174 rfl (by decide) (by decide) (by decide) rfl rfl (Nat.le_of_ble_eq_true rfl) (fun r5 d6 => ?_)
      show SS G X 4 _ _ 34 [(0, rf G 174), (1, i9 p1)] [i9 r5] d6 _
      refine r_if_eq C (b := 0) 42 dX12_lawLine_34 (by decide) (fun _ => ?_) (fun _ => ?_)
      · refine r_aload_n C 0 dX12_lawLine_42 rfl rfl ?_
        refine r_ldcS C 18 dX12_lawLine_43 rfl ?_
        refine r_callV C [sf G 18, rf G 174] dX12_lawLine_45 (t_X12_isWord_174_s18 C.h1 C.h2 d6) mw_X12_183 mv_X12_isWord la_174 ly_174 rfl (by decide) (by decide) (by decide) rfl rfl (Nat.le_of_ble_eq_true rfl) (fun r7 d8 => ?_)
        show SS G X 4 _ _ 48 [(0, rf G 174), (1, i9 p1)] [i9 r7] d8 _
        refine r_if_eq C (b := 0) 56 dX12_lawLine_48 (by decide) (fun _ => ?_) (fun _ => ?_)
        · refine r_aload_n C 0 dX12_lawLine_56 rfl rfl ?_
          refine r_ldcS C 19 dX12_lawLine_57 rfl ?_
          refine r_callV C [sf G 19, rf G 174] dX12_lawLine_59 (t_X12_isWord_174_s19 C.h1 C.h2 d8) mw_X12_183 mv_X12_isWord la_174 ly_174 rfl (by decide) (by decide) (by decide) rfl rfl (Nat.le_of_ble_eq_true rfl) (fun r9 d10 => ?_)
          show SS G X 4 _ _ 62 [(0, rf G 174), (1, i9 p1)] [i9 r9] d10 _
          refine r_if_eq C (b := 0) 70 dX12_lawLine_62 (by decide) (fun _ => ?_) (fun _ => ?_)
          · refine r_aload_n C 0 dX12_lawLine_70 rfl rfl ?_
            refine r_ldcS C 20 dX12_lawLine_71 rfl ?_
            refine r_callV C [sf G 20, rf G 174] dX12_lawLine_73 (t_X12_isWord_174_s20 C.h1 C.h2 d10) mw_X12_183 mv_X12_isWord la_174 ly_174 rfl (by decide) (by decide) (by decide) rfl rfl (Nat.le_of_ble_eq_true rfl) (fun r11 d12 => ?_)
            show SS G X 4 _ _ 76 [(0, rf G 174), (1, i9 p1)] [i9 r11] d12 _
            refine r_if_eq C (b := 0) 84 dX12_lawLine_76 (by decide) (fun _ => ?_) (fun _ => ?_)
            · refine r_iconst C dX12_lawLine_84 ?_
              refine ss_wide (k' := 0) (n' := 0) (by decide) (by decide) ?_
              refine ss_ls [(0, rf G 174), (1, i9 p1)] [0, 1] rfl ?_
              exact s_X12_lawLine_174_c85 C  p1 (-1) d12
            · refine r_bipush C dX12_lawLine_79 rfl ?_
              refine r_goto C 85 dX12_lawLine_81 (by decide) ?_
              refine ss_wide (k' := 0) (n' := 0) (by decide) (by decide) ?_
              refine ss_ls [(0, rf G 174), (1, i9 p1)] [0, 1] rfl ?_
              exact s_X12_lawLine_174_c85 C  p1 12 d12
          · refine r_bipush C dX12_lawLine_65 rfl ?_
            refine r_goto C 85 dX12_lawLine_67 (by decide) ?_
            refine ss_wide (k' := 0) (n' := 0) (by decide) (by decide) ?_
            refine ss_ls [(0, rf G 174), (1, i9 p1)] [0, 1] rfl ?_
            exact s_X12_lawLine_174_c85 C  p1 11 d10
        · refine r_bipush C dX12_lawLine_51 rfl ?_
          refine r_goto C 85 dX12_lawLine_53 (by decide) ?_
          refine ss_wide (k' := 0) (n' := 0) (by decide) (by decide) ?_
          refine ss_ls [(0, rf G 174), (1, i9 p1)] [0, 1] rfl ?_
          exact s_X12_lawLine_174_c85 C  p1 10 d8
      · refine r_bipush C dX12_lawLine_37 rfl ?_
        refine r_goto C 85 dX12_lawLine_39 (by decide) ?_
        refine ss_wide (k' := 0) (n' := 0) (by decide) (by decide) ?_
        refine ss_ls [(0, rf G 174), (1, i9 p1)] [0, 1] rfl ?_
        exact s_X12_lawLine_174_c85 C  p1 9 d6
    · refine r_bipush C dX12_lawLine_23 rfl ?_
      refine r_goto C 85 dX12_lawLine_25 (by decide) ?_
      refine ss_wide (k' := 0) (n' := 0) (by decide) (by decide) ?_
      refine ss_ls [(0, rf G 174), (1, i9 p1)] [0, 1] rfl ?_
      exact s_X12_lawLine_174_c85 C  p1 7 d4
  · refine r_bipush C dX12_lawLine_9 rfl ?_
    refine r_goto C 85 dX12_lawLine_11 (by decide) ?_
    refine ss_wide (k' := 0) (n' := 0) (by decide) (by decide) ?_
    refine ss_ls [(0, rf G 174), (1, i9 p1)] [0, 1] rfl ?_
    exact s_X12_lawLine_174_c85 C  p1 6 d2
theorem dX12_law_0 : decode cX12_law 0 = .ok (.aload_n 0, 1) := by decide +kernel
theorem dX12_law_1 : decode cX12_law 1 = .ok (.iconst 0, 1) := by decide +kernel
theorem dX12_law_2 : decode cX12_law 2 = .ok (.putfield 76, 3) := by decide +kernel
theorem dX12_law_5 : decode cX12_law 5 = .ok (.iload_n 1, 1) := by decide +kernel
theorem dX12_law_6 : decode cX12_law 6 = .ok (.i2l, 1) := by decide +kernel
theorem dX12_law_7 : decode cX12_law 7 = .ok (.lconst 0, 1) := by decide +kernel
theorem dX12_law_8 : decode cX12_law 8 = .ok (.aload_n 0, 1) := by decide +kernel
theorem dX12_law_9 : decode cX12_law 9 = .ok (.getfield 133, 3) := by decide +kernel
theorem dX12_law_12 : decode cX12_law 12 = .ok (.i2l, 1) := by decide +kernel
theorem dX12_law_13 : decode cX12_law 13 = .ok (.invokestatic 79, 3) := by decide +kernel
theorem dX12_law_16 : decode cX12_law 16 = .ok (.ifCond .ne 9, 3) := by decide +kernel
theorem dX12_law_19 : decode cX12_law 19 = .ok (.aload_n 0, 1) := by decide +kernel
theorem dX12_law_20 : decode cX12_law 20 = .ok (.iconst 1, 1) := by decide +kernel
theorem dX12_law_21 : decode cX12_law 21 = .ok (.invokevirtual 89, 3) := by decide +kernel
theorem dX12_law_24 : decode cX12_law 24 = .ok (.ireturn, 1) := by decide +kernel
theorem dX12_law_25 : decode cX12_law 25 = .ok (.aload_n 0, 1) := by decide +kernel
theorem dX12_law_26 : decode cX12_law 26 = .ok (.iload_n 1, 1) := by decide +kernel
theorem dX12_law_27 : decode cX12_law 27 = .ok (.invokevirtual 214, 3) := by decide +kernel
theorem dX12_law_30 : decode cX12_law 30 = .ok (.aload_n 0, 1) := by decide +kernel
theorem dX12_law_31 : decode cX12_law 31 = .ok (.invokevirtual 73, 3) := by decide +kernel
theorem dX12_law_34 : decode cX12_law 34 = .ok (.iconst 0, 1) := by decide +kernel
theorem dX12_law_35 : decode cX12_law 35 = .ok (.istore_n 2, 1) := by decide +kernel
theorem dX12_law_36 : decode cX12_law 36 = .ok (.aload_n 0, 1) := by decide +kernel
theorem dX12_law_37 : decode cX12_law 37 = .ok (.getfield 160, 3) := by decide +kernel
theorem dX12_law_40 : decode cX12_law 40 = .ok (.ifCond .ne 21, 3) := by decide +kernel
theorem dX12_law_43 : decode cX12_law 43 = .ok (.aload_n 0, 1) := by decide +kernel
theorem dX12_law_44 : decode cX12_law 44 = .ok (.getfield 145, 3) := by decide +kernel
theorem dX12_law_47 : decode cX12_law 47 = .ok (.ifCond .eq 14, 3) := by decide +kernel
theorem dX12_law_50 : decode cX12_law 50 = .ok (.aload_n 0, 1) := by decide +kernel
theorem dX12_law_51 : decode cX12_law 51 = .ok (.iload_n 2, 1) := by decide +kernel
theorem dX12_law_52 : decode cX12_law 52 = .ok (.invokevirtual 217, 3) := by decide +kernel
theorem dX12_law_55 : decode cX12_law 55 = .ok (.iinc 2 1, 3) := by decide +kernel
theorem dX12_law_58 : decode cX12_law 58 = .ok (.goto (-22), 3) := by decide +kernel
theorem dX12_law_61 : decode cX12_law 61 = .ok (.aload_n 0, 1) := by decide +kernel
theorem dX12_law_62 : decode cX12_law 62 = .ok (.getfield 160, 3) := by decide +kernel
theorem dX12_law_65 : decode cX12_law 65 = .ok (.ifCond .ne 39, 3) := by decide +kernel
theorem dX12_law_68 : decode cX12_law 68 = .ok (.iconst 0, 1) := by decide +kernel
theorem dX12_law_69 : decode cX12_law 69 = .ok (.istore_n 3, 1) := by decide +kernel
theorem dX12_law_70 : decode cX12_law 70 = .ok (.iload_n 3, 1) := by decide +kernel
theorem dX12_law_71 : decode cX12_law 71 = .ok (.bipush 7, 2) := by decide +kernel
theorem dX12_law_73 : decode cX12_law 73 = .ok (.if_icmp .ge 24, 3) := by decide +kernel
theorem dX12_law_76 : decode cX12_law 76 = .ok (.aload_n 0, 1) := by decide +kernel
theorem dX12_law_77 : decode cX12_law 77 = .ok (.getfield 9, 3) := by decide +kernel
theorem dX12_law_80 : decode cX12_law 80 = .ok (.bipush 6, 2) := by decide +kernel
theorem dX12_law_82 : decode cX12_law 82 = .ok (.iload_n 3, 1) := by decide +kernel
theorem dX12_law_83 : decode cX12_law 83 = .ok (.iadd, 1) := by decide +kernel
theorem dX12_law_84 : decode cX12_law 84 = .ok (.aload_n 0, 1) := by decide +kernel
theorem dX12_law_85 : decode cX12_law 85 = .ok (.getfield 23, 3) := by decide +kernel
theorem dX12_law_88 : decode cX12_law 88 = .ok (.iload_n 3, 1) := by decide +kernel
theorem dX12_law_89 : decode cX12_law 89 = .ok (.iaload, 1) := by decide +kernel
theorem dX12_law_90 : decode cX12_law 90 = .ok (.iastore, 1) := by decide +kernel
theorem dX12_law_91 : decode cX12_law 91 = .ok (.iinc 3 1, 3) := by decide +kernel
theorem dX12_law_94 : decode cX12_law 94 = .ok (.goto (-24), 3) := by decide +kernel
theorem dX12_law_97 : decode cX12_law 97 = .ok (.aload_n 0, 1) := by decide +kernel
theorem dX12_law_98 : decode cX12_law 98 = .ok (.getfield 9, 3) := by decide +kernel
theorem dX12_law_101 : decode cX12_law 101 = .ok (.iconst 4, 1) := by decide +kernel
theorem dX12_law_102 : decode cX12_law 102 = .ok (.iload_n 2, 1) := by decide +kernel
theorem dX12_law_103 : decode cX12_law 103 = .ok (.iastore, 1) := by decide +kernel
theorem dX12_law_104 : decode cX12_law 104 = .ok (.aload_n 0, 1) := by decide +kernel
theorem dX12_law_105 : decode cX12_law 105 = .ok (.iload_n 2, 1) := by decide +kernel
theorem dX12_law_106 : decode cX12_law 106 = .ok (.invokevirtual 220, 3) := by decide +kernel
theorem dX12_law_109 : decode cX12_law 109 = .ok (.ireturn, 1) := by decide +kernel
abbrev z_X12_law_174 : Z9 := (some .int, 1, 0, 0, 11, 317)
def m_X12_law_174_c104 (v2 : Int) (d : D9) : Option R9 := cl (m_X12_ends_174 v2 d) (fun r1 d2 => rt r1 d2)
def b_X12_law_174_c70 (k_X12_law_174_c70 : Int → Int → D9 → Option R9) (v2 v3 : Int) (d : D9) : Option R9 := if w32 7 ≤ w32 v3 then sd d 175 1604 4 v2 (fun d1 => m_X12_law_174_c104  v2 d1) else ld d 179 7 v3 (fun t2 => sd d 175 1604 (6 + v3) t2 (fun d3 => k_X12_law_174_c70 v2 (v3 + 1) d3))
def m_X12_law_174_c70 : Int → Int → D9 → Option R9 := fix9 (fun _ _ _ => none) (fun k => b_X12_law_174_c70 k) FU
def m_X12_law_174_c61 (v2 : Int) (d : D9) : Option R9 := if w32 (d 174 13) ≠ 0 then m_X12_law_174_c104  v2 d else m_X12_law_174_c70  v2 0 d
def b_X12_law_174_c36 (k_X12_law_174_c36 : Int → D9 → Option R9) (v2 : Int) (d : D9) : Option R9 := if w32 (d 174 13) ≠ 0 then m_X12_law_174_c61  v2 d else if w32 (d 174 11) = 0 then m_X12_law_174_c61  v2 d else cl (m_X12_lawLine_174 v2 d) (fun r1 d2 => k_X12_law_174_c36 (v2 + 1) d2)
def m_X12_law_174_c36 : Int → D9 → Option R9 := fix9 (fun _ _ => none) (fun k => b_X12_law_174_c36 k) FU
def m_X12_law_174 (p1 : Int) (d : D9) : Option R9 := pf d 174 3 0 (fun d1 => cl (m_X12_within (w32 p1) 0 (w32 (d1 174 7)) d1) (fun r2 d3 => if w32 r2 ≠ 0 then cl (m_X12_starts_174 p1 d3) (fun r4 d5 => cl (m_X12_plainLaw_174 d5) (fun r6 d7 => m_X12_law_174_c36  0 d7)) else cl (m_X12_fails_174 1 d3) (fun r8 d9 => rt r8 d9)))
set_option maxRecDepth 100000 in
theorem s_X12_law_174_c104 {G : G9} {X : X9} (C : CX G X cX12_law 4 RX12 [] z_X12_law_174) : ∀ (v2 : Int) (d : D9), SS G X 4 0 0 104 [(0, rf G 174), (2, i9 v2)] [] d (m_X12_law_174_c104  v2 d) := by
  intro v2 d
  unfold m_X12_law_174_c104
  refine r_aload_n C 0 dX12_law_104 rfl rfl ?_
  refine r_iload_n C 1 dX12_law_105 rfl rfl ?_
  refine r_callV C [i9 v2, rf G 174] dX12_law_106 (t_X12_ends_174 C.h1 C.h2 v2 d) mw_X12_220 mv_X12_ends la_174 ly_174 rfl (by decide) (by decide) (by decide) rfl rfl (Nat.le_of_ble_eq_true rfl) (fun r1 d2 => ?_)
  show SS G X 4 _ _ 109 [(0, rf G 174), (2, i9 v2)] [i9 r1] d2 _
  exact r_iret C dX12_law_109 (by decide) (by decide)
set_option maxRecDepth 100000 in
theorem sb_X12_law_174_c70 {G : G9} {X : X9} (C : CX G X cX12_law 4 RX12 [] z_X12_law_174) (k_X12_law_174_c70 : Int → Int → D9 → Option R9) (hk_X12_law_174_c70 : ∀ (v2 v3 : Int) (d : D9), SS G X 4 0 0 70 [(0, rf G 174), (2, i9 v2), (3, i9 v3)] [] d (k_X12_law_174_c70 v2 v3 d)) : ∀ (v2 v3 : Int) (d : D9), SS G X 4 0 0 70 [(0, rf G 174), (2, i9 v2), (3, i9 v3)] [] d (b_X12_law_174_c70 k_X12_law_174_c70 v2 v3 d) := by
  intro v2 v3 d
  unfold b_X12_law_174_c70
  refine r_iload_n C 2 dX12_law_70 rfl rfl ?_
  refine r_bipush C dX12_law_71 rfl ?_
  refine r_icmp_ge C 97 dX12_law_73 (by decide) (fun _ => ?_) (fun _ => ?_)
  · refine r_aload_n C 0 dX12_law_97 rfl rfl ?_
    refine r_getR C 175 dX12_law_98 fl_X12_9 la_174 ly_174 rfl rfl ?_
    refine r_iconst C dX12_law_101 ?_
    refine r_iload_n C 1 dX12_law_102 rfl rfl ?_
    refine r_iast C dX12_law_103 la_175 ly_175 (fun d1 => ?_)
    refine ss_wide (k' := 0) (n' := 0) (by decide) (by decide) ?_
    refine ss_ls [(0, rf G 174), (2, i9 v2)] [0, 1] rfl ?_
    exact s_X12_law_174_c104 C  v2 d1
  · refine r_aload_n C 0 dX12_law_76 rfl rfl ?_
    refine r_getR C 175 dX12_law_77 fl_X12_9 la_174 ly_174 rfl rfl ?_
    refine r_bipush C dX12_law_80 rfl ?_
    refine r_iload_n C 2 dX12_law_82 rfl rfl ?_
    refine r_iadd C dX12_law_83 ?_
    refine r_aload_n C 0 dX12_law_84 rfl rfl ?_
    refine r_getR C 179 dX12_law_85 fl_X12_23 la_174 ly_174 rfl rfl ?_
    refine r_iload_n C 2 dX12_law_88 rfl rfl ?_
    refine r_iald C dX12_law_89 la_179 ly_179 (fun t2 => ?_)
    refine r_iast C dX12_law_90 la_175 ly_175 (fun d3 => ?_)
    refine r_iinc C 2 [(3, i9 (v3 + 1)), (0, rf G 174), (2, i9 v2)] dX12_law_91 rfl (by decide) rfl ?_
    refine r_goto C 70 dX12_law_94 (by decide) ?_
    refine ss_wide (k' := 0) (n' := 0) (by decide) (by decide) ?_
    refine ss_ls [(0, rf G 174), (2, i9 v2), (3, i9 (v3 + 1))] [1, 2, 0] rfl ?_
    exact hk_X12_law_174_c70 v2 (v3 + 1) d3
theorem s_X12_law_174_c70 {G : G9} {X : X9} (C : CX G X cX12_law 4 RX12 [] z_X12_law_174) : ∀ (v2 v3 : Int) (d : D9), SS G X 4 0 0 70 [(0, rf G 174), (2, i9 v2), (3, i9 v3)] [] d (m_X12_law_174_c70  v2 v3 d) :=
  fix9_ind (P := fun k => ∀ (v2 v3 : Int) (d : D9), SS G X 4 0 0 70 [(0, rf G 174), (2, i9 v2), (3, i9 v3)] [] d (k v2 v3 d)) (fun _ _ _ => ss_none) (fun k hk => sb_X12_law_174_c70 C k hk) FU
set_option maxRecDepth 100000 in
theorem s_X12_law_174_c61 {G : G9} {X : X9} (C : CX G X cX12_law 4 RX12 [] z_X12_law_174) : ∀ (v2 : Int) (d : D9), SS G X 4 0 0 61 [(0, rf G 174), (2, i9 v2)] [] d (m_X12_law_174_c61  v2 d) := by
  intro v2 d
  unfold m_X12_law_174_c61
  refine r_aload_n C 0 dX12_law_61 rfl rfl ?_
  refine r_getI C dX12_law_62 fl_X12_160 la_174 ly_174 rfl ?_
  refine r_if_ne C (b := 0) 104 dX12_law_65 (by decide) (fun _ => ?_) (fun _ => ?_)
  · refine ss_wide (k' := 0) (n' := 0) (by decide) (by decide) ?_
    refine ss_ls [(0, rf G 174), (2, i9 v2)] [0, 1] rfl ?_
    exact s_X12_law_174_c104 C  v2 d
  · refine r_iconst C dX12_law_68 ?_
    refine r_istore_n C [(3, i9 0), (0, rf G 174), (2, i9 v2)] dX12_law_69 rfl (by decide) rfl ?_
    refine ss_wide (k' := 0) (n' := 0) (by decide) (by decide) ?_
    refine ss_ls [(0, rf G 174), (2, i9 v2), (3, i9 0)] [1, 2, 0] rfl ?_
    exact s_X12_law_174_c70 C  v2 0 d
set_option maxRecDepth 100000 in
theorem sb_X12_law_174_c36 {G : G9} {X : X9} (C : CX G X cX12_law 4 RX12 [] z_X12_law_174) (k_X12_law_174_c36 : Int → D9 → Option R9) (hk_X12_law_174_c36 : ∀ (v2 : Int) (d : D9), SS G X 4 0 0 36 [(0, rf G 174), (2, i9 v2)] [] d (k_X12_law_174_c36 v2 d)) : ∀ (v2 : Int) (d : D9), SS G X 4 0 0 36 [(0, rf G 174), (2, i9 v2)] [] d (b_X12_law_174_c36 k_X12_law_174_c36 v2 d) := by
  intro v2 d
  unfold b_X12_law_174_c36
  refine r_aload_n C 0 dX12_law_36 rfl rfl ?_
  refine r_getI C dX12_law_37 fl_X12_160 la_174 ly_174 rfl ?_
  refine r_if_ne C (b := 0) 61 dX12_law_40 (by decide) (fun _ => ?_) (fun _ => ?_)
  · refine ss_wide (k' := 0) (n' := 0) (by decide) (by decide) ?_
    refine ss_ls [(0, rf G 174), (2, i9 v2)] [0, 1] rfl ?_
    exact s_X12_law_174_c61 C  v2 d
  · refine r_aload_n C 0 dX12_law_43 rfl rfl ?_
    refine r_getI C dX12_law_44 fl_X12_145 la_174 ly_174 rfl ?_
    refine r_if_eq C (b := 0) 61 dX12_law_47 (by decide) (fun _ => ?_) (fun _ => ?_)
    · refine ss_wide (k' := 0) (n' := 0) (by decide) (by decide) ?_
      refine ss_ls [(0, rf G 174), (2, i9 v2)] [0, 1] rfl ?_
      exact s_X12_law_174_c61 C  v2 d
    · refine r_aload_n C 0 dX12_law_50 rfl rfl ?_
      refine r_iload_n C 1 dX12_law_51 rfl rfl ?_
      refine r_callV C [i9 v2, rf G 174] dX12_law_52 (t_X12_lawLine_174 C.h1 C.h2 v2 d) mw_X12_217 mv_X12_lawLine la_174 ly_174 rfl (by decide) (by decide) (by decide) rfl rfl (Nat.le_of_ble_eq_true rfl) (fun r1 d2 => ?_)
      show SS G X 4 _ _ 55 [(0, rf G 174), (2, i9 v2)] [] d2 _
      refine r_iinc C 1 [(2, i9 (v2 + 1)), (0, rf G 174)] dX12_law_55 rfl (by decide) rfl ?_
      refine r_goto C 36 dX12_law_58 (by decide) ?_
      refine ss_wide (k' := 0) (n' := 0) (by decide) (by decide) ?_
      refine ss_ls [(0, rf G 174), (2, i9 (v2 + 1))] [1, 0] rfl ?_
      exact hk_X12_law_174_c36 (v2 + 1) d2
theorem s_X12_law_174_c36 {G : G9} {X : X9} (C : CX G X cX12_law 4 RX12 [] z_X12_law_174) : ∀ (v2 : Int) (d : D9), SS G X 4 0 0 36 [(0, rf G 174), (2, i9 v2)] [] d (m_X12_law_174_c36  v2 d) :=
  fix9_ind (P := fun k => ∀ (v2 : Int) (d : D9), SS G X 4 0 0 36 [(0, rf G 174), (2, i9 v2)] [] d (k v2 d)) (fun _ _ => ss_none) (fun k hk => sb_X12_law_174_c36 C k hk) FU
set_option maxRecDepth 100000 in
theorem t_X12_law_174 {G : G9} {l : Launch} (h1 : va_D (A9 G) (wl G (fun _ _ => 0))) (h2 : l.stackTraces = false) (p1 : Int) (d : D9) : MT G l yX12_law cX12_law 4 z_X12_law_174 [rf G 174, i9 p1] d (m_X12_law_174 p1 d) := by
  refine mt_of (own := RX12) (by decide) rfl (Nat.le_of_ble_eq_true rfl) h1 h2 [(0, rf G 174), (1, i9 p1)] rfl (fun X hX C => ?_)
  unfold m_X12_law_174
  refine r_aload_n C 0 dX12_law_0 rfl rfl ?_
  refine r_iconst C dX12_law_1 ?_
  refine r_putI C dX12_law_2 fp_X12_76 la_174 ly_174 rfl (fun d1 => ?_)
  refine r_iload_n C 1 dX12_law_5 rfl rfl ?_
  refine r_i2l C dX12_law_6 ?_
  refine r_lconst C dX12_law_7 (a := 0) rfl ?_
  refine r_aload_n C 0 dX12_law_8 rfl rfl ?_
  refine r_getI C dX12_law_9 fl_X12_133 la_174 ly_174 rfl ?_
  refine r_i2l C dX12_law_12 ?_
  refine r_callS C [l9 (w32 (d1 174 7)), l9 0, l9 (w32 p1)] dX12_law_13 (t_X12_within C.h1 C.h2 (w32 p1) 0 (w32 (d1 174 7)) d1) mw_X12_79 ms_X12_within (by decide) (by decide) (by decide) rfl rfl (Nat.le_of_ble_eq_true rfl) (fun r2 d3 => ?_)
  show SS G X 4 _ _ 16 [(0, rf G 174), (1, i9 p1)] [i9 r2] d3 _
  refine r_if_ne C (b := 0) 25 dX12_law_16 (by decide) (fun _ => ?_) (fun _ => ?_)
  · refine r_aload_n C 0 dX12_law_25 rfl rfl ?_
    refine r_iload_n C 1 dX12_law_26 rfl rfl ?_
    refine r_callV C [i9 p1, rf G 174] dX12_law_27 (t_X12_starts_174 C.h1 C.h2 p1 d3) mw_X12_214 mv_X12_starts la_174 ly_174 rfl (by decide) (by decide) (by decide) rfl rfl (Nat.le_of_ble_eq_true rfl) (fun r4 d5 => ?_)
    show SS G X 4 _ _ 30 [(0, rf G 174), (1, i9 p1)] [] d5 _
    refine r_aload_n C 0 dX12_law_30 rfl rfl ?_
    refine r_callV C [rf G 174] dX12_law_31 (t_X12_plainLaw_174 C.h1 C.h2 d5) mw_X12_73 mv_X12_plainLaw la_174 ly_174 rfl (by decide) (by decide) (by decide) rfl rfl (Nat.le_of_ble_eq_true rfl) (fun r6 d7 => ?_)
    show SS G X 4 _ _ 34 [(0, rf G 174), (1, i9 p1)] [] d7 _
    refine r_iconst C dX12_law_34 ?_
    refine r_istore_n C [(2, i9 0), (0, rf G 174), (1, i9 p1)] dX12_law_35 rfl (by decide) rfl ?_
    refine ss_wide (k' := 0) (n' := 0) (by decide) (by decide) ?_
    refine ss_ls [(0, rf G 174), (2, i9 0)] [1, 0] rfl ?_
    exact s_X12_law_174_c36 C  0 d7
  · refine r_aload_n C 0 dX12_law_19 rfl rfl ?_
    refine r_iconst C dX12_law_20 ?_
    refine r_callV C [i9 1, rf G 174] dX12_law_21 (t_X12_fails_174 C.h1 C.h2 1 d3) mw_X12_89 mv_X12_fails la_174 ly_174 rfl (by decide) (by decide) (by decide) rfl rfl (Nat.le_of_ble_eq_true rfl) (fun r8 d9 => ?_)
    show SS G X 4 _ _ 24 [(0, rf G 174), (1, i9 p1)] [i9 r8] d9 _
    exact r_iret C dX12_law_24 (by decide) (by decide)
theorem dX12_layer_0 : decode cX12_layer 0 = .ok (.aload_n 0, 1) := by decide +kernel
theorem dX12_layer_1 : decode cX12_layer 1 = .ok (.iconst 0, 1) := by decide +kernel
theorem dX12_layer_2 : decode cX12_layer 2 = .ok (.putfield 76, 3) := by decide +kernel
theorem dX12_layer_5 : decode cX12_layer 5 = .ok (.aload_n 0, 1) := by decide +kernel
theorem dX12_layer_6 : decode cX12_layer 6 = .ok (.iload_n 1, 1) := by decide +kernel
theorem dX12_layer_7 : decode cX12_layer 7 = .ok (.invokevirtual 118, 3) := by decide +kernel
theorem dX12_layer_10 : decode cX12_layer 10 = .ok (.ifCond .ne 9, 3) := by decide +kernel
theorem dX12_layer_13 : decode cX12_layer 13 = .ok (.aload_n 0, 1) := by decide +kernel
theorem dX12_layer_14 : decode cX12_layer 14 = .ok (.iconst 1, 1) := by decide +kernel
theorem dX12_layer_15 : decode cX12_layer 15 = .ok (.invokevirtual 89, 3) := by decide +kernel
theorem dX12_layer_18 : decode cX12_layer 18 = .ok (.ireturn, 1) := by decide +kernel
theorem dX12_layer_19 : decode cX12_layer 19 = .ok (.iload_n 2, 1) := by decide +kernel
theorem dX12_layer_20 : decode cX12_layer 20 = .ok (.i2l, 1) := by decide +kernel
theorem dX12_layer_21 : decode cX12_layer 21 = .ok (.iload_n 3, 1) := by decide +kernel
theorem dX12_layer_22 : decode cX12_layer 22 = .ok (.i2l, 1) := by decide +kernel
theorem dX12_layer_23 : decode cX12_layer 23 = .ok (.iload 4, 2) := by decide +kernel
theorem dX12_layer_25 : decode cX12_layer 25 = .ok (.i2l, 1) := by decide +kernel
theorem dX12_layer_26 : decode cX12_layer 26 = .ok (.invokestatic 121, 3) := by decide +kernel
theorem dX12_layer_29 : decode cX12_layer 29 = .ok (.ifCond .ne 9, 3) := by decide +kernel
theorem dX12_layer_32 : decode cX12_layer 32 = .ok (.aload_n 0, 1) := by decide +kernel
theorem dX12_layer_33 : decode cX12_layer 33 = .ok (.iconst 2, 1) := by decide +kernel
theorem dX12_layer_34 : decode cX12_layer 34 = .ok (.invokevirtual 89, 3) := by decide +kernel
theorem dX12_layer_37 : decode cX12_layer 37 = .ok (.ireturn, 1) := by decide +kernel
theorem dX12_layer_38 : decode cX12_layer 38 = .ok (.aload_n 0, 1) := by decide +kernel
theorem dX12_layer_39 : decode cX12_layer 39 = .ok (.iload_n 1, 1) := by decide +kernel
theorem dX12_layer_40 : decode cX12_layer 40 = .ok (.iconst 4, 1) := by decide +kernel
theorem dX12_layer_41 : decode cX12_layer 41 = .ok (.invokevirtual 124, 3) := by decide +kernel
theorem dX12_layer_44 : decode cX12_layer 44 = .ok (.iconst 4, 1) := by decide +kernel
theorem dX12_layer_45 : decode cX12_layer 45 = .ok (.if_icmp .ne 5, 3) := by decide +kernel
theorem dX12_layer_48 : decode cX12_layer 48 = .ok (.iconst (-1), 1) := by decide +kernel
theorem dX12_layer_49 : decode cX12_layer 49 = .ok (.ireturn, 1) := by decide +kernel
theorem dX12_layer_50 : decode cX12_layer 50 = .ok (.aload_n 0, 1) := by decide +kernel
theorem dX12_layer_51 : decode cX12_layer 51 = .ok (.iload_n 1, 1) := by decide +kernel
theorem dX12_layer_52 : decode cX12_layer 52 = .ok (.iload_n 2, 1) := by decide +kernel
theorem dX12_layer_53 : decode cX12_layer 53 = .ok (.iload_n 3, 1) := by decide +kernel
theorem dX12_layer_54 : decode cX12_layer 54 = .ok (.iload 4, 2) := by decide +kernel
theorem dX12_layer_56 : decode cX12_layer 56 = .ok (.invokevirtual 127, 3) := by decide +kernel
theorem dX12_layer_59 : decode cX12_layer 59 = .ok (.aload_n 0, 1) := by decide +kernel
theorem dX12_layer_60 : decode cX12_layer 60 = .ok (.iload_n 1, 1) := by decide +kernel
theorem dX12_layer_61 : decode cX12_layer 61 = .ok (.iconst 4, 1) := by decide +kernel
theorem dX12_layer_62 : decode cX12_layer 62 = .ok (.invokevirtual 124, 3) := by decide +kernel
theorem dX12_layer_65 : decode cX12_layer 65 = .ok (.ireturn, 1) := by decide +kernel
abbrev z_X12_layer_174 : Z9 := (some .int, 1, 0, 0, 3, 50)
def m_X12_layer_174 (p1 p2 p3 p4 : Int) (d : D9) : Option R9 := pf d 174 3 0 (fun d1 => cl (m_X12_isSkin_174 p1 d1) (fun r2 d3 => if w32 r2 ≠ 0 then cl (m_X12_areCounts (w32 p2) (w32 p3) (w32 p4) d3) (fun r4 d5 => if w32 r4 ≠ 0 then cl (m_X12_ofSkin_174 p1 4 d5) (fun r6 d7 => if w32 r6 ≠ w32 4 then cl (m_X12_addLayer_174 p1 p2 p3 p4 d7) (fun r8 d9 => cl (m_X12_ofSkin_174 p1 4 d9) (fun r10 d11 => rt r10 d11)) else rt (-1) d7) else cl (m_X12_fails_174 2 d5) (fun r12 d13 => rt r12 d13)) else cl (m_X12_fails_174 1 d3) (fun r14 d15 => rt r14 d15)))
set_option maxRecDepth 100000 in
theorem t_X12_layer_174 {G : G9} {l : Launch} (h1 : va_D (A9 G) (wl G (fun _ _ => 0))) (h2 : l.stackTraces = false) (p1 p2 p3 p4 : Int) (d : D9) : MT G l yX12_layer cX12_layer 5 z_X12_layer_174 [rf G 174, i9 p1, i9 p2, i9 p3, i9 p4] d (m_X12_layer_174 p1 p2 p3 p4 d) := by
  refine mt_of (own := RX12) (by decide) rfl (Nat.le_of_ble_eq_true rfl) h1 h2 [(0, rf G 174), (1, i9 p1), (2, i9 p2), (3, i9 p3), (4, i9 p4)] rfl (fun X hX C => ?_)
  unfold m_X12_layer_174
  refine r_aload_n C 0 dX12_layer_0 rfl rfl ?_
  refine r_iconst C dX12_layer_1 ?_
  refine r_putI C dX12_layer_2 fp_X12_76 la_174 ly_174 rfl (fun d1 => ?_)
  refine r_aload_n C 0 dX12_layer_5 rfl rfl ?_
  refine r_iload_n C 1 dX12_layer_6 rfl rfl ?_
  refine r_callV C [i9 p1, rf G 174] dX12_layer_7 (t_X12_isSkin_174 C.h1 C.h2 p1 d1) mw_X12_118 mv_X12_isSkin la_174 ly_174 rfl (by decide) (by decide) (by decide) rfl rfl (Nat.le_of_ble_eq_true rfl) (fun r2 d3 => ?_)
  show SS G X 5 _ _ 10 [(0, rf G 174), (1, i9 p1), (2, i9 p2), (3, i9 p3), (4, i9 p4)] [i9 r2] d3 _
  refine r_if_ne C (b := 0) 19 dX12_layer_10 (by decide) (fun _ => ?_) (fun _ => ?_)
  · refine r_iload_n C 2 dX12_layer_19 rfl rfl ?_
    refine r_i2l C dX12_layer_20 ?_
    refine r_iload_n C 3 dX12_layer_21 rfl rfl ?_
    refine r_i2l C dX12_layer_22 ?_
    refine r_iload C 4 dX12_layer_23 rfl ?_
    refine r_i2l C dX12_layer_25 ?_
    refine r_callS C [l9 (w32 p4), l9 (w32 p3), l9 (w32 p2)] dX12_layer_26 (t_X12_areCounts C.h1 C.h2 (w32 p2) (w32 p3) (w32 p4) d3) mw_X12_121 ms_X12_areCounts (by decide) (by decide) (by decide) rfl rfl (Nat.le_of_ble_eq_true rfl) (fun r4 d5 => ?_)
    show SS G X 5 _ _ 29 [(0, rf G 174), (1, i9 p1), (2, i9 p2), (3, i9 p3), (4, i9 p4)] [i9 r4] d5 _
    refine r_if_ne C (b := 0) 38 dX12_layer_29 (by decide) (fun _ => ?_) (fun _ => ?_)
    · refine r_aload_n C 0 dX12_layer_38 rfl rfl ?_
      refine r_iload_n C 1 dX12_layer_39 rfl rfl ?_
      refine r_iconst C dX12_layer_40 ?_
      refine r_callV C [i9 4, i9 p1, rf G 174] dX12_layer_41 (t_X12_ofSkin_174 C.h1 C.h2 p1 4 d5) mw_X12_124 mv_X12_ofSkin la_174 ly_174 rfl (by decide) (by decide) (by decide) rfl rfl (Nat.le_of_ble_eq_true rfl) (fun r6 d7 => ?_)
      show SS G X 5 _ _ 44 [(0, rf G 174), (1, i9 p1), (2, i9 p2), (3, i9 p3), (4, i9 p4)] [i9 r6] d7 _
      refine r_iconst C dX12_layer_44 ?_
      refine r_icmp_ne C 50 dX12_layer_45 (by decide) (fun _ => ?_) (fun _ => ?_)
      · refine r_aload_n C 0 dX12_layer_50 rfl rfl ?_
        refine r_iload_n C 1 dX12_layer_51 rfl rfl ?_
        refine r_iload_n C 2 dX12_layer_52 rfl rfl ?_
        refine r_iload_n C 3 dX12_layer_53 rfl rfl ?_
        refine r_iload C 4 dX12_layer_54 rfl ?_
        refine r_callV C [i9 p4, i9 p3, i9 p2, i9 p1, rf G 174] dX12_layer_56 (t_X12_addLayer_174 C.h1 C.h2 p1 p2 p3 p4 d7) mw_X12_127 mv_X12_addLayer la_174 ly_174 rfl (by decide) (by decide) (by decide) rfl rfl (Nat.le_of_ble_eq_true rfl) (fun r8 d9 => ?_)
        show SS G X 5 _ _ 59 [(0, rf G 174), (1, i9 p1), (2, i9 p2), (3, i9 p3), (4, i9 p4)] [] d9 _
        refine r_aload_n C 0 dX12_layer_59 rfl rfl ?_
        refine r_iload_n C 1 dX12_layer_60 rfl rfl ?_
        refine r_iconst C dX12_layer_61 ?_
        refine r_callV C [i9 4, i9 p1, rf G 174] dX12_layer_62 (t_X12_ofSkin_174 C.h1 C.h2 p1 4 d9) mw_X12_124 mv_X12_ofSkin la_174 ly_174 rfl (by decide) (by decide) (by decide) rfl rfl (Nat.le_of_ble_eq_true rfl) (fun r10 d11 => ?_)
        show SS G X 5 _ _ 65 [(0, rf G 174), (1, i9 p1), (2, i9 p2), (3, i9 p3), (4, i9 p4)] [i9 r10] d11 _
        exact r_iret C dX12_layer_65 (by decide) (by decide)
      · refine r_iconst C dX12_layer_48 ?_
        exact r_iret C dX12_layer_49 (by decide) (by decide)
    · refine r_aload_n C 0 dX12_layer_32 rfl rfl ?_
      refine r_iconst C dX12_layer_33 ?_
      refine r_callV C [i9 2, rf G 174] dX12_layer_34 (t_X12_fails_174 C.h1 C.h2 2 d5) mw_X12_89 mv_X12_fails la_174 ly_174 rfl (by decide) (by decide) (by decide) rfl rfl (Nat.le_of_ble_eq_true rfl) (fun r12 d13 => ?_)
      show SS G X 5 _ _ 37 [(0, rf G 174), (1, i9 p1), (2, i9 p2), (3, i9 p3), (4, i9 p4)] [i9 r12] d13 _
      exact r_iret C dX12_layer_37 (by decide) (by decide)
  · refine r_aload_n C 0 dX12_layer_13 rfl rfl ?_
    refine r_iconst C dX12_layer_14 ?_
    refine r_callV C [i9 1, rf G 174] dX12_layer_15 (t_X12_fails_174 C.h1 C.h2 1 d3) mw_X12_89 mv_X12_fails la_174 ly_174 rfl (by decide) (by decide) (by decide) rfl rfl (Nat.le_of_ble_eq_true rfl) (fun r14 d15 => ?_)
    show SS G X 5 _ _ 18 [(0, rf G 174), (1, i9 p1), (2, i9 p2), (3, i9 p3), (4, i9 p4)] [i9 r14] d15 _
    exact r_iret C dX12_layer_18 (by decide) (by decide)
theorem dX12_layLeaked_0 : decode cX12_layLeaked 0 = .ok (.aload_n 0, 1) := by decide +kernel
theorem dX12_layLeaked_1 : decode cX12_layLeaked 1 = .ok (.iload_n 1, 1) := by decide +kernel
theorem dX12_layLeaked_2 : decode cX12_layLeaked 2 = .ok (.invokevirtual 331, 3) := by decide +kernel
theorem dX12_layLeaked_5 : decode cX12_layLeaked 5 = .ok (.istore_n 2, 1) := by decide +kernel
theorem dX12_layLeaked_6 : decode cX12_layLeaked 6 = .ok (.lconst 1, 1) := by decide +kernel
theorem dX12_layLeaked_7 : decode cX12_layLeaked 7 = .ok (.lstore_n 3, 1) := by decide +kernel
theorem dX12_layLeaked_8 : decode cX12_layLeaked 8 = .ok (.iconst 2, 1) := by decide +kernel
theorem dX12_layLeaked_9 : decode cX12_layLeaked 9 = .ok (.istore 5, 2) := by decide +kernel
theorem dX12_layLeaked_11 : decode cX12_layLeaked 11 = .ok (.iload 5, 2) := by decide +kernel
theorem dX12_layLeaked_13 : decode cX12_layLeaked 13 = .ok (.aload_n 0, 1) := by decide +kernel
theorem dX12_layLeaked_14 : decode cX12_layLeaked 14 = .ok (.iload_n 1, 1) := by decide +kernel
theorem dX12_layLeaked_15 : decode cX12_layLeaked 15 = .ok (.invokevirtual 325, 3) := by decide +kernel
theorem dX12_layLeaked_18 : decode cX12_layLeaked 18 = .ok (.if_icmp .gt 15, 3) := by decide +kernel
theorem dX12_layLeaked_21 : decode cX12_layLeaked 21 = .ok (.lload_n 3, 1) := by decide +kernel
theorem dX12_layLeaked_22 : decode cX12_layLeaked 22 = .ok (.iload 5, 2) := by decide +kernel
theorem dX12_layLeaked_24 : decode cX12_layLeaked 24 = .ok (.i2l, 1) := by decide +kernel
theorem dX12_layLeaked_25 : decode cX12_layLeaked 25 = .ok (.lmul, 1) := by decide +kernel
theorem dX12_layLeaked_26 : decode cX12_layLeaked 26 = .ok (.lstore_n 3, 1) := by decide +kernel
theorem dX12_layLeaked_27 : decode cX12_layLeaked 27 = .ok (.iinc 5 1, 3) := by decide +kernel
theorem dX12_layLeaked_30 : decode cX12_layLeaked 30 = .ok (.goto (-19), 3) := by decide +kernel
theorem dX12_layLeaked_33 : decode cX12_layLeaked 33 = .ok (.aload_n 0, 1) := by decide +kernel
theorem dX12_layLeaked_34 : decode cX12_layLeaked 34 = .ok (.iload_n 2, 1) := by decide +kernel
theorem dX12_layLeaked_35 : decode cX12_layLeaked 35 = .ok (.iconst 2, 1) := by decide +kernel
theorem dX12_layLeaked_36 : decode cX12_layLeaked 36 = .ok (.if_icmp .ne 7, 3) := by decide +kernel
theorem dX12_layLeaked_39 : decode cX12_layLeaked 39 = .ok (.lconst 1, 1) := by decide +kernel
theorem dX12_layLeaked_40 : decode cX12_layLeaked 40 = .ok (.goto 11, 3) := by decide +kernel
theorem dX12_layLeaked_43 : decode cX12_layLeaked 43 = .ok (.aload_n 0, 1) := by decide +kernel
theorem dX12_layLeaked_44 : decode cX12_layLeaked 44 = .ok (.getfield 9, 3) := by decide +kernel
theorem dX12_layLeaked_47 : decode cX12_layLeaked 47 = .ok (.bipush 11, 2) := by decide +kernel
theorem dX12_layLeaked_49 : decode cX12_layLeaked 49 = .ok (.iaload, 1) := by decide +kernel
theorem dX12_layLeaked_50 : decode cX12_layLeaked 50 = .ok (.i2l, 1) := by decide +kernel
theorem dX12_layLeaked_51 : decode cX12_layLeaked 51 = .ok (.putfield 344, 3) := by decide +kernel
theorem dX12_layLeaked_54 : decode cX12_layLeaked 54 = .ok (.aload_n 0, 1) := by decide +kernel
theorem dX12_layLeaked_55 : decode cX12_layLeaked 55 = .ok (.iload_n 2, 1) := by decide +kernel
theorem dX12_layLeaked_56 : decode cX12_layLeaked 56 = .ok (.iconst 2, 1) := by decide +kernel
theorem dX12_layLeaked_57 : decode cX12_layLeaked 57 = .ok (.if_icmp .ge 9, 3) := by decide +kernel
theorem dX12_layLeaked_60 : decode cX12_layLeaked 60 = .ok (.ldc2_w 347, 3) := by decide +kernel
theorem dX12_layLeaked_63 : decode cX12_layLeaked 63 = .ok (.goto 35, 3) := by decide +kernel
theorem dX12_layLeaked_66 : decode cX12_layLeaked 66 = .ok (.iload_n 2, 1) := by decide +kernel
theorem dX12_layLeaked_67 : decode cX12_layLeaked 67 = .ok (.iconst 2, 1) := by decide +kernel
theorem dX12_layLeaked_68 : decode cX12_layLeaked 68 = .ok (.if_icmp .ne 7, 3) := by decide +kernel
theorem dX12_layLeaked_71 : decode cX12_layLeaked 71 = .ok (.lconst 1, 1) := by decide +kernel
theorem dX12_layLeaked_72 : decode cX12_layLeaked 72 = .ok (.goto 26, 3) := by decide +kernel
theorem dX12_layLeaked_75 : decode cX12_layLeaked 75 = .ok (.aload_n 0, 1) := by decide +kernel
theorem dX12_layLeaked_76 : decode cX12_layLeaked 76 = .ok (.getfield 9, 3) := by decide +kernel
theorem dX12_layLeaked_79 : decode cX12_layLeaked 79 = .ok (.bipush 11, 2) := by decide +kernel
theorem dX12_layLeaked_81 : decode cX12_layLeaked 81 = .ok (.iaload, 1) := by decide +kernel
theorem dX12_layLeaked_82 : decode cX12_layLeaked 82 = .ok (.i2l, 1) := by decide +kernel
theorem dX12_layLeaked_83 : decode cX12_layLeaked 83 = .ok (.ldc2_w 347, 3) := by decide +kernel
theorem dX12_layLeaked_86 : decode cX12_layLeaked 86 = .ok (.aload_n 0, 1) := by decide +kernel
theorem dX12_layLeaked_87 : decode cX12_layLeaked 87 = .ok (.getfield 9, 3) := by decide +kernel
theorem dX12_layLeaked_90 : decode cX12_layLeaked 90 = .ok (.bipush 11, 2) := by decide +kernel
theorem dX12_layLeaked_92 : decode cX12_layLeaked 92 = .ok (.iaload, 1) := by decide +kernel
theorem dX12_layLeaked_93 : decode cX12_layLeaked 93 = .ok (.i2l, 1) := by decide +kernel
theorem dX12_layLeaked_94 : decode cX12_layLeaked 94 = .ok (.lsub, 1) := by decide +kernel
theorem dX12_layLeaked_95 : decode cX12_layLeaked 95 = .ok (.lload_n 3, 1) := by decide +kernel
theorem dX12_layLeaked_96 : decode cX12_layLeaked 96 = .ok (.lmul, 1) := by decide +kernel
theorem dX12_layLeaked_97 : decode cX12_layLeaked 97 = .ok (.ladd, 1) := by decide +kernel
theorem dX12_layLeaked_98 : decode cX12_layLeaked 98 = .ok (.putfield 349, 3) := by decide +kernel
theorem dX12_layLeaked_101 : decode cX12_layLeaked 101 = .ok (.return_, 1) := by decide +kernel
abbrev z_X12_layLeaked_174 : Z9 := (none, 0, 0, 0, 8, 201)
def m_X12_layLeaked_174_c51 (v2 v3 s0 : Int) (d : D9) : Option R9 := pf d 174 22 s0 (fun d1 => if w32 2 ≤ w32 v2 then if w32 v2 ≠ w32 2 then ld d1 175 1604 11 (fun t2 => ld d1 175 1604 11 (fun t3 => pf d1 174 23 ((w32 t2) + ((100 - (w32 t3)) * v3)) (fun d4 => rt 0 d4))) else pf d1 174 23 1 (fun d5 => rt 0 d5) else pf d1 174 23 100 (fun d6 => rt 0 d6))
def b_X12_layLeaked_174_c11 (k_X12_layLeaked_174_c11 : Int → Int → Int → Int → D9 → Option R9) (v1 v2 v3 v5 : Int) (d : D9) : Option R9 := cl (m_X12_thick_174 v1 d) (fun r1 d2 => if w32 r1 < w32 v5 then if w32 v2 ≠ w32 2 then ld d2 175 1604 11 (fun t3 => m_X12_layLeaked_174_c51  v2 v3 (w32 t3) d2) else m_X12_layLeaked_174_c51  v2 v3 1 d2 else lt9v (v3 * (w32 v5)) (fun a4 => k_X12_layLeaked_174_c11 v1 v2 a4 (v5 + 1) d2))
def m_X12_layLeaked_174_c11 : Int → Int → Int → Int → D9 → Option R9 := fix9 (fun _ _ _ _ _ => none) (fun k => b_X12_layLeaked_174_c11 k) FU
def m_X12_layLeaked_174 (p1 : Int) (d : D9) : Option R9 := cl (m_X12_sortOf_174 p1 d) (fun r1 d2 => m_X12_layLeaked_174_c11  p1 r1 1 2 d2)
set_option maxRecDepth 100000 in
theorem s_X12_layLeaked_174_c51 {G : G9} {X : X9} (C : CX G X cX12_layLeaked 6 RX12 [] z_X12_layLeaked_174) : ∀ (v2 v3 s0 : Int) (d : D9), SS G X 6 0 0 51 [(0, rf G 174), (2, i9 v2), (3, l9 v3)] [l9 s0, rf G 174] d (m_X12_layLeaked_174_c51  v2 v3 s0 d) := by
  intro v2 v3 s0 d
  unfold m_X12_layLeaked_174_c51
  refine r_putL C dX12_layLeaked_51 fp_X12_344 la_174 ly_174 rfl (fun d1 => ?_)
  refine r_aload_n C 0 dX12_layLeaked_54 rfl rfl ?_
  refine r_iload_n C 1 dX12_layLeaked_55 rfl rfl ?_
  refine r_iconst C dX12_layLeaked_56 ?_
  refine r_icmp_ge C 66 dX12_layLeaked_57 (by decide) (fun _ => ?_) (fun _ => ?_)
  · refine r_iload_n C 1 dX12_layLeaked_66 rfl rfl ?_
    refine r_iconst C dX12_layLeaked_67 ?_
    refine r_icmp_ne C 75 dX12_layLeaked_68 (by decide) (fun _ => ?_) (fun _ => ?_)
    · refine r_aload_n C 0 dX12_layLeaked_75 rfl rfl ?_
      refine r_getR C 175 dX12_layLeaked_76 fl_X12_9 la_174 ly_174 rfl rfl ?_
      refine r_bipush C dX12_layLeaked_79 rfl ?_
      refine r_iald C dX12_layLeaked_81 la_175 ly_175 (fun t2 => ?_)
      refine r_i2l C dX12_layLeaked_82 ?_
      refine r_ldcL C dX12_layLeaked_83 kc_X12_347 ?_
      refine r_aload_n C 0 dX12_layLeaked_86 rfl rfl ?_
      refine r_getR C 175 dX12_layLeaked_87 fl_X12_9 la_174 ly_174 rfl rfl ?_
      refine r_bipush C dX12_layLeaked_90 rfl ?_
      refine r_iald C dX12_layLeaked_92 la_175 ly_175 (fun t3 => ?_)
      refine r_i2l C dX12_layLeaked_93 ?_
      refine r_lsub C dX12_layLeaked_94 ?_
      refine r_lload_n C 2 dX12_layLeaked_95 rfl rfl ?_
      refine r_lmul C dX12_layLeaked_96 ?_
      refine r_ladd C dX12_layLeaked_97 ?_
      refine r_putL C dX12_layLeaked_98 fp_X12_349 la_174 ly_174 rfl (fun d4 => ?_)
      exact r_vret C dX12_layLeaked_101 (by decide) (by decide)
    · refine r_lconst C dX12_layLeaked_71 (a := 1) rfl ?_
      refine r_goto C 98 dX12_layLeaked_72 (by decide) ?_
      refine r_putL C dX12_layLeaked_98 fp_X12_349 la_174 ly_174 rfl (fun d5 => ?_)
      exact r_vret C dX12_layLeaked_101 (by decide) (by decide)
  · refine r_ldcL C dX12_layLeaked_60 kc_X12_347 ?_
    refine r_goto C 98 dX12_layLeaked_63 (by decide) ?_
    refine r_putL C dX12_layLeaked_98 fp_X12_349 la_174 ly_174 rfl (fun d6 => ?_)
    exact r_vret C dX12_layLeaked_101 (by decide) (by decide)
set_option maxRecDepth 100000 in
theorem sb_X12_layLeaked_174_c11 {G : G9} {X : X9} (C : CX G X cX12_layLeaked 6 RX12 [] z_X12_layLeaked_174) (k_X12_layLeaked_174_c11 : Int → Int → Int → Int → D9 → Option R9) (hk_X12_layLeaked_174_c11 : ∀ (v1 v2 v3 v5 : Int) (d : D9), SS G X 6 0 0 11 [(0, rf G 174), (1, i9 v1), (2, i9 v2), (3, l9 v3), (5, i9 v5)] [] d (k_X12_layLeaked_174_c11 v1 v2 v3 v5 d)) : ∀ (v1 v2 v3 v5 : Int) (d : D9), SS G X 6 0 0 11 [(0, rf G 174), (1, i9 v1), (2, i9 v2), (3, l9 v3), (5, i9 v5)] [] d (b_X12_layLeaked_174_c11 k_X12_layLeaked_174_c11 v1 v2 v3 v5 d) := by
  intro v1 v2 v3 v5 d
  unfold b_X12_layLeaked_174_c11
  refine r_iload C 4 dX12_layLeaked_11 rfl ?_
  refine r_aload_n C 0 dX12_layLeaked_13 rfl rfl ?_
  refine r_iload_n C 1 dX12_layLeaked_14 rfl rfl ?_
  refine r_callV C [i9 v1, rf G 174, i9 v5] dX12_layLeaked_15 (t_X12_thick_174 C.h1 C.h2 v1 d) mw_X12_325 mv_X12_thick la_174 ly_174 rfl (by decide) (by decide) (by decide) rfl rfl (Nat.le_of_ble_eq_true rfl) (fun r1 d2 => ?_)
  show SS G X 6 _ _ 18 [(0, rf G 174), (1, i9 v1), (2, i9 v2), (3, l9 v3), (5, i9 v5)] [i9 r1, i9 v5] d2 _
  refine r_icmp_gt C 33 dX12_layLeaked_18 (by decide) (fun _ => ?_) (fun _ => ?_)
  · refine r_aload_n C 0 dX12_layLeaked_33 rfl rfl ?_
    refine r_iload_n C 2 dX12_layLeaked_34 rfl rfl ?_
    refine r_iconst C dX12_layLeaked_35 ?_
    refine r_icmp_ne C 43 dX12_layLeaked_36 (by decide) (fun _ => ?_) (fun _ => ?_)
    · refine r_aload_n C 0 dX12_layLeaked_43 rfl rfl ?_
      refine r_getR C 175 dX12_layLeaked_44 fl_X12_9 la_174 ly_174 rfl rfl ?_
      refine r_bipush C dX12_layLeaked_47 rfl ?_
      refine r_iald C dX12_layLeaked_49 la_175 ly_175 (fun t3 => ?_)
      refine r_i2l C dX12_layLeaked_50 ?_
      refine ss_wide (k' := 0) (n' := 0) (by decide) (by decide) ?_
      refine ss_ls [(0, rf G 174), (2, i9 v2), (3, l9 v3)] [0, 2, 3] rfl ?_
      exact s_X12_layLeaked_174_c51 C  v2 v3 (w32 t3) d2
    · refine r_lconst C dX12_layLeaked_39 (a := 1) rfl ?_
      refine r_goto C 51 dX12_layLeaked_40 (by decide) ?_
      refine ss_wide (k' := 0) (n' := 0) (by decide) (by decide) ?_
      refine ss_ls [(0, rf G 174), (2, i9 v2), (3, l9 v3)] [0, 2, 3] rfl ?_
      exact s_X12_layLeaked_174_c51 C  v2 v3 1 d2
  · refine r_lload_n C 3 dX12_layLeaked_21 rfl rfl ?_
    refine r_iload C 4 dX12_layLeaked_22 rfl ?_
    refine r_i2l C dX12_layLeaked_24 ?_
    refine r_lmul C dX12_layLeaked_25 ?_
    refine ss_ltL (fun a4 => ?_)
    refine r_lstore_n C [(3, l9 a4), (0, rf G 174), (1, i9 v1), (2, i9 v2), (5, i9 v5)] dX12_layLeaked_26 rfl (by decide) rfl ?_
    refine r_iinc C 4 [(5, i9 (v5 + 1)), (3, l9 a4), (0, rf G 174), (1, i9 v1), (2, i9 v2)] dX12_layLeaked_27 rfl (by decide) rfl ?_
    refine r_goto C 11 dX12_layLeaked_30 (by decide) ?_
    refine ss_wide (k' := 0) (n' := 0) (by decide) (by decide) ?_
    refine ss_ls [(0, rf G 174), (1, i9 v1), (2, i9 v2), (3, l9 a4), (5, i9 (v5 + 1))] [2, 3, 4, 1, 0] rfl ?_
    exact hk_X12_layLeaked_174_c11 v1 v2 a4 (v5 + 1) d2
theorem s_X12_layLeaked_174_c11 {G : G9} {X : X9} (C : CX G X cX12_layLeaked 6 RX12 [] z_X12_layLeaked_174) : ∀ (v1 v2 v3 v5 : Int) (d : D9), SS G X 6 0 0 11 [(0, rf G 174), (1, i9 v1), (2, i9 v2), (3, l9 v3), (5, i9 v5)] [] d (m_X12_layLeaked_174_c11  v1 v2 v3 v5 d) :=
  fix9_ind (P := fun k => ∀ (v1 v2 v3 v5 : Int) (d : D9), SS G X 6 0 0 11 [(0, rf G 174), (1, i9 v1), (2, i9 v2), (3, l9 v3), (5, i9 v5)] [] d (k v1 v2 v3 v5 d)) (fun _ _ _ _ _ => ss_none) (fun k hk => sb_X12_layLeaked_174_c11 C k hk) FU
set_option maxRecDepth 100000 in
theorem t_X12_layLeaked_174 {G : G9} {l : Launch} (h1 : va_D (A9 G) (wl G (fun _ _ => 0))) (h2 : l.stackTraces = false) (p1 : Int) (d : D9) : MT G l yX12_layLeaked cX12_layLeaked 6 z_X12_layLeaked_174 [rf G 174, i9 p1] d (m_X12_layLeaked_174 p1 d) := by
  refine mt_of (own := RX12) (by decide) rfl (Nat.le_of_ble_eq_true rfl) h1 h2 [(0, rf G 174), (1, i9 p1)] rfl (fun X hX C => ?_)
  unfold m_X12_layLeaked_174
  refine r_aload_n C 0 dX12_layLeaked_0 rfl rfl ?_
  refine r_iload_n C 1 dX12_layLeaked_1 rfl rfl ?_
  refine r_callV C [i9 p1, rf G 174] dX12_layLeaked_2 (t_X12_sortOf_174 C.h1 C.h2 p1 d) mw_X12_331 mv_X12_sortOf la_174 ly_174 rfl (by decide) (by decide) (by decide) rfl rfl (Nat.le_of_ble_eq_true rfl) (fun r1 d2 => ?_)
  show SS G X 6 _ _ 5 [(0, rf G 174), (1, i9 p1)] [i9 r1] d2 _
  refine r_istore_n C [(2, i9 r1), (0, rf G 174), (1, i9 p1)] dX12_layLeaked_5 rfl (by decide) rfl ?_
  refine r_lconst C dX12_layLeaked_6 (a := 1) rfl ?_
  refine r_lstore_n C [(3, l9 1), (2, i9 r1), (0, rf G 174), (1, i9 p1)] dX12_layLeaked_7 rfl (by decide) rfl ?_
  refine r_iconst C dX12_layLeaked_8 ?_
  refine r_istore C [(5, i9 2), (3, l9 1), (2, i9 r1), (0, rf G 174), (1, i9 p1)] dX12_layLeaked_9 (by decide) rfl ?_
  refine ss_wide (k' := 0) (n' := 0) (by decide) (by decide) ?_
  refine ss_ls [(0, rf G 174), (1, i9 p1), (2, i9 r1), (3, l9 1), (5, i9 2)] [3, 4, 2, 1, 0] rfl ?_
  exact s_X12_layLeaked_174_c11 C  p1 r1 1 2 d2
theorem dX12_leaked_0 : decode cX12_leaked 0 = .ok (.aload_n 0, 1) := by decide +kernel
theorem dX12_leaked_1 : decode cX12_leaked 1 = .ok (.aload_n 0, 1) := by decide +kernel
theorem dX12_leaked_2 : decode cX12_leaked 2 = .ok (.iload_n 1, 1) := by decide +kernel
theorem dX12_leaked_3 : decode cX12_leaked 3 = .ok (.invokevirtual 118, 3) := by decide +kernel
theorem dX12_leaked_6 : decode cX12_leaked 6 = .ok (.ifCond .eq 7, 3) := by decide +kernel
theorem dX12_leaked_9 : decode cX12_leaked 9 = .ok (.iconst 0, 1) := by decide +kernel
theorem dX12_leaked_10 : decode cX12_leaked 10 = .ok (.goto 4, 3) := by decide +kernel
theorem dX12_leaked_13 : decode cX12_leaked 13 = .ok (.iconst 1, 1) := by decide +kernel
theorem dX12_leaked_14 : decode cX12_leaked 14 = .ok (.putfield 76, 3) := by decide +kernel
theorem dX12_leaked_17 : decode cX12_leaked 17 = .ok (.aload_n 0, 1) := by decide +kernel
theorem dX12_leaked_18 : decode cX12_leaked 18 = .ok (.getfield 76, 3) := by decide +kernel
theorem dX12_leaked_21 : decode cX12_leaked 21 = .ok (.ifCond .le 4, 3) := by decide +kernel
theorem dX12_leaked_24 : decode cX12_leaked 24 = .ok (.return_, 1) := by decide +kernel
theorem dX12_leaked_25 : decode cX12_leaked 25 = .ok (.aload_n 0, 1) := by decide +kernel
theorem dX12_leaked_26 : decode cX12_leaked 26 = .ok (.iload_n 1, 1) := by decide +kernel
theorem dX12_leaked_27 : decode cX12_leaked 27 = .ok (.invokevirtual 352, 3) := by decide +kernel
theorem dX12_leaked_30 : decode cX12_leaked 30 = .ok (.aload_n 0, 1) := by decide +kernel
theorem dX12_leaked_31 : decode cX12_leaked 31 = .ok (.aload_n 0, 1) := by decide +kernel
theorem dX12_leaked_32 : decode cX12_leaked 32 = .ok (.getfield 344, 3) := by decide +kernel
theorem dX12_leaked_35 : decode cX12_leaked 35 = .ok (.aload_n 0, 1) := by decide +kernel
theorem dX12_leaked_36 : decode cX12_leaked 36 = .ok (.getfield 349, 3) := by decide +kernel
theorem dX12_leaked_39 : decode cX12_leaked 39 = .ok (.invokevirtual 355, 3) := by decide +kernel
theorem dX12_leaked_42 : decode cX12_leaked 42 = .ok (.pop, 1) := by decide +kernel
theorem dX12_leaked_43 : decode cX12_leaked 43 = .ok (.return_, 1) := by decide +kernel
abbrev z_X12_leaked_174 : Z9 := (none, 0, 0, 0, 9, 226)
def m_X12_leaked_174_c14 (v1 s0 : Int) (d : D9) : Option R9 := pf d 174 3 s0 (fun d1 => if w32 (d1 174 3) ≤ 0 then cl (m_X12_layLeaked_174 v1 d1) (fun r2 d3 => cl (m_X12_fraction_174 (d3 174 22) (d3 174 23) d3) (fun r4 d5 => rt 0 d5)) else rt 0 d1)
def m_X12_leaked_174 (p1 : Int) (d : D9) : Option R9 := cl (m_X12_isSkin_174 p1 d) (fun r1 d2 => if w32 r1 = 0 then m_X12_leaked_174_c14  p1 1 d2 else m_X12_leaked_174_c14  p1 0 d2)
set_option maxRecDepth 100000 in
theorem s_X12_leaked_174_c14 {G : G9} {X : X9} (C : CX G X cX12_leaked 2 RX12 [] z_X12_leaked_174) : ∀ (v1 s0 : Int) (d : D9), SS G X 2 0 0 14 [(0, rf G 174), (1, i9 v1)] [i9 s0, rf G 174] d (m_X12_leaked_174_c14  v1 s0 d) := by
  intro v1 s0 d
  unfold m_X12_leaked_174_c14
  refine r_putI C dX12_leaked_14 fp_X12_76 la_174 ly_174 rfl (fun d1 => ?_)
  refine r_aload_n C 0 dX12_leaked_17 rfl rfl ?_
  refine r_getI C dX12_leaked_18 fl_X12_76 la_174 ly_174 rfl ?_
  refine r_if_le C (b := 0) 25 dX12_leaked_21 (by decide) (fun _ => ?_) (fun _ => ?_)
  · refine r_aload_n C 0 dX12_leaked_25 rfl rfl ?_
    refine r_iload_n C 1 dX12_leaked_26 rfl rfl ?_
    refine r_callV C [i9 v1, rf G 174] dX12_leaked_27 (t_X12_layLeaked_174 C.h1 C.h2 v1 d1) mw_X12_352 mv_X12_layLeaked la_174 ly_174 rfl (by decide) (by decide) (by decide) rfl rfl (Nat.le_of_ble_eq_true rfl) (fun r2 d3 => ?_)
    show SS G X 2 _ _ 30 [(0, rf G 174), (1, i9 v1)] [] d3 _
    refine r_aload_n C 0 dX12_leaked_30 rfl rfl ?_
    refine r_aload_n C 0 dX12_leaked_31 rfl rfl ?_
    refine r_getL C dX12_leaked_32 fl_X12_344 la_174 ly_174 rfl ?_
    refine r_aload_n C 0 dX12_leaked_35 rfl rfl ?_
    refine r_getL C dX12_leaked_36 fl_X12_349 la_174 ly_174 rfl ?_
    refine r_callV C [l9 (d3 174 23), l9 (d3 174 22), rf G 174] dX12_leaked_39 (t_X12_fraction_174 C.h1 C.h2 (d3 174 22) (d3 174 23) d3) mw_X12_355 mv_X12_fraction la_174 ly_174 rfl (by decide) (by decide) (by decide) rfl rfl (Nat.le_of_ble_eq_true rfl) (fun r4 d5 => ?_)
    show SS G X 2 _ _ 42 [(0, rf G 174), (1, i9 v1)] [i9 r4] d5 _
    refine r_pop C dX12_leaked_42 rfl ?_
    exact r_vret C dX12_leaked_43 (by decide) (by decide)
  · exact r_vret C dX12_leaked_24 (by decide) (by decide)
set_option maxRecDepth 100000 in
theorem t_X12_leaked_174 {G : G9} {l : Launch} (h1 : va_D (A9 G) (wl G (fun _ _ => 0))) (h2 : l.stackTraces = false) (p1 : Int) (d : D9) : MT G l yX12_leaked cX12_leaked 2 z_X12_leaked_174 [rf G 174, i9 p1] d (m_X12_leaked_174 p1 d) := by
  refine mt_of (own := RX12) (by decide) rfl (Nat.le_of_ble_eq_true rfl) h1 h2 [(0, rf G 174), (1, i9 p1)] rfl (fun X hX C => ?_)
  unfold m_X12_leaked_174
  refine r_aload_n C 0 dX12_leaked_0 rfl rfl ?_
  refine r_aload_n C 0 dX12_leaked_1 rfl rfl ?_
  refine r_iload_n C 1 dX12_leaked_2 rfl rfl ?_
  refine r_callV C [i9 p1, rf G 174, rf G 174] dX12_leaked_3 (t_X12_isSkin_174 C.h1 C.h2 p1 d) mw_X12_118 mv_X12_isSkin la_174 ly_174 rfl (by decide) (by decide) (by decide) rfl rfl (Nat.le_of_ble_eq_true rfl) (fun r1 d2 => ?_)
  show SS G X 2 _ _ 6 [(0, rf G 174), (1, i9 p1)] [i9 r1, rf G 174] d2 _
  refine r_if_eq C (b := 0) 13 dX12_leaked_6 (by decide) (fun _ => ?_) (fun _ => ?_)
  · refine r_iconst C dX12_leaked_13 ?_
    refine ss_wide (k' := 0) (n' := 0) (by decide) (by decide) ?_
    refine ss_ls [(0, rf G 174), (1, i9 p1)] [0, 1] rfl ?_
    exact s_X12_leaked_174_c14 C  p1 1 d2
  · refine r_iconst C dX12_leaked_9 ?_
    refine r_goto C 14 dX12_leaked_10 (by decide) ?_
    refine ss_wide (k' := 0) (n' := 0) (by decide) (by decide) ?_
    refine ss_ls [(0, rf G 174), (1, i9 p1)] [0, 1] rfl ?_
    exact s_X12_leaked_174_c14 C  p1 0 d2
theorem dX12_like_0 : decode cX12_like 0 = .ok (.aload_n 0, 1) := by decide +kernel
theorem dX12_like_1 : decode cX12_like 1 = .ok (.aload_n 0, 1) := by decide +kernel
theorem dX12_like_2 : decode cX12_like 2 = .ok (.iload_n 1, 1) := by decide +kernel
theorem dX12_like_3 : decode cX12_like 3 = .ok (.iload_n 2, 1) := by decide +kernel
theorem dX12_like_4 : decode cX12_like 4 = .ok (.iconst (-1), 1) := by decide +kernel
theorem dX12_like_5 : decode cX12_like 5 = .ok (.invokevirtual 405, 3) := by decide +kernel
theorem dX12_like_8 : decode cX12_like 8 = .ok (.putfield 76, 3) := by decide +kernel
theorem dX12_like_11 : decode cX12_like 11 = .ok (.aload_n 0, 1) := by decide +kernel
theorem dX12_like_12 : decode cX12_like 12 = .ok (.getfield 76, 3) := by decide +kernel
theorem dX12_like_15 : decode cX12_like 15 = .ok (.ifCond .le 5, 3) := by decide +kernel
theorem dX12_like_18 : decode cX12_like 18 = .ok (.iconst 0, 1) := by decide +kernel
theorem dX12_like_19 : decode cX12_like 19 = .ok (.ireturn, 1) := by decide +kernel
theorem dX12_like_20 : decode cX12_like 20 = .ok (.iconst 0, 1) := by decide +kernel
theorem dX12_like_21 : decode cX12_like 21 = .ok (.istore_n 3, 1) := by decide +kernel
theorem dX12_like_22 : decode cX12_like 22 = .ok (.iconst 0, 1) := by decide +kernel
theorem dX12_like_23 : decode cX12_like 23 = .ok (.istore 4, 2) := by decide +kernel
theorem dX12_like_25 : decode cX12_like 25 = .ok (.iload 4, 2) := by decide +kernel
theorem dX12_like_27 : decode cX12_like 27 = .ok (.aload_n 0, 1) := by decide +kernel
theorem dX12_like_28 : decode cX12_like 28 = .ok (.getfield 9, 3) := by decide +kernel
theorem dX12_like_31 : decode cX12_like 31 = .ok (.iconst 3, 1) := by decide +kernel
theorem dX12_like_32 : decode cX12_like 32 = .ok (.iaload, 1) := by decide +kernel
theorem dX12_like_33 : decode cX12_like 33 = .ok (.if_icmp .ge 28, 3) := by decide +kernel
theorem dX12_like_36 : decode cX12_like 36 = .ok (.iload_n 3, 1) := by decide +kernel
theorem dX12_like_37 : decode cX12_like 37 = .ok (.aload_n 0, 1) := by decide +kernel
theorem dX12_like_38 : decode cX12_like 38 = .ok (.iload 4, 2) := by decide +kernel
theorem dX12_like_40 : decode cX12_like 40 = .ok (.iload_n 1, 1) := by decide +kernel
theorem dX12_like_41 : decode cX12_like 41 = .ok (.iload_n 2, 1) := by decide +kernel
theorem dX12_like_42 : decode cX12_like 42 = .ok (.invokevirtual 408, 3) := by decide +kernel
theorem dX12_like_45 : decode cX12_like 45 = .ok (.ifCond .eq 7, 3) := by decide +kernel
theorem dX12_like_48 : decode cX12_like 48 = .ok (.iconst 1, 1) := by decide +kernel
theorem dX12_like_49 : decode cX12_like 49 = .ok (.goto 4, 3) := by decide +kernel
theorem dX12_like_52 : decode cX12_like 52 = .ok (.iconst 0, 1) := by decide +kernel
theorem dX12_like_53 : decode cX12_like 53 = .ok (.iadd, 1) := by decide +kernel
theorem dX12_like_54 : decode cX12_like 54 = .ok (.istore_n 3, 1) := by decide +kernel
theorem dX12_like_55 : decode cX12_like 55 = .ok (.iinc 4 1, 3) := by decide +kernel
theorem dX12_like_58 : decode cX12_like 58 = .ok (.goto (-33), 3) := by decide +kernel
theorem dX12_like_61 : decode cX12_like 61 = .ok (.iload_n 3, 1) := by decide +kernel
theorem dX12_like_62 : decode cX12_like 62 = .ok (.ireturn, 1) := by decide +kernel
abbrev z_X12_like_174 : Z9 := (some .int, 1, 0, 0, 5, 90)
def b_X12_like_174_c25 (k_X12_like_174_c25 : Int → Int → Int → Int → D9 → Option R9) (v1 v2 v3 v4 : Int) (d : D9) : Option R9 := ld d 175 1604 3 (fun t1 => if w32 t1 ≤ w32 v4 then rt v3 d else cl (m_X12_isLike_174 v4 v1 v2 d) (fun r2 d3 => if w32 r2 = 0 then lt9v (v3 + 0) (fun a4 => k_X12_like_174_c25 v1 v2 a4 (v4 + 1) d3) else lt9v (v3 + 1) (fun a5 => k_X12_like_174_c25 v1 v2 a5 (v4 + 1) d3)))
def m_X12_like_174_c25 : Int → Int → Int → Int → D9 → Option R9 := fix9 (fun _ _ _ _ _ => none) (fun k => b_X12_like_174_c25 k) FU
def m_X12_like_174 (p1 p2 : Int) (d : D9) : Option R9 := cl (m_X12_fingerFault_174 p1 p2 (-1) d) (fun r1 d2 => pf d2 174 3 r1 (fun d3 => if w32 (d3 174 3) ≤ 0 then m_X12_like_174_c25  p1 p2 0 0 d3 else rt 0 d3))
set_option maxRecDepth 100000 in
theorem sb_X12_like_174_c25 {G : G9} {X : X9} (C : CX G X cX12_like 5 RX12 [] z_X12_like_174) (k_X12_like_174_c25 : Int → Int → Int → Int → D9 → Option R9) (hk_X12_like_174_c25 : ∀ (v1 v2 v3 v4 : Int) (d : D9), SS G X 5 0 0 25 [(0, rf G 174), (1, i9 v1), (2, i9 v2), (3, i9 v3), (4, i9 v4)] [] d (k_X12_like_174_c25 v1 v2 v3 v4 d)) : ∀ (v1 v2 v3 v4 : Int) (d : D9), SS G X 5 0 0 25 [(0, rf G 174), (1, i9 v1), (2, i9 v2), (3, i9 v3), (4, i9 v4)] [] d (b_X12_like_174_c25 k_X12_like_174_c25 v1 v2 v3 v4 d) := by
  intro v1 v2 v3 v4 d
  unfold b_X12_like_174_c25
  refine r_iload C 4 dX12_like_25 rfl ?_
  refine r_aload_n C 0 dX12_like_27 rfl rfl ?_
  refine r_getR C 175 dX12_like_28 fl_X12_9 la_174 ly_174 rfl rfl ?_
  refine r_iconst C dX12_like_31 ?_
  refine r_iald C dX12_like_32 la_175 ly_175 (fun t1 => ?_)
  refine r_icmp_ge C 61 dX12_like_33 (by decide) (fun _ => ?_) (fun _ => ?_)
  · refine r_iload_n C 3 dX12_like_61 rfl rfl ?_
    exact r_iret C dX12_like_62 (by decide) (by decide)
  · refine r_iload_n C 3 dX12_like_36 rfl rfl ?_
    refine r_aload_n C 0 dX12_like_37 rfl rfl ?_
    refine r_iload C 4 dX12_like_38 rfl ?_
    refine r_iload_n C 1 dX12_like_40 rfl rfl ?_
    refine r_iload_n C 2 dX12_like_41 rfl rfl ?_
    refine r_callV C [i9 v2, i9 v1, i9 v4, rf G 174, i9 v3] dX12_like_42 (t_X12_isLike_174 C.h1 C.h2 v4 v1 v2 d) mw_X12_408 mv_X12_isLike la_174 ly_174 rfl (by decide) (by decide) (by decide) rfl rfl (Nat.le_of_ble_eq_true rfl) (fun r2 d3 => ?_)
    show SS G X 5 _ _ 45 [(0, rf G 174), (1, i9 v1), (2, i9 v2), (3, i9 v3), (4, i9 v4)] [i9 r2, i9 v3] d3 _
    refine r_if_eq C (b := 0) 52 dX12_like_45 (by decide) (fun _ => ?_) (fun _ => ?_)
    · refine r_iconst C dX12_like_52 ?_
      refine r_iadd C dX12_like_53 ?_
      refine ss_lt (fun a4 => ?_)
      refine r_istore_n C [(3, i9 a4), (0, rf G 174), (1, i9 v1), (2, i9 v2), (4, i9 v4)] dX12_like_54 rfl (by decide) rfl ?_
      refine r_iinc C 4 [(4, i9 (v4 + 1)), (3, i9 a4), (0, rf G 174), (1, i9 v1), (2, i9 v2)] dX12_like_55 rfl (by decide) rfl ?_
      refine r_goto C 25 dX12_like_58 (by decide) ?_
      refine ss_wide (k' := 0) (n' := 0) (by decide) (by decide) ?_
      refine ss_ls [(0, rf G 174), (1, i9 v1), (2, i9 v2), (3, i9 a4), (4, i9 (v4 + 1))] [2, 3, 4, 1, 0] rfl ?_
      exact hk_X12_like_174_c25 v1 v2 a4 (v4 + 1) d3
    · refine r_iconst C dX12_like_48 ?_
      refine r_goto C 53 dX12_like_49 (by decide) ?_
      refine r_iadd C dX12_like_53 ?_
      refine ss_lt (fun a5 => ?_)
      refine r_istore_n C [(3, i9 a5), (0, rf G 174), (1, i9 v1), (2, i9 v2), (4, i9 v4)] dX12_like_54 rfl (by decide) rfl ?_
      refine r_iinc C 4 [(4, i9 (v4 + 1)), (3, i9 a5), (0, rf G 174), (1, i9 v1), (2, i9 v2)] dX12_like_55 rfl (by decide) rfl ?_
      refine r_goto C 25 dX12_like_58 (by decide) ?_
      refine ss_wide (k' := 0) (n' := 0) (by decide) (by decide) ?_
      refine ss_ls [(0, rf G 174), (1, i9 v1), (2, i9 v2), (3, i9 a5), (4, i9 (v4 + 1))] [2, 3, 4, 1, 0] rfl ?_
      exact hk_X12_like_174_c25 v1 v2 a5 (v4 + 1) d3
theorem s_X12_like_174_c25 {G : G9} {X : X9} (C : CX G X cX12_like 5 RX12 [] z_X12_like_174) : ∀ (v1 v2 v3 v4 : Int) (d : D9), SS G X 5 0 0 25 [(0, rf G 174), (1, i9 v1), (2, i9 v2), (3, i9 v3), (4, i9 v4)] [] d (m_X12_like_174_c25  v1 v2 v3 v4 d) :=
  fix9_ind (P := fun k => ∀ (v1 v2 v3 v4 : Int) (d : D9), SS G X 5 0 0 25 [(0, rf G 174), (1, i9 v1), (2, i9 v2), (3, i9 v3), (4, i9 v4)] [] d (k v1 v2 v3 v4 d)) (fun _ _ _ _ _ => ss_none) (fun k hk => sb_X12_like_174_c25 C k hk) FU
set_option maxRecDepth 100000 in
theorem t_X12_like_174 {G : G9} {l : Launch} (h1 : va_D (A9 G) (wl G (fun _ _ => 0))) (h2 : l.stackTraces = false) (p1 p2 : Int) (d : D9) : MT G l yX12_like cX12_like 5 z_X12_like_174 [rf G 174, i9 p1, i9 p2] d (m_X12_like_174 p1 p2 d) := by
  refine mt_of (own := RX12) (by decide) rfl (Nat.le_of_ble_eq_true rfl) h1 h2 [(0, rf G 174), (1, i9 p1), (2, i9 p2)] rfl (fun X hX C => ?_)
  unfold m_X12_like_174
  refine r_aload_n C 0 dX12_like_0 rfl rfl ?_
  refine r_aload_n C 0 dX12_like_1 rfl rfl ?_
  refine r_iload_n C 1 dX12_like_2 rfl rfl ?_
  refine r_iload_n C 2 dX12_like_3 rfl rfl ?_
  refine r_iconst C dX12_like_4 ?_
  refine r_callV C [i9 (-1), i9 p2, i9 p1, rf G 174, rf G 174] dX12_like_5 (t_X12_fingerFault_174 C.h1 C.h2 p1 p2 (-1) d) mw_X12_405 mv_X12_fingerFault la_174 ly_174 rfl (by decide) (by decide) (by decide) rfl rfl (Nat.le_of_ble_eq_true rfl) (fun r1 d2 => ?_)
  show SS G X 5 _ _ 8 [(0, rf G 174), (1, i9 p1), (2, i9 p2)] [i9 r1, rf G 174] d2 _
  refine r_putI C dX12_like_8 fp_X12_76 la_174 ly_174 rfl (fun d3 => ?_)
  refine r_aload_n C 0 dX12_like_11 rfl rfl ?_
  refine r_getI C dX12_like_12 fl_X12_76 la_174 ly_174 rfl ?_
  refine r_if_le C (b := 0) 20 dX12_like_15 (by decide) (fun _ => ?_) (fun _ => ?_)
  · refine r_iconst C dX12_like_20 ?_
    refine r_istore_n C [(3, i9 0), (0, rf G 174), (1, i9 p1), (2, i9 p2)] dX12_like_21 rfl (by decide) rfl ?_
    refine r_iconst C dX12_like_22 ?_
    refine r_istore C [(4, i9 0), (3, i9 0), (0, rf G 174), (1, i9 p1), (2, i9 p2)] dX12_like_23 (by decide) rfl ?_
    refine ss_wide (k' := 0) (n' := 0) (by decide) (by decide) ?_
    refine ss_ls [(0, rf G 174), (1, i9 p1), (2, i9 p2), (3, i9 0), (4, i9 0)] [2, 3, 4, 1, 0] rfl ?_
    exact s_X12_like_174_c25 C  p1 p2 0 0 d3
  · refine r_iconst C dX12_like_18 ?_
    exact r_iret C dX12_like_19 (by decide) (by decide)
theorem dX12_lower_0 : decode cX12_lower 0 = .ok (.aload_n 0, 1) := by decide +kernel
theorem dX12_lower_1 : decode cX12_lower 1 = .ok (.iconst 0, 1) := by decide +kernel
theorem dX12_lower_2 : decode cX12_lower 2 = .ok (.putfield 76, 3) := by decide +kernel
theorem dX12_lower_5 : decode cX12_lower 5 = .ok (.aload_n 0, 1) := by decide +kernel
theorem dX12_lower_6 : decode cX12_lower 6 = .ok (.getfield 341, 3) := by decide +kernel
theorem dX12_lower_9 : decode cX12_lower 9 = .ok (.lreturn, 1) := by decide +kernel
abbrev z_X12_lower_174 : Z9 := (some .long, 2, 0, 0, 1, 0)
def m_X12_lower_174 (d : D9) : Option R9 := pf d 174 3 0 (fun d1 => rt (d1 174 21) d1)
set_option maxRecDepth 100000 in
theorem t_X12_lower_174 {G : G9} {l : Launch} (h1 : va_D (A9 G) (wl G (fun _ _ => 0))) (h2 : l.stackTraces = false) (d : D9) : MT G l yX12_lower cX12_lower 1 z_X12_lower_174 [rf G 174] d (m_X12_lower_174  d) := by
  refine mt_of (own := RX12) (by decide) rfl (Nat.le_of_ble_eq_true rfl) h1 h2 [(0, rf G 174)] rfl (fun X hX C => ?_)
  unfold m_X12_lower_174
  refine r_aload_n C 0 dX12_lower_0 rfl rfl ?_
  refine r_iconst C dX12_lower_1 ?_
  refine r_putI C dX12_lower_2 fp_X12_76 la_174 ly_174 rfl (fun d1 => ?_)
  refine r_aload_n C 0 dX12_lower_5 rfl rfl ?_
  refine r_getL C dX12_lower_6 fl_X12_341 la_174 ly_174 rfl ?_
  exact r_lret C dX12_lower_9 (by decide) (by decide)
theorem dX12_many_0 : decode cX12_many 0 = .ok (.aload_n 0, 1) := by decide +kernel
theorem dX12_many_1 : decode cX12_many 1 = .ok (.iload_n 1, 1) := by decide +kernel
theorem dX12_many_2 : decode cX12_many 2 = .ok (.i2l, 1) := by decide +kernel
theorem dX12_many_3 : decode cX12_many 3 = .ok (.lconst 1, 1) := by decide +kernel
theorem dX12_many_4 : decode cX12_many 4 = .ok (.ldc2_w 87, 3) := by decide +kernel
theorem dX12_many_7 : decode cX12_many 7 = .ok (.invokestatic 79, 3) := by decide +kernel
theorem dX12_many_10 : decode cX12_many 10 = .ok (.ifCond .eq 7, 3) := by decide +kernel
theorem dX12_many_13 : decode cX12_many 13 = .ok (.iconst 0, 1) := by decide +kernel
theorem dX12_many_14 : decode cX12_many 14 = .ok (.goto 4, 3) := by decide +kernel
theorem dX12_many_17 : decode cX12_many 17 = .ok (.iconst 1, 1) := by decide +kernel
theorem dX12_many_18 : decode cX12_many 18 = .ok (.putfield 76, 3) := by decide +kernel
theorem dX12_many_21 : decode cX12_many 21 = .ok (.aload_n 0, 1) := by decide +kernel
theorem dX12_many_22 : decode cX12_many 22 = .ok (.getfield 76, 3) := by decide +kernel
theorem dX12_many_25 : decode cX12_many 25 = .ok (.ifCond .le 4, 3) := by decide +kernel
theorem dX12_many_28 : decode cX12_many 28 = .ok (.return_, 1) := by decide +kernel
theorem dX12_many_29 : decode cX12_many 29 = .ok (.lconst 1, 1) := by decide +kernel
theorem dX12_many_30 : decode cX12_many 30 = .ok (.lstore_n 2, 1) := by decide +kernel
theorem dX12_many_31 : decode cX12_many 31 = .ok (.lconst 1, 1) := by decide +kernel
theorem dX12_many_32 : decode cX12_many 32 = .ok (.lstore 4, 2) := by decide +kernel
theorem dX12_many_34 : decode cX12_many 34 = .ok (.iconst 0, 1) := by decide +kernel
theorem dX12_many_35 : decode cX12_many 35 = .ok (.istore 6, 2) := by decide +kernel
theorem dX12_many_37 : decode cX12_many 37 = .ok (.iload 6, 2) := by decide +kernel
theorem dX12_many_39 : decode cX12_many 39 = .ok (.iload_n 1, 1) := by decide +kernel
theorem dX12_many_40 : decode cX12_many 40 = .ok (.if_icmp .ge 32, 3) := by decide +kernel
theorem dX12_many_43 : decode cX12_many 43 = .ok (.lload_n 2, 1) := by decide +kernel
theorem dX12_many_44 : decode cX12_many 44 = .ok (.ldc2_w 347, 3) := by decide +kernel
theorem dX12_many_47 : decode cX12_many 47 = .ok (.aload_n 0, 1) := by decide +kernel
theorem dX12_many_48 : decode cX12_many 48 = .ok (.getfield 9, 3) := by decide +kernel
theorem dX12_many_51 : decode cX12_many 51 = .ok (.bipush 11, 2) := by decide +kernel
theorem dX12_many_53 : decode cX12_many 53 = .ok (.iaload, 1) := by decide +kernel
theorem dX12_many_54 : decode cX12_many 54 = .ok (.i2l, 1) := by decide +kernel
theorem dX12_many_55 : decode cX12_many 55 = .ok (.lsub, 1) := by decide +kernel
theorem dX12_many_56 : decode cX12_many 56 = .ok (.lmul, 1) := by decide +kernel
theorem dX12_many_57 : decode cX12_many 57 = .ok (.lstore_n 2, 1) := by decide +kernel
theorem dX12_many_58 : decode cX12_many 58 = .ok (.lload 4, 2) := by decide +kernel
theorem dX12_many_60 : decode cX12_many 60 = .ok (.ldc2_w 347, 3) := by decide +kernel
theorem dX12_many_63 : decode cX12_many 63 = .ok (.lmul, 1) := by decide +kernel
theorem dX12_many_64 : decode cX12_many 64 = .ok (.lstore 4, 2) := by decide +kernel
theorem dX12_many_66 : decode cX12_many 66 = .ok (.iinc 6 1, 3) := by decide +kernel
theorem dX12_many_69 : decode cX12_many 69 = .ok (.goto (-32), 3) := by decide +kernel
theorem dX12_many_72 : decode cX12_many 72 = .ok (.aload_n 0, 1) := by decide +kernel
theorem dX12_many_73 : decode cX12_many 73 = .ok (.lload 4, 2) := by decide +kernel
theorem dX12_many_75 : decode cX12_many 75 = .ok (.lload_n 2, 1) := by decide +kernel
theorem dX12_many_76 : decode cX12_many 76 = .ok (.lsub, 1) := by decide +kernel
theorem dX12_many_77 : decode cX12_many 77 = .ok (.lload 4, 2) := by decide +kernel
theorem dX12_many_79 : decode cX12_many 79 = .ok (.invokevirtual 355, 3) := by decide +kernel
theorem dX12_many_82 : decode cX12_many 82 = .ok (.pop, 1) := by decide +kernel
theorem dX12_many_83 : decode cX12_many 83 = .ok (.return_, 1) := by decide +kernel
abbrev z_X12_many_174 : Z9 := (none, 0, 0, 0, 2, 30)
def b_X12_many_174_c37 (k_X12_many_174_c37 : Int → Int → Int → Int → D9 → Option R9) (v1 v2 v4 v6 : Int) (d : D9) : Option R9 := if w32 v1 ≤ w32 v6 then cl (m_X12_fraction_174 (v4 - v2) v4 d) (fun r1 d2 => rt 0 d2) else ld d 175 1604 11 (fun t3 => lt9v (v2 * (100 - (w32 t3))) (fun a4 => lt9v (v4 * 100) (fun a5 => k_X12_many_174_c37 v1 a4 a5 (v6 + 1) d)))
def m_X12_many_174_c37 : Int → Int → Int → Int → D9 → Option R9 := fix9 (fun _ _ _ _ _ => none) (fun k => b_X12_many_174_c37 k) FU
def m_X12_many_174_c18 (v1 s0 : Int) (d : D9) : Option R9 := pf d 174 3 s0 (fun d1 => if w32 (d1 174 3) ≤ 0 then m_X12_many_174_c37  v1 1 1 0 d1 else rt 0 d1)
def m_X12_many_174 (p1 : Int) (d : D9) : Option R9 := cl (m_X12_within (w32 p1) 1 9 d) (fun r1 d2 => if w32 r1 = 0 then m_X12_many_174_c18  p1 1 d2 else m_X12_many_174_c18  p1 0 d2)
set_option maxRecDepth 100000 in
theorem sb_X12_many_174_c37 {G : G9} {X : X9} (C : CX G X cX12_many 7 RX12 [] z_X12_many_174) (k_X12_many_174_c37 : Int → Int → Int → Int → D9 → Option R9) (hk_X12_many_174_c37 : ∀ (v1 v2 v4 v6 : Int) (d : D9), SS G X 7 0 0 37 [(0, rf G 174), (1, i9 v1), (2, l9 v2), (4, l9 v4), (6, i9 v6)] [] d (k_X12_many_174_c37 v1 v2 v4 v6 d)) : ∀ (v1 v2 v4 v6 : Int) (d : D9), SS G X 7 0 0 37 [(0, rf G 174), (1, i9 v1), (2, l9 v2), (4, l9 v4), (6, i9 v6)] [] d (b_X12_many_174_c37 k_X12_many_174_c37 v1 v2 v4 v6 d) := by
  intro v1 v2 v4 v6 d
  unfold b_X12_many_174_c37
  refine r_iload C 4 dX12_many_37 rfl ?_
  refine r_iload_n C 1 dX12_many_39 rfl rfl ?_
  refine r_icmp_ge C 72 dX12_many_40 (by decide) (fun _ => ?_) (fun _ => ?_)
  · refine r_aload_n C 0 dX12_many_72 rfl rfl ?_
    refine r_lload C 3 dX12_many_73 rfl ?_
    refine r_lload_n C 2 dX12_many_75 rfl rfl ?_
    refine r_lsub C dX12_many_76 ?_
    refine r_lload C 3 dX12_many_77 rfl ?_
    refine r_callV C [l9 v4, l9 (v4 - v2), rf G 174] dX12_many_79 (t_X12_fraction_174 C.h1 C.h2 (v4 - v2) v4 d) mw_X12_355 mv_X12_fraction la_174 ly_174 rfl (by decide) (by decide) (by decide) rfl rfl (Nat.le_of_ble_eq_true rfl) (fun r1 d2 => ?_)
    show SS G X 7 _ _ 82 [(0, rf G 174), (1, i9 v1), (2, l9 v2), (4, l9 v4), (6, i9 v6)] [i9 r1] d2 _
    refine r_pop C dX12_many_82 rfl ?_
    exact r_vret C dX12_many_83 (by decide) (by decide)
  · refine r_lload_n C 2 dX12_many_43 rfl rfl ?_
    refine r_ldcL C dX12_many_44 kc_X12_347 ?_
    refine r_aload_n C 0 dX12_many_47 rfl rfl ?_
    refine r_getR C 175 dX12_many_48 fl_X12_9 la_174 ly_174 rfl rfl ?_
    refine r_bipush C dX12_many_51 rfl ?_
    refine r_iald C dX12_many_53 la_175 ly_175 (fun t3 => ?_)
    refine r_i2l C dX12_many_54 ?_
    refine r_lsub C dX12_many_55 ?_
    refine r_lmul C dX12_many_56 ?_
    refine ss_ltL (fun a4 => ?_)
    refine r_lstore_n C [(2, l9 a4), (0, rf G 174), (1, i9 v1), (4, l9 v4), (6, i9 v6)] dX12_many_57 rfl (by decide) rfl ?_
    refine r_lload C 3 dX12_many_58 rfl ?_
    refine r_ldcL C dX12_many_60 kc_X12_347 ?_
    refine r_lmul C dX12_many_63 ?_
    refine ss_ltL (fun a5 => ?_)
    refine r_lstore C [(4, l9 a5), (2, l9 a4), (0, rf G 174), (1, i9 v1), (6, i9 v6)] dX12_many_64 (by decide) rfl ?_
    refine r_iinc C 4 [(6, i9 (v6 + 1)), (4, l9 a5), (2, l9 a4), (0, rf G 174), (1, i9 v1)] dX12_many_66 rfl (by decide) rfl ?_
    refine r_goto C 37 dX12_many_69 (by decide) ?_
    refine ss_wide (k' := 0) (n' := 0) (by decide) (by decide) ?_
    refine ss_ls [(0, rf G 174), (1, i9 v1), (2, l9 a4), (4, l9 a5), (6, i9 (v6 + 1))] [3, 4, 2, 1, 0] rfl ?_
    exact hk_X12_many_174_c37 v1 a4 a5 (v6 + 1) d
theorem s_X12_many_174_c37 {G : G9} {X : X9} (C : CX G X cX12_many 7 RX12 [] z_X12_many_174) : ∀ (v1 v2 v4 v6 : Int) (d : D9), SS G X 7 0 0 37 [(0, rf G 174), (1, i9 v1), (2, l9 v2), (4, l9 v4), (6, i9 v6)] [] d (m_X12_many_174_c37  v1 v2 v4 v6 d) :=
  fix9_ind (P := fun k => ∀ (v1 v2 v4 v6 : Int) (d : D9), SS G X 7 0 0 37 [(0, rf G 174), (1, i9 v1), (2, l9 v2), (4, l9 v4), (6, i9 v6)] [] d (k v1 v2 v4 v6 d)) (fun _ _ _ _ _ => ss_none) (fun k hk => sb_X12_many_174_c37 C k hk) FU
set_option maxRecDepth 100000 in
theorem s_X12_many_174_c18 {G : G9} {X : X9} (C : CX G X cX12_many 7 RX12 [] z_X12_many_174) : ∀ (v1 s0 : Int) (d : D9), SS G X 7 0 0 18 [(0, rf G 174), (1, i9 v1)] [i9 s0, rf G 174] d (m_X12_many_174_c18  v1 s0 d) := by
  intro v1 s0 d
  unfold m_X12_many_174_c18
  refine r_putI C dX12_many_18 fp_X12_76 la_174 ly_174 rfl (fun d1 => ?_)
  refine r_aload_n C 0 dX12_many_21 rfl rfl ?_
  refine r_getI C dX12_many_22 fl_X12_76 la_174 ly_174 rfl ?_
  refine r_if_le C (b := 0) 29 dX12_many_25 (by decide) (fun _ => ?_) (fun _ => ?_)
  · refine r_lconst C dX12_many_29 (a := 1) rfl ?_
    refine r_lstore_n C [(2, l9 1), (0, rf G 174), (1, i9 v1)] dX12_many_30 rfl (by decide) rfl ?_
    refine r_lconst C dX12_many_31 (a := 1) rfl ?_
    refine r_lstore C [(4, l9 1), (2, l9 1), (0, rf G 174), (1, i9 v1)] dX12_many_32 (by decide) rfl ?_
    refine r_iconst C dX12_many_34 ?_
    refine r_istore C [(6, i9 0), (4, l9 1), (2, l9 1), (0, rf G 174), (1, i9 v1)] dX12_many_35 (by decide) rfl ?_
    refine ss_wide (k' := 0) (n' := 0) (by decide) (by decide) ?_
    refine ss_ls [(0, rf G 174), (1, i9 v1), (2, l9 1), (4, l9 1), (6, i9 0)] [3, 4, 2, 1, 0] rfl ?_
    exact s_X12_many_174_c37 C  v1 1 1 0 d1
  · exact r_vret C dX12_many_28 (by decide) (by decide)
set_option maxRecDepth 100000 in
theorem t_X12_many_174 {G : G9} {l : Launch} (h1 : va_D (A9 G) (wl G (fun _ _ => 0))) (h2 : l.stackTraces = false) (p1 : Int) (d : D9) : MT G l yX12_many cX12_many 7 z_X12_many_174 [rf G 174, i9 p1] d (m_X12_many_174 p1 d) := by
  refine mt_of (own := RX12) (by decide) rfl (Nat.le_of_ble_eq_true rfl) h1 h2 [(0, rf G 174), (1, i9 p1)] rfl (fun X hX C => ?_)
  unfold m_X12_many_174
  refine r_aload_n C 0 dX12_many_0 rfl rfl ?_
  refine r_iload_n C 1 dX12_many_1 rfl rfl ?_
  refine r_i2l C dX12_many_2 ?_
  refine r_lconst C dX12_many_3 (a := 1) rfl ?_
  refine r_ldcL C dX12_many_4 kc_X12_87 ?_
  refine r_callS C [l9 9, l9 1, l9 (w32 p1), rf G 174] dX12_many_7 (t_X12_within C.h1 C.h2 (w32 p1) 1 9 d) mw_X12_79 ms_X12_within (by decide) (by decide) (by decide) rfl rfl (Nat.le_of_ble_eq_true rfl) (fun r1 d2 => ?_)
  show SS G X 7 _ _ 10 [(0, rf G 174), (1, i9 p1)] [i9 r1, rf G 174] d2 _
  refine r_if_eq C (b := 0) 17 dX12_many_10 (by decide) (fun _ => ?_) (fun _ => ?_)
  · refine r_iconst C dX12_many_17 ?_
    refine ss_wide (k' := 0) (n' := 0) (by decide) (by decide) ?_
    refine ss_ls [(0, rf G 174), (1, i9 p1)] [0, 1] rfl ?_
    exact s_X12_many_174_c18 C  p1 1 d2
  · refine r_iconst C dX12_many_13 ?_
    refine r_goto C 18 dX12_many_14 (by decide) ?_
    refine ss_wide (k' := 0) (n' := 0) (by decide) (by decide) ?_
    refine ss_ls [(0, rf G 174), (1, i9 p1)] [0, 1] rfl ?_
    exact s_X12_many_174_c18 C  p1 0 d2
theorem dX12_of_0 : decode cX12_of 0 = .ok (.aload_n 0, 1) := by decide +kernel
theorem dX12_of_1 : decode cX12_of 1 = .ok (.iconst 0, 1) := by decide +kernel
theorem dX12_of_2 : decode cX12_of 2 = .ok (.putfield 76, 3) := by decide +kernel
theorem dX12_of_5 : decode cX12_of 5 = .ok (.aload_n 0, 1) := by decide +kernel
theorem dX12_of_6 : decode cX12_of 6 = .ok (.iload_n 1, 1) := by decide +kernel
theorem dX12_of_7 : decode cX12_of 7 = .ok (.invokevirtual 95, 3) := by decide +kernel
theorem dX12_of_10 : decode cX12_of 10 = .ok (.ifCond .ne 9, 3) := by decide +kernel
theorem dX12_of_13 : decode cX12_of 13 = .ok (.aload_n 0, 1) := by decide +kernel
theorem dX12_of_14 : decode cX12_of 14 = .ok (.iconst 1, 1) := by decide +kernel
theorem dX12_of_15 : decode cX12_of 15 = .ok (.invokevirtual 89, 3) := by decide +kernel
theorem dX12_of_18 : decode cX12_of 18 = .ok (.ireturn, 1) := by decide +kernel
theorem dX12_of_19 : decode cX12_of 19 = .ok (.iload_n 2, 1) := by decide +kernel
theorem dX12_of_20 : decode cX12_of 20 = .ok (.i2l, 1) := by decide +kernel
theorem dX12_of_21 : decode cX12_of 21 = .ok (.lconst 0, 1) := by decide +kernel
theorem dX12_of_22 : decode cX12_of 22 = .ok (.ldc2_w 131, 3) := by decide +kernel
theorem dX12_of_25 : decode cX12_of 25 = .ok (.invokestatic 79, 3) := by decide +kernel
theorem dX12_of_28 : decode cX12_of 28 = .ok (.ifCond .ne 9, 3) := by decide +kernel
theorem dX12_of_31 : decode cX12_of 31 = .ok (.aload_n 0, 1) := by decide +kernel
theorem dX12_of_32 : decode cX12_of 32 = .ok (.iconst 2, 1) := by decide +kernel
theorem dX12_of_33 : decode cX12_of 33 = .ok (.invokevirtual 89, 3) := by decide +kernel
theorem dX12_of_36 : decode cX12_of 36 = .ok (.ireturn, 1) := by decide +kernel
theorem dX12_of_37 : decode cX12_of 37 = .ok (.iload_n 2, 1) := by decide +kernel
theorem dX12_of_38 : decode cX12_of 38 = .ok (.bipush 8, 2) := by decide +kernel
theorem dX12_of_40 : decode cX12_of 40 = .ok (.if_icmp .ge 10, 3) := by decide +kernel
theorem dX12_of_43 : decode cX12_of 43 = .ok (.aload_n 0, 1) := by decide +kernel
theorem dX12_of_44 : decode cX12_of 44 = .ok (.iload_n 1, 1) := by decide +kernel
theorem dX12_of_45 : decode cX12_of 45 = .ok (.iload_n 2, 1) := by decide +kernel
theorem dX12_of_46 : decode cX12_of 46 = .ok (.invokevirtual 99, 3) := by decide +kernel
theorem dX12_of_49 : decode cX12_of 49 = .ok (.ireturn, 1) := by decide +kernel
theorem dX12_of_50 : decode cX12_of 50 = .ok (.iconst 0, 1) := by decide +kernel
theorem dX12_of_51 : decode cX12_of 51 = .ok (.istore_n 3, 1) := by decide +kernel
theorem dX12_of_52 : decode cX12_of 52 = .ok (.sipush 256, 3) := by decide +kernel
theorem dX12_of_55 : decode cX12_of 55 = .ok (.istore 4, 2) := by decide +kernel
theorem dX12_of_57 : decode cX12_of 57 = .ok (.iload 4, 2) := by decide +kernel
theorem dX12_of_59 : decode cX12_of 59 = .ok (.sipush 256, 3) := by decide +kernel
theorem dX12_of_62 : decode cX12_of 62 = .ok (.iconst 2, 1) := by decide +kernel
theorem dX12_of_63 : decode cX12_of 63 = .ok (.aload_n 0, 1) := by decide +kernel
theorem dX12_of_64 : decode cX12_of 64 = .ok (.getfield 9, 3) := by decide +kernel
theorem dX12_of_67 : decode cX12_of 67 = .ok (.iconst 2, 1) := by decide +kernel
theorem dX12_of_68 : decode cX12_of 68 = .ok (.iaload, 1) := by decide +kernel
theorem dX12_of_69 : decode cX12_of 69 = .ok (.imul, 1) := by decide +kernel
theorem dX12_of_70 : decode cX12_of 70 = .ok (.iadd, 1) := by decide +kernel
theorem dX12_of_71 : decode cX12_of 71 = .ok (.if_icmp .ge 30, 3) := by decide +kernel
theorem dX12_of_74 : decode cX12_of 74 = .ok (.iload_n 3, 1) := by decide +kernel
theorem dX12_of_75 : decode cX12_of 75 = .ok (.aload_n 0, 1) := by decide +kernel
theorem dX12_of_76 : decode cX12_of 76 = .ok (.getfield 9, 3) := by decide +kernel
theorem dX12_of_79 : decode cX12_of 79 = .ok (.iload 4, 2) := by decide +kernel
theorem dX12_of_81 : decode cX12_of 81 = .ok (.iconst 1, 1) := by decide +kernel
theorem dX12_of_82 : decode cX12_of 82 = .ok (.iadd, 1) := by decide +kernel
theorem dX12_of_83 : decode cX12_of 83 = .ok (.iaload, 1) := by decide +kernel
theorem dX12_of_84 : decode cX12_of 84 = .ok (.iload_n 1, 1) := by decide +kernel
theorem dX12_of_85 : decode cX12_of 85 = .ok (.if_icmp .ne 7, 3) := by decide +kernel
theorem dX12_of_88 : decode cX12_of 88 = .ok (.iconst 1, 1) := by decide +kernel
theorem dX12_of_89 : decode cX12_of 89 = .ok (.goto 4, 3) := by decide +kernel
theorem dX12_of_92 : decode cX12_of 92 = .ok (.iconst 0, 1) := by decide +kernel
theorem dX12_of_93 : decode cX12_of 93 = .ok (.iadd, 1) := by decide +kernel
theorem dX12_of_94 : decode cX12_of 94 = .ok (.istore_n 3, 1) := by decide +kernel
theorem dX12_of_95 : decode cX12_of 95 = .ok (.iinc 4 2, 3) := by decide +kernel
theorem dX12_of_98 : decode cX12_of 98 = .ok (.goto (-41), 3) := by decide +kernel
theorem dX12_of_101 : decode cX12_of 101 = .ok (.iload_n 3, 1) := by decide +kernel
theorem dX12_of_102 : decode cX12_of 102 = .ok (.ireturn, 1) := by decide +kernel
abbrev z_X12_of_174 : Z9 := (some .int, 1, 0, 0, 3, 46)
def b_X12_of_174_c57 (k_X12_of_174_c57 : Int → Int → Int → D9 → Option R9) (v1 v3 v4 : Int) (d : D9) : Option R9 := ld d 175 1604 2 (fun t1 => if w32 (256 + (2 * t1)) ≤ w32 v4 then rt v3 d else ld d 175 1604 (v4 + 1) (fun t2 => if w32 t2 ≠ w32 v1 then lt9v (v3 + 0) (fun a3 => k_X12_of_174_c57 v1 a3 (v4 + 2) d) else lt9v (v3 + 1) (fun a4 => k_X12_of_174_c57 v1 a4 (v4 + 2) d)))
def m_X12_of_174_c57 : Int → Int → Int → D9 → Option R9 := fix9 (fun _ _ _ _ => none) (fun k => b_X12_of_174_c57 k) FU
def m_X12_of_174 (p1 p2 : Int) (d : D9) : Option R9 := pf d 174 3 0 (fun d1 => cl (m_X12_isPaint_174 p1 d1) (fun r2 d3 => if w32 r2 ≠ 0 then cl (m_X12_within (w32 p2) 0 8 d3) (fun r4 d5 => if w32 r4 ≠ 0 then if w32 8 ≤ w32 p2 then m_X12_of_174_c57  p1 0 256 d5 else cl (m_X12_ofPaint_174 p1 p2 d5) (fun r6 d7 => rt r6 d7) else cl (m_X12_fails_174 2 d5) (fun r8 d9 => rt r8 d9)) else cl (m_X12_fails_174 1 d3) (fun r10 d11 => rt r10 d11)))
set_option maxRecDepth 100000 in
theorem sb_X12_of_174_c57 {G : G9} {X : X9} (C : CX G X cX12_of 5 RX12 [] z_X12_of_174) (k_X12_of_174_c57 : Int → Int → Int → D9 → Option R9) (hk_X12_of_174_c57 : ∀ (v1 v3 v4 : Int) (d : D9), SS G X 5 0 0 57 [(0, rf G 174), (1, i9 v1), (3, i9 v3), (4, i9 v4)] [] d (k_X12_of_174_c57 v1 v3 v4 d)) : ∀ (v1 v3 v4 : Int) (d : D9), SS G X 5 0 0 57 [(0, rf G 174), (1, i9 v1), (3, i9 v3), (4, i9 v4)] [] d (b_X12_of_174_c57 k_X12_of_174_c57 v1 v3 v4 d) := by
  intro v1 v3 v4 d
  unfold b_X12_of_174_c57
  refine r_iload C 3 dX12_of_57 rfl ?_
  refine r_sipush C dX12_of_59 rfl ?_
  refine r_iconst C dX12_of_62 ?_
  refine r_aload_n C 0 dX12_of_63 rfl rfl ?_
  refine r_getR C 175 dX12_of_64 fl_X12_9 la_174 ly_174 rfl rfl ?_
  refine r_iconst C dX12_of_67 ?_
  refine r_iald C dX12_of_68 la_175 ly_175 (fun t1 => ?_)
  refine r_imul C dX12_of_69 ?_
  refine r_iadd C dX12_of_70 ?_
  refine r_icmp_ge C 101 dX12_of_71 (by decide) (fun _ => ?_) (fun _ => ?_)
  · refine r_iload_n C 2 dX12_of_101 rfl rfl ?_
    exact r_iret C dX12_of_102 (by decide) (by decide)
  · refine r_iload_n C 2 dX12_of_74 rfl rfl ?_
    refine r_aload_n C 0 dX12_of_75 rfl rfl ?_
    refine r_getR C 175 dX12_of_76 fl_X12_9 la_174 ly_174 rfl rfl ?_
    refine r_iload C 3 dX12_of_79 rfl ?_
    refine r_iconst C dX12_of_81 ?_
    refine r_iadd C dX12_of_82 ?_
    refine r_iald C dX12_of_83 la_175 ly_175 (fun t2 => ?_)
    refine r_iload_n C 1 dX12_of_84 rfl rfl ?_
    refine r_icmp_ne C 92 dX12_of_85 (by decide) (fun _ => ?_) (fun _ => ?_)
    · refine r_iconst C dX12_of_92 ?_
      refine r_iadd C dX12_of_93 ?_
      refine ss_lt (fun a3 => ?_)
      refine r_istore_n C [(3, i9 a3), (0, rf G 174), (1, i9 v1), (4, i9 v4)] dX12_of_94 rfl (by decide) rfl ?_
      refine r_iinc C 3 [(4, i9 (v4 + 2)), (3, i9 a3), (0, rf G 174), (1, i9 v1)] dX12_of_95 rfl (by decide) rfl ?_
      refine r_goto C 57 dX12_of_98 (by decide) ?_
      refine ss_wide (k' := 0) (n' := 0) (by decide) (by decide) ?_
      refine ss_ls [(0, rf G 174), (1, i9 v1), (3, i9 a3), (4, i9 (v4 + 2))] [2, 3, 1, 0] rfl ?_
      exact hk_X12_of_174_c57 v1 a3 (v4 + 2) d
    · refine r_iconst C dX12_of_88 ?_
      refine r_goto C 93 dX12_of_89 (by decide) ?_
      refine r_iadd C dX12_of_93 ?_
      refine ss_lt (fun a4 => ?_)
      refine r_istore_n C [(3, i9 a4), (0, rf G 174), (1, i9 v1), (4, i9 v4)] dX12_of_94 rfl (by decide) rfl ?_
      refine r_iinc C 3 [(4, i9 (v4 + 2)), (3, i9 a4), (0, rf G 174), (1, i9 v1)] dX12_of_95 rfl (by decide) rfl ?_
      refine r_goto C 57 dX12_of_98 (by decide) ?_
      refine ss_wide (k' := 0) (n' := 0) (by decide) (by decide) ?_
      refine ss_ls [(0, rf G 174), (1, i9 v1), (3, i9 a4), (4, i9 (v4 + 2))] [2, 3, 1, 0] rfl ?_
      exact hk_X12_of_174_c57 v1 a4 (v4 + 2) d
theorem s_X12_of_174_c57 {G : G9} {X : X9} (C : CX G X cX12_of 5 RX12 [] z_X12_of_174) : ∀ (v1 v3 v4 : Int) (d : D9), SS G X 5 0 0 57 [(0, rf G 174), (1, i9 v1), (3, i9 v3), (4, i9 v4)] [] d (m_X12_of_174_c57  v1 v3 v4 d) :=
  fix9_ind (P := fun k => ∀ (v1 v3 v4 : Int) (d : D9), SS G X 5 0 0 57 [(0, rf G 174), (1, i9 v1), (3, i9 v3), (4, i9 v4)] [] d (k v1 v3 v4 d)) (fun _ _ _ _ => ss_none) (fun k hk => sb_X12_of_174_c57 C k hk) FU
set_option maxRecDepth 100000 in
theorem t_X12_of_174 {G : G9} {l : Launch} (h1 : va_D (A9 G) (wl G (fun _ _ => 0))) (h2 : l.stackTraces = false) (p1 p2 : Int) (d : D9) : MT G l yX12_of cX12_of 5 z_X12_of_174 [rf G 174, i9 p1, i9 p2] d (m_X12_of_174 p1 p2 d) := by
  refine mt_of (own := RX12) (by decide) rfl (Nat.le_of_ble_eq_true rfl) h1 h2 [(0, rf G 174), (1, i9 p1), (2, i9 p2)] rfl (fun X hX C => ?_)
  unfold m_X12_of_174
  refine r_aload_n C 0 dX12_of_0 rfl rfl ?_
  refine r_iconst C dX12_of_1 ?_
  refine r_putI C dX12_of_2 fp_X12_76 la_174 ly_174 rfl (fun d1 => ?_)
  refine r_aload_n C 0 dX12_of_5 rfl rfl ?_
  refine r_iload_n C 1 dX12_of_6 rfl rfl ?_
  refine r_callV C [i9 p1, rf G 174] dX12_of_7 (t_X12_isPaint_174 C.h1 C.h2 p1 d1) mw_X12_95 mv_X12_isPaint la_174 ly_174 rfl (by decide) (by decide) (by decide) rfl rfl (Nat.le_of_ble_eq_true rfl) (fun r2 d3 => ?_)
  show SS G X 5 _ _ 10 [(0, rf G 174), (1, i9 p1), (2, i9 p2)] [i9 r2] d3 _
  refine r_if_ne C (b := 0) 19 dX12_of_10 (by decide) (fun _ => ?_) (fun _ => ?_)
  · refine r_iload_n C 2 dX12_of_19 rfl rfl ?_
    refine r_i2l C dX12_of_20 ?_
    refine r_lconst C dX12_of_21 (a := 0) rfl ?_
    refine r_ldcL C dX12_of_22 kc_X12_131 ?_
    refine r_callS C [l9 8, l9 0, l9 (w32 p2)] dX12_of_25 (t_X12_within C.h1 C.h2 (w32 p2) 0 8 d3) mw_X12_79 ms_X12_within (by decide) (by decide) (by decide) rfl rfl (Nat.le_of_ble_eq_true rfl) (fun r4 d5 => ?_)
    show SS G X 5 _ _ 28 [(0, rf G 174), (1, i9 p1), (2, i9 p2)] [i9 r4] d5 _
    refine r_if_ne C (b := 0) 37 dX12_of_28 (by decide) (fun _ => ?_) (fun _ => ?_)
    · refine r_iload_n C 2 dX12_of_37 rfl rfl ?_
      refine r_bipush C dX12_of_38 rfl ?_
      refine r_icmp_ge C 50 dX12_of_40 (by decide) (fun _ => ?_) (fun _ => ?_)
      · refine r_iconst C dX12_of_50 ?_
        refine r_istore_n C [(3, i9 0), (0, rf G 174), (1, i9 p1), (2, i9 p2)] dX12_of_51 rfl (by decide) rfl ?_
        refine r_sipush C dX12_of_52 rfl ?_
        refine r_istore C [(4, i9 256), (3, i9 0), (0, rf G 174), (1, i9 p1), (2, i9 p2)] dX12_of_55 (by decide) rfl ?_
        refine ss_wide (k' := 0) (n' := 0) (by decide) (by decide) ?_
        refine ss_ls [(0, rf G 174), (1, i9 p1), (3, i9 0), (4, i9 256)] [2, 3, 1, 0] rfl ?_
        exact s_X12_of_174_c57 C  p1 0 256 d5
      · refine r_aload_n C 0 dX12_of_43 rfl rfl ?_
        refine r_iload_n C 1 dX12_of_44 rfl rfl ?_
        refine r_iload_n C 2 dX12_of_45 rfl rfl ?_
        refine r_callV C [i9 p2, i9 p1, rf G 174] dX12_of_46 (t_X12_ofPaint_174 C.h1 C.h2 p1 p2 d5) mw_X12_99 mv_X12_ofPaint la_174 ly_174 rfl (by decide) (by decide) (by decide) rfl rfl (Nat.le_of_ble_eq_true rfl) (fun r6 d7 => ?_)
        show SS G X 5 _ _ 49 [(0, rf G 174), (1, i9 p1), (2, i9 p2)] [i9 r6] d7 _
        exact r_iret C dX12_of_49 (by decide) (by decide)
    · refine r_aload_n C 0 dX12_of_31 rfl rfl ?_
      refine r_iconst C dX12_of_32 ?_
      refine r_callV C [i9 2, rf G 174] dX12_of_33 (t_X12_fails_174 C.h1 C.h2 2 d5) mw_X12_89 mv_X12_fails la_174 ly_174 rfl (by decide) (by decide) (by decide) rfl rfl (Nat.le_of_ble_eq_true rfl) (fun r8 d9 => ?_)
      show SS G X 5 _ _ 36 [(0, rf G 174), (1, i9 p1), (2, i9 p2)] [i9 r8] d9 _
      exact r_iret C dX12_of_36 (by decide) (by decide)
  · refine r_aload_n C 0 dX12_of_13 rfl rfl ?_
    refine r_iconst C dX12_of_14 ?_
    refine r_callV C [i9 1, rf G 174] dX12_of_15 (t_X12_fails_174 C.h1 C.h2 1 d3) mw_X12_89 mv_X12_fails la_174 ly_174 rfl (by decide) (by decide) (by decide) rfl rfl (Nat.le_of_ble_eq_true rfl) (fun r10 d11 => ?_)
    show SS G X 5 _ _ 18 [(0, rf G 174), (1, i9 p1), (2, i9 p2)] [i9 r10] d11 _
    exact r_iret C dX12_of_18 (by decide) (by decide)
theorem dX12_sayingMost_0 : decode cX12_sayingMost 0 = .ok (.iconst (-1), 1) := by decide +kernel
theorem dX12_sayingMost_1 : decode cX12_sayingMost 1 = .ok (.istore_n 3, 1) := by decide +kernel
theorem dX12_sayingMost_2 : decode cX12_sayingMost 2 = .ok (.iconst 0, 1) := by decide +kernel
theorem dX12_sayingMost_3 : decode cX12_sayingMost 3 = .ok (.istore 4, 2) := by decide +kernel
theorem dX12_sayingMost_5 : decode cX12_sayingMost 5 = .ok (.iload 4, 2) := by decide +kernel
theorem dX12_sayingMost_7 : decode cX12_sayingMost 7 = .ok (.aload_n 0, 1) := by decide +kernel
theorem dX12_sayingMost_8 : decode cX12_sayingMost 8 = .ok (.getfield 9, 3) := by decide +kernel
theorem dX12_sayingMost_11 : decode cX12_sayingMost 11 = .ok (.iconst 1, 1) := by decide +kernel
theorem dX12_sayingMost_12 : decode cX12_sayingMost 12 = .ok (.iaload, 1) := by decide +kernel
theorem dX12_sayingMost_13 : decode cX12_sayingMost 13 = .ok (.if_icmp .ge 90, 3) := by decide +kernel
theorem dX12_sayingMost_16 : decode cX12_sayingMost 16 = .ok (.aload_n 0, 1) := by decide +kernel
theorem dX12_sayingMost_17 : decode cX12_sayingMost 17 = .ok (.getfield 39, 3) := by decide +kernel
theorem dX12_sayingMost_20 : decode cX12_sayingMost 20 = .ok (.iload 4, 2) := by decide +kernel
theorem dX12_sayingMost_22 : decode cX12_sayingMost 22 = .ok (.baload, 1) := by decide +kernel
theorem dX12_sayingMost_23 : decode cX12_sayingMost 23 = .ok (.ifCond .ne 74, 3) := by decide +kernel
theorem dX12_sayingMost_26 : decode cX12_sayingMost 26 = .ok (.aload_n 0, 1) := by decide +kernel
theorem dX12_sayingMost_27 : decode cX12_sayingMost 27 = .ok (.iload 4, 2) := by decide +kernel
theorem dX12_sayingMost_29 : decode cX12_sayingMost 29 = .ok (.invokevirtual 331, 3) := by decide +kernel
theorem dX12_sayingMost_32 : decode cX12_sayingMost 32 = .ok (.iconst 4, 1) := by decide +kernel
theorem dX12_sayingMost_33 : decode cX12_sayingMost 33 = .ok (.if_icmp .ne 64, 3) := by decide +kernel
theorem dX12_sayingMost_36 : decode cX12_sayingMost 36 = .ok (.aload_n 0, 1) := by decide +kernel
theorem dX12_sayingMost_37 : decode cX12_sayingMost 37 = .ok (.iload 4, 2) := by decide +kernel
theorem dX12_sayingMost_39 : decode cX12_sayingMost 39 = .ok (.iconst 2, 1) := by decide +kernel
theorem dX12_sayingMost_40 : decode cX12_sayingMost 40 = .ok (.invokevirtual 124, 3) := by decide +kernel
theorem dX12_sayingMost_43 : decode cX12_sayingMost 43 = .ok (.iload_n 1, 1) := by decide +kernel
theorem dX12_sayingMost_44 : decode cX12_sayingMost 44 = .ok (.if_icmp .eq 18, 3) := by decide +kernel
theorem dX12_sayingMost_47 : decode cX12_sayingMost 47 = .ok (.aload_n 0, 1) := by decide +kernel
theorem dX12_sayingMost_48 : decode cX12_sayingMost 48 = .ok (.aload_n 0, 1) := by decide +kernel
theorem dX12_sayingMost_49 : decode cX12_sayingMost 49 = .ok (.iload 4, 2) := by decide +kernel
theorem dX12_sayingMost_51 : decode cX12_sayingMost 51 = .ok (.iconst 2, 1) := by decide +kernel
theorem dX12_sayingMost_52 : decode cX12_sayingMost 52 = .ok (.invokevirtual 124, 3) := by decide +kernel
theorem dX12_sayingMost_55 : decode cX12_sayingMost 55 = .ok (.iload_n 1, 1) := by decide +kernel
theorem dX12_sayingMost_56 : decode cX12_sayingMost 56 = .ok (.invokevirtual 378, 3) := by decide +kernel
theorem dX12_sayingMost_59 : decode cX12_sayingMost 59 = .ok (.ifCond .eq 38, 3) := by decide +kernel
theorem dX12_sayingMost_62 : decode cX12_sayingMost 62 = .ok (.aload_n 0, 1) := by decide +kernel
theorem dX12_sayingMost_63 : decode cX12_sayingMost 63 = .ok (.iload 4, 2) := by decide +kernel
theorem dX12_sayingMost_65 : decode cX12_sayingMost 65 = .ok (.invokevirtual 334, 3) := by decide +kernel
theorem dX12_sayingMost_68 : decode cX12_sayingMost 68 = .ok (.iload_n 2, 1) := by decide +kernel
theorem dX12_sayingMost_69 : decode cX12_sayingMost 69 = .ok (.if_icmp .ge 6, 3) := by decide +kernel
theorem dX12_sayingMost_72 : decode cX12_sayingMost 72 = .ok (.goto 25, 3) := by decide +kernel
theorem dX12_sayingMost_75 : decode cX12_sayingMost 75 = .ok (.iload_n 3, 1) := by decide +kernel
theorem dX12_sayingMost_76 : decode cX12_sayingMost 76 = .ok (.iconst (-1), 1) := by decide +kernel
theorem dX12_sayingMost_77 : decode cX12_sayingMost 77 = .ok (.if_icmp .eq 17, 3) := by decide +kernel
theorem dX12_sayingMost_80 : decode cX12_sayingMost 80 = .ok (.aload_n 0, 1) := by decide +kernel
theorem dX12_sayingMost_81 : decode cX12_sayingMost 81 = .ok (.iload 4, 2) := by decide +kernel
theorem dX12_sayingMost_83 : decode cX12_sayingMost 83 = .ok (.invokevirtual 334, 3) := by decide +kernel
theorem dX12_sayingMost_86 : decode cX12_sayingMost 86 = .ok (.aload_n 0, 1) := by decide +kernel
theorem dX12_sayingMost_87 : decode cX12_sayingMost 87 = .ok (.iload_n 3, 1) := by decide +kernel
theorem dX12_sayingMost_88 : decode cX12_sayingMost 88 = .ok (.invokevirtual 334, 3) := by decide +kernel
theorem dX12_sayingMost_91 : decode cX12_sayingMost 91 = .ok (.if_icmp .le 6, 3) := by decide +kernel
theorem dX12_sayingMost_94 : decode cX12_sayingMost 94 = .ok (.iload 4, 2) := by decide +kernel
theorem dX12_sayingMost_96 : decode cX12_sayingMost 96 = .ok (.istore_n 3, 1) := by decide +kernel
theorem dX12_sayingMost_97 : decode cX12_sayingMost 97 = .ok (.iinc 4 1, 3) := by decide +kernel
theorem dX12_sayingMost_100 : decode cX12_sayingMost 100 = .ok (.goto (-95), 3) := by decide +kernel
theorem dX12_sayingMost_103 : decode cX12_sayingMost 103 = .ok (.iload_n 3, 1) := by decide +kernel
theorem dX12_sayingMost_104 : decode cX12_sayingMost 104 = .ok (.ireturn, 1) := by decide +kernel
abbrev z_X12_sayingMost_174 : Z9 := (some .int, 1, 0, 0, 9, 225)
def m_X12_sayingMost_174_c62 (k_X12_sayingMost_174_c5 : Int → Int → Int → Int → D9 → Option R9) (v1 v2 v3 v4 : Int) (d : D9) : Option R9 := cl (m_X12_saysOf_174 v4 d) (fun r1 d2 => if w32 v2 ≤ w32 r1 then if w32 v3 = w32 (-1) then k_X12_sayingMost_174_c5 v1 v2 v4 (v4 + 1) d2 else cl (m_X12_saysOf_174 v4 d2) (fun r3 d4 => cl (m_X12_saysOf_174 v3 d4) (fun r5 d6 => if w32 r3 ≤ w32 r5 then k_X12_sayingMost_174_c5 v1 v2 v3 (v4 + 1) d6 else k_X12_sayingMost_174_c5 v1 v2 v4 (v4 + 1) d6)) else k_X12_sayingMost_174_c5 v1 v2 v3 (v4 + 1) d2)
def b_X12_sayingMost_174_c5 (k_X12_sayingMost_174_c5 : Int → Int → Int → Int → D9 → Option R9) (v1 v2 v3 v4 : Int) (d : D9) : Option R9 := ld d 175 1604 1 (fun t1 => if w32 t1 ≤ w32 v4 then rt v3 d else ld d 183 30 v4 (fun t2 => if w32 t2 ≠ 0 then k_X12_sayingMost_174_c5 v1 v2 v3 (v4 + 1) d else cl (m_X12_sortOf_174 v4 d) (fun r3 d4 => if w32 r3 ≠ w32 4 then k_X12_sayingMost_174_c5 v1 v2 v3 (v4 + 1) d4 else cl (m_X12_ofSkin_174 v4 2 d4) (fun r5 d6 => if w32 r5 = w32 v1 then m_X12_sayingMost_174_c62 k_X12_sayingMost_174_c5 v1 v2 v3 v4 d6 else cl (m_X12_ofSkin_174 v4 2 d6) (fun r7 d8 => cl (m_X12_isAbove_174 r7 v1 d8) (fun r9 d10 => if w32 r9 = 0 then k_X12_sayingMost_174_c5 v1 v2 v3 (v4 + 1) d10 else m_X12_sayingMost_174_c62 k_X12_sayingMost_174_c5 v1 v2 v3 v4 d10))))))
def m_X12_sayingMost_174_c5 : Int → Int → Int → Int → D9 → Option R9 := fix9 (fun _ _ _ _ _ => none) (fun k => b_X12_sayingMost_174_c5 k) FU
def m_X12_sayingMost_174 (p1 p2 : Int) (d : D9) : Option R9 := m_X12_sayingMost_174_c5  p1 p2 (-1) 0 d
set_option maxRecDepth 100000 in
theorem s_X12_sayingMost_174_c62 {G : G9} {X : X9} (C : CX G X cX12_sayingMost 5 RX12 [] z_X12_sayingMost_174) (k_X12_sayingMost_174_c5 : Int → Int → Int → Int → D9 → Option R9) (hk_X12_sayingMost_174_c5 : ∀ (v1 v2 v3 v4 : Int) (d : D9), SS G X 5 0 0 5 [(0, rf G 174), (1, i9 v1), (2, i9 v2), (3, i9 v3), (4, i9 v4)] [] d (k_X12_sayingMost_174_c5 v1 v2 v3 v4 d)) : ∀ (v1 v2 v3 v4 : Int) (d : D9), SS G X 5 0 0 62 [(0, rf G 174), (1, i9 v1), (2, i9 v2), (3, i9 v3), (4, i9 v4)] [] d (m_X12_sayingMost_174_c62 k_X12_sayingMost_174_c5 v1 v2 v3 v4 d) := by
  intro v1 v2 v3 v4 d
  unfold m_X12_sayingMost_174_c62
  refine r_aload_n C 0 dX12_sayingMost_62 rfl rfl ?_
  refine r_iload C 4 dX12_sayingMost_63 rfl ?_
  refine r_callV C [i9 v4, rf G 174] dX12_sayingMost_65 (t_X12_saysOf_174 C.h1 C.h2 v4 d) mw_X12_334 mv_X12_saysOf la_174 ly_174 rfl (by decide) (by decide) (by decide) rfl rfl (Nat.le_of_ble_eq_true rfl) (fun r1 d2 => ?_)
  show SS G X 5 _ _ 68 [(0, rf G 174), (1, i9 v1), (2, i9 v2), (3, i9 v3), (4, i9 v4)] [i9 r1] d2 _
  refine r_iload_n C 2 dX12_sayingMost_68 rfl rfl ?_
  refine r_icmp_ge C 75 dX12_sayingMost_69 (by decide) (fun _ => ?_) (fun _ => ?_)
  · refine r_iload_n C 3 dX12_sayingMost_75 rfl rfl ?_
    refine r_iconst C dX12_sayingMost_76 ?_
    refine r_icmp_eq C 94 dX12_sayingMost_77 (by decide) (fun _ => ?_) (fun _ => ?_)
    · refine r_iload C 4 dX12_sayingMost_94 rfl ?_
      refine r_istore_n C [(3, i9 v4), (0, rf G 174), (1, i9 v1), (2, i9 v2), (4, i9 v4)] dX12_sayingMost_96 rfl (by decide) rfl ?_
      refine r_iinc C 4 [(4, i9 (v4 + 1)), (3, i9 v4), (0, rf G 174), (1, i9 v1), (2, i9 v2)] dX12_sayingMost_97 rfl (by decide) rfl ?_
      refine r_goto C 5 dX12_sayingMost_100 (by decide) ?_
      refine ss_wide (k' := 0) (n' := 0) (by decide) (by decide) ?_
      refine ss_ls [(0, rf G 174), (1, i9 v1), (2, i9 v2), (3, i9 v4), (4, i9 (v4 + 1))] [2, 3, 4, 1, 0] rfl ?_
      exact hk_X12_sayingMost_174_c5 v1 v2 v4 (v4 + 1) d2
    · refine r_aload_n C 0 dX12_sayingMost_80 rfl rfl ?_
      refine r_iload C 4 dX12_sayingMost_81 rfl ?_
      refine r_callV C [i9 v4, rf G 174] dX12_sayingMost_83 (t_X12_saysOf_174 C.h1 C.h2 v4 d2) mw_X12_334 mv_X12_saysOf la_174 ly_174 rfl (by decide) (by decide) (by decide) rfl rfl (Nat.le_of_ble_eq_true rfl) (fun r3 d4 => ?_)
      show SS G X 5 _ _ 86 [(0, rf G 174), (1, i9 v1), (2, i9 v2), (3, i9 v3), (4, i9 v4)] [i9 r3] d4 _
      refine r_aload_n C 0 dX12_sayingMost_86 rfl rfl ?_
      refine r_iload_n C 3 dX12_sayingMost_87 rfl rfl ?_
      refine r_callV C [i9 v3, rf G 174, i9 r3] dX12_sayingMost_88 (t_X12_saysOf_174 C.h1 C.h2 v3 d4) mw_X12_334 mv_X12_saysOf la_174 ly_174 rfl (by decide) (by decide) (by decide) rfl rfl (Nat.le_of_ble_eq_true rfl) (fun r5 d6 => ?_)
      show SS G X 5 _ _ 91 [(0, rf G 174), (1, i9 v1), (2, i9 v2), (3, i9 v3), (4, i9 v4)] [i9 r5, i9 r3] d6 _
      refine r_icmp_le C 97 dX12_sayingMost_91 (by decide) (fun _ => ?_) (fun _ => ?_)
      · refine r_iinc C 4 [(4, i9 (v4 + 1)), (0, rf G 174), (1, i9 v1), (2, i9 v2), (3, i9 v3)] dX12_sayingMost_97 rfl (by decide) rfl ?_
        refine r_goto C 5 dX12_sayingMost_100 (by decide) ?_
        refine ss_wide (k' := 0) (n' := 0) (by decide) (by decide) ?_
        refine ss_ls [(0, rf G 174), (1, i9 v1), (2, i9 v2), (3, i9 v3), (4, i9 (v4 + 1))] [1, 2, 3, 4, 0] rfl ?_
        exact hk_X12_sayingMost_174_c5 v1 v2 v3 (v4 + 1) d6
      · refine r_iload C 4 dX12_sayingMost_94 rfl ?_
        refine r_istore_n C [(3, i9 v4), (0, rf G 174), (1, i9 v1), (2, i9 v2), (4, i9 v4)] dX12_sayingMost_96 rfl (by decide) rfl ?_
        refine r_iinc C 4 [(4, i9 (v4 + 1)), (3, i9 v4), (0, rf G 174), (1, i9 v1), (2, i9 v2)] dX12_sayingMost_97 rfl (by decide) rfl ?_
        refine r_goto C 5 dX12_sayingMost_100 (by decide) ?_
        refine ss_wide (k' := 0) (n' := 0) (by decide) (by decide) ?_
        refine ss_ls [(0, rf G 174), (1, i9 v1), (2, i9 v2), (3, i9 v4), (4, i9 (v4 + 1))] [2, 3, 4, 1, 0] rfl ?_
        exact hk_X12_sayingMost_174_c5 v1 v2 v4 (v4 + 1) d6
  · refine r_goto C 97 dX12_sayingMost_72 (by decide) ?_
    refine r_iinc C 4 [(4, i9 (v4 + 1)), (0, rf G 174), (1, i9 v1), (2, i9 v2), (3, i9 v3)] dX12_sayingMost_97 rfl (by decide) rfl ?_
    refine r_goto C 5 dX12_sayingMost_100 (by decide) ?_
    refine ss_wide (k' := 0) (n' := 0) (by decide) (by decide) ?_
    refine ss_ls [(0, rf G 174), (1, i9 v1), (2, i9 v2), (3, i9 v3), (4, i9 (v4 + 1))] [1, 2, 3, 4, 0] rfl ?_
    exact hk_X12_sayingMost_174_c5 v1 v2 v3 (v4 + 1) d2
set_option maxRecDepth 100000 in
theorem sb_X12_sayingMost_174_c5 {G : G9} {X : X9} (C : CX G X cX12_sayingMost 5 RX12 [] z_X12_sayingMost_174) (k_X12_sayingMost_174_c5 : Int → Int → Int → Int → D9 → Option R9) (hk_X12_sayingMost_174_c5 : ∀ (v1 v2 v3 v4 : Int) (d : D9), SS G X 5 0 0 5 [(0, rf G 174), (1, i9 v1), (2, i9 v2), (3, i9 v3), (4, i9 v4)] [] d (k_X12_sayingMost_174_c5 v1 v2 v3 v4 d)) : ∀ (v1 v2 v3 v4 : Int) (d : D9), SS G X 5 0 0 5 [(0, rf G 174), (1, i9 v1), (2, i9 v2), (3, i9 v3), (4, i9 v4)] [] d (b_X12_sayingMost_174_c5 k_X12_sayingMost_174_c5 v1 v2 v3 v4 d) := by
  intro v1 v2 v3 v4 d
  unfold b_X12_sayingMost_174_c5
  refine r_iload C 4 dX12_sayingMost_5 rfl ?_
  refine r_aload_n C 0 dX12_sayingMost_7 rfl rfl ?_
  refine r_getR C 175 dX12_sayingMost_8 fl_X12_9 la_174 ly_174 rfl rfl ?_
  refine r_iconst C dX12_sayingMost_11 ?_
  refine r_iald C dX12_sayingMost_12 la_175 ly_175 (fun t1 => ?_)
  refine r_icmp_ge C 103 dX12_sayingMost_13 (by decide) (fun _ => ?_) (fun _ => ?_)
  · refine r_iload_n C 3 dX12_sayingMost_103 rfl rfl ?_
    exact r_iret C dX12_sayingMost_104 (by decide) (by decide)
  · refine r_aload_n C 0 dX12_sayingMost_16 rfl rfl ?_
    refine r_getR C 183 dX12_sayingMost_17 fl_X12_39 la_174 ly_174 rfl rfl ?_
    refine r_iload C 4 dX12_sayingMost_20 rfl ?_
    refine r_zald C dX12_sayingMost_22 la_183 ly_183 (fun t2 => ?_)
    refine r_if_ne C (b := 0) 97 dX12_sayingMost_23 (by decide) (fun _ => ?_) (fun _ => ?_)
    · refine r_iinc C 4 [(4, i9 (v4 + 1)), (0, rf G 174), (1, i9 v1), (2, i9 v2), (3, i9 v3)] dX12_sayingMost_97 rfl (by decide) rfl ?_
      refine r_goto C 5 dX12_sayingMost_100 (by decide) ?_
      refine ss_wide (k' := 0) (n' := 0) (by decide) (by decide) ?_
      refine ss_ls [(0, rf G 174), (1, i9 v1), (2, i9 v2), (3, i9 v3), (4, i9 (v4 + 1))] [1, 2, 3, 4, 0] rfl ?_
      exact hk_X12_sayingMost_174_c5 v1 v2 v3 (v4 + 1) d
    · refine r_aload_n C 0 dX12_sayingMost_26 rfl rfl ?_
      refine r_iload C 4 dX12_sayingMost_27 rfl ?_
      refine r_callV C [i9 v4, rf G 174] dX12_sayingMost_29 (t_X12_sortOf_174 C.h1 C.h2 v4 d) mw_X12_331 mv_X12_sortOf la_174 ly_174 rfl (by decide) (by decide) (by decide) rfl rfl (Nat.le_of_ble_eq_true rfl) (fun r3 d4 => ?_)
      show SS G X 5 _ _ 32 [(0, rf G 174), (1, i9 v1), (2, i9 v2), (3, i9 v3), (4, i9 v4)] [i9 r3] d4 _
      refine r_iconst C dX12_sayingMost_32 ?_
      refine r_icmp_ne C 97 dX12_sayingMost_33 (by decide) (fun _ => ?_) (fun _ => ?_)
      · refine r_iinc C 4 [(4, i9 (v4 + 1)), (0, rf G 174), (1, i9 v1), (2, i9 v2), (3, i9 v3)] dX12_sayingMost_97 rfl (by decide) rfl ?_
        refine r_goto C 5 dX12_sayingMost_100 (by decide) ?_
        refine ss_wide (k' := 0) (n' := 0) (by decide) (by decide) ?_
        refine ss_ls [(0, rf G 174), (1, i9 v1), (2, i9 v2), (3, i9 v3), (4, i9 (v4 + 1))] [1, 2, 3, 4, 0] rfl ?_
        exact hk_X12_sayingMost_174_c5 v1 v2 v3 (v4 + 1) d4
      · refine r_aload_n C 0 dX12_sayingMost_36 rfl rfl ?_
        refine r_iload C 4 dX12_sayingMost_37 rfl ?_
        refine r_iconst C dX12_sayingMost_39 ?_
        refine r_callV C [i9 2, i9 v4, rf G 174] dX12_sayingMost_40 (t_X12_ofSkin_174 C.h1 C.h2 v4 2 d4) mw_X12_124 mv_X12_ofSkin la_174 ly_174 rfl (by decide) (by decide) (by decide) rfl rfl (Nat.le_of_ble_eq_true rfl) (fun r5 d6 => ?_)
        show SS G X 5 _ _ 43 [(0, rf G 174), (1, i9 v1), (2, i9 v2), (3, i9 v3), (4, i9 v4)] [i9 r5] d6 _
        refine r_iload_n C 1 dX12_sayingMost_43 rfl rfl ?_
        refine r_icmp_eq C 62 dX12_sayingMost_44 (by decide) (fun _ => ?_) (fun _ => ?_)
        · refine ss_wide (k' := 0) (n' := 0) (by decide) (by decide) ?_
          refine ss_ls [(0, rf G 174), (1, i9 v1), (2, i9 v2), (3, i9 v3), (4, i9 v4)] [0, 1, 2, 3, 4] rfl ?_
          exact s_X12_sayingMost_174_c62 C k_X12_sayingMost_174_c5 hk_X12_sayingMost_174_c5 v1 v2 v3 v4 d6
        · refine r_aload_n C 0 dX12_sayingMost_47 rfl rfl ?_
          refine r_aload_n C 0 dX12_sayingMost_48 rfl rfl ?_
          refine r_iload C 4 dX12_sayingMost_49 rfl ?_
          refine r_iconst C dX12_sayingMost_51 ?_
          refine r_callV C [i9 2, i9 v4, rf G 174, rf G 174] dX12_sayingMost_52 (t_X12_ofSkin_174 C.h1 C.h2 v4 2 d6) mw_X12_124 mv_X12_ofSkin la_174 ly_174 rfl (by decide) (by decide) (by decide) rfl rfl (Nat.le_of_ble_eq_true rfl) (fun r7 d8 => ?_)
          show SS G X 5 _ _ 55 [(0, rf G 174), (1, i9 v1), (2, i9 v2), (3, i9 v3), (4, i9 v4)] [i9 r7, rf G 174] d8 _
          refine r_iload_n C 1 dX12_sayingMost_55 rfl rfl ?_
          refine r_callV C [i9 v1, i9 r7, rf G 174] dX12_sayingMost_56 (t_X12_isAbove_174 C.h1 C.h2 r7 v1 d8) mw_X12_378 mv_X12_isAbove la_174 ly_174 rfl (by decide) (by decide) (by decide) rfl rfl (Nat.le_of_ble_eq_true rfl) (fun r9 d10 => ?_)
          show SS G X 5 _ _ 59 [(0, rf G 174), (1, i9 v1), (2, i9 v2), (3, i9 v3), (4, i9 v4)] [i9 r9] d10 _
          refine r_if_eq C (b := 0) 97 dX12_sayingMost_59 (by decide) (fun _ => ?_) (fun _ => ?_)
          · refine r_iinc C 4 [(4, i9 (v4 + 1)), (0, rf G 174), (1, i9 v1), (2, i9 v2), (3, i9 v3)] dX12_sayingMost_97 rfl (by decide) rfl ?_
            refine r_goto C 5 dX12_sayingMost_100 (by decide) ?_
            refine ss_wide (k' := 0) (n' := 0) (by decide) (by decide) ?_
            refine ss_ls [(0, rf G 174), (1, i9 v1), (2, i9 v2), (3, i9 v3), (4, i9 (v4 + 1))] [1, 2, 3, 4, 0] rfl ?_
            exact hk_X12_sayingMost_174_c5 v1 v2 v3 (v4 + 1) d10
          · refine ss_wide (k' := 0) (n' := 0) (by decide) (by decide) ?_
            refine ss_ls [(0, rf G 174), (1, i9 v1), (2, i9 v2), (3, i9 v3), (4, i9 v4)] [0, 1, 2, 3, 4] rfl ?_
            exact s_X12_sayingMost_174_c62 C k_X12_sayingMost_174_c5 hk_X12_sayingMost_174_c5 v1 v2 v3 v4 d10
theorem s_X12_sayingMost_174_c5 {G : G9} {X : X9} (C : CX G X cX12_sayingMost 5 RX12 [] z_X12_sayingMost_174) : ∀ (v1 v2 v3 v4 : Int) (d : D9), SS G X 5 0 0 5 [(0, rf G 174), (1, i9 v1), (2, i9 v2), (3, i9 v3), (4, i9 v4)] [] d (m_X12_sayingMost_174_c5  v1 v2 v3 v4 d) :=
  fix9_ind (P := fun k => ∀ (v1 v2 v3 v4 : Int) (d : D9), SS G X 5 0 0 5 [(0, rf G 174), (1, i9 v1), (2, i9 v2), (3, i9 v3), (4, i9 v4)] [] d (k v1 v2 v3 v4 d)) (fun _ _ _ _ _ => ss_none) (fun k hk => sb_X12_sayingMost_174_c5 C k hk) FU
set_option maxRecDepth 100000 in
theorem t_X12_sayingMost_174 {G : G9} {l : Launch} (h1 : va_D (A9 G) (wl G (fun _ _ => 0))) (h2 : l.stackTraces = false) (p1 p2 : Int) (d : D9) : MT G l yX12_sayingMost cX12_sayingMost 5 z_X12_sayingMost_174 [rf G 174, i9 p1, i9 p2] d (m_X12_sayingMost_174 p1 p2 d) := by
  refine mt_of (own := RX12) (by decide) rfl (Nat.le_of_ble_eq_true rfl) h1 h2 [(0, rf G 174), (1, i9 p1), (2, i9 p2)] rfl (fun X hX C => ?_)
  unfold m_X12_sayingMost_174
  refine r_iconst C dX12_sayingMost_0 ?_
  refine r_istore_n C [(3, i9 (-1)), (0, rf G 174), (1, i9 p1), (2, i9 p2)] dX12_sayingMost_1 rfl (by decide) rfl ?_
  refine r_iconst C dX12_sayingMost_2 ?_
  refine r_istore C [(4, i9 0), (3, i9 (-1)), (0, rf G 174), (1, i9 p1), (2, i9 p2)] dX12_sayingMost_3 (by decide) rfl ?_
  refine ss_wide (k' := 0) (n' := 0) (by decide) (by decide) ?_
  refine ss_ls [(0, rf G 174), (1, i9 p1), (2, i9 p2), (3, i9 (-1)), (4, i9 0)] [2, 3, 4, 1, 0] rfl ?_
  exact s_X12_sayingMost_174_c5 C  p1 p2 (-1) 0 d
theorem dX12_older_0 : decode cX12_older 0 = .ok (.aload_n 0, 1) := by decide +kernel
theorem dX12_older_1 : decode cX12_older 1 = .ok (.aload_n 0, 1) := by decide +kernel
theorem dX12_older_2 : decode cX12_older 2 = .ok (.iload_n 1, 1) := by decide +kernel
theorem dX12_older_3 : decode cX12_older 3 = .ok (.invokevirtual 95, 3) := by decide +kernel
theorem dX12_older_6 : decode cX12_older 6 = .ok (.ifCond .ne 7, 3) := by decide +kernel
theorem dX12_older_9 : decode cX12_older 9 = .ok (.iconst 1, 1) := by decide +kernel
theorem dX12_older_10 : decode cX12_older 10 = .ok (.goto 20, 3) := by decide +kernel
theorem dX12_older_13 : decode cX12_older 13 = .ok (.iload_n 2, 1) := by decide +kernel
theorem dX12_older_14 : decode cX12_older 14 = .ok (.i2l, 1) := by decide +kernel
theorem dX12_older_15 : decode cX12_older 15 = .ok (.lconst 1, 1) := by decide +kernel
theorem dX12_older_16 : decode cX12_older 16 = .ok (.ldc2_w 368, 3) := by decide +kernel
theorem dX12_older_19 : decode cX12_older 19 = .ok (.invokestatic 79, 3) := by decide +kernel
theorem dX12_older_22 : decode cX12_older 22 = .ok (.ifCond .eq 7, 3) := by decide +kernel
theorem dX12_older_25 : decode cX12_older 25 = .ok (.iconst 0, 1) := by decide +kernel
theorem dX12_older_26 : decode cX12_older 26 = .ok (.goto 4, 3) := by decide +kernel
theorem dX12_older_29 : decode cX12_older 29 = .ok (.iconst 2, 1) := by decide +kernel
theorem dX12_older_30 : decode cX12_older 30 = .ok (.putfield 76, 3) := by decide +kernel
theorem dX12_older_33 : decode cX12_older 33 = .ok (.aload_n 0, 1) := by decide +kernel
theorem dX12_older_34 : decode cX12_older 34 = .ok (.getfield 76, 3) := by decide +kernel
theorem dX12_older_37 : decode cX12_older 37 = .ok (.ifCond .le 4, 3) := by decide +kernel
theorem dX12_older_40 : decode cX12_older 40 = .ok (.return_, 1) := by decide +kernel
theorem dX12_older_41 : decode cX12_older 41 = .ok (.aload_n 0, 1) := by decide +kernel
theorem dX12_older_42 : decode cX12_older 42 = .ok (.invokevirtual 381, 3) := by decide +kernel
theorem dX12_older_45 : decode cX12_older 45 = .ok (.iconst 0, 1) := by decide +kernel
theorem dX12_older_46 : decode cX12_older 46 = .ok (.istore_n 3, 1) := by decide +kernel
theorem dX12_older_47 : decode cX12_older 47 = .ok (.iload_n 3, 1) := by decide +kernel
theorem dX12_older_48 : decode cX12_older 48 = .ok (.bipush 30, 2) := by decide +kernel
theorem dX12_older_50 : decode cX12_older 50 = .ok (.if_icmp .ge 16, 3) := by decide +kernel
theorem dX12_older_53 : decode cX12_older 53 = .ok (.aload_n 0, 1) := by decide +kernel
theorem dX12_older_54 : decode cX12_older 54 = .ok (.getfield 39, 3) := by decide +kernel
theorem dX12_older_57 : decode cX12_older 57 = .ok (.iload_n 3, 1) := by decide +kernel
theorem dX12_older_58 : decode cX12_older 58 = .ok (.iconst 0, 1) := by decide +kernel
theorem dX12_older_59 : decode cX12_older 59 = .ok (.bastore, 1) := by decide +kernel
theorem dX12_older_60 : decode cX12_older 60 = .ok (.iinc 3 1, 3) := by decide +kernel
theorem dX12_older_63 : decode cX12_older 63 = .ok (.goto (-16), 3) := by decide +kernel
theorem dX12_older_66 : decode cX12_older 66 = .ok (.lconst 1, 1) := by decide +kernel
theorem dX12_older_67 : decode cX12_older 67 = .ok (.lstore_n 3, 1) := by decide +kernel
theorem dX12_older_68 : decode cX12_older 68 = .ok (.lconst 1, 1) := by decide +kernel
theorem dX12_older_69 : decode cX12_older 69 = .ok (.lstore 5, 2) := by decide +kernel
theorem dX12_older_71 : decode cX12_older 71 = .ok (.iconst 0, 1) := by decide +kernel
theorem dX12_older_72 : decode cX12_older 72 = .ok (.istore 7, 2) := by decide +kernel
theorem dX12_older_74 : decode cX12_older 74 = .ok (.iload 7, 2) := by decide +kernel
theorem dX12_older_76 : decode cX12_older 76 = .ok (.iconst 5, 1) := by decide +kernel
theorem dX12_older_77 : decode cX12_older 77 = .ok (.if_icmp .ge 56, 3) := by decide +kernel
theorem dX12_older_80 : decode cX12_older 80 = .ok (.aload_n 0, 1) := by decide +kernel
theorem dX12_older_81 : decode cX12_older 81 = .ok (.iload_n 1, 1) := by decide +kernel
theorem dX12_older_82 : decode cX12_older 82 = .ok (.iload_n 2, 1) := by decide +kernel
theorem dX12_older_83 : decode cX12_older 83 = .ok (.invokevirtual 391, 3) := by decide +kernel
theorem dX12_older_86 : decode cX12_older 86 = .ok (.istore 8, 2) := by decide +kernel
theorem dX12_older_88 : decode cX12_older 88 = .ok (.iload 8, 2) := by decide +kernel
theorem dX12_older_90 : decode cX12_older 90 = .ok (.iconst (-1), 1) := by decide +kernel
theorem dX12_older_91 : decode cX12_older 91 = .ok (.if_icmp .ne 6, 3) := by decide +kernel
theorem dX12_older_94 : decode cX12_older 94 = .ok (.goto 33, 3) := by decide +kernel
theorem dX12_older_97 : decode cX12_older 97 = .ok (.aload_n 0, 1) := by decide +kernel
theorem dX12_older_98 : decode cX12_older 98 = .ok (.getfield 39, 3) := by decide +kernel
theorem dX12_older_101 : decode cX12_older 101 = .ok (.iload 8, 2) := by decide +kernel
theorem dX12_older_103 : decode cX12_older 103 = .ok (.iconst 1, 1) := by decide +kernel
theorem dX12_older_104 : decode cX12_older 104 = .ok (.bastore, 1) := by decide +kernel
theorem dX12_older_105 : decode cX12_older 105 = .ok (.aload_n 0, 1) := by decide +kernel
theorem dX12_older_106 : decode cX12_older 106 = .ok (.iload 8, 2) := by decide +kernel
theorem dX12_older_108 : decode cX12_older 108 = .ok (.invokevirtual 352, 3) := by decide +kernel
theorem dX12_older_111 : decode cX12_older 111 = .ok (.lload_n 3, 1) := by decide +kernel
theorem dX12_older_112 : decode cX12_older 112 = .ok (.aload_n 0, 1) := by decide +kernel
theorem dX12_older_113 : decode cX12_older 113 = .ok (.getfield 344, 3) := by decide +kernel
theorem dX12_older_116 : decode cX12_older 116 = .ok (.lmul, 1) := by decide +kernel
theorem dX12_older_117 : decode cX12_older 117 = .ok (.lstore_n 3, 1) := by decide +kernel
theorem dX12_older_118 : decode cX12_older 118 = .ok (.lload 5, 2) := by decide +kernel
theorem dX12_older_120 : decode cX12_older 120 = .ok (.aload_n 0, 1) := by decide +kernel
theorem dX12_older_121 : decode cX12_older 121 = .ok (.getfield 349, 3) := by decide +kernel
theorem dX12_older_124 : decode cX12_older 124 = .ok (.lmul, 1) := by decide +kernel
theorem dX12_older_125 : decode cX12_older 125 = .ok (.lstore 5, 2) := by decide +kernel
theorem dX12_older_127 : decode cX12_older 127 = .ok (.iinc 7 1, 3) := by decide +kernel
theorem dX12_older_130 : decode cX12_older 130 = .ok (.goto (-56), 3) := by decide +kernel
theorem dX12_older_133 : decode cX12_older 133 = .ok (.aload_n 0, 1) := by decide +kernel
theorem dX12_older_134 : decode cX12_older 134 = .ok (.lload 5, 2) := by decide +kernel
theorem dX12_older_136 : decode cX12_older 136 = .ok (.lload_n 3, 1) := by decide +kernel
theorem dX12_older_137 : decode cX12_older 137 = .ok (.lsub, 1) := by decide +kernel
theorem dX12_older_138 : decode cX12_older 138 = .ok (.lload 5, 2) := by decide +kernel
theorem dX12_older_140 : decode cX12_older 140 = .ok (.invokevirtual 355, 3) := by decide +kernel
theorem dX12_older_143 : decode cX12_older 143 = .ok (.pop, 1) := by decide +kernel
theorem dX12_older_144 : decode cX12_older 144 = .ok (.return_, 1) := by decide +kernel
abbrev z_X12_older_174 : Z9 := (none, 0, 0, 0, 10, 249)
def b_X12_older_174_c74 (k_X12_older_174_c74 : Int → Int → Int → Int → Int → D9 → Option R9) (v1 v2 v3 v5 v7 : Int) (d : D9) : Option R9 := if w32 5 ≤ w32 v7 then cl (m_X12_fraction_174 (v5 - v3) v5 d) (fun r1 d2 => rt 0 d2) else cl (m_X12_sayingMost_174 v1 v2 d) (fun r3 d4 => if w32 r3 ≠ w32 (-1) then sd d4 183 30 r3 (1 % 2) (fun d5 => cl (m_X12_layLeaked_174 r3 d5) (fun r6 d7 => lt9v (v3 * (d7 174 22)) (fun a8 => lt9v (v5 * (d7 174 23)) (fun a9 => k_X12_older_174_c74 v1 v2 a8 a9 (v7 + 1) d7)))) else k_X12_older_174_c74 v1 v2 v3 v5 (v7 + 1) d4)
def m_X12_older_174_c74 : Int → Int → Int → Int → Int → D9 → Option R9 := fix9 (fun _ _ _ _ _ _ => none) (fun k => b_X12_older_174_c74 k) FU
def b_X12_older_174_c47 (k_X12_older_174_c47 : Int → Int → Int → D9 → Option R9) (v1 v2 v3 : Int) (d : D9) : Option R9 := if w32 30 ≤ w32 v3 then m_X12_older_174_c74  v1 v2 1 1 0 d else sd d 183 30 v3 (0 % 2) (fun d1 => k_X12_older_174_c47 v1 v2 (v3 + 1) d1)
def m_X12_older_174_c47 : Int → Int → Int → D9 → Option R9 := fix9 (fun _ _ _ _ => none) (fun k => b_X12_older_174_c47 k) FU
def m_X12_older_174_c30 (v1 v2 s0 : Int) (d : D9) : Option R9 := pf d 174 3 s0 (fun d1 => if w32 (d1 174 3) ≤ 0 then cl (m_X12_layReach_174 d1) (fun r2 d3 => m_X12_older_174_c47  v1 v2 0 d3) else rt 0 d1)
def m_X12_older_174 (p1 p2 : Int) (d : D9) : Option R9 := cl (m_X12_isPaint_174 p1 d) (fun r1 d2 => if w32 r1 ≠ 0 then cl (m_X12_within (w32 p2) 1 400 d2) (fun r3 d4 => if w32 r3 = 0 then m_X12_older_174_c30  p1 p2 2 d4 else m_X12_older_174_c30  p1 p2 0 d4) else m_X12_older_174_c30  p1 p2 1 d2)
set_option maxRecDepth 100000 in
theorem sb_X12_older_174_c74 {G : G9} {X : X9} (C : CX G X cX12_older 9 RX12 [] z_X12_older_174) (k_X12_older_174_c74 : Int → Int → Int → Int → Int → D9 → Option R9) (hk_X12_older_174_c74 : ∀ (v1 v2 v3 v5 v7 : Int) (d : D9), SS G X 9 0 0 74 [(0, rf G 174), (1, i9 v1), (2, i9 v2), (3, l9 v3), (5, l9 v5), (7, i9 v7)] [] d (k_X12_older_174_c74 v1 v2 v3 v5 v7 d)) : ∀ (v1 v2 v3 v5 v7 : Int) (d : D9), SS G X 9 0 0 74 [(0, rf G 174), (1, i9 v1), (2, i9 v2), (3, l9 v3), (5, l9 v5), (7, i9 v7)] [] d (b_X12_older_174_c74 k_X12_older_174_c74 v1 v2 v3 v5 v7 d) := by
  intro v1 v2 v3 v5 v7 d
  unfold b_X12_older_174_c74
  refine r_iload C 5 dX12_older_74 rfl ?_
  refine r_iconst C dX12_older_76 ?_
  refine r_icmp_ge C 133 dX12_older_77 (by decide) (fun _ => ?_) (fun _ => ?_)
  · refine r_aload_n C 0 dX12_older_133 rfl rfl ?_
    refine r_lload C 4 dX12_older_134 rfl ?_
    refine r_lload_n C 3 dX12_older_136 rfl rfl ?_
    refine r_lsub C dX12_older_137 ?_
    refine r_lload C 4 dX12_older_138 rfl ?_
    refine r_callV C [l9 v5, l9 (v5 - v3), rf G 174] dX12_older_140 (t_X12_fraction_174 C.h1 C.h2 (v5 - v3) v5 d) mw_X12_355 mv_X12_fraction la_174 ly_174 rfl (by decide) (by decide) (by decide) rfl rfl (Nat.le_of_ble_eq_true rfl) (fun r1 d2 => ?_)
    show SS G X 9 _ _ 143 [(0, rf G 174), (1, i9 v1), (2, i9 v2), (3, l9 v3), (5, l9 v5), (7, i9 v7)] [i9 r1] d2 _
    refine r_pop C dX12_older_143 rfl ?_
    exact r_vret C dX12_older_144 (by decide) (by decide)
  · refine r_aload_n C 0 dX12_older_80 rfl rfl ?_
    refine r_iload_n C 1 dX12_older_81 rfl rfl ?_
    refine r_iload_n C 2 dX12_older_82 rfl rfl ?_
    refine r_callV C [i9 v2, i9 v1, rf G 174] dX12_older_83 (t_X12_sayingMost_174 C.h1 C.h2 v1 v2 d) mw_X12_391 mv_X12_sayingMost la_174 ly_174 rfl (by decide) (by decide) (by decide) rfl rfl (Nat.le_of_ble_eq_true rfl) (fun r3 d4 => ?_)
    show SS G X 9 _ _ 86 [(0, rf G 174), (1, i9 v1), (2, i9 v2), (3, l9 v3), (5, l9 v5), (7, i9 v7)] [i9 r3] d4 _
    refine r_istore C [(8, i9 r3), (0, rf G 174), (1, i9 v1), (2, i9 v2), (3, l9 v3), (5, l9 v5), (7, i9 v7)] dX12_older_86 (by decide) rfl ?_
    refine r_iload C 0 dX12_older_88 rfl ?_
    refine r_iconst C dX12_older_90 ?_
    refine r_icmp_ne C 97 dX12_older_91 (by decide) (fun _ => ?_) (fun _ => ?_)
    · refine r_aload_n C 1 dX12_older_97 rfl rfl ?_
      refine r_getR C 183 dX12_older_98 fl_X12_39 la_174 ly_174 rfl rfl ?_
      refine r_iload C 0 dX12_older_101 rfl ?_
      refine r_iconst C dX12_older_103 ?_
      refine r_zast C dX12_older_104 la_183 ly_183 (fun d5 => ?_)
      refine r_aload_n C 1 dX12_older_105 rfl rfl ?_
      refine r_iload C 0 dX12_older_106 rfl ?_
      refine r_callV C [i9 r3, rf G 174] dX12_older_108 (t_X12_layLeaked_174 C.h1 C.h2 r3 d5) mw_X12_352 mv_X12_layLeaked la_174 ly_174 rfl (by decide) (by decide) (by decide) rfl rfl (Nat.le_of_ble_eq_true rfl) (fun r6 d7 => ?_)
      show SS G X 9 _ _ 111 [(8, i9 r3), (0, rf G 174), (1, i9 v1), (2, i9 v2), (3, l9 v3), (5, l9 v5), (7, i9 v7)] [] d7 _
      refine r_lload_n C 4 dX12_older_111 rfl rfl ?_
      refine r_aload_n C 1 dX12_older_112 rfl rfl ?_
      refine r_getL C dX12_older_113 fl_X12_344 la_174 ly_174 rfl ?_
      refine r_lmul C dX12_older_116 ?_
      refine ss_ltL (fun a8 => ?_)
      refine r_lstore_n C [(3, l9 a8), (8, i9 r3), (0, rf G 174), (1, i9 v1), (2, i9 v2), (5, l9 v5), (7, i9 v7)] dX12_older_117 rfl (by decide) rfl ?_
      refine r_lload C 5 dX12_older_118 rfl ?_
      refine r_aload_n C 2 dX12_older_120 rfl rfl ?_
      refine r_getL C dX12_older_121 fl_X12_349 la_174 ly_174 rfl ?_
      refine r_lmul C dX12_older_124 ?_
      refine ss_ltL (fun a9 => ?_)
      refine r_lstore C [(5, l9 a9), (3, l9 a8), (8, i9 r3), (0, rf G 174), (1, i9 v1), (2, i9 v2), (7, i9 v7)] dX12_older_125 (by decide) rfl ?_
      refine r_iinc C 6 [(7, i9 (v7 + 1)), (5, l9 a9), (3, l9 a8), (8, i9 r3), (0, rf G 174), (1, i9 v1), (2, i9 v2)] dX12_older_127 rfl (by decide) rfl ?_
      refine r_goto C 74 dX12_older_130 (by decide) ?_
      refine ss_wide (k' := 0) (n' := 0) (by decide) (by decide) ?_
      refine ss_ls [(0, rf G 174), (1, i9 v1), (2, i9 v2), (3, l9 a8), (5, l9 a9), (7, i9 (v7 + 1))] [4, 5, 6, 2, 1, 0] rfl ?_
      exact hk_X12_older_174_c74 v1 v2 a8 a9 (v7 + 1) d7
    · refine r_goto C 127 dX12_older_94 (by decide) ?_
      refine r_iinc C 6 [(7, i9 (v7 + 1)), (8, i9 r3), (0, rf G 174), (1, i9 v1), (2, i9 v2), (3, l9 v3), (5, l9 v5)] dX12_older_127 rfl (by decide) rfl ?_
      refine r_goto C 74 dX12_older_130 (by decide) ?_
      refine ss_wide (k' := 0) (n' := 0) (by decide) (by decide) ?_
      refine ss_ls [(0, rf G 174), (1, i9 v1), (2, i9 v2), (3, l9 v3), (5, l9 v5), (7, i9 (v7 + 1))] [2, 3, 4, 5, 6, 0] rfl ?_
      exact hk_X12_older_174_c74 v1 v2 v3 v5 (v7 + 1) d4
theorem s_X12_older_174_c74 {G : G9} {X : X9} (C : CX G X cX12_older 9 RX12 [] z_X12_older_174) : ∀ (v1 v2 v3 v5 v7 : Int) (d : D9), SS G X 9 0 0 74 [(0, rf G 174), (1, i9 v1), (2, i9 v2), (3, l9 v3), (5, l9 v5), (7, i9 v7)] [] d (m_X12_older_174_c74  v1 v2 v3 v5 v7 d) :=
  fix9_ind (P := fun k => ∀ (v1 v2 v3 v5 v7 : Int) (d : D9), SS G X 9 0 0 74 [(0, rf G 174), (1, i9 v1), (2, i9 v2), (3, l9 v3), (5, l9 v5), (7, i9 v7)] [] d (k v1 v2 v3 v5 v7 d)) (fun _ _ _ _ _ _ => ss_none) (fun k hk => sb_X12_older_174_c74 C k hk) FU
set_option maxRecDepth 100000 in
theorem sb_X12_older_174_c47 {G : G9} {X : X9} (C : CX G X cX12_older 9 RX12 [] z_X12_older_174) (k_X12_older_174_c47 : Int → Int → Int → D9 → Option R9) (hk_X12_older_174_c47 : ∀ (v1 v2 v3 : Int) (d : D9), SS G X 9 0 0 47 [(0, rf G 174), (1, i9 v1), (2, i9 v2), (3, i9 v3)] [] d (k_X12_older_174_c47 v1 v2 v3 d)) : ∀ (v1 v2 v3 : Int) (d : D9), SS G X 9 0 0 47 [(0, rf G 174), (1, i9 v1), (2, i9 v2), (3, i9 v3)] [] d (b_X12_older_174_c47 k_X12_older_174_c47 v1 v2 v3 d) := by
  intro v1 v2 v3 d
  unfold b_X12_older_174_c47
  refine r_iload_n C 3 dX12_older_47 rfl rfl ?_
  refine r_bipush C dX12_older_48 rfl ?_
  refine r_icmp_ge C 66 dX12_older_50 (by decide) (fun _ => ?_) (fun _ => ?_)
  · refine r_lconst C dX12_older_66 (a := 1) rfl ?_
    refine r_lstore_n C [(3, l9 1), (0, rf G 174), (1, i9 v1), (2, i9 v2)] dX12_older_67 rfl (by decide) rfl ?_
    refine r_lconst C dX12_older_68 (a := 1) rfl ?_
    refine r_lstore C [(5, l9 1), (3, l9 1), (0, rf G 174), (1, i9 v1), (2, i9 v2)] dX12_older_69 (by decide) rfl ?_
    refine r_iconst C dX12_older_71 ?_
    refine r_istore C [(7, i9 0), (5, l9 1), (3, l9 1), (0, rf G 174), (1, i9 v1), (2, i9 v2)] dX12_older_72 (by decide) rfl ?_
    refine ss_wide (k' := 0) (n' := 0) (by decide) (by decide) ?_
    refine ss_ls [(0, rf G 174), (1, i9 v1), (2, i9 v2), (3, l9 1), (5, l9 1), (7, i9 0)] [3, 4, 5, 2, 1, 0] rfl ?_
    exact s_X12_older_174_c74 C  v1 v2 1 1 0 d
  · refine r_aload_n C 0 dX12_older_53 rfl rfl ?_
    refine r_getR C 183 dX12_older_54 fl_X12_39 la_174 ly_174 rfl rfl ?_
    refine r_iload_n C 3 dX12_older_57 rfl rfl ?_
    refine r_iconst C dX12_older_58 ?_
    refine r_zast C dX12_older_59 la_183 ly_183 (fun d1 => ?_)
    refine r_iinc C 3 [(3, i9 (v3 + 1)), (0, rf G 174), (1, i9 v1), (2, i9 v2)] dX12_older_60 rfl (by decide) rfl ?_
    refine r_goto C 47 dX12_older_63 (by decide) ?_
    refine ss_wide (k' := 0) (n' := 0) (by decide) (by decide) ?_
    refine ss_ls [(0, rf G 174), (1, i9 v1), (2, i9 v2), (3, i9 (v3 + 1))] [1, 2, 3, 0] rfl ?_
    exact hk_X12_older_174_c47 v1 v2 (v3 + 1) d1
theorem s_X12_older_174_c47 {G : G9} {X : X9} (C : CX G X cX12_older 9 RX12 [] z_X12_older_174) : ∀ (v1 v2 v3 : Int) (d : D9), SS G X 9 0 0 47 [(0, rf G 174), (1, i9 v1), (2, i9 v2), (3, i9 v3)] [] d (m_X12_older_174_c47  v1 v2 v3 d) :=
  fix9_ind (P := fun k => ∀ (v1 v2 v3 : Int) (d : D9), SS G X 9 0 0 47 [(0, rf G 174), (1, i9 v1), (2, i9 v2), (3, i9 v3)] [] d (k v1 v2 v3 d)) (fun _ _ _ _ => ss_none) (fun k hk => sb_X12_older_174_c47 C k hk) FU
set_option maxRecDepth 100000 in
theorem s_X12_older_174_c30 {G : G9} {X : X9} (C : CX G X cX12_older 9 RX12 [] z_X12_older_174) : ∀ (v1 v2 s0 : Int) (d : D9), SS G X 9 0 0 30 [(0, rf G 174), (1, i9 v1), (2, i9 v2)] [i9 s0, rf G 174] d (m_X12_older_174_c30  v1 v2 s0 d) := by
  intro v1 v2 s0 d
  unfold m_X12_older_174_c30
  refine r_putI C dX12_older_30 fp_X12_76 la_174 ly_174 rfl (fun d1 => ?_)
  refine r_aload_n C 0 dX12_older_33 rfl rfl ?_
  refine r_getI C dX12_older_34 fl_X12_76 la_174 ly_174 rfl ?_
  refine r_if_le C (b := 0) 41 dX12_older_37 (by decide) (fun _ => ?_) (fun _ => ?_)
  · refine r_aload_n C 0 dX12_older_41 rfl rfl ?_
    refine r_callV C [rf G 174] dX12_older_42 (t_X12_layReach_174 C.h1 C.h2 d1) mw_X12_381 mv_X12_layReach la_174 ly_174 rfl (by decide) (by decide) (by decide) rfl rfl (Nat.le_of_ble_eq_true rfl) (fun r2 d3 => ?_)
    show SS G X 9 _ _ 45 [(0, rf G 174), (1, i9 v1), (2, i9 v2)] [] d3 _
    refine r_iconst C dX12_older_45 ?_
    refine r_istore_n C [(3, i9 0), (0, rf G 174), (1, i9 v1), (2, i9 v2)] dX12_older_46 rfl (by decide) rfl ?_
    refine ss_wide (k' := 0) (n' := 0) (by decide) (by decide) ?_
    refine ss_ls [(0, rf G 174), (1, i9 v1), (2, i9 v2), (3, i9 0)] [1, 2, 3, 0] rfl ?_
    exact s_X12_older_174_c47 C  v1 v2 0 d3
  · exact r_vret C dX12_older_40 (by decide) (by decide)
set_option maxRecDepth 100000 in
theorem t_X12_older_174 {G : G9} {l : Launch} (h1 : va_D (A9 G) (wl G (fun _ _ => 0))) (h2 : l.stackTraces = false) (p1 p2 : Int) (d : D9) : MT G l yX12_older cX12_older 9 z_X12_older_174 [rf G 174, i9 p1, i9 p2] d (m_X12_older_174 p1 p2 d) := by
  refine mt_of (own := RX12) (by decide) rfl (Nat.le_of_ble_eq_true rfl) h1 h2 [(0, rf G 174), (1, i9 p1), (2, i9 p2)] rfl (fun X hX C => ?_)
  unfold m_X12_older_174
  refine r_aload_n C 0 dX12_older_0 rfl rfl ?_
  refine r_aload_n C 0 dX12_older_1 rfl rfl ?_
  refine r_iload_n C 1 dX12_older_2 rfl rfl ?_
  refine r_callV C [i9 p1, rf G 174, rf G 174] dX12_older_3 (t_X12_isPaint_174 C.h1 C.h2 p1 d) mw_X12_95 mv_X12_isPaint la_174 ly_174 rfl (by decide) (by decide) (by decide) rfl rfl (Nat.le_of_ble_eq_true rfl) (fun r1 d2 => ?_)
  show SS G X 9 _ _ 6 [(0, rf G 174), (1, i9 p1), (2, i9 p2)] [i9 r1, rf G 174] d2 _
  refine r_if_ne C (b := 0) 13 dX12_older_6 (by decide) (fun _ => ?_) (fun _ => ?_)
  · refine r_iload_n C 2 dX12_older_13 rfl rfl ?_
    refine r_i2l C dX12_older_14 ?_
    refine r_lconst C dX12_older_15 (a := 1) rfl ?_
    refine r_ldcL C dX12_older_16 kc_X12_368 ?_
    refine r_callS C [l9 400, l9 1, l9 (w32 p2), rf G 174] dX12_older_19 (t_X12_within C.h1 C.h2 (w32 p2) 1 400 d2) mw_X12_79 ms_X12_within (by decide) (by decide) (by decide) rfl rfl (Nat.le_of_ble_eq_true rfl) (fun r3 d4 => ?_)
    show SS G X 9 _ _ 22 [(0, rf G 174), (1, i9 p1), (2, i9 p2)] [i9 r3, rf G 174] d4 _
    refine r_if_eq C (b := 0) 29 dX12_older_22 (by decide) (fun _ => ?_) (fun _ => ?_)
    · refine r_iconst C dX12_older_29 ?_
      refine ss_wide (k' := 0) (n' := 0) (by decide) (by decide) ?_
      refine ss_ls [(0, rf G 174), (1, i9 p1), (2, i9 p2)] [0, 1, 2] rfl ?_
      exact s_X12_older_174_c30 C  p1 p2 2 d4
    · refine r_iconst C dX12_older_25 ?_
      refine r_goto C 30 dX12_older_26 (by decide) ?_
      refine ss_wide (k' := 0) (n' := 0) (by decide) (by decide) ?_
      refine ss_ls [(0, rf G 174), (1, i9 p1), (2, i9 p2)] [0, 1, 2] rfl ?_
      exact s_X12_older_174_c30 C  p1 p2 0 d4
  · refine r_iconst C dX12_older_9 ?_
    refine r_goto C 30 dX12_older_10 (by decide) ?_
    refine ss_wide (k' := 0) (n' := 0) (by decide) (by decide) ?_
    refine ss_ls [(0, rf G 174), (1, i9 p1), (2, i9 p2)] [0, 1, 2] rfl ?_
    exact s_X12_older_174_c30 C  p1 p2 1 d2
theorem dX12_isOrdered_0 : decode cX12_isOrdered 0 = .ok (.sipush 256, 3) := by decide +kernel
theorem dX12_isOrdered_3 : decode cX12_isOrdered 3 = .ok (.istore_n 3, 1) := by decide +kernel
theorem dX12_isOrdered_4 : decode cX12_isOrdered 4 = .ok (.iload_n 3, 1) := by decide +kernel
theorem dX12_isOrdered_5 : decode cX12_isOrdered 5 = .ok (.sipush 256, 3) := by decide +kernel
theorem dX12_isOrdered_8 : decode cX12_isOrdered 8 = .ok (.iconst 2, 1) := by decide +kernel
theorem dX12_isOrdered_9 : decode cX12_isOrdered 9 = .ok (.aload_n 0, 1) := by decide +kernel
theorem dX12_isOrdered_10 : decode cX12_isOrdered 10 = .ok (.getfield 9, 3) := by decide +kernel
theorem dX12_isOrdered_13 : decode cX12_isOrdered 13 = .ok (.iconst 2, 1) := by decide +kernel
theorem dX12_isOrdered_14 : decode cX12_isOrdered 14 = .ok (.iaload, 1) := by decide +kernel
theorem dX12_isOrdered_15 : decode cX12_isOrdered 15 = .ok (.imul, 1) := by decide +kernel
theorem dX12_isOrdered_16 : decode cX12_isOrdered 16 = .ok (.iadd, 1) := by decide +kernel
theorem dX12_isOrdered_17 : decode cX12_isOrdered 17 = .ok (.if_icmp .ge 55, 3) := by decide +kernel
theorem dX12_isOrdered_20 : decode cX12_isOrdered 20 = .ok (.aload_n 0, 1) := by decide +kernel
theorem dX12_isOrdered_21 : decode cX12_isOrdered 21 = .ok (.getfield 9, 3) := by decide +kernel
theorem dX12_isOrdered_24 : decode cX12_isOrdered 24 = .ok (.iload_n 3, 1) := by decide +kernel
theorem dX12_isOrdered_25 : decode cX12_isOrdered 25 = .ok (.iaload, 1) := by decide +kernel
theorem dX12_isOrdered_26 : decode cX12_isOrdered 26 = .ok (.iload_n 1, 1) := by decide +kernel
theorem dX12_isOrdered_27 : decode cX12_isOrdered 27 = .ok (.if_icmp .ne 15, 3) := by decide +kernel
theorem dX12_isOrdered_30 : decode cX12_isOrdered 30 = .ok (.aload_n 0, 1) := by decide +kernel
theorem dX12_isOrdered_31 : decode cX12_isOrdered 31 = .ok (.getfield 9, 3) := by decide +kernel
theorem dX12_isOrdered_34 : decode cX12_isOrdered 34 = .ok (.iload_n 3, 1) := by decide +kernel
theorem dX12_isOrdered_35 : decode cX12_isOrdered 35 = .ok (.iconst 1, 1) := by decide +kernel
theorem dX12_isOrdered_36 : decode cX12_isOrdered 36 = .ok (.iadd, 1) := by decide +kernel
theorem dX12_isOrdered_37 : decode cX12_isOrdered 37 = .ok (.iaload, 1) := by decide +kernel
theorem dX12_isOrdered_38 : decode cX12_isOrdered 38 = .ok (.iload_n 2, 1) := by decide +kernel
theorem dX12_isOrdered_39 : decode cX12_isOrdered 39 = .ok (.if_icmp .eq 25, 3) := by decide +kernel
theorem dX12_isOrdered_42 : decode cX12_isOrdered 42 = .ok (.aload_n 0, 1) := by decide +kernel
theorem dX12_isOrdered_43 : decode cX12_isOrdered 43 = .ok (.getfield 9, 3) := by decide +kernel
theorem dX12_isOrdered_46 : decode cX12_isOrdered 46 = .ok (.iload_n 3, 1) := by decide +kernel
theorem dX12_isOrdered_47 : decode cX12_isOrdered 47 = .ok (.iaload, 1) := by decide +kernel
theorem dX12_isOrdered_48 : decode cX12_isOrdered 48 = .ok (.iload_n 2, 1) := by decide +kernel
theorem dX12_isOrdered_49 : decode cX12_isOrdered 49 = .ok (.if_icmp .ne 17, 3) := by decide +kernel
theorem dX12_isOrdered_52 : decode cX12_isOrdered 52 = .ok (.aload_n 0, 1) := by decide +kernel
theorem dX12_isOrdered_53 : decode cX12_isOrdered 53 = .ok (.getfield 9, 3) := by decide +kernel
theorem dX12_isOrdered_56 : decode cX12_isOrdered 56 = .ok (.iload_n 3, 1) := by decide +kernel
theorem dX12_isOrdered_57 : decode cX12_isOrdered 57 = .ok (.iconst 1, 1) := by decide +kernel
theorem dX12_isOrdered_58 : decode cX12_isOrdered 58 = .ok (.iadd, 1) := by decide +kernel
theorem dX12_isOrdered_59 : decode cX12_isOrdered 59 = .ok (.iaload, 1) := by decide +kernel
theorem dX12_isOrdered_60 : decode cX12_isOrdered 60 = .ok (.iload_n 1, 1) := by decide +kernel
theorem dX12_isOrdered_61 : decode cX12_isOrdered 61 = .ok (.if_icmp .ne 5, 3) := by decide +kernel
theorem dX12_isOrdered_64 : decode cX12_isOrdered 64 = .ok (.iconst 1, 1) := by decide +kernel
theorem dX12_isOrdered_65 : decode cX12_isOrdered 65 = .ok (.ireturn, 1) := by decide +kernel
theorem dX12_isOrdered_66 : decode cX12_isOrdered 66 = .ok (.iinc 3 2, 3) := by decide +kernel
theorem dX12_isOrdered_69 : decode cX12_isOrdered 69 = .ok (.goto (-65), 3) := by decide +kernel
theorem dX12_isOrdered_72 : decode cX12_isOrdered 72 = .ok (.iconst 0, 1) := by decide +kernel
theorem dX12_isOrdered_73 : decode cX12_isOrdered 73 = .ok (.ireturn, 1) := by decide +kernel
abbrev z_X12_isOrdered_174 : Z9 := (some .boolean, 1, 0, 0, 1, 0)
def m_X12_isOrdered_174_c42 (k_X12_isOrdered_174_c4 : Int → Int → Int → D9 → Option R9) (v1 v2 v3 : Int) (d : D9) : Option R9 := ld d 175 1604 v3 (fun t1 => if w32 t1 ≠ w32 v2 then k_X12_isOrdered_174_c4 v1 v2 (v3 + 2) d else ld d 175 1604 (v3 + 1) (fun t2 => if w32 t2 ≠ w32 v1 then k_X12_isOrdered_174_c4 v1 v2 (v3 + 2) d else rt (1 % 2) d))
def b_X12_isOrdered_174_c4 (k_X12_isOrdered_174_c4 : Int → Int → Int → D9 → Option R9) (v1 v2 v3 : Int) (d : D9) : Option R9 := ld d 175 1604 2 (fun t1 => if w32 (256 + (2 * t1)) ≤ w32 v3 then rt (0 % 2) d else ld d 175 1604 v3 (fun t2 => if w32 t2 ≠ w32 v1 then m_X12_isOrdered_174_c42 k_X12_isOrdered_174_c4 v1 v2 v3 d else ld d 175 1604 (v3 + 1) (fun t3 => if w32 t3 = w32 v2 then rt (1 % 2) d else m_X12_isOrdered_174_c42 k_X12_isOrdered_174_c4 v1 v2 v3 d)))
def m_X12_isOrdered_174_c4 : Int → Int → Int → D9 → Option R9 := fix9 (fun _ _ _ _ => none) (fun k => b_X12_isOrdered_174_c4 k) FU
def m_X12_isOrdered_174 (p1 p2 : Int) (d : D9) : Option R9 := m_X12_isOrdered_174_c4  p1 p2 256 d
set_option maxRecDepth 100000 in
theorem s_X12_isOrdered_174_c42 {G : G9} {X : X9} (C : CX G X cX12_isOrdered 4 RX12 [] z_X12_isOrdered_174) (k_X12_isOrdered_174_c4 : Int → Int → Int → D9 → Option R9) (hk_X12_isOrdered_174_c4 : ∀ (v1 v2 v3 : Int) (d : D9), SS G X 4 0 0 4 [(0, rf G 174), (1, i9 v1), (2, i9 v2), (3, i9 v3)] [] d (k_X12_isOrdered_174_c4 v1 v2 v3 d)) : ∀ (v1 v2 v3 : Int) (d : D9), SS G X 4 0 0 42 [(0, rf G 174), (1, i9 v1), (2, i9 v2), (3, i9 v3)] [] d (m_X12_isOrdered_174_c42 k_X12_isOrdered_174_c4 v1 v2 v3 d) := by
  intro v1 v2 v3 d
  unfold m_X12_isOrdered_174_c42
  refine r_aload_n C 0 dX12_isOrdered_42 rfl rfl ?_
  refine r_getR C 175 dX12_isOrdered_43 fl_X12_9 la_174 ly_174 rfl rfl ?_
  refine r_iload_n C 3 dX12_isOrdered_46 rfl rfl ?_
  refine r_iald C dX12_isOrdered_47 la_175 ly_175 (fun t1 => ?_)
  refine r_iload_n C 2 dX12_isOrdered_48 rfl rfl ?_
  refine r_icmp_ne C 66 dX12_isOrdered_49 (by decide) (fun _ => ?_) (fun _ => ?_)
  · refine r_iinc C 3 [(3, i9 (v3 + 2)), (0, rf G 174), (1, i9 v1), (2, i9 v2)] dX12_isOrdered_66 rfl (by decide) rfl ?_
    refine r_goto C 4 dX12_isOrdered_69 (by decide) ?_
    refine ss_wide (k' := 0) (n' := 0) (by decide) (by decide) ?_
    refine ss_ls [(0, rf G 174), (1, i9 v1), (2, i9 v2), (3, i9 (v3 + 2))] [1, 2, 3, 0] rfl ?_
    exact hk_X12_isOrdered_174_c4 v1 v2 (v3 + 2) d
  · refine r_aload_n C 0 dX12_isOrdered_52 rfl rfl ?_
    refine r_getR C 175 dX12_isOrdered_53 fl_X12_9 la_174 ly_174 rfl rfl ?_
    refine r_iload_n C 3 dX12_isOrdered_56 rfl rfl ?_
    refine r_iconst C dX12_isOrdered_57 ?_
    refine r_iadd C dX12_isOrdered_58 ?_
    refine r_iald C dX12_isOrdered_59 la_175 ly_175 (fun t2 => ?_)
    refine r_iload_n C 1 dX12_isOrdered_60 rfl rfl ?_
    refine r_icmp_ne C 66 dX12_isOrdered_61 (by decide) (fun _ => ?_) (fun _ => ?_)
    · refine r_iinc C 3 [(3, i9 (v3 + 2)), (0, rf G 174), (1, i9 v1), (2, i9 v2)] dX12_isOrdered_66 rfl (by decide) rfl ?_
      refine r_goto C 4 dX12_isOrdered_69 (by decide) ?_
      refine ss_wide (k' := 0) (n' := 0) (by decide) (by decide) ?_
      refine ss_ls [(0, rf G 174), (1, i9 v1), (2, i9 v2), (3, i9 (v3 + 2))] [1, 2, 3, 0] rfl ?_
      exact hk_X12_isOrdered_174_c4 v1 v2 (v3 + 2) d
    · refine r_iconst C dX12_isOrdered_64 ?_
      exact r_zret C dX12_isOrdered_65 (by decide) (by decide)
set_option maxRecDepth 100000 in
theorem sb_X12_isOrdered_174_c4 {G : G9} {X : X9} (C : CX G X cX12_isOrdered 4 RX12 [] z_X12_isOrdered_174) (k_X12_isOrdered_174_c4 : Int → Int → Int → D9 → Option R9) (hk_X12_isOrdered_174_c4 : ∀ (v1 v2 v3 : Int) (d : D9), SS G X 4 0 0 4 [(0, rf G 174), (1, i9 v1), (2, i9 v2), (3, i9 v3)] [] d (k_X12_isOrdered_174_c4 v1 v2 v3 d)) : ∀ (v1 v2 v3 : Int) (d : D9), SS G X 4 0 0 4 [(0, rf G 174), (1, i9 v1), (2, i9 v2), (3, i9 v3)] [] d (b_X12_isOrdered_174_c4 k_X12_isOrdered_174_c4 v1 v2 v3 d) := by
  intro v1 v2 v3 d
  unfold b_X12_isOrdered_174_c4
  refine r_iload_n C 3 dX12_isOrdered_4 rfl rfl ?_
  refine r_sipush C dX12_isOrdered_5 rfl ?_
  refine r_iconst C dX12_isOrdered_8 ?_
  refine r_aload_n C 0 dX12_isOrdered_9 rfl rfl ?_
  refine r_getR C 175 dX12_isOrdered_10 fl_X12_9 la_174 ly_174 rfl rfl ?_
  refine r_iconst C dX12_isOrdered_13 ?_
  refine r_iald C dX12_isOrdered_14 la_175 ly_175 (fun t1 => ?_)
  refine r_imul C dX12_isOrdered_15 ?_
  refine r_iadd C dX12_isOrdered_16 ?_
  refine r_icmp_ge C 72 dX12_isOrdered_17 (by decide) (fun _ => ?_) (fun _ => ?_)
  · refine r_iconst C dX12_isOrdered_72 ?_
    exact r_zret C dX12_isOrdered_73 (by decide) (by decide)
  · refine r_aload_n C 0 dX12_isOrdered_20 rfl rfl ?_
    refine r_getR C 175 dX12_isOrdered_21 fl_X12_9 la_174 ly_174 rfl rfl ?_
    refine r_iload_n C 3 dX12_isOrdered_24 rfl rfl ?_
    refine r_iald C dX12_isOrdered_25 la_175 ly_175 (fun t2 => ?_)
    refine r_iload_n C 1 dX12_isOrdered_26 rfl rfl ?_
    refine r_icmp_ne C 42 dX12_isOrdered_27 (by decide) (fun _ => ?_) (fun _ => ?_)
    · refine ss_wide (k' := 0) (n' := 0) (by decide) (by decide) ?_
      refine ss_ls [(0, rf G 174), (1, i9 v1), (2, i9 v2), (3, i9 v3)] [0, 1, 2, 3] rfl ?_
      exact s_X12_isOrdered_174_c42 C k_X12_isOrdered_174_c4 hk_X12_isOrdered_174_c4 v1 v2 v3 d
    · refine r_aload_n C 0 dX12_isOrdered_30 rfl rfl ?_
      refine r_getR C 175 dX12_isOrdered_31 fl_X12_9 la_174 ly_174 rfl rfl ?_
      refine r_iload_n C 3 dX12_isOrdered_34 rfl rfl ?_
      refine r_iconst C dX12_isOrdered_35 ?_
      refine r_iadd C dX12_isOrdered_36 ?_
      refine r_iald C dX12_isOrdered_37 la_175 ly_175 (fun t3 => ?_)
      refine r_iload_n C 2 dX12_isOrdered_38 rfl rfl ?_
      refine r_icmp_eq C 64 dX12_isOrdered_39 (by decide) (fun _ => ?_) (fun _ => ?_)
      · refine r_iconst C dX12_isOrdered_64 ?_
        exact r_zret C dX12_isOrdered_65 (by decide) (by decide)
      · refine ss_wide (k' := 0) (n' := 0) (by decide) (by decide) ?_
        refine ss_ls [(0, rf G 174), (1, i9 v1), (2, i9 v2), (3, i9 v3)] [0, 1, 2, 3] rfl ?_
        exact s_X12_isOrdered_174_c42 C k_X12_isOrdered_174_c4 hk_X12_isOrdered_174_c4 v1 v2 v3 d
theorem s_X12_isOrdered_174_c4 {G : G9} {X : X9} (C : CX G X cX12_isOrdered 4 RX12 [] z_X12_isOrdered_174) : ∀ (v1 v2 v3 : Int) (d : D9), SS G X 4 0 0 4 [(0, rf G 174), (1, i9 v1), (2, i9 v2), (3, i9 v3)] [] d (m_X12_isOrdered_174_c4  v1 v2 v3 d) :=
  fix9_ind (P := fun k => ∀ (v1 v2 v3 : Int) (d : D9), SS G X 4 0 0 4 [(0, rf G 174), (1, i9 v1), (2, i9 v2), (3, i9 v3)] [] d (k v1 v2 v3 d)) (fun _ _ _ _ => ss_none) (fun k hk => sb_X12_isOrdered_174_c4 C k hk) FU
set_option maxRecDepth 100000 in
theorem t_X12_isOrdered_174 {G : G9} {l : Launch} (h1 : va_D (A9 G) (wl G (fun _ _ => 0))) (h2 : l.stackTraces = false) (p1 p2 : Int) (d : D9) : MT G l yX12_isOrdered cX12_isOrdered 4 z_X12_isOrdered_174 [rf G 174, i9 p1, i9 p2] d (m_X12_isOrdered_174 p1 p2 d) := by
  refine mt_of (own := RX12) (by decide) rfl (Nat.le_of_ble_eq_true rfl) h1 h2 [(0, rf G 174), (1, i9 p1), (2, i9 p2)] rfl (fun X hX C => ?_)
  unfold m_X12_isOrdered_174
  refine r_sipush C dX12_isOrdered_0 rfl ?_
  refine r_istore_n C [(3, i9 256), (0, rf G 174), (1, i9 p1), (2, i9 p2)] dX12_isOrdered_3 rfl (by decide) rfl ?_
  refine ss_wide (k' := 0) (n' := 0) (by decide) (by decide) ?_
  refine ss_ls [(0, rf G 174), (1, i9 p1), (2, i9 p2), (3, i9 256)] [1, 2, 3, 0] rfl ?_
  exact s_X12_isOrdered_174_c4 C  p1 p2 256 d
theorem dX12_over_0 : decode cX12_over 0 = .ok (.aload_n 0, 1) := by decide +kernel
theorem dX12_over_1 : decode cX12_over 1 = .ok (.aload_n 0, 1) := by decide +kernel
theorem dX12_over_2 : decode cX12_over 2 = .ok (.iload_n 1, 1) := by decide +kernel
theorem dX12_over_3 : decode cX12_over 3 = .ok (.invokevirtual 95, 3) := by decide +kernel
theorem dX12_over_6 : decode cX12_over 6 = .ok (.ifCond .eq 11, 3) := by decide +kernel
theorem dX12_over_9 : decode cX12_over 9 = .ok (.aload_n 0, 1) := by decide +kernel
theorem dX12_over_10 : decode cX12_over 10 = .ok (.iload_n 2, 1) := by decide +kernel
theorem dX12_over_11 : decode cX12_over 11 = .ok (.invokevirtual 95, 3) := by decide +kernel
theorem dX12_over_14 : decode cX12_over 14 = .ok (.ifCond .ne 7, 3) := by decide +kernel
theorem dX12_over_17 : decode cX12_over 17 = .ok (.iconst 1, 1) := by decide +kernel
theorem dX12_over_18 : decode cX12_over 18 = .ok (.goto 28, 3) := by decide +kernel
theorem dX12_over_21 : decode cX12_over 21 = .ok (.iload_n 1, 1) := by decide +kernel
theorem dX12_over_22 : decode cX12_over 22 = .ok (.iload_n 2, 1) := by decide +kernel
theorem dX12_over_23 : decode cX12_over 23 = .ok (.if_icmp .eq 18, 3) := by decide +kernel
theorem dX12_over_26 : decode cX12_over 26 = .ok (.aload_n 0, 1) := by decide +kernel
theorem dX12_over_27 : decode cX12_over 27 = .ok (.iload_n 1, 1) := by decide +kernel
theorem dX12_over_28 : decode cX12_over 28 = .ok (.iconst 1, 1) := by decide +kernel
theorem dX12_over_29 : decode cX12_over 29 = .ok (.invokevirtual 99, 3) := by decide +kernel
theorem dX12_over_32 : decode cX12_over 32 = .ok (.aload_n 0, 1) := by decide +kernel
theorem dX12_over_33 : decode cX12_over 33 = .ok (.iload_n 2, 1) := by decide +kernel
theorem dX12_over_34 : decode cX12_over 34 = .ok (.iconst 1, 1) := by decide +kernel
theorem dX12_over_35 : decode cX12_over 35 = .ok (.invokevirtual 99, 3) := by decide +kernel
theorem dX12_over_38 : decode cX12_over 38 = .ok (.if_icmp .eq 7, 3) := by decide +kernel
theorem dX12_over_41 : decode cX12_over 41 = .ok (.iconst 2, 1) := by decide +kernel
theorem dX12_over_42 : decode cX12_over 42 = .ok (.goto 4, 3) := by decide +kernel
theorem dX12_over_45 : decode cX12_over 45 = .ok (.iconst 0, 1) := by decide +kernel
theorem dX12_over_46 : decode cX12_over 46 = .ok (.putfield 76, 3) := by decide +kernel
theorem dX12_over_49 : decode cX12_over 49 = .ok (.aload_n 0, 1) := by decide +kernel
theorem dX12_over_50 : decode cX12_over 50 = .ok (.getfield 76, 3) := by decide +kernel
theorem dX12_over_53 : decode cX12_over 53 = .ok (.ifCond .gt 23, 3) := by decide +kernel
theorem dX12_over_56 : decode cX12_over 56 = .ok (.aload_n 0, 1) := by decide +kernel
theorem dX12_over_57 : decode cX12_over 57 = .ok (.getfield 9, 3) := by decide +kernel
theorem dX12_over_60 : decode cX12_over 60 = .ok (.iconst 2, 1) := by decide +kernel
theorem dX12_over_61 : decode cX12_over 61 = .ok (.iaload, 1) := by decide +kernel
theorem dX12_over_62 : decode cX12_over 62 = .ok (.bipush 40, 2) := by decide +kernel
theorem dX12_over_64 : decode cX12_over 64 = .ok (.if_icmp .eq 12, 3) := by decide +kernel
theorem dX12_over_67 : decode cX12_over 67 = .ok (.aload_n 0, 1) := by decide +kernel
theorem dX12_over_68 : decode cX12_over 68 = .ok (.iload_n 1, 1) := by decide +kernel
theorem dX12_over_69 : decode cX12_over 69 = .ok (.iload_n 2, 1) := by decide +kernel
theorem dX12_over_70 : decode cX12_over 70 = .ok (.invokevirtual 110, 3) := by decide +kernel
theorem dX12_over_73 : decode cX12_over 73 = .ok (.ifCond .eq 5, 3) := by decide +kernel
theorem dX12_over_76 : decode cX12_over 76 = .ok (.iconst 0, 1) := by decide +kernel
theorem dX12_over_77 : decode cX12_over 77 = .ok (.ireturn, 1) := by decide +kernel
theorem dX12_over_78 : decode cX12_over 78 = .ok (.sipush 256, 3) := by decide +kernel
theorem dX12_over_81 : decode cX12_over 81 = .ok (.iconst 2, 1) := by decide +kernel
theorem dX12_over_82 : decode cX12_over 82 = .ok (.aload_n 0, 1) := by decide +kernel
theorem dX12_over_83 : decode cX12_over 83 = .ok (.getfield 9, 3) := by decide +kernel
theorem dX12_over_86 : decode cX12_over 86 = .ok (.iconst 2, 1) := by decide +kernel
theorem dX12_over_87 : decode cX12_over 87 = .ok (.iaload, 1) := by decide +kernel
theorem dX12_over_88 : decode cX12_over 88 = .ok (.imul, 1) := by decide +kernel
theorem dX12_over_89 : decode cX12_over 89 = .ok (.iadd, 1) := by decide +kernel
theorem dX12_over_90 : decode cX12_over 90 = .ok (.istore_n 3, 1) := by decide +kernel
theorem dX12_over_91 : decode cX12_over 91 = .ok (.aload_n 0, 1) := by decide +kernel
theorem dX12_over_92 : decode cX12_over 92 = .ok (.getfield 9, 3) := by decide +kernel
theorem dX12_over_95 : decode cX12_over 95 = .ok (.iload_n 3, 1) := by decide +kernel
theorem dX12_over_96 : decode cX12_over 96 = .ok (.iload_n 1, 1) := by decide +kernel
theorem dX12_over_97 : decode cX12_over 97 = .ok (.iastore, 1) := by decide +kernel
theorem dX12_over_98 : decode cX12_over 98 = .ok (.aload_n 0, 1) := by decide +kernel
theorem dX12_over_99 : decode cX12_over 99 = .ok (.getfield 9, 3) := by decide +kernel
theorem dX12_over_102 : decode cX12_over 102 = .ok (.iload_n 3, 1) := by decide +kernel
theorem dX12_over_103 : decode cX12_over 103 = .ok (.iconst 1, 1) := by decide +kernel
theorem dX12_over_104 : decode cX12_over 104 = .ok (.iadd, 1) := by decide +kernel
theorem dX12_over_105 : decode cX12_over 105 = .ok (.iload_n 2, 1) := by decide +kernel
theorem dX12_over_106 : decode cX12_over 106 = .ok (.iastore, 1) := by decide +kernel
theorem dX12_over_107 : decode cX12_over 107 = .ok (.aload_n 0, 1) := by decide +kernel
theorem dX12_over_108 : decode cX12_over 108 = .ok (.getfield 9, 3) := by decide +kernel
theorem dX12_over_111 : decode cX12_over 111 = .ok (.iconst 2, 1) := by decide +kernel
theorem dX12_over_112 : decode cX12_over 112 = .ok (.dup2, 1) := by decide +kernel
theorem dX12_over_113 : decode cX12_over 113 = .ok (.iaload, 1) := by decide +kernel
theorem dX12_over_114 : decode cX12_over 114 = .ok (.iconst 1, 1) := by decide +kernel
theorem dX12_over_115 : decode cX12_over 115 = .ok (.iadd, 1) := by decide +kernel
theorem dX12_over_116 : decode cX12_over 116 = .ok (.iastore, 1) := by decide +kernel
theorem dX12_over_117 : decode cX12_over 117 = .ok (.iconst 1, 1) := by decide +kernel
theorem dX12_over_118 : decode cX12_over 118 = .ok (.ireturn, 1) := by decide +kernel
abbrev z_X12_over_174 : Z9 := (some .boolean, 1, 0, 0, 3, 46)
def m_X12_over_174_c46 (v1 v2 s0 : Int) (d : D9) : Option R9 := pf d 174 3 s0 (fun d1 => if 0 < w32 (d1 174 3) then rt (0 % 2) d1 else ld d1 175 1604 2 (fun t2 => if w32 t2 = w32 40 then rt (0 % 2) d1 else cl (m_X12_isOrdered_174 v1 v2 d1) (fun r3 d4 => if w32 r3 = 0 then ld d4 175 1604 2 (fun t5 => lt9v (256 + (2 * t5)) (fun a6 => sd d4 175 1604 a6 v1 (fun d7 => sd d7 175 1604 (a6 + 1) v2 (fun d8 => ld d8 175 1604 2 (fun t9 => sd d8 175 1604 2 (t9 + 1) (fun d10 => rt (1 % 2) d10)))))) else rt (0 % 2) d4)))
def m_X12_over_174 (p1 p2 : Int) (d : D9) : Option R9 := cl (m_X12_isPaint_174 p1 d) (fun r1 d2 => if w32 r1 = 0 then m_X12_over_174_c46  p1 p2 1 d2 else cl (m_X12_isPaint_174 p2 d2) (fun r3 d4 => if w32 r3 ≠ 0 then if w32 p1 = w32 p2 then m_X12_over_174_c46  p1 p2 2 d4 else cl (m_X12_ofPaint_174 p1 1 d4) (fun r5 d6 => cl (m_X12_ofPaint_174 p2 1 d6) (fun r7 d8 => if w32 r5 = w32 r7 then m_X12_over_174_c46  p1 p2 0 d8 else m_X12_over_174_c46  p1 p2 2 d8)) else m_X12_over_174_c46  p1 p2 1 d4))
set_option maxRecDepth 100000 in
theorem s_X12_over_174_c46 {G : G9} {X : X9} (C : CX G X cX12_over 4 RX12 [] z_X12_over_174) : ∀ (v1 v2 s0 : Int) (d : D9), SS G X 4 0 0 46 [(0, rf G 174), (1, i9 v1), (2, i9 v2)] [i9 s0, rf G 174] d (m_X12_over_174_c46  v1 v2 s0 d) := by
  intro v1 v2 s0 d
  unfold m_X12_over_174_c46
  refine r_putI C dX12_over_46 fp_X12_76 la_174 ly_174 rfl (fun d1 => ?_)
  refine r_aload_n C 0 dX12_over_49 rfl rfl ?_
  refine r_getI C dX12_over_50 fl_X12_76 la_174 ly_174 rfl ?_
  refine r_if_gt C (b := 0) 76 dX12_over_53 (by decide) (fun _ => ?_) (fun _ => ?_)
  · refine r_iconst C dX12_over_76 ?_
    exact r_zret C dX12_over_77 (by decide) (by decide)
  · refine r_aload_n C 0 dX12_over_56 rfl rfl ?_
    refine r_getR C 175 dX12_over_57 fl_X12_9 la_174 ly_174 rfl rfl ?_
    refine r_iconst C dX12_over_60 ?_
    refine r_iald C dX12_over_61 la_175 ly_175 (fun t2 => ?_)
    refine r_bipush C dX12_over_62 rfl ?_
    refine r_icmp_eq C 76 dX12_over_64 (by decide) (fun _ => ?_) (fun _ => ?_)
    · refine r_iconst C dX12_over_76 ?_
      exact r_zret C dX12_over_77 (by decide) (by decide)
    · refine r_aload_n C 0 dX12_over_67 rfl rfl ?_
      refine r_iload_n C 1 dX12_over_68 rfl rfl ?_
      refine r_iload_n C 2 dX12_over_69 rfl rfl ?_
      refine r_callV C [i9 v2, i9 v1, rf G 174] dX12_over_70 (t_X12_isOrdered_174 C.h1 C.h2 v1 v2 d1) mw_X12_110 mv_X12_isOrdered la_174 ly_174 rfl (by decide) (by decide) (by decide) rfl rfl (Nat.le_of_ble_eq_true rfl) (fun r3 d4 => ?_)
      show SS G X 4 _ _ 73 [(0, rf G 174), (1, i9 v1), (2, i9 v2)] [i9 r3] d4 _
      refine r_if_eq C (b := 0) 78 dX12_over_73 (by decide) (fun _ => ?_) (fun _ => ?_)
      · refine r_sipush C dX12_over_78 rfl ?_
        refine r_iconst C dX12_over_81 ?_
        refine r_aload_n C 0 dX12_over_82 rfl rfl ?_
        refine r_getR C 175 dX12_over_83 fl_X12_9 la_174 ly_174 rfl rfl ?_
        refine r_iconst C dX12_over_86 ?_
        refine r_iald C dX12_over_87 la_175 ly_175 (fun t5 => ?_)
        refine r_imul C dX12_over_88 ?_
        refine r_iadd C dX12_over_89 ?_
        refine ss_lt (fun a6 => ?_)
        refine r_istore_n C [(3, i9 a6), (0, rf G 174), (1, i9 v1), (2, i9 v2)] dX12_over_90 rfl (by decide) rfl ?_
        refine r_aload_n C 1 dX12_over_91 rfl rfl ?_
        refine r_getR C 175 dX12_over_92 fl_X12_9 la_174 ly_174 rfl rfl ?_
        refine r_iload_n C 0 dX12_over_95 rfl rfl ?_
        refine r_iload_n C 2 dX12_over_96 rfl rfl ?_
        refine r_iast C dX12_over_97 la_175 ly_175 (fun d7 => ?_)
        refine r_aload_n C 1 dX12_over_98 rfl rfl ?_
        refine r_getR C 175 dX12_over_99 fl_X12_9 la_174 ly_174 rfl rfl ?_
        refine r_iload_n C 0 dX12_over_102 rfl rfl ?_
        refine r_iconst C dX12_over_103 ?_
        refine r_iadd C dX12_over_104 ?_
        refine r_iload_n C 3 dX12_over_105 rfl rfl ?_
        refine r_iast C dX12_over_106 la_175 ly_175 (fun d8 => ?_)
        refine r_aload_n C 1 dX12_over_107 rfl rfl ?_
        refine r_getR C 175 dX12_over_108 fl_X12_9 la_174 ly_174 rfl rfl ?_
        refine r_iconst C dX12_over_111 ?_
        refine r_dup2 C dX12_over_112 rfl rfl ?_
        refine r_iald C dX12_over_113 la_175 ly_175 (fun t9 => ?_)
        refine r_iconst C dX12_over_114 ?_
        refine r_iadd C dX12_over_115 ?_
        refine r_iast C dX12_over_116 la_175 ly_175 (fun d10 => ?_)
        refine r_iconst C dX12_over_117 ?_
        exact r_zret C dX12_over_118 (by decide) (by decide)
      · refine r_iconst C dX12_over_76 ?_
        exact r_zret C dX12_over_77 (by decide) (by decide)
set_option maxRecDepth 100000 in
theorem t_X12_over_174 {G : G9} {l : Launch} (h1 : va_D (A9 G) (wl G (fun _ _ => 0))) (h2 : l.stackTraces = false) (p1 p2 : Int) (d : D9) : MT G l yX12_over cX12_over 4 z_X12_over_174 [rf G 174, i9 p1, i9 p2] d (m_X12_over_174 p1 p2 d) := by
  refine mt_of (own := RX12) (by decide) rfl (Nat.le_of_ble_eq_true rfl) h1 h2 [(0, rf G 174), (1, i9 p1), (2, i9 p2)] rfl (fun X hX C => ?_)
  unfold m_X12_over_174
  refine r_aload_n C 0 dX12_over_0 rfl rfl ?_
  refine r_aload_n C 0 dX12_over_1 rfl rfl ?_
  refine r_iload_n C 1 dX12_over_2 rfl rfl ?_
  refine r_callV C [i9 p1, rf G 174, rf G 174] dX12_over_3 (t_X12_isPaint_174 C.h1 C.h2 p1 d) mw_X12_95 mv_X12_isPaint la_174 ly_174 rfl (by decide) (by decide) (by decide) rfl rfl (Nat.le_of_ble_eq_true rfl) (fun r1 d2 => ?_)
  show SS G X 4 _ _ 6 [(0, rf G 174), (1, i9 p1), (2, i9 p2)] [i9 r1, rf G 174] d2 _
  refine r_if_eq C (b := 0) 17 dX12_over_6 (by decide) (fun _ => ?_) (fun _ => ?_)
  · refine r_iconst C dX12_over_17 ?_
    refine r_goto C 46 dX12_over_18 (by decide) ?_
    refine ss_wide (k' := 0) (n' := 0) (by decide) (by decide) ?_
    refine ss_ls [(0, rf G 174), (1, i9 p1), (2, i9 p2)] [0, 1, 2] rfl ?_
    exact s_X12_over_174_c46 C  p1 p2 1 d2
  · refine r_aload_n C 0 dX12_over_9 rfl rfl ?_
    refine r_iload_n C 2 dX12_over_10 rfl rfl ?_
    refine r_callV C [i9 p2, rf G 174, rf G 174] dX12_over_11 (t_X12_isPaint_174 C.h1 C.h2 p2 d2) mw_X12_95 mv_X12_isPaint la_174 ly_174 rfl (by decide) (by decide) (by decide) rfl rfl (Nat.le_of_ble_eq_true rfl) (fun r3 d4 => ?_)
    show SS G X 4 _ _ 14 [(0, rf G 174), (1, i9 p1), (2, i9 p2)] [i9 r3, rf G 174] d4 _
    refine r_if_ne C (b := 0) 21 dX12_over_14 (by decide) (fun _ => ?_) (fun _ => ?_)
    · refine r_iload_n C 1 dX12_over_21 rfl rfl ?_
      refine r_iload_n C 2 dX12_over_22 rfl rfl ?_
      refine r_icmp_eq C 41 dX12_over_23 (by decide) (fun _ => ?_) (fun _ => ?_)
      · refine r_iconst C dX12_over_41 ?_
        refine r_goto C 46 dX12_over_42 (by decide) ?_
        refine ss_wide (k' := 0) (n' := 0) (by decide) (by decide) ?_
        refine ss_ls [(0, rf G 174), (1, i9 p1), (2, i9 p2)] [0, 1, 2] rfl ?_
        exact s_X12_over_174_c46 C  p1 p2 2 d4
      · refine r_aload_n C 0 dX12_over_26 rfl rfl ?_
        refine r_iload_n C 1 dX12_over_27 rfl rfl ?_
        refine r_iconst C dX12_over_28 ?_
        refine r_callV C [i9 1, i9 p1, rf G 174, rf G 174] dX12_over_29 (t_X12_ofPaint_174 C.h1 C.h2 p1 1 d4) mw_X12_99 mv_X12_ofPaint la_174 ly_174 rfl (by decide) (by decide) (by decide) rfl rfl (Nat.le_of_ble_eq_true rfl) (fun r5 d6 => ?_)
        show SS G X 4 _ _ 32 [(0, rf G 174), (1, i9 p1), (2, i9 p2)] [i9 r5, rf G 174] d6 _
        refine r_aload_n C 0 dX12_over_32 rfl rfl ?_
        refine r_iload_n C 2 dX12_over_33 rfl rfl ?_
        refine r_iconst C dX12_over_34 ?_
        refine r_callV C [i9 1, i9 p2, rf G 174, i9 r5, rf G 174] dX12_over_35 (t_X12_ofPaint_174 C.h1 C.h2 p2 1 d6) mw_X12_99 mv_X12_ofPaint la_174 ly_174 rfl (by decide) (by decide) (by decide) rfl rfl (Nat.le_of_ble_eq_true rfl) (fun r7 d8 => ?_)
        show SS G X 4 _ _ 38 [(0, rf G 174), (1, i9 p1), (2, i9 p2)] [i9 r7, i9 r5, rf G 174] d8 _
        refine r_icmp_eq C 45 dX12_over_38 (by decide) (fun _ => ?_) (fun _ => ?_)
        · refine r_iconst C dX12_over_45 ?_
          refine ss_wide (k' := 0) (n' := 0) (by decide) (by decide) ?_
          refine ss_ls [(0, rf G 174), (1, i9 p1), (2, i9 p2)] [0, 1, 2] rfl ?_
          exact s_X12_over_174_c46 C  p1 p2 0 d8
        · refine r_iconst C dX12_over_41 ?_
          refine r_goto C 46 dX12_over_42 (by decide) ?_
          refine ss_wide (k' := 0) (n' := 0) (by decide) (by decide) ?_
          refine ss_ls [(0, rf G 174), (1, i9 p1), (2, i9 p2)] [0, 1, 2] rfl ?_
          exact s_X12_over_174_c46 C  p1 p2 2 d8
    · refine r_iconst C dX12_over_17 ?_
      refine r_goto C 46 dX12_over_18 (by decide) ?_
      refine ss_wide (k' := 0) (n' := 0) (by decide) (by decide) ?_
      refine ss_ls [(0, rf G 174), (1, i9 p1), (2, i9 p2)] [0, 1, 2] rfl ?_
      exact s_X12_over_174_c46 C  p1 p2 1 d4
theorem dX12_paint_0 : decode cX12_paint 0 = .ok (.aload_n 0, 1) := by decide +kernel
theorem dX12_paint_1 : decode cX12_paint 1 = .ok (.iconst 0, 1) := by decide +kernel
theorem dX12_paint_2 : decode cX12_paint 2 = .ok (.putfield 76, 3) := by decide +kernel
theorem dX12_paint_5 : decode cX12_paint 5 = .ok (.iload_n 1, 1) := by decide +kernel
theorem dX12_paint_6 : decode cX12_paint 6 = .ok (.i2l, 1) := by decide +kernel
theorem dX12_paint_7 : decode cX12_paint 7 = .ok (.lconst 0, 1) := by decide +kernel
theorem dX12_paint_8 : decode cX12_paint 8 = .ok (.ldc2_w 83, 3) := by decide +kernel
theorem dX12_paint_11 : decode cX12_paint 11 = .ok (.invokestatic 79, 3) := by decide +kernel
theorem dX12_paint_14 : decode cX12_paint 14 = .ok (.ifCond .eq 27, 3) := by decide +kernel
theorem dX12_paint_17 : decode cX12_paint 17 = .ok (.iload_n 2, 1) := by decide +kernel
theorem dX12_paint_18 : decode cX12_paint 18 = .ok (.i2l, 1) := by decide +kernel
theorem dX12_paint_19 : decode cX12_paint 19 = .ok (.lconst 0, 1) := by decide +kernel
theorem dX12_paint_20 : decode cX12_paint 20 = .ok (.ldc2_w 85, 3) := by decide +kernel
theorem dX12_paint_23 : decode cX12_paint 23 = .ok (.invokestatic 79, 3) := by decide +kernel
theorem dX12_paint_26 : decode cX12_paint 26 = .ok (.ifCond .eq 15, 3) := by decide +kernel
theorem dX12_paint_29 : decode cX12_paint 29 = .ok (.iload_n 3, 1) := by decide +kernel
theorem dX12_paint_30 : decode cX12_paint 30 = .ok (.i2l, 1) := by decide +kernel
theorem dX12_paint_31 : decode cX12_paint 31 = .ok (.lconst 0, 1) := by decide +kernel
theorem dX12_paint_32 : decode cX12_paint 32 = .ok (.ldc2_w 87, 3) := by decide +kernel
theorem dX12_paint_35 : decode cX12_paint 35 = .ok (.invokestatic 79, 3) := by decide +kernel
theorem dX12_paint_38 : decode cX12_paint 38 = .ok (.ifCond .ne 9, 3) := by decide +kernel
theorem dX12_paint_41 : decode cX12_paint 41 = .ok (.aload_n 0, 1) := by decide +kernel
theorem dX12_paint_42 : decode cX12_paint 42 = .ok (.iconst 1, 1) := by decide +kernel
theorem dX12_paint_43 : decode cX12_paint 43 = .ok (.invokevirtual 89, 3) := by decide +kernel
theorem dX12_paint_46 : decode cX12_paint 46 = .ok (.ireturn, 1) := by decide +kernel
theorem dX12_paint_47 : decode cX12_paint 47 = .ok (.aload_n 0, 1) := by decide +kernel
theorem dX12_paint_48 : decode cX12_paint 48 = .ok (.getfield 9, 3) := by decide +kernel
theorem dX12_paint_51 : decode cX12_paint 51 = .ok (.iconst 0, 1) := by decide +kernel
theorem dX12_paint_52 : decode cX12_paint 52 = .ok (.iaload, 1) := by decide +kernel
theorem dX12_paint_53 : decode cX12_paint 53 = .ok (.bipush 30, 2) := by decide +kernel
theorem dX12_paint_55 : decode cX12_paint 55 = .ok (.if_icmp .ne 5, 3) := by decide +kernel
theorem dX12_paint_58 : decode cX12_paint 58 = .ok (.iconst (-1), 1) := by decide +kernel
theorem dX12_paint_59 : decode cX12_paint 59 = .ok (.ireturn, 1) := by decide +kernel
theorem dX12_paint_60 : decode cX12_paint 60 = .ok (.bipush 16, 2) := by decide +kernel
theorem dX12_paint_62 : decode cX12_paint 62 = .ok (.bipush 8, 2) := by decide +kernel
theorem dX12_paint_64 : decode cX12_paint 64 = .ok (.aload_n 0, 1) := by decide +kernel
theorem dX12_paint_65 : decode cX12_paint 65 = .ok (.getfield 9, 3) := by decide +kernel
theorem dX12_paint_68 : decode cX12_paint 68 = .ok (.iconst 0, 1) := by decide +kernel
theorem dX12_paint_69 : decode cX12_paint 69 = .ok (.iaload, 1) := by decide +kernel
theorem dX12_paint_70 : decode cX12_paint 70 = .ok (.imul, 1) := by decide +kernel
theorem dX12_paint_71 : decode cX12_paint 71 = .ok (.iadd, 1) := by decide +kernel
theorem dX12_paint_72 : decode cX12_paint 72 = .ok (.istore 4, 2) := by decide +kernel
theorem dX12_paint_74 : decode cX12_paint 74 = .ok (.aload_n 0, 1) := by decide +kernel
theorem dX12_paint_75 : decode cX12_paint 75 = .ok (.getfield 9, 3) := by decide +kernel
theorem dX12_paint_78 : decode cX12_paint 78 = .ok (.iload 4, 2) := by decide +kernel
theorem dX12_paint_80 : decode cX12_paint 80 = .ok (.iconst 0, 1) := by decide +kernel
theorem dX12_paint_81 : decode cX12_paint 81 = .ok (.iadd, 1) := by decide +kernel
theorem dX12_paint_82 : decode cX12_paint 82 = .ok (.iload_n 1, 1) := by decide +kernel
theorem dX12_paint_83 : decode cX12_paint 83 = .ok (.iastore, 1) := by decide +kernel
theorem dX12_paint_84 : decode cX12_paint 84 = .ok (.aload_n 0, 1) := by decide +kernel
theorem dX12_paint_85 : decode cX12_paint 85 = .ok (.getfield 9, 3) := by decide +kernel
theorem dX12_paint_88 : decode cX12_paint 88 = .ok (.iload 4, 2) := by decide +kernel
theorem dX12_paint_90 : decode cX12_paint 90 = .ok (.iconst 1, 1) := by decide +kernel
theorem dX12_paint_91 : decode cX12_paint 91 = .ok (.iadd, 1) := by decide +kernel
theorem dX12_paint_92 : decode cX12_paint 92 = .ok (.iload_n 2, 1) := by decide +kernel
theorem dX12_paint_93 : decode cX12_paint 93 = .ok (.iastore, 1) := by decide +kernel
theorem dX12_paint_94 : decode cX12_paint 94 = .ok (.aload_n 0, 1) := by decide +kernel
theorem dX12_paint_95 : decode cX12_paint 95 = .ok (.getfield 9, 3) := by decide +kernel
theorem dX12_paint_98 : decode cX12_paint 98 = .ok (.iload 4, 2) := by decide +kernel
theorem dX12_paint_100 : decode cX12_paint 100 = .ok (.iconst 2, 1) := by decide +kernel
theorem dX12_paint_101 : decode cX12_paint 101 = .ok (.iadd, 1) := by decide +kernel
theorem dX12_paint_102 : decode cX12_paint 102 = .ok (.iload_n 3, 1) := by decide +kernel
theorem dX12_paint_103 : decode cX12_paint 103 = .ok (.iastore, 1) := by decide +kernel
theorem dX12_paint_104 : decode cX12_paint 104 = .ok (.iconst 0, 1) := by decide +kernel
theorem dX12_paint_105 : decode cX12_paint 105 = .ok (.istore 5, 2) := by decide +kernel
theorem dX12_paint_107 : decode cX12_paint 107 = .ok (.iload 5, 2) := by decide +kernel
theorem dX12_paint_109 : decode cX12_paint 109 = .ok (.iconst 5, 1) := by decide +kernel
theorem dX12_paint_110 : decode cX12_paint 110 = .ok (.if_icmp .ge 22, 3) := by decide +kernel
theorem dX12_paint_113 : decode cX12_paint 113 = .ok (.aload_n 0, 1) := by decide +kernel
theorem dX12_paint_114 : decode cX12_paint 114 = .ok (.getfield 9, 3) := by decide +kernel
theorem dX12_paint_117 : decode cX12_paint 117 = .ok (.iload 4, 2) := by decide +kernel
theorem dX12_paint_119 : decode cX12_paint 119 = .ok (.iconst 3, 1) := by decide +kernel
theorem dX12_paint_120 : decode cX12_paint 120 = .ok (.iadd, 1) := by decide +kernel
theorem dX12_paint_121 : decode cX12_paint 121 = .ok (.iload 5, 2) := by decide +kernel
theorem dX12_paint_123 : decode cX12_paint 123 = .ok (.iadd, 1) := by decide +kernel
theorem dX12_paint_124 : decode cX12_paint 124 = .ok (.iconst 0, 1) := by decide +kernel
theorem dX12_paint_125 : decode cX12_paint 125 = .ok (.iastore, 1) := by decide +kernel
theorem dX12_paint_126 : decode cX12_paint 126 = .ok (.iinc 5 1, 3) := by decide +kernel
theorem dX12_paint_129 : decode cX12_paint 129 = .ok (.goto (-22), 3) := by decide +kernel
theorem dX12_paint_132 : decode cX12_paint 132 = .ok (.aload_n 0, 1) := by decide +kernel
theorem dX12_paint_133 : decode cX12_paint 133 = .ok (.getfield 9, 3) := by decide +kernel
theorem dX12_paint_136 : decode cX12_paint 136 = .ok (.iconst 0, 1) := by decide +kernel
theorem dX12_paint_137 : decode cX12_paint 137 = .ok (.dup2, 1) := by decide +kernel
theorem dX12_paint_138 : decode cX12_paint 138 = .ok (.iaload, 1) := by decide +kernel
theorem dX12_paint_139 : decode cX12_paint 139 = .ok (.iconst 1, 1) := by decide +kernel
theorem dX12_paint_140 : decode cX12_paint 140 = .ok (.iadd, 1) := by decide +kernel
theorem dX12_paint_141 : decode cX12_paint 141 = .ok (.iastore, 1) := by decide +kernel
theorem dX12_paint_142 : decode cX12_paint 142 = .ok (.aload_n 0, 1) := by decide +kernel
theorem dX12_paint_143 : decode cX12_paint 143 = .ok (.getfield 9, 3) := by decide +kernel
theorem dX12_paint_146 : decode cX12_paint 146 = .ok (.iconst 0, 1) := by decide +kernel
theorem dX12_paint_147 : decode cX12_paint 147 = .ok (.iaload, 1) := by decide +kernel
theorem dX12_paint_148 : decode cX12_paint 148 = .ok (.iconst 1, 1) := by decide +kernel
theorem dX12_paint_149 : decode cX12_paint 149 = .ok (.isub, 1) := by decide +kernel
theorem dX12_paint_150 : decode cX12_paint 150 = .ok (.ireturn, 1) := by decide +kernel
abbrev z_X12_paint_174 : Z9 := (some .int, 1, 0, 0, 2, 25)
def m_X12_paint_174_c41 (d : D9) : Option R9 := cl (m_X12_fails_174 1 d) (fun r1 d2 => rt r1 d2)
def b_X12_paint_174_c107 (k_X12_paint_174_c107 : Int → Int → D9 → Option R9) (v4 v5 : Int) (d : D9) : Option R9 := if w32 5 ≤ w32 v5 then ld d 175 1604 0 (fun t1 => sd d 175 1604 0 (t1 + 1) (fun d2 => ld d2 175 1604 0 (fun t3 => rt (t3 - 1) d2))) else sd d 175 1604 ((v4 + 3) + v5) 0 (fun d4 => k_X12_paint_174_c107 v4 (v5 + 1) d4)
def m_X12_paint_174_c107 : Int → Int → D9 → Option R9 := fix9 (fun _ _ _ => none) (fun k => b_X12_paint_174_c107 k) FU
def m_X12_paint_174 (p1 p2 p3 : Int) (d : D9) : Option R9 := pf d 174 3 0 (fun d1 => cl (m_X12_within (w32 p1) 0 3 d1) (fun r2 d3 => if w32 r2 = 0 then m_X12_paint_174_c41   d3 else cl (m_X12_within (w32 p2) 0 5 d3) (fun r4 d5 => if w32 r4 = 0 then m_X12_paint_174_c41   d5 else cl (m_X12_within (w32 p3) 0 9 d5) (fun r6 d7 => if w32 r6 ≠ 0 then ld d7 175 1604 0 (fun t8 => if w32 t8 ≠ w32 30 then ld d7 175 1604 0 (fun t9 => lt9v (16 + (8 * t9)) (fun a10 => sd d7 175 1604 (a10 + 0) p1 (fun d11 => sd d11 175 1604 (a10 + 1) p2 (fun d12 => sd d12 175 1604 (a10 + 2) p3 (fun d13 => m_X12_paint_174_c107  a10 0 d13))))) else rt (-1) d7) else m_X12_paint_174_c41   d7))))
set_option maxRecDepth 100000 in
theorem s_X12_paint_174_c41 {G : G9} {X : X9} (C : CX G X cX12_paint 6 RX12 [] z_X12_paint_174) : ∀ (d : D9), SS G X 6 0 0 41 [(0, rf G 174)] [] d (m_X12_paint_174_c41   d) := by
  intro  d
  unfold m_X12_paint_174_c41
  refine r_aload_n C 0 dX12_paint_41 rfl rfl ?_
  refine r_iconst C dX12_paint_42 ?_
  refine r_callV C [i9 1, rf G 174] dX12_paint_43 (t_X12_fails_174 C.h1 C.h2 1 d) mw_X12_89 mv_X12_fails la_174 ly_174 rfl (by decide) (by decide) (by decide) rfl rfl (Nat.le_of_ble_eq_true rfl) (fun r1 d2 => ?_)
  show SS G X 6 _ _ 46 [(0, rf G 174)] [i9 r1] d2 _
  exact r_iret C dX12_paint_46 (by decide) (by decide)
set_option maxRecDepth 100000 in
theorem sb_X12_paint_174_c107 {G : G9} {X : X9} (C : CX G X cX12_paint 6 RX12 [] z_X12_paint_174) (k_X12_paint_174_c107 : Int → Int → D9 → Option R9) (hk_X12_paint_174_c107 : ∀ (v4 v5 : Int) (d : D9), SS G X 6 0 0 107 [(0, rf G 174), (4, i9 v4), (5, i9 v5)] [] d (k_X12_paint_174_c107 v4 v5 d)) : ∀ (v4 v5 : Int) (d : D9), SS G X 6 0 0 107 [(0, rf G 174), (4, i9 v4), (5, i9 v5)] [] d (b_X12_paint_174_c107 k_X12_paint_174_c107 v4 v5 d) := by
  intro v4 v5 d
  unfold b_X12_paint_174_c107
  refine r_iload C 2 dX12_paint_107 rfl ?_
  refine r_iconst C dX12_paint_109 ?_
  refine r_icmp_ge C 132 dX12_paint_110 (by decide) (fun _ => ?_) (fun _ => ?_)
  · refine r_aload_n C 0 dX12_paint_132 rfl rfl ?_
    refine r_getR C 175 dX12_paint_133 fl_X12_9 la_174 ly_174 rfl rfl ?_
    refine r_iconst C dX12_paint_136 ?_
    refine r_dup2 C dX12_paint_137 rfl rfl ?_
    refine r_iald C dX12_paint_138 la_175 ly_175 (fun t1 => ?_)
    refine r_iconst C dX12_paint_139 ?_
    refine r_iadd C dX12_paint_140 ?_
    refine r_iast C dX12_paint_141 la_175 ly_175 (fun d2 => ?_)
    refine r_aload_n C 0 dX12_paint_142 rfl rfl ?_
    refine r_getR C 175 dX12_paint_143 fl_X12_9 la_174 ly_174 rfl rfl ?_
    refine r_iconst C dX12_paint_146 ?_
    refine r_iald C dX12_paint_147 la_175 ly_175 (fun t3 => ?_)
    refine r_iconst C dX12_paint_148 ?_
    refine r_isub C dX12_paint_149 ?_
    exact r_iret C dX12_paint_150 (by decide) (by decide)
  · refine r_aload_n C 0 dX12_paint_113 rfl rfl ?_
    refine r_getR C 175 dX12_paint_114 fl_X12_9 la_174 ly_174 rfl rfl ?_
    refine r_iload C 1 dX12_paint_117 rfl ?_
    refine r_iconst C dX12_paint_119 ?_
    refine r_iadd C dX12_paint_120 ?_
    refine r_iload C 2 dX12_paint_121 rfl ?_
    refine r_iadd C dX12_paint_123 ?_
    refine r_iconst C dX12_paint_124 ?_
    refine r_iast C dX12_paint_125 la_175 ly_175 (fun d4 => ?_)
    refine r_iinc C 2 [(5, i9 (v5 + 1)), (0, rf G 174), (4, i9 v4)] dX12_paint_126 rfl (by decide) rfl ?_
    refine r_goto C 107 dX12_paint_129 (by decide) ?_
    refine ss_wide (k' := 0) (n' := 0) (by decide) (by decide) ?_
    refine ss_ls [(0, rf G 174), (4, i9 v4), (5, i9 (v5 + 1))] [1, 2, 0] rfl ?_
    exact hk_X12_paint_174_c107 v4 (v5 + 1) d4
theorem s_X12_paint_174_c107 {G : G9} {X : X9} (C : CX G X cX12_paint 6 RX12 [] z_X12_paint_174) : ∀ (v4 v5 : Int) (d : D9), SS G X 6 0 0 107 [(0, rf G 174), (4, i9 v4), (5, i9 v5)] [] d (m_X12_paint_174_c107  v4 v5 d) :=
  fix9_ind (P := fun k => ∀ (v4 v5 : Int) (d : D9), SS G X 6 0 0 107 [(0, rf G 174), (4, i9 v4), (5, i9 v5)] [] d (k v4 v5 d)) (fun _ _ _ => ss_none) (fun k hk => sb_X12_paint_174_c107 C k hk) FU
set_option maxRecDepth 100000 in
theorem t_X12_paint_174 {G : G9} {l : Launch} (h1 : va_D (A9 G) (wl G (fun _ _ => 0))) (h2 : l.stackTraces = false) (p1 p2 p3 : Int) (d : D9) : MT G l yX12_paint cX12_paint 6 z_X12_paint_174 [rf G 174, i9 p1, i9 p2, i9 p3] d (m_X12_paint_174 p1 p2 p3 d) := by
  refine mt_of (own := RX12) (by decide) rfl (Nat.le_of_ble_eq_true rfl) h1 h2 [(0, rf G 174), (1, i9 p1), (2, i9 p2), (3, i9 p3)] rfl (fun X hX C => ?_)
  unfold m_X12_paint_174
  refine r_aload_n C 0 dX12_paint_0 rfl rfl ?_
  refine r_iconst C dX12_paint_1 ?_
  refine r_putI C dX12_paint_2 fp_X12_76 la_174 ly_174 rfl (fun d1 => ?_)
  refine r_iload_n C 1 dX12_paint_5 rfl rfl ?_
  refine r_i2l C dX12_paint_6 ?_
  refine r_lconst C dX12_paint_7 (a := 0) rfl ?_
  refine r_ldcL C dX12_paint_8 kc_X12_83 ?_
  refine r_callS C [l9 3, l9 0, l9 (w32 p1)] dX12_paint_11 (t_X12_within C.h1 C.h2 (w32 p1) 0 3 d1) mw_X12_79 ms_X12_within (by decide) (by decide) (by decide) rfl rfl (Nat.le_of_ble_eq_true rfl) (fun r2 d3 => ?_)
  show SS G X 6 _ _ 14 [(0, rf G 174), (1, i9 p1), (2, i9 p2), (3, i9 p3)] [i9 r2] d3 _
  refine r_if_eq C (b := 0) 41 dX12_paint_14 (by decide) (fun _ => ?_) (fun _ => ?_)
  · refine ss_wide (k' := 0) (n' := 0) (by decide) (by decide) ?_
    refine ss_ls [(0, rf G 174)] [0] rfl ?_
    exact s_X12_paint_174_c41 C   d3
  · refine r_iload_n C 2 dX12_paint_17 rfl rfl ?_
    refine r_i2l C dX12_paint_18 ?_
    refine r_lconst C dX12_paint_19 (a := 0) rfl ?_
    refine r_ldcL C dX12_paint_20 kc_X12_85 ?_
    refine r_callS C [l9 5, l9 0, l9 (w32 p2)] dX12_paint_23 (t_X12_within C.h1 C.h2 (w32 p2) 0 5 d3) mw_X12_79 ms_X12_within (by decide) (by decide) (by decide) rfl rfl (Nat.le_of_ble_eq_true rfl) (fun r4 d5 => ?_)
    show SS G X 6 _ _ 26 [(0, rf G 174), (1, i9 p1), (2, i9 p2), (3, i9 p3)] [i9 r4] d5 _
    refine r_if_eq C (b := 0) 41 dX12_paint_26 (by decide) (fun _ => ?_) (fun _ => ?_)
    · refine ss_wide (k' := 0) (n' := 0) (by decide) (by decide) ?_
      refine ss_ls [(0, rf G 174)] [0] rfl ?_
      exact s_X12_paint_174_c41 C   d5
    · refine r_iload_n C 3 dX12_paint_29 rfl rfl ?_
      refine r_i2l C dX12_paint_30 ?_
      refine r_lconst C dX12_paint_31 (a := 0) rfl ?_
      refine r_ldcL C dX12_paint_32 kc_X12_87 ?_
      refine r_callS C [l9 9, l9 0, l9 (w32 p3)] dX12_paint_35 (t_X12_within C.h1 C.h2 (w32 p3) 0 9 d5) mw_X12_79 ms_X12_within (by decide) (by decide) (by decide) rfl rfl (Nat.le_of_ble_eq_true rfl) (fun r6 d7 => ?_)
      show SS G X 6 _ _ 38 [(0, rf G 174), (1, i9 p1), (2, i9 p2), (3, i9 p3)] [i9 r6] d7 _
      refine r_if_ne C (b := 0) 47 dX12_paint_38 (by decide) (fun _ => ?_) (fun _ => ?_)
      · refine r_aload_n C 0 dX12_paint_47 rfl rfl ?_
        refine r_getR C 175 dX12_paint_48 fl_X12_9 la_174 ly_174 rfl rfl ?_
        refine r_iconst C dX12_paint_51 ?_
        refine r_iald C dX12_paint_52 la_175 ly_175 (fun t8 => ?_)
        refine r_bipush C dX12_paint_53 rfl ?_
        refine r_icmp_ne C 60 dX12_paint_55 (by decide) (fun _ => ?_) (fun _ => ?_)
        · refine r_bipush C dX12_paint_60 rfl ?_
          refine r_bipush C dX12_paint_62 rfl ?_
          refine r_aload_n C 0 dX12_paint_64 rfl rfl ?_
          refine r_getR C 175 dX12_paint_65 fl_X12_9 la_174 ly_174 rfl rfl ?_
          refine r_iconst C dX12_paint_68 ?_
          refine r_iald C dX12_paint_69 la_175 ly_175 (fun t9 => ?_)
          refine r_imul C dX12_paint_70 ?_
          refine r_iadd C dX12_paint_71 ?_
          refine ss_lt (fun a10 => ?_)
          refine r_istore C [(4, i9 a10), (0, rf G 174), (1, i9 p1), (2, i9 p2), (3, i9 p3)] dX12_paint_72 (by decide) rfl ?_
          refine r_aload_n C 1 dX12_paint_74 rfl rfl ?_
          refine r_getR C 175 dX12_paint_75 fl_X12_9 la_174 ly_174 rfl rfl ?_
          refine r_iload C 0 dX12_paint_78 rfl ?_
          refine r_iconst C dX12_paint_80 ?_
          refine r_iadd C dX12_paint_81 ?_
          refine r_iload_n C 2 dX12_paint_82 rfl rfl ?_
          refine r_iast C dX12_paint_83 la_175 ly_175 (fun d11 => ?_)
          refine r_aload_n C 1 dX12_paint_84 rfl rfl ?_
          refine r_getR C 175 dX12_paint_85 fl_X12_9 la_174 ly_174 rfl rfl ?_
          refine r_iload C 0 dX12_paint_88 rfl ?_
          refine r_iconst C dX12_paint_90 ?_
          refine r_iadd C dX12_paint_91 ?_
          refine r_iload_n C 3 dX12_paint_92 rfl rfl ?_
          refine r_iast C dX12_paint_93 la_175 ly_175 (fun d12 => ?_)
          refine r_aload_n C 1 dX12_paint_94 rfl rfl ?_
          refine r_getR C 175 dX12_paint_95 fl_X12_9 la_174 ly_174 rfl rfl ?_
          refine r_iload C 0 dX12_paint_98 rfl ?_
          refine r_iconst C dX12_paint_100 ?_
          refine r_iadd C dX12_paint_101 ?_
          refine r_iload_n C 4 dX12_paint_102 rfl rfl ?_
          refine r_iast C dX12_paint_103 la_175 ly_175 (fun d13 => ?_)
          refine r_iconst C dX12_paint_104 ?_
          refine r_istore C [(5, i9 0), (4, i9 a10), (0, rf G 174), (1, i9 p1), (2, i9 p2), (3, i9 p3)] dX12_paint_105 (by decide) rfl ?_
          refine ss_wide (k' := 0) (n' := 0) (by decide) (by decide) ?_
          refine ss_ls [(0, rf G 174), (4, i9 a10), (5, i9 0)] [2, 1, 0] rfl ?_
          exact s_X12_paint_174_c107 C  a10 0 d13
        · refine r_iconst C dX12_paint_58 ?_
          exact r_iret C dX12_paint_59 (by decide) (by decide)
      · refine ss_wide (k' := 0) (n' := 0) (by decide) (by decide) ?_
        refine ss_ls [(0, rf G 174)] [0] rfl ?_
        exact s_X12_paint_174_c41 C   d7
theorem dX12_isTray_0 : decode cX12_isTray 0 = .ok (.iload_n 0, 1) := by decide +kernel
theorem dX12_isTray_1 : decode cX12_isTray 1 = .ok (.i2l, 1) := by decide +kernel
theorem dX12_isTray_2 : decode cX12_isTray 2 = .ok (.lconst 0, 1) := by decide +kernel
theorem dX12_isTray_3 : decode cX12_isTray 3 = .ok (.ldc2_w 83, 3) := by decide +kernel
theorem dX12_isTray_6 : decode cX12_isTray 6 = .ok (.invokestatic 79, 3) := by decide +kernel
theorem dX12_isTray_9 : decode cX12_isTray 9 = .ok (.ireturn, 1) := by decide +kernel
abbrev z_X12_isTray : Z9 := (some .boolean, 1, 0, 0, 2, 25)
def m_X12_isTray (p0 : Int) (d : D9) : Option R9 := cl (m_X12_within (w32 p0) 0 3 d) (fun r1 d2 => rt (r1 % 2) d2)
set_option maxRecDepth 100000 in
theorem t_X12_isTray {G : G9} {l : Launch} (h1 : va_D (A9 G) (wl G (fun _ _ => 0))) (h2 : l.stackTraces = false) (p0 : Int) (d : D9) : MT G l yX12_isTray cX12_isTray 1 z_X12_isTray [i9 p0] d (m_X12_isTray p0 d) := by
  refine mt_of (own := RX12) (by decide) rfl (Nat.le_of_ble_eq_true rfl) h1 h2 [(0, i9 p0)] rfl (fun X hX C => ?_)
  unfold m_X12_isTray
  refine r_iload_n C 0 dX12_isTray_0 rfl rfl ?_
  refine r_i2l C dX12_isTray_1 ?_
  refine r_lconst C dX12_isTray_2 (a := 0) rfl ?_
  refine r_ldcL C dX12_isTray_3 kc_X12_83 ?_
  refine r_callS C [l9 3, l9 0, l9 (w32 p0)] dX12_isTray_6 (t_X12_within C.h1 C.h2 (w32 p0) 0 3 d) mw_X12_79 ms_X12_within (by decide) (by decide) (by decide) rfl rfl (Nat.le_of_ble_eq_true rfl) (fun r1 d2 => ?_)
  show SS G X 1 _ _ 9 [(0, i9 p0)] [i9 r1] d2 _
  exact r_zret C dX12_isTray_9 (by decide) (by decide)
theorem dX12_pour_0 : decode cX12_pour 0 = .ok (.aload_n 0, 1) := by decide +kernel
theorem dX12_pour_1 : decode cX12_pour 1 = .ok (.iconst 0, 1) := by decide +kernel
theorem dX12_pour_2 : decode cX12_pour 2 = .ok (.putfield 76, 3) := by decide +kernel
theorem dX12_pour_5 : decode cX12_pour 5 = .ok (.aload_n 0, 1) := by decide +kernel
theorem dX12_pour_6 : decode cX12_pour 6 = .ok (.iload_n 1, 1) := by decide +kernel
theorem dX12_pour_7 : decode cX12_pour 7 = .ok (.invokevirtual 118, 3) := by decide +kernel
theorem dX12_pour_10 : decode cX12_pour 10 = .ok (.ifCond .eq 10, 3) := by decide +kernel
theorem dX12_pour_13 : decode cX12_pour 13 = .ok (.iload_n 2, 1) := by decide +kernel
theorem dX12_pour_14 : decode cX12_pour 14 = .ok (.invokestatic 427, 3) := by decide +kernel
theorem dX12_pour_17 : decode cX12_pour 17 = .ok (.ifCond .ne 9, 3) := by decide +kernel
theorem dX12_pour_20 : decode cX12_pour 20 = .ok (.aload_n 0, 1) := by decide +kernel
theorem dX12_pour_21 : decode cX12_pour 21 = .ok (.iconst 1, 1) := by decide +kernel
theorem dX12_pour_22 : decode cX12_pour 22 = .ok (.invokevirtual 89, 3) := by decide +kernel
theorem dX12_pour_25 : decode cX12_pour 25 = .ok (.ireturn, 1) := by decide +kernel
theorem dX12_pour_26 : decode cX12_pour 26 = .ok (.aload_n 0, 1) := by decide +kernel
theorem dX12_pour_27 : decode cX12_pour 27 = .ok (.getfield 64, 3) := by decide +kernel
theorem dX12_pour_30 : decode cX12_pour 30 = .ok (.iload_n 2, 1) := by decide +kernel
theorem dX12_pour_31 : decode cX12_pour 31 = .ok (.iaload, 1) := by decide +kernel
theorem dX12_pour_32 : decode cX12_pour 32 = .ok (.iconst (-1), 1) := by decide +kernel
theorem dX12_pour_33 : decode cX12_pour 33 = .ok (.if_icmp .ne 9, 3) := by decide +kernel
theorem dX12_pour_36 : decode cX12_pour 36 = .ok (.aload_n 0, 1) := by decide +kernel
theorem dX12_pour_37 : decode cX12_pour 37 = .ok (.iconst 2, 1) := by decide +kernel
theorem dX12_pour_38 : decode cX12_pour 38 = .ok (.invokevirtual 89, 3) := by decide +kernel
theorem dX12_pour_41 : decode cX12_pour 41 = .ok (.ireturn, 1) := by decide +kernel
theorem dX12_pour_42 : decode cX12_pour 42 = .ok (.aload_n 0, 1) := by decide +kernel
theorem dX12_pour_43 : decode cX12_pour 43 = .ok (.getfield 67, 3) := by decide +kernel
theorem dX12_pour_46 : decode cX12_pour 46 = .ok (.iload_n 2, 1) := by decide +kernel
theorem dX12_pour_47 : decode cX12_pour 47 = .ok (.iaload, 1) := by decide +kernel
theorem dX12_pour_48 : decode cX12_pour 48 = .ok (.iconst 3, 1) := by decide +kernel
theorem dX12_pour_49 : decode cX12_pour 49 = .ok (.irem, 1) := by decide +kernel
theorem dX12_pour_50 : decode cX12_pour 50 = .ok (.ifCond .eq 9, 3) := by decide +kernel
theorem dX12_pour_53 : decode cX12_pour 53 = .ok (.aload_n 0, 1) := by decide +kernel
theorem dX12_pour_54 : decode cX12_pour 54 = .ok (.iconst 3, 1) := by decide +kernel
theorem dX12_pour_55 : decode cX12_pour 55 = .ok (.invokevirtual 89, 3) := by decide +kernel
theorem dX12_pour_58 : decode cX12_pour 58 = .ok (.ireturn, 1) := by decide +kernel
theorem dX12_pour_59 : decode cX12_pour 59 = .ok (.aload_n 0, 1) := by decide +kernel
theorem dX12_pour_60 : decode cX12_pour 60 = .ok (.getfield 67, 3) := by decide +kernel
theorem dX12_pour_63 : decode cX12_pour 63 = .ok (.iload_n 2, 1) := by decide +kernel
theorem dX12_pour_64 : decode cX12_pour 64 = .ok (.iaload, 1) := by decide +kernel
theorem dX12_pour_65 : decode cX12_pour 65 = .ok (.iconst 3, 1) := by decide +kernel
theorem dX12_pour_66 : decode cX12_pour 66 = .ok (.idiv, 1) := by decide +kernel
theorem dX12_pour_67 : decode cX12_pour 67 = .ok (.istore_n 3, 1) := by decide +kernel
theorem dX12_pour_68 : decode cX12_pour 68 = .ok (.bipush 40, 2) := by decide +kernel
theorem dX12_pour_70 : decode cX12_pour 70 = .ok (.iload_n 2, 1) := by decide +kernel
theorem dX12_pour_71 : decode cX12_pour 71 = .ok (.imul, 1) := by decide +kernel
theorem dX12_pour_72 : decode cX12_pour 72 = .ok (.istore 4, 2) := by decide +kernel
theorem dX12_pour_74 : decode cX12_pour 74 = .ok (.iconst 0, 1) := by decide +kernel
theorem dX12_pour_75 : decode cX12_pour 75 = .ok (.istore 5, 2) := by decide +kernel
theorem dX12_pour_77 : decode cX12_pour 77 = .ok (.iload 5, 2) := by decide +kernel
theorem dX12_pour_79 : decode cX12_pour 79 = .ok (.iload_n 3, 1) := by decide +kernel
theorem dX12_pour_80 : decode cX12_pour 80 = .ok (.if_icmp .ge 61, 3) := by decide +kernel
theorem dX12_pour_83 : decode cX12_pour 83 = .ok (.aload_n 0, 1) := by decide +kernel
theorem dX12_pour_84 : decode cX12_pour 84 = .ok (.getfield 70, 3) := by decide +kernel
theorem dX12_pour_87 : decode cX12_pour 87 = .ok (.iload 4, 2) := by decide +kernel
theorem dX12_pour_89 : decode cX12_pour 89 = .ok (.iconst 3, 1) := by decide +kernel
theorem dX12_pour_90 : decode cX12_pour 90 = .ok (.iload 5, 2) := by decide +kernel
theorem dX12_pour_92 : decode cX12_pour 92 = .ok (.imul, 1) := by decide +kernel
theorem dX12_pour_93 : decode cX12_pour 93 = .ok (.iadd, 1) := by decide +kernel
theorem dX12_pour_94 : decode cX12_pour 94 = .ok (.laload, 1) := by decide +kernel
theorem dX12_pour_95 : decode cX12_pour 95 = .ok (.aload_n 0, 1) := by decide +kernel
theorem dX12_pour_96 : decode cX12_pour 96 = .ok (.getfield 70, 3) := by decide +kernel
theorem dX12_pour_99 : decode cX12_pour 99 = .ok (.iload 4, 2) := by decide +kernel
theorem dX12_pour_101 : decode cX12_pour 101 = .ok (.iconst 3, 1) := by decide +kernel
theorem dX12_pour_102 : decode cX12_pour 102 = .ok (.iload 5, 2) := by decide +kernel
theorem dX12_pour_104 : decode cX12_pour 104 = .ok (.imul, 1) := by decide +kernel
theorem dX12_pour_105 : decode cX12_pour 105 = .ok (.iadd, 1) := by decide +kernel
theorem dX12_pour_106 : decode cX12_pour 106 = .ok (.iconst 1, 1) := by decide +kernel
theorem dX12_pour_107 : decode cX12_pour 107 = .ok (.iadd, 1) := by decide +kernel
theorem dX12_pour_108 : decode cX12_pour 108 = .ok (.laload, 1) := by decide +kernel
theorem dX12_pour_109 : decode cX12_pour 109 = .ok (.aload_n 0, 1) := by decide +kernel
theorem dX12_pour_110 : decode cX12_pour 110 = .ok (.getfield 70, 3) := by decide +kernel
theorem dX12_pour_113 : decode cX12_pour 113 = .ok (.iload 4, 2) := by decide +kernel
theorem dX12_pour_115 : decode cX12_pour 115 = .ok (.iconst 3, 1) := by decide +kernel
theorem dX12_pour_116 : decode cX12_pour 116 = .ok (.iload 5, 2) := by decide +kernel
theorem dX12_pour_118 : decode cX12_pour 118 = .ok (.imul, 1) := by decide +kernel
theorem dX12_pour_119 : decode cX12_pour 119 = .ok (.iadd, 1) := by decide +kernel
theorem dX12_pour_120 : decode cX12_pour 120 = .ok (.iconst 2, 1) := by decide +kernel
theorem dX12_pour_121 : decode cX12_pour 121 = .ok (.iadd, 1) := by decide +kernel
theorem dX12_pour_122 : decode cX12_pour 122 = .ok (.laload, 1) := by decide +kernel
theorem dX12_pour_123 : decode cX12_pour 123 = .ok (.invokestatic 121, 3) := by decide +kernel
theorem dX12_pour_126 : decode cX12_pour 126 = .ok (.ifCond .ne 9, 3) := by decide +kernel
theorem dX12_pour_129 : decode cX12_pour 129 = .ok (.aload_n 0, 1) := by decide +kernel
theorem dX12_pour_130 : decode cX12_pour 130 = .ok (.iconst 4, 1) := by decide +kernel
theorem dX12_pour_131 : decode cX12_pour 131 = .ok (.invokevirtual 89, 3) := by decide +kernel
theorem dX12_pour_134 : decode cX12_pour 134 = .ok (.ireturn, 1) := by decide +kernel
theorem dX12_pour_135 : decode cX12_pour 135 = .ok (.iinc 5 1, 3) := by decide +kernel
theorem dX12_pour_138 : decode cX12_pour 138 = .ok (.goto (-61), 3) := by decide +kernel
theorem dX12_pour_141 : decode cX12_pour 141 = .ok (.aload_n 0, 1) := by decide +kernel
theorem dX12_pour_142 : decode cX12_pour 142 = .ok (.iload_n 1, 1) := by decide +kernel
theorem dX12_pour_143 : decode cX12_pour 143 = .ok (.iconst 4, 1) := by decide +kernel
theorem dX12_pour_144 : decode cX12_pour 144 = .ok (.invokevirtual 124, 3) := by decide +kernel
theorem dX12_pour_147 : decode cX12_pour 147 = .ok (.iload_n 3, 1) := by decide +kernel
theorem dX12_pour_148 : decode cX12_pour 148 = .ok (.iadd, 1) := by decide +kernel
theorem dX12_pour_149 : decode cX12_pour 149 = .ok (.iconst 4, 1) := by decide +kernel
theorem dX12_pour_150 : decode cX12_pour 150 = .ok (.if_icmp .le 5, 3) := by decide +kernel
theorem dX12_pour_153 : decode cX12_pour 153 = .ok (.iconst (-1), 1) := by decide +kernel
theorem dX12_pour_154 : decode cX12_pour 154 = .ok (.ireturn, 1) := by decide +kernel
theorem dX12_pour_155 : decode cX12_pour 155 = .ok (.iconst 0, 1) := by decide +kernel
theorem dX12_pour_156 : decode cX12_pour 156 = .ok (.istore 5, 2) := by decide +kernel
theorem dX12_pour_158 : decode cX12_pour 158 = .ok (.iload 5, 2) := by decide +kernel
theorem dX12_pour_160 : decode cX12_pour 160 = .ok (.iload_n 3, 1) := by decide +kernel
theorem dX12_pour_161 : decode cX12_pour 161 = .ok (.if_icmp .ge 57, 3) := by decide +kernel
theorem dX12_pour_164 : decode cX12_pour 164 = .ok (.aload_n 0, 1) := by decide +kernel
theorem dX12_pour_165 : decode cX12_pour 165 = .ok (.iload_n 1, 1) := by decide +kernel
theorem dX12_pour_166 : decode cX12_pour 166 = .ok (.aload_n 0, 1) := by decide +kernel
theorem dX12_pour_167 : decode cX12_pour 167 = .ok (.getfield 70, 3) := by decide +kernel
theorem dX12_pour_170 : decode cX12_pour 170 = .ok (.iload 4, 2) := by decide +kernel
theorem dX12_pour_172 : decode cX12_pour 172 = .ok (.iconst 3, 1) := by decide +kernel
theorem dX12_pour_173 : decode cX12_pour 173 = .ok (.iload 5, 2) := by decide +kernel
theorem dX12_pour_175 : decode cX12_pour 175 = .ok (.imul, 1) := by decide +kernel
theorem dX12_pour_176 : decode cX12_pour 176 = .ok (.iadd, 1) := by decide +kernel
theorem dX12_pour_177 : decode cX12_pour 177 = .ok (.laload, 1) := by decide +kernel
theorem dX12_pour_178 : decode cX12_pour 178 = .ok (.l2i, 1) := by decide +kernel
theorem dX12_pour_179 : decode cX12_pour 179 = .ok (.aload_n 0, 1) := by decide +kernel
theorem dX12_pour_180 : decode cX12_pour 180 = .ok (.getfield 70, 3) := by decide +kernel
theorem dX12_pour_183 : decode cX12_pour 183 = .ok (.iload 4, 2) := by decide +kernel
theorem dX12_pour_185 : decode cX12_pour 185 = .ok (.iconst 3, 1) := by decide +kernel
theorem dX12_pour_186 : decode cX12_pour 186 = .ok (.iload 5, 2) := by decide +kernel
theorem dX12_pour_188 : decode cX12_pour 188 = .ok (.imul, 1) := by decide +kernel
theorem dX12_pour_189 : decode cX12_pour 189 = .ok (.iadd, 1) := by decide +kernel
theorem dX12_pour_190 : decode cX12_pour 190 = .ok (.iconst 1, 1) := by decide +kernel
theorem dX12_pour_191 : decode cX12_pour 191 = .ok (.iadd, 1) := by decide +kernel
theorem dX12_pour_192 : decode cX12_pour 192 = .ok (.laload, 1) := by decide +kernel
theorem dX12_pour_193 : decode cX12_pour 193 = .ok (.l2i, 1) := by decide +kernel
theorem dX12_pour_194 : decode cX12_pour 194 = .ok (.aload_n 0, 1) := by decide +kernel
theorem dX12_pour_195 : decode cX12_pour 195 = .ok (.getfield 70, 3) := by decide +kernel
theorem dX12_pour_198 : decode cX12_pour 198 = .ok (.iload 4, 2) := by decide +kernel
theorem dX12_pour_200 : decode cX12_pour 200 = .ok (.iconst 3, 1) := by decide +kernel
theorem dX12_pour_201 : decode cX12_pour 201 = .ok (.iload 5, 2) := by decide +kernel
theorem dX12_pour_203 : decode cX12_pour 203 = .ok (.imul, 1) := by decide +kernel
theorem dX12_pour_204 : decode cX12_pour 204 = .ok (.iadd, 1) := by decide +kernel
theorem dX12_pour_205 : decode cX12_pour 205 = .ok (.iconst 2, 1) := by decide +kernel
theorem dX12_pour_206 : decode cX12_pour 206 = .ok (.iadd, 1) := by decide +kernel
theorem dX12_pour_207 : decode cX12_pour 207 = .ok (.laload, 1) := by decide +kernel
theorem dX12_pour_208 : decode cX12_pour 208 = .ok (.l2i, 1) := by decide +kernel
theorem dX12_pour_209 : decode cX12_pour 209 = .ok (.invokevirtual 127, 3) := by decide +kernel
theorem dX12_pour_212 : decode cX12_pour 212 = .ok (.iinc 5 1, 3) := by decide +kernel
theorem dX12_pour_215 : decode cX12_pour 215 = .ok (.goto (-57), 3) := by decide +kernel
theorem dX12_pour_218 : decode cX12_pour 218 = .ok (.iload_n 3, 1) := by decide +kernel
theorem dX12_pour_219 : decode cX12_pour 219 = .ok (.ireturn, 1) := by decide +kernel
abbrev z_X12_pour_174 : Z9 := (some .int, 1, 0, 0, 3, 50)
def m_X12_pour_174_c20 (d : D9) : Option R9 := cl (m_X12_fails_174 1 d) (fun r1 d2 => rt r1 d2)
def b_X12_pour_174_c158 (k_X12_pour_174_c158 : Int → Int → Int → Int → D9 → Option R9) (v1 v3 v4 v5 : Int) (d : D9) : Option R9 := if w32 v3 ≤ w32 v5 then rt v3 d else ld d 193 160 (v4 + (3 * v5)) (fun t1 => ld d 193 160 ((v4 + (3 * v5)) + 1) (fun t2 => ld d 193 160 ((v4 + (3 * v5)) + 2) (fun t3 => cl (m_X12_addLayer_174 v1 t1 t2 t3 d) (fun r4 d5 => k_X12_pour_174_c158 v1 v3 v4 (v5 + 1) d5))))
def m_X12_pour_174_c158 : Int → Int → Int → Int → D9 → Option R9 := fix9 (fun _ _ _ _ _ => none) (fun k => b_X12_pour_174_c158 k) FU
def b_X12_pour_174_c77 (k_X12_pour_174_c77 : Int → Int → Int → Int → D9 → Option R9) (v1 v3 v4 v5 : Int) (d : D9) : Option R9 := if w32 v3 ≤ w32 v5 then cl (m_X12_ofSkin_174 v1 4 d) (fun r1 d2 => if w32 (r1 + v3) ≤ w32 4 then m_X12_pour_174_c158  v1 v3 v4 0 d2 else rt (-1) d2) else ld d 193 160 (v4 + (3 * v5)) (fun t3 => ld d 193 160 ((v4 + (3 * v5)) + 1) (fun t4 => ld d 193 160 ((v4 + (3 * v5)) + 2) (fun t5 => cl (m_X12_areCounts t3 t4 t5 d) (fun r6 d7 => if w32 r6 ≠ 0 then k_X12_pour_174_c77 v1 v3 v4 (v5 + 1) d7 else cl (m_X12_fails_174 4 d7) (fun r8 d9 => rt r8 d9)))))
def m_X12_pour_174_c77 : Int → Int → Int → Int → D9 → Option R9 := fix9 (fun _ _ _ _ _ => none) (fun k => b_X12_pour_174_c77 k) FU
def m_X12_pour_174 (p1 p2 : Int) (d : D9) : Option R9 := pf d 174 3 0 (fun d1 => cl (m_X12_isSkin_174 p1 d1) (fun r2 d3 => if w32 r2 = 0 then m_X12_pour_174_c20   d3 else cl (m_X12_isTray p2 d3) (fun r4 d5 => if w32 r4 ≠ 0 then ld d5 191 4 p2 (fun t6 => if w32 t6 ≠ w32 (-1) then ld d5 192 4 p2 (fun t7 => if w32 (rem9 t7 3) = 0 then ld d5 192 4 p2 (fun t8 => lt9v (div9 t8 3) (fun a9 => lt9v (40 * p2) (fun a10 => m_X12_pour_174_c77  p1 a9 a10 0 d5))) else cl (m_X12_fails_174 3 d5) (fun r11 d12 => rt r11 d12)) else cl (m_X12_fails_174 2 d5) (fun r13 d14 => rt r13 d14)) else m_X12_pour_174_c20   d5)))
set_option maxRecDepth 100000 in
theorem s_X12_pour_174_c20 {G : G9} {X : X9} (C : CX G X cX12_pour 6 RX12 [] z_X12_pour_174) : ∀ (d : D9), SS G X 6 0 0 20 [(0, rf G 174)] [] d (m_X12_pour_174_c20   d) := by
  intro  d
  unfold m_X12_pour_174_c20
  refine r_aload_n C 0 dX12_pour_20 rfl rfl ?_
  refine r_iconst C dX12_pour_21 ?_
  refine r_callV C [i9 1, rf G 174] dX12_pour_22 (t_X12_fails_174 C.h1 C.h2 1 d) mw_X12_89 mv_X12_fails la_174 ly_174 rfl (by decide) (by decide) (by decide) rfl rfl (Nat.le_of_ble_eq_true rfl) (fun r1 d2 => ?_)
  show SS G X 6 _ _ 25 [(0, rf G 174)] [i9 r1] d2 _
  exact r_iret C dX12_pour_25 (by decide) (by decide)
set_option maxRecDepth 100000 in
theorem sb_X12_pour_174_c158 {G : G9} {X : X9} (C : CX G X cX12_pour 6 RX12 [] z_X12_pour_174) (k_X12_pour_174_c158 : Int → Int → Int → Int → D9 → Option R9) (hk_X12_pour_174_c158 : ∀ (v1 v3 v4 v5 : Int) (d : D9), SS G X 6 0 0 158 [(0, rf G 174), (1, i9 v1), (3, i9 v3), (4, i9 v4), (5, i9 v5)] [] d (k_X12_pour_174_c158 v1 v3 v4 v5 d)) : ∀ (v1 v3 v4 v5 : Int) (d : D9), SS G X 6 0 0 158 [(0, rf G 174), (1, i9 v1), (3, i9 v3), (4, i9 v4), (5, i9 v5)] [] d (b_X12_pour_174_c158 k_X12_pour_174_c158 v1 v3 v4 v5 d) := by
  intro v1 v3 v4 v5 d
  unfold b_X12_pour_174_c158
  refine r_iload C 4 dX12_pour_158 rfl ?_
  refine r_iload_n C 2 dX12_pour_160 rfl rfl ?_
  refine r_icmp_ge C 218 dX12_pour_161 (by decide) (fun _ => ?_) (fun _ => ?_)
  · refine r_iload_n C 2 dX12_pour_218 rfl rfl ?_
    exact r_iret C dX12_pour_219 (by decide) (by decide)
  · refine r_aload_n C 0 dX12_pour_164 rfl rfl ?_
    refine r_iload_n C 1 dX12_pour_165 rfl rfl ?_
    refine r_aload_n C 0 dX12_pour_166 rfl rfl ?_
    refine r_getR C 193 dX12_pour_167 fl_X12_70 la_174 ly_174 rfl rfl ?_
    refine r_iload C 3 dX12_pour_170 rfl ?_
    refine r_iconst C dX12_pour_172 ?_
    refine r_iload C 4 dX12_pour_173 rfl ?_
    refine r_imul C dX12_pour_175 ?_
    refine r_iadd C dX12_pour_176 ?_
    refine r_lald C dX12_pour_177 la_193 ly_193 (fun t1 => ?_)
    refine r_l2i C dX12_pour_178 ?_
    refine r_aload_n C 0 dX12_pour_179 rfl rfl ?_
    refine r_getR C 193 dX12_pour_180 fl_X12_70 la_174 ly_174 rfl rfl ?_
    refine r_iload C 3 dX12_pour_183 rfl ?_
    refine r_iconst C dX12_pour_185 ?_
    refine r_iload C 4 dX12_pour_186 rfl ?_
    refine r_imul C dX12_pour_188 ?_
    refine r_iadd C dX12_pour_189 ?_
    refine r_iconst C dX12_pour_190 ?_
    refine r_iadd C dX12_pour_191 ?_
    refine r_lald C dX12_pour_192 la_193 ly_193 (fun t2 => ?_)
    refine r_l2i C dX12_pour_193 ?_
    refine r_aload_n C 0 dX12_pour_194 rfl rfl ?_
    refine r_getR C 193 dX12_pour_195 fl_X12_70 la_174 ly_174 rfl rfl ?_
    refine r_iload C 3 dX12_pour_198 rfl ?_
    refine r_iconst C dX12_pour_200 ?_
    refine r_iload C 4 dX12_pour_201 rfl ?_
    refine r_imul C dX12_pour_203 ?_
    refine r_iadd C dX12_pour_204 ?_
    refine r_iconst C dX12_pour_205 ?_
    refine r_iadd C dX12_pour_206 ?_
    refine r_lald C dX12_pour_207 la_193 ly_193 (fun t3 => ?_)
    refine r_l2i C dX12_pour_208 ?_
    refine r_callV C [i9 t3, i9 t2, i9 t1, i9 v1, rf G 174] dX12_pour_209 (t_X12_addLayer_174 C.h1 C.h2 v1 t1 t2 t3 d) mw_X12_127 mv_X12_addLayer la_174 ly_174 rfl (by decide) (by decide) (by decide) rfl rfl (Nat.le_of_ble_eq_true rfl) (fun r4 d5 => ?_)
    show SS G X 6 _ _ 212 [(0, rf G 174), (1, i9 v1), (3, i9 v3), (4, i9 v4), (5, i9 v5)] [] d5 _
    refine r_iinc C 4 [(5, i9 (v5 + 1)), (0, rf G 174), (1, i9 v1), (3, i9 v3), (4, i9 v4)] dX12_pour_212 rfl (by decide) rfl ?_
    refine r_goto C 158 dX12_pour_215 (by decide) ?_
    refine ss_wide (k' := 0) (n' := 0) (by decide) (by decide) ?_
    refine ss_ls [(0, rf G 174), (1, i9 v1), (3, i9 v3), (4, i9 v4), (5, i9 (v5 + 1))] [1, 2, 3, 4, 0] rfl ?_
    exact hk_X12_pour_174_c158 v1 v3 v4 (v5 + 1) d5
theorem s_X12_pour_174_c158 {G : G9} {X : X9} (C : CX G X cX12_pour 6 RX12 [] z_X12_pour_174) : ∀ (v1 v3 v4 v5 : Int) (d : D9), SS G X 6 0 0 158 [(0, rf G 174), (1, i9 v1), (3, i9 v3), (4, i9 v4), (5, i9 v5)] [] d (m_X12_pour_174_c158  v1 v3 v4 v5 d) :=
  fix9_ind (P := fun k => ∀ (v1 v3 v4 v5 : Int) (d : D9), SS G X 6 0 0 158 [(0, rf G 174), (1, i9 v1), (3, i9 v3), (4, i9 v4), (5, i9 v5)] [] d (k v1 v3 v4 v5 d)) (fun _ _ _ _ _ => ss_none) (fun k hk => sb_X12_pour_174_c158 C k hk) FU
set_option maxRecDepth 100000 in
theorem sb_X12_pour_174_c77 {G : G9} {X : X9} (C : CX G X cX12_pour 6 RX12 [] z_X12_pour_174) (k_X12_pour_174_c77 : Int → Int → Int → Int → D9 → Option R9) (hk_X12_pour_174_c77 : ∀ (v1 v3 v4 v5 : Int) (d : D9), SS G X 6 0 0 77 [(0, rf G 174), (1, i9 v1), (3, i9 v3), (4, i9 v4), (5, i9 v5)] [] d (k_X12_pour_174_c77 v1 v3 v4 v5 d)) : ∀ (v1 v3 v4 v5 : Int) (d : D9), SS G X 6 0 0 77 [(0, rf G 174), (1, i9 v1), (3, i9 v3), (4, i9 v4), (5, i9 v5)] [] d (b_X12_pour_174_c77 k_X12_pour_174_c77 v1 v3 v4 v5 d) := by
  intro v1 v3 v4 v5 d
  unfold b_X12_pour_174_c77
  refine r_iload C 4 dX12_pour_77 rfl ?_
  refine r_iload_n C 2 dX12_pour_79 rfl rfl ?_
  refine r_icmp_ge C 141 dX12_pour_80 (by decide) (fun _ => ?_) (fun _ => ?_)
  · refine r_aload_n C 0 dX12_pour_141 rfl rfl ?_
    refine r_iload_n C 1 dX12_pour_142 rfl rfl ?_
    refine r_iconst C dX12_pour_143 ?_
    refine r_callV C [i9 4, i9 v1, rf G 174] dX12_pour_144 (t_X12_ofSkin_174 C.h1 C.h2 v1 4 d) mw_X12_124 mv_X12_ofSkin la_174 ly_174 rfl (by decide) (by decide) (by decide) rfl rfl (Nat.le_of_ble_eq_true rfl) (fun r1 d2 => ?_)
    show SS G X 6 _ _ 147 [(0, rf G 174), (1, i9 v1), (3, i9 v3), (4, i9 v4), (5, i9 v5)] [i9 r1] d2 _
    refine r_iload_n C 2 dX12_pour_147 rfl rfl ?_
    refine r_iadd C dX12_pour_148 ?_
    refine r_iconst C dX12_pour_149 ?_
    refine r_icmp_le C 155 dX12_pour_150 (by decide) (fun _ => ?_) (fun _ => ?_)
    · refine r_iconst C dX12_pour_155 ?_
      refine r_istore C [(5, i9 0), (0, rf G 174), (1, i9 v1), (3, i9 v3), (4, i9 v4)] dX12_pour_156 (by decide) rfl ?_
      refine ss_wide (k' := 0) (n' := 0) (by decide) (by decide) ?_
      refine ss_ls [(0, rf G 174), (1, i9 v1), (3, i9 v3), (4, i9 v4), (5, i9 0)] [1, 2, 3, 4, 0] rfl ?_
      exact s_X12_pour_174_c158 C  v1 v3 v4 0 d2
    · refine r_iconst C dX12_pour_153 ?_
      exact r_iret C dX12_pour_154 (by decide) (by decide)
  · refine r_aload_n C 0 dX12_pour_83 rfl rfl ?_
    refine r_getR C 193 dX12_pour_84 fl_X12_70 la_174 ly_174 rfl rfl ?_
    refine r_iload C 3 dX12_pour_87 rfl ?_
    refine r_iconst C dX12_pour_89 ?_
    refine r_iload C 4 dX12_pour_90 rfl ?_
    refine r_imul C dX12_pour_92 ?_
    refine r_iadd C dX12_pour_93 ?_
    refine r_lald C dX12_pour_94 la_193 ly_193 (fun t3 => ?_)
    refine r_aload_n C 0 dX12_pour_95 rfl rfl ?_
    refine r_getR C 193 dX12_pour_96 fl_X12_70 la_174 ly_174 rfl rfl ?_
    refine r_iload C 3 dX12_pour_99 rfl ?_
    refine r_iconst C dX12_pour_101 ?_
    refine r_iload C 4 dX12_pour_102 rfl ?_
    refine r_imul C dX12_pour_104 ?_
    refine r_iadd C dX12_pour_105 ?_
    refine r_iconst C dX12_pour_106 ?_
    refine r_iadd C dX12_pour_107 ?_
    refine r_lald C dX12_pour_108 la_193 ly_193 (fun t4 => ?_)
    refine r_aload_n C 0 dX12_pour_109 rfl rfl ?_
    refine r_getR C 193 dX12_pour_110 fl_X12_70 la_174 ly_174 rfl rfl ?_
    refine r_iload C 3 dX12_pour_113 rfl ?_
    refine r_iconst C dX12_pour_115 ?_
    refine r_iload C 4 dX12_pour_116 rfl ?_
    refine r_imul C dX12_pour_118 ?_
    refine r_iadd C dX12_pour_119 ?_
    refine r_iconst C dX12_pour_120 ?_
    refine r_iadd C dX12_pour_121 ?_
    refine r_lald C dX12_pour_122 la_193 ly_193 (fun t5 => ?_)
    refine r_callS C [l9 t5, l9 t4, l9 t3] dX12_pour_123 (t_X12_areCounts C.h1 C.h2 t3 t4 t5 d) mw_X12_121 ms_X12_areCounts (by decide) (by decide) (by decide) rfl rfl (Nat.le_of_ble_eq_true rfl) (fun r6 d7 => ?_)
    show SS G X 6 _ _ 126 [(0, rf G 174), (1, i9 v1), (3, i9 v3), (4, i9 v4), (5, i9 v5)] [i9 r6] d7 _
    refine r_if_ne C (b := 0) 135 dX12_pour_126 (by decide) (fun _ => ?_) (fun _ => ?_)
    · refine r_iinc C 4 [(5, i9 (v5 + 1)), (0, rf G 174), (1, i9 v1), (3, i9 v3), (4, i9 v4)] dX12_pour_135 rfl (by decide) rfl ?_
      refine r_goto C 77 dX12_pour_138 (by decide) ?_
      refine ss_wide (k' := 0) (n' := 0) (by decide) (by decide) ?_
      refine ss_ls [(0, rf G 174), (1, i9 v1), (3, i9 v3), (4, i9 v4), (5, i9 (v5 + 1))] [1, 2, 3, 4, 0] rfl ?_
      exact hk_X12_pour_174_c77 v1 v3 v4 (v5 + 1) d7
    · refine r_aload_n C 0 dX12_pour_129 rfl rfl ?_
      refine r_iconst C dX12_pour_130 ?_
      refine r_callV C [i9 4, rf G 174] dX12_pour_131 (t_X12_fails_174 C.h1 C.h2 4 d7) mw_X12_89 mv_X12_fails la_174 ly_174 rfl (by decide) (by decide) (by decide) rfl rfl (Nat.le_of_ble_eq_true rfl) (fun r8 d9 => ?_)
      show SS G X 6 _ _ 134 [(0, rf G 174), (1, i9 v1), (3, i9 v3), (4, i9 v4), (5, i9 v5)] [i9 r8] d9 _
      exact r_iret C dX12_pour_134 (by decide) (by decide)
theorem s_X12_pour_174_c77 {G : G9} {X : X9} (C : CX G X cX12_pour 6 RX12 [] z_X12_pour_174) : ∀ (v1 v3 v4 v5 : Int) (d : D9), SS G X 6 0 0 77 [(0, rf G 174), (1, i9 v1), (3, i9 v3), (4, i9 v4), (5, i9 v5)] [] d (m_X12_pour_174_c77  v1 v3 v4 v5 d) :=
  fix9_ind (P := fun k => ∀ (v1 v3 v4 v5 : Int) (d : D9), SS G X 6 0 0 77 [(0, rf G 174), (1, i9 v1), (3, i9 v3), (4, i9 v4), (5, i9 v5)] [] d (k v1 v3 v4 v5 d)) (fun _ _ _ _ _ => ss_none) (fun k hk => sb_X12_pour_174_c77 C k hk) FU
set_option maxRecDepth 100000 in
theorem t_X12_pour_174 {G : G9} {l : Launch} (h1 : va_D (A9 G) (wl G (fun _ _ => 0))) (h2 : l.stackTraces = false) (p1 p2 : Int) (d : D9) : MT G l yX12_pour cX12_pour 6 z_X12_pour_174 [rf G 174, i9 p1, i9 p2] d (m_X12_pour_174 p1 p2 d) := by
  refine mt_of (own := RX12) (by decide) rfl (Nat.le_of_ble_eq_true rfl) h1 h2 [(0, rf G 174), (1, i9 p1), (2, i9 p2)] rfl (fun X hX C => ?_)
  unfold m_X12_pour_174
  refine r_aload_n C 0 dX12_pour_0 rfl rfl ?_
  refine r_iconst C dX12_pour_1 ?_
  refine r_putI C dX12_pour_2 fp_X12_76 la_174 ly_174 rfl (fun d1 => ?_)
  refine r_aload_n C 0 dX12_pour_5 rfl rfl ?_
  refine r_iload_n C 1 dX12_pour_6 rfl rfl ?_
  refine r_callV C [i9 p1, rf G 174] dX12_pour_7 (t_X12_isSkin_174 C.h1 C.h2 p1 d1) mw_X12_118 mv_X12_isSkin la_174 ly_174 rfl (by decide) (by decide) (by decide) rfl rfl (Nat.le_of_ble_eq_true rfl) (fun r2 d3 => ?_)
  show SS G X 6 _ _ 10 [(0, rf G 174), (1, i9 p1), (2, i9 p2)] [i9 r2] d3 _
  refine r_if_eq C (b := 0) 20 dX12_pour_10 (by decide) (fun _ => ?_) (fun _ => ?_)
  · refine ss_wide (k' := 0) (n' := 0) (by decide) (by decide) ?_
    refine ss_ls [(0, rf G 174)] [0] rfl ?_
    exact s_X12_pour_174_c20 C   d3
  · refine r_iload_n C 2 dX12_pour_13 rfl rfl ?_
    refine r_callS C [i9 p2] dX12_pour_14 (t_X12_isTray C.h1 C.h2 p2 d3) mw_X12_427 ms_X12_isTray (by decide) (by decide) (by decide) rfl rfl (Nat.le_of_ble_eq_true rfl) (fun r4 d5 => ?_)
    show SS G X 6 _ _ 17 [(0, rf G 174), (1, i9 p1), (2, i9 p2)] [i9 r4] d5 _
    refine r_if_ne C (b := 0) 26 dX12_pour_17 (by decide) (fun _ => ?_) (fun _ => ?_)
    · refine r_aload_n C 0 dX12_pour_26 rfl rfl ?_
      refine r_getR C 191 dX12_pour_27 fl_X12_64 la_174 ly_174 rfl rfl ?_
      refine r_iload_n C 2 dX12_pour_30 rfl rfl ?_
      refine r_iald C dX12_pour_31 la_191 ly_191 (fun t6 => ?_)
      refine r_iconst C dX12_pour_32 ?_
      refine r_icmp_ne C 42 dX12_pour_33 (by decide) (fun _ => ?_) (fun _ => ?_)
      · refine r_aload_n C 0 dX12_pour_42 rfl rfl ?_
        refine r_getR C 192 dX12_pour_43 fl_X12_67 la_174 ly_174 rfl rfl ?_
        refine r_iload_n C 2 dX12_pour_46 rfl rfl ?_
        refine r_iald C dX12_pour_47 la_192 ly_192 (fun t7 => ?_)
        refine r_iconst C dX12_pour_48 ?_
        refine r_irem C dX12_pour_49 (by decide) ?_
        refine r_if_eq C (b := 0) 59 dX12_pour_50 (by decide) (fun _ => ?_) (fun _ => ?_)
        · refine r_aload_n C 0 dX12_pour_59 rfl rfl ?_
          refine r_getR C 192 dX12_pour_60 fl_X12_67 la_174 ly_174 rfl rfl ?_
          refine r_iload_n C 2 dX12_pour_63 rfl rfl ?_
          refine r_iald C dX12_pour_64 la_192 ly_192 (fun t8 => ?_)
          refine r_iconst C dX12_pour_65 ?_
          refine r_idiv C dX12_pour_66 (by decide) ?_
          refine ss_lt (fun a9 => ?_)
          refine r_istore_n C [(3, i9 a9), (0, rf G 174), (1, i9 p1), (2, i9 p2)] dX12_pour_67 rfl (by decide) rfl ?_
          refine r_bipush C dX12_pour_68 rfl ?_
          refine r_iload_n C 3 dX12_pour_70 rfl rfl ?_
          refine r_imul C dX12_pour_71 ?_
          refine ss_lt (fun a10 => ?_)
          refine r_istore C [(4, i9 a10), (3, i9 a9), (0, rf G 174), (1, i9 p1), (2, i9 p2)] dX12_pour_72 (by decide) rfl ?_
          refine r_iconst C dX12_pour_74 ?_
          refine r_istore C [(5, i9 0), (4, i9 a10), (3, i9 a9), (0, rf G 174), (1, i9 p1), (2, i9 p2)] dX12_pour_75 (by decide) rfl ?_
          refine ss_wide (k' := 0) (n' := 0) (by decide) (by decide) ?_
          refine ss_ls [(0, rf G 174), (1, i9 p1), (3, i9 a9), (4, i9 a10), (5, i9 0)] [3, 4, 2, 1, 0] rfl ?_
          exact s_X12_pour_174_c77 C  p1 a9 a10 0 d5
        · refine r_aload_n C 0 dX12_pour_53 rfl rfl ?_
          refine r_iconst C dX12_pour_54 ?_
          refine r_callV C [i9 3, rf G 174] dX12_pour_55 (t_X12_fails_174 C.h1 C.h2 3 d5) mw_X12_89 mv_X12_fails la_174 ly_174 rfl (by decide) (by decide) (by decide) rfl rfl (Nat.le_of_ble_eq_true rfl) (fun r11 d12 => ?_)
          show SS G X 6 _ _ 58 [(0, rf G 174), (1, i9 p1), (2, i9 p2)] [i9 r11] d12 _
          exact r_iret C dX12_pour_58 (by decide) (by decide)
      · refine r_aload_n C 0 dX12_pour_36 rfl rfl ?_
        refine r_iconst C dX12_pour_37 ?_
        refine r_callV C [i9 2, rf G 174] dX12_pour_38 (t_X12_fails_174 C.h1 C.h2 2 d5) mw_X12_89 mv_X12_fails la_174 ly_174 rfl (by decide) (by decide) (by decide) rfl rfl (Nat.le_of_ble_eq_true rfl) (fun r13 d14 => ?_)
        show SS G X 6 _ _ 41 [(0, rf G 174), (1, i9 p1), (2, i9 p2)] [i9 r13] d14 _
        exact r_iret C dX12_pour_41 (by decide) (by decide)
    · refine ss_wide (k' := 0) (n' := 0) (by decide) (by decide) ?_
      refine ss_ls [(0, rf G 174)] [0] rfl ?_
      exact s_X12_pour_174_c20 C   d5

theorem dX12_init_0 : decode cX12_init 0 = .ok (.aload_n 0, 1) := by decide +kernel
theorem dX12_init_1 : decode cX12_init 1 = .ok (.invokespecial 3, 3) := by decide +kernel
theorem dX12_init_4 : decode cX12_init 4 = .ok (.aload_n 0, 1) := by decide +kernel
theorem dX12_init_5 : decode cX12_init 5 = .ok (.sipush 1604, 3) := by decide +kernel
theorem dX12_init_8 : decode cX12_init 8 = .ok (.newarray .int, 2) := by decide +kernel
theorem dX12_init_10 : decode cX12_init 10 = .ok (.putfield 9, 3) := by decide +kernel
theorem dX12_init_13 : decode cX12_init 13 = .ok (.aload_n 0, 1) := by decide +kernel
theorem dX12_init_14 : decode cX12_init 14 = .ok (.sipush 4812, 3) := by decide +kernel
theorem dX12_init_17 : decode cX12_init 17 = .ok (.newarray .int, 2) := by decide +kernel
theorem dX12_init_19 : decode cX12_init 19 = .ok (.putfield 13, 3) := by decide +kernel
theorem dX12_init_22 : decode cX12_init 22 = .ok (.aload_n 0, 1) := by decide +kernel
theorem dX12_init_23 : decode cX12_init 23 = .ok (.iconst 3, 1) := by decide +kernel
theorem dX12_init_24 : decode cX12_init 24 = .ok (.newarray .boolean, 2) := by decide +kernel
theorem dX12_init_26 : decode cX12_init 26 = .ok (.putfield 16, 3) := by decide +kernel
theorem dX12_init_29 : decode cX12_init 29 = .ok (.aload_n 0, 1) := by decide +kernel
theorem dX12_init_30 : decode cX12_init 30 = .ok (.sipush 400, 3) := by decide +kernel
theorem dX12_init_33 : decode cX12_init 33 = .ok (.newarray .int, 2) := by decide +kernel
theorem dX12_init_35 : decode cX12_init 35 = .ok (.putfield 20, 3) := by decide +kernel
theorem dX12_init_38 : decode cX12_init 38 = .ok (.aload_n 0, 1) := by decide +kernel
theorem dX12_init_39 : decode cX12_init 39 = .ok (.bipush 7, 2) := by decide +kernel
theorem dX12_init_41 : decode cX12_init 41 = .ok (.newarray .int, 2) := by decide +kernel
theorem dX12_init_43 : decode cX12_init 43 = .ok (.putfield 23, 3) := by decide +kernel
theorem dX12_init_46 : decode cX12_init 46 = .ok (.aload_n 0, 1) := by decide +kernel
theorem dX12_init_47 : decode cX12_init 47 = .ok (.bipush 48, 2) := by decide +kernel
theorem dX12_init_49 : decode cX12_init 49 = .ok (.newarray .int, 2) := by decide +kernel
theorem dX12_init_51 : decode cX12_init 51 = .ok (.putfield 26, 3) := by decide +kernel
theorem dX12_init_54 : decode cX12_init 54 = .ok (.aload_n 0, 1) := by decide +kernel
theorem dX12_init_55 : decode cX12_init 55 = .ok (.iconst (-1), 1) := by decide +kernel
theorem dX12_init_56 : decode cX12_init 56 = .ok (.putfield 29, 3) := by decide +kernel
theorem dX12_init_59 : decode cX12_init 59 = .ok (.aload_n 0, 1) := by decide +kernel
theorem dX12_init_60 : decode cX12_init 60 = .ok (.sipush 460, 3) := by decide +kernel
theorem dX12_init_63 : decode cX12_init 63 = .ok (.newarray .int, 2) := by decide +kernel
theorem dX12_init_65 : decode cX12_init 65 = .ok (.putfield 33, 3) := by decide +kernel
theorem dX12_init_68 : decode cX12_init 68 = .ok (.aload_n 0, 1) := by decide +kernel
theorem dX12_init_69 : decode cX12_init 69 = .ok (.sipush 900, 3) := by decide +kernel
theorem dX12_init_72 : decode cX12_init 72 = .ok (.newarray .boolean, 2) := by decide +kernel
theorem dX12_init_74 : decode cX12_init 74 = .ok (.putfield 36, 3) := by decide +kernel
theorem dX12_init_77 : decode cX12_init 77 = .ok (.aload_n 0, 1) := by decide +kernel
theorem dX12_init_78 : decode cX12_init 78 = .ok (.bipush 30, 2) := by decide +kernel
theorem dX12_init_80 : decode cX12_init 80 = .ok (.newarray .boolean, 2) := by decide +kernel
theorem dX12_init_82 : decode cX12_init 82 = .ok (.putfield 39, 3) := by decide +kernel
theorem dX12_init_85 : decode cX12_init 85 = .ok (.aload_n 0, 1) := by decide +kernel
theorem dX12_init_86 : decode cX12_init 86 = .ok (.iconst 4, 1) := by decide +kernel
theorem dX12_init_87 : decode cX12_init 87 = .ok (.newarray .long, 2) := by decide +kernel
theorem dX12_init_89 : decode cX12_init 89 = .ok (.putfield 42, 3) := by decide +kernel
theorem dX12_init_92 : decode cX12_init 92 = .ok (.aload_n 0, 1) := by decide +kernel
theorem dX12_init_93 : decode cX12_init 93 = .ok (.iconst 4, 1) := by decide +kernel
theorem dX12_init_94 : decode cX12_init 94 = .ok (.newarray .long, 2) := by decide +kernel
theorem dX12_init_96 : decode cX12_init 96 = .ok (.putfield 46, 3) := by decide +kernel
theorem dX12_init_99 : decode cX12_init 99 = .ok (.aload_n 0, 1) := by decide +kernel
theorem dX12_init_100 : decode cX12_init 100 = .ok (.sipush 401, 3) := by decide +kernel
theorem dX12_init_103 : decode cX12_init 103 = .ok (.newarray .boolean, 2) := by decide +kernel
theorem dX12_init_105 : decode cX12_init 105 = .ok (.putfield 49, 3) := by decide +kernel
theorem dX12_init_108 : decode cX12_init 108 = .ok (.aload_n 0, 1) := by decide +kernel
theorem dX12_init_109 : decode cX12_init 109 = .ok (.bipush 12, 2) := by decide +kernel
theorem dX12_init_111 : decode cX12_init 111 = .ok (.newarray .int, 2) := by decide +kernel
theorem dX12_init_113 : decode cX12_init 113 = .ok (.putfield 52, 3) := by decide +kernel
theorem dX12_init_116 : decode cX12_init 116 = .ok (.aload_n 0, 1) := by decide +kernel
theorem dX12_init_117 : decode cX12_init 117 = .ok (.bipush 30, 2) := by decide +kernel
theorem dX12_init_119 : decode cX12_init 119 = .ok (.newarray .boolean, 2) := by decide +kernel
theorem dX12_init_121 : decode cX12_init 121 = .ok (.putfield 55, 3) := by decide +kernel
theorem dX12_init_124 : decode cX12_init 124 = .ok (.aload_n 0, 1) := by decide +kernel
theorem dX12_init_125 : decode cX12_init 125 = .ok (.sipush 460, 3) := by decide +kernel
theorem dX12_init_128 : decode cX12_init 128 = .ok (.newarray .boolean, 2) := by decide +kernel
theorem dX12_init_130 : decode cX12_init 130 = .ok (.putfield 58, 3) := by decide +kernel
theorem dX12_init_133 : decode cX12_init 133 = .ok (.aload_n 0, 1) := by decide +kernel
theorem dX12_init_134 : decode cX12_init 134 = .ok (.bipush 30, 2) := by decide +kernel
theorem dX12_init_136 : decode cX12_init 136 = .ok (.newarray .int, 2) := by decide +kernel
theorem dX12_init_138 : decode cX12_init 138 = .ok (.putfield 61, 3) := by decide +kernel
theorem dX12_init_141 : decode cX12_init 141 = .ok (.aload_n 0, 1) := by decide +kernel
theorem dX12_init_142 : decode cX12_init 142 = .ok (.iconst 4, 1) := by decide +kernel
theorem dX12_init_143 : decode cX12_init 143 = .ok (.newarray .int, 2) := by decide +kernel
theorem dX12_init_145 : decode cX12_init 145 = .ok (.dup, 1) := by decide +kernel
theorem dX12_init_146 : decode cX12_init 146 = .ok (.iconst 0, 1) := by decide +kernel
theorem dX12_init_147 : decode cX12_init 147 = .ok (.iconst (-1), 1) := by decide +kernel
theorem dX12_init_148 : decode cX12_init 148 = .ok (.iastore, 1) := by decide +kernel
theorem dX12_init_149 : decode cX12_init 149 = .ok (.dup, 1) := by decide +kernel
theorem dX12_init_150 : decode cX12_init 150 = .ok (.iconst 1, 1) := by decide +kernel
theorem dX12_init_151 : decode cX12_init 151 = .ok (.iconst (-1), 1) := by decide +kernel
theorem dX12_init_152 : decode cX12_init 152 = .ok (.iastore, 1) := by decide +kernel
theorem dX12_init_153 : decode cX12_init 153 = .ok (.dup, 1) := by decide +kernel
theorem dX12_init_154 : decode cX12_init 154 = .ok (.iconst 2, 1) := by decide +kernel
theorem dX12_init_155 : decode cX12_init 155 = .ok (.iconst (-1), 1) := by decide +kernel
theorem dX12_init_156 : decode cX12_init 156 = .ok (.iastore, 1) := by decide +kernel
theorem dX12_init_157 : decode cX12_init 157 = .ok (.dup, 1) := by decide +kernel
theorem dX12_init_158 : decode cX12_init 158 = .ok (.iconst 3, 1) := by decide +kernel
theorem dX12_init_159 : decode cX12_init 159 = .ok (.iconst (-1), 1) := by decide +kernel
theorem dX12_init_160 : decode cX12_init 160 = .ok (.iastore, 1) := by decide +kernel
theorem dX12_init_161 : decode cX12_init 161 = .ok (.putfield 64, 3) := by decide +kernel
theorem dX12_init_164 : decode cX12_init 164 = .ok (.aload_n 0, 1) := by decide +kernel
theorem dX12_init_165 : decode cX12_init 165 = .ok (.iconst 4, 1) := by decide +kernel
theorem dX12_init_166 : decode cX12_init 166 = .ok (.newarray .int, 2) := by decide +kernel
theorem dX12_init_168 : decode cX12_init 168 = .ok (.putfield 67, 3) := by decide +kernel
theorem dX12_init_171 : decode cX12_init 171 = .ok (.aload_n 0, 1) := by decide +kernel
theorem dX12_init_172 : decode cX12_init 172 = .ok (.sipush 160, 3) := by decide +kernel
theorem dX12_init_175 : decode cX12_init 175 = .ok (.newarray .long, 2) := by decide +kernel
theorem dX12_init_177 : decode cX12_init 177 = .ok (.putfield 70, 3) := by decide +kernel
theorem dX12_init_180 : decode cX12_init 180 = .ok (.aload_n 0, 1) := by decide +kernel
theorem dX12_init_181 : decode cX12_init 181 = .ok (.invokevirtual 73, 3) := by decide +kernel
theorem dX12_init_184 : decode cX12_init 184 = .ok (.iconst 0, 1) := by decide +kernel
theorem dX12_init_185 : decode cX12_init 185 = .ok (.istore_n 1, 1) := by decide +kernel
theorem dX12_init_186 : decode cX12_init 186 = .ok (.iload_n 1, 1) := by decide +kernel
theorem dX12_init_187 : decode cX12_init 187 = .ok (.bipush 7, 2) := by decide +kernel
theorem dX12_init_189 : decode cX12_init 189 = .ok (.if_icmp .ge 24, 3) := by decide +kernel
theorem dX12_init_192 : decode cX12_init 192 = .ok (.aload_n 0, 1) := by decide +kernel
theorem dX12_init_193 : decode cX12_init 193 = .ok (.getfield 9, 3) := by decide +kernel
theorem dX12_init_196 : decode cX12_init 196 = .ok (.bipush 6, 2) := by decide +kernel
theorem dX12_init_198 : decode cX12_init 198 = .ok (.iload_n 1, 1) := by decide +kernel
theorem dX12_init_199 : decode cX12_init 199 = .ok (.iadd, 1) := by decide +kernel
theorem dX12_init_200 : decode cX12_init 200 = .ok (.aload_n 0, 1) := by decide +kernel
theorem dX12_init_201 : decode cX12_init 201 = .ok (.getfield 23, 3) := by decide +kernel
theorem dX12_init_204 : decode cX12_init 204 = .ok (.iload_n 1, 1) := by decide +kernel
theorem dX12_init_205 : decode cX12_init 205 = .ok (.iaload, 1) := by decide +kernel
theorem dX12_init_206 : decode cX12_init 206 = .ok (.iastore, 1) := by decide +kernel
theorem dX12_init_207 : decode cX12_init 207 = .ok (.iinc 1 1, 3) := by decide +kernel
theorem dX12_init_210 : decode cX12_init 210 = .ok (.goto (-24), 3) := by decide +kernel
theorem dX12_init_213 : decode cX12_init 213 = .ok (.iconst 0, 1) := by decide +kernel
theorem dX12_init_214 : decode cX12_init 214 = .ok (.istore_n 1, 1) := by decide +kernel
theorem dX12_init_215 : decode cX12_init 215 = .ok (.iload_n 1, 1) := by decide +kernel
theorem dX12_init_216 : decode cX12_init 216 = .ok (.bipush 10, 2) := by decide +kernel
theorem dX12_init_218 : decode cX12_init 218 = .ok (.if_icmp .ge 20, 3) := by decide +kernel
theorem dX12_init_221 : decode cX12_init 221 = .ok (.aload_n 0, 1) := by decide +kernel
theorem dX12_init_222 : decode cX12_init 222 = .ok (.getfield 9, 3) := by decide +kernel
theorem dX12_init_225 : decode cX12_init 225 = .ok (.sipush 1134, 3) := by decide +kernel
theorem dX12_init_228 : decode cX12_init 228 = .ok (.iload_n 1, 1) := by decide +kernel
theorem dX12_init_229 : decode cX12_init 229 = .ok (.iadd, 1) := by decide +kernel
theorem dX12_init_230 : decode cX12_init 230 = .ok (.iconst 1, 1) := by decide +kernel
theorem dX12_init_231 : decode cX12_init 231 = .ok (.iastore, 1) := by decide +kernel
theorem dX12_init_232 : decode cX12_init 232 = .ok (.iinc 1 1, 3) := by decide +kernel
theorem dX12_init_235 : decode cX12_init 235 = .ok (.goto (-20), 3) := by decide +kernel
theorem dX12_init_238 : decode cX12_init 238 = .ok (.return_, 1) := by decide +kernel
def fx_X12 (w : Nat) (d : D9) : D9 := (up (up (up (up (up (up (up (up (up (up (up (up (up (up (up (up (up (up (up (up (up (up (up (up (up (up (up (up (up d (w + 0) 16 (-1)) (w + 17) 0 (-1)) (w + 17) 1 (-1)) (w + 17) 2 (-1)) (w + 17) 3 (-1)) (w + 5) 0 10) (w + 5) 1 20) (w + 5) 2 60) (w + 5) 3 50) (w + 5) 4 5) (w + 5) 5 10) (w + 5) 6 6) (w + 1) 6 10) (w + 1) 7 20) (w + 1) 8 60) (w + 1) 9 50) (w + 1) 10 5) (w + 1) 11 10) (w + 1) 12 6) (w + 1) 1134 1) (w + 1) 1135 1) (w + 1) 1136 1) (w + 1) 1137 1) (w + 1) 1138 1) (w + 1) 1139 1) (w + 1) 1140 1) (w + 1) 1141 1) (w + 1) 1142 1) (w + 1) 1143 1)
theorem fx_X12_out {w : Nat} {d : D9} {k : Nat} (h : k < w ∨ w + 20 ≤ k) : fx_X12 w d k = d k := by
  unfold fx_X12
  rw [up_k (by omega), up_k (by omega), up_k (by omega), up_k (by omega), up_k (by omega), up_k (by omega), up_k (by omega), up_k (by omega), up_k (by omega), up_k (by omega), up_k (by omega), up_k (by omega), up_k (by omega), up_k (by omega), up_k (by omega), up_k (by omega), up_k (by omega), up_k (by omega), up_k (by omega), up_k (by omega), up_k (by omega), up_k (by omega), up_k (by omega), up_k (by omega), up_k (by omega), up_k (by omega), up_k (by omega), up_k (by omega), up_k (by omega)]
theorem kv_X12_plainLaw_174 {G : G9} {l : Launch} {B : Nat} (hB : ∀ k, G.1 k = B + k) (m : Nat) (d : D9) : MV G l yX12_plainLaw cX12_plainLaw 1 0 0 174 39 19 m d (up (up (up (up (up (up (up d 179 0 10) 179 1 20) 179 2 60) 179 3 50) 179 4 5) 179 5 10) 179 6 6) := by
  refine mv_of (own := RX12) (by decide) rfl (by decide) hB (fun X hl hR9 C hret => ?_)
  refine e_aload_n C 0 dX12_plainLaw_0 rfl rfl ?_
  refine e_getR C (w := 174) (b := 179) dX12_plainLaw_1 fl_X12_23 rfl rfl rfl ?_
  refine e_iconst C dX12_plainLaw_4 ?_
  refine e_bipush C dX12_plainLaw_5 rfl ?_
  refine e_iast C (lo := 175) (i := 4) (w := 174) rfl (by decide) (by decide) dX12_plainLaw_7 rfl (by decide) (by decide) ?_
  refine e_aload_n C 0 dX12_plainLaw_8 rfl rfl ?_
  refine e_getR C (w := 174) (b := 179) dX12_plainLaw_9 fl_X12_23 rfl rfl rfl ?_
  refine e_iconst C dX12_plainLaw_12 ?_
  refine e_bipush C dX12_plainLaw_13 rfl ?_
  refine e_iast C (lo := 175) (i := 4) (w := 174) rfl (by decide) (by decide) dX12_plainLaw_15 rfl (by decide) (by decide) ?_
  refine e_aload_n C 0 dX12_plainLaw_16 rfl rfl ?_
  refine e_getR C (w := 174) (b := 179) dX12_plainLaw_17 fl_X12_23 rfl rfl rfl ?_
  refine e_iconst C dX12_plainLaw_20 ?_
  refine e_bipush C dX12_plainLaw_21 rfl ?_
  refine e_iast C (lo := 175) (i := 4) (w := 174) rfl (by decide) (by decide) dX12_plainLaw_23 rfl (by decide) (by decide) ?_
  refine e_aload_n C 0 dX12_plainLaw_24 rfl rfl ?_
  refine e_getR C (w := 174) (b := 179) dX12_plainLaw_25 fl_X12_23 rfl rfl rfl ?_
  refine e_iconst C dX12_plainLaw_28 ?_
  refine e_bipush C dX12_plainLaw_29 rfl ?_
  refine e_iast C (lo := 175) (i := 4) (w := 174) rfl (by decide) (by decide) dX12_plainLaw_31 rfl (by decide) (by decide) ?_
  refine e_aload_n C 0 dX12_plainLaw_32 rfl rfl ?_
  refine e_getR C (w := 174) (b := 179) dX12_plainLaw_33 fl_X12_23 rfl rfl rfl ?_
  refine e_iconst C dX12_plainLaw_36 ?_
  refine e_iconst C dX12_plainLaw_37 ?_
  refine e_iast C (lo := 175) (i := 4) (w := 174) rfl (by decide) (by decide) dX12_plainLaw_38 rfl (by decide) (by decide) ?_
  refine e_aload_n C 0 dX12_plainLaw_39 rfl rfl ?_
  refine e_getR C (w := 174) (b := 179) dX12_plainLaw_40 fl_X12_23 rfl rfl rfl ?_
  refine e_iconst C dX12_plainLaw_43 ?_
  refine e_bipush C dX12_plainLaw_44 rfl ?_
  refine e_iast C (lo := 175) (i := 4) (w := 174) rfl (by decide) (by decide) dX12_plainLaw_46 rfl (by decide) (by decide) ?_
  refine e_aload_n C 0 dX12_plainLaw_47 rfl rfl ?_
  refine e_getR C (w := 174) (b := 179) dX12_plainLaw_48 fl_X12_23 rfl rfl rfl ?_
  refine e_bipush C dX12_plainLaw_51 rfl ?_
  refine e_bipush C dX12_plainLaw_53 rfl ?_
  refine e_iast C (lo := 175) (i := 4) (w := 174) rfl (by decide) (by decide) dX12_plainLaw_55 rfl (by decide) (by decide) ?_
  exact e_vret C dX12_plainLaw_56 hret rfl
theorem k_X12_174 {G : G9} {l : Launch} {B : Nat} (hB : ∀ k, G.1 k = B + k) (m : Nat) (d : D9) (hz : ∀ k, 174 ≤ k → d k = zr) : ME G l yX12_init cX12_init 2 1 20 19 9373 174 20 m d (fx_X12 174 d) := by
  refine me_of (own := RX12) (by decide) rfl (by decide) hB (fun X hl hR9 C hin9 hret => ?_)
  refine e_aload_n C 0 dX12_init_0 rfl rfl ?_
  refine e_objinit C dX12_init_1 ⟨(wg7 116 rfl rfl), (wg1 34 rfl rfl), (wg1 35 rfl rfl)⟩ (by rw [hR9]; exact ⟨by decide, Nat.le_of_ble_eq_true rfl⟩) ?_
  refine e_aload_n C 0 dX12_init_4 rfl rfl ?_
  refine e_sipush C dX12_init_5 rfl ?_
  refine e_newI C (lo := 175) (c := 0) dX12_init_8 ac_I rfl (by decide) (fun j => congrFun (hz 175 (by decide)) j) ⟨by decide, by decide⟩ (by decide) (by rw [hR9]; exact ⟨by decide, by decide⟩) (by decide) ?_
  refine e_putR C (lo := 175) (w := 174) (a' := 1) (j := 0) (ty := (.array .int)) rfl (by decide) dX12_init_10 rfl uw_X12 tyX12_ok nmX12 (by decide) (wg7 121 rfl rfl) rfl rfl (by decide +kernel) (fun _ => ⟨rfl, rfl⟩) hin9 rfl rfl (by decide) rfl ?_
  refine e_aload_n C 0 dX12_init_13 rfl rfl ?_
  refine e_sipush C dX12_init_14 rfl ?_
  refine e_newI C (lo := 175) (c := 1) dX12_init_17 ac_I rfl (by decide) (fun j => congrFun (hz 176 (by decide)) j) ⟨by decide, by decide⟩ (by decide) (by rw [hR9]; exact ⟨by decide, by decide⟩) (by decide) ?_
  refine e_putR C (lo := 175) (w := 174) (a' := 2) (j := 1) (ty := (.array .int)) rfl (by decide) dX12_init_19 rfl uw_X12 tyX12_ok nmX12 (by decide) (wg7 122 rfl rfl) rfl rfl (by decide +kernel) (fun _ => ⟨rfl, rfl⟩) hin9 rfl rfl (by decide) rfl ?_
  refine e_aload_n C 0 dX12_init_22 rfl rfl ?_
  refine e_iconst C dX12_init_23 ?_
  refine e_newZ C (lo := 175) (c := 2) dX12_init_24 ac_Z rfl (by decide) (fun j => congrFun (hz 177 (by decide)) j) ⟨by decide, by decide⟩ (by decide) (by rw [hR9]; exact ⟨by decide, by decide⟩) (by decide) ?_
  refine e_putR C (lo := 175) (w := 174) (a' := 3) (j := 2) (ty := (.array .boolean)) rfl (by decide) dX12_init_26 rfl uw_X12 tyX12_ok nmX12 (by decide) (wg7 123 rfl rfl) rfl rfl (by decide +kernel) (fun _ => ⟨rfl, rfl⟩) hin9 rfl rfl (by decide) rfl ?_
  refine e_aload_n C 0 dX12_init_29 rfl rfl ?_
  refine e_sipush C dX12_init_30 rfl ?_
  refine e_newI C (lo := 175) (c := 3) dX12_init_33 ac_I rfl (by decide) (fun j => congrFun (hz 178 (by decide)) j) ⟨by decide, by decide⟩ (by decide) (by rw [hR9]; exact ⟨by decide, by decide⟩) (by decide) ?_
  refine e_putR C (lo := 175) (w := 174) (a' := 5) (j := 4) (ty := (.array .int)) rfl (by decide) dX12_init_35 rfl uw_X12 tyX12_ok nmX12 (by decide) (wg7 125 rfl rfl) rfl rfl (by decide +kernel) (fun _ => ⟨rfl, rfl⟩) hin9 rfl rfl (by decide) rfl ?_
  refine e_aload_n C 0 dX12_init_38 rfl rfl ?_
  refine e_bipush C dX12_init_39 rfl ?_
  refine e_newI C (lo := 175) (c := 4) dX12_init_41 ac_I rfl (by decide) (fun j => congrFun (hz 179 (by decide)) j) ⟨by decide, by decide⟩ (by decide) (by rw [hR9]; exact ⟨by decide, by decide⟩) (by decide) ?_
  refine e_putR C (lo := 175) (w := 174) (a' := 6) (j := 5) (ty := (.array .int)) rfl (by decide) dX12_init_43 rfl uw_X12 tyX12_ok nmX12 (by decide) (wg7 126 rfl rfl) rfl rfl (by decide +kernel) (fun _ => ⟨rfl, rfl⟩) hin9 rfl rfl (by decide) rfl ?_
  refine e_aload_n C 0 dX12_init_46 rfl rfl ?_
  refine e_bipush C dX12_init_47 rfl ?_
  refine e_newI C (lo := 175) (c := 5) dX12_init_49 ac_I rfl (by decide) (fun j => congrFun (hz 180 (by decide)) j) ⟨by decide, by decide⟩ (by decide) (by rw [hR9]; exact ⟨by decide, by decide⟩) (by decide) ?_
  refine e_putR C (lo := 175) (w := 174) (a' := 7) (j := 6) (ty := (.array .int)) rfl (by decide) dX12_init_51 rfl uw_X12 tyX12_ok nmX12 (by decide) (wg7 127 rfl rfl) rfl rfl (by decide +kernel) (fun _ => ⟨rfl, rfl⟩) hin9 rfl rfl (by decide) rfl ?_
  refine e_aload_n C 0 dX12_init_54 rfl rfl ?_
  refine e_iconst C dX12_init_55 ?_
  refine e_putI C (lo := 175) (w := 174) rfl (by decide) dX12_init_56 fp_X12_29 rfl rfl (by decide) rfl ?_
  refine e_aload_n C 0 dX12_init_59 rfl rfl ?_
  refine e_sipush C dX12_init_60 rfl ?_
  refine e_newI C (lo := 175) (c := 6) dX12_init_63 ac_I rfl (by decide) (fun j => congrFun ((up_k (by decide)).trans (hz 181 (by decide))) j) ⟨by decide, by decide⟩ (by decide) (by rw [hR9]; exact ⟨by decide, by decide⟩) (by decide) ?_
  refine e_putR C (lo := 175) (w := 174) (a' := 18) (j := 17) (ty := (.array .int)) rfl (by decide) dX12_init_65 rfl uw_X12 tyX12_ok nmX12 (by decide) (wg7 138 rfl rfl) rfl rfl (by decide +kernel) (fun _ => ⟨rfl, rfl⟩) hin9 rfl rfl (by decide) rfl ?_
  refine e_aload_n C 0 dX12_init_68 rfl rfl ?_
  refine e_sipush C dX12_init_69 rfl ?_
  refine e_newZ C (lo := 175) (c := 7) dX12_init_72 ac_Z rfl (by decide) (fun j => congrFun ((up_k (by decide)).trans (hz 182 (by decide))) j) ⟨by decide, by decide⟩ (by decide) (by rw [hR9]; exact ⟨by decide, by decide⟩) (by decide) ?_
  refine e_putR C (lo := 175) (w := 174) (a' := 26) (j := 25) (ty := (.array .boolean)) rfl (by decide) dX12_init_74 rfl uw_X12 tyX12_ok nmX12 (by decide) (wg7 146 rfl rfl) rfl rfl (by decide +kernel) (fun _ => ⟨rfl, rfl⟩) hin9 rfl rfl (by decide) rfl ?_
  refine e_aload_n C 0 dX12_init_77 rfl rfl ?_
  refine e_bipush C dX12_init_78 rfl ?_
  refine e_newZ C (lo := 175) (c := 8) dX12_init_80 ac_Z rfl (by decide) (fun j => congrFun ((up_k (by decide)).trans (hz 183 (by decide))) j) ⟨by decide, by decide⟩ (by decide) (by rw [hR9]; exact ⟨by decide, by decide⟩) (by decide) ?_
  refine e_putR C (lo := 175) (w := 174) (a' := 27) (j := 26) (ty := (.array .boolean)) rfl (by decide) dX12_init_82 rfl uw_X12 tyX12_ok nmX12 (by decide) (wg7 147 rfl rfl) rfl rfl (by decide +kernel) (fun _ => ⟨rfl, rfl⟩) hin9 rfl rfl (by decide) rfl ?_
  refine e_aload_n C 0 dX12_init_85 rfl rfl ?_
  refine e_iconst C dX12_init_86 ?_
  refine e_newJ C (lo := 175) (c := 9) dX12_init_87 ac_J rfl (by decide) (fun j => congrFun ((up_k (by decide)).trans (hz 184 (by decide))) j) ⟨by decide, by decide⟩ (by decide) (by rw [hR9]; exact ⟨by decide, by decide⟩) (by decide) ?_
  refine e_putR C (lo := 175) (w := 174) (a' := 28) (j := 27) (ty := (.array .long)) rfl (by decide) dX12_init_89 rfl uw_X12 tyX12_ok nmX12 (by decide) (wg7 148 rfl rfl) rfl rfl (by decide +kernel) (fun _ => ⟨rfl, rfl⟩) hin9 rfl rfl (by decide) rfl ?_
  refine e_aload_n C 0 dX12_init_92 rfl rfl ?_
  refine e_iconst C dX12_init_93 ?_
  refine e_newJ C (lo := 175) (c := 10) dX12_init_94 ac_J rfl (by decide) (fun j => congrFun ((up_k (by decide)).trans (hz 185 (by decide))) j) ⟨by decide, by decide⟩ (by decide) (by rw [hR9]; exact ⟨by decide, by decide⟩) (by decide) ?_
  refine e_putR C (lo := 175) (w := 174) (a' := 29) (j := 28) (ty := (.array .long)) rfl (by decide) dX12_init_96 rfl uw_X12 tyX12_ok nmX12 (by decide) (wg7 149 rfl rfl) rfl rfl (by decide +kernel) (fun _ => ⟨rfl, rfl⟩) hin9 rfl rfl (by decide) rfl ?_
  refine e_aload_n C 0 dX12_init_99 rfl rfl ?_
  refine e_sipush C dX12_init_100 rfl ?_
  refine e_newZ C (lo := 175) (c := 11) dX12_init_103 ac_Z rfl (by decide) (fun j => congrFun ((up_k (by decide)).trans (hz 186 (by decide))) j) ⟨by decide, by decide⟩ (by decide) (by rw [hR9]; exact ⟨by decide, by decide⟩) (by decide) ?_
  refine e_putR C (lo := 175) (w := 174) (a' := 30) (j := 29) (ty := (.array .boolean)) rfl (by decide) dX12_init_105 rfl uw_X12 tyX12_ok nmX12 (by decide) (wg7 150 rfl rfl) rfl rfl (by decide +kernel) (fun _ => ⟨rfl, rfl⟩) hin9 rfl rfl (by decide) rfl ?_
  refine e_aload_n C 0 dX12_init_108 rfl rfl ?_
  refine e_bipush C dX12_init_109 rfl ?_
  refine e_newI C (lo := 175) (c := 12) dX12_init_111 ac_I rfl (by decide) (fun j => congrFun ((up_k (by decide)).trans (hz 187 (by decide))) j) ⟨by decide, by decide⟩ (by decide) (by rw [hR9]; exact ⟨by decide, by decide⟩) (by decide) ?_
  refine e_putR C (lo := 175) (w := 174) (a' := 31) (j := 30) (ty := (.array .int)) rfl (by decide) dX12_init_113 rfl uw_X12 tyX12_ok nmX12 (by decide) (wg7 151 rfl rfl) rfl rfl (by decide +kernel) (fun _ => ⟨rfl, rfl⟩) hin9 rfl rfl (by decide) rfl ?_
  refine e_aload_n C 0 dX12_init_116 rfl rfl ?_
  refine e_bipush C dX12_init_117 rfl ?_
  refine e_newZ C (lo := 175) (c := 13) dX12_init_119 ac_Z rfl (by decide) (fun j => congrFun ((up_k (by decide)).trans (hz 188 (by decide))) j) ⟨by decide, by decide⟩ (by decide) (by rw [hR9]; exact ⟨by decide, by decide⟩) (by decide) ?_
  refine e_putR C (lo := 175) (w := 174) (a' := 33) (j := 32) (ty := (.array .boolean)) rfl (by decide) dX12_init_121 rfl uw_X12 tyX12_ok nmX12 (by decide) (wg7 153 rfl rfl) rfl rfl (by decide +kernel) (fun _ => ⟨rfl, rfl⟩) hin9 rfl rfl (by decide) rfl ?_
  refine e_aload_n C 0 dX12_init_124 rfl rfl ?_
  refine e_sipush C dX12_init_125 rfl ?_
  refine e_newZ C (lo := 175) (c := 14) dX12_init_128 ac_Z rfl (by decide) (fun j => congrFun ((up_k (by decide)).trans (hz 189 (by decide))) j) ⟨by decide, by decide⟩ (by decide) (by rw [hR9]; exact ⟨by decide, by decide⟩) (by decide) ?_
  refine e_putR C (lo := 175) (w := 174) (a' := 34) (j := 33) (ty := (.array .boolean)) rfl (by decide) dX12_init_130 rfl uw_X12 tyX12_ok nmX12 (by decide) (wg7 154 rfl rfl) rfl rfl (by decide +kernel) (fun _ => ⟨rfl, rfl⟩) hin9 rfl rfl (by decide) rfl ?_
  refine e_aload_n C 0 dX12_init_133 rfl rfl ?_
  refine e_bipush C dX12_init_134 rfl ?_
  refine e_newI C (lo := 175) (c := 15) dX12_init_136 ac_I rfl (by decide) (fun j => congrFun ((up_k (by decide)).trans (hz 190 (by decide))) j) ⟨by decide, by decide⟩ (by decide) (by rw [hR9]; exact ⟨by decide, by decide⟩) (by decide) ?_
  refine e_putR C (lo := 175) (w := 174) (a' := 35) (j := 34) (ty := (.array .int)) rfl (by decide) dX12_init_138 rfl uw_X12 tyX12_ok nmX12 (by decide) (wg7 155 rfl rfl) rfl rfl (by decide +kernel) (fun _ => ⟨rfl, rfl⟩) hin9 rfl rfl (by decide) rfl ?_
  refine e_aload_n C 0 dX12_init_141 rfl rfl ?_
  refine e_iconst C dX12_init_142 ?_
  refine e_newI C (lo := 175) (c := 16) dX12_init_143 ac_I rfl (by decide) (fun j => congrFun ((up_k (by decide)).trans (hz 191 (by decide))) j) ⟨by decide, by decide⟩ (by decide) (by rw [hR9]; exact ⟨by decide, by decide⟩) (by decide) ?_
  refine e_dup C dX12_init_145 rfl ?_
  refine e_iconst C dX12_init_146 ?_
  refine e_iconst C dX12_init_147 ?_
  refine e_iast C (lo := 175) (i := 16) (w := 174) rfl (by decide) (by decide) dX12_init_148 rfl (by decide) (by decide) ?_
  show SE G X _ _ 2 17 9209 149 [(0, rf G 174)] [rf G 191, rf G 174] (up (up d 174 16 (-1)) 191 0 (-1)) _ _ _ _
  refine e_dup C dX12_init_149 rfl ?_
  refine e_iconst C dX12_init_150 ?_
  refine e_iconst C dX12_init_151 ?_
  refine e_iast C (lo := 175) (i := 16) (w := 174) rfl (by decide) (by decide) dX12_init_152 rfl (by decide) (by decide) ?_
  show SE G X _ _ 2 17 9209 153 [(0, rf G 174)] [rf G 191, rf G 174] (up (up (up d 174 16 (-1)) 191 0 (-1)) 191 1 (-1)) _ _ _ _
  refine e_dup C dX12_init_153 rfl ?_
  refine e_iconst C dX12_init_154 ?_
  refine e_iconst C dX12_init_155 ?_
  refine e_iast C (lo := 175) (i := 16) (w := 174) rfl (by decide) (by decide) dX12_init_156 rfl (by decide) (by decide) ?_
  show SE G X _ _ 2 17 9209 157 [(0, rf G 174)] [rf G 191, rf G 174] (up (up (up (up d 174 16 (-1)) 191 0 (-1)) 191 1 (-1)) 191 2 (-1)) _ _ _ _
  refine e_dup C dX12_init_157 rfl ?_
  refine e_iconst C dX12_init_158 ?_
  refine e_iconst C dX12_init_159 ?_
  refine e_iast C (lo := 175) (i := 16) (w := 174) rfl (by decide) (by decide) dX12_init_160 rfl (by decide) (by decide) ?_
  show SE G X _ _ 2 17 9209 161 [(0, rf G 174)] [rf G 191, rf G 174] (up (up (up (up (up d 174 16 (-1)) 191 0 (-1)) 191 1 (-1)) 191 2 (-1)) 191 3 (-1)) _ _ _ _
  refine e_putR C (lo := 175) (w := 174) (a' := 37) (j := 36) (ty := (.array .int)) rfl (by decide) dX12_init_161 rfl uw_X12 tyX12_ok nmX12 (by decide) (wg7 157 rfl rfl) rfl rfl (by decide +kernel) (fun _ => ⟨rfl, rfl⟩) hin9 rfl rfl (by decide) rfl ?_
  refine e_aload_n C 0 dX12_init_164 rfl rfl ?_
  refine e_iconst C dX12_init_165 ?_
  refine e_newI C (lo := 175) (c := 17) dX12_init_166 ac_I rfl (by decide) (fun j => congrFun ((up_k (by decide)).trans ((up_k (by decide)).trans ((up_k (by decide)).trans ((up_k (by decide)).trans ((up_k (by decide)).trans (hz 192 (by decide))))))) j) ⟨by decide, by decide⟩ (by decide) (by rw [hR9]; exact ⟨by decide, by decide⟩) (by decide) ?_
  refine e_putR C (lo := 175) (w := 174) (a' := 38) (j := 37) (ty := (.array .int)) rfl (by decide) dX12_init_168 rfl uw_X12 tyX12_ok nmX12 (by decide) (wg7 158 rfl rfl) rfl rfl (by decide +kernel) (fun _ => ⟨rfl, rfl⟩) hin9 rfl rfl (by decide) rfl ?_
  refine e_aload_n C 0 dX12_init_171 rfl rfl ?_
  refine e_sipush C dX12_init_172 rfl ?_
  refine e_newJ C (lo := 175) (c := 18) dX12_init_175 ac_J rfl (by decide) (fun j => congrFun ((up_k (by decide)).trans ((up_k (by decide)).trans ((up_k (by decide)).trans ((up_k (by decide)).trans ((up_k (by decide)).trans (hz 193 (by decide))))))) j) ⟨by decide, by decide⟩ (by decide) (by rw [hR9]; exact ⟨by decide, by decide⟩) (by decide) ?_
  refine e_putR C (lo := 175) (w := 174) (a' := 39) (j := 38) (ty := (.array .long)) rfl (by decide) dX12_init_177 rfl uw_X12 tyX12_ok nmX12 (by decide) (wg7 159 rfl rfl) rfl rfl (by decide +kernel) (fun _ => ⟨rfl, rfl⟩) hin9 rfl rfl (by decide) rfl ?_
  refine e_aload_n C 0 dX12_init_180 rfl rfl ?_
  refine e_callV C (lo := 175) (w := 174) rfl (by decide) (kv_X12_plainLaw_174 hB m (up (up (up (up (up d 174 16 (-1)) 191 0 (-1)) 191 1 (-1)) 191 2 (-1)) 191 3 (-1))) dX12_init_181 mw_X12_73 mv_X12_plainLaw rfl rfl (by rw [hR9]; exact ⟨by decide, by decide, by decide, by decide⟩) (Nat.le_of_ble_eq_true rfl) ?_
  show SE G X _ _ 2 19 9373 184 [(0, rf G 174)] [] (up (up (up (up (up (up (up (up (up (up (up (up d 174 16 (-1)) 191 0 (-1)) 191 1 (-1)) 191 2 (-1)) 191 3 (-1)) 179 0 10) 179 1 20) 179 2 60) 179 3 50) 179 4 5) 179 5 10) 179 6 6) _ _ _ _
  refine e_iconst C dX12_init_184 ?_
  refine e_istore_n C [(1, i9 0), (0, rf G 174)] dX12_init_185 rfl (by decide) rfl ?_
  refine e_iload_n C 0 dX12_init_186 rfl rfl ?_
  refine e_bipush C dX12_init_187 rfl ?_
  refine e_icmp_geF C 213 dX12_init_189 (by decide) (by decide) ?_
  refine e_aload_n C 1 dX12_init_192 rfl rfl ?_
  refine e_getR C (w := 174) (b := 175) dX12_init_193 fl_X12_9 rfl rfl rfl ?_
  refine e_bipush C dX12_init_196 rfl ?_
  refine e_iload_n C 0 dX12_init_198 rfl rfl ?_
  refine e_iadd C dX12_init_199 (v := 6) rfl ?_
  refine e_aload_n C 1 dX12_init_200 rfl rfl ?_
  refine e_getR C (w := 174) (b := 179) dX12_init_201 fl_X12_23 rfl rfl rfl ?_
  refine e_iload_n C 0 dX12_init_204 rfl rfl ?_
  refine e_iald C (lo := 175) (i := 4) (v := 10) (by decide) dX12_init_205 rfl (by decide) (by decide) rfl ?_
  refine e_iast C (lo := 175) (i := 0) (w := 174) rfl (by decide) (by decide) dX12_init_206 rfl (by decide) (by decide) ?_
  show SE G X _ _ 2 19 9373 207 [(1, i9 0), (0, rf G 174)] [] (up (up (up (up (up (up (up (up (up (up (up (up (up d 174 16 (-1)) 191 0 (-1)) 191 1 (-1)) 191 2 (-1)) 191 3 (-1)) 179 0 10) 179 1 20) 179 2 60) 179 3 50) 179 4 5) 179 5 10) 179 6 6) 175 6 10) _ _ _ _
  refine e_iinc C (v := 1) 0 [(1, i9 1), (0, rf G 174)] dX12_init_207 rfl rfl (by decide) rfl ?_
  refine e_goto C 186 dX12_init_210 (by decide) ?_
  refine e_iload_n C 0 dX12_init_186 rfl rfl ?_
  refine e_bipush C dX12_init_187 rfl ?_
  refine e_icmp_geF C 213 dX12_init_189 (by decide) (by decide) ?_
  refine e_aload_n C 1 dX12_init_192 rfl rfl ?_
  refine e_getR C (w := 174) (b := 175) dX12_init_193 fl_X12_9 rfl rfl rfl ?_
  refine e_bipush C dX12_init_196 rfl ?_
  refine e_iload_n C 0 dX12_init_198 rfl rfl ?_
  refine e_iadd C dX12_init_199 (v := 7) rfl ?_
  refine e_aload_n C 1 dX12_init_200 rfl rfl ?_
  refine e_getR C (w := 174) (b := 179) dX12_init_201 fl_X12_23 rfl rfl rfl ?_
  refine e_iload_n C 0 dX12_init_204 rfl rfl ?_
  refine e_iald C (lo := 175) (i := 4) (v := 20) (by decide) dX12_init_205 rfl (by decide) (by decide) rfl ?_
  refine e_iast C (lo := 175) (i := 0) (w := 174) rfl (by decide) (by decide) dX12_init_206 rfl (by decide) (by decide) ?_
  show SE G X _ _ 2 19 9373 207 [(1, i9 1), (0, rf G 174)] [] (up (up (up (up (up (up (up (up (up (up (up (up (up (up d 174 16 (-1)) 191 0 (-1)) 191 1 (-1)) 191 2 (-1)) 191 3 (-1)) 179 0 10) 179 1 20) 179 2 60) 179 3 50) 179 4 5) 179 5 10) 179 6 6) 175 6 10) 175 7 20) _ _ _ _
  refine e_iinc C (v := 2) 0 [(1, i9 2), (0, rf G 174)] dX12_init_207 rfl rfl (by decide) rfl ?_
  refine e_goto C 186 dX12_init_210 (by decide) ?_
  refine e_iload_n C 0 dX12_init_186 rfl rfl ?_
  refine e_bipush C dX12_init_187 rfl ?_
  refine e_icmp_geF C 213 dX12_init_189 (by decide) (by decide) ?_
  refine e_aload_n C 1 dX12_init_192 rfl rfl ?_
  refine e_getR C (w := 174) (b := 175) dX12_init_193 fl_X12_9 rfl rfl rfl ?_
  refine e_bipush C dX12_init_196 rfl ?_
  refine e_iload_n C 0 dX12_init_198 rfl rfl ?_
  refine e_iadd C dX12_init_199 (v := 8) rfl ?_
  refine e_aload_n C 1 dX12_init_200 rfl rfl ?_
  refine e_getR C (w := 174) (b := 179) dX12_init_201 fl_X12_23 rfl rfl rfl ?_
  refine e_iload_n C 0 dX12_init_204 rfl rfl ?_
  refine e_iald C (lo := 175) (i := 4) (v := 60) (by decide) dX12_init_205 rfl (by decide) (by decide) rfl ?_
  refine e_iast C (lo := 175) (i := 0) (w := 174) rfl (by decide) (by decide) dX12_init_206 rfl (by decide) (by decide) ?_
  show SE G X _ _ 2 19 9373 207 [(1, i9 2), (0, rf G 174)] [] (up (up (up (up (up (up (up (up (up (up (up (up (up (up (up d 174 16 (-1)) 191 0 (-1)) 191 1 (-1)) 191 2 (-1)) 191 3 (-1)) 179 0 10) 179 1 20) 179 2 60) 179 3 50) 179 4 5) 179 5 10) 179 6 6) 175 6 10) 175 7 20) 175 8 60) _ _ _ _
  refine e_iinc C (v := 3) 0 [(1, i9 3), (0, rf G 174)] dX12_init_207 rfl rfl (by decide) rfl ?_
  refine e_goto C 186 dX12_init_210 (by decide) ?_
  refine e_iload_n C 0 dX12_init_186 rfl rfl ?_
  refine e_bipush C dX12_init_187 rfl ?_
  refine e_icmp_geF C 213 dX12_init_189 (by decide) (by decide) ?_
  refine e_aload_n C 1 dX12_init_192 rfl rfl ?_
  refine e_getR C (w := 174) (b := 175) dX12_init_193 fl_X12_9 rfl rfl rfl ?_
  refine e_bipush C dX12_init_196 rfl ?_
  refine e_iload_n C 0 dX12_init_198 rfl rfl ?_
  refine e_iadd C dX12_init_199 (v := 9) rfl ?_
  refine e_aload_n C 1 dX12_init_200 rfl rfl ?_
  refine e_getR C (w := 174) (b := 179) dX12_init_201 fl_X12_23 rfl rfl rfl ?_
  refine e_iload_n C 0 dX12_init_204 rfl rfl ?_
  refine e_iald C (lo := 175) (i := 4) (v := 50) (by decide) dX12_init_205 rfl (by decide) (by decide) rfl ?_
  refine e_iast C (lo := 175) (i := 0) (w := 174) rfl (by decide) (by decide) dX12_init_206 rfl (by decide) (by decide) ?_
  show SE G X _ _ 2 19 9373 207 [(1, i9 3), (0, rf G 174)] [] (up (up (up (up (up (up (up (up (up (up (up (up (up (up (up (up d 174 16 (-1)) 191 0 (-1)) 191 1 (-1)) 191 2 (-1)) 191 3 (-1)) 179 0 10) 179 1 20) 179 2 60) 179 3 50) 179 4 5) 179 5 10) 179 6 6) 175 6 10) 175 7 20) 175 8 60) 175 9 50) _ _ _ _
  refine e_iinc C (v := 4) 0 [(1, i9 4), (0, rf G 174)] dX12_init_207 rfl rfl (by decide) rfl ?_
  refine e_goto C 186 dX12_init_210 (by decide) ?_
  refine e_iload_n C 0 dX12_init_186 rfl rfl ?_
  refine e_bipush C dX12_init_187 rfl ?_
  refine e_icmp_geF C 213 dX12_init_189 (by decide) (by decide) ?_
  refine e_aload_n C 1 dX12_init_192 rfl rfl ?_
  refine e_getR C (w := 174) (b := 175) dX12_init_193 fl_X12_9 rfl rfl rfl ?_
  refine e_bipush C dX12_init_196 rfl ?_
  refine e_iload_n C 0 dX12_init_198 rfl rfl ?_
  refine e_iadd C dX12_init_199 (v := 10) rfl ?_
  refine e_aload_n C 1 dX12_init_200 rfl rfl ?_
  refine e_getR C (w := 174) (b := 179) dX12_init_201 fl_X12_23 rfl rfl rfl ?_
  refine e_iload_n C 0 dX12_init_204 rfl rfl ?_
  refine e_iald C (lo := 175) (i := 4) (v := 5) (by decide) dX12_init_205 rfl (by decide) (by decide) rfl ?_
  refine e_iast C (lo := 175) (i := 0) (w := 174) rfl (by decide) (by decide) dX12_init_206 rfl (by decide) (by decide) ?_
  show SE G X _ _ 2 19 9373 207 [(1, i9 4), (0, rf G 174)] [] (up (up (up (up (up (up (up (up (up (up (up (up (up (up (up (up (up d 174 16 (-1)) 191 0 (-1)) 191 1 (-1)) 191 2 (-1)) 191 3 (-1)) 179 0 10) 179 1 20) 179 2 60) 179 3 50) 179 4 5) 179 5 10) 179 6 6) 175 6 10) 175 7 20) 175 8 60) 175 9 50) 175 10 5) _ _ _ _
  refine e_iinc C (v := 5) 0 [(1, i9 5), (0, rf G 174)] dX12_init_207 rfl rfl (by decide) rfl ?_
  refine e_goto C 186 dX12_init_210 (by decide) ?_
  refine e_iload_n C 0 dX12_init_186 rfl rfl ?_
  refine e_bipush C dX12_init_187 rfl ?_
  refine e_icmp_geF C 213 dX12_init_189 (by decide) (by decide) ?_
  refine e_aload_n C 1 dX12_init_192 rfl rfl ?_
  refine e_getR C (w := 174) (b := 175) dX12_init_193 fl_X12_9 rfl rfl rfl ?_
  refine e_bipush C dX12_init_196 rfl ?_
  refine e_iload_n C 0 dX12_init_198 rfl rfl ?_
  refine e_iadd C dX12_init_199 (v := 11) rfl ?_
  refine e_aload_n C 1 dX12_init_200 rfl rfl ?_
  refine e_getR C (w := 174) (b := 179) dX12_init_201 fl_X12_23 rfl rfl rfl ?_
  refine e_iload_n C 0 dX12_init_204 rfl rfl ?_
  refine e_iald C (lo := 175) (i := 4) (v := 10) (by decide) dX12_init_205 rfl (by decide) (by decide) rfl ?_
  refine e_iast C (lo := 175) (i := 0) (w := 174) rfl (by decide) (by decide) dX12_init_206 rfl (by decide) (by decide) ?_
  show SE G X _ _ 2 19 9373 207 [(1, i9 5), (0, rf G 174)] [] (up (up (up (up (up (up (up (up (up (up (up (up (up (up (up (up (up (up d 174 16 (-1)) 191 0 (-1)) 191 1 (-1)) 191 2 (-1)) 191 3 (-1)) 179 0 10) 179 1 20) 179 2 60) 179 3 50) 179 4 5) 179 5 10) 179 6 6) 175 6 10) 175 7 20) 175 8 60) 175 9 50) 175 10 5) 175 11 10) _ _ _ _
  refine e_iinc C (v := 6) 0 [(1, i9 6), (0, rf G 174)] dX12_init_207 rfl rfl (by decide) rfl ?_
  refine e_goto C 186 dX12_init_210 (by decide) ?_
  refine e_iload_n C 0 dX12_init_186 rfl rfl ?_
  refine e_bipush C dX12_init_187 rfl ?_
  refine e_icmp_geF C 213 dX12_init_189 (by decide) (by decide) ?_
  refine e_aload_n C 1 dX12_init_192 rfl rfl ?_
  refine e_getR C (w := 174) (b := 175) dX12_init_193 fl_X12_9 rfl rfl rfl ?_
  refine e_bipush C dX12_init_196 rfl ?_
  refine e_iload_n C 0 dX12_init_198 rfl rfl ?_
  refine e_iadd C dX12_init_199 (v := 12) rfl ?_
  refine e_aload_n C 1 dX12_init_200 rfl rfl ?_
  refine e_getR C (w := 174) (b := 179) dX12_init_201 fl_X12_23 rfl rfl rfl ?_
  refine e_iload_n C 0 dX12_init_204 rfl rfl ?_
  refine e_iald C (lo := 175) (i := 4) (v := 6) (by decide) dX12_init_205 rfl (by decide) (by decide) rfl ?_
  refine e_iast C (lo := 175) (i := 0) (w := 174) rfl (by decide) (by decide) dX12_init_206 rfl (by decide) (by decide) ?_
  show SE G X _ _ 2 19 9373 207 [(1, i9 6), (0, rf G 174)] [] (up (up (up (up (up (up (up (up (up (up (up (up (up (up (up (up (up (up (up d 174 16 (-1)) 191 0 (-1)) 191 1 (-1)) 191 2 (-1)) 191 3 (-1)) 179 0 10) 179 1 20) 179 2 60) 179 3 50) 179 4 5) 179 5 10) 179 6 6) 175 6 10) 175 7 20) 175 8 60) 175 9 50) 175 10 5) 175 11 10) 175 12 6) _ _ _ _
  refine e_iinc C (v := 7) 0 [(1, i9 7), (0, rf G 174)] dX12_init_207 rfl rfl (by decide) rfl ?_
  refine e_goto C 186 dX12_init_210 (by decide) ?_
  refine e_iload_n C 0 dX12_init_186 rfl rfl ?_
  refine e_bipush C dX12_init_187 rfl ?_
  refine e_icmp_geT C 213 dX12_init_189 (by decide) (by decide) ?_
  refine e_iconst C dX12_init_213 ?_
  refine e_istore_n C [(1, i9 0), (0, rf G 174)] dX12_init_214 rfl (by decide) rfl ?_
  refine e_iload_n C 0 dX12_init_215 rfl rfl ?_
  refine e_bipush C dX12_init_216 rfl ?_
  refine e_icmp_geF C 238 dX12_init_218 (by decide) (by decide) ?_
  refine e_aload_n C 1 dX12_init_221 rfl rfl ?_
  refine e_getR C (w := 174) (b := 175) dX12_init_222 fl_X12_9 rfl rfl rfl ?_
  refine e_sipush C dX12_init_225 rfl ?_
  refine e_iload_n C 0 dX12_init_228 rfl rfl ?_
  refine e_iadd C dX12_init_229 (v := 1134) rfl ?_
  refine e_iconst C dX12_init_230 ?_
  refine e_iast C (lo := 175) (i := 0) (w := 174) rfl (by decide) (by decide) dX12_init_231 rfl (by decide) (by decide) ?_
  show SE G X _ _ 2 19 9373 232 [(1, i9 0), (0, rf G 174)] [] (up (up (up (up (up (up (up (up (up (up (up (up (up (up (up (up (up (up (up (up d 174 16 (-1)) 191 0 (-1)) 191 1 (-1)) 191 2 (-1)) 191 3 (-1)) 179 0 10) 179 1 20) 179 2 60) 179 3 50) 179 4 5) 179 5 10) 179 6 6) 175 6 10) 175 7 20) 175 8 60) 175 9 50) 175 10 5) 175 11 10) 175 12 6) 175 1134 1) _ _ _ _
  refine e_iinc C (v := 1) 0 [(1, i9 1), (0, rf G 174)] dX12_init_232 rfl rfl (by decide) rfl ?_
  refine e_goto C 215 dX12_init_235 (by decide) ?_
  refine e_iload_n C 0 dX12_init_215 rfl rfl ?_
  refine e_bipush C dX12_init_216 rfl ?_
  refine e_icmp_geF C 238 dX12_init_218 (by decide) (by decide) ?_
  refine e_aload_n C 1 dX12_init_221 rfl rfl ?_
  refine e_getR C (w := 174) (b := 175) dX12_init_222 fl_X12_9 rfl rfl rfl ?_
  refine e_sipush C dX12_init_225 rfl ?_
  refine e_iload_n C 0 dX12_init_228 rfl rfl ?_
  refine e_iadd C dX12_init_229 (v := 1135) rfl ?_
  refine e_iconst C dX12_init_230 ?_
  refine e_iast C (lo := 175) (i := 0) (w := 174) rfl (by decide) (by decide) dX12_init_231 rfl (by decide) (by decide) ?_
  show SE G X _ _ 2 19 9373 232 [(1, i9 1), (0, rf G 174)] [] (up (up (up (up (up (up (up (up (up (up (up (up (up (up (up (up (up (up (up (up (up d 174 16 (-1)) 191 0 (-1)) 191 1 (-1)) 191 2 (-1)) 191 3 (-1)) 179 0 10) 179 1 20) 179 2 60) 179 3 50) 179 4 5) 179 5 10) 179 6 6) 175 6 10) 175 7 20) 175 8 60) 175 9 50) 175 10 5) 175 11 10) 175 12 6) 175 1134 1) 175 1135 1) _ _ _ _
  refine e_iinc C (v := 2) 0 [(1, i9 2), (0, rf G 174)] dX12_init_232 rfl rfl (by decide) rfl ?_
  refine e_goto C 215 dX12_init_235 (by decide) ?_
  refine e_iload_n C 0 dX12_init_215 rfl rfl ?_
  refine e_bipush C dX12_init_216 rfl ?_
  refine e_icmp_geF C 238 dX12_init_218 (by decide) (by decide) ?_
  refine e_aload_n C 1 dX12_init_221 rfl rfl ?_
  refine e_getR C (w := 174) (b := 175) dX12_init_222 fl_X12_9 rfl rfl rfl ?_
  refine e_sipush C dX12_init_225 rfl ?_
  refine e_iload_n C 0 dX12_init_228 rfl rfl ?_
  refine e_iadd C dX12_init_229 (v := 1136) rfl ?_
  refine e_iconst C dX12_init_230 ?_
  refine e_iast C (lo := 175) (i := 0) (w := 174) rfl (by decide) (by decide) dX12_init_231 rfl (by decide) (by decide) ?_
  show SE G X _ _ 2 19 9373 232 [(1, i9 2), (0, rf G 174)] [] (up (up (up (up (up (up (up (up (up (up (up (up (up (up (up (up (up (up (up (up (up (up d 174 16 (-1)) 191 0 (-1)) 191 1 (-1)) 191 2 (-1)) 191 3 (-1)) 179 0 10) 179 1 20) 179 2 60) 179 3 50) 179 4 5) 179 5 10) 179 6 6) 175 6 10) 175 7 20) 175 8 60) 175 9 50) 175 10 5) 175 11 10) 175 12 6) 175 1134 1) 175 1135 1) 175 1136 1) _ _ _ _
  refine e_iinc C (v := 3) 0 [(1, i9 3), (0, rf G 174)] dX12_init_232 rfl rfl (by decide) rfl ?_
  refine e_goto C 215 dX12_init_235 (by decide) ?_
  refine e_iload_n C 0 dX12_init_215 rfl rfl ?_
  refine e_bipush C dX12_init_216 rfl ?_
  refine e_icmp_geF C 238 dX12_init_218 (by decide) (by decide) ?_
  refine e_aload_n C 1 dX12_init_221 rfl rfl ?_
  refine e_getR C (w := 174) (b := 175) dX12_init_222 fl_X12_9 rfl rfl rfl ?_
  refine e_sipush C dX12_init_225 rfl ?_
  refine e_iload_n C 0 dX12_init_228 rfl rfl ?_
  refine e_iadd C dX12_init_229 (v := 1137) rfl ?_
  refine e_iconst C dX12_init_230 ?_
  refine e_iast C (lo := 175) (i := 0) (w := 174) rfl (by decide) (by decide) dX12_init_231 rfl (by decide) (by decide) ?_
  show SE G X _ _ 2 19 9373 232 [(1, i9 3), (0, rf G 174)] [] (up (up (up (up (up (up (up (up (up (up (up (up (up (up (up (up (up (up (up (up (up (up (up d 174 16 (-1)) 191 0 (-1)) 191 1 (-1)) 191 2 (-1)) 191 3 (-1)) 179 0 10) 179 1 20) 179 2 60) 179 3 50) 179 4 5) 179 5 10) 179 6 6) 175 6 10) 175 7 20) 175 8 60) 175 9 50) 175 10 5) 175 11 10) 175 12 6) 175 1134 1) 175 1135 1) 175 1136 1) 175 1137 1) _ _ _ _
  refine e_iinc C (v := 4) 0 [(1, i9 4), (0, rf G 174)] dX12_init_232 rfl rfl (by decide) rfl ?_
  refine e_goto C 215 dX12_init_235 (by decide) ?_
  refine e_iload_n C 0 dX12_init_215 rfl rfl ?_
  refine e_bipush C dX12_init_216 rfl ?_
  refine e_icmp_geF C 238 dX12_init_218 (by decide) (by decide) ?_
  refine e_aload_n C 1 dX12_init_221 rfl rfl ?_
  refine e_getR C (w := 174) (b := 175) dX12_init_222 fl_X12_9 rfl rfl rfl ?_
  refine e_sipush C dX12_init_225 rfl ?_
  refine e_iload_n C 0 dX12_init_228 rfl rfl ?_
  refine e_iadd C dX12_init_229 (v := 1138) rfl ?_
  refine e_iconst C dX12_init_230 ?_
  refine e_iast C (lo := 175) (i := 0) (w := 174) rfl (by decide) (by decide) dX12_init_231 rfl (by decide) (by decide) ?_
  show SE G X _ _ 2 19 9373 232 [(1, i9 4), (0, rf G 174)] [] (up (up (up (up (up (up (up (up (up (up (up (up (up (up (up (up (up (up (up (up (up (up (up (up d 174 16 (-1)) 191 0 (-1)) 191 1 (-1)) 191 2 (-1)) 191 3 (-1)) 179 0 10) 179 1 20) 179 2 60) 179 3 50) 179 4 5) 179 5 10) 179 6 6) 175 6 10) 175 7 20) 175 8 60) 175 9 50) 175 10 5) 175 11 10) 175 12 6) 175 1134 1) 175 1135 1) 175 1136 1) 175 1137 1) 175 1138 1) _ _ _ _
  refine e_iinc C (v := 5) 0 [(1, i9 5), (0, rf G 174)] dX12_init_232 rfl rfl (by decide) rfl ?_
  refine e_goto C 215 dX12_init_235 (by decide) ?_
  refine e_iload_n C 0 dX12_init_215 rfl rfl ?_
  refine e_bipush C dX12_init_216 rfl ?_
  refine e_icmp_geF C 238 dX12_init_218 (by decide) (by decide) ?_
  refine e_aload_n C 1 dX12_init_221 rfl rfl ?_
  refine e_getR C (w := 174) (b := 175) dX12_init_222 fl_X12_9 rfl rfl rfl ?_
  refine e_sipush C dX12_init_225 rfl ?_
  refine e_iload_n C 0 dX12_init_228 rfl rfl ?_
  refine e_iadd C dX12_init_229 (v := 1139) rfl ?_
  refine e_iconst C dX12_init_230 ?_
  refine e_iast C (lo := 175) (i := 0) (w := 174) rfl (by decide) (by decide) dX12_init_231 rfl (by decide) (by decide) ?_
  show SE G X _ _ 2 19 9373 232 [(1, i9 5), (0, rf G 174)] [] (up (up (up (up (up (up (up (up (up (up (up (up (up (up (up (up (up (up (up (up (up (up (up (up (up d 174 16 (-1)) 191 0 (-1)) 191 1 (-1)) 191 2 (-1)) 191 3 (-1)) 179 0 10) 179 1 20) 179 2 60) 179 3 50) 179 4 5) 179 5 10) 179 6 6) 175 6 10) 175 7 20) 175 8 60) 175 9 50) 175 10 5) 175 11 10) 175 12 6) 175 1134 1) 175 1135 1) 175 1136 1) 175 1137 1) 175 1138 1) 175 1139 1) _ _ _ _
  refine e_iinc C (v := 6) 0 [(1, i9 6), (0, rf G 174)] dX12_init_232 rfl rfl (by decide) rfl ?_
  refine e_goto C 215 dX12_init_235 (by decide) ?_
  refine e_iload_n C 0 dX12_init_215 rfl rfl ?_
  refine e_bipush C dX12_init_216 rfl ?_
  refine e_icmp_geF C 238 dX12_init_218 (by decide) (by decide) ?_
  refine e_aload_n C 1 dX12_init_221 rfl rfl ?_
  refine e_getR C (w := 174) (b := 175) dX12_init_222 fl_X12_9 rfl rfl rfl ?_
  refine e_sipush C dX12_init_225 rfl ?_
  refine e_iload_n C 0 dX12_init_228 rfl rfl ?_
  refine e_iadd C dX12_init_229 (v := 1140) rfl ?_
  refine e_iconst C dX12_init_230 ?_
  refine e_iast C (lo := 175) (i := 0) (w := 174) rfl (by decide) (by decide) dX12_init_231 rfl (by decide) (by decide) ?_
  show SE G X _ _ 2 19 9373 232 [(1, i9 6), (0, rf G 174)] [] (up (up (up (up (up (up (up (up (up (up (up (up (up (up (up (up (up (up (up (up (up (up (up (up (up (up d 174 16 (-1)) 191 0 (-1)) 191 1 (-1)) 191 2 (-1)) 191 3 (-1)) 179 0 10) 179 1 20) 179 2 60) 179 3 50) 179 4 5) 179 5 10) 179 6 6) 175 6 10) 175 7 20) 175 8 60) 175 9 50) 175 10 5) 175 11 10) 175 12 6) 175 1134 1) 175 1135 1) 175 1136 1) 175 1137 1) 175 1138 1) 175 1139 1) 175 1140 1) _ _ _ _
  refine e_iinc C (v := 7) 0 [(1, i9 7), (0, rf G 174)] dX12_init_232 rfl rfl (by decide) rfl ?_
  refine e_goto C 215 dX12_init_235 (by decide) ?_
  refine e_iload_n C 0 dX12_init_215 rfl rfl ?_
  refine e_bipush C dX12_init_216 rfl ?_
  refine e_icmp_geF C 238 dX12_init_218 (by decide) (by decide) ?_
  refine e_aload_n C 1 dX12_init_221 rfl rfl ?_
  refine e_getR C (w := 174) (b := 175) dX12_init_222 fl_X12_9 rfl rfl rfl ?_
  refine e_sipush C dX12_init_225 rfl ?_
  refine e_iload_n C 0 dX12_init_228 rfl rfl ?_
  refine e_iadd C dX12_init_229 (v := 1141) rfl ?_
  refine e_iconst C dX12_init_230 ?_
  refine e_iast C (lo := 175) (i := 0) (w := 174) rfl (by decide) (by decide) dX12_init_231 rfl (by decide) (by decide) ?_
  show SE G X _ _ 2 19 9373 232 [(1, i9 7), (0, rf G 174)] [] (up (up (up (up (up (up (up (up (up (up (up (up (up (up (up (up (up (up (up (up (up (up (up (up (up (up (up d 174 16 (-1)) 191 0 (-1)) 191 1 (-1)) 191 2 (-1)) 191 3 (-1)) 179 0 10) 179 1 20) 179 2 60) 179 3 50) 179 4 5) 179 5 10) 179 6 6) 175 6 10) 175 7 20) 175 8 60) 175 9 50) 175 10 5) 175 11 10) 175 12 6) 175 1134 1) 175 1135 1) 175 1136 1) 175 1137 1) 175 1138 1) 175 1139 1) 175 1140 1) 175 1141 1) _ _ _ _
  refine e_iinc C (v := 8) 0 [(1, i9 8), (0, rf G 174)] dX12_init_232 rfl rfl (by decide) rfl ?_
  refine e_goto C 215 dX12_init_235 (by decide) ?_
  refine e_iload_n C 0 dX12_init_215 rfl rfl ?_
  refine e_bipush C dX12_init_216 rfl ?_
  refine e_icmp_geF C 238 dX12_init_218 (by decide) (by decide) ?_
  refine e_aload_n C 1 dX12_init_221 rfl rfl ?_
  refine e_getR C (w := 174) (b := 175) dX12_init_222 fl_X12_9 rfl rfl rfl ?_
  refine e_sipush C dX12_init_225 rfl ?_
  refine e_iload_n C 0 dX12_init_228 rfl rfl ?_
  refine e_iadd C dX12_init_229 (v := 1142) rfl ?_
  refine e_iconst C dX12_init_230 ?_
  refine e_iast C (lo := 175) (i := 0) (w := 174) rfl (by decide) (by decide) dX12_init_231 rfl (by decide) (by decide) ?_
  show SE G X _ _ 2 19 9373 232 [(1, i9 8), (0, rf G 174)] [] (up (up (up (up (up (up (up (up (up (up (up (up (up (up (up (up (up (up (up (up (up (up (up (up (up (up (up (up d 174 16 (-1)) 191 0 (-1)) 191 1 (-1)) 191 2 (-1)) 191 3 (-1)) 179 0 10) 179 1 20) 179 2 60) 179 3 50) 179 4 5) 179 5 10) 179 6 6) 175 6 10) 175 7 20) 175 8 60) 175 9 50) 175 10 5) 175 11 10) 175 12 6) 175 1134 1) 175 1135 1) 175 1136 1) 175 1137 1) 175 1138 1) 175 1139 1) 175 1140 1) 175 1141 1) 175 1142 1) _ _ _ _
  refine e_iinc C (v := 9) 0 [(1, i9 9), (0, rf G 174)] dX12_init_232 rfl rfl (by decide) rfl ?_
  refine e_goto C 215 dX12_init_235 (by decide) ?_
  refine e_iload_n C 0 dX12_init_215 rfl rfl ?_
  refine e_bipush C dX12_init_216 rfl ?_
  refine e_icmp_geF C 238 dX12_init_218 (by decide) (by decide) ?_
  refine e_aload_n C 1 dX12_init_221 rfl rfl ?_
  refine e_getR C (w := 174) (b := 175) dX12_init_222 fl_X12_9 rfl rfl rfl ?_
  refine e_sipush C dX12_init_225 rfl ?_
  refine e_iload_n C 0 dX12_init_228 rfl rfl ?_
  refine e_iadd C dX12_init_229 (v := 1143) rfl ?_
  refine e_iconst C dX12_init_230 ?_
  refine e_iast C (lo := 175) (i := 0) (w := 174) rfl (by decide) (by decide) dX12_init_231 rfl (by decide) (by decide) ?_
  show SE G X _ _ 2 19 9373 232 [(1, i9 9), (0, rf G 174)] [] (up (up (up (up (up (up (up (up (up (up (up (up (up (up (up (up (up (up (up (up (up (up (up (up (up (up (up (up (up d 174 16 (-1)) 191 0 (-1)) 191 1 (-1)) 191 2 (-1)) 191 3 (-1)) 179 0 10) 179 1 20) 179 2 60) 179 3 50) 179 4 5) 179 5 10) 179 6 6) 175 6 10) 175 7 20) 175 8 60) 175 9 50) 175 10 5) 175 11 10) 175 12 6) 175 1134 1) 175 1135 1) 175 1136 1) 175 1137 1) 175 1138 1) 175 1139 1) 175 1140 1) 175 1141 1) 175 1142 1) 175 1143 1) _ _ _ _
  refine e_iinc C (v := 10) 0 [(1, i9 10), (0, rf G 174)] dX12_init_232 rfl rfl (by decide) rfl ?_
  refine e_goto C 215 dX12_init_235 (by decide) ?_
  refine e_iload_n C 0 dX12_init_215 rfl rfl ?_
  refine e_bipush C dX12_init_216 rfl ?_
  refine e_icmp_geT C 238 dX12_init_218 (by decide) (by decide) ?_
  exact e_ret C dX12_init_238 hret rfl rfl rfl (by decide) (by decide)

theorem kc_L_329 : Cond.constantLong RL 329 (Int64.ofInt 4294967295) ∈ WG := (wg10 70 rfl rfl)
theorem dL_law__3085 : decode cL_law_ 3085 = .ok (.aload_n 1, 1) := by decide +kernel
theorem dL_law__3086 : decode cL_law_ 3086 = .ok (.aload_n 0, 1) := by decide +kernel
theorem dL_law__3087 : decode cL_law_ 3087 = .ok (.iload 4, 2) := by decide +kernel
theorem dL_law__3089 : decode cL_law_ 3089 = .ok (.iconst 1, 1) := by decide +kernel
theorem dL_law__3090 : decode cL_law_ 3090 = .ok (.iadd, 1) := by decide +kernel
theorem dL_law__3091 : decode cL_law_ 3091 = .ok (.iaload, 1) := by decide +kernel
theorem dL_law__3092 : decode cL_law_ 3092 = .ok (.aload_n 3, 1) := by decide +kernel
theorem dL_law__3093 : decode cL_law_ 3093 = .ok (.invokestatic 319, 3) := by decide +kernel
theorem dL_law__3096 : decode cL_law_ 3096 = .ok (.istore 5, 2) := by decide +kernel
theorem dL_law__3098 : decode cL_law_ 3098 = .ok (.aload_n 2, 1) := by decide +kernel
theorem dL_law__3099 : decode cL_law_ 3099 = .ok (.aload_n 0, 1) := by decide +kernel
theorem dL_law__3100 : decode cL_law_ 3100 = .ok (.iload 4, 2) := by decide +kernel
theorem dL_law__3102 : decode cL_law_ 3102 = .ok (.iconst 1, 1) := by decide +kernel
theorem dL_law__3103 : decode cL_law_ 3103 = .ok (.iadd, 1) := by decide +kernel
theorem dL_law__3104 : decode cL_law_ 3104 = .ok (.iaload, 1) := by decide +kernel
theorem dL_law__3105 : decode cL_law_ 3105 = .ok (.invokevirtual 321, 3) := by decide +kernel
theorem dL_law__3108 : decode cL_law_ 3108 = .ok (.istore 6, 2) := by decide +kernel
theorem dL_law__3110 : decode cL_law_ 3110 = .ok (.aload_n 2, 1) := by decide +kernel
theorem dL_law__3111 : decode cL_law_ 3111 = .ok (.invokevirtual 175, 3) := by decide +kernel
theorem dL_law__3114 : decode cL_law_ 3114 = .ok (.iload 5, 2) := by decide +kernel
theorem dL_law__3116 : decode cL_law_ 3116 = .ok (.if_icmp .eq 5, 3) := by decide +kernel
theorem dL_law__3119 : decode cL_law_ 3119 = .ok (.iconst 0, 1) := by decide +kernel
theorem dL_law__3121 : decode cL_law_ 3121 = .ok (.iload 5, 2) := by decide +kernel
theorem dL_law__3123 : decode cL_law_ 3123 = .ok (.ifCond .ne 15, 3) := by decide +kernel
theorem dL_law__3126 : decode cL_law_ 3126 = .ok (.aload_n 3, 1) := by decide +kernel
theorem dL_law__3127 : decode cL_law_ 3127 = .ok (.iconst 0, 1) := by decide +kernel
theorem dL_law__3128 : decode cL_law_ 3128 = .ok (.laload, 1) := by decide +kernel
theorem dL_law__3129 : decode cL_law_ 3129 = .ok (.iload 6, 2) := by decide +kernel
theorem dL_law__3131 : decode cL_law_ 3131 = .ok (.i2l, 1) := by decide +kernel
theorem dL_law__3132 : decode cL_law_ 3132 = .ok (.lcmp, 1) := by decide +kernel
theorem dL_law__3133 : decode cL_law_ 3133 = .ok (.ifCond .eq 5, 3) := by decide +kernel
theorem dL_law__3136 : decode cL_law_ 3136 = .ok (.iconst 0, 1) := by decide +kernel
theorem dL_law__3138 : decode cL_law_ 3138 = .ok (.goto 395, 3) := by decide +kernel
def m_L_case_42 (xs : Nat → Int) (L : Nat) (kc : Int → D9 → Option R9) (v4 : Int) (d : D9) : Option R9 := scr xs L (v4 + 1) (fun t1 => cz (m_L_behind t1 d) (fun r2 d3 => scr xs L (v4 + 1) (fun t4 => cz (m_X12_behind_174 t4 d3) (fun r5 d6 => cz (m_X12_thrown_174 d6) (fun r7 d8 => if w32 r7 = w32 r2 then if w32 r2 ≠ 0 then kc (v4 + 7) d8 else ld d8 194 1 0 (fun t9 => if w64 t9 = w64 (w32 r5) then kc (v4 + 7) d8 else none) else none)))))
set_option maxRecDepth 100000 in
theorem s_L_case_42 {G : G9} {X : X9} (C : CX G X cL_law_ 8 RL [] zL9) (hNc : NC9 (xS X)) {b L : Nat} {xs : Nat → Int} (hSC : SCX G X b L xs) {k n : Nat} (hk : k + 12 ≤ 601024) (hn : n + 80 ≤ 7293034) (kc : Int → D9 → Option R9) (hkc : ∀ (v4 : Int) (d : D9), SS G X 8 (k + 12) (n + 80) 23 [(0, scf b), (1, rf G 0), (2, rf G 174), (3, rf G 194), (4, i9 v4)] [] d (kc v4 d)) : ∀ (v4 : Int) (d : D9), SS G X 8 k n 3085 [(0, scf b), (1, rf G 0), (2, rf G 174), (3, rf G 194), (4, i9 v4)] [] d (m_L_case_42 xs L kc v4 d) := by
  intro v4 d
  unfold m_L_case_42
  refine r_aload_n C 1 dL_law__3085 rfl rfl ?_
  refine r_aload_nC C 0 dL_law__3086 rfl rfl ?_
  refine r_iload C 4 dL_law__3087 rfl ?_
  refine r_iconst C dL_law__3089 ?_
  refine r_iadd C dL_law__3090 ?_
  refine r_scld C hSC dL_law__3091 (fun t1 => ?_)
  refine r_aload_n C 3 dL_law__3092 rfl rfl ?_
  refine r_callHL C hNc [rf G 194, i9 t1, rf G 0] dL_law__3093 (t_L_behind C.h1 C.h2 t1 d) mwh_L_319 (by decide) (show k + 1 ≤ 601024 by omega) (show n + 6 ≤ 7293034 by omega) rfl rfl (Nat.le_of_ble_eq_true rfl) (fun r2 d3 => ?_)
  show SS G X 8 (k + 1) (n + 6) 3096 [(0, scf b), (1, rf G 0), (2, rf G 174), (3, rf G 194), (4, i9 v4)] [i9 r2] d3 _
  refine r_istore C [(5, i9 r2), (0, scf b), (1, rf G 0), (2, rf G 174), (3, rf G 194), (4, i9 v4)] dL_law__3096 (by decide) rfl ?_
  refine r_aload_n C 3 dL_law__3098 rfl rfl ?_
  refine r_aload_nC C 1 dL_law__3099 rfl rfl ?_
  refine r_iload C 5 dL_law__3100 rfl ?_
  refine r_iconst C dL_law__3102 ?_
  refine r_iadd C dL_law__3103 ?_
  refine r_scld C hSC dL_law__3104 (fun t4 => ?_)
  refine r_callVL C [i9 t4, rf G 174] dL_law__3105 (t_X12_behind_174 C.h1 C.h2 t4 d3) mw_L_321 mv_X12_behind la_174 ly_174 rfl (by decide) (show k + 1 + 0 ≤ 601024 by omega) (show n + 6 + 0 ≤ 7293034 by omega) rfl rfl (Nat.le_of_ble_eq_true rfl) (fun r5 d6 => ?_)
  show SS G X 8 (k + 1 + 0) (n + 6 + 0) 3108 [(5, i9 r2), (0, scf b), (1, rf G 0), (2, rf G 174), (3, rf G 194), (4, i9 v4)] [i9 r5] d6 _
  refine r_istore C [(6, i9 r5), (5, i9 r2), (0, scf b), (1, rf G 0), (2, rf G 174), (3, rf G 194), (4, i9 v4)] dL_law__3108 (by decide) rfl ?_
  refine r_aload_n C 4 dL_law__3110 rfl rfl ?_
  refine r_callVL C [rf G 174] dL_law__3111 (t_X12_thrown_174 C.h1 C.h2 d6) mw_L_175 mv_X12_thrown la_174 ly_174 rfl (by decide) (show k + 1 + 0 + 0 ≤ 601024 by omega) (show n + 6 + 0 + 0 ≤ 7293034 by omega) rfl rfl (Nat.le_of_ble_eq_true rfl) (fun r7 d8 => ?_)
  show SS G X 8 (k + 1 + 0 + 0) (n + 6 + 0 + 0) 3114 [(6, i9 r5), (5, i9 r2), (0, scf b), (1, rf G 0), (2, rf G 174), (3, rf G 194), (4, i9 v4)] [i9 r7] d8 _
  refine r_iload C 1 dL_law__3114 rfl ?_
  refine r_icmp_eq C 3121 dL_law__3116 (by decide) (fun _ => ?_) (fun _ => ?_)
  · refine r_iload C 1 dL_law__3121 rfl ?_
    refine r_if_ne C (b := 0) 3138 dL_law__3123 (by decide) (fun _ => ?_) (fun _ => ?_)
    · refine r_goto C 3533 dL_law__3138 (by decide) ?_
      refine r_iinc C 6 [(4, i9 (v4 + 7)), (6, i9 r5), (5, i9 r2), (0, scf b), (1, rf G 0), (2, rf G 174), (3, rf G 194)] dL_law__3533 rfl (by decide) rfl ?_
      refine r_goto C 23 dL_law__3536 (by decide) ?_
      refine ss_wide (k' := k + 12) (n' := n + 80) (show k + 1 + 0 + 0 ≤ k + 12 by omega) (show n + 6 + 0 + 0 ≤ n + 80 by omega) ?_
      refine ss_ls [(0, scf b), (1, rf G 0), (2, rf G 174), (3, rf G 194), (4, i9 (v4 + 7))] [3, 4, 5, 6, 0] rfl ?_
      exact hkc (v4 + 7) d8
    · refine r_aload_n C 5 dL_law__3126 rfl rfl ?_
      refine r_iconst C dL_law__3127 ?_
      refine r_lald C dL_law__3128 la_194 ly_194 (fun t9 => ?_)
      refine r_iload C 0 dL_law__3129 rfl ?_
      refine r_i2l C dL_law__3131 ?_
      refine r_lcmp_eq C 3138 dL_law__3132 dL_law__3133 (by decide) (fun _ => ?_) (fun _ => ?_)
      · refine r_goto C 3533 dL_law__3138 (by decide) ?_
        refine r_iinc C 6 [(4, i9 (v4 + 7)), (6, i9 r5), (5, i9 r2), (0, scf b), (1, rf G 0), (2, rf G 174), (3, rf G 194)] dL_law__3533 rfl (by decide) rfl ?_
        refine r_goto C 23 dL_law__3536 (by decide) ?_
        refine ss_wide (k' := k + 12) (n' := n + 80) (show k + 1 + 0 + 0 ≤ k + 12 by omega) (show n + 6 + 0 + 0 ≤ n + 80 by omega) ?_
        refine ss_ls [(0, scf b), (1, rf G 0), (2, rf G 174), (3, rf G 194), (4, i9 (v4 + 7))] [3, 4, 5, 6, 0] rfl ?_
        exact hkc (v4 + 7) d8
      · refine r_iconst C dL_law__3136 ?_
        exact ss_none
  · refine r_iconst C dL_law__3119 ?_
    exact ss_none
theorem dL_law__3141 : decode cL_law_ 3141 = .ok (.aload_n 1, 1) := by decide +kernel
theorem dL_law__3142 : decode cL_law_ 3142 = .ok (.aload_n 0, 1) := by decide +kernel
theorem dL_law__3143 : decode cL_law_ 3143 = .ok (.iload 4, 2) := by decide +kernel
theorem dL_law__3145 : decode cL_law_ 3145 = .ok (.iconst 1, 1) := by decide +kernel
theorem dL_law__3146 : decode cL_law_ 3146 = .ok (.iadd, 1) := by decide +kernel
theorem dL_law__3147 : decode cL_law_ 3147 = .ok (.iaload, 1) := by decide +kernel
theorem dL_law__3148 : decode cL_law_ 3148 = .ok (.aload_n 3, 1) := by decide +kernel
theorem dL_law__3149 : decode cL_law_ 3149 = .ok (.invokestatic 322, 3) := by decide +kernel
theorem dL_law__3152 : decode cL_law_ 3152 = .ok (.istore 5, 2) := by decide +kernel
theorem dL_law__3154 : decode cL_law_ 3154 = .ok (.aload_n 2, 1) := by decide +kernel
theorem dL_law__3155 : decode cL_law_ 3155 = .ok (.aload_n 0, 1) := by decide +kernel
theorem dL_law__3156 : decode cL_law_ 3156 = .ok (.iload 4, 2) := by decide +kernel
theorem dL_law__3158 : decode cL_law_ 3158 = .ok (.iconst 1, 1) := by decide +kernel
theorem dL_law__3159 : decode cL_law_ 3159 = .ok (.iadd, 1) := by decide +kernel
theorem dL_law__3160 : decode cL_law_ 3160 = .ok (.iaload, 1) := by decide +kernel
theorem dL_law__3161 : decode cL_law_ 3161 = .ok (.invokevirtual 324, 3) := by decide +kernel
theorem dL_law__3164 : decode cL_law_ 3164 = .ok (.istore 6, 2) := by decide +kernel
theorem dL_law__3166 : decode cL_law_ 3166 = .ok (.aload_n 2, 1) := by decide +kernel
theorem dL_law__3167 : decode cL_law_ 3167 = .ok (.invokevirtual 175, 3) := by decide +kernel
theorem dL_law__3170 : decode cL_law_ 3170 = .ok (.iload 5, 2) := by decide +kernel
theorem dL_law__3172 : decode cL_law_ 3172 = .ok (.if_icmp .eq 5, 3) := by decide +kernel
theorem dL_law__3175 : decode cL_law_ 3175 = .ok (.iconst 0, 1) := by decide +kernel
theorem dL_law__3177 : decode cL_law_ 3177 = .ok (.iload 5, 2) := by decide +kernel
theorem dL_law__3179 : decode cL_law_ 3179 = .ok (.ifCond .ne 15, 3) := by decide +kernel
theorem dL_law__3182 : decode cL_law_ 3182 = .ok (.aload_n 3, 1) := by decide +kernel
theorem dL_law__3183 : decode cL_law_ 3183 = .ok (.iconst 0, 1) := by decide +kernel
theorem dL_law__3184 : decode cL_law_ 3184 = .ok (.laload, 1) := by decide +kernel
theorem dL_law__3185 : decode cL_law_ 3185 = .ok (.iload 6, 2) := by decide +kernel
theorem dL_law__3187 : decode cL_law_ 3187 = .ok (.i2l, 1) := by decide +kernel
theorem dL_law__3188 : decode cL_law_ 3188 = .ok (.lcmp, 1) := by decide +kernel
theorem dL_law__3189 : decode cL_law_ 3189 = .ok (.ifCond .eq 5, 3) := by decide +kernel
theorem dL_law__3192 : decode cL_law_ 3192 = .ok (.iconst 0, 1) := by decide +kernel
theorem dL_law__3194 : decode cL_law_ 3194 = .ok (.goto 339, 3) := by decide +kernel
def m_L_case_43 (xs : Nat → Int) (L : Nat) (kc : Int → D9 → Option R9) (v4 : Int) (d : D9) : Option R9 := scr xs L (v4 + 1) (fun t1 => cz (m_L_say t1 d) (fun r2 d3 => scr xs L (v4 + 1) (fun t4 => cz (m_X12_say_174 t4 d3) (fun r5 d6 => cz (m_X12_thrown_174 d6) (fun r7 d8 => if w32 r7 = w32 r2 then if w32 r2 ≠ 0 then kc (v4 + 7) d8 else ld d8 194 1 0 (fun t9 => if w64 t9 = w64 (w32 r5) then kc (v4 + 7) d8 else none) else none)))))
set_option maxRecDepth 100000 in
theorem s_L_case_43 {G : G9} {X : X9} (C : CX G X cL_law_ 8 RL [] zL9) (hNc : NC9 (xS X)) {b L : Nat} {xs : Nat → Int} (hSC : SCX G X b L xs) {k n : Nat} (hk : k + 12 ≤ 601024) (hn : n + 80 ≤ 7293034) (kc : Int → D9 → Option R9) (hkc : ∀ (v4 : Int) (d : D9), SS G X 8 (k + 12) (n + 80) 23 [(0, scf b), (1, rf G 0), (2, rf G 174), (3, rf G 194), (4, i9 v4)] [] d (kc v4 d)) : ∀ (v4 : Int) (d : D9), SS G X 8 k n 3141 [(0, scf b), (1, rf G 0), (2, rf G 174), (3, rf G 194), (4, i9 v4)] [] d (m_L_case_43 xs L kc v4 d) := by
  intro v4 d
  unfold m_L_case_43
  refine r_aload_n C 1 dL_law__3141 rfl rfl ?_
  refine r_aload_nC C 0 dL_law__3142 rfl rfl ?_
  refine r_iload C 4 dL_law__3143 rfl ?_
  refine r_iconst C dL_law__3145 ?_
  refine r_iadd C dL_law__3146 ?_
  refine r_scld C hSC dL_law__3147 (fun t1 => ?_)
  refine r_aload_n C 3 dL_law__3148 rfl rfl ?_
  refine r_callHL C hNc [rf G 194, i9 t1, rf G 0] dL_law__3149 (t_L_say C.h1 C.h2 t1 d) mwh_L_322 (by decide) (show k + 1 ≤ 601024 by omega) (show n + 6 ≤ 7293034 by omega) rfl rfl (Nat.le_of_ble_eq_true rfl) (fun r2 d3 => ?_)
  show SS G X 8 (k + 1) (n + 6) 3152 [(0, scf b), (1, rf G 0), (2, rf G 174), (3, rf G 194), (4, i9 v4)] [i9 r2] d3 _
  refine r_istore C [(5, i9 r2), (0, scf b), (1, rf G 0), (2, rf G 174), (3, rf G 194), (4, i9 v4)] dL_law__3152 (by decide) rfl ?_
  refine r_aload_n C 3 dL_law__3154 rfl rfl ?_
  refine r_aload_nC C 1 dL_law__3155 rfl rfl ?_
  refine r_iload C 5 dL_law__3156 rfl ?_
  refine r_iconst C dL_law__3158 ?_
  refine r_iadd C dL_law__3159 ?_
  refine r_scld C hSC dL_law__3160 (fun t4 => ?_)
  refine r_callVL C [i9 t4, rf G 174] dL_law__3161 (t_X12_say_174 C.h1 C.h2 t4 d3) mw_L_324 mv_X12_say la_174 ly_174 rfl (by decide) (show k + 1 + 0 ≤ 601024 by omega) (show n + 6 + 0 ≤ 7293034 by omega) rfl rfl (Nat.le_of_ble_eq_true rfl) (fun r5 d6 => ?_)
  show SS G X 8 (k + 1 + 0) (n + 6 + 0) 3164 [(5, i9 r2), (0, scf b), (1, rf G 0), (2, rf G 174), (3, rf G 194), (4, i9 v4)] [i9 r5] d6 _
  refine r_istore C [(6, i9 r5), (5, i9 r2), (0, scf b), (1, rf G 0), (2, rf G 174), (3, rf G 194), (4, i9 v4)] dL_law__3164 (by decide) rfl ?_
  refine r_aload_n C 4 dL_law__3166 rfl rfl ?_
  refine r_callVL C [rf G 174] dL_law__3167 (t_X12_thrown_174 C.h1 C.h2 d6) mw_L_175 mv_X12_thrown la_174 ly_174 rfl (by decide) (show k + 1 + 0 + 0 ≤ 601024 by omega) (show n + 6 + 0 + 0 ≤ 7293034 by omega) rfl rfl (Nat.le_of_ble_eq_true rfl) (fun r7 d8 => ?_)
  show SS G X 8 (k + 1 + 0 + 0) (n + 6 + 0 + 0) 3170 [(6, i9 r5), (5, i9 r2), (0, scf b), (1, rf G 0), (2, rf G 174), (3, rf G 194), (4, i9 v4)] [i9 r7] d8 _
  refine r_iload C 1 dL_law__3170 rfl ?_
  refine r_icmp_eq C 3177 dL_law__3172 (by decide) (fun _ => ?_) (fun _ => ?_)
  · refine r_iload C 1 dL_law__3177 rfl ?_
    refine r_if_ne C (b := 0) 3194 dL_law__3179 (by decide) (fun _ => ?_) (fun _ => ?_)
    · refine r_goto C 3533 dL_law__3194 (by decide) ?_
      refine r_iinc C 6 [(4, i9 (v4 + 7)), (6, i9 r5), (5, i9 r2), (0, scf b), (1, rf G 0), (2, rf G 174), (3, rf G 194)] dL_law__3533 rfl (by decide) rfl ?_
      refine r_goto C 23 dL_law__3536 (by decide) ?_
      refine ss_wide (k' := k + 12) (n' := n + 80) (show k + 1 + 0 + 0 ≤ k + 12 by omega) (show n + 6 + 0 + 0 ≤ n + 80 by omega) ?_
      refine ss_ls [(0, scf b), (1, rf G 0), (2, rf G 174), (3, rf G 194), (4, i9 (v4 + 7))] [3, 4, 5, 6, 0] rfl ?_
      exact hkc (v4 + 7) d8
    · refine r_aload_n C 5 dL_law__3182 rfl rfl ?_
      refine r_iconst C dL_law__3183 ?_
      refine r_lald C dL_law__3184 la_194 ly_194 (fun t9 => ?_)
      refine r_iload C 0 dL_law__3185 rfl ?_
      refine r_i2l C dL_law__3187 ?_
      refine r_lcmp_eq C 3194 dL_law__3188 dL_law__3189 (by decide) (fun _ => ?_) (fun _ => ?_)
      · refine r_goto C 3533 dL_law__3194 (by decide) ?_
        refine r_iinc C 6 [(4, i9 (v4 + 7)), (6, i9 r5), (5, i9 r2), (0, scf b), (1, rf G 0), (2, rf G 174), (3, rf G 194)] dL_law__3533 rfl (by decide) rfl ?_
        refine r_goto C 23 dL_law__3536 (by decide) ?_
        refine ss_wide (k' := k + 12) (n' := n + 80) (show k + 1 + 0 + 0 ≤ k + 12 by omega) (show n + 6 + 0 + 0 ≤ n + 80 by omega) ?_
        refine ss_ls [(0, scf b), (1, rf G 0), (2, rf G 174), (3, rf G 194), (4, i9 (v4 + 7))] [3, 4, 5, 6, 0] rfl ?_
        exact hkc (v4 + 7) d8
      · refine r_iconst C dL_law__3192 ?_
        exact ss_none
  · refine r_iconst C dL_law__3175 ?_
    exact ss_none
theorem dL_law__3197 : decode cL_law_ 3197 = .ok (.aload_n 1, 1) := by decide +kernel
theorem dL_law__3198 : decode cL_law_ 3198 = .ok (.aload_n 0, 1) := by decide +kernel
theorem dL_law__3199 : decode cL_law_ 3199 = .ok (.iload 4, 2) := by decide +kernel
theorem dL_law__3201 : decode cL_law_ 3201 = .ok (.iconst 1, 1) := by decide +kernel
theorem dL_law__3202 : decode cL_law_ 3202 = .ok (.iadd, 1) := by decide +kernel
theorem dL_law__3203 : decode cL_law_ 3203 = .ok (.iaload, 1) := by decide +kernel
theorem dL_law__3204 : decode cL_law_ 3204 = .ok (.aload_n 0, 1) := by decide +kernel
theorem dL_law__3205 : decode cL_law_ 3205 = .ok (.iload 4, 2) := by decide +kernel
theorem dL_law__3207 : decode cL_law_ 3207 = .ok (.iconst 2, 1) := by decide +kernel
theorem dL_law__3208 : decode cL_law_ 3208 = .ok (.iadd, 1) := by decide +kernel
theorem dL_law__3209 : decode cL_law_ 3209 = .ok (.iaload, 1) := by decide +kernel
theorem dL_law__3210 : decode cL_law_ 3210 = .ok (.aload_n 0, 1) := by decide +kernel
theorem dL_law__3211 : decode cL_law_ 3211 = .ok (.iload 4, 2) := by decide +kernel
theorem dL_law__3213 : decode cL_law_ 3213 = .ok (.iconst 3, 1) := by decide +kernel
theorem dL_law__3214 : decode cL_law_ 3214 = .ok (.iadd, 1) := by decide +kernel
theorem dL_law__3215 : decode cL_law_ 3215 = .ok (.iaload, 1) := by decide +kernel
theorem dL_law__3216 : decode cL_law_ 3216 = .ok (.invokestatic 325, 3) := by decide +kernel
theorem dL_law__3219 : decode cL_law_ 3219 = .ok (.istore 5, 2) := by decide +kernel
theorem dL_law__3221 : decode cL_law_ 3221 = .ok (.aload_n 2, 1) := by decide +kernel
theorem dL_law__3222 : decode cL_law_ 3222 = .ok (.aload_n 0, 1) := by decide +kernel
theorem dL_law__3223 : decode cL_law_ 3223 = .ok (.iload 4, 2) := by decide +kernel
theorem dL_law__3225 : decode cL_law_ 3225 = .ok (.iconst 1, 1) := by decide +kernel
theorem dL_law__3226 : decode cL_law_ 3226 = .ok (.iadd, 1) := by decide +kernel
theorem dL_law__3227 : decode cL_law_ 3227 = .ok (.iaload, 1) := by decide +kernel
theorem dL_law__3228 : decode cL_law_ 3228 = .ok (.aload_n 0, 1) := by decide +kernel
theorem dL_law__3229 : decode cL_law_ 3229 = .ok (.iload 4, 2) := by decide +kernel
theorem dL_law__3231 : decode cL_law_ 3231 = .ok (.iconst 2, 1) := by decide +kernel
theorem dL_law__3232 : decode cL_law_ 3232 = .ok (.iadd, 1) := by decide +kernel
theorem dL_law__3233 : decode cL_law_ 3233 = .ok (.iaload, 1) := by decide +kernel
theorem dL_law__3234 : decode cL_law_ 3234 = .ok (.aload_n 0, 1) := by decide +kernel
theorem dL_law__3235 : decode cL_law_ 3235 = .ok (.iload 4, 2) := by decide +kernel
theorem dL_law__3237 : decode cL_law_ 3237 = .ok (.iconst 3, 1) := by decide +kernel
theorem dL_law__3238 : decode cL_law_ 3238 = .ok (.iadd, 1) := by decide +kernel
theorem dL_law__3239 : decode cL_law_ 3239 = .ok (.iaload, 1) := by decide +kernel
theorem dL_law__3240 : decode cL_law_ 3240 = .ok (.invokevirtual 328, 3) := by decide +kernel
theorem dL_law__3243 : decode cL_law_ 3243 = .ok (.aload_n 2, 1) := by decide +kernel
theorem dL_law__3244 : decode cL_law_ 3244 = .ok (.invokevirtual 175, 3) := by decide +kernel
theorem dL_law__3247 : decode cL_law_ 3247 = .ok (.iload 5, 2) := by decide +kernel
theorem dL_law__3249 : decode cL_law_ 3249 = .ok (.if_icmp .eq 5, 3) := by decide +kernel
theorem dL_law__3252 : decode cL_law_ 3252 = .ok (.iconst 0, 1) := by decide +kernel
theorem dL_law__3254 : decode cL_law_ 3254 = .ok (.goto 279, 3) := by decide +kernel
def m_L_case_44 (xs : Nat → Int) (L : Nat) (kc : Int → D9 → Option R9) (v4 : Int) (d : D9) : Option R9 := scr xs L (v4 + 1) (fun t1 => scr xs L (v4 + 2) (fun t2 => scr xs L (v4 + 3) (fun t3 => cz (m_L_tray t1 t2 t3 d) (fun r4 d5 => scr xs L (v4 + 1) (fun t6 => scr xs L (v4 + 2) (fun t7 => scr xs L (v4 + 3) (fun t8 => cz (m_X12_tray_174 t6 t7 t8 d5) (fun r9 d10 => cz (m_X12_thrown_174 d10) (fun r11 d12 => if w32 r11 = w32 r4 then kc (v4 + 7) d12 else none)))))))))
set_option maxRecDepth 100000 in
theorem s_L_case_44 {G : G9} {X : X9} (C : CX G X cL_law_ 8 RL [] zL9) (hNc : NC9 (xS X)) {b L : Nat} {xs : Nat → Int} (hSC : SCX G X b L xs) {k n : Nat} (hk : k + 12 ≤ 601024) (hn : n + 80 ≤ 7293034) (kc : Int → D9 → Option R9) (hkc : ∀ (v4 : Int) (d : D9), SS G X 8 (k + 12) (n + 80) 23 [(0, scf b), (1, rf G 0), (2, rf G 174), (3, rf G 194), (4, i9 v4)] [] d (kc v4 d)) : ∀ (v4 : Int) (d : D9), SS G X 8 k n 3197 [(0, scf b), (1, rf G 0), (2, rf G 174), (3, rf G 194), (4, i9 v4)] [] d (m_L_case_44 xs L kc v4 d) := by
  intro v4 d
  unfold m_L_case_44
  refine r_aload_n C 1 dL_law__3197 rfl rfl ?_
  refine r_aload_nC C 0 dL_law__3198 rfl rfl ?_
  refine r_iload C 4 dL_law__3199 rfl ?_
  refine r_iconst C dL_law__3201 ?_
  refine r_iadd C dL_law__3202 ?_
  refine r_scld C hSC dL_law__3203 (fun t1 => ?_)
  refine r_aload_nC C 0 dL_law__3204 rfl rfl ?_
  refine r_iload C 4 dL_law__3205 rfl ?_
  refine r_iconst C dL_law__3207 ?_
  refine r_iadd C dL_law__3208 ?_
  refine r_scld C hSC dL_law__3209 (fun t2 => ?_)
  refine r_aload_nC C 0 dL_law__3210 rfl rfl ?_
  refine r_iload C 4 dL_law__3211 rfl ?_
  refine r_iconst C dL_law__3213 ?_
  refine r_iadd C dL_law__3214 ?_
  refine r_scld C hSC dL_law__3215 (fun t3 => ?_)
  refine r_callHL C hNc [i9 t3, i9 t2, i9 t1, rf G 0] dL_law__3216 (t_L_tray C.h1 C.h2 t1 t2 t3 d) mwh_L_325 (by decide) (show k + 3 ≤ 601024 by omega) (show n + 18 ≤ 7293034 by omega) rfl rfl (Nat.le_of_ble_eq_true rfl) (fun r4 d5 => ?_)
  show SS G X 8 (k + 3) (n + 18) 3219 [(0, scf b), (1, rf G 0), (2, rf G 174), (3, rf G 194), (4, i9 v4)] [i9 r4] d5 _
  refine r_istore C [(5, i9 r4), (0, scf b), (1, rf G 0), (2, rf G 174), (3, rf G 194), (4, i9 v4)] dL_law__3219 (by decide) rfl ?_
  refine r_aload_n C 3 dL_law__3221 rfl rfl ?_
  refine r_aload_nC C 1 dL_law__3222 rfl rfl ?_
  refine r_iload C 5 dL_law__3223 rfl ?_
  refine r_iconst C dL_law__3225 ?_
  refine r_iadd C dL_law__3226 ?_
  refine r_scld C hSC dL_law__3227 (fun t6 => ?_)
  refine r_aload_nC C 1 dL_law__3228 rfl rfl ?_
  refine r_iload C 5 dL_law__3229 rfl ?_
  refine r_iconst C dL_law__3231 ?_
  refine r_iadd C dL_law__3232 ?_
  refine r_scld C hSC dL_law__3233 (fun t7 => ?_)
  refine r_aload_nC C 1 dL_law__3234 rfl rfl ?_
  refine r_iload C 5 dL_law__3235 rfl ?_
  refine r_iconst C dL_law__3237 ?_
  refine r_iadd C dL_law__3238 ?_
  refine r_scld C hSC dL_law__3239 (fun t8 => ?_)
  refine r_callVL C [i9 t8, i9 t7, i9 t6, rf G 174] dL_law__3240 (t_X12_tray_174 C.h1 C.h2 t6 t7 t8 d5) mw_L_328 mv_X12_tray la_174 ly_174 rfl (by decide) (show k + 3 + 0 ≤ 601024 by omega) (show n + 18 + 0 ≤ 7293034 by omega) rfl rfl (Nat.le_of_ble_eq_true rfl) (fun r9 d10 => ?_)
  show SS G X 8 (k + 3 + 0) (n + 18 + 0) 3243 [(5, i9 r4), (0, scf b), (1, rf G 0), (2, rf G 174), (3, rf G 194), (4, i9 v4)] [] d10 _
  refine r_aload_n C 3 dL_law__3243 rfl rfl ?_
  refine r_callVL C [rf G 174] dL_law__3244 (t_X12_thrown_174 C.h1 C.h2 d10) mw_L_175 mv_X12_thrown la_174 ly_174 rfl (by decide) (show k + 3 + 0 + 0 ≤ 601024 by omega) (show n + 18 + 0 + 0 ≤ 7293034 by omega) rfl rfl (Nat.le_of_ble_eq_true rfl) (fun r11 d12 => ?_)
  show SS G X 8 (k + 3 + 0 + 0) (n + 18 + 0 + 0) 3247 [(5, i9 r4), (0, scf b), (1, rf G 0), (2, rf G 174), (3, rf G 194), (4, i9 v4)] [i9 r11] d12 _
  refine r_iload C 0 dL_law__3247 rfl ?_
  refine r_icmp_eq C 3254 dL_law__3249 (by decide) (fun _ => ?_) (fun _ => ?_)
  · refine r_goto C 3533 dL_law__3254 (by decide) ?_
    refine r_iinc C 5 [(4, i9 (v4 + 7)), (5, i9 r4), (0, scf b), (1, rf G 0), (2, rf G 174), (3, rf G 194)] dL_law__3533 rfl (by decide) rfl ?_
    refine r_goto C 23 dL_law__3536 (by decide) ?_
    refine ss_wide (k' := k + 12) (n' := n + 80) (show k + 3 + 0 + 0 ≤ k + 12 by omega) (show n + 18 + 0 + 0 ≤ n + 80 by omega) ?_
    refine ss_ls [(0, scf b), (1, rf G 0), (2, rf G 174), (3, rf G 194), (4, i9 (v4 + 7))] [2, 3, 4, 5, 0] rfl ?_
    exact hkc (v4 + 7) d12
  · refine r_iconst C dL_law__3252 ?_
    exact ss_none
theorem dL_law__3257 : decode cL_law_ 3257 = .ok (.aload_n 1, 1) := by decide +kernel
theorem dL_law__3258 : decode cL_law_ 3258 = .ok (.aload_n 0, 1) := by decide +kernel
theorem dL_law__3259 : decode cL_law_ 3259 = .ok (.iload 4, 2) := by decide +kernel
theorem dL_law__3261 : decode cL_law_ 3261 = .ok (.iconst 1, 1) := by decide +kernel
theorem dL_law__3262 : decode cL_law_ 3262 = .ok (.iadd, 1) := by decide +kernel
theorem dL_law__3263 : decode cL_law_ 3263 = .ok (.iaload, 1) := by decide +kernel
theorem dL_law__3264 : decode cL_law_ 3264 = .ok (.aload_n 0, 1) := by decide +kernel
theorem dL_law__3265 : decode cL_law_ 3265 = .ok (.iload 4, 2) := by decide +kernel
theorem dL_law__3267 : decode cL_law_ 3267 = .ok (.iconst 2, 1) := by decide +kernel
theorem dL_law__3268 : decode cL_law_ 3268 = .ok (.iadd, 1) := by decide +kernel
theorem dL_law__3269 : decode cL_law_ 3269 = .ok (.iaload, 1) := by decide +kernel
theorem dL_law__3270 : decode cL_law_ 3270 = .ok (.aload_n 0, 1) := by decide +kernel
theorem dL_law__3271 : decode cL_law_ 3271 = .ok (.iload 4, 2) := by decide +kernel
theorem dL_law__3273 : decode cL_law_ 3273 = .ok (.iconst 3, 1) := by decide +kernel
theorem dL_law__3274 : decode cL_law_ 3274 = .ok (.iadd, 1) := by decide +kernel
theorem dL_law__3275 : decode cL_law_ 3275 = .ok (.iaload, 1) := by decide +kernel
theorem dL_law__3276 : decode cL_law_ 3276 = .ok (.i2l, 1) := by decide +kernel
theorem dL_law__3277 : decode cL_law_ 3277 = .ok (.bipush 32, 2) := by decide +kernel
theorem dL_law__3279 : decode cL_law_ 3279 = .ok (.lshl, 1) := by decide +kernel
theorem dL_law__3280 : decode cL_law_ 3280 = .ok (.aload_n 0, 1) := by decide +kernel
theorem dL_law__3281 : decode cL_law_ 3281 = .ok (.iload 4, 2) := by decide +kernel
theorem dL_law__3283 : decode cL_law_ 3283 = .ok (.iconst 4, 1) := by decide +kernel
theorem dL_law__3284 : decode cL_law_ 3284 = .ok (.iadd, 1) := by decide +kernel
theorem dL_law__3285 : decode cL_law_ 3285 = .ok (.iaload, 1) := by decide +kernel
theorem dL_law__3286 : decode cL_law_ 3286 = .ok (.i2l, 1) := by decide +kernel
theorem dL_law__3287 : decode cL_law_ 3287 = .ok (.ldc2_w 329, 3) := by decide +kernel
theorem dL_law__3290 : decode cL_law_ 3290 = .ok (.land, 1) := by decide +kernel
theorem dL_law__3291 : decode cL_law_ 3291 = .ok (.lor, 1) := by decide +kernel
theorem dL_law__3292 : decode cL_law_ 3292 = .ok (.aload_n 3, 1) := by decide +kernel
theorem dL_law__3293 : decode cL_law_ 3293 = .ok (.invokestatic 331, 3) := by decide +kernel
theorem dL_law__3296 : decode cL_law_ 3296 = .ok (.istore 5, 2) := by decide +kernel
theorem dL_law__3298 : decode cL_law_ 3298 = .ok (.aload_n 2, 1) := by decide +kernel
theorem dL_law__3299 : decode cL_law_ 3299 = .ok (.aload_n 0, 1) := by decide +kernel
theorem dL_law__3300 : decode cL_law_ 3300 = .ok (.iload 4, 2) := by decide +kernel
theorem dL_law__3302 : decode cL_law_ 3302 = .ok (.iconst 1, 1) := by decide +kernel
theorem dL_law__3303 : decode cL_law_ 3303 = .ok (.iadd, 1) := by decide +kernel
theorem dL_law__3304 : decode cL_law_ 3304 = .ok (.iaload, 1) := by decide +kernel
theorem dL_law__3305 : decode cL_law_ 3305 = .ok (.aload_n 0, 1) := by decide +kernel
theorem dL_law__3306 : decode cL_law_ 3306 = .ok (.iload 4, 2) := by decide +kernel
theorem dL_law__3308 : decode cL_law_ 3308 = .ok (.iconst 2, 1) := by decide +kernel
theorem dL_law__3309 : decode cL_law_ 3309 = .ok (.iadd, 1) := by decide +kernel
theorem dL_law__3310 : decode cL_law_ 3310 = .ok (.iaload, 1) := by decide +kernel
theorem dL_law__3311 : decode cL_law_ 3311 = .ok (.aload_n 0, 1) := by decide +kernel
theorem dL_law__3312 : decode cL_law_ 3312 = .ok (.iload 4, 2) := by decide +kernel
theorem dL_law__3314 : decode cL_law_ 3314 = .ok (.iconst 3, 1) := by decide +kernel
theorem dL_law__3315 : decode cL_law_ 3315 = .ok (.iadd, 1) := by decide +kernel
theorem dL_law__3316 : decode cL_law_ 3316 = .ok (.iaload, 1) := by decide +kernel
theorem dL_law__3317 : decode cL_law_ 3317 = .ok (.i2l, 1) := by decide +kernel
theorem dL_law__3318 : decode cL_law_ 3318 = .ok (.bipush 32, 2) := by decide +kernel
theorem dL_law__3320 : decode cL_law_ 3320 = .ok (.lshl, 1) := by decide +kernel
theorem dL_law__3321 : decode cL_law_ 3321 = .ok (.aload_n 0, 1) := by decide +kernel
theorem dL_law__3322 : decode cL_law_ 3322 = .ok (.iload 4, 2) := by decide +kernel
theorem dL_law__3324 : decode cL_law_ 3324 = .ok (.iconst 4, 1) := by decide +kernel
theorem dL_law__3325 : decode cL_law_ 3325 = .ok (.iadd, 1) := by decide +kernel
theorem dL_law__3326 : decode cL_law_ 3326 = .ok (.iaload, 1) := by decide +kernel
theorem dL_law__3327 : decode cL_law_ 3327 = .ok (.i2l, 1) := by decide +kernel
theorem dL_law__3328 : decode cL_law_ 3328 = .ok (.ldc2_w 329, 3) := by decide +kernel
theorem dL_law__3331 : decode cL_law_ 3331 = .ok (.land, 1) := by decide +kernel
theorem dL_law__3332 : decode cL_law_ 3332 = .ok (.lor, 1) := by decide +kernel
theorem dL_law__3333 : decode cL_law_ 3333 = .ok (.invokevirtual 334, 3) := by decide +kernel
theorem dL_law__3336 : decode cL_law_ 3336 = .ok (.lstore 6, 2) := by decide +kernel
theorem dL_law__3338 : decode cL_law_ 3338 = .ok (.aload_n 2, 1) := by decide +kernel
theorem dL_law__3339 : decode cL_law_ 3339 = .ok (.invokevirtual 175, 3) := by decide +kernel
theorem dL_law__3342 : decode cL_law_ 3342 = .ok (.iload 5, 2) := by decide +kernel
theorem dL_law__3344 : decode cL_law_ 3344 = .ok (.if_icmp .eq 5, 3) := by decide +kernel
theorem dL_law__3347 : decode cL_law_ 3347 = .ok (.iconst 0, 1) := by decide +kernel
theorem dL_law__3349 : decode cL_law_ 3349 = .ok (.iload 5, 2) := by decide +kernel
theorem dL_law__3351 : decode cL_law_ 3351 = .ok (.ifCond .ne 14, 3) := by decide +kernel
theorem dL_law__3354 : decode cL_law_ 3354 = .ok (.aload_n 3, 1) := by decide +kernel
theorem dL_law__3355 : decode cL_law_ 3355 = .ok (.iconst 0, 1) := by decide +kernel
theorem dL_law__3356 : decode cL_law_ 3356 = .ok (.laload, 1) := by decide +kernel
theorem dL_law__3357 : decode cL_law_ 3357 = .ok (.lload 6, 2) := by decide +kernel
theorem dL_law__3359 : decode cL_law_ 3359 = .ok (.lcmp, 1) := by decide +kernel
theorem dL_law__3360 : decode cL_law_ 3360 = .ok (.ifCond .eq 5, 3) := by decide +kernel
theorem dL_law__3363 : decode cL_law_ 3363 = .ok (.iconst 0, 1) := by decide +kernel
theorem dL_law__3365 : decode cL_law_ 3365 = .ok (.goto 168, 3) := by decide +kernel
def m_L_case_45 (xs : Nat → Int) (L : Nat) (kc : Int → D9 → Option R9) (v4 : Int) (d : D9) : Option R9 := scr xs L (v4 + 1) (fun t1 => scr xs L (v4 + 2) (fun t2 => scr xs L (v4 + 3) (fun t3 => scr xs L (v4 + 4) (fun t4 => cz (m_L_write t1 t2 (orL (shlL (w32 t3) 32) (andL (w32 t4) 4294967295)) d) (fun r5 d6 => scr xs L (v4 + 1) (fun t7 => scr xs L (v4 + 2) (fun t8 => scr xs L (v4 + 3) (fun t9 => scr xs L (v4 + 4) (fun t10 => cz (m_X12_write_174 t7 t8 (orL (shlL (w32 t9) 32) (andL (w32 t10) 4294967295)) d6) (fun r11 d12 => cz (m_X12_thrown_174 d12) (fun r13 d14 => if w32 r13 = w32 r5 then if w32 r5 ≠ 0 then kc (v4 + 7) d14 else ld d14 194 1 0 (fun t15 => if w64 t15 = w64 r11 then kc (v4 + 7) d14 else none) else none)))))))))))
set_option maxRecDepth 100000 in
theorem s_L_case_45 {G : G9} {X : X9} (C : CX G X cL_law_ 8 RL [] zL9) (hNc : NC9 (xS X)) {b L : Nat} {xs : Nat → Int} (hSC : SCX G X b L xs) {k n : Nat} (hk : k + 12 ≤ 601024) (hn : n + 80 ≤ 7293034) (kc : Int → D9 → Option R9) (hkc : ∀ (v4 : Int) (d : D9), SS G X 8 (k + 12) (n + 80) 23 [(0, scf b), (1, rf G 0), (2, rf G 174), (3, rf G 194), (4, i9 v4)] [] d (kc v4 d)) : ∀ (v4 : Int) (d : D9), SS G X 8 k n 3257 [(0, scf b), (1, rf G 0), (2, rf G 174), (3, rf G 194), (4, i9 v4)] [] d (m_L_case_45 xs L kc v4 d) := by
  intro v4 d
  unfold m_L_case_45
  refine r_aload_n C 1 dL_law__3257 rfl rfl ?_
  refine r_aload_nC C 0 dL_law__3258 rfl rfl ?_
  refine r_iload C 4 dL_law__3259 rfl ?_
  refine r_iconst C dL_law__3261 ?_
  refine r_iadd C dL_law__3262 ?_
  refine r_scld C hSC dL_law__3263 (fun t1 => ?_)
  refine r_aload_nC C 0 dL_law__3264 rfl rfl ?_
  refine r_iload C 4 dL_law__3265 rfl ?_
  refine r_iconst C dL_law__3267 ?_
  refine r_iadd C dL_law__3268 ?_
  refine r_scld C hSC dL_law__3269 (fun t2 => ?_)
  refine r_aload_nC C 0 dL_law__3270 rfl rfl ?_
  refine r_iload C 4 dL_law__3271 rfl ?_
  refine r_iconst C dL_law__3273 ?_
  refine r_iadd C dL_law__3274 ?_
  refine r_scld C hSC dL_law__3275 (fun t3 => ?_)
  refine r_i2l C dL_law__3276 ?_
  refine r_bipush C dL_law__3277 rfl ?_
  refine r_lshl C dL_law__3279 ?_
  refine r_aload_nC C 0 dL_law__3280 rfl rfl ?_
  refine r_iload C 4 dL_law__3281 rfl ?_
  refine r_iconst C dL_law__3283 ?_
  refine r_iadd C dL_law__3284 ?_
  refine r_scld C hSC dL_law__3285 (fun t4 => ?_)
  refine r_i2l C dL_law__3286 ?_
  refine r_ldcL C dL_law__3287 kc_L_329 ?_
  refine r_land C dL_law__3290 ?_
  refine r_lor C dL_law__3291 ?_
  refine r_aload_n C 3 dL_law__3292 rfl rfl ?_
  refine r_callHL C hNc [rf G 194, l9 (orL (shlL (w32 t3) 32) (andL (w32 t4) 4294967295)), i9 t2, i9 t1, rf G 0] dL_law__3293 (t_L_write C.h1 C.h2 t1 t2 (orL (shlL (w32 t3) 32) (andL (w32 t4) 4294967295)) d) mwh_L_331 (by decide) (show k + 3 ≤ 601024 by omega) (show n + 18 ≤ 7293034 by omega) rfl rfl (Nat.le_of_ble_eq_true rfl) (fun r5 d6 => ?_)
  show SS G X 8 (k + 3) (n + 18) 3296 [(0, scf b), (1, rf G 0), (2, rf G 174), (3, rf G 194), (4, i9 v4)] [i9 r5] d6 _
  refine r_istore C [(5, i9 r5), (0, scf b), (1, rf G 0), (2, rf G 174), (3, rf G 194), (4, i9 v4)] dL_law__3296 (by decide) rfl ?_
  refine r_aload_n C 3 dL_law__3298 rfl rfl ?_
  refine r_aload_nC C 1 dL_law__3299 rfl rfl ?_
  refine r_iload C 5 dL_law__3300 rfl ?_
  refine r_iconst C dL_law__3302 ?_
  refine r_iadd C dL_law__3303 ?_
  refine r_scld C hSC dL_law__3304 (fun t7 => ?_)
  refine r_aload_nC C 1 dL_law__3305 rfl rfl ?_
  refine r_iload C 5 dL_law__3306 rfl ?_
  refine r_iconst C dL_law__3308 ?_
  refine r_iadd C dL_law__3309 ?_
  refine r_scld C hSC dL_law__3310 (fun t8 => ?_)
  refine r_aload_nC C 1 dL_law__3311 rfl rfl ?_
  refine r_iload C 5 dL_law__3312 rfl ?_
  refine r_iconst C dL_law__3314 ?_
  refine r_iadd C dL_law__3315 ?_
  refine r_scld C hSC dL_law__3316 (fun t9 => ?_)
  refine r_i2l C dL_law__3317 ?_
  refine r_bipush C dL_law__3318 rfl ?_
  refine r_lshl C dL_law__3320 ?_
  refine r_aload_nC C 1 dL_law__3321 rfl rfl ?_
  refine r_iload C 5 dL_law__3322 rfl ?_
  refine r_iconst C dL_law__3324 ?_
  refine r_iadd C dL_law__3325 ?_
  refine r_scld C hSC dL_law__3326 (fun t10 => ?_)
  refine r_i2l C dL_law__3327 ?_
  refine r_ldcL C dL_law__3328 kc_L_329 ?_
  refine r_land C dL_law__3331 ?_
  refine r_lor C dL_law__3332 ?_
  refine r_callVL C [l9 (orL (shlL (w32 t9) 32) (andL (w32 t10) 4294967295)), i9 t8, i9 t7, rf G 174] dL_law__3333 (t_X12_write_174 C.h1 C.h2 t7 t8 (orL (shlL (w32 t9) 32) (andL (w32 t10) 4294967295)) d6) mw_L_334 mv_X12_write la_174 ly_174 rfl (by decide) (show k + 3 + 0 ≤ 601024 by omega) (show n + 18 + 0 ≤ 7293034 by omega) rfl rfl (Nat.le_of_ble_eq_true rfl) (fun r11 d12 => ?_)
  show SS G X 8 (k + 3 + 0) (n + 18 + 0) 3336 [(5, i9 r5), (0, scf b), (1, rf G 0), (2, rf G 174), (3, rf G 194), (4, i9 v4)] [l9 r11] d12 _
  refine r_lstore C [(6, l9 r11), (5, i9 r5), (0, scf b), (1, rf G 0), (2, rf G 174), (3, rf G 194), (4, i9 v4)] dL_law__3336 (by decide) rfl ?_
  refine r_aload_n C 4 dL_law__3338 rfl rfl ?_
  refine r_callVL C [rf G 174] dL_law__3339 (t_X12_thrown_174 C.h1 C.h2 d12) mw_L_175 mv_X12_thrown la_174 ly_174 rfl (by decide) (show k + 3 + 0 + 0 ≤ 601024 by omega) (show n + 18 + 0 + 0 ≤ 7293034 by omega) rfl rfl (Nat.le_of_ble_eq_true rfl) (fun r13 d14 => ?_)
  show SS G X 8 (k + 3 + 0 + 0) (n + 18 + 0 + 0) 3342 [(6, l9 r11), (5, i9 r5), (0, scf b), (1, rf G 0), (2, rf G 174), (3, rf G 194), (4, i9 v4)] [i9 r13] d14 _
  refine r_iload C 1 dL_law__3342 rfl ?_
  refine r_icmp_eq C 3349 dL_law__3344 (by decide) (fun _ => ?_) (fun _ => ?_)
  · refine r_iload C 1 dL_law__3349 rfl ?_
    refine r_if_ne C (b := 0) 3365 dL_law__3351 (by decide) (fun _ => ?_) (fun _ => ?_)
    · refine r_goto C 3533 dL_law__3365 (by decide) ?_
      refine r_iinc C 6 [(4, i9 (v4 + 7)), (6, l9 r11), (5, i9 r5), (0, scf b), (1, rf G 0), (2, rf G 174), (3, rf G 194)] dL_law__3533 rfl (by decide) rfl ?_
      refine r_goto C 23 dL_law__3536 (by decide) ?_
      refine ss_wide (k' := k + 12) (n' := n + 80) (show k + 3 + 0 + 0 ≤ k + 12 by omega) (show n + 18 + 0 + 0 ≤ n + 80 by omega) ?_
      refine ss_ls [(0, scf b), (1, rf G 0), (2, rf G 174), (3, rf G 194), (4, i9 (v4 + 7))] [3, 4, 5, 6, 0] rfl ?_
      exact hkc (v4 + 7) d14
    · refine r_aload_n C 5 dL_law__3354 rfl rfl ?_
      refine r_iconst C dL_law__3355 ?_
      refine r_lald C dL_law__3356 la_194 ly_194 (fun t15 => ?_)
      refine r_lload C 0 dL_law__3357 rfl ?_
      refine r_lcmp_eq C 3365 dL_law__3359 dL_law__3360 (by decide) (fun _ => ?_) (fun _ => ?_)
      · refine r_goto C 3533 dL_law__3365 (by decide) ?_
        refine r_iinc C 6 [(4, i9 (v4 + 7)), (6, l9 r11), (5, i9 r5), (0, scf b), (1, rf G 0), (2, rf G 174), (3, rf G 194)] dL_law__3533 rfl (by decide) rfl ?_
        refine r_goto C 23 dL_law__3536 (by decide) ?_
        refine ss_wide (k' := k + 12) (n' := n + 80) (show k + 3 + 0 + 0 ≤ k + 12 by omega) (show n + 18 + 0 + 0 ≤ n + 80 by omega) ?_
        refine ss_ls [(0, scf b), (1, rf G 0), (2, rf G 174), (3, rf G 194), (4, i9 (v4 + 7))] [3, 4, 5, 6, 0] rfl ?_
        exact hkc (v4 + 7) d14
      · refine r_iconst C dL_law__3363 ?_
        exact ss_none
  · refine r_iconst C dL_law__3347 ?_
    exact ss_none
theorem dL_law__3368 : decode cL_law_ 3368 = .ok (.aload_n 1, 1) := by decide +kernel
theorem dL_law__3369 : decode cL_law_ 3369 = .ok (.aload_n 0, 1) := by decide +kernel
theorem dL_law__3370 : decode cL_law_ 3370 = .ok (.iload 4, 2) := by decide +kernel
theorem dL_law__3372 : decode cL_law_ 3372 = .ok (.iconst 1, 1) := by decide +kernel
theorem dL_law__3373 : decode cL_law_ 3373 = .ok (.iadd, 1) := by decide +kernel
theorem dL_law__3374 : decode cL_law_ 3374 = .ok (.iaload, 1) := by decide +kernel
theorem dL_law__3375 : decode cL_law_ 3375 = .ok (.aload_n 0, 1) := by decide +kernel
theorem dL_law__3376 : decode cL_law_ 3376 = .ok (.iload 4, 2) := by decide +kernel
theorem dL_law__3378 : decode cL_law_ 3378 = .ok (.iconst 2, 1) := by decide +kernel
theorem dL_law__3379 : decode cL_law_ 3379 = .ok (.iadd, 1) := by decide +kernel
theorem dL_law__3380 : decode cL_law_ 3380 = .ok (.iaload, 1) := by decide +kernel
theorem dL_law__3381 : decode cL_law_ 3381 = .ok (.aload_n 3, 1) := by decide +kernel
theorem dL_law__3382 : decode cL_law_ 3382 = .ok (.invokestatic 335, 3) := by decide +kernel
theorem dL_law__3385 : decode cL_law_ 3385 = .ok (.istore 5, 2) := by decide +kernel
theorem dL_law__3387 : decode cL_law_ 3387 = .ok (.aload_n 2, 1) := by decide +kernel
theorem dL_law__3388 : decode cL_law_ 3388 = .ok (.aload_n 0, 1) := by decide +kernel
theorem dL_law__3389 : decode cL_law_ 3389 = .ok (.iload 4, 2) := by decide +kernel
theorem dL_law__3391 : decode cL_law_ 3391 = .ok (.iconst 1, 1) := by decide +kernel
theorem dL_law__3392 : decode cL_law_ 3392 = .ok (.iadd, 1) := by decide +kernel
theorem dL_law__3393 : decode cL_law_ 3393 = .ok (.iaload, 1) := by decide +kernel
theorem dL_law__3394 : decode cL_law_ 3394 = .ok (.aload_n 0, 1) := by decide +kernel
theorem dL_law__3395 : decode cL_law_ 3395 = .ok (.iload 4, 2) := by decide +kernel
theorem dL_law__3397 : decode cL_law_ 3397 = .ok (.iconst 2, 1) := by decide +kernel
theorem dL_law__3398 : decode cL_law_ 3398 = .ok (.iadd, 1) := by decide +kernel
theorem dL_law__3399 : decode cL_law_ 3399 = .ok (.iaload, 1) := by decide +kernel
theorem dL_law__3400 : decode cL_law_ 3400 = .ok (.invokevirtual 337, 3) := by decide +kernel
theorem dL_law__3403 : decode cL_law_ 3403 = .ok (.istore 6, 2) := by decide +kernel
theorem dL_law__3405 : decode cL_law_ 3405 = .ok (.aload_n 2, 1) := by decide +kernel
theorem dL_law__3406 : decode cL_law_ 3406 = .ok (.invokevirtual 175, 3) := by decide +kernel
theorem dL_law__3409 : decode cL_law_ 3409 = .ok (.iload 5, 2) := by decide +kernel
theorem dL_law__3411 : decode cL_law_ 3411 = .ok (.if_icmp .eq 5, 3) := by decide +kernel
theorem dL_law__3414 : decode cL_law_ 3414 = .ok (.iconst 0, 1) := by decide +kernel
theorem dL_law__3416 : decode cL_law_ 3416 = .ok (.iload 5, 2) := by decide +kernel
theorem dL_law__3418 : decode cL_law_ 3418 = .ok (.ifCond .ne 15, 3) := by decide +kernel
theorem dL_law__3421 : decode cL_law_ 3421 = .ok (.aload_n 3, 1) := by decide +kernel
theorem dL_law__3422 : decode cL_law_ 3422 = .ok (.iconst 0, 1) := by decide +kernel
theorem dL_law__3423 : decode cL_law_ 3423 = .ok (.laload, 1) := by decide +kernel
theorem dL_law__3424 : decode cL_law_ 3424 = .ok (.iload 6, 2) := by decide +kernel
theorem dL_law__3426 : decode cL_law_ 3426 = .ok (.i2l, 1) := by decide +kernel
theorem dL_law__3427 : decode cL_law_ 3427 = .ok (.lcmp, 1) := by decide +kernel
theorem dL_law__3428 : decode cL_law_ 3428 = .ok (.ifCond .eq 5, 3) := by decide +kernel
theorem dL_law__3431 : decode cL_law_ 3431 = .ok (.iconst 0, 1) := by decide +kernel
theorem dL_law__3433 : decode cL_law_ 3433 = .ok (.goto 100, 3) := by decide +kernel
def m_L_case_46 (xs : Nat → Int) (L : Nat) (kc : Int → D9 → Option R9) (v4 : Int) (d : D9) : Option R9 := scr xs L (v4 + 1) (fun t1 => scr xs L (v4 + 2) (fun t2 => cz (m_L_pour t1 t2 d) (fun r3 d4 => scr xs L (v4 + 1) (fun t5 => scr xs L (v4 + 2) (fun t6 => cz (m_X12_pour_174 t5 t6 d4) (fun r7 d8 => cz (m_X12_thrown_174 d8) (fun r9 d10 => if w32 r9 = w32 r3 then if w32 r3 ≠ 0 then kc (v4 + 7) d10 else ld d10 194 1 0 (fun t11 => if w64 t11 = w64 (w32 r7) then kc (v4 + 7) d10 else none) else none)))))))
set_option maxRecDepth 100000 in
theorem s_L_case_46 {G : G9} {X : X9} (C : CX G X cL_law_ 8 RL [] zL9) (hNc : NC9 (xS X)) {b L : Nat} {xs : Nat → Int} (hSC : SCX G X b L xs) {k n : Nat} (hk : k + 12 ≤ 601024) (hn : n + 80 ≤ 7293034) (kc : Int → D9 → Option R9) (hkc : ∀ (v4 : Int) (d : D9), SS G X 8 (k + 12) (n + 80) 23 [(0, scf b), (1, rf G 0), (2, rf G 174), (3, rf G 194), (4, i9 v4)] [] d (kc v4 d)) : ∀ (v4 : Int) (d : D9), SS G X 8 k n 3368 [(0, scf b), (1, rf G 0), (2, rf G 174), (3, rf G 194), (4, i9 v4)] [] d (m_L_case_46 xs L kc v4 d) := by
  intro v4 d
  unfold m_L_case_46
  refine r_aload_n C 1 dL_law__3368 rfl rfl ?_
  refine r_aload_nC C 0 dL_law__3369 rfl rfl ?_
  refine r_iload C 4 dL_law__3370 rfl ?_
  refine r_iconst C dL_law__3372 ?_
  refine r_iadd C dL_law__3373 ?_
  refine r_scld C hSC dL_law__3374 (fun t1 => ?_)
  refine r_aload_nC C 0 dL_law__3375 rfl rfl ?_
  refine r_iload C 4 dL_law__3376 rfl ?_
  refine r_iconst C dL_law__3378 ?_
  refine r_iadd C dL_law__3379 ?_
  refine r_scld C hSC dL_law__3380 (fun t2 => ?_)
  refine r_aload_n C 3 dL_law__3381 rfl rfl ?_
  refine r_callHL C hNc [rf G 194, i9 t2, i9 t1, rf G 0] dL_law__3382 (t_L_pour C.h1 C.h2 t1 t2 d) mwh_L_335 (by decide) (show k + 4 ≤ 601024 by omega) (show n + 24 ≤ 7293034 by omega) rfl rfl (Nat.le_of_ble_eq_true rfl) (fun r3 d4 => ?_)
  show SS G X 8 (k + 4) (n + 24) 3385 [(0, scf b), (1, rf G 0), (2, rf G 174), (3, rf G 194), (4, i9 v4)] [i9 r3] d4 _
  refine r_istore C [(5, i9 r3), (0, scf b), (1, rf G 0), (2, rf G 174), (3, rf G 194), (4, i9 v4)] dL_law__3385 (by decide) rfl ?_
  refine r_aload_n C 3 dL_law__3387 rfl rfl ?_
  refine r_aload_nC C 1 dL_law__3388 rfl rfl ?_
  refine r_iload C 5 dL_law__3389 rfl ?_
  refine r_iconst C dL_law__3391 ?_
  refine r_iadd C dL_law__3392 ?_
  refine r_scld C hSC dL_law__3393 (fun t5 => ?_)
  refine r_aload_nC C 1 dL_law__3394 rfl rfl ?_
  refine r_iload C 5 dL_law__3395 rfl ?_
  refine r_iconst C dL_law__3397 ?_
  refine r_iadd C dL_law__3398 ?_
  refine r_scld C hSC dL_law__3399 (fun t6 => ?_)
  refine r_callVL C [i9 t6, i9 t5, rf G 174] dL_law__3400 (t_X12_pour_174 C.h1 C.h2 t5 t6 d4) mw_L_337 mv_X12_pour la_174 ly_174 rfl (by decide) (show k + 4 + 0 ≤ 601024 by omega) (show n + 24 + 0 ≤ 7293034 by omega) rfl rfl (Nat.le_of_ble_eq_true rfl) (fun r7 d8 => ?_)
  show SS G X 8 (k + 4 + 0) (n + 24 + 0) 3403 [(5, i9 r3), (0, scf b), (1, rf G 0), (2, rf G 174), (3, rf G 194), (4, i9 v4)] [i9 r7] d8 _
  refine r_istore C [(6, i9 r7), (5, i9 r3), (0, scf b), (1, rf G 0), (2, rf G 174), (3, rf G 194), (4, i9 v4)] dL_law__3403 (by decide) rfl ?_
  refine r_aload_n C 4 dL_law__3405 rfl rfl ?_
  refine r_callVL C [rf G 174] dL_law__3406 (t_X12_thrown_174 C.h1 C.h2 d8) mw_L_175 mv_X12_thrown la_174 ly_174 rfl (by decide) (show k + 4 + 0 + 0 ≤ 601024 by omega) (show n + 24 + 0 + 0 ≤ 7293034 by omega) rfl rfl (Nat.le_of_ble_eq_true rfl) (fun r9 d10 => ?_)
  show SS G X 8 (k + 4 + 0 + 0) (n + 24 + 0 + 0) 3409 [(6, i9 r7), (5, i9 r3), (0, scf b), (1, rf G 0), (2, rf G 174), (3, rf G 194), (4, i9 v4)] [i9 r9] d10 _
  refine r_iload C 1 dL_law__3409 rfl ?_
  refine r_icmp_eq C 3416 dL_law__3411 (by decide) (fun _ => ?_) (fun _ => ?_)
  · refine r_iload C 1 dL_law__3416 rfl ?_
    refine r_if_ne C (b := 0) 3433 dL_law__3418 (by decide) (fun _ => ?_) (fun _ => ?_)
    · refine r_goto C 3533 dL_law__3433 (by decide) ?_
      refine r_iinc C 6 [(4, i9 (v4 + 7)), (6, i9 r7), (5, i9 r3), (0, scf b), (1, rf G 0), (2, rf G 174), (3, rf G 194)] dL_law__3533 rfl (by decide) rfl ?_
      refine r_goto C 23 dL_law__3536 (by decide) ?_
      refine ss_wide (k' := k + 12) (n' := n + 80) (show k + 4 + 0 + 0 ≤ k + 12 by omega) (show n + 24 + 0 + 0 ≤ n + 80 by omega) ?_
      refine ss_ls [(0, scf b), (1, rf G 0), (2, rf G 174), (3, rf G 194), (4, i9 (v4 + 7))] [3, 4, 5, 6, 0] rfl ?_
      exact hkc (v4 + 7) d10
    · refine r_aload_n C 5 dL_law__3421 rfl rfl ?_
      refine r_iconst C dL_law__3422 ?_
      refine r_lald C dL_law__3423 la_194 ly_194 (fun t11 => ?_)
      refine r_iload C 0 dL_law__3424 rfl ?_
      refine r_i2l C dL_law__3426 ?_
      refine r_lcmp_eq C 3433 dL_law__3427 dL_law__3428 (by decide) (fun _ => ?_) (fun _ => ?_)
      · refine r_goto C 3533 dL_law__3433 (by decide) ?_
        refine r_iinc C 6 [(4, i9 (v4 + 7)), (6, i9 r7), (5, i9 r3), (0, scf b), (1, rf G 0), (2, rf G 174), (3, rf G 194)] dL_law__3533 rfl (by decide) rfl ?_
        refine r_goto C 23 dL_law__3536 (by decide) ?_
        refine ss_wide (k' := k + 12) (n' := n + 80) (show k + 4 + 0 + 0 ≤ k + 12 by omega) (show n + 24 + 0 + 0 ≤ n + 80 by omega) ?_
        refine ss_ls [(0, scf b), (1, rf G 0), (2, rf G 174), (3, rf G 194), (4, i9 (v4 + 7))] [3, 4, 5, 6, 0] rfl ?_
        exact hkc (v4 + 7) d10
      · refine r_iconst C dL_law__3431 ?_
        exact ss_none
  · refine r_iconst C dL_law__3414 ?_
    exact ss_none
theorem dL_law__3436 : decode cL_law_ 3436 = .ok (.aload_n 1, 1) := by decide +kernel
theorem dL_law__3437 : decode cL_law_ 3437 = .ok (.aload_n 0, 1) := by decide +kernel
theorem dL_law__3438 : decode cL_law_ 3438 = .ok (.iload 4, 2) := by decide +kernel
theorem dL_law__3440 : decode cL_law_ 3440 = .ok (.iconst 1, 1) := by decide +kernel
theorem dL_law__3441 : decode cL_law_ 3441 = .ok (.iadd, 1) := by decide +kernel
theorem dL_law__3442 : decode cL_law_ 3442 = .ok (.iaload, 1) := by decide +kernel
theorem dL_law__3443 : decode cL_law_ 3443 = .ok (.invokestatic 338, 3) := by decide +kernel
theorem dL_law__3446 : decode cL_law_ 3446 = .ok (.istore 5, 2) := by decide +kernel
theorem dL_law__3448 : decode cL_law_ 3448 = .ok (.aload_n 2, 1) := by decide +kernel
theorem dL_law__3449 : decode cL_law_ 3449 = .ok (.aload_n 0, 1) := by decide +kernel
theorem dL_law__3450 : decode cL_law_ 3450 = .ok (.iload 4, 2) := by decide +kernel
theorem dL_law__3452 : decode cL_law_ 3452 = .ok (.iconst 1, 1) := by decide +kernel
theorem dL_law__3453 : decode cL_law_ 3453 = .ok (.iadd, 1) := by decide +kernel
theorem dL_law__3454 : decode cL_law_ 3454 = .ok (.iaload, 1) := by decide +kernel
theorem dL_law__3455 : decode cL_law_ 3455 = .ok (.invokevirtual 340, 3) := by decide +kernel
theorem dL_law__3458 : decode cL_law_ 3458 = .ok (.aload_n 2, 1) := by decide +kernel
theorem dL_law__3459 : decode cL_law_ 3459 = .ok (.invokevirtual 175, 3) := by decide +kernel
theorem dL_law__3462 : decode cL_law_ 3462 = .ok (.iload 5, 2) := by decide +kernel
theorem dL_law__3464 : decode cL_law_ 3464 = .ok (.if_icmp .eq 5, 3) := by decide +kernel
theorem dL_law__3467 : decode cL_law_ 3467 = .ok (.iconst 0, 1) := by decide +kernel
theorem dL_law__3469 : decode cL_law_ 3469 = .ok (.goto 64, 3) := by decide +kernel
def m_L_case_47 (xs : Nat → Int) (L : Nat) (kc : Int → D9 → Option R9) (v4 : Int) (d : D9) : Option R9 := scr xs L (v4 + 1) (fun t1 => cz (m_L_image t1 d) (fun r2 d3 => scr xs L (v4 + 1) (fun t4 => cz (m_X12_image_174 t4 d3) (fun r5 d6 => cz (m_X12_thrown_174 d6) (fun r7 d8 => if w32 r7 = w32 r2 then kc (v4 + 7) d8 else none)))))
set_option maxRecDepth 100000 in
theorem s_L_case_47 {G : G9} {X : X9} (C : CX G X cL_law_ 8 RL [] zL9) (hNc : NC9 (xS X)) {b L : Nat} {xs : Nat → Int} (hSC : SCX G X b L xs) {k n : Nat} (hk : k + 12 ≤ 601024) (hn : n + 80 ≤ 7293034) (kc : Int → D9 → Option R9) (hkc : ∀ (v4 : Int) (d : D9), SS G X 8 (k + 12) (n + 80) 23 [(0, scf b), (1, rf G 0), (2, rf G 174), (3, rf G 194), (4, i9 v4)] [] d (kc v4 d)) : ∀ (v4 : Int) (d : D9), SS G X 8 k n 3436 [(0, scf b), (1, rf G 0), (2, rf G 174), (3, rf G 194), (4, i9 v4)] [] d (m_L_case_47 xs L kc v4 d) := by
  intro v4 d
  unfold m_L_case_47
  refine r_aload_n C 1 dL_law__3436 rfl rfl ?_
  refine r_aload_nC C 0 dL_law__3437 rfl rfl ?_
  refine r_iload C 4 dL_law__3438 rfl ?_
  refine r_iconst C dL_law__3440 ?_
  refine r_iadd C dL_law__3441 ?_
  refine r_scld C hSC dL_law__3442 (fun t1 => ?_)
  refine r_callHL C hNc [i9 t1, rf G 0] dL_law__3443 (t_L_image C.h1 C.h2 t1 d) mwh_L_338 (by decide) (show k + 1 ≤ 601024 by omega) (show n + 6 ≤ 7293034 by omega) rfl rfl (Nat.le_of_ble_eq_true rfl) (fun r2 d3 => ?_)
  show SS G X 8 (k + 1) (n + 6) 3446 [(0, scf b), (1, rf G 0), (2, rf G 174), (3, rf G 194), (4, i9 v4)] [i9 r2] d3 _
  refine r_istore C [(5, i9 r2), (0, scf b), (1, rf G 0), (2, rf G 174), (3, rf G 194), (4, i9 v4)] dL_law__3446 (by decide) rfl ?_
  refine r_aload_n C 3 dL_law__3448 rfl rfl ?_
  refine r_aload_nC C 1 dL_law__3449 rfl rfl ?_
  refine r_iload C 5 dL_law__3450 rfl ?_
  refine r_iconst C dL_law__3452 ?_
  refine r_iadd C dL_law__3453 ?_
  refine r_scld C hSC dL_law__3454 (fun t4 => ?_)
  refine r_callVL C [i9 t4, rf G 174] dL_law__3455 (t_X12_image_174 C.h1 C.h2 t4 d3) mw_L_340 mv_X12_image la_174 ly_174 rfl (by decide) (show k + 1 + 0 ≤ 601024 by omega) (show n + 6 + 0 ≤ 7293034 by omega) rfl rfl (Nat.le_of_ble_eq_true rfl) (fun r5 d6 => ?_)
  show SS G X 8 (k + 1 + 0) (n + 6 + 0) 3458 [(5, i9 r2), (0, scf b), (1, rf G 0), (2, rf G 174), (3, rf G 194), (4, i9 v4)] [] d6 _
  refine r_aload_n C 3 dL_law__3458 rfl rfl ?_
  refine r_callVL C [rf G 174] dL_law__3459 (t_X12_thrown_174 C.h1 C.h2 d6) mw_L_175 mv_X12_thrown la_174 ly_174 rfl (by decide) (show k + 1 + 0 + 0 ≤ 601024 by omega) (show n + 6 + 0 + 0 ≤ 7293034 by omega) rfl rfl (Nat.le_of_ble_eq_true rfl) (fun r7 d8 => ?_)
  show SS G X 8 (k + 1 + 0 + 0) (n + 6 + 0 + 0) 3462 [(5, i9 r2), (0, scf b), (1, rf G 0), (2, rf G 174), (3, rf G 194), (4, i9 v4)] [i9 r7] d8 _
  refine r_iload C 0 dL_law__3462 rfl ?_
  refine r_icmp_eq C 3469 dL_law__3464 (by decide) (fun _ => ?_) (fun _ => ?_)
  · refine r_goto C 3533 dL_law__3469 (by decide) ?_
    refine r_iinc C 5 [(4, i9 (v4 + 7)), (5, i9 r2), (0, scf b), (1, rf G 0), (2, rf G 174), (3, rf G 194)] dL_law__3533 rfl (by decide) rfl ?_
    refine r_goto C 23 dL_law__3536 (by decide) ?_
    refine ss_wide (k' := k + 12) (n' := n + 80) (show k + 1 + 0 + 0 ≤ k + 12 by omega) (show n + 6 + 0 + 0 ≤ n + 80 by omega) ?_
    refine ss_ls [(0, scf b), (1, rf G 0), (2, rf G 174), (3, rf G 194), (4, i9 (v4 + 7))] [2, 3, 4, 5, 0] rfl ?_
    exact hkc (v4 + 7) d8
  · refine r_iconst C dL_law__3467 ?_
    exact ss_none
theorem dL_law__3472 : decode cL_law_ 3472 = .ok (.aload_n 1, 1) := by decide +kernel
theorem dL_law__3473 : decode cL_law_ 3473 = .ok (.aload_n 0, 1) := by decide +kernel
theorem dL_law__3474 : decode cL_law_ 3474 = .ok (.iload 4, 2) := by decide +kernel
theorem dL_law__3476 : decode cL_law_ 3476 = .ok (.iconst 1, 1) := by decide +kernel
theorem dL_law__3477 : decode cL_law_ 3477 = .ok (.iadd, 1) := by decide +kernel
theorem dL_law__3478 : decode cL_law_ 3478 = .ok (.iaload, 1) := by decide +kernel
theorem dL_law__3479 : decode cL_law_ 3479 = .ok (.invokestatic 341, 3) := by decide +kernel
theorem dL_law__3482 : decode cL_law_ 3482 = .ok (.istore 5, 2) := by decide +kernel
theorem dL_law__3484 : decode cL_law_ 3484 = .ok (.aload_n 2, 1) := by decide +kernel
theorem dL_law__3485 : decode cL_law_ 3485 = .ok (.aload_n 0, 1) := by decide +kernel
theorem dL_law__3486 : decode cL_law_ 3486 = .ok (.iload 4, 2) := by decide +kernel
theorem dL_law__3488 : decode cL_law_ 3488 = .ok (.iconst 1, 1) := by decide +kernel
theorem dL_law__3489 : decode cL_law_ 3489 = .ok (.iadd, 1) := by decide +kernel
theorem dL_law__3490 : decode cL_law_ 3490 = .ok (.iaload, 1) := by decide +kernel
theorem dL_law__3491 : decode cL_law_ 3491 = .ok (.invokevirtual 343, 3) := by decide +kernel
theorem dL_law__3494 : decode cL_law_ 3494 = .ok (.aload_n 2, 1) := by decide +kernel
theorem dL_law__3495 : decode cL_law_ 3495 = .ok (.invokevirtual 175, 3) := by decide +kernel
theorem dL_law__3498 : decode cL_law_ 3498 = .ok (.iload 5, 2) := by decide +kernel
theorem dL_law__3500 : decode cL_law_ 3500 = .ok (.if_icmp .eq 5, 3) := by decide +kernel
theorem dL_law__3503 : decode cL_law_ 3503 = .ok (.iconst 0, 1) := by decide +kernel
theorem dL_law__3505 : decode cL_law_ 3505 = .ok (.goto 28, 3) := by decide +kernel
def m_L_case_48 (xs : Nat → Int) (L : Nat) (kc : Int → D9 → Option R9) (v4 : Int) (d : D9) : Option R9 := scr xs L (v4 + 1) (fun t1 => cz (m_L_restore t1 d) (fun r2 d3 => scr xs L (v4 + 1) (fun t4 => cz (m_X12_restore_174 t4 d3) (fun r5 d6 => cz (m_X12_thrown_174 d6) (fun r7 d8 => if w32 r7 = w32 r2 then kc (v4 + 7) d8 else none)))))
set_option maxRecDepth 100000 in
theorem s_L_case_48 {G : G9} {X : X9} (C : CX G X cL_law_ 8 RL [] zL9) (hNc : NC9 (xS X)) {b L : Nat} {xs : Nat → Int} (hSC : SCX G X b L xs) {k n : Nat} (hk : k + 12 ≤ 601024) (hn : n + 80 ≤ 7293034) (kc : Int → D9 → Option R9) (hkc : ∀ (v4 : Int) (d : D9), SS G X 8 (k + 12) (n + 80) 23 [(0, scf b), (1, rf G 0), (2, rf G 174), (3, rf G 194), (4, i9 v4)] [] d (kc v4 d)) : ∀ (v4 : Int) (d : D9), SS G X 8 k n 3472 [(0, scf b), (1, rf G 0), (2, rf G 174), (3, rf G 194), (4, i9 v4)] [] d (m_L_case_48 xs L kc v4 d) := by
  intro v4 d
  unfold m_L_case_48
  refine r_aload_n C 1 dL_law__3472 rfl rfl ?_
  refine r_aload_nC C 0 dL_law__3473 rfl rfl ?_
  refine r_iload C 4 dL_law__3474 rfl ?_
  refine r_iconst C dL_law__3476 ?_
  refine r_iadd C dL_law__3477 ?_
  refine r_scld C hSC dL_law__3478 (fun t1 => ?_)
  refine r_callHL C hNc [i9 t1, rf G 0] dL_law__3479 (t_L_restore C.h1 C.h2 t1 d) mwh_L_341 (by decide) (show k + 2 ≤ 601024 by omega) (show n + 12 ≤ 7293034 by omega) rfl rfl (Nat.le_of_ble_eq_true rfl) (fun r2 d3 => ?_)
  show SS G X 8 (k + 2) (n + 12) 3482 [(0, scf b), (1, rf G 0), (2, rf G 174), (3, rf G 194), (4, i9 v4)] [i9 r2] d3 _
  refine r_istore C [(5, i9 r2), (0, scf b), (1, rf G 0), (2, rf G 174), (3, rf G 194), (4, i9 v4)] dL_law__3482 (by decide) rfl ?_
  refine r_aload_n C 3 dL_law__3484 rfl rfl ?_
  refine r_aload_nC C 1 dL_law__3485 rfl rfl ?_
  refine r_iload C 5 dL_law__3486 rfl ?_
  refine r_iconst C dL_law__3488 ?_
  refine r_iadd C dL_law__3489 ?_
  refine r_scld C hSC dL_law__3490 (fun t4 => ?_)
  refine r_callVL C [i9 t4, rf G 174] dL_law__3491 (t_X12_restore_174 C.h1 C.h2 t4 d3) mw_L_343 mv_X12_restore la_174 ly_174 rfl (by decide) (show k + 2 + 0 ≤ 601024 by omega) (show n + 12 + 0 ≤ 7293034 by omega) rfl rfl (Nat.le_of_ble_eq_true rfl) (fun r5 d6 => ?_)
  show SS G X 8 (k + 2 + 0) (n + 12 + 0) 3494 [(5, i9 r2), (0, scf b), (1, rf G 0), (2, rf G 174), (3, rf G 194), (4, i9 v4)] [] d6 _
  refine r_aload_n C 3 dL_law__3494 rfl rfl ?_
  refine r_callVL C [rf G 174] dL_law__3495 (t_X12_thrown_174 C.h1 C.h2 d6) mw_L_175 mv_X12_thrown la_174 ly_174 rfl (by decide) (show k + 2 + 0 + 0 ≤ 601024 by omega) (show n + 12 + 0 + 0 ≤ 7293034 by omega) rfl rfl (Nat.le_of_ble_eq_true rfl) (fun r7 d8 => ?_)
  show SS G X 8 (k + 2 + 0 + 0) (n + 12 + 0 + 0) 3498 [(5, i9 r2), (0, scf b), (1, rf G 0), (2, rf G 174), (3, rf G 194), (4, i9 v4)] [i9 r7] d8 _
  refine r_iload C 0 dL_law__3498 rfl ?_
  refine r_icmp_eq C 3505 dL_law__3500 (by decide) (fun _ => ?_) (fun _ => ?_)
  · refine r_goto C 3533 dL_law__3505 (by decide) ?_
    refine r_iinc C 5 [(4, i9 (v4 + 7)), (5, i9 r2), (0, scf b), (1, rf G 0), (2, rf G 174), (3, rf G 194)] dL_law__3533 rfl (by decide) rfl ?_
    refine r_goto C 23 dL_law__3536 (by decide) ?_
    refine ss_wide (k' := k + 12) (n' := n + 80) (show k + 2 + 0 + 0 ≤ k + 12 by omega) (show n + 12 + 0 + 0 ≤ n + 80 by omega) ?_
    refine ss_ls [(0, scf b), (1, rf G 0), (2, rf G 174), (3, rf G 194), (4, i9 (v4 + 7))] [2, 3, 4, 5, 0] rfl ?_
    exact hkc (v4 + 7) d8
  · refine r_iconst C dL_law__3503 ?_
    exact ss_none
theorem dL_law__3508 : decode cL_law_ 3508 = .ok (.aload_n 1, 1) := by decide +kernel
theorem dL_law__3509 : decode cL_law_ 3509 = .ok (.aload_n 0, 1) := by decide +kernel
theorem dL_law__3510 : decode cL_law_ 3510 = .ok (.iload 4, 2) := by decide +kernel
theorem dL_law__3512 : decode cL_law_ 3512 = .ok (.iconst 1, 1) := by decide +kernel
theorem dL_law__3513 : decode cL_law_ 3513 = .ok (.iadd, 1) := by decide +kernel
theorem dL_law__3514 : decode cL_law_ 3514 = .ok (.iaload, 1) := by decide +kernel
theorem dL_law__3515 : decode cL_law_ 3515 = .ok (.invokevirtual 344, 3) := by decide +kernel
theorem dL_law__3518 : decode cL_law_ 3518 = .ok (.aload_n 2, 1) := by decide +kernel
theorem dL_law__3519 : decode cL_law_ 3519 = .ok (.aload_n 0, 1) := by decide +kernel
theorem dL_law__3520 : decode cL_law_ 3520 = .ok (.iload 4, 2) := by decide +kernel
theorem dL_law__3522 : decode cL_law_ 3522 = .ok (.iconst 1, 1) := by decide +kernel
theorem dL_law__3523 : decode cL_law_ 3523 = .ok (.iadd, 1) := by decide +kernel
theorem dL_law__3524 : decode cL_law_ 3524 = .ok (.iaload, 1) := by decide +kernel
theorem dL_law__3525 : decode cL_law_ 3525 = .ok (.invokevirtual 347, 3) := by decide +kernel
theorem dL_law__3528 : decode cL_law_ 3528 = .ok (.if_icmp .eq 5, 3) := by decide +kernel
theorem dL_law__3531 : decode cL_law_ 3531 = .ok (.iconst 0, 1) := by decide +kernel
def m_L_case_49 (xs : Nat → Int) (L : Nat) (kc : Int → D9 → Option R9) (v4 : Int) (d : D9) : Option R9 := scr xs L (v4 + 1) (fun t1 => cz (m_X11_count_0 t1 d) (fun r2 d3 => scr xs L (v4 + 1) (fun t4 => cz (m_X12_count_174 t4 d3) (fun r5 d6 => if w32 r2 = w32 r5 then kc (v4 + 7) d6 else none))))
set_option maxRecDepth 100000 in
theorem s_L_case_49 {G : G9} {X : X9} (C : CX G X cL_law_ 8 RL [] zL9) (hNc : NC9 (xS X)) {b L : Nat} {xs : Nat → Int} (hSC : SCX G X b L xs) {k n : Nat} (hk : k + 12 ≤ 601024) (hn : n + 80 ≤ 7293034) (kc : Int → D9 → Option R9) (hkc : ∀ (v4 : Int) (d : D9), SS G X 8 (k + 12) (n + 80) 23 [(0, scf b), (1, rf G 0), (2, rf G 174), (3, rf G 194), (4, i9 v4)] [] d (kc v4 d)) : ∀ (v4 : Int) (d : D9), SS G X 8 k n 3508 [(0, scf b), (1, rf G 0), (2, rf G 174), (3, rf G 194), (4, i9 v4)] [] d (m_L_case_49 xs L kc v4 d) := by
  intro v4 d
  unfold m_L_case_49
  refine r_aload_n C 1 dL_law__3508 rfl rfl ?_
  refine r_aload_nC C 0 dL_law__3509 rfl rfl ?_
  refine r_iload C 4 dL_law__3510 rfl ?_
  refine r_iconst C dL_law__3512 ?_
  refine r_iadd C dL_law__3513 ?_
  refine r_scld C hSC dL_law__3514 (fun t1 => ?_)
  refine r_callVL C [i9 t1, rf G 0] dL_law__3515 (t_X11_count_0 C.h1 C.h2 t1 d) mw_L_344 mv_X11_count la_0 ly_0 rfl (by decide) (show k + 0 ≤ 601024 by omega) (show n + 0 ≤ 7293034 by omega) rfl rfl (Nat.le_of_ble_eq_true rfl) (fun r2 d3 => ?_)
  show SS G X 8 (k + 0) (n + 0) 3518 [(0, scf b), (1, rf G 0), (2, rf G 174), (3, rf G 194), (4, i9 v4)] [i9 r2] d3 _
  refine r_aload_n C 2 dL_law__3518 rfl rfl ?_
  refine r_aload_nC C 0 dL_law__3519 rfl rfl ?_
  refine r_iload C 4 dL_law__3520 rfl ?_
  refine r_iconst C dL_law__3522 ?_
  refine r_iadd C dL_law__3523 ?_
  refine r_scld C hSC dL_law__3524 (fun t4 => ?_)
  refine r_callVL C [i9 t4, rf G 174, i9 r2] dL_law__3525 (t_X12_count_174 C.h1 C.h2 t4 d3) mw_L_347 mv_X12_count la_174 ly_174 rfl (by decide) (show k + 0 + 0 ≤ 601024 by omega) (show n + 0 + 0 ≤ 7293034 by omega) rfl rfl (Nat.le_of_ble_eq_true rfl) (fun r5 d6 => ?_)
  show SS G X 8 (k + 0 + 0) (n + 0 + 0) 3528 [(0, scf b), (1, rf G 0), (2, rf G 174), (3, rf G 194), (4, i9 v4)] [i9 r5, i9 r2] d6 _
  refine r_icmp_eq C 3533 dL_law__3528 (by decide) (fun _ => ?_) (fun _ => ?_)
  · refine r_iinc C 4 [(4, i9 (v4 + 7)), (0, scf b), (1, rf G 0), (2, rf G 174), (3, rf G 194)] dL_law__3533 rfl (by decide) rfl ?_
    refine r_goto C 23 dL_law__3536 (by decide) ?_
    refine ss_wide (k' := k + 12) (n' := n + 80) (show k + 0 + 0 ≤ k + 12 by omega) (show n + 0 + 0 ≤ n + 80 by omega) ?_
    refine ss_ls [(0, scf b), (1, rf G 0), (2, rf G 174), (3, rf G 194), (4, i9 (v4 + 7))] [1, 2, 3, 4, 0] rfl ?_
    exact hkc (v4 + 7) d6
  · refine r_iconst C dL_law__3531 ?_
    exact ss_none
theorem dL_law__23 : decode cL_law_ 23 = .ok (.iload 4, 2) := by decide +kernel
theorem dL_law__25 : decode cL_law_ 25 = .ok (.aload_n 0, 1) := by decide +kernel
theorem dL_law__26 : decode cL_law_ 26 = .ok (.arraylength, 1) := by decide +kernel
theorem dL_law__27 : decode cL_law_ 27 = .ok (.bipush 7, 2) := by decide +kernel
theorem dL_law__29 : decode cL_law_ 29 = .ok (.isub, 1) := by decide +kernel
theorem dL_law__30 : decode cL_law_ 30 = .ok (.if_icmp .gt 3509, 3) := by decide +kernel
theorem dL_law__33 : decode cL_law_ 33 = .ok (.aload_n 0, 1) := by decide +kernel
theorem dL_law__34 : decode cL_law_ 34 = .ok (.iload 4, 2) := by decide +kernel
theorem dL_law__36 : decode cL_law_ 36 = .ok (.iaload, 1) := by decide +kernel
theorem dL_law__37 : decode cL_law_ 37 = .ok (.bipush 63, 2) := by decide +kernel
theorem dL_law__39 : decode cL_law_ 39 = .ok (.iand, 1) := by decide +kernel
theorem dL_law__40 : decode cL_law_ 40 = .ok (.tableswitch 3493 0 49 #[216, 296, 394, 469, 561, 653, 721, 794, 850, 906, 962, 987, 1079, 1175, 1231, 1287, 1323, 1441, 1545, 1629, 1654, 1717, 1792, 1848, 1896, 1932, 1946, 1960, 2078, 2146, 2221, 2296, 2364, 2420, 2495, 2586, 2654, 2729, 2797, 2853, 2909, 2977, 3045, 3101, 3157, 3217, 3328, 3396, 3432, 3468], 216) := by decide +kernel
theorem dL_law__3539 : decode cL_law_ 3539 = .ok (.iconst 1, 1) := by decide +kernel
theorem dL_law__3540 : decode cL_law_ 3540 = .ok (.ireturn, 1) := by decide +kernel
def b_L_law (xs : Nat → Int) (L : Nat) (kc : Int → D9 → Option R9) (v4 : Int) (d : D9) : Option R9 := if w32 (L - 7) < w32 v4 then rt 1 d else scr xs L v4 (fun t1 => if w32 (and9 t1 63) = 0 then m_L_case_0 xs L kc v4 d else if w32 (and9 t1 63) = 1 then m_L_case_1 xs L kc v4 d else if w32 (and9 t1 63) = 2 then m_L_case_2 xs L kc v4 d else if w32 (and9 t1 63) = 3 then m_L_case_3 xs L kc v4 d else if w32 (and9 t1 63) = 4 then m_L_case_4 xs L kc v4 d else if w32 (and9 t1 63) = 5 then m_L_case_5 xs L kc v4 d else if w32 (and9 t1 63) = 6 then m_L_case_6 xs L kc v4 d else if w32 (and9 t1 63) = 7 then m_L_case_7 xs L kc v4 d else if w32 (and9 t1 63) = 8 then m_L_case_8 xs L kc v4 d else if w32 (and9 t1 63) = 9 then m_L_case_9 xs L kc v4 d else if w32 (and9 t1 63) = 10 then m_L_case_10 xs L kc v4 d else if w32 (and9 t1 63) = 11 then m_L_case_11 xs L kc v4 d else if w32 (and9 t1 63) = 12 then m_L_case_12 xs L kc v4 d else if w32 (and9 t1 63) = 13 then m_L_case_13 xs L kc v4 d else if w32 (and9 t1 63) = 14 then m_L_case_14 xs L kc v4 d else if w32 (and9 t1 63) = 15 then m_L_case_15 xs L kc v4 d else if w32 (and9 t1 63) = 16 then m_L_case_16 xs L kc v4 d else if w32 (and9 t1 63) = 17 then m_L_case_17 xs L kc v4 d else if w32 (and9 t1 63) = 18 then m_L_case_18 xs L kc v4 d else if w32 (and9 t1 63) = 19 then m_L_case_19 xs L kc v4 d else if w32 (and9 t1 63) = 20 then m_L_case_20 xs L kc v4 d else if w32 (and9 t1 63) = 21 then m_L_case_21 xs L kc v4 d else if w32 (and9 t1 63) = 22 then m_L_case_22 xs L kc v4 d else if w32 (and9 t1 63) = 23 then m_L_case_23 xs L kc v4 d else if w32 (and9 t1 63) = 24 then m_L_case_24 xs L kc v4 d else if w32 (and9 t1 63) = 25 then m_L_case_25 xs L kc v4 d else if w32 (and9 t1 63) = 26 then m_L_case_26 xs L kc v4 d else if w32 (and9 t1 63) = 27 then m_L_case_27 xs L kc v4 d else if w32 (and9 t1 63) = 28 then m_L_case_28 xs L kc v4 d else if w32 (and9 t1 63) = 29 then m_L_case_29 xs L kc v4 d else if w32 (and9 t1 63) = 30 then m_L_case_30 xs L kc v4 d else if w32 (and9 t1 63) = 31 then m_L_case_31 xs L kc v4 d else if w32 (and9 t1 63) = 32 then m_L_case_32 xs L kc v4 d else if w32 (and9 t1 63) = 33 then m_L_case_33 xs L kc v4 d else if w32 (and9 t1 63) = 34 then m_L_case_34 xs L kc v4 d else if w32 (and9 t1 63) = 35 then m_L_case_35 xs L kc v4 d else if w32 (and9 t1 63) = 36 then m_L_case_36 xs L kc v4 d else if w32 (and9 t1 63) = 37 then m_L_case_37 xs L kc v4 d else if w32 (and9 t1 63) = 38 then m_L_case_38 xs L kc v4 d else if w32 (and9 t1 63) = 39 then m_L_case_39 xs L kc v4 d else if w32 (and9 t1 63) = 40 then m_L_case_40 xs L kc v4 d else if w32 (and9 t1 63) = 41 then m_L_case_41 xs L kc v4 d else if w32 (and9 t1 63) = 42 then m_L_case_42 xs L kc v4 d else if w32 (and9 t1 63) = 43 then m_L_case_43 xs L kc v4 d else if w32 (and9 t1 63) = 44 then m_L_case_44 xs L kc v4 d else if w32 (and9 t1 63) = 45 then m_L_case_45 xs L kc v4 d else if w32 (and9 t1 63) = 46 then m_L_case_46 xs L kc v4 d else if w32 (and9 t1 63) = 47 then m_L_case_47 xs L kc v4 d else if w32 (and9 t1 63) = 48 then m_L_case_48 xs L kc v4 d else if w32 (and9 t1 63) = 49 then m_L_case_49 xs L kc v4 d else kc (v4 + 7) d)
set_option maxRecDepth 100000 in
theorem sb_L_law {G : G9} {X : X9} (C : CX G X cL_law_ 8 RL [] zL9) (hNc : NC9 (xS X)) {b L : Nat} {xs : Nat → Int} (hSC : SCX G X b L xs) {k n : Nat} (hk : k + 12 ≤ 601024) (hn : n + 80 ≤ 7293034) (hLR : LR9 G X b) (kc : Int → D9 → Option R9) (hkc : ∀ (v4 : Int) (d : D9), SS G X 8 (k + 12) (n + 80) 23 [(0, scf b), (1, rf G 0), (2, rf G 174), (3, rf G 194), (4, i9 v4)] [] d (kc v4 d)) : ∀ (v4 : Int) (d : D9), SS G X 8 k n 23 [(0, scf b), (1, rf G 0), (2, rf G 174), (3, rf G 194), (4, i9 v4)] [] d (b_L_law xs L kc v4 d) := by
  intro v4 d
  unfold b_L_law
  refine r_iload C 4 dL_law__23 rfl ?_
  refine r_aload_nC C 0 dL_law__25 rfl rfl ?_
  refine r_sclen C hSC dL_law__26 ?_
  refine r_bipush C dL_law__27 rfl ?_
  refine r_isub C dL_law__29 ?_
  refine r_icmp_gt C 3539 dL_law__30 (by decide) (fun _ => ?_) (fun _ => ?_)
  · refine r_iconst C dL_law__3539 ?_
    exact r_lawret C hLR dL_law__3540 (show k ≤ 601024 by omega) (show n ≤ 7293034 by omega)
  · refine r_aload_nC C 0 dL_law__33 rfl rfl ?_
    refine r_iload C 4 dL_law__34 rfl ?_
    refine r_scld C hSC dL_law__36 (fun t1 => ?_)
    refine r_bipush C dL_law__37 rfl ?_
    refine r_iand C dL_law__39 ?_
    refine r_tsw C 0 0 256 dL_law__40 (by decide) rfl (by decide) (fun _ => s_L_case_0 C hNc hSC hk hn _ hkc v4 d) (fun h2 => ?_)
    refine r_tsw C 1 1 336 dL_law__40 (by decide) rfl (by decide) (fun _ => s_L_case_1 C hNc hSC hk hn _ hkc v4 d) (fun h3 => ?_)
    refine r_tsw C 2 2 434 dL_law__40 (by decide) rfl (by decide) (fun _ => s_L_case_2 C hNc hSC hk hn _ hkc v4 d) (fun h4 => ?_)
    refine r_tsw C 3 3 509 dL_law__40 (by decide) rfl (by decide) (fun _ => s_L_case_3 C hNc hSC hk hn _ hkc v4 d) (fun h5 => ?_)
    refine r_tsw C 4 4 601 dL_law__40 (by decide) rfl (by decide) (fun _ => s_L_case_4 C hNc hSC hk hn _ hkc v4 d) (fun h6 => ?_)
    refine r_tsw C 5 5 693 dL_law__40 (by decide) rfl (by decide) (fun _ => s_L_case_5 C hNc hSC hk hn _ hkc v4 d) (fun h7 => ?_)
    refine r_tsw C 6 6 761 dL_law__40 (by decide) rfl (by decide) (fun _ => s_L_case_6 C hNc hSC hk hn _ hkc v4 d) (fun h8 => ?_)
    refine r_tsw C 7 7 834 dL_law__40 (by decide) rfl (by decide) (fun _ => s_L_case_7 C hNc hSC hk hn _ hkc v4 d) (fun h9 => ?_)
    refine r_tsw C 8 8 890 dL_law__40 (by decide) rfl (by decide) (fun _ => s_L_case_8 C hNc hSC hk hn _ hkc v4 d) (fun h10 => ?_)
    refine r_tsw C 9 9 946 dL_law__40 (by decide) rfl (by decide) (fun _ => s_L_case_9 C hNc hSC hk hn _ hkc v4 d) (fun h11 => ?_)
    refine r_tsw C 10 10 1002 dL_law__40 (by decide) rfl (by decide) (fun _ => s_L_case_10 C hNc hSC hk hn _ hkc v4 d) (fun h12 => ?_)
    refine r_tsw C 11 11 1027 dL_law__40 (by decide) rfl (by decide) (fun _ => s_L_case_11 C hNc hSC hk hn _ hkc v4 d) (fun h13 => ?_)
    refine r_tsw C 12 12 1119 dL_law__40 (by decide) rfl (by decide) (fun _ => s_L_case_12 C hNc hSC hk hn _ hkc v4 d) (fun h14 => ?_)
    refine r_tsw C 13 13 1215 dL_law__40 (by decide) rfl (by decide) (fun _ => s_L_case_13 C hNc hSC hk hn _ hkc v4 d) (fun h15 => ?_)
    refine r_tsw C 14 14 1271 dL_law__40 (by decide) rfl (by decide) (fun _ => s_L_case_14 C hNc hSC hk hn _ hkc v4 d) (fun h16 => ?_)
    refine r_tsw C 15 15 1327 dL_law__40 (by decide) rfl (by decide) (fun _ => s_L_case_15 C hNc hSC hk hn _ hkc v4 d) (fun h17 => ?_)
    refine r_tsw C 16 16 1363 dL_law__40 (by decide) rfl (by decide) (fun _ => s_L_case_16 C hNc hSC hk hn _ hkc v4 d) (fun h18 => ?_)
    refine r_tsw C 17 17 1481 dL_law__40 (by decide) rfl (by decide) (fun _ => s_L_case_17 C hNc hSC hk hn _ hkc v4 d) (fun h19 => ?_)
    refine r_tsw C 18 18 1585 dL_law__40 (by decide) rfl (by decide) (fun _ => s_L_case_18 C hNc hSC hk hn _ hkc v4 d) (fun h20 => ?_)
    refine r_tsw C 19 19 1669 dL_law__40 (by decide) rfl (by decide) (fun _ => s_L_case_19 C hNc hSC hk hn _ hkc v4 d) (fun h21 => ?_)
    refine r_tsw C 20 20 1694 dL_law__40 (by decide) rfl (by decide) (fun _ => s_L_case_20 C hNc hSC hk hn _ hkc v4 d) (fun h22 => ?_)
    refine r_tsw C 21 21 1757 dL_law__40 (by decide) rfl (by decide) (fun _ => s_L_case_21 C hNc hSC hk hn _ hkc v4 d) (fun h23 => ?_)
    refine r_tsw C 22 22 1832 dL_law__40 (by decide) rfl (by decide) (fun _ => s_L_case_22 C hNc hSC hk hn _ hkc v4 d) (fun h24 => ?_)
    refine r_tsw C 23 23 1888 dL_law__40 (by decide) rfl (by decide) (fun _ => s_L_case_23 C hNc hSC hk hn _ hkc v4 d) (fun h25 => ?_)
    refine r_tsw C 24 24 1936 dL_law__40 (by decide) rfl (by decide) (fun _ => s_L_case_24 C hNc hSC hk hn _ hkc v4 d) (fun h26 => ?_)
    refine r_tsw C 25 25 1972 dL_law__40 (by decide) rfl (by decide) (fun _ => s_L_case_25 C hNc hSC hk hn _ hkc v4 d) (fun h27 => ?_)
    refine r_tsw C 26 26 1986 dL_law__40 (by decide) rfl (by decide) (fun _ => s_L_case_26 C hNc hSC hk hn _ hkc v4 d) (fun h28 => ?_)
    refine r_tsw C 27 27 2000 dL_law__40 (by decide) rfl (by decide) (fun _ => s_L_case_27 C hNc hSC hk hn _ hkc v4 d) (fun h29 => ?_)
    refine r_tsw C 28 28 2118 dL_law__40 (by decide) rfl (by decide) (fun _ => s_L_case_28 C hNc hSC hk hn _ hkc v4 d) (fun h30 => ?_)
    refine r_tsw C 29 29 2186 dL_law__40 (by decide) rfl (by decide) (fun _ => s_L_case_29 C hNc hSC hk hn _ hkc v4 d) (fun h31 => ?_)
    refine r_tsw C 30 30 2261 dL_law__40 (by decide) rfl (by decide) (fun _ => s_L_case_30 C hNc hSC hk hn _ hkc v4 d) (fun h32 => ?_)
    refine r_tsw C 31 31 2336 dL_law__40 (by decide) rfl (by decide) (fun _ => s_L_case_31 C hNc hSC hk hn _ hkc v4 d) (fun h33 => ?_)
    refine r_tsw C 32 32 2404 dL_law__40 (by decide) rfl (by decide) (fun _ => s_L_case_32 C hNc hSC hk hn _ hkc v4 d) (fun h34 => ?_)
    refine r_tsw C 33 33 2460 dL_law__40 (by decide) rfl (by decide) (fun _ => s_L_case_33 C hNc hSC hk hn _ hkc v4 d) (fun h35 => ?_)
    refine r_tsw C 34 34 2535 dL_law__40 (by decide) rfl (by decide) (fun _ => s_L_case_34 C hNc hSC hk hn _ hkc v4 d) (fun h36 => ?_)
    refine r_tsw C 35 35 2626 dL_law__40 (by decide) rfl (by decide) (fun _ => s_L_case_35 C hNc hSC hk hn _ hkc v4 d) (fun h37 => ?_)
    refine r_tsw C 36 36 2694 dL_law__40 (by decide) rfl (by decide) (fun _ => s_L_case_36 C hNc hSC hk hn _ hkc v4 d) (fun h38 => ?_)
    refine r_tsw C 37 37 2769 dL_law__40 (by decide) rfl (by decide) (fun _ => s_L_case_37 C hNc hSC hk hn _ hkc v4 d) (fun h39 => ?_)
    refine r_tsw C 38 38 2837 dL_law__40 (by decide) rfl (by decide) (fun _ => s_L_case_38 C hNc hSC hk hn _ hkc v4 d) (fun h40 => ?_)
    refine r_tsw C 39 39 2893 dL_law__40 (by decide) rfl (by decide) (fun _ => s_L_case_39 C hNc hSC hk hn _ hkc v4 d) (fun h41 => ?_)
    refine r_tsw C 40 40 2949 dL_law__40 (by decide) rfl (by decide) (fun _ => s_L_case_40 C hNc hSC hk hn _ hkc v4 d) (fun h42 => ?_)
    refine r_tsw C 41 41 3017 dL_law__40 (by decide) rfl (by decide) (fun _ => s_L_case_41 C hNc hSC hk hn _ hkc v4 d) (fun h43 => ?_)
    refine r_tsw C 42 42 3085 dL_law__40 (by decide) rfl (by decide) (fun _ => s_L_case_42 C hNc hSC hk hn _ hkc v4 d) (fun h44 => ?_)
    refine r_tsw C 43 43 3141 dL_law__40 (by decide) rfl (by decide) (fun _ => s_L_case_43 C hNc hSC hk hn _ hkc v4 d) (fun h45 => ?_)
    refine r_tsw C 44 44 3197 dL_law__40 (by decide) rfl (by decide) (fun _ => s_L_case_44 C hNc hSC hk hn _ hkc v4 d) (fun h46 => ?_)
    refine r_tsw C 45 45 3257 dL_law__40 (by decide) rfl (by decide) (fun _ => s_L_case_45 C hNc hSC hk hn _ hkc v4 d) (fun h47 => ?_)
    refine r_tsw C 46 46 3368 dL_law__40 (by decide) rfl (by decide) (fun _ => s_L_case_46 C hNc hSC hk hn _ hkc v4 d) (fun h48 => ?_)
    refine r_tsw C 47 47 3436 dL_law__40 (by decide) rfl (by decide) (fun _ => s_L_case_47 C hNc hSC hk hn _ hkc v4 d) (fun h49 => ?_)
    refine r_tsw C 48 48 3472 dL_law__40 (by decide) rfl (by decide) (fun _ => s_L_case_48 C hNc hSC hk hn _ hkc v4 d) (fun h50 => ?_)
    refine r_tsw C 49 49 3508 dL_law__40 (by decide) rfl (by decide) (fun _ => s_L_case_49 C hNc hSC hk hn _ hkc v4 d) (fun h51 => ?_)
    refine r_tswd C 3533 dL_law__40 (by omega) (by decide) ?_
    refine r_iinc C 4 [(4, i9 (v4 + 7)), (0, scf b), (1, rf G 0), (2, rf G 174), (3, rf G 194)] dL_law__3533 rfl (by decide) rfl ?_
    refine r_goto C 23 dL_law__3536 (by decide) ?_
    refine ss_wide (k' := k + 12) (n' := n + 80) (show k ≤ k + 12 by omega) (show n ≤ n + 80 by omega) ?_
    refine ss_ls [(0, scf b), (1, rf G 0), (2, rf G 174), (3, rf G 194), (4, i9 (v4 + 7))] [1, 2, 3, 4, 0] rfl ?_
    exact hkc (v4 + 7) d
def mL9 (xs : Nat → Int) (L : Nat) (f : Nat) : Int → D9 → Option R9 := fix9 (fun _ _ => none) (fun kc => b_L_law xs L kc) f
theorem sL9 {G : G9} {X : X9} (C : CX G X cL_law_ 8 RL [] zL9) (hNc : NC9 (xS X)) {b L : Nat} {xs : Nat → Int} (hSC : SCX G X b L xs) (hLR : LR9 G X b) : ∀ (f k n : Nat), k + 12 * f ≤ 601024 → n + 80 * f ≤ 7293034 → ∀ (v4 : Int) (d : D9), SS G X 8 k n 23 [(0, scf b), (1, rf G 0), (2, rf G 174), (3, rf G 194), (4, i9 v4)] [] d (mL9 xs L f v4 d)
  | 0, _, _, _, _, _, _ => ss_none
  | f + 1, k, n, hk, hn, v4, d => sb_L_law C hNc hSC (by omega) (by omega) hLR (mL9 xs L f) (fun v4 d => sL9 C hNc hSC hLR f (k + 12) (n + 80) (by omega) (by omega) v4 d) v4 d

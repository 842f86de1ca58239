theorem dL_law__2186 : decode cL_law_ 2186 = .ok (.aload_n 1, 1) := by decide +kernel
theorem dL_law__2187 : decode cL_law_ 2187 = .ok (.aload_n 0, 1) := by decide +kernel
theorem dL_law__2188 : decode cL_law_ 2188 = .ok (.iload 4, 2) := by decide +kernel
theorem dL_law__2190 : decode cL_law_ 2190 = .ok (.iconst 1, 1) := by decide +kernel
theorem dL_law__2191 : decode cL_law_ 2191 = .ok (.iadd, 1) := by decide +kernel
theorem dL_law__2192 : decode cL_law_ 2192 = .ok (.iaload, 1) := by decide +kernel
theorem dL_law__2193 : decode cL_law_ 2193 = .ok (.aload_n 0, 1) := by decide +kernel
theorem dL_law__2194 : decode cL_law_ 2194 = .ok (.iload 4, 2) := by decide +kernel
theorem dL_law__2196 : decode cL_law_ 2196 = .ok (.iconst 2, 1) := by decide +kernel
theorem dL_law__2197 : decode cL_law_ 2197 = .ok (.iadd, 1) := by decide +kernel
theorem dL_law__2198 : decode cL_law_ 2198 = .ok (.iaload, 1) := by decide +kernel
theorem dL_law__2199 : decode cL_law_ 2199 = .ok (.aload_n 3, 1) := by decide +kernel
theorem dL_law__2200 : decode cL_law_ 2200 = .ok (.invokestatic 279, 3) := by decide +kernel
theorem dL_law__2203 : decode cL_law_ 2203 = .ok (.istore 5, 2) := by decide +kernel
theorem dL_law__2205 : decode cL_law_ 2205 = .ok (.aload_n 2, 1) := by decide +kernel
theorem dL_law__2206 : decode cL_law_ 2206 = .ok (.aload_n 0, 1) := by decide +kernel
theorem dL_law__2207 : decode cL_law_ 2207 = .ok (.iload 4, 2) := by decide +kernel
theorem dL_law__2209 : decode cL_law_ 2209 = .ok (.iconst 1, 1) := by decide +kernel
theorem dL_law__2210 : decode cL_law_ 2210 = .ok (.iadd, 1) := by decide +kernel
theorem dL_law__2211 : decode cL_law_ 2211 = .ok (.iaload, 1) := by decide +kernel
theorem dL_law__2212 : decode cL_law_ 2212 = .ok (.aload_n 0, 1) := by decide +kernel
theorem dL_law__2213 : decode cL_law_ 2213 = .ok (.iload 4, 2) := by decide +kernel
theorem dL_law__2215 : decode cL_law_ 2215 = .ok (.iconst 2, 1) := by decide +kernel
theorem dL_law__2216 : decode cL_law_ 2216 = .ok (.iadd, 1) := by decide +kernel
theorem dL_law__2217 : decode cL_law_ 2217 = .ok (.iaload, 1) := by decide +kernel
theorem dL_law__2218 : decode cL_law_ 2218 = .ok (.invokevirtual 281, 3) := by decide +kernel
theorem dL_law__2221 : decode cL_law_ 2221 = .ok (.istore 6, 2) := by decide +kernel
theorem dL_law__2223 : decode cL_law_ 2223 = .ok (.aload_n 2, 1) := by decide +kernel
theorem dL_law__2224 : decode cL_law_ 2224 = .ok (.invokevirtual 175, 3) := by decide +kernel
theorem dL_law__2227 : decode cL_law_ 2227 = .ok (.iload 5, 2) := by decide +kernel
theorem dL_law__2229 : decode cL_law_ 2229 = .ok (.if_icmp .eq 5, 3) := by decide +kernel
theorem dL_law__2232 : decode cL_law_ 2232 = .ok (.iconst 0, 1) := by decide +kernel
theorem dL_law__2234 : decode cL_law_ 2234 = .ok (.iload 5, 2) := by decide +kernel
theorem dL_law__2236 : decode cL_law_ 2236 = .ok (.ifCond .ne 22, 3) := by decide +kernel
theorem dL_law__2239 : decode cL_law_ 2239 = .ok (.aload_n 3, 1) := by decide +kernel
theorem dL_law__2240 : decode cL_law_ 2240 = .ok (.iconst 0, 1) := by decide +kernel
theorem dL_law__2241 : decode cL_law_ 2241 = .ok (.laload, 1) := by decide +kernel
theorem dL_law__2242 : decode cL_law_ 2242 = .ok (.iload 6, 2) := by decide +kernel
theorem dL_law__2244 : decode cL_law_ 2244 = .ok (.ifCond .eq 7, 3) := by decide +kernel
theorem dL_law__2247 : decode cL_law_ 2247 = .ok (.lconst 1, 1) := by decide +kernel
theorem dL_law__2248 : decode cL_law_ 2248 = .ok (.goto 4, 3) := by decide +kernel
theorem dL_law__2251 : decode cL_law_ 2251 = .ok (.lconst 0, 1) := by decide +kernel
theorem dL_law__2252 : decode cL_law_ 2252 = .ok (.lcmp, 1) := by decide +kernel
theorem dL_law__2253 : decode cL_law_ 2253 = .ok (.ifCond .eq 5, 3) := by decide +kernel
theorem dL_law__2256 : decode cL_law_ 2256 = .ok (.iconst 0, 1) := by decide +kernel
theorem dL_law__2258 : decode cL_law_ 2258 = .ok (.goto 1275, 3) := by decide +kernel
def m_L_case_29 (xs : Nat → Int) (L : Nat) (kc : Int → D9 → Option R9) (v4 : Int) (d : D9) : Option R9 := scr xs L (v4 + 1) (fun t1 => scr xs L (v4 + 2) (fun t2 => cz (m_L_whose t1 t2 d) (fun r3 d4 => scr xs L (v4 + 1) (fun t5 => scr xs L (v4 + 2) (fun t6 => cz (m_X12_whose_174 t5 t6 d4) (fun r7 d8 => cz (m_X12_thrown_174 d8) (fun r9 d10 => if w32 r9 = w32 r3 then if w32 r3 ≠ 0 then kc (v4 + 7) d10 else ld d10 194 1 0 (fun t11 => if w32 r7 = 0 then if w64 t11 = w64 0 then kc (v4 + 7) d10 else none else if w64 t11 = w64 1 then kc (v4 + 7) d10 else none) else none)))))))
set_option maxRecDepth 100000 in
theorem s_L_case_29 {G : G9} {X : X9} (C : CX G X cL_law_ 8 RL [] zL9) (hNc : NC9 (xS X)) {b L : Nat} {xs : Nat → Int} (hSC : SCX G X b L xs) {k n : Nat} (hk : k + 12 ≤ 601024) (hn : n + 80 ≤ 7293034) (kc : Int → D9 → Option R9) (hkc : ∀ (v4 : Int) (d : D9), SS G X 8 (k + 12) (n + 80) 23 [(0, scf b), (1, rf G 0), (2, rf G 174), (3, rf G 194), (4, i9 v4)] [] d (kc v4 d)) : ∀ (v4 : Int) (d : D9), SS G X 8 k n 2186 [(0, scf b), (1, rf G 0), (2, rf G 174), (3, rf G 194), (4, i9 v4)] [] d (m_L_case_29 xs L kc v4 d) := by
  intro v4 d
  unfold m_L_case_29
  refine r_aload_n C 1 dL_law__2186 rfl rfl ?_
  refine r_aload_nC C 0 dL_law__2187 rfl rfl ?_
  refine r_iload C 4 dL_law__2188 rfl ?_
  refine r_iconst C dL_law__2190 ?_
  refine r_iadd C dL_law__2191 ?_
  refine r_scld C hSC dL_law__2192 (fun t1 => ?_)
  refine r_aload_nC C 0 dL_law__2193 rfl rfl ?_
  refine r_iload C 4 dL_law__2194 rfl ?_
  refine r_iconst C dL_law__2196 ?_
  refine r_iadd C dL_law__2197 ?_
  refine r_scld C hSC dL_law__2198 (fun t2 => ?_)
  refine r_aload_n C 3 dL_law__2199 rfl rfl ?_
  refine r_callHL C hNc [rf G 194, i9 t2, i9 t1, rf G 0] dL_law__2200 (t_L_whose C.h1 C.h2 t1 t2 d) mwh_L_279 (by decide) (show k + 3 ≤ 601024 by omega) (show n + 18 ≤ 7293034 by omega) rfl rfl (Nat.le_of_ble_eq_true rfl) (fun r3 d4 => ?_)
  show SS G X 8 (k + 3) (n + 18) 2203 [(0, scf b), (1, rf G 0), (2, rf G 174), (3, rf G 194), (4, i9 v4)] [i9 r3] d4 _
  refine r_istore C [(5, i9 r3), (0, scf b), (1, rf G 0), (2, rf G 174), (3, rf G 194), (4, i9 v4)] dL_law__2203 (by decide) rfl ?_
  refine r_aload_n C 3 dL_law__2205 rfl rfl ?_
  refine r_aload_nC C 1 dL_law__2206 rfl rfl ?_
  refine r_iload C 5 dL_law__2207 rfl ?_
  refine r_iconst C dL_law__2209 ?_
  refine r_iadd C dL_law__2210 ?_
  refine r_scld C hSC dL_law__2211 (fun t5 => ?_)
  refine r_aload_nC C 1 dL_law__2212 rfl rfl ?_
  refine r_iload C 5 dL_law__2213 rfl ?_
  refine r_iconst C dL_law__2215 ?_
  refine r_iadd C dL_law__2216 ?_
  refine r_scld C hSC dL_law__2217 (fun t6 => ?_)
  refine r_callVL C [i9 t6, i9 t5, rf G 174] dL_law__2218 (t_X12_whose_174 C.h1 C.h2 t5 t6 d4) mw_L_281 mv_X12_whose la_174 ly_174 rfl (by decide) (show k + 3 + 0 ≤ 601024 by omega) (show n + 18 + 0 ≤ 7293034 by omega) rfl rfl (Nat.le_of_ble_eq_true rfl) (fun r7 d8 => ?_)
  show SS G X 8 (k + 3 + 0) (n + 18 + 0) 2221 [(5, i9 r3), (0, scf b), (1, rf G 0), (2, rf G 174), (3, rf G 194), (4, i9 v4)] [i9 r7] d8 _
  refine r_istore C [(6, i9 r7), (5, i9 r3), (0, scf b), (1, rf G 0), (2, rf G 174), (3, rf G 194), (4, i9 v4)] dL_law__2221 (by decide) rfl ?_
  refine r_aload_n C 4 dL_law__2223 rfl rfl ?_
  refine r_callVL C [rf G 174] dL_law__2224 (t_X12_thrown_174 C.h1 C.h2 d8) mw_L_175 mv_X12_thrown la_174 ly_174 rfl (by decide) (show k + 3 + 0 + 0 ≤ 601024 by omega) (show n + 18 + 0 + 0 ≤ 7293034 by omega) rfl rfl (Nat.le_of_ble_eq_true rfl) (fun r9 d10 => ?_)
  show SS G X 8 (k + 3 + 0 + 0) (n + 18 + 0 + 0) 2227 [(6, i9 r7), (5, i9 r3), (0, scf b), (1, rf G 0), (2, rf G 174), (3, rf G 194), (4, i9 v4)] [i9 r9] d10 _
  refine r_iload C 1 dL_law__2227 rfl ?_
  refine r_icmp_eq C 2234 dL_law__2229 (by decide) (fun _ => ?_) (fun _ => ?_)
  · refine r_iload C 1 dL_law__2234 rfl ?_
    refine r_if_ne C (b := 0) 2258 dL_law__2236 (by decide) (fun _ => ?_) (fun _ => ?_)
    · refine r_goto C 3533 dL_law__2258 (by decide) ?_
      refine r_iinc C 6 [(4, i9 (v4 + 7)), (6, i9 r7), (5, i9 r3), (0, scf b), (1, rf G 0), (2, rf G 174), (3, rf G 194)] dL_law__3533 rfl (by decide) rfl ?_
      refine r_goto C 23 dL_law__3536 (by decide) ?_
      refine ss_wide (k' := k + 12) (n' := n + 80) (show k + 3 + 0 + 0 ≤ k + 12 by omega) (show n + 18 + 0 + 0 ≤ n + 80 by omega) ?_
      refine ss_ls [(0, scf b), (1, rf G 0), (2, rf G 174), (3, rf G 194), (4, i9 (v4 + 7))] [3, 4, 5, 6, 0] rfl ?_
      exact hkc (v4 + 7) d10
    · refine r_aload_n C 5 dL_law__2239 rfl rfl ?_
      refine r_iconst C dL_law__2240 ?_
      refine r_lald C dL_law__2241 la_194 ly_194 (fun t11 => ?_)
      refine r_iload C 0 dL_law__2242 rfl ?_
      refine r_if_eq C (b := 0) 2251 dL_law__2244 (by decide) (fun _ => ?_) (fun _ => ?_)
      · refine r_lconst C dL_law__2251 (a := 0) rfl ?_
        refine r_lcmp_eq C 2258 dL_law__2252 dL_law__2253 (by decide) (fun _ => ?_) (fun _ => ?_)
        · refine r_goto C 3533 dL_law__2258 (by decide) ?_
          refine r_iinc C 6 [(4, i9 (v4 + 7)), (6, i9 r7), (5, i9 r3), (0, scf b), (1, rf G 0), (2, rf G 174), (3, rf G 194)] dL_law__3533 rfl (by decide) rfl ?_
          refine r_goto C 23 dL_law__3536 (by decide) ?_
          refine ss_wide (k' := k + 12) (n' := n + 80) (show k + 3 + 0 + 0 ≤ k + 12 by omega) (show n + 18 + 0 + 0 ≤ n + 80 by omega) ?_
          refine ss_ls [(0, scf b), (1, rf G 0), (2, rf G 174), (3, rf G 194), (4, i9 (v4 + 7))] [3, 4, 5, 6, 0] rfl ?_
          exact hkc (v4 + 7) d10
        · refine r_iconst C dL_law__2256 ?_
          exact ss_none
      · refine r_lconst C dL_law__2247 (a := 1) rfl ?_
        refine r_goto C 2252 dL_law__2248 (by decide) ?_
        refine r_lcmp_eq C 2258 dL_law__2252 dL_law__2253 (by decide) (fun _ => ?_) (fun _ => ?_)
        · refine r_goto C 3533 dL_law__2258 (by decide) ?_
          refine r_iinc C 6 [(4, i9 (v4 + 7)), (6, i9 r7), (5, i9 r3), (0, scf b), (1, rf G 0), (2, rf G 174), (3, rf G 194)] dL_law__3533 rfl (by decide) rfl ?_
          refine r_goto C 23 dL_law__3536 (by decide) ?_
          refine ss_wide (k' := k + 12) (n' := n + 80) (show k + 3 + 0 + 0 ≤ k + 12 by omega) (show n + 18 + 0 + 0 ≤ n + 80 by omega) ?_
          refine ss_ls [(0, scf b), (1, rf G 0), (2, rf G 174), (3, rf G 194), (4, i9 (v4 + 7))] [3, 4, 5, 6, 0] rfl ?_
          exact hkc (v4 + 7) d10
        · refine r_iconst C dL_law__2256 ?_
          exact ss_none
  · refine r_iconst C dL_law__2232 ?_
    exact ss_none
theorem dL_law__2261 : decode cL_law_ 2261 = .ok (.aload_n 1, 1) := by decide +kernel
theorem dL_law__2262 : decode cL_law_ 2262 = .ok (.aload_n 0, 1) := by decide +kernel
theorem dL_law__2263 : decode cL_law_ 2263 = .ok (.iload 4, 2) := by decide +kernel
theorem dL_law__2265 : decode cL_law_ 2265 = .ok (.iconst 1, 1) := by decide +kernel
theorem dL_law__2266 : decode cL_law_ 2266 = .ok (.iadd, 1) := by decide +kernel
theorem dL_law__2267 : decode cL_law_ 2267 = .ok (.iaload, 1) := by decide +kernel
theorem dL_law__2268 : decode cL_law_ 2268 = .ok (.aload_n 0, 1) := by decide +kernel
theorem dL_law__2269 : decode cL_law_ 2269 = .ok (.iload 4, 2) := by decide +kernel
theorem dL_law__2271 : decode cL_law_ 2271 = .ok (.iconst 2, 1) := by decide +kernel
theorem dL_law__2272 : decode cL_law_ 2272 = .ok (.iadd, 1) := by decide +kernel
theorem dL_law__2273 : decode cL_law_ 2273 = .ok (.iaload, 1) := by decide +kernel
theorem dL_law__2274 : decode cL_law_ 2274 = .ok (.aload_n 3, 1) := by decide +kernel
theorem dL_law__2275 : decode cL_law_ 2275 = .ok (.invokestatic 282, 3) := by decide +kernel
theorem dL_law__2278 : decode cL_law_ 2278 = .ok (.istore 5, 2) := by decide +kernel
theorem dL_law__2280 : decode cL_law_ 2280 = .ok (.aload_n 2, 1) := by decide +kernel
theorem dL_law__2281 : decode cL_law_ 2281 = .ok (.aload_n 0, 1) := by decide +kernel
theorem dL_law__2282 : decode cL_law_ 2282 = .ok (.iload 4, 2) := by decide +kernel
theorem dL_law__2284 : decode cL_law_ 2284 = .ok (.iconst 1, 1) := by decide +kernel
theorem dL_law__2285 : decode cL_law_ 2285 = .ok (.iadd, 1) := by decide +kernel
theorem dL_law__2286 : decode cL_law_ 2286 = .ok (.iaload, 1) := by decide +kernel
theorem dL_law__2287 : decode cL_law_ 2287 = .ok (.aload_n 0, 1) := by decide +kernel
theorem dL_law__2288 : decode cL_law_ 2288 = .ok (.iload 4, 2) := by decide +kernel
theorem dL_law__2290 : decode cL_law_ 2290 = .ok (.iconst 2, 1) := by decide +kernel
theorem dL_law__2291 : decode cL_law_ 2291 = .ok (.iadd, 1) := by decide +kernel
theorem dL_law__2292 : decode cL_law_ 2292 = .ok (.iaload, 1) := by decide +kernel
theorem dL_law__2293 : decode cL_law_ 2293 = .ok (.invokevirtual 284, 3) := by decide +kernel
theorem dL_law__2296 : decode cL_law_ 2296 = .ok (.istore 6, 2) := by decide +kernel
theorem dL_law__2298 : decode cL_law_ 2298 = .ok (.aload_n 2, 1) := by decide +kernel
theorem dL_law__2299 : decode cL_law_ 2299 = .ok (.invokevirtual 175, 3) := by decide +kernel
theorem dL_law__2302 : decode cL_law_ 2302 = .ok (.iload 5, 2) := by decide +kernel
theorem dL_law__2304 : decode cL_law_ 2304 = .ok (.if_icmp .eq 5, 3) := by decide +kernel
theorem dL_law__2307 : decode cL_law_ 2307 = .ok (.iconst 0, 1) := by decide +kernel
theorem dL_law__2309 : decode cL_law_ 2309 = .ok (.iload 5, 2) := by decide +kernel
theorem dL_law__2311 : decode cL_law_ 2311 = .ok (.ifCond .ne 22, 3) := by decide +kernel
theorem dL_law__2314 : decode cL_law_ 2314 = .ok (.aload_n 3, 1) := by decide +kernel
theorem dL_law__2315 : decode cL_law_ 2315 = .ok (.iconst 0, 1) := by decide +kernel
theorem dL_law__2316 : decode cL_law_ 2316 = .ok (.laload, 1) := by decide +kernel
theorem dL_law__2317 : decode cL_law_ 2317 = .ok (.iload 6, 2) := by decide +kernel
theorem dL_law__2319 : decode cL_law_ 2319 = .ok (.ifCond .eq 7, 3) := by decide +kernel
theorem dL_law__2322 : decode cL_law_ 2322 = .ok (.lconst 1, 1) := by decide +kernel
theorem dL_law__2323 : decode cL_law_ 2323 = .ok (.goto 4, 3) := by decide +kernel
theorem dL_law__2326 : decode cL_law_ 2326 = .ok (.lconst 0, 1) := by decide +kernel
theorem dL_law__2327 : decode cL_law_ 2327 = .ok (.lcmp, 1) := by decide +kernel
theorem dL_law__2328 : decode cL_law_ 2328 = .ok (.ifCond .eq 5, 3) := by decide +kernel
theorem dL_law__2331 : decode cL_law_ 2331 = .ok (.iconst 0, 1) := by decide +kernel
theorem dL_law__2333 : decode cL_law_ 2333 = .ok (.goto 1200, 3) := by decide +kernel
def m_L_case_30 (xs : Nat → Int) (L : Nat) (kc : Int → D9 → Option R9) (v4 : Int) (d : D9) : Option R9 := scr xs L (v4 + 1) (fun t1 => scr xs L (v4 + 2) (fun t2 => cz (m_L_ringed t1 t2 d) (fun r3 d4 => scr xs L (v4 + 1) (fun t5 => scr xs L (v4 + 2) (fun t6 => cz (m_X12_ringed_174 t5 t6 d4) (fun r7 d8 => cz (m_X12_thrown_174 d8) (fun r9 d10 => if w32 r9 = w32 r3 then if w32 r3 ≠ 0 then kc (v4 + 7) d10 else ld d10 194 1 0 (fun t11 => if w32 r7 = 0 then if w64 t11 = w64 0 then kc (v4 + 7) d10 else none else if w64 t11 = w64 1 then kc (v4 + 7) d10 else none) else none)))))))
set_option maxRecDepth 100000 in
theorem s_L_case_30 {G : G9} {X : X9} (C : CX G X cL_law_ 8 RL [] zL9) (hNc : NC9 (xS X)) {b L : Nat} {xs : Nat → Int} (hSC : SCX G X b L xs) {k n : Nat} (hk : k + 12 ≤ 601024) (hn : n + 80 ≤ 7293034) (kc : Int → D9 → Option R9) (hkc : ∀ (v4 : Int) (d : D9), SS G X 8 (k + 12) (n + 80) 23 [(0, scf b), (1, rf G 0), (2, rf G 174), (3, rf G 194), (4, i9 v4)] [] d (kc v4 d)) : ∀ (v4 : Int) (d : D9), SS G X 8 k n 2261 [(0, scf b), (1, rf G 0), (2, rf G 174), (3, rf G 194), (4, i9 v4)] [] d (m_L_case_30 xs L kc v4 d) := by
  intro v4 d
  unfold m_L_case_30
  refine r_aload_n C 1 dL_law__2261 rfl rfl ?_
  refine r_aload_nC C 0 dL_law__2262 rfl rfl ?_
  refine r_iload C 4 dL_law__2263 rfl ?_
  refine r_iconst C dL_law__2265 ?_
  refine r_iadd C dL_law__2266 ?_
  refine r_scld C hSC dL_law__2267 (fun t1 => ?_)
  refine r_aload_nC C 0 dL_law__2268 rfl rfl ?_
  refine r_iload C 4 dL_law__2269 rfl ?_
  refine r_iconst C dL_law__2271 ?_
  refine r_iadd C dL_law__2272 ?_
  refine r_scld C hSC dL_law__2273 (fun t2 => ?_)
  refine r_aload_n C 3 dL_law__2274 rfl rfl ?_
  refine r_callHL C hNc [rf G 194, i9 t2, i9 t1, rf G 0] dL_law__2275 (t_L_ringed C.h1 C.h2 t1 t2 d) mwh_L_282 (by decide) (show k + 3 ≤ 601024 by omega) (show n + 18 ≤ 7293034 by omega) rfl rfl (Nat.le_of_ble_eq_true rfl) (fun r3 d4 => ?_)
  show SS G X 8 (k + 3) (n + 18) 2278 [(0, scf b), (1, rf G 0), (2, rf G 174), (3, rf G 194), (4, i9 v4)] [i9 r3] d4 _
  refine r_istore C [(5, i9 r3), (0, scf b), (1, rf G 0), (2, rf G 174), (3, rf G 194), (4, i9 v4)] dL_law__2278 (by decide) rfl ?_
  refine r_aload_n C 3 dL_law__2280 rfl rfl ?_
  refine r_aload_nC C 1 dL_law__2281 rfl rfl ?_
  refine r_iload C 5 dL_law__2282 rfl ?_
  refine r_iconst C dL_law__2284 ?_
  refine r_iadd C dL_law__2285 ?_
  refine r_scld C hSC dL_law__2286 (fun t5 => ?_)
  refine r_aload_nC C 1 dL_law__2287 rfl rfl ?_
  refine r_iload C 5 dL_law__2288 rfl ?_
  refine r_iconst C dL_law__2290 ?_
  refine r_iadd C dL_law__2291 ?_
  refine r_scld C hSC dL_law__2292 (fun t6 => ?_)
  refine r_callVL C [i9 t6, i9 t5, rf G 174] dL_law__2293 (t_X12_ringed_174 C.h1 C.h2 t5 t6 d4) mw_L_284 mv_X12_ringed la_174 ly_174 rfl (by decide) (show k + 3 + 0 ≤ 601024 by omega) (show n + 18 + 0 ≤ 7293034 by omega) rfl rfl (Nat.le_of_ble_eq_true rfl) (fun r7 d8 => ?_)
  show SS G X 8 (k + 3 + 0) (n + 18 + 0) 2296 [(5, i9 r3), (0, scf b), (1, rf G 0), (2, rf G 174), (3, rf G 194), (4, i9 v4)] [i9 r7] d8 _
  refine r_istore C [(6, i9 r7), (5, i9 r3), (0, scf b), (1, rf G 0), (2, rf G 174), (3, rf G 194), (4, i9 v4)] dL_law__2296 (by decide) rfl ?_
  refine r_aload_n C 4 dL_law__2298 rfl rfl ?_
  refine r_callVL C [rf G 174] dL_law__2299 (t_X12_thrown_174 C.h1 C.h2 d8) mw_L_175 mv_X12_thrown la_174 ly_174 rfl (by decide) (show k + 3 + 0 + 0 ≤ 601024 by omega) (show n + 18 + 0 + 0 ≤ 7293034 by omega) rfl rfl (Nat.le_of_ble_eq_true rfl) (fun r9 d10 => ?_)
  show SS G X 8 (k + 3 + 0 + 0) (n + 18 + 0 + 0) 2302 [(6, i9 r7), (5, i9 r3), (0, scf b), (1, rf G 0), (2, rf G 174), (3, rf G 194), (4, i9 v4)] [i9 r9] d10 _
  refine r_iload C 1 dL_law__2302 rfl ?_
  refine r_icmp_eq C 2309 dL_law__2304 (by decide) (fun _ => ?_) (fun _ => ?_)
  · refine r_iload C 1 dL_law__2309 rfl ?_
    refine r_if_ne C (b := 0) 2333 dL_law__2311 (by decide) (fun _ => ?_) (fun _ => ?_)
    · refine r_goto C 3533 dL_law__2333 (by decide) ?_
      refine r_iinc C 6 [(4, i9 (v4 + 7)), (6, i9 r7), (5, i9 r3), (0, scf b), (1, rf G 0), (2, rf G 174), (3, rf G 194)] dL_law__3533 rfl (by decide) rfl ?_
      refine r_goto C 23 dL_law__3536 (by decide) ?_
      refine ss_wide (k' := k + 12) (n' := n + 80) (show k + 3 + 0 + 0 ≤ k + 12 by omega) (show n + 18 + 0 + 0 ≤ n + 80 by omega) ?_
      refine ss_ls [(0, scf b), (1, rf G 0), (2, rf G 174), (3, rf G 194), (4, i9 (v4 + 7))] [3, 4, 5, 6, 0] rfl ?_
      exact hkc (v4 + 7) d10
    · refine r_aload_n C 5 dL_law__2314 rfl rfl ?_
      refine r_iconst C dL_law__2315 ?_
      refine r_lald C dL_law__2316 la_194 ly_194 (fun t11 => ?_)
      refine r_iload C 0 dL_law__2317 rfl ?_
      refine r_if_eq C (b := 0) 2326 dL_law__2319 (by decide) (fun _ => ?_) (fun _ => ?_)
      · refine r_lconst C dL_law__2326 (a := 0) rfl ?_
        refine r_lcmp_eq C 2333 dL_law__2327 dL_law__2328 (by decide) (fun _ => ?_) (fun _ => ?_)
        · refine r_goto C 3533 dL_law__2333 (by decide) ?_
          refine r_iinc C 6 [(4, i9 (v4 + 7)), (6, i9 r7), (5, i9 r3), (0, scf b), (1, rf G 0), (2, rf G 174), (3, rf G 194)] dL_law__3533 rfl (by decide) rfl ?_
          refine r_goto C 23 dL_law__3536 (by decide) ?_
          refine ss_wide (k' := k + 12) (n' := n + 80) (show k + 3 + 0 + 0 ≤ k + 12 by omega) (show n + 18 + 0 + 0 ≤ n + 80 by omega) ?_
          refine ss_ls [(0, scf b), (1, rf G 0), (2, rf G 174), (3, rf G 194), (4, i9 (v4 + 7))] [3, 4, 5, 6, 0] rfl ?_
          exact hkc (v4 + 7) d10
        · refine r_iconst C dL_law__2331 ?_
          exact ss_none
      · refine r_lconst C dL_law__2322 (a := 1) rfl ?_
        refine r_goto C 2327 dL_law__2323 (by decide) ?_
        refine r_lcmp_eq C 2333 dL_law__2327 dL_law__2328 (by decide) (fun _ => ?_) (fun _ => ?_)
        · refine r_goto C 3533 dL_law__2333 (by decide) ?_
          refine r_iinc C 6 [(4, i9 (v4 + 7)), (6, i9 r7), (5, i9 r3), (0, scf b), (1, rf G 0), (2, rf G 174), (3, rf G 194)] dL_law__3533 rfl (by decide) rfl ?_
          refine r_goto C 23 dL_law__3536 (by decide) ?_
          refine ss_wide (k' := k + 12) (n' := n + 80) (show k + 3 + 0 + 0 ≤ k + 12 by omega) (show n + 18 + 0 + 0 ≤ n + 80 by omega) ?_
          refine ss_ls [(0, scf b), (1, rf G 0), (2, rf G 174), (3, rf G 194), (4, i9 (v4 + 7))] [3, 4, 5, 6, 0] rfl ?_
          exact hkc (v4 + 7) d10
        · refine r_iconst C dL_law__2331 ?_
          exact ss_none
  · refine r_iconst C dL_law__2307 ?_
    exact ss_none
theorem dL_law__2336 : decode cL_law_ 2336 = .ok (.aload_n 1, 1) := by decide +kernel
theorem dL_law__2337 : decode cL_law_ 2337 = .ok (.aload_n 0, 1) := by decide +kernel
theorem dL_law__2338 : decode cL_law_ 2338 = .ok (.iload 4, 2) := by decide +kernel
theorem dL_law__2340 : decode cL_law_ 2340 = .ok (.iconst 1, 1) := by decide +kernel
theorem dL_law__2341 : decode cL_law_ 2341 = .ok (.iadd, 1) := by decide +kernel
theorem dL_law__2342 : decode cL_law_ 2342 = .ok (.iaload, 1) := by decide +kernel
theorem dL_law__2343 : decode cL_law_ 2343 = .ok (.aload_n 0, 1) := by decide +kernel
theorem dL_law__2344 : decode cL_law_ 2344 = .ok (.iload 4, 2) := by decide +kernel
theorem dL_law__2346 : decode cL_law_ 2346 = .ok (.iconst 2, 1) := by decide +kernel
theorem dL_law__2347 : decode cL_law_ 2347 = .ok (.iadd, 1) := by decide +kernel
theorem dL_law__2348 : decode cL_law_ 2348 = .ok (.iaload, 1) := by decide +kernel
theorem dL_law__2349 : decode cL_law_ 2349 = .ok (.aload_n 3, 1) := by decide +kernel
theorem dL_law__2350 : decode cL_law_ 2350 = .ok (.invokestatic 285, 3) := by decide +kernel
theorem dL_law__2353 : decode cL_law_ 2353 = .ok (.istore 5, 2) := by decide +kernel
theorem dL_law__2355 : decode cL_law_ 2355 = .ok (.aload_n 2, 1) := by decide +kernel
theorem dL_law__2356 : decode cL_law_ 2356 = .ok (.aload_n 0, 1) := by decide +kernel
theorem dL_law__2357 : decode cL_law_ 2357 = .ok (.iload 4, 2) := by decide +kernel
theorem dL_law__2359 : decode cL_law_ 2359 = .ok (.iconst 1, 1) := by decide +kernel
theorem dL_law__2360 : decode cL_law_ 2360 = .ok (.iadd, 1) := by decide +kernel
theorem dL_law__2361 : decode cL_law_ 2361 = .ok (.iaload, 1) := by decide +kernel
theorem dL_law__2362 : decode cL_law_ 2362 = .ok (.aload_n 0, 1) := by decide +kernel
theorem dL_law__2363 : decode cL_law_ 2363 = .ok (.iload 4, 2) := by decide +kernel
theorem dL_law__2365 : decode cL_law_ 2365 = .ok (.iconst 2, 1) := by decide +kernel
theorem dL_law__2366 : decode cL_law_ 2366 = .ok (.iadd, 1) := by decide +kernel
theorem dL_law__2367 : decode cL_law_ 2367 = .ok (.iaload, 1) := by decide +kernel
theorem dL_law__2368 : decode cL_law_ 2368 = .ok (.invokevirtual 287, 3) := by decide +kernel
theorem dL_law__2371 : decode cL_law_ 2371 = .ok (.istore 6, 2) := by decide +kernel
theorem dL_law__2373 : decode cL_law_ 2373 = .ok (.aload_n 2, 1) := by decide +kernel
theorem dL_law__2374 : decode cL_law_ 2374 = .ok (.invokevirtual 175, 3) := by decide +kernel
theorem dL_law__2377 : decode cL_law_ 2377 = .ok (.iload 5, 2) := by decide +kernel
theorem dL_law__2379 : decode cL_law_ 2379 = .ok (.if_icmp .eq 5, 3) := by decide +kernel
theorem dL_law__2382 : decode cL_law_ 2382 = .ok (.iconst 0, 1) := by decide +kernel
theorem dL_law__2384 : decode cL_law_ 2384 = .ok (.iload 5, 2) := by decide +kernel
theorem dL_law__2386 : decode cL_law_ 2386 = .ok (.ifCond .ne 15, 3) := by decide +kernel
theorem dL_law__2389 : decode cL_law_ 2389 = .ok (.aload_n 3, 1) := by decide +kernel
theorem dL_law__2390 : decode cL_law_ 2390 = .ok (.iconst 0, 1) := by decide +kernel
theorem dL_law__2391 : decode cL_law_ 2391 = .ok (.laload, 1) := by decide +kernel
theorem dL_law__2392 : decode cL_law_ 2392 = .ok (.iload 6, 2) := by decide +kernel
theorem dL_law__2394 : decode cL_law_ 2394 = .ok (.i2l, 1) := by decide +kernel
theorem dL_law__2395 : decode cL_law_ 2395 = .ok (.lcmp, 1) := by decide +kernel
theorem dL_law__2396 : decode cL_law_ 2396 = .ok (.ifCond .eq 5, 3) := by decide +kernel
theorem dL_law__2399 : decode cL_law_ 2399 = .ok (.iconst 0, 1) := by decide +kernel
theorem dL_law__2401 : decode cL_law_ 2401 = .ok (.goto 1132, 3) := by decide +kernel
def m_L_case_31 (xs : Nat → Int) (L : Nat) (kc : Int → D9 → Option R9) (v4 : Int) (d : D9) : Option R9 := scr xs L (v4 + 1) (fun t1 => scr xs L (v4 + 2) (fun t2 => cz (m_L_due t1 t2 d) (fun r3 d4 => scr xs L (v4 + 1) (fun t5 => scr xs L (v4 + 2) (fun t6 => cz (m_X12_due_174 t5 t6 d4) (fun r7 d8 => cz (m_X12_thrown_174 d8) (fun r9 d10 => if w32 r9 = w32 r3 then if w32 r3 ≠ 0 then kc (v4 + 7) d10 else ld d10 194 1 0 (fun t11 => if w64 t11 = w64 (w32 r7) then kc (v4 + 7) d10 else none) else none)))))))
set_option maxRecDepth 100000 in
theorem s_L_case_31 {G : G9} {X : X9} (C : CX G X cL_law_ 8 RL [] zL9) (hNc : NC9 (xS X)) {b L : Nat} {xs : Nat → Int} (hSC : SCX G X b L xs) {k n : Nat} (hk : k + 12 ≤ 601024) (hn : n + 80 ≤ 7293034) (kc : Int → D9 → Option R9) (hkc : ∀ (v4 : Int) (d : D9), SS G X 8 (k + 12) (n + 80) 23 [(0, scf b), (1, rf G 0), (2, rf G 174), (3, rf G 194), (4, i9 v4)] [] d (kc v4 d)) : ∀ (v4 : Int) (d : D9), SS G X 8 k n 2336 [(0, scf b), (1, rf G 0), (2, rf G 174), (3, rf G 194), (4, i9 v4)] [] d (m_L_case_31 xs L kc v4 d) := by
  intro v4 d
  unfold m_L_case_31
  refine r_aload_n C 1 dL_law__2336 rfl rfl ?_
  refine r_aload_nC C 0 dL_law__2337 rfl rfl ?_
  refine r_iload C 4 dL_law__2338 rfl ?_
  refine r_iconst C dL_law__2340 ?_
  refine r_iadd C dL_law__2341 ?_
  refine r_scld C hSC dL_law__2342 (fun t1 => ?_)
  refine r_aload_nC C 0 dL_law__2343 rfl rfl ?_
  refine r_iload C 4 dL_law__2344 rfl ?_
  refine r_iconst C dL_law__2346 ?_
  refine r_iadd C dL_law__2347 ?_
  refine r_scld C hSC dL_law__2348 (fun t2 => ?_)
  refine r_aload_n C 3 dL_law__2349 rfl rfl ?_
  refine r_callHL C hNc [rf G 194, i9 t2, i9 t1, rf G 0] dL_law__2350 (t_L_due C.h1 C.h2 t1 t2 d) mwh_L_285 (by decide) (show k + 3 ≤ 601024 by omega) (show n + 18 ≤ 7293034 by omega) rfl rfl (Nat.le_of_ble_eq_true rfl) (fun r3 d4 => ?_)
  show SS G X 8 (k + 3) (n + 18) 2353 [(0, scf b), (1, rf G 0), (2, rf G 174), (3, rf G 194), (4, i9 v4)] [i9 r3] d4 _
  refine r_istore C [(5, i9 r3), (0, scf b), (1, rf G 0), (2, rf G 174), (3, rf G 194), (4, i9 v4)] dL_law__2353 (by decide) rfl ?_
  refine r_aload_n C 3 dL_law__2355 rfl rfl ?_
  refine r_aload_nC C 1 dL_law__2356 rfl rfl ?_
  refine r_iload C 5 dL_law__2357 rfl ?_
  refine r_iconst C dL_law__2359 ?_
  refine r_iadd C dL_law__2360 ?_
  refine r_scld C hSC dL_law__2361 (fun t5 => ?_)
  refine r_aload_nC C 1 dL_law__2362 rfl rfl ?_
  refine r_iload C 5 dL_law__2363 rfl ?_
  refine r_iconst C dL_law__2365 ?_
  refine r_iadd C dL_law__2366 ?_
  refine r_scld C hSC dL_law__2367 (fun t6 => ?_)
  refine r_callVL C [i9 t6, i9 t5, rf G 174] dL_law__2368 (t_X12_due_174 C.h1 C.h2 t5 t6 d4) mw_L_287 mv_X12_due la_174 ly_174 rfl (by decide) (show k + 3 + 0 ≤ 601024 by omega) (show n + 18 + 0 ≤ 7293034 by omega) rfl rfl (Nat.le_of_ble_eq_true rfl) (fun r7 d8 => ?_)
  show SS G X 8 (k + 3 + 0) (n + 18 + 0) 2371 [(5, i9 r3), (0, scf b), (1, rf G 0), (2, rf G 174), (3, rf G 194), (4, i9 v4)] [i9 r7] d8 _
  refine r_istore C [(6, i9 r7), (5, i9 r3), (0, scf b), (1, rf G 0), (2, rf G 174), (3, rf G 194), (4, i9 v4)] dL_law__2371 (by decide) rfl ?_
  refine r_aload_n C 4 dL_law__2373 rfl rfl ?_
  refine r_callVL C [rf G 174] dL_law__2374 (t_X12_thrown_174 C.h1 C.h2 d8) mw_L_175 mv_X12_thrown la_174 ly_174 rfl (by decide) (show k + 3 + 0 + 0 ≤ 601024 by omega) (show n + 18 + 0 + 0 ≤ 7293034 by omega) rfl rfl (Nat.le_of_ble_eq_true rfl) (fun r9 d10 => ?_)
  show SS G X 8 (k + 3 + 0 + 0) (n + 18 + 0 + 0) 2377 [(6, i9 r7), (5, i9 r3), (0, scf b), (1, rf G 0), (2, rf G 174), (3, rf G 194), (4, i9 v4)] [i9 r9] d10 _
  refine r_iload C 1 dL_law__2377 rfl ?_
  refine r_icmp_eq C 2384 dL_law__2379 (by decide) (fun _ => ?_) (fun _ => ?_)
  · refine r_iload C 1 dL_law__2384 rfl ?_
    refine r_if_ne C (b := 0) 2401 dL_law__2386 (by decide) (fun _ => ?_) (fun _ => ?_)
    · refine r_goto C 3533 dL_law__2401 (by decide) ?_
      refine r_iinc C 6 [(4, i9 (v4 + 7)), (6, i9 r7), (5, i9 r3), (0, scf b), (1, rf G 0), (2, rf G 174), (3, rf G 194)] dL_law__3533 rfl (by decide) rfl ?_
      refine r_goto C 23 dL_law__3536 (by decide) ?_
      refine ss_wide (k' := k + 12) (n' := n + 80) (show k + 3 + 0 + 0 ≤ k + 12 by omega) (show n + 18 + 0 + 0 ≤ n + 80 by omega) ?_
      refine ss_ls [(0, scf b), (1, rf G 0), (2, rf G 174), (3, rf G 194), (4, i9 (v4 + 7))] [3, 4, 5, 6, 0] rfl ?_
      exact hkc (v4 + 7) d10
    · refine r_aload_n C 5 dL_law__2389 rfl rfl ?_
      refine r_iconst C dL_law__2390 ?_
      refine r_lald C dL_law__2391 la_194 ly_194 (fun t11 => ?_)
      refine r_iload C 0 dL_law__2392 rfl ?_
      refine r_i2l C dL_law__2394 ?_
      refine r_lcmp_eq C 2401 dL_law__2395 dL_law__2396 (by decide) (fun _ => ?_) (fun _ => ?_)
      · refine r_goto C 3533 dL_law__2401 (by decide) ?_
        refine r_iinc C 6 [(4, i9 (v4 + 7)), (6, i9 r7), (5, i9 r3), (0, scf b), (1, rf G 0), (2, rf G 174), (3, rf G 194)] dL_law__3533 rfl (by decide) rfl ?_
        refine r_goto C 23 dL_law__3536 (by decide) ?_
        refine ss_wide (k' := k + 12) (n' := n + 80) (show k + 3 + 0 + 0 ≤ k + 12 by omega) (show n + 18 + 0 + 0 ≤ n + 80 by omega) ?_
        refine ss_ls [(0, scf b), (1, rf G 0), (2, rf G 174), (3, rf G 194), (4, i9 (v4 + 7))] [3, 4, 5, 6, 0] rfl ?_
        exact hkc (v4 + 7) d10
      · refine r_iconst C dL_law__2399 ?_
        exact ss_none
  · refine r_iconst C dL_law__2382 ?_
    exact ss_none
theorem dL_law__2404 : decode cL_law_ 2404 = .ok (.aload_n 1, 1) := by decide +kernel
theorem dL_law__2405 : decode cL_law_ 2405 = .ok (.aload_n 0, 1) := by decide +kernel
theorem dL_law__2406 : decode cL_law_ 2406 = .ok (.iload 4, 2) := by decide +kernel
theorem dL_law__2408 : decode cL_law_ 2408 = .ok (.iconst 1, 1) := by decide +kernel
theorem dL_law__2409 : decode cL_law_ 2409 = .ok (.iadd, 1) := by decide +kernel
theorem dL_law__2410 : decode cL_law_ 2410 = .ok (.iaload, 1) := by decide +kernel
theorem dL_law__2411 : decode cL_law_ 2411 = .ok (.aload_n 3, 1) := by decide +kernel
theorem dL_law__2412 : decode cL_law_ 2412 = .ok (.invokestatic 288, 3) := by decide +kernel
theorem dL_law__2415 : decode cL_law_ 2415 = .ok (.istore 5, 2) := by decide +kernel
theorem dL_law__2417 : decode cL_law_ 2417 = .ok (.aload_n 2, 1) := by decide +kernel
theorem dL_law__2418 : decode cL_law_ 2418 = .ok (.aload_n 0, 1) := by decide +kernel
theorem dL_law__2419 : decode cL_law_ 2419 = .ok (.iload 4, 2) := by decide +kernel
theorem dL_law__2421 : decode cL_law_ 2421 = .ok (.iconst 1, 1) := by decide +kernel
theorem dL_law__2422 : decode cL_law_ 2422 = .ok (.iadd, 1) := by decide +kernel
theorem dL_law__2423 : decode cL_law_ 2423 = .ok (.iaload, 1) := by decide +kernel
theorem dL_law__2424 : decode cL_law_ 2424 = .ok (.invokevirtual 290, 3) := by decide +kernel
theorem dL_law__2427 : decode cL_law_ 2427 = .ok (.istore 6, 2) := by decide +kernel
theorem dL_law__2429 : decode cL_law_ 2429 = .ok (.aload_n 2, 1) := by decide +kernel
theorem dL_law__2430 : decode cL_law_ 2430 = .ok (.invokevirtual 175, 3) := by decide +kernel
theorem dL_law__2433 : decode cL_law_ 2433 = .ok (.iload 5, 2) := by decide +kernel
theorem dL_law__2435 : decode cL_law_ 2435 = .ok (.if_icmp .eq 5, 3) := by decide +kernel
theorem dL_law__2438 : decode cL_law_ 2438 = .ok (.iconst 0, 1) := by decide +kernel
theorem dL_law__2440 : decode cL_law_ 2440 = .ok (.iload 5, 2) := by decide +kernel
theorem dL_law__2442 : decode cL_law_ 2442 = .ok (.ifCond .ne 15, 3) := by decide +kernel
theorem dL_law__2445 : decode cL_law_ 2445 = .ok (.aload_n 3, 1) := by decide +kernel
theorem dL_law__2446 : decode cL_law_ 2446 = .ok (.iconst 0, 1) := by decide +kernel
theorem dL_law__2447 : decode cL_law_ 2447 = .ok (.laload, 1) := by decide +kernel
theorem dL_law__2448 : decode cL_law_ 2448 = .ok (.iload 6, 2) := by decide +kernel
theorem dL_law__2450 : decode cL_law_ 2450 = .ok (.i2l, 1) := by decide +kernel
theorem dL_law__2451 : decode cL_law_ 2451 = .ok (.lcmp, 1) := by decide +kernel
theorem dL_law__2452 : decode cL_law_ 2452 = .ok (.ifCond .eq 5, 3) := by decide +kernel
theorem dL_law__2455 : decode cL_law_ 2455 = .ok (.iconst 0, 1) := by decide +kernel
theorem dL_law__2457 : decode cL_law_ 2457 = .ok (.goto 1076, 3) := by decide +kernel
def m_L_case_32 (xs : Nat → Int) (L : Nat) (kc : Int → D9 → Option R9) (v4 : Int) (d : D9) : Option R9 := scr xs L (v4 + 1) (fun t1 => cz (m_L_stumps t1 d) (fun r2 d3 => scr xs L (v4 + 1) (fun t4 => cz (m_X12_stumps_174 t4 d3) (fun r5 d6 => cz (m_X12_thrown_174 d6) (fun r7 d8 => if w32 r7 = w32 r2 then if w32 r2 ≠ 0 then kc (v4 + 7) d8 else ld d8 194 1 0 (fun t9 => if w64 t9 = w64 (w32 r5) then kc (v4 + 7) d8 else none) else none)))))
set_option maxRecDepth 100000 in
theorem s_L_case_32 {G : G9} {X : X9} (C : CX G X cL_law_ 8 RL [] zL9) (hNc : NC9 (xS X)) {b L : Nat} {xs : Nat → Int} (hSC : SCX G X b L xs) {k n : Nat} (hk : k + 12 ≤ 601024) (hn : n + 80 ≤ 7293034) (kc : Int → D9 → Option R9) (hkc : ∀ (v4 : Int) (d : D9), SS G X 8 (k + 12) (n + 80) 23 [(0, scf b), (1, rf G 0), (2, rf G 174), (3, rf G 194), (4, i9 v4)] [] d (kc v4 d)) : ∀ (v4 : Int) (d : D9), SS G X 8 k n 2404 [(0, scf b), (1, rf G 0), (2, rf G 174), (3, rf G 194), (4, i9 v4)] [] d (m_L_case_32 xs L kc v4 d) := by
  intro v4 d
  unfold m_L_case_32
  refine r_aload_n C 1 dL_law__2404 rfl rfl ?_
  refine r_aload_nC C 0 dL_law__2405 rfl rfl ?_
  refine r_iload C 4 dL_law__2406 rfl ?_
  refine r_iconst C dL_law__2408 ?_
  refine r_iadd C dL_law__2409 ?_
  refine r_scld C hSC dL_law__2410 (fun t1 => ?_)
  refine r_aload_n C 3 dL_law__2411 rfl rfl ?_
  refine r_callHL C hNc [rf G 194, i9 t1, rf G 0] dL_law__2412 (t_L_stumps C.h1 C.h2 t1 d) mwh_L_288 (by decide) (show k + 2 ≤ 601024 by omega) (show n + 12 ≤ 7293034 by omega) rfl rfl (Nat.le_of_ble_eq_true rfl) (fun r2 d3 => ?_)
  show SS G X 8 (k + 2) (n + 12) 2415 [(0, scf b), (1, rf G 0), (2, rf G 174), (3, rf G 194), (4, i9 v4)] [i9 r2] d3 _
  refine r_istore C [(5, i9 r2), (0, scf b), (1, rf G 0), (2, rf G 174), (3, rf G 194), (4, i9 v4)] dL_law__2415 (by decide) rfl ?_
  refine r_aload_n C 3 dL_law__2417 rfl rfl ?_
  refine r_aload_nC C 1 dL_law__2418 rfl rfl ?_
  refine r_iload C 5 dL_law__2419 rfl ?_
  refine r_iconst C dL_law__2421 ?_
  refine r_iadd C dL_law__2422 ?_
  refine r_scld C hSC dL_law__2423 (fun t4 => ?_)
  refine r_callVL C [i9 t4, rf G 174] dL_law__2424 (t_X12_stumps_174 C.h1 C.h2 t4 d3) mw_L_290 mv_X12_stumps la_174 ly_174 rfl (by decide) (show k + 2 + 0 ≤ 601024 by omega) (show n + 12 + 0 ≤ 7293034 by omega) rfl rfl (Nat.le_of_ble_eq_true rfl) (fun r5 d6 => ?_)
  show SS G X 8 (k + 2 + 0) (n + 12 + 0) 2427 [(5, i9 r2), (0, scf b), (1, rf G 0), (2, rf G 174), (3, rf G 194), (4, i9 v4)] [i9 r5] d6 _
  refine r_istore C [(6, i9 r5), (5, i9 r2), (0, scf b), (1, rf G 0), (2, rf G 174), (3, rf G 194), (4, i9 v4)] dL_law__2427 (by decide) rfl ?_
  refine r_aload_n C 4 dL_law__2429 rfl rfl ?_
  refine r_callVL C [rf G 174] dL_law__2430 (t_X12_thrown_174 C.h1 C.h2 d6) mw_L_175 mv_X12_thrown la_174 ly_174 rfl (by decide) (show k + 2 + 0 + 0 ≤ 601024 by omega) (show n + 12 + 0 + 0 ≤ 7293034 by omega) rfl rfl (Nat.le_of_ble_eq_true rfl) (fun r7 d8 => ?_)
  show SS G X 8 (k + 2 + 0 + 0) (n + 12 + 0 + 0) 2433 [(6, i9 r5), (5, i9 r2), (0, scf b), (1, rf G 0), (2, rf G 174), (3, rf G 194), (4, i9 v4)] [i9 r7] d8 _
  refine r_iload C 1 dL_law__2433 rfl ?_
  refine r_icmp_eq C 2440 dL_law__2435 (by decide) (fun _ => ?_) (fun _ => ?_)
  · refine r_iload C 1 dL_law__2440 rfl ?_
    refine r_if_ne C (b := 0) 2457 dL_law__2442 (by decide) (fun _ => ?_) (fun _ => ?_)
    · refine r_goto C 3533 dL_law__2457 (by decide) ?_
      refine r_iinc C 6 [(4, i9 (v4 + 7)), (6, i9 r5), (5, i9 r2), (0, scf b), (1, rf G 0), (2, rf G 174), (3, rf G 194)] dL_law__3533 rfl (by decide) rfl ?_
      refine r_goto C 23 dL_law__3536 (by decide) ?_
      refine ss_wide (k' := k + 12) (n' := n + 80) (show k + 2 + 0 + 0 ≤ k + 12 by omega) (show n + 12 + 0 + 0 ≤ n + 80 by omega) ?_
      refine ss_ls [(0, scf b), (1, rf G 0), (2, rf G 174), (3, rf G 194), (4, i9 (v4 + 7))] [3, 4, 5, 6, 0] rfl ?_
      exact hkc (v4 + 7) d8
    · refine r_aload_n C 5 dL_law__2445 rfl rfl ?_
      refine r_iconst C dL_law__2446 ?_
      refine r_lald C dL_law__2447 la_194 ly_194 (fun t9 => ?_)
      refine r_iload C 0 dL_law__2448 rfl ?_
      refine r_i2l C dL_law__2450 ?_
      refine r_lcmp_eq C 2457 dL_law__2451 dL_law__2452 (by decide) (fun _ => ?_) (fun _ => ?_)
      · refine r_goto C 3533 dL_law__2457 (by decide) ?_
        refine r_iinc C 6 [(4, i9 (v4 + 7)), (6, i9 r5), (5, i9 r2), (0, scf b), (1, rf G 0), (2, rf G 174), (3, rf G 194)] dL_law__3533 rfl (by decide) rfl ?_
        refine r_goto C 23 dL_law__3536 (by decide) ?_
        refine ss_wide (k' := k + 12) (n' := n + 80) (show k + 2 + 0 + 0 ≤ k + 12 by omega) (show n + 12 + 0 + 0 ≤ n + 80 by omega) ?_
        refine ss_ls [(0, scf b), (1, rf G 0), (2, rf G 174), (3, rf G 194), (4, i9 (v4 + 7))] [3, 4, 5, 6, 0] rfl ?_
        exact hkc (v4 + 7) d8
      · refine r_iconst C dL_law__2455 ?_
        exact ss_none
  · refine r_iconst C dL_law__2438 ?_
    exact ss_none
theorem dL_law__2460 : decode cL_law_ 2460 = .ok (.aload_n 1, 1) := by decide +kernel
theorem dL_law__2461 : decode cL_law_ 2461 = .ok (.aload_n 0, 1) := by decide +kernel
theorem dL_law__2462 : decode cL_law_ 2462 = .ok (.iload 4, 2) := by decide +kernel
theorem dL_law__2464 : decode cL_law_ 2464 = .ok (.iconst 1, 1) := by decide +kernel
theorem dL_law__2465 : decode cL_law_ 2465 = .ok (.iadd, 1) := by decide +kernel
theorem dL_law__2466 : decode cL_law_ 2466 = .ok (.iaload, 1) := by decide +kernel
theorem dL_law__2467 : decode cL_law_ 2467 = .ok (.aload_n 0, 1) := by decide +kernel
theorem dL_law__2468 : decode cL_law_ 2468 = .ok (.iload 4, 2) := by decide +kernel
theorem dL_law__2470 : decode cL_law_ 2470 = .ok (.iconst 2, 1) := by decide +kernel
theorem dL_law__2471 : decode cL_law_ 2471 = .ok (.iadd, 1) := by decide +kernel
theorem dL_law__2472 : decode cL_law_ 2472 = .ok (.iaload, 1) := by decide +kernel
theorem dL_law__2473 : decode cL_law_ 2473 = .ok (.aload_n 3, 1) := by decide +kernel
theorem dL_law__2474 : decode cL_law_ 2474 = .ok (.invokestatic 291, 3) := by decide +kernel
theorem dL_law__2477 : decode cL_law_ 2477 = .ok (.istore 5, 2) := by decide +kernel
theorem dL_law__2479 : decode cL_law_ 2479 = .ok (.aload_n 2, 1) := by decide +kernel
theorem dL_law__2480 : decode cL_law_ 2480 = .ok (.aload_n 0, 1) := by decide +kernel
theorem dL_law__2481 : decode cL_law_ 2481 = .ok (.iload 4, 2) := by decide +kernel
theorem dL_law__2483 : decode cL_law_ 2483 = .ok (.iconst 1, 1) := by decide +kernel
theorem dL_law__2484 : decode cL_law_ 2484 = .ok (.iadd, 1) := by decide +kernel
theorem dL_law__2485 : decode cL_law_ 2485 = .ok (.iaload, 1) := by decide +kernel
theorem dL_law__2486 : decode cL_law_ 2486 = .ok (.aload_n 0, 1) := by decide +kernel
theorem dL_law__2487 : decode cL_law_ 2487 = .ok (.iload 4, 2) := by decide +kernel
theorem dL_law__2489 : decode cL_law_ 2489 = .ok (.iconst 2, 1) := by decide +kernel
theorem dL_law__2490 : decode cL_law_ 2490 = .ok (.iadd, 1) := by decide +kernel
theorem dL_law__2491 : decode cL_law_ 2491 = .ok (.iaload, 1) := by decide +kernel
theorem dL_law__2492 : decode cL_law_ 2492 = .ok (.invokevirtual 293, 3) := by decide +kernel
theorem dL_law__2495 : decode cL_law_ 2495 = .ok (.istore 6, 2) := by decide +kernel
theorem dL_law__2497 : decode cL_law_ 2497 = .ok (.aload_n 2, 1) := by decide +kernel
theorem dL_law__2498 : decode cL_law_ 2498 = .ok (.invokevirtual 175, 3) := by decide +kernel
theorem dL_law__2501 : decode cL_law_ 2501 = .ok (.iload 5, 2) := by decide +kernel
theorem dL_law__2503 : decode cL_law_ 2503 = .ok (.if_icmp .eq 5, 3) := by decide +kernel
theorem dL_law__2506 : decode cL_law_ 2506 = .ok (.iconst 0, 1) := by decide +kernel
theorem dL_law__2508 : decode cL_law_ 2508 = .ok (.iload 5, 2) := by decide +kernel
theorem dL_law__2510 : decode cL_law_ 2510 = .ok (.ifCond .ne 22, 3) := by decide +kernel
theorem dL_law__2513 : decode cL_law_ 2513 = .ok (.aload_n 3, 1) := by decide +kernel
theorem dL_law__2514 : decode cL_law_ 2514 = .ok (.iconst 0, 1) := by decide +kernel
theorem dL_law__2515 : decode cL_law_ 2515 = .ok (.laload, 1) := by decide +kernel
theorem dL_law__2516 : decode cL_law_ 2516 = .ok (.iload 6, 2) := by decide +kernel
theorem dL_law__2518 : decode cL_law_ 2518 = .ok (.ifCond .eq 7, 3) := by decide +kernel
theorem dL_law__2521 : decode cL_law_ 2521 = .ok (.lconst 1, 1) := by decide +kernel
theorem dL_law__2522 : decode cL_law_ 2522 = .ok (.goto 4, 3) := by decide +kernel
theorem dL_law__2525 : decode cL_law_ 2525 = .ok (.lconst 0, 1) := by decide +kernel
theorem dL_law__2526 : decode cL_law_ 2526 = .ok (.lcmp, 1) := by decide +kernel
theorem dL_law__2527 : decode cL_law_ 2527 = .ok (.ifCond .eq 5, 3) := by decide +kernel
theorem dL_law__2530 : decode cL_law_ 2530 = .ok (.iconst 0, 1) := by decide +kernel
theorem dL_law__2532 : decode cL_law_ 2532 = .ok (.goto 1001, 3) := by decide +kernel
def m_L_case_33 (xs : Nat → Int) (L : Nat) (kc : Int → D9 → Option R9) (v4 : Int) (d : D9) : Option R9 := scr xs L (v4 + 1) (fun t1 => scr xs L (v4 + 2) (fun t2 => cz (m_L_bent t1 t2 d) (fun r3 d4 => scr xs L (v4 + 1) (fun t5 => scr xs L (v4 + 2) (fun t6 => cz (m_X12_bent_174 t5 t6 d4) (fun r7 d8 => cz (m_X12_thrown_174 d8) (fun r9 d10 => if w32 r9 = w32 r3 then if w32 r3 ≠ 0 then kc (v4 + 7) d10 else ld d10 194 1 0 (fun t11 => if w32 r7 = 0 then if w64 t11 = w64 0 then kc (v4 + 7) d10 else none else if w64 t11 = w64 1 then kc (v4 + 7) d10 else none) else none)))))))
set_option maxRecDepth 100000 in
theorem s_L_case_33 {G : G9} {X : X9} (C : CX G X cL_law_ 8 RL [] zL9) (hNc : NC9 (xS X)) {b L : Nat} {xs : Nat → Int} (hSC : SCX G X b L xs) {k n : Nat} (hk : k + 12 ≤ 601024) (hn : n + 80 ≤ 7293034) (kc : Int → D9 → Option R9) (hkc : ∀ (v4 : Int) (d : D9), SS G X 8 (k + 12) (n + 80) 23 [(0, scf b), (1, rf G 0), (2, rf G 174), (3, rf G 194), (4, i9 v4)] [] d (kc v4 d)) : ∀ (v4 : Int) (d : D9), SS G X 8 k n 2460 [(0, scf b), (1, rf G 0), (2, rf G 174), (3, rf G 194), (4, i9 v4)] [] d (m_L_case_33 xs L kc v4 d) := by
  intro v4 d
  unfold m_L_case_33
  refine r_aload_n C 1 dL_law__2460 rfl rfl ?_
  refine r_aload_nC C 0 dL_law__2461 rfl rfl ?_
  refine r_iload C 4 dL_law__2462 rfl ?_
  refine r_iconst C dL_law__2464 ?_
  refine r_iadd C dL_law__2465 ?_
  refine r_scld C hSC dL_law__2466 (fun t1 => ?_)
  refine r_aload_nC C 0 dL_law__2467 rfl rfl ?_
  refine r_iload C 4 dL_law__2468 rfl ?_
  refine r_iconst C dL_law__2470 ?_
  refine r_iadd C dL_law__2471 ?_
  refine r_scld C hSC dL_law__2472 (fun t2 => ?_)
  refine r_aload_n C 3 dL_law__2473 rfl rfl ?_
  refine r_callHL C hNc [rf G 194, i9 t2, i9 t1, rf G 0] dL_law__2474 (t_L_bent C.h1 C.h2 t1 t2 d) mwh_L_291 (by decide) (show k + 3 ≤ 601024 by omega) (show n + 18 ≤ 7293034 by omega) rfl rfl (Nat.le_of_ble_eq_true rfl) (fun r3 d4 => ?_)
  show SS G X 8 (k + 3) (n + 18) 2477 [(0, scf b), (1, rf G 0), (2, rf G 174), (3, rf G 194), (4, i9 v4)] [i9 r3] d4 _
  refine r_istore C [(5, i9 r3), (0, scf b), (1, rf G 0), (2, rf G 174), (3, rf G 194), (4, i9 v4)] dL_law__2477 (by decide) rfl ?_
  refine r_aload_n C 3 dL_law__2479 rfl rfl ?_
  refine r_aload_nC C 1 dL_law__2480 rfl rfl ?_
  refine r_iload C 5 dL_law__2481 rfl ?_
  refine r_iconst C dL_law__2483 ?_
  refine r_iadd C dL_law__2484 ?_
  refine r_scld C hSC dL_law__2485 (fun t5 => ?_)
  refine r_aload_nC C 1 dL_law__2486 rfl rfl ?_
  refine r_iload C 5 dL_law__2487 rfl ?_
  refine r_iconst C dL_law__2489 ?_
  refine r_iadd C dL_law__2490 ?_
  refine r_scld C hSC dL_law__2491 (fun t6 => ?_)
  refine r_callVL C [i9 t6, i9 t5, rf G 174] dL_law__2492 (t_X12_bent_174 C.h1 C.h2 t5 t6 d4) mw_L_293 mv_X12_bent la_174 ly_174 rfl (by decide) (show k + 3 + 0 ≤ 601024 by omega) (show n + 18 + 0 ≤ 7293034 by omega) rfl rfl (Nat.le_of_ble_eq_true rfl) (fun r7 d8 => ?_)
  show SS G X 8 (k + 3 + 0) (n + 18 + 0) 2495 [(5, i9 r3), (0, scf b), (1, rf G 0), (2, rf G 174), (3, rf G 194), (4, i9 v4)] [i9 r7] d8 _
  refine r_istore C [(6, i9 r7), (5, i9 r3), (0, scf b), (1, rf G 0), (2, rf G 174), (3, rf G 194), (4, i9 v4)] dL_law__2495 (by decide) rfl ?_
  refine r_aload_n C 4 dL_law__2497 rfl rfl ?_
  refine r_callVL C [rf G 174] dL_law__2498 (t_X12_thrown_174 C.h1 C.h2 d8) mw_L_175 mv_X12_thrown la_174 ly_174 rfl (by decide) (show k + 3 + 0 + 0 ≤ 601024 by omega) (show n + 18 + 0 + 0 ≤ 7293034 by omega) rfl rfl (Nat.le_of_ble_eq_true rfl) (fun r9 d10 => ?_)
  show SS G X 8 (k + 3 + 0 + 0) (n + 18 + 0 + 0) 2501 [(6, i9 r7), (5, i9 r3), (0, scf b), (1, rf G 0), (2, rf G 174), (3, rf G 194), (4, i9 v4)] [i9 r9] d10 _
  refine r_iload C 1 dL_law__2501 rfl ?_
  refine r_icmp_eq C 2508 dL_law__2503 (by decide) (fun _ => ?_) (fun _ => ?_)
  · refine r_iload C 1 dL_law__2508 rfl ?_
    refine r_if_ne C (b := 0) 2532 dL_law__2510 (by decide) (fun _ => ?_) (fun _ => ?_)
    · refine r_goto C 3533 dL_law__2532 (by decide) ?_
      refine r_iinc C 6 [(4, i9 (v4 + 7)), (6, i9 r7), (5, i9 r3), (0, scf b), (1, rf G 0), (2, rf G 174), (3, rf G 194)] dL_law__3533 rfl (by decide) rfl ?_
      refine r_goto C 23 dL_law__3536 (by decide) ?_
      refine ss_wide (k' := k + 12) (n' := n + 80) (show k + 3 + 0 + 0 ≤ k + 12 by omega) (show n + 18 + 0 + 0 ≤ n + 80 by omega) ?_
      refine ss_ls [(0, scf b), (1, rf G 0), (2, rf G 174), (3, rf G 194), (4, i9 (v4 + 7))] [3, 4, 5, 6, 0] rfl ?_
      exact hkc (v4 + 7) d10
    · refine r_aload_n C 5 dL_law__2513 rfl rfl ?_
      refine r_iconst C dL_law__2514 ?_
      refine r_lald C dL_law__2515 la_194 ly_194 (fun t11 => ?_)
      refine r_iload C 0 dL_law__2516 rfl ?_
      refine r_if_eq C (b := 0) 2525 dL_law__2518 (by decide) (fun _ => ?_) (fun _ => ?_)
      · refine r_lconst C dL_law__2525 (a := 0) rfl ?_
        refine r_lcmp_eq C 2532 dL_law__2526 dL_law__2527 (by decide) (fun _ => ?_) (fun _ => ?_)
        · refine r_goto C 3533 dL_law__2532 (by decide) ?_
          refine r_iinc C 6 [(4, i9 (v4 + 7)), (6, i9 r7), (5, i9 r3), (0, scf b), (1, rf G 0), (2, rf G 174), (3, rf G 194)] dL_law__3533 rfl (by decide) rfl ?_
          refine r_goto C 23 dL_law__3536 (by decide) ?_
          refine ss_wide (k' := k + 12) (n' := n + 80) (show k + 3 + 0 + 0 ≤ k + 12 by omega) (show n + 18 + 0 + 0 ≤ n + 80 by omega) ?_
          refine ss_ls [(0, scf b), (1, rf G 0), (2, rf G 174), (3, rf G 194), (4, i9 (v4 + 7))] [3, 4, 5, 6, 0] rfl ?_
          exact hkc (v4 + 7) d10
        · refine r_iconst C dL_law__2530 ?_
          exact ss_none
      · refine r_lconst C dL_law__2521 (a := 1) rfl ?_
        refine r_goto C 2526 dL_law__2522 (by decide) ?_
        refine r_lcmp_eq C 2532 dL_law__2526 dL_law__2527 (by decide) (fun _ => ?_) (fun _ => ?_)
        · refine r_goto C 3533 dL_law__2532 (by decide) ?_
          refine r_iinc C 6 [(4, i9 (v4 + 7)), (6, i9 r7), (5, i9 r3), (0, scf b), (1, rf G 0), (2, rf G 174), (3, rf G 194)] dL_law__3533 rfl (by decide) rfl ?_
          refine r_goto C 23 dL_law__3536 (by decide) ?_
          refine ss_wide (k' := k + 12) (n' := n + 80) (show k + 3 + 0 + 0 ≤ k + 12 by omega) (show n + 18 + 0 + 0 ≤ n + 80 by omega) ?_
          refine ss_ls [(0, scf b), (1, rf G 0), (2, rf G 174), (3, rf G 194), (4, i9 (v4 + 7))] [3, 4, 5, 6, 0] rfl ?_
          exact hkc (v4 + 7) d10
        · refine r_iconst C dL_law__2530 ?_
          exact ss_none
  · refine r_iconst C dL_law__2506 ?_
    exact ss_none
theorem dL_law__2535 : decode cL_law_ 2535 = .ok (.aload_n 1, 1) := by decide +kernel
theorem dL_law__2536 : decode cL_law_ 2536 = .ok (.aload_n 0, 1) := by decide +kernel
theorem dL_law__2537 : decode cL_law_ 2537 = .ok (.iload 4, 2) := by decide +kernel
theorem dL_law__2539 : decode cL_law_ 2539 = .ok (.iconst 1, 1) := by decide +kernel
theorem dL_law__2540 : decode cL_law_ 2540 = .ok (.iadd, 1) := by decide +kernel
theorem dL_law__2541 : decode cL_law_ 2541 = .ok (.iaload, 1) := by decide +kernel
theorem dL_law__2542 : decode cL_law_ 2542 = .ok (.ifCond .eq 7, 3) := by decide +kernel
theorem dL_law__2545 : decode cL_law_ 2545 = .ok (.iconst 1, 1) := by decide +kernel
theorem dL_law__2546 : decode cL_law_ 2546 = .ok (.goto 4, 3) := by decide +kernel
theorem dL_law__2549 : decode cL_law_ 2549 = .ok (.iconst 0, 1) := by decide +kernel
theorem dL_law__2550 : decode cL_law_ 2550 = .ok (.aload_n 0, 1) := by decide +kernel
theorem dL_law__2551 : decode cL_law_ 2551 = .ok (.iload 4, 2) := by decide +kernel
theorem dL_law__2553 : decode cL_law_ 2553 = .ok (.iconst 2, 1) := by decide +kernel
theorem dL_law__2554 : decode cL_law_ 2554 = .ok (.iadd, 1) := by decide +kernel
theorem dL_law__2555 : decode cL_law_ 2555 = .ok (.iaload, 1) := by decide +kernel
theorem dL_law__2556 : decode cL_law_ 2556 = .ok (.aload_n 3, 1) := by decide +kernel
theorem dL_law__2557 : decode cL_law_ 2557 = .ok (.invokestatic 294, 3) := by decide +kernel
theorem dL_law__2560 : decode cL_law_ 2560 = .ok (.istore 5, 2) := by decide +kernel
theorem dL_law__2562 : decode cL_law_ 2562 = .ok (.aload_n 2, 1) := by decide +kernel
theorem dL_law__2563 : decode cL_law_ 2563 = .ok (.aload_n 0, 1) := by decide +kernel
theorem dL_law__2564 : decode cL_law_ 2564 = .ok (.iload 4, 2) := by decide +kernel
theorem dL_law__2566 : decode cL_law_ 2566 = .ok (.iconst 1, 1) := by decide +kernel
theorem dL_law__2567 : decode cL_law_ 2567 = .ok (.iadd, 1) := by decide +kernel
theorem dL_law__2568 : decode cL_law_ 2568 = .ok (.iaload, 1) := by decide +kernel
theorem dL_law__2569 : decode cL_law_ 2569 = .ok (.ifCond .eq 7, 3) := by decide +kernel
theorem dL_law__2572 : decode cL_law_ 2572 = .ok (.iconst 1, 1) := by decide +kernel
theorem dL_law__2573 : decode cL_law_ 2573 = .ok (.goto 4, 3) := by decide +kernel
theorem dL_law__2576 : decode cL_law_ 2576 = .ok (.iconst 0, 1) := by decide +kernel
theorem dL_law__2577 : decode cL_law_ 2577 = .ok (.aload_n 0, 1) := by decide +kernel
theorem dL_law__2578 : decode cL_law_ 2578 = .ok (.iload 4, 2) := by decide +kernel
theorem dL_law__2580 : decode cL_law_ 2580 = .ok (.iconst 2, 1) := by decide +kernel
theorem dL_law__2581 : decode cL_law_ 2581 = .ok (.iadd, 1) := by decide +kernel
theorem dL_law__2582 : decode cL_law_ 2582 = .ok (.iaload, 1) := by decide +kernel
theorem dL_law__2583 : decode cL_law_ 2583 = .ok (.invokevirtual 297, 3) := by decide +kernel
theorem dL_law__2586 : decode cL_law_ 2586 = .ok (.istore 6, 2) := by decide +kernel
theorem dL_law__2588 : decode cL_law_ 2588 = .ok (.aload_n 2, 1) := by decide +kernel
theorem dL_law__2589 : decode cL_law_ 2589 = .ok (.invokevirtual 175, 3) := by decide +kernel
theorem dL_law__2592 : decode cL_law_ 2592 = .ok (.iload 5, 2) := by decide +kernel
theorem dL_law__2594 : decode cL_law_ 2594 = .ok (.if_icmp .eq 5, 3) := by decide +kernel
theorem dL_law__2597 : decode cL_law_ 2597 = .ok (.iconst 0, 1) := by decide +kernel
theorem dL_law__2599 : decode cL_law_ 2599 = .ok (.iload 5, 2) := by decide +kernel
theorem dL_law__2601 : decode cL_law_ 2601 = .ok (.ifCond .ne 22, 3) := by decide +kernel
theorem dL_law__2604 : decode cL_law_ 2604 = .ok (.aload_n 3, 1) := by decide +kernel
theorem dL_law__2605 : decode cL_law_ 2605 = .ok (.iconst 0, 1) := by decide +kernel
theorem dL_law__2606 : decode cL_law_ 2606 = .ok (.laload, 1) := by decide +kernel
theorem dL_law__2607 : decode cL_law_ 2607 = .ok (.iload 6, 2) := by decide +kernel
theorem dL_law__2609 : decode cL_law_ 2609 = .ok (.ifCond .eq 7, 3) := by decide +kernel
theorem dL_law__2612 : decode cL_law_ 2612 = .ok (.lconst 1, 1) := by decide +kernel
theorem dL_law__2613 : decode cL_law_ 2613 = .ok (.goto 4, 3) := by decide +kernel
theorem dL_law__2616 : decode cL_law_ 2616 = .ok (.lconst 0, 1) := by decide +kernel
theorem dL_law__2617 : decode cL_law_ 2617 = .ok (.lcmp, 1) := by decide +kernel
theorem dL_law__2618 : decode cL_law_ 2618 = .ok (.ifCond .eq 5, 3) := by decide +kernel
theorem dL_law__2621 : decode cL_law_ 2621 = .ok (.iconst 0, 1) := by decide +kernel
theorem dL_law__2623 : decode cL_law_ 2623 = .ok (.goto 910, 3) := by decide +kernel
def m_L_case_34 (xs : Nat → Int) (L : Nat) (kc : Int → D9 → Option R9) (v4 : Int) (d : D9) : Option R9 := scr xs L (v4 + 1) (fun t1 => if w32 t1 = 0 then scr xs L (v4 + 2) (fun t2 => cz (m_L_weights 0 t2 d) (fun r3 d4 => scr xs L (v4 + 1) (fun t5 => if w32 t5 = 0 then scr xs L (v4 + 2) (fun t6 => cz (m_X12_weights_174 0 t6 d4) (fun r7 d8 => cz (m_X12_thrown_174 d8) (fun r9 d10 => if w32 r9 = w32 r3 then if w32 r3 ≠ 0 then kc (v4 + 7) d10 else ld d10 194 1 0 (fun t11 => if w32 r7 = 0 then if w64 t11 = w64 0 then kc (v4 + 7) d10 else none else if w64 t11 = w64 1 then kc (v4 + 7) d10 else none) else none))) else scr xs L (v4 + 2) (fun t12 => cz (m_X12_weights_174 1 t12 d4) (fun r13 d14 => cz (m_X12_thrown_174 d14) (fun r15 d16 => if w32 r15 = w32 r3 then if w32 r3 ≠ 0 then kc (v4 + 7) d16 else ld d16 194 1 0 (fun t17 => if w32 r13 = 0 then if w64 t17 = w64 0 then kc (v4 + 7) d16 else none else if w64 t17 = w64 1 then kc (v4 + 7) d16 else none) else none)))))) else scr xs L (v4 + 2) (fun t18 => cz (m_L_weights 1 t18 d) (fun r19 d20 => scr xs L (v4 + 1) (fun t21 => if w32 t21 = 0 then scr xs L (v4 + 2) (fun t22 => cz (m_X12_weights_174 0 t22 d20) (fun r23 d24 => cz (m_X12_thrown_174 d24) (fun r25 d26 => if w32 r25 = w32 r19 then if w32 r19 ≠ 0 then kc (v4 + 7) d26 else ld d26 194 1 0 (fun t27 => if w32 r23 = 0 then if w64 t27 = w64 0 then kc (v4 + 7) d26 else none else if w64 t27 = w64 1 then kc (v4 + 7) d26 else none) else none))) else scr xs L (v4 + 2) (fun t28 => cz (m_X12_weights_174 1 t28 d20) (fun r29 d30 => cz (m_X12_thrown_174 d30) (fun r31 d32 => if w32 r31 = w32 r19 then if w32 r19 ≠ 0 then kc (v4 + 7) d32 else ld d32 194 1 0 (fun t33 => if w32 r29 = 0 then if w64 t33 = w64 0 then kc (v4 + 7) d32 else none else if w64 t33 = w64 1 then kc (v4 + 7) d32 else none) else none)))))))
set_option maxRecDepth 100000 in
theorem s_L_case_34 {G : G9} {X : X9} (C : CX G X cL_law_ 8 RL [] zL9) (hNc : NC9 (xS X)) {b L : Nat} {xs : Nat → Int} (hSC : SCX G X b L xs) {k n : Nat} (hk : k + 12 ≤ 601024) (hn : n + 80 ≤ 7293034) (kc : Int → D9 → Option R9) (hkc : ∀ (v4 : Int) (d : D9), SS G X 8 (k + 12) (n + 80) 23 [(0, scf b), (1, rf G 0), (2, rf G 174), (3, rf G 194), (4, i9 v4)] [] d (kc v4 d)) : ∀ (v4 : Int) (d : D9), SS G X 8 k n 2535 [(0, scf b), (1, rf G 0), (2, rf G 174), (3, rf G 194), (4, i9 v4)] [] d (m_L_case_34 xs L kc v4 d) := by
  intro v4 d
  unfold m_L_case_34
  refine r_aload_n C 1 dL_law__2535 rfl rfl ?_
  refine r_aload_nC C 0 dL_law__2536 rfl rfl ?_
  refine r_iload C 4 dL_law__2537 rfl ?_
  refine r_iconst C dL_law__2539 ?_
  refine r_iadd C dL_law__2540 ?_
  refine r_scld C hSC dL_law__2541 (fun t1 => ?_)
  refine r_if_eq C (b := 0) 2549 dL_law__2542 (by decide) (fun _ => ?_) (fun _ => ?_)
  · refine r_iconst C dL_law__2549 ?_
    refine r_aload_nC C 0 dL_law__2550 rfl rfl ?_
    refine r_iload C 4 dL_law__2551 rfl ?_
    refine r_iconst C dL_law__2553 ?_
    refine r_iadd C dL_law__2554 ?_
    refine r_scld C hSC dL_law__2555 (fun t2 => ?_)
    refine r_aload_n C 3 dL_law__2556 rfl rfl ?_
    refine r_callHL C hNc [rf G 194, i9 t2, i9 0, rf G 0] dL_law__2557 (t_L_weights C.h1 C.h2 0 t2 d) mwh_L_294 (by decide) (show k + 2 ≤ 601024 by omega) (show n + 12 ≤ 7293034 by omega) rfl rfl (Nat.le_of_ble_eq_true rfl) (fun r3 d4 => ?_)
    show SS G X 8 (k + 2) (n + 12) 2560 [(0, scf b), (1, rf G 0), (2, rf G 174), (3, rf G 194), (4, i9 v4)] [i9 r3] d4 _
    refine r_istore C [(5, i9 r3), (0, scf b), (1, rf G 0), (2, rf G 174), (3, rf G 194), (4, i9 v4)] dL_law__2560 (by decide) rfl ?_
    refine r_aload_n C 3 dL_law__2562 rfl rfl ?_
    refine r_aload_nC C 1 dL_law__2563 rfl rfl ?_
    refine r_iload C 5 dL_law__2564 rfl ?_
    refine r_iconst C dL_law__2566 ?_
    refine r_iadd C dL_law__2567 ?_
    refine r_scld C hSC dL_law__2568 (fun t5 => ?_)
    refine r_if_eq C (b := 0) 2576 dL_law__2569 (by decide) (fun _ => ?_) (fun _ => ?_)
    · refine r_iconst C dL_law__2576 ?_
      refine r_aload_nC C 1 dL_law__2577 rfl rfl ?_
      refine r_iload C 5 dL_law__2578 rfl ?_
      refine r_iconst C dL_law__2580 ?_
      refine r_iadd C dL_law__2581 ?_
      refine r_scld C hSC dL_law__2582 (fun t6 => ?_)
      refine r_callVL C [i9 t6, i9 0, rf G 174] dL_law__2583 (t_X12_weights_174 C.h1 C.h2 0 t6 d4) mw_L_297 mv_X12_weights la_174 ly_174 rfl (by decide) (show k + 2 + 0 ≤ 601024 by omega) (show n + 12 + 0 ≤ 7293034 by omega) rfl rfl (Nat.le_of_ble_eq_true rfl) (fun r7 d8 => ?_)
      show SS G X 8 (k + 2 + 0) (n + 12 + 0) 2586 [(5, i9 r3), (0, scf b), (1, rf G 0), (2, rf G 174), (3, rf G 194), (4, i9 v4)] [i9 r7] d8 _
      refine r_istore C [(6, i9 r7), (5, i9 r3), (0, scf b), (1, rf G 0), (2, rf G 174), (3, rf G 194), (4, i9 v4)] dL_law__2586 (by decide) rfl ?_
      refine r_aload_n C 4 dL_law__2588 rfl rfl ?_
      refine r_callVL C [rf G 174] dL_law__2589 (t_X12_thrown_174 C.h1 C.h2 d8) mw_L_175 mv_X12_thrown la_174 ly_174 rfl (by decide) (show k + 2 + 0 + 0 ≤ 601024 by omega) (show n + 12 + 0 + 0 ≤ 7293034 by omega) rfl rfl (Nat.le_of_ble_eq_true rfl) (fun r9 d10 => ?_)
      show SS G X 8 (k + 2 + 0 + 0) (n + 12 + 0 + 0) 2592 [(6, i9 r7), (5, i9 r3), (0, scf b), (1, rf G 0), (2, rf G 174), (3, rf G 194), (4, i9 v4)] [i9 r9] d10 _
      refine r_iload C 1 dL_law__2592 rfl ?_
      refine r_icmp_eq C 2599 dL_law__2594 (by decide) (fun _ => ?_) (fun _ => ?_)
      · refine r_iload C 1 dL_law__2599 rfl ?_
        refine r_if_ne C (b := 0) 2623 dL_law__2601 (by decide) (fun _ => ?_) (fun _ => ?_)
        · refine r_goto C 3533 dL_law__2623 (by decide) ?_
          refine r_iinc C 6 [(4, i9 (v4 + 7)), (6, i9 r7), (5, i9 r3), (0, scf b), (1, rf G 0), (2, rf G 174), (3, rf G 194)] dL_law__3533 rfl (by decide) rfl ?_
          refine r_goto C 23 dL_law__3536 (by decide) ?_
          refine ss_wide (k' := k + 12) (n' := n + 80) (show k + 2 + 0 + 0 ≤ k + 12 by omega) (show n + 12 + 0 + 0 ≤ n + 80 by omega) ?_
          refine ss_ls [(0, scf b), (1, rf G 0), (2, rf G 174), (3, rf G 194), (4, i9 (v4 + 7))] [3, 4, 5, 6, 0] rfl ?_
          exact hkc (v4 + 7) d10
        · refine r_aload_n C 5 dL_law__2604 rfl rfl ?_
          refine r_iconst C dL_law__2605 ?_
          refine r_lald C dL_law__2606 la_194 ly_194 (fun t11 => ?_)
          refine r_iload C 0 dL_law__2607 rfl ?_
          refine r_if_eq C (b := 0) 2616 dL_law__2609 (by decide) (fun _ => ?_) (fun _ => ?_)
          · refine r_lconst C dL_law__2616 (a := 0) rfl ?_
            refine r_lcmp_eq C 2623 dL_law__2617 dL_law__2618 (by decide) (fun _ => ?_) (fun _ => ?_)
            · refine r_goto C 3533 dL_law__2623 (by decide) ?_
              refine r_iinc C 6 [(4, i9 (v4 + 7)), (6, i9 r7), (5, i9 r3), (0, scf b), (1, rf G 0), (2, rf G 174), (3, rf G 194)] dL_law__3533 rfl (by decide) rfl ?_
              refine r_goto C 23 dL_law__3536 (by decide) ?_
              refine ss_wide (k' := k + 12) (n' := n + 80) (show k + 2 + 0 + 0 ≤ k + 12 by omega) (show n + 12 + 0 + 0 ≤ n + 80 by omega) ?_
              refine ss_ls [(0, scf b), (1, rf G 0), (2, rf G 174), (3, rf G 194), (4, i9 (v4 + 7))] [3, 4, 5, 6, 0] rfl ?_
              exact hkc (v4 + 7) d10
            · refine r_iconst C dL_law__2621 ?_
              exact ss_none
          · refine r_lconst C dL_law__2612 (a := 1) rfl ?_
            refine r_goto C 2617 dL_law__2613 (by decide) ?_
            refine r_lcmp_eq C 2623 dL_law__2617 dL_law__2618 (by decide) (fun _ => ?_) (fun _ => ?_)
            · refine r_goto C 3533 dL_law__2623 (by decide) ?_
              refine r_iinc C 6 [(4, i9 (v4 + 7)), (6, i9 r7), (5, i9 r3), (0, scf b), (1, rf G 0), (2, rf G 174), (3, rf G 194)] dL_law__3533 rfl (by decide) rfl ?_
              refine r_goto C 23 dL_law__3536 (by decide) ?_
              refine ss_wide (k' := k + 12) (n' := n + 80) (show k + 2 + 0 + 0 ≤ k + 12 by omega) (show n + 12 + 0 + 0 ≤ n + 80 by omega) ?_
              refine ss_ls [(0, scf b), (1, rf G 0), (2, rf G 174), (3, rf G 194), (4, i9 (v4 + 7))] [3, 4, 5, 6, 0] rfl ?_
              exact hkc (v4 + 7) d10
            · refine r_iconst C dL_law__2621 ?_
              exact ss_none
      · refine r_iconst C dL_law__2597 ?_
        exact ss_none
    · refine r_iconst C dL_law__2572 ?_
      refine r_goto C 2577 dL_law__2573 (by decide) ?_
      refine r_aload_nC C 1 dL_law__2577 rfl rfl ?_
      refine r_iload C 5 dL_law__2578 rfl ?_
      refine r_iconst C dL_law__2580 ?_
      refine r_iadd C dL_law__2581 ?_
      refine r_scld C hSC dL_law__2582 (fun t12 => ?_)
      refine r_callVL C [i9 t12, i9 1, rf G 174] dL_law__2583 (t_X12_weights_174 C.h1 C.h2 1 t12 d4) mw_L_297 mv_X12_weights la_174 ly_174 rfl (by decide) (show k + 2 + 0 ≤ 601024 by omega) (show n + 12 + 0 ≤ 7293034 by omega) rfl rfl (Nat.le_of_ble_eq_true rfl) (fun r13 d14 => ?_)
      show SS G X 8 (k + 2 + 0) (n + 12 + 0) 2586 [(5, i9 r3), (0, scf b), (1, rf G 0), (2, rf G 174), (3, rf G 194), (4, i9 v4)] [i9 r13] d14 _
      refine r_istore C [(6, i9 r13), (5, i9 r3), (0, scf b), (1, rf G 0), (2, rf G 174), (3, rf G 194), (4, i9 v4)] dL_law__2586 (by decide) rfl ?_
      refine r_aload_n C 4 dL_law__2588 rfl rfl ?_
      refine r_callVL C [rf G 174] dL_law__2589 (t_X12_thrown_174 C.h1 C.h2 d14) mw_L_175 mv_X12_thrown la_174 ly_174 rfl (by decide) (show k + 2 + 0 + 0 ≤ 601024 by omega) (show n + 12 + 0 + 0 ≤ 7293034 by omega) rfl rfl (Nat.le_of_ble_eq_true rfl) (fun r15 d16 => ?_)
      show SS G X 8 (k + 2 + 0 + 0) (n + 12 + 0 + 0) 2592 [(6, i9 r13), (5, i9 r3), (0, scf b), (1, rf G 0), (2, rf G 174), (3, rf G 194), (4, i9 v4)] [i9 r15] d16 _
      refine r_iload C 1 dL_law__2592 rfl ?_
      refine r_icmp_eq C 2599 dL_law__2594 (by decide) (fun _ => ?_) (fun _ => ?_)
      · refine r_iload C 1 dL_law__2599 rfl ?_
        refine r_if_ne C (b := 0) 2623 dL_law__2601 (by decide) (fun _ => ?_) (fun _ => ?_)
        · refine r_goto C 3533 dL_law__2623 (by decide) ?_
          refine r_iinc C 6 [(4, i9 (v4 + 7)), (6, i9 r13), (5, i9 r3), (0, scf b), (1, rf G 0), (2, rf G 174), (3, rf G 194)] dL_law__3533 rfl (by decide) rfl ?_
          refine r_goto C 23 dL_law__3536 (by decide) ?_
          refine ss_wide (k' := k + 12) (n' := n + 80) (show k + 2 + 0 + 0 ≤ k + 12 by omega) (show n + 12 + 0 + 0 ≤ n + 80 by omega) ?_
          refine ss_ls [(0, scf b), (1, rf G 0), (2, rf G 174), (3, rf G 194), (4, i9 (v4 + 7))] [3, 4, 5, 6, 0] rfl ?_
          exact hkc (v4 + 7) d16
        · refine r_aload_n C 5 dL_law__2604 rfl rfl ?_
          refine r_iconst C dL_law__2605 ?_
          refine r_lald C dL_law__2606 la_194 ly_194 (fun t17 => ?_)
          refine r_iload C 0 dL_law__2607 rfl ?_
          refine r_if_eq C (b := 0) 2616 dL_law__2609 (by decide) (fun _ => ?_) (fun _ => ?_)
          · refine r_lconst C dL_law__2616 (a := 0) rfl ?_
            refine r_lcmp_eq C 2623 dL_law__2617 dL_law__2618 (by decide) (fun _ => ?_) (fun _ => ?_)
            · refine r_goto C 3533 dL_law__2623 (by decide) ?_
              refine r_iinc C 6 [(4, i9 (v4 + 7)), (6, i9 r13), (5, i9 r3), (0, scf b), (1, rf G 0), (2, rf G 174), (3, rf G 194)] dL_law__3533 rfl (by decide) rfl ?_
              refine r_goto C 23 dL_law__3536 (by decide) ?_
              refine ss_wide (k' := k + 12) (n' := n + 80) (show k + 2 + 0 + 0 ≤ k + 12 by omega) (show n + 12 + 0 + 0 ≤ n + 80 by omega) ?_
              refine ss_ls [(0, scf b), (1, rf G 0), (2, rf G 174), (3, rf G 194), (4, i9 (v4 + 7))] [3, 4, 5, 6, 0] rfl ?_
              exact hkc (v4 + 7) d16
            · refine r_iconst C dL_law__2621 ?_
              exact ss_none
          · refine r_lconst C dL_law__2612 (a := 1) rfl ?_
            refine r_goto C 2617 dL_law__2613 (by decide) ?_
            refine r_lcmp_eq C 2623 dL_law__2617 dL_law__2618 (by decide) (fun _ => ?_) (fun _ => ?_)
            · refine r_goto C 3533 dL_law__2623 (by decide) ?_
              refine r_iinc C 6 [(4, i9 (v4 + 7)), (6, i9 r13), (5, i9 r3), (0, scf b), (1, rf G 0), (2, rf G 174), (3, rf G 194)] dL_law__3533 rfl (by decide) rfl ?_
              refine r_goto C 23 dL_law__3536 (by decide) ?_
              refine ss_wide (k' := k + 12) (n' := n + 80) (show k + 2 + 0 + 0 ≤ k + 12 by omega) (show n + 12 + 0 + 0 ≤ n + 80 by omega) ?_
              refine ss_ls [(0, scf b), (1, rf G 0), (2, rf G 174), (3, rf G 194), (4, i9 (v4 + 7))] [3, 4, 5, 6, 0] rfl ?_
              exact hkc (v4 + 7) d16
            · refine r_iconst C dL_law__2621 ?_
              exact ss_none
      · refine r_iconst C dL_law__2597 ?_
        exact ss_none
  · refine r_iconst C dL_law__2545 ?_
    refine r_goto C 2550 dL_law__2546 (by decide) ?_
    refine r_aload_nC C 0 dL_law__2550 rfl rfl ?_
    refine r_iload C 4 dL_law__2551 rfl ?_
    refine r_iconst C dL_law__2553 ?_
    refine r_iadd C dL_law__2554 ?_
    refine r_scld C hSC dL_law__2555 (fun t18 => ?_)
    refine r_aload_n C 3 dL_law__2556 rfl rfl ?_
    refine r_callHL C hNc [rf G 194, i9 t18, i9 1, rf G 0] dL_law__2557 (t_L_weights C.h1 C.h2 1 t18 d) mwh_L_294 (by decide) (show k + 2 ≤ 601024 by omega) (show n + 12 ≤ 7293034 by omega) rfl rfl (Nat.le_of_ble_eq_true rfl) (fun r19 d20 => ?_)
    show SS G X 8 (k + 2) (n + 12) 2560 [(0, scf b), (1, rf G 0), (2, rf G 174), (3, rf G 194), (4, i9 v4)] [i9 r19] d20 _
    refine r_istore C [(5, i9 r19), (0, scf b), (1, rf G 0), (2, rf G 174), (3, rf G 194), (4, i9 v4)] dL_law__2560 (by decide) rfl ?_
    refine r_aload_n C 3 dL_law__2562 rfl rfl ?_
    refine r_aload_nC C 1 dL_law__2563 rfl rfl ?_
    refine r_iload C 5 dL_law__2564 rfl ?_
    refine r_iconst C dL_law__2566 ?_
    refine r_iadd C dL_law__2567 ?_
    refine r_scld C hSC dL_law__2568 (fun t21 => ?_)
    refine r_if_eq C (b := 0) 2576 dL_law__2569 (by decide) (fun _ => ?_) (fun _ => ?_)
    · refine r_iconst C dL_law__2576 ?_
      refine r_aload_nC C 1 dL_law__2577 rfl rfl ?_
      refine r_iload C 5 dL_law__2578 rfl ?_
      refine r_iconst C dL_law__2580 ?_
      refine r_iadd C dL_law__2581 ?_
      refine r_scld C hSC dL_law__2582 (fun t22 => ?_)
      refine r_callVL C [i9 t22, i9 0, rf G 174] dL_law__2583 (t_X12_weights_174 C.h1 C.h2 0 t22 d20) mw_L_297 mv_X12_weights la_174 ly_174 rfl (by decide) (show k + 2 + 0 ≤ 601024 by omega) (show n + 12 + 0 ≤ 7293034 by omega) rfl rfl (Nat.le_of_ble_eq_true rfl) (fun r23 d24 => ?_)
      show SS G X 8 (k + 2 + 0) (n + 12 + 0) 2586 [(5, i9 r19), (0, scf b), (1, rf G 0), (2, rf G 174), (3, rf G 194), (4, i9 v4)] [i9 r23] d24 _
      refine r_istore C [(6, i9 r23), (5, i9 r19), (0, scf b), (1, rf G 0), (2, rf G 174), (3, rf G 194), (4, i9 v4)] dL_law__2586 (by decide) rfl ?_
      refine r_aload_n C 4 dL_law__2588 rfl rfl ?_
      refine r_callVL C [rf G 174] dL_law__2589 (t_X12_thrown_174 C.h1 C.h2 d24) mw_L_175 mv_X12_thrown la_174 ly_174 rfl (by decide) (show k + 2 + 0 + 0 ≤ 601024 by omega) (show n + 12 + 0 + 0 ≤ 7293034 by omega) rfl rfl (Nat.le_of_ble_eq_true rfl) (fun r25 d26 => ?_)
      show SS G X 8 (k + 2 + 0 + 0) (n + 12 + 0 + 0) 2592 [(6, i9 r23), (5, i9 r19), (0, scf b), (1, rf G 0), (2, rf G 174), (3, rf G 194), (4, i9 v4)] [i9 r25] d26 _
      refine r_iload C 1 dL_law__2592 rfl ?_
      refine r_icmp_eq C 2599 dL_law__2594 (by decide) (fun _ => ?_) (fun _ => ?_)
      · refine r_iload C 1 dL_law__2599 rfl ?_
        refine r_if_ne C (b := 0) 2623 dL_law__2601 (by decide) (fun _ => ?_) (fun _ => ?_)
        · refine r_goto C 3533 dL_law__2623 (by decide) ?_
          refine r_iinc C 6 [(4, i9 (v4 + 7)), (6, i9 r23), (5, i9 r19), (0, scf b), (1, rf G 0), (2, rf G 174), (3, rf G 194)] dL_law__3533 rfl (by decide) rfl ?_
          refine r_goto C 23 dL_law__3536 (by decide) ?_
          refine ss_wide (k' := k + 12) (n' := n + 80) (show k + 2 + 0 + 0 ≤ k + 12 by omega) (show n + 12 + 0 + 0 ≤ n + 80 by omega) ?_
          refine ss_ls [(0, scf b), (1, rf G 0), (2, rf G 174), (3, rf G 194), (4, i9 (v4 + 7))] [3, 4, 5, 6, 0] rfl ?_
          exact hkc (v4 + 7) d26
        · refine r_aload_n C 5 dL_law__2604 rfl rfl ?_
          refine r_iconst C dL_law__2605 ?_
          refine r_lald C dL_law__2606 la_194 ly_194 (fun t27 => ?_)
          refine r_iload C 0 dL_law__2607 rfl ?_
          refine r_if_eq C (b := 0) 2616 dL_law__2609 (by decide) (fun _ => ?_) (fun _ => ?_)
          · refine r_lconst C dL_law__2616 (a := 0) rfl ?_
            refine r_lcmp_eq C 2623 dL_law__2617 dL_law__2618 (by decide) (fun _ => ?_) (fun _ => ?_)
            · refine r_goto C 3533 dL_law__2623 (by decide) ?_
              refine r_iinc C 6 [(4, i9 (v4 + 7)), (6, i9 r23), (5, i9 r19), (0, scf b), (1, rf G 0), (2, rf G 174), (3, rf G 194)] dL_law__3533 rfl (by decide) rfl ?_
              refine r_goto C 23 dL_law__3536 (by decide) ?_
              refine ss_wide (k' := k + 12) (n' := n + 80) (show k + 2 + 0 + 0 ≤ k + 12 by omega) (show n + 12 + 0 + 0 ≤ n + 80 by omega) ?_
              refine ss_ls [(0, scf b), (1, rf G 0), (2, rf G 174), (3, rf G 194), (4, i9 (v4 + 7))] [3, 4, 5, 6, 0] rfl ?_
              exact hkc (v4 + 7) d26
            · refine r_iconst C dL_law__2621 ?_
              exact ss_none
          · refine r_lconst C dL_law__2612 (a := 1) rfl ?_
            refine r_goto C 2617 dL_law__2613 (by decide) ?_
            refine r_lcmp_eq C 2623 dL_law__2617 dL_law__2618 (by decide) (fun _ => ?_) (fun _ => ?_)
            · refine r_goto C 3533 dL_law__2623 (by decide) ?_
              refine r_iinc C 6 [(4, i9 (v4 + 7)), (6, i9 r23), (5, i9 r19), (0, scf b), (1, rf G 0), (2, rf G 174), (3, rf G 194)] dL_law__3533 rfl (by decide) rfl ?_
              refine r_goto C 23 dL_law__3536 (by decide) ?_
              refine ss_wide (k' := k + 12) (n' := n + 80) (show k + 2 + 0 + 0 ≤ k + 12 by omega) (show n + 12 + 0 + 0 ≤ n + 80 by omega) ?_
              refine ss_ls [(0, scf b), (1, rf G 0), (2, rf G 174), (3, rf G 194), (4, i9 (v4 + 7))] [3, 4, 5, 6, 0] rfl ?_
              exact hkc (v4 + 7) d26
            · refine r_iconst C dL_law__2621 ?_
              exact ss_none
      · refine r_iconst C dL_law__2597 ?_
        exact ss_none
    · refine r_iconst C dL_law__2572 ?_
      refine r_goto C 2577 dL_law__2573 (by decide) ?_
      refine r_aload_nC C 1 dL_law__2577 rfl rfl ?_
      refine r_iload C 5 dL_law__2578 rfl ?_
      refine r_iconst C dL_law__2580 ?_
      refine r_iadd C dL_law__2581 ?_
      refine r_scld C hSC dL_law__2582 (fun t28 => ?_)
      refine r_callVL C [i9 t28, i9 1, rf G 174] dL_law__2583 (t_X12_weights_174 C.h1 C.h2 1 t28 d20) mw_L_297 mv_X12_weights la_174 ly_174 rfl (by decide) (show k + 2 + 0 ≤ 601024 by omega) (show n + 12 + 0 ≤ 7293034 by omega) rfl rfl (Nat.le_of_ble_eq_true rfl) (fun r29 d30 => ?_)
      show SS G X 8 (k + 2 + 0) (n + 12 + 0) 2586 [(5, i9 r19), (0, scf b), (1, rf G 0), (2, rf G 174), (3, rf G 194), (4, i9 v4)] [i9 r29] d30 _
      refine r_istore C [(6, i9 r29), (5, i9 r19), (0, scf b), (1, rf G 0), (2, rf G 174), (3, rf G 194), (4, i9 v4)] dL_law__2586 (by decide) rfl ?_
      refine r_aload_n C 4 dL_law__2588 rfl rfl ?_
      refine r_callVL C [rf G 174] dL_law__2589 (t_X12_thrown_174 C.h1 C.h2 d30) mw_L_175 mv_X12_thrown la_174 ly_174 rfl (by decide) (show k + 2 + 0 + 0 ≤ 601024 by omega) (show n + 12 + 0 + 0 ≤ 7293034 by omega) rfl rfl (Nat.le_of_ble_eq_true rfl) (fun r31 d32 => ?_)
      show SS G X 8 (k + 2 + 0 + 0) (n + 12 + 0 + 0) 2592 [(6, i9 r29), (5, i9 r19), (0, scf b), (1, rf G 0), (2, rf G 174), (3, rf G 194), (4, i9 v4)] [i9 r31] d32 _
      refine r_iload C 1 dL_law__2592 rfl ?_
      refine r_icmp_eq C 2599 dL_law__2594 (by decide) (fun _ => ?_) (fun _ => ?_)
      · refine r_iload C 1 dL_law__2599 rfl ?_
        refine r_if_ne C (b := 0) 2623 dL_law__2601 (by decide) (fun _ => ?_) (fun _ => ?_)
        · refine r_goto C 3533 dL_law__2623 (by decide) ?_
          refine r_iinc C 6 [(4, i9 (v4 + 7)), (6, i9 r29), (5, i9 r19), (0, scf b), (1, rf G 0), (2, rf G 174), (3, rf G 194)] dL_law__3533 rfl (by decide) rfl ?_
          refine r_goto C 23 dL_law__3536 (by decide) ?_
          refine ss_wide (k' := k + 12) (n' := n + 80) (show k + 2 + 0 + 0 ≤ k + 12 by omega) (show n + 12 + 0 + 0 ≤ n + 80 by omega) ?_
          refine ss_ls [(0, scf b), (1, rf G 0), (2, rf G 174), (3, rf G 194), (4, i9 (v4 + 7))] [3, 4, 5, 6, 0] rfl ?_
          exact hkc (v4 + 7) d32
        · refine r_aload_n C 5 dL_law__2604 rfl rfl ?_
          refine r_iconst C dL_law__2605 ?_
          refine r_lald C dL_law__2606 la_194 ly_194 (fun t33 => ?_)
          refine r_iload C 0 dL_law__2607 rfl ?_
          refine r_if_eq C (b := 0) 2616 dL_law__2609 (by decide) (fun _ => ?_) (fun _ => ?_)
          · refine r_lconst C dL_law__2616 (a := 0) rfl ?_
            refine r_lcmp_eq C 2623 dL_law__2617 dL_law__2618 (by decide) (fun _ => ?_) (fun _ => ?_)
            · refine r_goto C 3533 dL_law__2623 (by decide) ?_
              refine r_iinc C 6 [(4, i9 (v4 + 7)), (6, i9 r29), (5, i9 r19), (0, scf b), (1, rf G 0), (2, rf G 174), (3, rf G 194)] dL_law__3533 rfl (by decide) rfl ?_
              refine r_goto C 23 dL_law__3536 (by decide) ?_
              refine ss_wide (k' := k + 12) (n' := n + 80) (show k + 2 + 0 + 0 ≤ k + 12 by omega) (show n + 12 + 0 + 0 ≤ n + 80 by omega) ?_
              refine ss_ls [(0, scf b), (1, rf G 0), (2, rf G 174), (3, rf G 194), (4, i9 (v4 + 7))] [3, 4, 5, 6, 0] rfl ?_
              exact hkc (v4 + 7) d32
            · refine r_iconst C dL_law__2621 ?_
              exact ss_none
          · refine r_lconst C dL_law__2612 (a := 1) rfl ?_
            refine r_goto C 2617 dL_law__2613 (by decide) ?_
            refine r_lcmp_eq C 2623 dL_law__2617 dL_law__2618 (by decide) (fun _ => ?_) (fun _ => ?_)
            · refine r_goto C 3533 dL_law__2623 (by decide) ?_
              refine r_iinc C 6 [(4, i9 (v4 + 7)), (6, i9 r29), (5, i9 r19), (0, scf b), (1, rf G 0), (2, rf G 174), (3, rf G 194)] dL_law__3533 rfl (by decide) rfl ?_
              refine r_goto C 23 dL_law__3536 (by decide) ?_
              refine ss_wide (k' := k + 12) (n' := n + 80) (show k + 2 + 0 + 0 ≤ k + 12 by omega) (show n + 12 + 0 + 0 ≤ n + 80 by omega) ?_
              refine ss_ls [(0, scf b), (1, rf G 0), (2, rf G 174), (3, rf G 194), (4, i9 (v4 + 7))] [3, 4, 5, 6, 0] rfl ?_
              exact hkc (v4 + 7) d32
            · refine r_iconst C dL_law__2621 ?_
              exact ss_none
      · refine r_iconst C dL_law__2597 ?_
        exact ss_none
theorem dL_law__2626 : decode cL_law_ 2626 = .ok (.aload_n 1, 1) := by decide +kernel
theorem dL_law__2627 : decode cL_law_ 2627 = .ok (.aload_n 0, 1) := by decide +kernel
theorem dL_law__2628 : decode cL_law_ 2628 = .ok (.iload 4, 2) := by decide +kernel
theorem dL_law__2630 : decode cL_law_ 2630 = .ok (.iconst 1, 1) := by decide +kernel
theorem dL_law__2631 : decode cL_law_ 2631 = .ok (.iadd, 1) := by decide +kernel
theorem dL_law__2632 : decode cL_law_ 2632 = .ok (.iaload, 1) := by decide +kernel
theorem dL_law__2633 : decode cL_law_ 2633 = .ok (.aload_n 0, 1) := by decide +kernel
theorem dL_law__2634 : decode cL_law_ 2634 = .ok (.iload 4, 2) := by decide +kernel
theorem dL_law__2636 : decode cL_law_ 2636 = .ok (.iconst 2, 1) := by decide +kernel
theorem dL_law__2637 : decode cL_law_ 2637 = .ok (.iadd, 1) := by decide +kernel
theorem dL_law__2638 : decode cL_law_ 2638 = .ok (.iaload, 1) := by decide +kernel
theorem dL_law__2639 : decode cL_law_ 2639 = .ok (.aload_n 3, 1) := by decide +kernel
theorem dL_law__2640 : decode cL_law_ 2640 = .ok (.invokestatic 298, 3) := by decide +kernel
theorem dL_law__2643 : decode cL_law_ 2643 = .ok (.istore 5, 2) := by decide +kernel
theorem dL_law__2645 : decode cL_law_ 2645 = .ok (.aload_n 2, 1) := by decide +kernel
theorem dL_law__2646 : decode cL_law_ 2646 = .ok (.aload_n 0, 1) := by decide +kernel
theorem dL_law__2647 : decode cL_law_ 2647 = .ok (.iload 4, 2) := by decide +kernel
theorem dL_law__2649 : decode cL_law_ 2649 = .ok (.iconst 1, 1) := by decide +kernel
theorem dL_law__2650 : decode cL_law_ 2650 = .ok (.iadd, 1) := by decide +kernel
theorem dL_law__2651 : decode cL_law_ 2651 = .ok (.iaload, 1) := by decide +kernel
theorem dL_law__2652 : decode cL_law_ 2652 = .ok (.aload_n 0, 1) := by decide +kernel
theorem dL_law__2653 : decode cL_law_ 2653 = .ok (.iload 4, 2) := by decide +kernel
theorem dL_law__2655 : decode cL_law_ 2655 = .ok (.iconst 2, 1) := by decide +kernel
theorem dL_law__2656 : decode cL_law_ 2656 = .ok (.iadd, 1) := by decide +kernel
theorem dL_law__2657 : decode cL_law_ 2657 = .ok (.iaload, 1) := by decide +kernel
theorem dL_law__2658 : decode cL_law_ 2658 = .ok (.invokevirtual 300, 3) := by decide +kernel
theorem dL_law__2661 : decode cL_law_ 2661 = .ok (.istore 6, 2) := by decide +kernel
theorem dL_law__2663 : decode cL_law_ 2663 = .ok (.aload_n 2, 1) := by decide +kernel
theorem dL_law__2664 : decode cL_law_ 2664 = .ok (.invokevirtual 175, 3) := by decide +kernel
theorem dL_law__2667 : decode cL_law_ 2667 = .ok (.iload 5, 2) := by decide +kernel
theorem dL_law__2669 : decode cL_law_ 2669 = .ok (.if_icmp .eq 5, 3) := by decide +kernel
theorem dL_law__2672 : decode cL_law_ 2672 = .ok (.iconst 0, 1) := by decide +kernel
theorem dL_law__2674 : decode cL_law_ 2674 = .ok (.iload 5, 2) := by decide +kernel
theorem dL_law__2676 : decode cL_law_ 2676 = .ok (.ifCond .ne 15, 3) := by decide +kernel
theorem dL_law__2679 : decode cL_law_ 2679 = .ok (.aload_n 3, 1) := by decide +kernel
theorem dL_law__2680 : decode cL_law_ 2680 = .ok (.iconst 0, 1) := by decide +kernel
theorem dL_law__2681 : decode cL_law_ 2681 = .ok (.laload, 1) := by decide +kernel
theorem dL_law__2682 : decode cL_law_ 2682 = .ok (.iload 6, 2) := by decide +kernel
theorem dL_law__2684 : decode cL_law_ 2684 = .ok (.i2l, 1) := by decide +kernel
theorem dL_law__2685 : decode cL_law_ 2685 = .ok (.lcmp, 1) := by decide +kernel
theorem dL_law__2686 : decode cL_law_ 2686 = .ok (.ifCond .eq 5, 3) := by decide +kernel
theorem dL_law__2689 : decode cL_law_ 2689 = .ok (.iconst 0, 1) := by decide +kernel
theorem dL_law__2691 : decode cL_law_ 2691 = .ok (.goto 842, 3) := by decide +kernel
def m_L_case_35 (xs : Nat → Int) (L : Nat) (kc : Int → D9 → Option R9) (v4 : Int) (d : D9) : Option R9 := scr xs L (v4 + 1) (fun t1 => scr xs L (v4 + 2) (fun t2 => cz (m_L_times t1 t2 d) (fun r3 d4 => scr xs L (v4 + 1) (fun t5 => scr xs L (v4 + 2) (fun t6 => cz (m_X12_times_174 t5 t6 d4) (fun r7 d8 => cz (m_X12_thrown_174 d8) (fun r9 d10 => if w32 r9 = w32 r3 then if w32 r3 ≠ 0 then kc (v4 + 7) d10 else ld d10 194 1 0 (fun t11 => if w64 t11 = w64 (w32 r7) then kc (v4 + 7) d10 else none) else none)))))))
set_option maxRecDepth 100000 in
theorem s_L_case_35 {G : G9} {X : X9} (C : CX G X cL_law_ 8 RL [] zL9) (hNc : NC9 (xS X)) {b L : Nat} {xs : Nat → Int} (hSC : SCX G X b L xs) {k n : Nat} (hk : k + 12 ≤ 601024) (hn : n + 80 ≤ 7293034) (kc : Int → D9 → Option R9) (hkc : ∀ (v4 : Int) (d : D9), SS G X 8 (k + 12) (n + 80) 23 [(0, scf b), (1, rf G 0), (2, rf G 174), (3, rf G 194), (4, i9 v4)] [] d (kc v4 d)) : ∀ (v4 : Int) (d : D9), SS G X 8 k n 2626 [(0, scf b), (1, rf G 0), (2, rf G 174), (3, rf G 194), (4, i9 v4)] [] d (m_L_case_35 xs L kc v4 d) := by
  intro v4 d
  unfold m_L_case_35
  refine r_aload_n C 1 dL_law__2626 rfl rfl ?_
  refine r_aload_nC C 0 dL_law__2627 rfl rfl ?_
  refine r_iload C 4 dL_law__2628 rfl ?_
  refine r_iconst C dL_law__2630 ?_
  refine r_iadd C dL_law__2631 ?_
  refine r_scld C hSC dL_law__2632 (fun t1 => ?_)
  refine r_aload_nC C 0 dL_law__2633 rfl rfl ?_
  refine r_iload C 4 dL_law__2634 rfl ?_
  refine r_iconst C dL_law__2636 ?_
  refine r_iadd C dL_law__2637 ?_
  refine r_scld C hSC dL_law__2638 (fun t2 => ?_)
  refine r_aload_n C 3 dL_law__2639 rfl rfl ?_
  refine r_callHL C hNc [rf G 194, i9 t2, i9 t1, rf G 0] dL_law__2640 (t_L_times C.h1 C.h2 t1 t2 d) mwh_L_298 (by decide) (show k + 2 ≤ 601024 by omega) (show n + 12 ≤ 7293034 by omega) rfl rfl (Nat.le_of_ble_eq_true rfl) (fun r3 d4 => ?_)
  show SS G X 8 (k + 2) (n + 12) 2643 [(0, scf b), (1, rf G 0), (2, rf G 174), (3, rf G 194), (4, i9 v4)] [i9 r3] d4 _
  refine r_istore C [(5, i9 r3), (0, scf b), (1, rf G 0), (2, rf G 174), (3, rf G 194), (4, i9 v4)] dL_law__2643 (by decide) rfl ?_
  refine r_aload_n C 3 dL_law__2645 rfl rfl ?_
  refine r_aload_nC C 1 dL_law__2646 rfl rfl ?_
  refine r_iload C 5 dL_law__2647 rfl ?_
  refine r_iconst C dL_law__2649 ?_
  refine r_iadd C dL_law__2650 ?_
  refine r_scld C hSC dL_law__2651 (fun t5 => ?_)
  refine r_aload_nC C 1 dL_law__2652 rfl rfl ?_
  refine r_iload C 5 dL_law__2653 rfl ?_
  refine r_iconst C dL_law__2655 ?_
  refine r_iadd C dL_law__2656 ?_
  refine r_scld C hSC dL_law__2657 (fun t6 => ?_)
  refine r_callVL C [i9 t6, i9 t5, rf G 174] dL_law__2658 (t_X12_times_174 C.h1 C.h2 t5 t6 d4) mw_L_300 mv_X12_times la_174 ly_174 rfl (by decide) (show k + 2 + 0 ≤ 601024 by omega) (show n + 12 + 0 ≤ 7293034 by omega) rfl rfl (Nat.le_of_ble_eq_true rfl) (fun r7 d8 => ?_)
  show SS G X 8 (k + 2 + 0) (n + 12 + 0) 2661 [(5, i9 r3), (0, scf b), (1, rf G 0), (2, rf G 174), (3, rf G 194), (4, i9 v4)] [i9 r7] d8 _
  refine r_istore C [(6, i9 r7), (5, i9 r3), (0, scf b), (1, rf G 0), (2, rf G 174), (3, rf G 194), (4, i9 v4)] dL_law__2661 (by decide) rfl ?_
  refine r_aload_n C 4 dL_law__2663 rfl rfl ?_
  refine r_callVL C [rf G 174] dL_law__2664 (t_X12_thrown_174 C.h1 C.h2 d8) mw_L_175 mv_X12_thrown la_174 ly_174 rfl (by decide) (show k + 2 + 0 + 0 ≤ 601024 by omega) (show n + 12 + 0 + 0 ≤ 7293034 by omega) rfl rfl (Nat.le_of_ble_eq_true rfl) (fun r9 d10 => ?_)
  show SS G X 8 (k + 2 + 0 + 0) (n + 12 + 0 + 0) 2667 [(6, i9 r7), (5, i9 r3), (0, scf b), (1, rf G 0), (2, rf G 174), (3, rf G 194), (4, i9 v4)] [i9 r9] d10 _
  refine r_iload C 1 dL_law__2667 rfl ?_
  refine r_icmp_eq C 2674 dL_law__2669 (by decide) (fun _ => ?_) (fun _ => ?_)
  · refine r_iload C 1 dL_law__2674 rfl ?_
    refine r_if_ne C (b := 0) 2691 dL_law__2676 (by decide) (fun _ => ?_) (fun _ => ?_)
    · refine r_goto C 3533 dL_law__2691 (by decide) ?_
      refine r_iinc C 6 [(4, i9 (v4 + 7)), (6, i9 r7), (5, i9 r3), (0, scf b), (1, rf G 0), (2, rf G 174), (3, rf G 194)] dL_law__3533 rfl (by decide) rfl ?_
      refine r_goto C 23 dL_law__3536 (by decide) ?_
      refine ss_wide (k' := k + 12) (n' := n + 80) (show k + 2 + 0 + 0 ≤ k + 12 by omega) (show n + 12 + 0 + 0 ≤ n + 80 by omega) ?_
      refine ss_ls [(0, scf b), (1, rf G 0), (2, rf G 174), (3, rf G 194), (4, i9 (v4 + 7))] [3, 4, 5, 6, 0] rfl ?_
      exact hkc (v4 + 7) d10
    · refine r_aload_n C 5 dL_law__2679 rfl rfl ?_
      refine r_iconst C dL_law__2680 ?_
      refine r_lald C dL_law__2681 la_194 ly_194 (fun t11 => ?_)
      refine r_iload C 0 dL_law__2682 rfl ?_
      refine r_i2l C dL_law__2684 ?_
      refine r_lcmp_eq C 2691 dL_law__2685 dL_law__2686 (by decide) (fun _ => ?_) (fun _ => ?_)
      · refine r_goto C 3533 dL_law__2691 (by decide) ?_
        refine r_iinc C 6 [(4, i9 (v4 + 7)), (6, i9 r7), (5, i9 r3), (0, scf b), (1, rf G 0), (2, rf G 174), (3, rf G 194)] dL_law__3533 rfl (by decide) rfl ?_
        refine r_goto C 23 dL_law__3536 (by decide) ?_
        refine ss_wide (k' := k + 12) (n' := n + 80) (show k + 2 + 0 + 0 ≤ k + 12 by omega) (show n + 12 + 0 + 0 ≤ n + 80 by omega) ?_
        refine ss_ls [(0, scf b), (1, rf G 0), (2, rf G 174), (3, rf G 194), (4, i9 (v4 + 7))] [3, 4, 5, 6, 0] rfl ?_
        exact hkc (v4 + 7) d10
      · refine r_iconst C dL_law__2689 ?_
        exact ss_none
  · refine r_iconst C dL_law__2672 ?_
    exact ss_none
theorem dL_law__2694 : decode cL_law_ 2694 = .ok (.aload_n 1, 1) := by decide +kernel
theorem dL_law__2695 : decode cL_law_ 2695 = .ok (.aload_n 0, 1) := by decide +kernel
theorem dL_law__2696 : decode cL_law_ 2696 = .ok (.iload 4, 2) := by decide +kernel
theorem dL_law__2698 : decode cL_law_ 2698 = .ok (.iconst 1, 1) := by decide +kernel
theorem dL_law__2699 : decode cL_law_ 2699 = .ok (.iadd, 1) := by decide +kernel
theorem dL_law__2700 : decode cL_law_ 2700 = .ok (.iaload, 1) := by decide +kernel
theorem dL_law__2701 : decode cL_law_ 2701 = .ok (.aload_n 0, 1) := by decide +kernel
theorem dL_law__2702 : decode cL_law_ 2702 = .ok (.iload 4, 2) := by decide +kernel
theorem dL_law__2704 : decode cL_law_ 2704 = .ok (.iconst 2, 1) := by decide +kernel
theorem dL_law__2705 : decode cL_law_ 2705 = .ok (.iadd, 1) := by decide +kernel
theorem dL_law__2706 : decode cL_law_ 2706 = .ok (.iaload, 1) := by decide +kernel
theorem dL_law__2707 : decode cL_law_ 2707 = .ok (.aload_n 3, 1) := by decide +kernel
theorem dL_law__2708 : decode cL_law_ 2708 = .ok (.invokestatic 301, 3) := by decide +kernel
theorem dL_law__2711 : decode cL_law_ 2711 = .ok (.istore 5, 2) := by decide +kernel
theorem dL_law__2713 : decode cL_law_ 2713 = .ok (.aload_n 2, 1) := by decide +kernel
theorem dL_law__2714 : decode cL_law_ 2714 = .ok (.aload_n 0, 1) := by decide +kernel
theorem dL_law__2715 : decode cL_law_ 2715 = .ok (.iload 4, 2) := by decide +kernel
theorem dL_law__2717 : decode cL_law_ 2717 = .ok (.iconst 1, 1) := by decide +kernel
theorem dL_law__2718 : decode cL_law_ 2718 = .ok (.iadd, 1) := by decide +kernel
theorem dL_law__2719 : decode cL_law_ 2719 = .ok (.iaload, 1) := by decide +kernel
theorem dL_law__2720 : decode cL_law_ 2720 = .ok (.aload_n 0, 1) := by decide +kernel
theorem dL_law__2721 : decode cL_law_ 2721 = .ok (.iload 4, 2) := by decide +kernel
theorem dL_law__2723 : decode cL_law_ 2723 = .ok (.iconst 2, 1) := by decide +kernel
theorem dL_law__2724 : decode cL_law_ 2724 = .ok (.iadd, 1) := by decide +kernel
theorem dL_law__2725 : decode cL_law_ 2725 = .ok (.iaload, 1) := by decide +kernel
theorem dL_law__2726 : decode cL_law_ 2726 = .ok (.invokevirtual 303, 3) := by decide +kernel
theorem dL_law__2729 : decode cL_law_ 2729 = .ok (.istore 6, 2) := by decide +kernel
theorem dL_law__2731 : decode cL_law_ 2731 = .ok (.aload_n 2, 1) := by decide +kernel
theorem dL_law__2732 : decode cL_law_ 2732 = .ok (.invokevirtual 175, 3) := by decide +kernel
theorem dL_law__2735 : decode cL_law_ 2735 = .ok (.iload 5, 2) := by decide +kernel
theorem dL_law__2737 : decode cL_law_ 2737 = .ok (.if_icmp .eq 5, 3) := by decide +kernel
theorem dL_law__2740 : decode cL_law_ 2740 = .ok (.iconst 0, 1) := by decide +kernel
theorem dL_law__2742 : decode cL_law_ 2742 = .ok (.iload 5, 2) := by decide +kernel
theorem dL_law__2744 : decode cL_law_ 2744 = .ok (.ifCond .ne 22, 3) := by decide +kernel
theorem dL_law__2747 : decode cL_law_ 2747 = .ok (.aload_n 3, 1) := by decide +kernel
theorem dL_law__2748 : decode cL_law_ 2748 = .ok (.iconst 0, 1) := by decide +kernel
theorem dL_law__2749 : decode cL_law_ 2749 = .ok (.laload, 1) := by decide +kernel
theorem dL_law__2750 : decode cL_law_ 2750 = .ok (.iload 6, 2) := by decide +kernel
theorem dL_law__2752 : decode cL_law_ 2752 = .ok (.ifCond .eq 7, 3) := by decide +kernel
theorem dL_law__2755 : decode cL_law_ 2755 = .ok (.lconst 1, 1) := by decide +kernel
theorem dL_law__2756 : decode cL_law_ 2756 = .ok (.goto 4, 3) := by decide +kernel
theorem dL_law__2759 : decode cL_law_ 2759 = .ok (.lconst 0, 1) := by decide +kernel
theorem dL_law__2760 : decode cL_law_ 2760 = .ok (.lcmp, 1) := by decide +kernel
theorem dL_law__2761 : decode cL_law_ 2761 = .ok (.ifCond .eq 5, 3) := by decide +kernel
theorem dL_law__2764 : decode cL_law_ 2764 = .ok (.iconst 0, 1) := by decide +kernel
theorem dL_law__2766 : decode cL_law_ 2766 = .ok (.goto 767, 3) := by decide +kernel
def m_L_case_36 (xs : Nat → Int) (L : Nat) (kc : Int → D9 → Option R9) (v4 : Int) (d : D9) : Option R9 := scr xs L (v4 + 1) (fun t1 => scr xs L (v4 + 2) (fun t2 => cz (m_L_who t1 t2 d) (fun r3 d4 => scr xs L (v4 + 1) (fun t5 => scr xs L (v4 + 2) (fun t6 => cz (m_X12_who_174 t5 t6 d4) (fun r7 d8 => cz (m_X12_thrown_174 d8) (fun r9 d10 => if w32 r9 = w32 r3 then if w32 r3 ≠ 0 then kc (v4 + 7) d10 else ld d10 194 1 0 (fun t11 => if w32 r7 = 0 then if w64 t11 = w64 0 then kc (v4 + 7) d10 else none else if w64 t11 = w64 1 then kc (v4 + 7) d10 else none) else none)))))))
set_option maxRecDepth 100000 in
theorem s_L_case_36 {G : G9} {X : X9} (C : CX G X cL_law_ 8 RL [] zL9) (hNc : NC9 (xS X)) {b L : Nat} {xs : Nat → Int} (hSC : SCX G X b L xs) {k n : Nat} (hk : k + 12 ≤ 601024) (hn : n + 80 ≤ 7293034) (kc : Int → D9 → Option R9) (hkc : ∀ (v4 : Int) (d : D9), SS G X 8 (k + 12) (n + 80) 23 [(0, scf b), (1, rf G 0), (2, rf G 174), (3, rf G 194), (4, i9 v4)] [] d (kc v4 d)) : ∀ (v4 : Int) (d : D9), SS G X 8 k n 2694 [(0, scf b), (1, rf G 0), (2, rf G 174), (3, rf G 194), (4, i9 v4)] [] d (m_L_case_36 xs L kc v4 d) := by
  intro v4 d
  unfold m_L_case_36
  refine r_aload_n C 1 dL_law__2694 rfl rfl ?_
  refine r_aload_nC C 0 dL_law__2695 rfl rfl ?_
  refine r_iload C 4 dL_law__2696 rfl ?_
  refine r_iconst C dL_law__2698 ?_
  refine r_iadd C dL_law__2699 ?_
  refine r_scld C hSC dL_law__2700 (fun t1 => ?_)
  refine r_aload_nC C 0 dL_law__2701 rfl rfl ?_
  refine r_iload C 4 dL_law__2702 rfl ?_
  refine r_iconst C dL_law__2704 ?_
  refine r_iadd C dL_law__2705 ?_
  refine r_scld C hSC dL_law__2706 (fun t2 => ?_)
  refine r_aload_n C 3 dL_law__2707 rfl rfl ?_
  refine r_callHL C hNc [rf G 194, i9 t2, i9 t1, rf G 0] dL_law__2708 (t_L_who C.h1 C.h2 t1 t2 d) mwh_L_301 (by decide) (show k + 2 ≤ 601024 by omega) (show n + 12 ≤ 7293034 by omega) rfl rfl (Nat.le_of_ble_eq_true rfl) (fun r3 d4 => ?_)
  show SS G X 8 (k + 2) (n + 12) 2711 [(0, scf b), (1, rf G 0), (2, rf G 174), (3, rf G 194), (4, i9 v4)] [i9 r3] d4 _
  refine r_istore C [(5, i9 r3), (0, scf b), (1, rf G 0), (2, rf G 174), (3, rf G 194), (4, i9 v4)] dL_law__2711 (by decide) rfl ?_
  refine r_aload_n C 3 dL_law__2713 rfl rfl ?_
  refine r_aload_nC C 1 dL_law__2714 rfl rfl ?_
  refine r_iload C 5 dL_law__2715 rfl ?_
  refine r_iconst C dL_law__2717 ?_
  refine r_iadd C dL_law__2718 ?_
  refine r_scld C hSC dL_law__2719 (fun t5 => ?_)
  refine r_aload_nC C 1 dL_law__2720 rfl rfl ?_
  refine r_iload C 5 dL_law__2721 rfl ?_
  refine r_iconst C dL_law__2723 ?_
  refine r_iadd C dL_law__2724 ?_
  refine r_scld C hSC dL_law__2725 (fun t6 => ?_)
  refine r_callVL C [i9 t6, i9 t5, rf G 174] dL_law__2726 (t_X12_who_174 C.h1 C.h2 t5 t6 d4) mw_L_303 mv_X12_who la_174 ly_174 rfl (by decide) (show k + 2 + 0 ≤ 601024 by omega) (show n + 12 + 0 ≤ 7293034 by omega) rfl rfl (Nat.le_of_ble_eq_true rfl) (fun r7 d8 => ?_)
  show SS G X 8 (k + 2 + 0) (n + 12 + 0) 2729 [(5, i9 r3), (0, scf b), (1, rf G 0), (2, rf G 174), (3, rf G 194), (4, i9 v4)] [i9 r7] d8 _
  refine r_istore C [(6, i9 r7), (5, i9 r3), (0, scf b), (1, rf G 0), (2, rf G 174), (3, rf G 194), (4, i9 v4)] dL_law__2729 (by decide) rfl ?_
  refine r_aload_n C 4 dL_law__2731 rfl rfl ?_
  refine r_callVL C [rf G 174] dL_law__2732 (t_X12_thrown_174 C.h1 C.h2 d8) mw_L_175 mv_X12_thrown la_174 ly_174 rfl (by decide) (show k + 2 + 0 + 0 ≤ 601024 by omega) (show n + 12 + 0 + 0 ≤ 7293034 by omega) rfl rfl (Nat.le_of_ble_eq_true rfl) (fun r9 d10 => ?_)
  show SS G X 8 (k + 2 + 0 + 0) (n + 12 + 0 + 0) 2735 [(6, i9 r7), (5, i9 r3), (0, scf b), (1, rf G 0), (2, rf G 174), (3, rf G 194), (4, i9 v4)] [i9 r9] d10 _
  refine r_iload C 1 dL_law__2735 rfl ?_
  refine r_icmp_eq C 2742 dL_law__2737 (by decide) (fun _ => ?_) (fun _ => ?_)
  · refine r_iload C 1 dL_law__2742 rfl ?_
    refine r_if_ne C (b := 0) 2766 dL_law__2744 (by decide) (fun _ => ?_) (fun _ => ?_)
    · refine r_goto C 3533 dL_law__2766 (by decide) ?_
      refine r_iinc C 6 [(4, i9 (v4 + 7)), (6, i9 r7), (5, i9 r3), (0, scf b), (1, rf G 0), (2, rf G 174), (3, rf G 194)] dL_law__3533 rfl (by decide) rfl ?_
      refine r_goto C 23 dL_law__3536 (by decide) ?_
      refine ss_wide (k' := k + 12) (n' := n + 80) (show k + 2 + 0 + 0 ≤ k + 12 by omega) (show n + 12 + 0 + 0 ≤ n + 80 by omega) ?_
      refine ss_ls [(0, scf b), (1, rf G 0), (2, rf G 174), (3, rf G 194), (4, i9 (v4 + 7))] [3, 4, 5, 6, 0] rfl ?_
      exact hkc (v4 + 7) d10
    · refine r_aload_n C 5 dL_law__2747 rfl rfl ?_
      refine r_iconst C dL_law__2748 ?_
      refine r_lald C dL_law__2749 la_194 ly_194 (fun t11 => ?_)
      refine r_iload C 0 dL_law__2750 rfl ?_
      refine r_if_eq C (b := 0) 2759 dL_law__2752 (by decide) (fun _ => ?_) (fun _ => ?_)
      · refine r_lconst C dL_law__2759 (a := 0) rfl ?_
        refine r_lcmp_eq C 2766 dL_law__2760 dL_law__2761 (by decide) (fun _ => ?_) (fun _ => ?_)
        · refine r_goto C 3533 dL_law__2766 (by decide) ?_
          refine r_iinc C 6 [(4, i9 (v4 + 7)), (6, i9 r7), (5, i9 r3), (0, scf b), (1, rf G 0), (2, rf G 174), (3, rf G 194)] dL_law__3533 rfl (by decide) rfl ?_
          refine r_goto C 23 dL_law__3536 (by decide) ?_
          refine ss_wide (k' := k + 12) (n' := n + 80) (show k + 2 + 0 + 0 ≤ k + 12 by omega) (show n + 12 + 0 + 0 ≤ n + 80 by omega) ?_
          refine ss_ls [(0, scf b), (1, rf G 0), (2, rf G 174), (3, rf G 194), (4, i9 (v4 + 7))] [3, 4, 5, 6, 0] rfl ?_
          exact hkc (v4 + 7) d10
        · refine r_iconst C dL_law__2764 ?_
          exact ss_none
      · refine r_lconst C dL_law__2755 (a := 1) rfl ?_
        refine r_goto C 2760 dL_law__2756 (by decide) ?_
        refine r_lcmp_eq C 2766 dL_law__2760 dL_law__2761 (by decide) (fun _ => ?_) (fun _ => ?_)
        · refine r_goto C 3533 dL_law__2766 (by decide) ?_
          refine r_iinc C 6 [(4, i9 (v4 + 7)), (6, i9 r7), (5, i9 r3), (0, scf b), (1, rf G 0), (2, rf G 174), (3, rf G 194)] dL_law__3533 rfl (by decide) rfl ?_
          refine r_goto C 23 dL_law__3536 (by decide) ?_
          refine ss_wide (k' := k + 12) (n' := n + 80) (show k + 2 + 0 + 0 ≤ k + 12 by omega) (show n + 12 + 0 + 0 ≤ n + 80 by omega) ?_
          refine ss_ls [(0, scf b), (1, rf G 0), (2, rf G 174), (3, rf G 194), (4, i9 (v4 + 7))] [3, 4, 5, 6, 0] rfl ?_
          exact hkc (v4 + 7) d10
        · refine r_iconst C dL_law__2764 ?_
          exact ss_none
  · refine r_iconst C dL_law__2740 ?_
    exact ss_none
theorem dL_law__2769 : decode cL_law_ 2769 = .ok (.aload_n 1, 1) := by decide +kernel
theorem dL_law__2770 : decode cL_law_ 2770 = .ok (.aload_n 0, 1) := by decide +kernel
theorem dL_law__2771 : decode cL_law_ 2771 = .ok (.iload 4, 2) := by decide +kernel
theorem dL_law__2773 : decode cL_law_ 2773 = .ok (.iconst 1, 1) := by decide +kernel
theorem dL_law__2774 : decode cL_law_ 2774 = .ok (.iadd, 1) := by decide +kernel
theorem dL_law__2775 : decode cL_law_ 2775 = .ok (.iaload, 1) := by decide +kernel
theorem dL_law__2776 : decode cL_law_ 2776 = .ok (.aload_n 0, 1) := by decide +kernel
theorem dL_law__2777 : decode cL_law_ 2777 = .ok (.iload 4, 2) := by decide +kernel
theorem dL_law__2779 : decode cL_law_ 2779 = .ok (.iconst 2, 1) := by decide +kernel
theorem dL_law__2780 : decode cL_law_ 2780 = .ok (.iadd, 1) := by decide +kernel
theorem dL_law__2781 : decode cL_law_ 2781 = .ok (.iaload, 1) := by decide +kernel
theorem dL_law__2782 : decode cL_law_ 2782 = .ok (.aload_n 3, 1) := by decide +kernel
theorem dL_law__2783 : decode cL_law_ 2783 = .ok (.invokestatic 304, 3) := by decide +kernel
theorem dL_law__2786 : decode cL_law_ 2786 = .ok (.istore 5, 2) := by decide +kernel
theorem dL_law__2788 : decode cL_law_ 2788 = .ok (.aload_n 2, 1) := by decide +kernel
theorem dL_law__2789 : decode cL_law_ 2789 = .ok (.aload_n 0, 1) := by decide +kernel
theorem dL_law__2790 : decode cL_law_ 2790 = .ok (.iload 4, 2) := by decide +kernel
theorem dL_law__2792 : decode cL_law_ 2792 = .ok (.iconst 1, 1) := by decide +kernel
theorem dL_law__2793 : decode cL_law_ 2793 = .ok (.iadd, 1) := by decide +kernel
theorem dL_law__2794 : decode cL_law_ 2794 = .ok (.iaload, 1) := by decide +kernel
theorem dL_law__2795 : decode cL_law_ 2795 = .ok (.aload_n 0, 1) := by decide +kernel
theorem dL_law__2796 : decode cL_law_ 2796 = .ok (.iload 4, 2) := by decide +kernel
theorem dL_law__2798 : decode cL_law_ 2798 = .ok (.iconst 2, 1) := by decide +kernel
theorem dL_law__2799 : decode cL_law_ 2799 = .ok (.iadd, 1) := by decide +kernel
theorem dL_law__2800 : decode cL_law_ 2800 = .ok (.iaload, 1) := by decide +kernel
theorem dL_law__2801 : decode cL_law_ 2801 = .ok (.invokevirtual 306, 3) := by decide +kernel
theorem dL_law__2804 : decode cL_law_ 2804 = .ok (.istore 6, 2) := by decide +kernel
theorem dL_law__2806 : decode cL_law_ 2806 = .ok (.aload_n 2, 1) := by decide +kernel
theorem dL_law__2807 : decode cL_law_ 2807 = .ok (.invokevirtual 175, 3) := by decide +kernel
theorem dL_law__2810 : decode cL_law_ 2810 = .ok (.iload 5, 2) := by decide +kernel
theorem dL_law__2812 : decode cL_law_ 2812 = .ok (.if_icmp .eq 5, 3) := by decide +kernel
theorem dL_law__2815 : decode cL_law_ 2815 = .ok (.iconst 0, 1) := by decide +kernel
theorem dL_law__2817 : decode cL_law_ 2817 = .ok (.iload 5, 2) := by decide +kernel
theorem dL_law__2819 : decode cL_law_ 2819 = .ok (.ifCond .ne 15, 3) := by decide +kernel
theorem dL_law__2822 : decode cL_law_ 2822 = .ok (.aload_n 3, 1) := by decide +kernel
theorem dL_law__2823 : decode cL_law_ 2823 = .ok (.iconst 0, 1) := by decide +kernel
theorem dL_law__2824 : decode cL_law_ 2824 = .ok (.laload, 1) := by decide +kernel
theorem dL_law__2825 : decode cL_law_ 2825 = .ok (.iload 6, 2) := by decide +kernel
theorem dL_law__2827 : decode cL_law_ 2827 = .ok (.i2l, 1) := by decide +kernel
theorem dL_law__2828 : decode cL_law_ 2828 = .ok (.lcmp, 1) := by decide +kernel
theorem dL_law__2829 : decode cL_law_ 2829 = .ok (.ifCond .eq 5, 3) := by decide +kernel
theorem dL_law__2832 : decode cL_law_ 2832 = .ok (.iconst 0, 1) := by decide +kernel
theorem dL_law__2834 : decode cL_law_ 2834 = .ok (.goto 699, 3) := by decide +kernel
def m_L_case_37 (xs : Nat → Int) (L : Nat) (kc : Int → D9 → Option R9) (v4 : Int) (d : D9) : Option R9 := scr xs L (v4 + 1) (fun t1 => scr xs L (v4 + 2) (fun t2 => cz (m_L_alone t1 t2 d) (fun r3 d4 => scr xs L (v4 + 1) (fun t5 => scr xs L (v4 + 2) (fun t6 => cz (m_X12_alone_174 t5 t6 d4) (fun r7 d8 => cz (m_X12_thrown_174 d8) (fun r9 d10 => if w32 r9 = w32 r3 then if w32 r3 ≠ 0 then kc (v4 + 7) d10 else ld d10 194 1 0 (fun t11 => if w64 t11 = w64 (w32 r7) then kc (v4 + 7) d10 else none) else none)))))))
set_option maxRecDepth 100000 in
theorem s_L_case_37 {G : G9} {X : X9} (C : CX G X cL_law_ 8 RL [] zL9) (hNc : NC9 (xS X)) {b L : Nat} {xs : Nat → Int} (hSC : SCX G X b L xs) {k n : Nat} (hk : k + 12 ≤ 601024) (hn : n + 80 ≤ 7293034) (kc : Int → D9 → Option R9) (hkc : ∀ (v4 : Int) (d : D9), SS G X 8 (k + 12) (n + 80) 23 [(0, scf b), (1, rf G 0), (2, rf G 174), (3, rf G 194), (4, i9 v4)] [] d (kc v4 d)) : ∀ (v4 : Int) (d : D9), SS G X 8 k n 2769 [(0, scf b), (1, rf G 0), (2, rf G 174), (3, rf G 194), (4, i9 v4)] [] d (m_L_case_37 xs L kc v4 d) := by
  intro v4 d
  unfold m_L_case_37
  refine r_aload_n C 1 dL_law__2769 rfl rfl ?_
  refine r_aload_nC C 0 dL_law__2770 rfl rfl ?_
  refine r_iload C 4 dL_law__2771 rfl ?_
  refine r_iconst C dL_law__2773 ?_
  refine r_iadd C dL_law__2774 ?_
  refine r_scld C hSC dL_law__2775 (fun t1 => ?_)
  refine r_aload_nC C 0 dL_law__2776 rfl rfl ?_
  refine r_iload C 4 dL_law__2777 rfl ?_
  refine r_iconst C dL_law__2779 ?_
  refine r_iadd C dL_law__2780 ?_
  refine r_scld C hSC dL_law__2781 (fun t2 => ?_)
  refine r_aload_n C 3 dL_law__2782 rfl rfl ?_
  refine r_callHL C hNc [rf G 194, i9 t2, i9 t1, rf G 0] dL_law__2783 (t_L_alone C.h1 C.h2 t1 t2 d) mwh_L_304 (by decide) (show k + 2 ≤ 601024 by omega) (show n + 12 ≤ 7293034 by omega) rfl rfl (Nat.le_of_ble_eq_true rfl) (fun r3 d4 => ?_)
  show SS G X 8 (k + 2) (n + 12) 2786 [(0, scf b), (1, rf G 0), (2, rf G 174), (3, rf G 194), (4, i9 v4)] [i9 r3] d4 _
  refine r_istore C [(5, i9 r3), (0, scf b), (1, rf G 0), (2, rf G 174), (3, rf G 194), (4, i9 v4)] dL_law__2786 (by decide) rfl ?_
  refine r_aload_n C 3 dL_law__2788 rfl rfl ?_
  refine r_aload_nC C 1 dL_law__2789 rfl rfl ?_
  refine r_iload C 5 dL_law__2790 rfl ?_
  refine r_iconst C dL_law__2792 ?_
  refine r_iadd C dL_law__2793 ?_
  refine r_scld C hSC dL_law__2794 (fun t5 => ?_)
  refine r_aload_nC C 1 dL_law__2795 rfl rfl ?_
  refine r_iload C 5 dL_law__2796 rfl ?_
  refine r_iconst C dL_law__2798 ?_
  refine r_iadd C dL_law__2799 ?_
  refine r_scld C hSC dL_law__2800 (fun t6 => ?_)
  refine r_callVL C [i9 t6, i9 t5, rf G 174] dL_law__2801 (t_X12_alone_174 C.h1 C.h2 t5 t6 d4) mw_L_306 mv_X12_alone la_174 ly_174 rfl (by decide) (show k + 2 + 0 ≤ 601024 by omega) (show n + 12 + 0 ≤ 7293034 by omega) rfl rfl (Nat.le_of_ble_eq_true rfl) (fun r7 d8 => ?_)
  show SS G X 8 (k + 2 + 0) (n + 12 + 0) 2804 [(5, i9 r3), (0, scf b), (1, rf G 0), (2, rf G 174), (3, rf G 194), (4, i9 v4)] [i9 r7] d8 _
  refine r_istore C [(6, i9 r7), (5, i9 r3), (0, scf b), (1, rf G 0), (2, rf G 174), (3, rf G 194), (4, i9 v4)] dL_law__2804 (by decide) rfl ?_
  refine r_aload_n C 4 dL_law__2806 rfl rfl ?_
  refine r_callVL C [rf G 174] dL_law__2807 (t_X12_thrown_174 C.h1 C.h2 d8) mw_L_175 mv_X12_thrown la_174 ly_174 rfl (by decide) (show k + 2 + 0 + 0 ≤ 601024 by omega) (show n + 12 + 0 + 0 ≤ 7293034 by omega) rfl rfl (Nat.le_of_ble_eq_true rfl) (fun r9 d10 => ?_)
  show SS G X 8 (k + 2 + 0 + 0) (n + 12 + 0 + 0) 2810 [(6, i9 r7), (5, i9 r3), (0, scf b), (1, rf G 0), (2, rf G 174), (3, rf G 194), (4, i9 v4)] [i9 r9] d10 _
  refine r_iload C 1 dL_law__2810 rfl ?_
  refine r_icmp_eq C 2817 dL_law__2812 (by decide) (fun _ => ?_) (fun _ => ?_)
  · refine r_iload C 1 dL_law__2817 rfl ?_
    refine r_if_ne C (b := 0) 2834 dL_law__2819 (by decide) (fun _ => ?_) (fun _ => ?_)
    · refine r_goto C 3533 dL_law__2834 (by decide) ?_
      refine r_iinc C 6 [(4, i9 (v4 + 7)), (6, i9 r7), (5, i9 r3), (0, scf b), (1, rf G 0), (2, rf G 174), (3, rf G 194)] dL_law__3533 rfl (by decide) rfl ?_
      refine r_goto C 23 dL_law__3536 (by decide) ?_
      refine ss_wide (k' := k + 12) (n' := n + 80) (show k + 2 + 0 + 0 ≤ k + 12 by omega) (show n + 12 + 0 + 0 ≤ n + 80 by omega) ?_
      refine ss_ls [(0, scf b), (1, rf G 0), (2, rf G 174), (3, rf G 194), (4, i9 (v4 + 7))] [3, 4, 5, 6, 0] rfl ?_
      exact hkc (v4 + 7) d10
    · refine r_aload_n C 5 dL_law__2822 rfl rfl ?_
      refine r_iconst C dL_law__2823 ?_
      refine r_lald C dL_law__2824 la_194 ly_194 (fun t11 => ?_)
      refine r_iload C 0 dL_law__2825 rfl ?_
      refine r_i2l C dL_law__2827 ?_
      refine r_lcmp_eq C 2834 dL_law__2828 dL_law__2829 (by decide) (fun _ => ?_) (fun _ => ?_)
      · refine r_goto C 3533 dL_law__2834 (by decide) ?_
        refine r_iinc C 6 [(4, i9 (v4 + 7)), (6, i9 r7), (5, i9 r3), (0, scf b), (1, rf G 0), (2, rf G 174), (3, rf G 194)] dL_law__3533 rfl (by decide) rfl ?_
        refine r_goto C 23 dL_law__3536 (by decide) ?_
        refine ss_wide (k' := k + 12) (n' := n + 80) (show k + 2 + 0 + 0 ≤ k + 12 by omega) (show n + 12 + 0 + 0 ≤ n + 80 by omega) ?_
        refine ss_ls [(0, scf b), (1, rf G 0), (2, rf G 174), (3, rf G 194), (4, i9 (v4 + 7))] [3, 4, 5, 6, 0] rfl ?_
        exact hkc (v4 + 7) d10
      · refine r_iconst C dL_law__2832 ?_
        exact ss_none
  · refine r_iconst C dL_law__2815 ?_
    exact ss_none
theorem dL_law__2837 : decode cL_law_ 2837 = .ok (.aload_n 1, 1) := by decide +kernel
theorem dL_law__2838 : decode cL_law_ 2838 = .ok (.aload_n 0, 1) := by decide +kernel
theorem dL_law__2839 : decode cL_law_ 2839 = .ok (.iload 4, 2) := by decide +kernel
theorem dL_law__2841 : decode cL_law_ 2841 = .ok (.iconst 1, 1) := by decide +kernel
theorem dL_law__2842 : decode cL_law_ 2842 = .ok (.iadd, 1) := by decide +kernel
theorem dL_law__2843 : decode cL_law_ 2843 = .ok (.iaload, 1) := by decide +kernel
theorem dL_law__2844 : decode cL_law_ 2844 = .ok (.aload_n 3, 1) := by decide +kernel
theorem dL_law__2845 : decode cL_law_ 2845 = .ok (.invokestatic 307, 3) := by decide +kernel
theorem dL_law__2848 : decode cL_law_ 2848 = .ok (.istore 5, 2) := by decide +kernel
theorem dL_law__2850 : decode cL_law_ 2850 = .ok (.aload_n 2, 1) := by decide +kernel
theorem dL_law__2851 : decode cL_law_ 2851 = .ok (.aload_n 0, 1) := by decide +kernel
theorem dL_law__2852 : decode cL_law_ 2852 = .ok (.iload 4, 2) := by decide +kernel
theorem dL_law__2854 : decode cL_law_ 2854 = .ok (.iconst 1, 1) := by decide +kernel
theorem dL_law__2855 : decode cL_law_ 2855 = .ok (.iadd, 1) := by decide +kernel
theorem dL_law__2856 : decode cL_law_ 2856 = .ok (.iaload, 1) := by decide +kernel
theorem dL_law__2857 : decode cL_law_ 2857 = .ok (.invokevirtual 309, 3) := by decide +kernel
theorem dL_law__2860 : decode cL_law_ 2860 = .ok (.istore 6, 2) := by decide +kernel
theorem dL_law__2862 : decode cL_law_ 2862 = .ok (.aload_n 2, 1) := by decide +kernel
theorem dL_law__2863 : decode cL_law_ 2863 = .ok (.invokevirtual 175, 3) := by decide +kernel
theorem dL_law__2866 : decode cL_law_ 2866 = .ok (.iload 5, 2) := by decide +kernel
theorem dL_law__2868 : decode cL_law_ 2868 = .ok (.if_icmp .eq 5, 3) := by decide +kernel
theorem dL_law__2871 : decode cL_law_ 2871 = .ok (.iconst 0, 1) := by decide +kernel
theorem dL_law__2873 : decode cL_law_ 2873 = .ok (.iload 5, 2) := by decide +kernel
theorem dL_law__2875 : decode cL_law_ 2875 = .ok (.ifCond .ne 15, 3) := by decide +kernel
theorem dL_law__2878 : decode cL_law_ 2878 = .ok (.aload_n 3, 1) := by decide +kernel
theorem dL_law__2879 : decode cL_law_ 2879 = .ok (.iconst 0, 1) := by decide +kernel
theorem dL_law__2880 : decode cL_law_ 2880 = .ok (.laload, 1) := by decide +kernel
theorem dL_law__2881 : decode cL_law_ 2881 = .ok (.iload 6, 2) := by decide +kernel
theorem dL_law__2883 : decode cL_law_ 2883 = .ok (.i2l, 1) := by decide +kernel
theorem dL_law__2884 : decode cL_law_ 2884 = .ok (.lcmp, 1) := by decide +kernel
theorem dL_law__2885 : decode cL_law_ 2885 = .ok (.ifCond .eq 5, 3) := by decide +kernel
theorem dL_law__2888 : decode cL_law_ 2888 = .ok (.iconst 0, 1) := by decide +kernel
theorem dL_law__2890 : decode cL_law_ 2890 = .ok (.goto 643, 3) := by decide +kernel
def m_L_case_38 (xs : Nat → Int) (L : Nat) (kc : Int → D9 → Option R9) (v4 : Int) (d : D9) : Option R9 := scr xs L (v4 + 1) (fun t1 => cz (m_L_spread t1 d) (fun r2 d3 => scr xs L (v4 + 1) (fun t4 => cz (m_X12_spread_174 t4 d3) (fun r5 d6 => cz (m_X12_thrown_174 d6) (fun r7 d8 => if w32 r7 = w32 r2 then if w32 r2 ≠ 0 then kc (v4 + 7) d8 else ld d8 194 1 0 (fun t9 => if w64 t9 = w64 (w32 r5) then kc (v4 + 7) d8 else none) else none)))))
set_option maxRecDepth 100000 in
theorem s_L_case_38 {G : G9} {X : X9} (C : CX G X cL_law_ 8 RL [] zL9) (hNc : NC9 (xS X)) {b L : Nat} {xs : Nat → Int} (hSC : SCX G X b L xs) {k n : Nat} (hk : k + 12 ≤ 601024) (hn : n + 80 ≤ 7293034) (kc : Int → D9 → Option R9) (hkc : ∀ (v4 : Int) (d : D9), SS G X 8 (k + 12) (n + 80) 23 [(0, scf b), (1, rf G 0), (2, rf G 174), (3, rf G 194), (4, i9 v4)] [] d (kc v4 d)) : ∀ (v4 : Int) (d : D9), SS G X 8 k n 2837 [(0, scf b), (1, rf G 0), (2, rf G 174), (3, rf G 194), (4, i9 v4)] [] d (m_L_case_38 xs L kc v4 d) := by
  intro v4 d
  unfold m_L_case_38
  refine r_aload_n C 1 dL_law__2837 rfl rfl ?_
  refine r_aload_nC C 0 dL_law__2838 rfl rfl ?_
  refine r_iload C 4 dL_law__2839 rfl ?_
  refine r_iconst C dL_law__2841 ?_
  refine r_iadd C dL_law__2842 ?_
  refine r_scld C hSC dL_law__2843 (fun t1 => ?_)
  refine r_aload_n C 3 dL_law__2844 rfl rfl ?_
  refine r_callHL C hNc [rf G 194, i9 t1, rf G 0] dL_law__2845 (t_L_spread C.h1 C.h2 t1 d) mwh_L_307 (by decide) (show k + 1 ≤ 601024 by omega) (show n + 6 ≤ 7293034 by omega) rfl rfl (Nat.le_of_ble_eq_true rfl) (fun r2 d3 => ?_)
  show SS G X 8 (k + 1) (n + 6) 2848 [(0, scf b), (1, rf G 0), (2, rf G 174), (3, rf G 194), (4, i9 v4)] [i9 r2] d3 _
  refine r_istore C [(5, i9 r2), (0, scf b), (1, rf G 0), (2, rf G 174), (3, rf G 194), (4, i9 v4)] dL_law__2848 (by decide) rfl ?_
  refine r_aload_n C 3 dL_law__2850 rfl rfl ?_
  refine r_aload_nC C 1 dL_law__2851 rfl rfl ?_
  refine r_iload C 5 dL_law__2852 rfl ?_
  refine r_iconst C dL_law__2854 ?_
  refine r_iadd C dL_law__2855 ?_
  refine r_scld C hSC dL_law__2856 (fun t4 => ?_)
  refine r_callVL C [i9 t4, rf G 174] dL_law__2857 (t_X12_spread_174 C.h1 C.h2 t4 d3) mw_L_309 mv_X12_spread la_174 ly_174 rfl (by decide) (show k + 1 + 0 ≤ 601024 by omega) (show n + 6 + 0 ≤ 7293034 by omega) rfl rfl (Nat.le_of_ble_eq_true rfl) (fun r5 d6 => ?_)
  show SS G X 8 (k + 1 + 0) (n + 6 + 0) 2860 [(5, i9 r2), (0, scf b), (1, rf G 0), (2, rf G 174), (3, rf G 194), (4, i9 v4)] [i9 r5] d6 _
  refine r_istore C [(6, i9 r5), (5, i9 r2), (0, scf b), (1, rf G 0), (2, rf G 174), (3, rf G 194), (4, i9 v4)] dL_law__2860 (by decide) rfl ?_
  refine r_aload_n C 4 dL_law__2862 rfl rfl ?_
  refine r_callVL C [rf G 174] dL_law__2863 (t_X12_thrown_174 C.h1 C.h2 d6) mw_L_175 mv_X12_thrown la_174 ly_174 rfl (by decide) (show k + 1 + 0 + 0 ≤ 601024 by omega) (show n + 6 + 0 + 0 ≤ 7293034 by omega) rfl rfl (Nat.le_of_ble_eq_true rfl) (fun r7 d8 => ?_)
  show SS G X 8 (k + 1 + 0 + 0) (n + 6 + 0 + 0) 2866 [(6, i9 r5), (5, i9 r2), (0, scf b), (1, rf G 0), (2, rf G 174), (3, rf G 194), (4, i9 v4)] [i9 r7] d8 _
  refine r_iload C 1 dL_law__2866 rfl ?_
  refine r_icmp_eq C 2873 dL_law__2868 (by decide) (fun _ => ?_) (fun _ => ?_)
  · refine r_iload C 1 dL_law__2873 rfl ?_
    refine r_if_ne C (b := 0) 2890 dL_law__2875 (by decide) (fun _ => ?_) (fun _ => ?_)
    · refine r_goto C 3533 dL_law__2890 (by decide) ?_
      refine r_iinc C 6 [(4, i9 (v4 + 7)), (6, i9 r5), (5, i9 r2), (0, scf b), (1, rf G 0), (2, rf G 174), (3, rf G 194)] dL_law__3533 rfl (by decide) rfl ?_
      refine r_goto C 23 dL_law__3536 (by decide) ?_
      refine ss_wide (k' := k + 12) (n' := n + 80) (show k + 1 + 0 + 0 ≤ k + 12 by omega) (show n + 6 + 0 + 0 ≤ n + 80 by omega) ?_
      refine ss_ls [(0, scf b), (1, rf G 0), (2, rf G 174), (3, rf G 194), (4, i9 (v4 + 7))] [3, 4, 5, 6, 0] rfl ?_
      exact hkc (v4 + 7) d8
    · refine r_aload_n C 5 dL_law__2878 rfl rfl ?_
      refine r_iconst C dL_law__2879 ?_
      refine r_lald C dL_law__2880 la_194 ly_194 (fun t9 => ?_)
      refine r_iload C 0 dL_law__2881 rfl ?_
      refine r_i2l C dL_law__2883 ?_
      refine r_lcmp_eq C 2890 dL_law__2884 dL_law__2885 (by decide) (fun _ => ?_) (fun _ => ?_)
      · refine r_goto C 3533 dL_law__2890 (by decide) ?_
        refine r_iinc C 6 [(4, i9 (v4 + 7)), (6, i9 r5), (5, i9 r2), (0, scf b), (1, rf G 0), (2, rf G 174), (3, rf G 194)] dL_law__3533 rfl (by decide) rfl ?_
        refine r_goto C 23 dL_law__3536 (by decide) ?_
        refine ss_wide (k' := k + 12) (n' := n + 80) (show k + 1 + 0 + 0 ≤ k + 12 by omega) (show n + 6 + 0 + 0 ≤ n + 80 by omega) ?_
        refine ss_ls [(0, scf b), (1, rf G 0), (2, rf G 174), (3, rf G 194), (4, i9 (v4 + 7))] [3, 4, 5, 6, 0] rfl ?_
        exact hkc (v4 + 7) d8
      · refine r_iconst C dL_law__2888 ?_
        exact ss_none
  · refine r_iconst C dL_law__2871 ?_
    exact ss_none
theorem dL_law__2893 : decode cL_law_ 2893 = .ok (.aload_n 1, 1) := by decide +kernel
theorem dL_law__2894 : decode cL_law_ 2894 = .ok (.aload_n 0, 1) := by decide +kernel
theorem dL_law__2895 : decode cL_law_ 2895 = .ok (.iload 4, 2) := by decide +kernel
theorem dL_law__2897 : decode cL_law_ 2897 = .ok (.iconst 1, 1) := by decide +kernel
theorem dL_law__2898 : decode cL_law_ 2898 = .ok (.iadd, 1) := by decide +kernel
theorem dL_law__2899 : decode cL_law_ 2899 = .ok (.iaload, 1) := by decide +kernel
theorem dL_law__2900 : decode cL_law_ 2900 = .ok (.aload_n 3, 1) := by decide +kernel
theorem dL_law__2901 : decode cL_law_ 2901 = .ok (.invokestatic 310, 3) := by decide +kernel
theorem dL_law__2904 : decode cL_law_ 2904 = .ok (.istore 5, 2) := by decide +kernel
theorem dL_law__2906 : decode cL_law_ 2906 = .ok (.aload_n 2, 1) := by decide +kernel
theorem dL_law__2907 : decode cL_law_ 2907 = .ok (.aload_n 0, 1) := by decide +kernel
theorem dL_law__2908 : decode cL_law_ 2908 = .ok (.iload 4, 2) := by decide +kernel
theorem dL_law__2910 : decode cL_law_ 2910 = .ok (.iconst 1, 1) := by decide +kernel
theorem dL_law__2911 : decode cL_law_ 2911 = .ok (.iadd, 1) := by decide +kernel
theorem dL_law__2912 : decode cL_law_ 2912 = .ok (.iaload, 1) := by decide +kernel
theorem dL_law__2913 : decode cL_law_ 2913 = .ok (.invokevirtual 312, 3) := by decide +kernel
theorem dL_law__2916 : decode cL_law_ 2916 = .ok (.istore 6, 2) := by decide +kernel
theorem dL_law__2918 : decode cL_law_ 2918 = .ok (.aload_n 2, 1) := by decide +kernel
theorem dL_law__2919 : decode cL_law_ 2919 = .ok (.invokevirtual 175, 3) := by decide +kernel
theorem dL_law__2922 : decode cL_law_ 2922 = .ok (.iload 5, 2) := by decide +kernel
theorem dL_law__2924 : decode cL_law_ 2924 = .ok (.if_icmp .eq 5, 3) := by decide +kernel
theorem dL_law__2927 : decode cL_law_ 2927 = .ok (.iconst 0, 1) := by decide +kernel
theorem dL_law__2929 : decode cL_law_ 2929 = .ok (.iload 5, 2) := by decide +kernel
theorem dL_law__2931 : decode cL_law_ 2931 = .ok (.ifCond .ne 15, 3) := by decide +kernel
theorem dL_law__2934 : decode cL_law_ 2934 = .ok (.aload_n 3, 1) := by decide +kernel
theorem dL_law__2935 : decode cL_law_ 2935 = .ok (.iconst 0, 1) := by decide +kernel
theorem dL_law__2936 : decode cL_law_ 2936 = .ok (.laload, 1) := by decide +kernel
theorem dL_law__2937 : decode cL_law_ 2937 = .ok (.iload 6, 2) := by decide +kernel
theorem dL_law__2939 : decode cL_law_ 2939 = .ok (.i2l, 1) := by decide +kernel
theorem dL_law__2940 : decode cL_law_ 2940 = .ok (.lcmp, 1) := by decide +kernel
theorem dL_law__2941 : decode cL_law_ 2941 = .ok (.ifCond .eq 5, 3) := by decide +kernel
theorem dL_law__2944 : decode cL_law_ 2944 = .ok (.iconst 0, 1) := by decide +kernel
theorem dL_law__2946 : decode cL_law_ 2946 = .ok (.goto 587, 3) := by decide +kernel
def m_L_case_39 (xs : Nat → Int) (L : Nat) (kc : Int → D9 → Option R9) (v4 : Int) (d : D9) : Option R9 := scr xs L (v4 + 1) (fun t1 => cz (m_L_first t1 d) (fun r2 d3 => scr xs L (v4 + 1) (fun t4 => cz (m_X12_first_174 t4 d3) (fun r5 d6 => cz (m_X12_thrown_174 d6) (fun r7 d8 => if w32 r7 = w32 r2 then if w32 r2 ≠ 0 then kc (v4 + 7) d8 else ld d8 194 1 0 (fun t9 => if w64 t9 = w64 (w32 r5) then kc (v4 + 7) d8 else none) else none)))))
set_option maxRecDepth 100000 in
theorem s_L_case_39 {G : G9} {X : X9} (C : CX G X cL_law_ 8 RL [] zL9) (hNc : NC9 (xS X)) {b L : Nat} {xs : Nat → Int} (hSC : SCX G X b L xs) {k n : Nat} (hk : k + 12 ≤ 601024) (hn : n + 80 ≤ 7293034) (kc : Int → D9 → Option R9) (hkc : ∀ (v4 : Int) (d : D9), SS G X 8 (k + 12) (n + 80) 23 [(0, scf b), (1, rf G 0), (2, rf G 174), (3, rf G 194), (4, i9 v4)] [] d (kc v4 d)) : ∀ (v4 : Int) (d : D9), SS G X 8 k n 2893 [(0, scf b), (1, rf G 0), (2, rf G 174), (3, rf G 194), (4, i9 v4)] [] d (m_L_case_39 xs L kc v4 d) := by
  intro v4 d
  unfold m_L_case_39
  refine r_aload_n C 1 dL_law__2893 rfl rfl ?_
  refine r_aload_nC C 0 dL_law__2894 rfl rfl ?_
  refine r_iload C 4 dL_law__2895 rfl ?_
  refine r_iconst C dL_law__2897 ?_
  refine r_iadd C dL_law__2898 ?_
  refine r_scld C hSC dL_law__2899 (fun t1 => ?_)
  refine r_aload_n C 3 dL_law__2900 rfl rfl ?_
  refine r_callHL C hNc [rf G 194, i9 t1, rf G 0] dL_law__2901 (t_L_first C.h1 C.h2 t1 d) mwh_L_310 (by decide) (show k + 1 ≤ 601024 by omega) (show n + 6 ≤ 7293034 by omega) rfl rfl (Nat.le_of_ble_eq_true rfl) (fun r2 d3 => ?_)
  show SS G X 8 (k + 1) (n + 6) 2904 [(0, scf b), (1, rf G 0), (2, rf G 174), (3, rf G 194), (4, i9 v4)] [i9 r2] d3 _
  refine r_istore C [(5, i9 r2), (0, scf b), (1, rf G 0), (2, rf G 174), (3, rf G 194), (4, i9 v4)] dL_law__2904 (by decide) rfl ?_
  refine r_aload_n C 3 dL_law__2906 rfl rfl ?_
  refine r_aload_nC C 1 dL_law__2907 rfl rfl ?_
  refine r_iload C 5 dL_law__2908 rfl ?_
  refine r_iconst C dL_law__2910 ?_
  refine r_iadd C dL_law__2911 ?_
  refine r_scld C hSC dL_law__2912 (fun t4 => ?_)
  refine r_callVL C [i9 t4, rf G 174] dL_law__2913 (t_X12_first_174 C.h1 C.h2 t4 d3) mw_L_312 mv_X12_first la_174 ly_174 rfl (by decide) (show k + 1 + 0 ≤ 601024 by omega) (show n + 6 + 0 ≤ 7293034 by omega) rfl rfl (Nat.le_of_ble_eq_true rfl) (fun r5 d6 => ?_)
  show SS G X 8 (k + 1 + 0) (n + 6 + 0) 2916 [(5, i9 r2), (0, scf b), (1, rf G 0), (2, rf G 174), (3, rf G 194), (4, i9 v4)] [i9 r5] d6 _
  refine r_istore C [(6, i9 r5), (5, i9 r2), (0, scf b), (1, rf G 0), (2, rf G 174), (3, rf G 194), (4, i9 v4)] dL_law__2916 (by decide) rfl ?_
  refine r_aload_n C 4 dL_law__2918 rfl rfl ?_
  refine r_callVL C [rf G 174] dL_law__2919 (t_X12_thrown_174 C.h1 C.h2 d6) mw_L_175 mv_X12_thrown la_174 ly_174 rfl (by decide) (show k + 1 + 0 + 0 ≤ 601024 by omega) (show n + 6 + 0 + 0 ≤ 7293034 by omega) rfl rfl (Nat.le_of_ble_eq_true rfl) (fun r7 d8 => ?_)
  show SS G X 8 (k + 1 + 0 + 0) (n + 6 + 0 + 0) 2922 [(6, i9 r5), (5, i9 r2), (0, scf b), (1, rf G 0), (2, rf G 174), (3, rf G 194), (4, i9 v4)] [i9 r7] d8 _
  refine r_iload C 1 dL_law__2922 rfl ?_
  refine r_icmp_eq C 2929 dL_law__2924 (by decide) (fun _ => ?_) (fun _ => ?_)
  · refine r_iload C 1 dL_law__2929 rfl ?_
    refine r_if_ne C (b := 0) 2946 dL_law__2931 (by decide) (fun _ => ?_) (fun _ => ?_)
    · refine r_goto C 3533 dL_law__2946 (by decide) ?_
      refine r_iinc C 6 [(4, i9 (v4 + 7)), (6, i9 r5), (5, i9 r2), (0, scf b), (1, rf G 0), (2, rf G 174), (3, rf G 194)] dL_law__3533 rfl (by decide) rfl ?_
      refine r_goto C 23 dL_law__3536 (by decide) ?_
      refine ss_wide (k' := k + 12) (n' := n + 80) (show k + 1 + 0 + 0 ≤ k + 12 by omega) (show n + 6 + 0 + 0 ≤ n + 80 by omega) ?_
      refine ss_ls [(0, scf b), (1, rf G 0), (2, rf G 174), (3, rf G 194), (4, i9 (v4 + 7))] [3, 4, 5, 6, 0] rfl ?_
      exact hkc (v4 + 7) d8
    · refine r_aload_n C 5 dL_law__2934 rfl rfl ?_
      refine r_iconst C dL_law__2935 ?_
      refine r_lald C dL_law__2936 la_194 ly_194 (fun t9 => ?_)
      refine r_iload C 0 dL_law__2937 rfl ?_
      refine r_i2l C dL_law__2939 ?_
      refine r_lcmp_eq C 2946 dL_law__2940 dL_law__2941 (by decide) (fun _ => ?_) (fun _ => ?_)
      · refine r_goto C 3533 dL_law__2946 (by decide) ?_
        refine r_iinc C 6 [(4, i9 (v4 + 7)), (6, i9 r5), (5, i9 r2), (0, scf b), (1, rf G 0), (2, rf G 174), (3, rf G 194)] dL_law__3533 rfl (by decide) rfl ?_
        refine r_goto C 23 dL_law__3536 (by decide) ?_
        refine ss_wide (k' := k + 12) (n' := n + 80) (show k + 1 + 0 + 0 ≤ k + 12 by omega) (show n + 6 + 0 + 0 ≤ n + 80 by omega) ?_
        refine ss_ls [(0, scf b), (1, rf G 0), (2, rf G 174), (3, rf G 194), (4, i9 (v4 + 7))] [3, 4, 5, 6, 0] rfl ?_
        exact hkc (v4 + 7) d8
      · refine r_iconst C dL_law__2944 ?_
        exact ss_none
  · refine r_iconst C dL_law__2927 ?_
    exact ss_none
theorem dL_law__2949 : decode cL_law_ 2949 = .ok (.aload_n 1, 1) := by decide +kernel
theorem dL_law__2950 : decode cL_law_ 2950 = .ok (.aload_n 0, 1) := by decide +kernel
theorem dL_law__2951 : decode cL_law_ 2951 = .ok (.iload 4, 2) := by decide +kernel
theorem dL_law__2953 : decode cL_law_ 2953 = .ok (.iconst 1, 1) := by decide +kernel
theorem dL_law__2954 : decode cL_law_ 2954 = .ok (.iadd, 1) := by decide +kernel
theorem dL_law__2955 : decode cL_law_ 2955 = .ok (.iaload, 1) := by decide +kernel
theorem dL_law__2956 : decode cL_law_ 2956 = .ok (.aload_n 0, 1) := by decide +kernel
theorem dL_law__2957 : decode cL_law_ 2957 = .ok (.iload 4, 2) := by decide +kernel
theorem dL_law__2959 : decode cL_law_ 2959 = .ok (.iconst 2, 1) := by decide +kernel
theorem dL_law__2960 : decode cL_law_ 2960 = .ok (.iadd, 1) := by decide +kernel
theorem dL_law__2961 : decode cL_law_ 2961 = .ok (.iaload, 1) := by decide +kernel
theorem dL_law__2962 : decode cL_law_ 2962 = .ok (.aload_n 3, 1) := by decide +kernel
theorem dL_law__2963 : decode cL_law_ 2963 = .ok (.invokestatic 313, 3) := by decide +kernel
theorem dL_law__2966 : decode cL_law_ 2966 = .ok (.istore 5, 2) := by decide +kernel
theorem dL_law__2968 : decode cL_law_ 2968 = .ok (.aload_n 2, 1) := by decide +kernel
theorem dL_law__2969 : decode cL_law_ 2969 = .ok (.aload_n 0, 1) := by decide +kernel
theorem dL_law__2970 : decode cL_law_ 2970 = .ok (.iload 4, 2) := by decide +kernel
theorem dL_law__2972 : decode cL_law_ 2972 = .ok (.iconst 1, 1) := by decide +kernel
theorem dL_law__2973 : decode cL_law_ 2973 = .ok (.iadd, 1) := by decide +kernel
theorem dL_law__2974 : decode cL_law_ 2974 = .ok (.iaload, 1) := by decide +kernel
theorem dL_law__2975 : decode cL_law_ 2975 = .ok (.aload_n 0, 1) := by decide +kernel
theorem dL_law__2976 : decode cL_law_ 2976 = .ok (.iload 4, 2) := by decide +kernel
theorem dL_law__2978 : decode cL_law_ 2978 = .ok (.iconst 2, 1) := by decide +kernel
theorem dL_law__2979 : decode cL_law_ 2979 = .ok (.iadd, 1) := by decide +kernel
theorem dL_law__2980 : decode cL_law_ 2980 = .ok (.iaload, 1) := by decide +kernel
theorem dL_law__2981 : decode cL_law_ 2981 = .ok (.invokevirtual 315, 3) := by decide +kernel
theorem dL_law__2984 : decode cL_law_ 2984 = .ok (.istore 6, 2) := by decide +kernel
theorem dL_law__2986 : decode cL_law_ 2986 = .ok (.aload_n 2, 1) := by decide +kernel
theorem dL_law__2987 : decode cL_law_ 2987 = .ok (.invokevirtual 175, 3) := by decide +kernel
theorem dL_law__2990 : decode cL_law_ 2990 = .ok (.iload 5, 2) := by decide +kernel
theorem dL_law__2992 : decode cL_law_ 2992 = .ok (.if_icmp .eq 5, 3) := by decide +kernel
theorem dL_law__2995 : decode cL_law_ 2995 = .ok (.iconst 0, 1) := by decide +kernel
theorem dL_law__2997 : decode cL_law_ 2997 = .ok (.iload 5, 2) := by decide +kernel
theorem dL_law__2999 : decode cL_law_ 2999 = .ok (.ifCond .ne 15, 3) := by decide +kernel
theorem dL_law__3002 : decode cL_law_ 3002 = .ok (.aload_n 3, 1) := by decide +kernel
theorem dL_law__3003 : decode cL_law_ 3003 = .ok (.iconst 0, 1) := by decide +kernel
theorem dL_law__3004 : decode cL_law_ 3004 = .ok (.laload, 1) := by decide +kernel
theorem dL_law__3005 : decode cL_law_ 3005 = .ok (.iload 6, 2) := by decide +kernel
theorem dL_law__3007 : decode cL_law_ 3007 = .ok (.i2l, 1) := by decide +kernel
theorem dL_law__3008 : decode cL_law_ 3008 = .ok (.lcmp, 1) := by decide +kernel
theorem dL_law__3009 : decode cL_law_ 3009 = .ok (.ifCond .eq 5, 3) := by decide +kernel
theorem dL_law__3012 : decode cL_law_ 3012 = .ok (.iconst 0, 1) := by decide +kernel
theorem dL_law__3014 : decode cL_law_ 3014 = .ok (.goto 519, 3) := by decide +kernel
def m_L_case_40 (xs : Nat → Int) (L : Nat) (kc : Int → D9 → Option R9) (v4 : Int) (d : D9) : Option R9 := scr xs L (v4 + 1) (fun t1 => scr xs L (v4 + 2) (fun t2 => cz (m_L_plan t1 t2 d) (fun r3 d4 => scr xs L (v4 + 1) (fun t5 => scr xs L (v4 + 2) (fun t6 => cz (m_X12_plan_174 t5 t6 d4) (fun r7 d8 => cz (m_X12_thrown_174 d8) (fun r9 d10 => if w32 r9 = w32 r3 then if w32 r3 ≠ 0 then kc (v4 + 7) d10 else ld d10 194 1 0 (fun t11 => if w64 t11 = w64 (w32 r7) then kc (v4 + 7) d10 else none) else none)))))))
set_option maxRecDepth 100000 in
theorem s_L_case_40 {G : G9} {X : X9} (C : CX G X cL_law_ 8 RL [] zL9) (hNc : NC9 (xS X)) {b L : Nat} {xs : Nat → Int} (hSC : SCX G X b L xs) {k n : Nat} (hk : k + 12 ≤ 601024) (hn : n + 80 ≤ 7293034) (kc : Int → D9 → Option R9) (hkc : ∀ (v4 : Int) (d : D9), SS G X 8 (k + 12) (n + 80) 23 [(0, scf b), (1, rf G 0), (2, rf G 174), (3, rf G 194), (4, i9 v4)] [] d (kc v4 d)) : ∀ (v4 : Int) (d : D9), SS G X 8 k n 2949 [(0, scf b), (1, rf G 0), (2, rf G 174), (3, rf G 194), (4, i9 v4)] [] d (m_L_case_40 xs L kc v4 d) := by
  intro v4 d
  unfold m_L_case_40
  refine r_aload_n C 1 dL_law__2949 rfl rfl ?_
  refine r_aload_nC C 0 dL_law__2950 rfl rfl ?_
  refine r_iload C 4 dL_law__2951 rfl ?_
  refine r_iconst C dL_law__2953 ?_
  refine r_iadd C dL_law__2954 ?_
  refine r_scld C hSC dL_law__2955 (fun t1 => ?_)
  refine r_aload_nC C 0 dL_law__2956 rfl rfl ?_
  refine r_iload C 4 dL_law__2957 rfl ?_
  refine r_iconst C dL_law__2959 ?_
  refine r_iadd C dL_law__2960 ?_
  refine r_scld C hSC dL_law__2961 (fun t2 => ?_)
  refine r_aload_n C 3 dL_law__2962 rfl rfl ?_
  refine r_callHL C hNc [rf G 194, i9 t2, i9 t1, rf G 0] dL_law__2963 (t_L_plan C.h1 C.h2 t1 t2 d) mwh_L_313 (by decide) (show k + 2 ≤ 601024 by omega) (show n + 12 ≤ 7293034 by omega) rfl rfl (Nat.le_of_ble_eq_true rfl) (fun r3 d4 => ?_)
  show SS G X 8 (k + 2) (n + 12) 2966 [(0, scf b), (1, rf G 0), (2, rf G 174), (3, rf G 194), (4, i9 v4)] [i9 r3] d4 _
  refine r_istore C [(5, i9 r3), (0, scf b), (1, rf G 0), (2, rf G 174), (3, rf G 194), (4, i9 v4)] dL_law__2966 (by decide) rfl ?_
  refine r_aload_n C 3 dL_law__2968 rfl rfl ?_
  refine r_aload_nC C 1 dL_law__2969 rfl rfl ?_
  refine r_iload C 5 dL_law__2970 rfl ?_
  refine r_iconst C dL_law__2972 ?_
  refine r_iadd C dL_law__2973 ?_
  refine r_scld C hSC dL_law__2974 (fun t5 => ?_)
  refine r_aload_nC C 1 dL_law__2975 rfl rfl ?_
  refine r_iload C 5 dL_law__2976 rfl ?_
  refine r_iconst C dL_law__2978 ?_
  refine r_iadd C dL_law__2979 ?_
  refine r_scld C hSC dL_law__2980 (fun t6 => ?_)
  refine r_callVL C [i9 t6, i9 t5, rf G 174] dL_law__2981 (t_X12_plan_174 C.h1 C.h2 t5 t6 d4) mw_L_315 mv_X12_plan la_174 ly_174 rfl (by decide) (show k + 2 + 0 ≤ 601024 by omega) (show n + 12 + 0 ≤ 7293034 by omega) rfl rfl (Nat.le_of_ble_eq_true rfl) (fun r7 d8 => ?_)
  show SS G X 8 (k + 2 + 0) (n + 12 + 0) 2984 [(5, i9 r3), (0, scf b), (1, rf G 0), (2, rf G 174), (3, rf G 194), (4, i9 v4)] [i9 r7] d8 _
  refine r_istore C [(6, i9 r7), (5, i9 r3), (0, scf b), (1, rf G 0), (2, rf G 174), (3, rf G 194), (4, i9 v4)] dL_law__2984 (by decide) rfl ?_
  refine r_aload_n C 4 dL_law__2986 rfl rfl ?_
  refine r_callVL C [rf G 174] dL_law__2987 (t_X12_thrown_174 C.h1 C.h2 d8) mw_L_175 mv_X12_thrown la_174 ly_174 rfl (by decide) (show k + 2 + 0 + 0 ≤ 601024 by omega) (show n + 12 + 0 + 0 ≤ 7293034 by omega) rfl rfl (Nat.le_of_ble_eq_true rfl) (fun r9 d10 => ?_)
  show SS G X 8 (k + 2 + 0 + 0) (n + 12 + 0 + 0) 2990 [(6, i9 r7), (5, i9 r3), (0, scf b), (1, rf G 0), (2, rf G 174), (3, rf G 194), (4, i9 v4)] [i9 r9] d10 _
  refine r_iload C 1 dL_law__2990 rfl ?_
  refine r_icmp_eq C 2997 dL_law__2992 (by decide) (fun _ => ?_) (fun _ => ?_)
  · refine r_iload C 1 dL_law__2997 rfl ?_
    refine r_if_ne C (b := 0) 3014 dL_law__2999 (by decide) (fun _ => ?_) (fun _ => ?_)
    · refine r_goto C 3533 dL_law__3014 (by decide) ?_
      refine r_iinc C 6 [(4, i9 (v4 + 7)), (6, i9 r7), (5, i9 r3), (0, scf b), (1, rf G 0), (2, rf G 174), (3, rf G 194)] dL_law__3533 rfl (by decide) rfl ?_
      refine r_goto C 23 dL_law__3536 (by decide) ?_
      refine ss_wide (k' := k + 12) (n' := n + 80) (show k + 2 + 0 + 0 ≤ k + 12 by omega) (show n + 12 + 0 + 0 ≤ n + 80 by omega) ?_
      refine ss_ls [(0, scf b), (1, rf G 0), (2, rf G 174), (3, rf G 194), (4, i9 (v4 + 7))] [3, 4, 5, 6, 0] rfl ?_
      exact hkc (v4 + 7) d10
    · refine r_aload_n C 5 dL_law__3002 rfl rfl ?_
      refine r_iconst C dL_law__3003 ?_
      refine r_lald C dL_law__3004 la_194 ly_194 (fun t11 => ?_)
      refine r_iload C 0 dL_law__3005 rfl ?_
      refine r_i2l C dL_law__3007 ?_
      refine r_lcmp_eq C 3014 dL_law__3008 dL_law__3009 (by decide) (fun _ => ?_) (fun _ => ?_)
      · refine r_goto C 3533 dL_law__3014 (by decide) ?_
        refine r_iinc C 6 [(4, i9 (v4 + 7)), (6, i9 r7), (5, i9 r3), (0, scf b), (1, rf G 0), (2, rf G 174), (3, rf G 194)] dL_law__3533 rfl (by decide) rfl ?_
        refine r_goto C 23 dL_law__3536 (by decide) ?_
        refine ss_wide (k' := k + 12) (n' := n + 80) (show k + 2 + 0 + 0 ≤ k + 12 by omega) (show n + 12 + 0 + 0 ≤ n + 80 by omega) ?_
        refine ss_ls [(0, scf b), (1, rf G 0), (2, rf G 174), (3, rf G 194), (4, i9 (v4 + 7))] [3, 4, 5, 6, 0] rfl ?_
        exact hkc (v4 + 7) d10
      · refine r_iconst C dL_law__3012 ?_
        exact ss_none
  · refine r_iconst C dL_law__2995 ?_
    exact ss_none
theorem dL_law__3017 : decode cL_law_ 3017 = .ok (.aload_n 1, 1) := by decide +kernel
theorem dL_law__3018 : decode cL_law_ 3018 = .ok (.aload_n 0, 1) := by decide +kernel
theorem dL_law__3019 : decode cL_law_ 3019 = .ok (.iload 4, 2) := by decide +kernel
theorem dL_law__3021 : decode cL_law_ 3021 = .ok (.iconst 1, 1) := by decide +kernel
theorem dL_law__3022 : decode cL_law_ 3022 = .ok (.iadd, 1) := by decide +kernel
theorem dL_law__3023 : decode cL_law_ 3023 = .ok (.iaload, 1) := by decide +kernel
theorem dL_law__3024 : decode cL_law_ 3024 = .ok (.aload_n 0, 1) := by decide +kernel
theorem dL_law__3025 : decode cL_law_ 3025 = .ok (.iload 4, 2) := by decide +kernel
theorem dL_law__3027 : decode cL_law_ 3027 = .ok (.iconst 2, 1) := by decide +kernel
theorem dL_law__3028 : decode cL_law_ 3028 = .ok (.iadd, 1) := by decide +kernel
theorem dL_law__3029 : decode cL_law_ 3029 = .ok (.iaload, 1) := by decide +kernel
theorem dL_law__3030 : decode cL_law_ 3030 = .ok (.aload_n 3, 1) := by decide +kernel
theorem dL_law__3031 : decode cL_law_ 3031 = .ok (.invokestatic 316, 3) := by decide +kernel
theorem dL_law__3034 : decode cL_law_ 3034 = .ok (.istore 5, 2) := by decide +kernel
theorem dL_law__3036 : decode cL_law_ 3036 = .ok (.aload_n 2, 1) := by decide +kernel
theorem dL_law__3037 : decode cL_law_ 3037 = .ok (.aload_n 0, 1) := by decide +kernel
theorem dL_law__3038 : decode cL_law_ 3038 = .ok (.iload 4, 2) := by decide +kernel
theorem dL_law__3040 : decode cL_law_ 3040 = .ok (.iconst 1, 1) := by decide +kernel
theorem dL_law__3041 : decode cL_law_ 3041 = .ok (.iadd, 1) := by decide +kernel
theorem dL_law__3042 : decode cL_law_ 3042 = .ok (.iaload, 1) := by decide +kernel
theorem dL_law__3043 : decode cL_law_ 3043 = .ok (.aload_n 0, 1) := by decide +kernel
theorem dL_law__3044 : decode cL_law_ 3044 = .ok (.iload 4, 2) := by decide +kernel
theorem dL_law__3046 : decode cL_law_ 3046 = .ok (.iconst 2, 1) := by decide +kernel
theorem dL_law__3047 : decode cL_law_ 3047 = .ok (.iadd, 1) := by decide +kernel
theorem dL_law__3048 : decode cL_law_ 3048 = .ok (.iaload, 1) := by decide +kernel
theorem dL_law__3049 : decode cL_law_ 3049 = .ok (.invokevirtual 318, 3) := by decide +kernel
theorem dL_law__3052 : decode cL_law_ 3052 = .ok (.istore 6, 2) := by decide +kernel
theorem dL_law__3054 : decode cL_law_ 3054 = .ok (.aload_n 2, 1) := by decide +kernel
theorem dL_law__3055 : decode cL_law_ 3055 = .ok (.invokevirtual 175, 3) := by decide +kernel
theorem dL_law__3058 : decode cL_law_ 3058 = .ok (.iload 5, 2) := by decide +kernel
theorem dL_law__3060 : decode cL_law_ 3060 = .ok (.if_icmp .eq 5, 3) := by decide +kernel
theorem dL_law__3063 : decode cL_law_ 3063 = .ok (.iconst 0, 1) := by decide +kernel
theorem dL_law__3065 : decode cL_law_ 3065 = .ok (.iload 5, 2) := by decide +kernel
theorem dL_law__3067 : decode cL_law_ 3067 = .ok (.ifCond .ne 15, 3) := by decide +kernel
theorem dL_law__3070 : decode cL_law_ 3070 = .ok (.aload_n 3, 1) := by decide +kernel
theorem dL_law__3071 : decode cL_law_ 3071 = .ok (.iconst 0, 1) := by decide +kernel
theorem dL_law__3072 : decode cL_law_ 3072 = .ok (.laload, 1) := by decide +kernel
theorem dL_law__3073 : decode cL_law_ 3073 = .ok (.iload 6, 2) := by decide +kernel
theorem dL_law__3075 : decode cL_law_ 3075 = .ok (.i2l, 1) := by decide +kernel
theorem dL_law__3076 : decode cL_law_ 3076 = .ok (.lcmp, 1) := by decide +kernel
theorem dL_law__3077 : decode cL_law_ 3077 = .ok (.ifCond .eq 5, 3) := by decide +kernel
theorem dL_law__3080 : decode cL_law_ 3080 = .ok (.iconst 0, 1) := by decide +kernel
theorem dL_law__3082 : decode cL_law_ 3082 = .ok (.goto 451, 3) := by decide +kernel
def m_L_case_41 (xs : Nat → Int) (L : Nat) (kc : Int → D9 → Option R9) (v4 : Int) (d : D9) : Option R9 := scr xs L (v4 + 1) (fun t1 => scr xs L (v4 + 2) (fun t2 => cz (m_L_follow t1 t2 d) (fun r3 d4 => scr xs L (v4 + 1) (fun t5 => scr xs L (v4 + 2) (fun t6 => cz (m_X12_follow_174 t5 t6 d4) (fun r7 d8 => cz (m_X12_thrown_174 d8) (fun r9 d10 => if w32 r9 = w32 r3 then if w32 r3 ≠ 0 then kc (v4 + 7) d10 else ld d10 194 1 0 (fun t11 => if w64 t11 = w64 (w32 r7) then kc (v4 + 7) d10 else none) else none)))))))
set_option maxRecDepth 100000 in
theorem s_L_case_41 {G : G9} {X : X9} (C : CX G X cL_law_ 8 RL [] zL9) (hNc : NC9 (xS X)) {b L : Nat} {xs : Nat → Int} (hSC : SCX G X b L xs) {k n : Nat} (hk : k + 12 ≤ 601024) (hn : n + 80 ≤ 7293034) (kc : Int → D9 → Option R9) (hkc : ∀ (v4 : Int) (d : D9), SS G X 8 (k + 12) (n + 80) 23 [(0, scf b), (1, rf G 0), (2, rf G 174), (3, rf G 194), (4, i9 v4)] [] d (kc v4 d)) : ∀ (v4 : Int) (d : D9), SS G X 8 k n 3017 [(0, scf b), (1, rf G 0), (2, rf G 174), (3, rf G 194), (4, i9 v4)] [] d (m_L_case_41 xs L kc v4 d) := by
  intro v4 d
  unfold m_L_case_41
  refine r_aload_n C 1 dL_law__3017 rfl rfl ?_
  refine r_aload_nC C 0 dL_law__3018 rfl rfl ?_
  refine r_iload C 4 dL_law__3019 rfl ?_
  refine r_iconst C dL_law__3021 ?_
  refine r_iadd C dL_law__3022 ?_
  refine r_scld C hSC dL_law__3023 (fun t1 => ?_)
  refine r_aload_nC C 0 dL_law__3024 rfl rfl ?_
  refine r_iload C 4 dL_law__3025 rfl ?_
  refine r_iconst C dL_law__3027 ?_
  refine r_iadd C dL_law__3028 ?_
  refine r_scld C hSC dL_law__3029 (fun t2 => ?_)
  refine r_aload_n C 3 dL_law__3030 rfl rfl ?_
  refine r_callHL C hNc [rf G 194, i9 t2, i9 t1, rf G 0] dL_law__3031 (t_L_follow C.h1 C.h2 t1 t2 d) mwh_L_316 (by decide) (show k + 1 ≤ 601024 by omega) (show n + 6 ≤ 7293034 by omega) rfl rfl (Nat.le_of_ble_eq_true rfl) (fun r3 d4 => ?_)
  show SS G X 8 (k + 1) (n + 6) 3034 [(0, scf b), (1, rf G 0), (2, rf G 174), (3, rf G 194), (4, i9 v4)] [i9 r3] d4 _
  refine r_istore C [(5, i9 r3), (0, scf b), (1, rf G 0), (2, rf G 174), (3, rf G 194), (4, i9 v4)] dL_law__3034 (by decide) rfl ?_
  refine r_aload_n C 3 dL_law__3036 rfl rfl ?_
  refine r_aload_nC C 1 dL_law__3037 rfl rfl ?_
  refine r_iload C 5 dL_law__3038 rfl ?_
  refine r_iconst C dL_law__3040 ?_
  refine r_iadd C dL_law__3041 ?_
  refine r_scld C hSC dL_law__3042 (fun t5 => ?_)
  refine r_aload_nC C 1 dL_law__3043 rfl rfl ?_
  refine r_iload C 5 dL_law__3044 rfl ?_
  refine r_iconst C dL_law__3046 ?_
  refine r_iadd C dL_law__3047 ?_
  refine r_scld C hSC dL_law__3048 (fun t6 => ?_)
  refine r_callVL C [i9 t6, i9 t5, rf G 174] dL_law__3049 (t_X12_follow_174 C.h1 C.h2 t5 t6 d4) mw_L_318 mv_X12_follow la_174 ly_174 rfl (by decide) (show k + 1 + 0 ≤ 601024 by omega) (show n + 6 + 0 ≤ 7293034 by omega) rfl rfl (Nat.le_of_ble_eq_true rfl) (fun r7 d8 => ?_)
  show SS G X 8 (k + 1 + 0) (n + 6 + 0) 3052 [(5, i9 r3), (0, scf b), (1, rf G 0), (2, rf G 174), (3, rf G 194), (4, i9 v4)] [i9 r7] d8 _
  refine r_istore C [(6, i9 r7), (5, i9 r3), (0, scf b), (1, rf G 0), (2, rf G 174), (3, rf G 194), (4, i9 v4)] dL_law__3052 (by decide) rfl ?_
  refine r_aload_n C 4 dL_law__3054 rfl rfl ?_
  refine r_callVL C [rf G 174] dL_law__3055 (t_X12_thrown_174 C.h1 C.h2 d8) mw_L_175 mv_X12_thrown la_174 ly_174 rfl (by decide) (show k + 1 + 0 + 0 ≤ 601024 by omega) (show n + 6 + 0 + 0 ≤ 7293034 by omega) rfl rfl (Nat.le_of_ble_eq_true rfl) (fun r9 d10 => ?_)
  show SS G X 8 (k + 1 + 0 + 0) (n + 6 + 0 + 0) 3058 [(6, i9 r7), (5, i9 r3), (0, scf b), (1, rf G 0), (2, rf G 174), (3, rf G 194), (4, i9 v4)] [i9 r9] d10 _
  refine r_iload C 1 dL_law__3058 rfl ?_
  refine r_icmp_eq C 3065 dL_law__3060 (by decide) (fun _ => ?_) (fun _ => ?_)
  · refine r_iload C 1 dL_law__3065 rfl ?_
    refine r_if_ne C (b := 0) 3082 dL_law__3067 (by decide) (fun _ => ?_) (fun _ => ?_)
    · refine r_goto C 3533 dL_law__3082 (by decide) ?_
      refine r_iinc C 6 [(4, i9 (v4 + 7)), (6, i9 r7), (5, i9 r3), (0, scf b), (1, rf G 0), (2, rf G 174), (3, rf G 194)] dL_law__3533 rfl (by decide) rfl ?_
      refine r_goto C 23 dL_law__3536 (by decide) ?_
      refine ss_wide (k' := k + 12) (n' := n + 80) (show k + 1 + 0 + 0 ≤ k + 12 by omega) (show n + 6 + 0 + 0 ≤ n + 80 by omega) ?_
      refine ss_ls [(0, scf b), (1, rf G 0), (2, rf G 174), (3, rf G 194), (4, i9 (v4 + 7))] [3, 4, 5, 6, 0] rfl ?_
      exact hkc (v4 + 7) d10
    · refine r_aload_n C 5 dL_law__3070 rfl rfl ?_
      refine r_iconst C dL_law__3071 ?_
      refine r_lald C dL_law__3072 la_194 ly_194 (fun t11 => ?_)
      refine r_iload C 0 dL_law__3073 rfl ?_
      refine r_i2l C dL_law__3075 ?_
      refine r_lcmp_eq C 3082 dL_law__3076 dL_law__3077 (by decide) (fun _ => ?_) (fun _ => ?_)
      · refine r_goto C 3533 dL_law__3082 (by decide) ?_
        refine r_iinc C 6 [(4, i9 (v4 + 7)), (6, i9 r7), (5, i9 r3), (0, scf b), (1, rf G 0), (2, rf G 174), (3, rf G 194)] dL_law__3533 rfl (by decide) rfl ?_
        refine r_goto C 23 dL_law__3536 (by decide) ?_
        refine ss_wide (k' := k + 12) (n' := n + 80) (show k + 1 + 0 + 0 ≤ k + 12 by omega) (show n + 6 + 0 + 0 ≤ n + 80 by omega) ?_
        refine ss_ls [(0, scf b), (1, rf G 0), (2, rf G 174), (3, rf G 194), (4, i9 (v4 + 7))] [3, 4, 5, 6, 0] rfl ?_
        exact hkc (v4 + 7) d10
      · refine r_iconst C dL_law__3080 ?_
        exact ss_none
  · refine r_iconst C dL_law__3063 ?_
    exact ss_none

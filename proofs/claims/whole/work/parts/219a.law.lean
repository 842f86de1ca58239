theorem dL_law__256 : decode cL_law_ 256 = .ok (.aload_n 1, 1) := by decide +kernel
theorem dL_law__257 : decode cL_law_ 257 = .ok (.aload_n 0, 1) := by decide +kernel
theorem dL_law__258 : decode cL_law_ 258 = .ok (.iload 4, 2) := by decide +kernel
theorem dL_law__260 : decode cL_law_ 260 = .ok (.iconst 1, 1) := by decide +kernel
theorem dL_law__261 : decode cL_law_ 261 = .ok (.iadd, 1) := by decide +kernel
theorem dL_law__262 : decode cL_law_ 262 = .ok (.iaload, 1) := by decide +kernel
theorem dL_law__263 : decode cL_law_ 263 = .ok (.aload_n 0, 1) := by decide +kernel
theorem dL_law__264 : decode cL_law_ 264 = .ok (.iload 4, 2) := by decide +kernel
theorem dL_law__266 : decode cL_law_ 266 = .ok (.iconst 2, 1) := by decide +kernel
theorem dL_law__267 : decode cL_law_ 267 = .ok (.iadd, 1) := by decide +kernel
theorem dL_law__268 : decode cL_law_ 268 = .ok (.iaload, 1) := by decide +kernel
theorem dL_law__269 : decode cL_law_ 269 = .ok (.aload_n 0, 1) := by decide +kernel
theorem dL_law__270 : decode cL_law_ 270 = .ok (.iload 4, 2) := by decide +kernel
theorem dL_law__272 : decode cL_law_ 272 = .ok (.iconst 3, 1) := by decide +kernel
theorem dL_law__273 : decode cL_law_ 273 = .ok (.iadd, 1) := by decide +kernel
theorem dL_law__274 : decode cL_law_ 274 = .ok (.iaload, 1) := by decide +kernel
theorem dL_law__275 : decode cL_law_ 275 = .ok (.aload_n 3, 1) := by decide +kernel
theorem dL_law__276 : decode cL_law_ 276 = .ok (.invokestatic 169, 3) := by decide +kernel
theorem dL_law__279 : decode cL_law_ 279 = .ok (.istore 5, 2) := by decide +kernel
theorem dL_law__281 : decode cL_law_ 281 = .ok (.aload_n 2, 1) := by decide +kernel
theorem dL_law__282 : decode cL_law_ 282 = .ok (.aload_n 0, 1) := by decide +kernel
theorem dL_law__283 : decode cL_law_ 283 = .ok (.iload 4, 2) := by decide +kernel
theorem dL_law__285 : decode cL_law_ 285 = .ok (.iconst 1, 1) := by decide +kernel
theorem dL_law__286 : decode cL_law_ 286 = .ok (.iadd, 1) := by decide +kernel
theorem dL_law__287 : decode cL_law_ 287 = .ok (.iaload, 1) := by decide +kernel
theorem dL_law__288 : decode cL_law_ 288 = .ok (.aload_n 0, 1) := by decide +kernel
theorem dL_law__289 : decode cL_law_ 289 = .ok (.iload 4, 2) := by decide +kernel
theorem dL_law__291 : decode cL_law_ 291 = .ok (.iconst 2, 1) := by decide +kernel
theorem dL_law__292 : decode cL_law_ 292 = .ok (.iadd, 1) := by decide +kernel
theorem dL_law__293 : decode cL_law_ 293 = .ok (.iaload, 1) := by decide +kernel
theorem dL_law__294 : decode cL_law_ 294 = .ok (.aload_n 0, 1) := by decide +kernel
theorem dL_law__295 : decode cL_law_ 295 = .ok (.iload 4, 2) := by decide +kernel
theorem dL_law__297 : decode cL_law_ 297 = .ok (.iconst 3, 1) := by decide +kernel
theorem dL_law__298 : decode cL_law_ 298 = .ok (.iadd, 1) := by decide +kernel
theorem dL_law__299 : decode cL_law_ 299 = .ok (.iaload, 1) := by decide +kernel
theorem dL_law__300 : decode cL_law_ 300 = .ok (.invokevirtual 174, 3) := by decide +kernel
theorem dL_law__303 : decode cL_law_ 303 = .ok (.istore 6, 2) := by decide +kernel
theorem dL_law__305 : decode cL_law_ 305 = .ok (.aload_n 2, 1) := by decide +kernel
theorem dL_law__306 : decode cL_law_ 306 = .ok (.invokevirtual 175, 3) := by decide +kernel
theorem dL_law__309 : decode cL_law_ 309 = .ok (.iload 5, 2) := by decide +kernel
theorem dL_law__311 : decode cL_law_ 311 = .ok (.if_icmp .eq 5, 3) := by decide +kernel
theorem dL_law__314 : decode cL_law_ 314 = .ok (.iconst 0, 1) := by decide +kernel
theorem dL_law__316 : decode cL_law_ 316 = .ok (.iload 5, 2) := by decide +kernel
theorem dL_law__318 : decode cL_law_ 318 = .ok (.ifCond .ne 15, 3) := by decide +kernel
theorem dL_law__321 : decode cL_law_ 321 = .ok (.aload_n 3, 1) := by decide +kernel
theorem dL_law__322 : decode cL_law_ 322 = .ok (.iconst 0, 1) := by decide +kernel
theorem dL_law__323 : decode cL_law_ 323 = .ok (.laload, 1) := by decide +kernel
theorem dL_law__324 : decode cL_law_ 324 = .ok (.iload 6, 2) := by decide +kernel
theorem dL_law__326 : decode cL_law_ 326 = .ok (.i2l, 1) := by decide +kernel
theorem dL_law__327 : decode cL_law_ 327 = .ok (.lcmp, 1) := by decide +kernel
theorem dL_law__328 : decode cL_law_ 328 = .ok (.ifCond .eq 5, 3) := by decide +kernel
theorem dL_law__331 : decode cL_law_ 331 = .ok (.iconst 0, 1) := by decide +kernel
theorem dL_law__333 : decode cL_law_ 333 = .ok (.goto 3200, 3) := by decide +kernel
theorem dL_law__3533 : decode cL_law_ 3533 = .ok (.iinc 4 7, 3) := by decide +kernel
theorem dL_law__3536 : decode cL_law_ 3536 = .ok (.goto (-3513), 3) := by decide +kernel
def m_L_case_0 (xs : Nat → Int) (L : Nat) (kc : Int → D9 → Option R9) (v4 : Int) (d : D9) : Option R9 := scr xs L (v4 + 1) (fun t1 => scr xs L (v4 + 2) (fun t2 => scr xs L (v4 + 3) (fun t3 => cz (m_L_paint t1 t2 t3 d) (fun r4 d5 => scr xs L (v4 + 1) (fun t6 => scr xs L (v4 + 2) (fun t7 => scr xs L (v4 + 3) (fun t8 => cz (m_X12_paint_174 t6 t7 t8 d5) (fun r9 d10 => cz (m_X12_thrown_174 d10) (fun r11 d12 => if w32 r11 = w32 r4 then if w32 r4 ≠ 0 then kc (v4 + 7) d12 else ld d12 194 1 0 (fun t13 => if w64 t13 = w64 (w32 r9) then kc (v4 + 7) d12 else none) else none)))))))))
set_option maxRecDepth 100000 in
theorem s_L_case_0 {G : G9} {X : X9} (C : CX G X cL_law_ 8 RL [] zL9) (hNc : NC9 (xS X)) {b L : Nat} {xs : Nat → Int} (hSC : SCX G X b L xs) {k n : Nat} (hk : k + 12 ≤ 601024) (hn : n + 80 ≤ 7293034) (kc : Int → D9 → Option R9) (hkc : ∀ (v4 : Int) (d : D9), SS G X 8 (k + 12) (n + 80) 23 [(0, scf b), (1, rf G 0), (2, rf G 174), (3, rf G 194), (4, i9 v4)] [] d (kc v4 d)) : ∀ (v4 : Int) (d : D9), SS G X 8 k n 256 [(0, scf b), (1, rf G 0), (2, rf G 174), (3, rf G 194), (4, i9 v4)] [] d (m_L_case_0 xs L kc v4 d) := by
  intro v4 d
  unfold m_L_case_0
  refine r_aload_n C 1 dL_law__256 rfl rfl ?_
  refine r_aload_nC C 0 dL_law__257 rfl rfl ?_
  refine r_iload C 4 dL_law__258 rfl ?_
  refine r_iconst C dL_law__260 ?_
  refine r_iadd C dL_law__261 ?_
  refine r_scld C hSC dL_law__262 (fun t1 => ?_)
  refine r_aload_nC C 0 dL_law__263 rfl rfl ?_
  refine r_iload C 4 dL_law__264 rfl ?_
  refine r_iconst C dL_law__266 ?_
  refine r_iadd C dL_law__267 ?_
  refine r_scld C hSC dL_law__268 (fun t2 => ?_)
  refine r_aload_nC C 0 dL_law__269 rfl rfl ?_
  refine r_iload C 4 dL_law__270 rfl ?_
  refine r_iconst C dL_law__272 ?_
  refine r_iadd C dL_law__273 ?_
  refine r_scld C hSC dL_law__274 (fun t3 => ?_)
  refine r_aload_n C 3 dL_law__275 rfl rfl ?_
  refine r_callHL C hNc [rf G 194, i9 t3, i9 t2, i9 t1, rf G 0] dL_law__276 (t_L_paint C.h1 C.h2 t1 t2 t3 d) mwh_L_169 (by decide) (show k + 3 ≤ 601024 by omega) (show n + 18 ≤ 7293034 by omega) rfl rfl (Nat.le_of_ble_eq_true rfl) (fun r4 d5 => ?_)
  show SS G X 8 (k + 3) (n + 18) 279 [(0, scf b), (1, rf G 0), (2, rf G 174), (3, rf G 194), (4, i9 v4)] [i9 r4] d5 _
  refine r_istore C [(5, i9 r4), (0, scf b), (1, rf G 0), (2, rf G 174), (3, rf G 194), (4, i9 v4)] dL_law__279 (by decide) rfl ?_
  refine r_aload_n C 3 dL_law__281 rfl rfl ?_
  refine r_aload_nC C 1 dL_law__282 rfl rfl ?_
  refine r_iload C 5 dL_law__283 rfl ?_
  refine r_iconst C dL_law__285 ?_
  refine r_iadd C dL_law__286 ?_
  refine r_scld C hSC dL_law__287 (fun t6 => ?_)
  refine r_aload_nC C 1 dL_law__288 rfl rfl ?_
  refine r_iload C 5 dL_law__289 rfl ?_
  refine r_iconst C dL_law__291 ?_
  refine r_iadd C dL_law__292 ?_
  refine r_scld C hSC dL_law__293 (fun t7 => ?_)
  refine r_aload_nC C 1 dL_law__294 rfl rfl ?_
  refine r_iload C 5 dL_law__295 rfl ?_
  refine r_iconst C dL_law__297 ?_
  refine r_iadd C dL_law__298 ?_
  refine r_scld C hSC dL_law__299 (fun t8 => ?_)
  refine r_callVL C [i9 t8, i9 t7, i9 t6, rf G 174] dL_law__300 (t_X12_paint_174 C.h1 C.h2 t6 t7 t8 d5) mw_L_174 mv_X12_paint la_174 ly_174 rfl (by decide) (show k + 3 + 0 ≤ 601024 by omega) (show n + 18 + 0 ≤ 7293034 by omega) rfl rfl (Nat.le_of_ble_eq_true rfl) (fun r9 d10 => ?_)
  show SS G X 8 (k + 3 + 0) (n + 18 + 0) 303 [(5, i9 r4), (0, scf b), (1, rf G 0), (2, rf G 174), (3, rf G 194), (4, i9 v4)] [i9 r9] d10 _
  refine r_istore C [(6, i9 r9), (5, i9 r4), (0, scf b), (1, rf G 0), (2, rf G 174), (3, rf G 194), (4, i9 v4)] dL_law__303 (by decide) rfl ?_
  refine r_aload_n C 4 dL_law__305 rfl rfl ?_
  refine r_callVL C [rf G 174] dL_law__306 (t_X12_thrown_174 C.h1 C.h2 d10) mw_L_175 mv_X12_thrown la_174 ly_174 rfl (by decide) (show k + 3 + 0 + 0 ≤ 601024 by omega) (show n + 18 + 0 + 0 ≤ 7293034 by omega) rfl rfl (Nat.le_of_ble_eq_true rfl) (fun r11 d12 => ?_)
  show SS G X 8 (k + 3 + 0 + 0) (n + 18 + 0 + 0) 309 [(6, i9 r9), (5, i9 r4), (0, scf b), (1, rf G 0), (2, rf G 174), (3, rf G 194), (4, i9 v4)] [i9 r11] d12 _
  refine r_iload C 1 dL_law__309 rfl ?_
  refine r_icmp_eq C 316 dL_law__311 (by decide) (fun _ => ?_) (fun _ => ?_)
  · refine r_iload C 1 dL_law__316 rfl ?_
    refine r_if_ne C (b := 0) 333 dL_law__318 (by decide) (fun _ => ?_) (fun _ => ?_)
    · refine r_goto C 3533 dL_law__333 (by decide) ?_
      refine r_iinc C 6 [(4, i9 (v4 + 7)), (6, i9 r9), (5, i9 r4), (0, scf b), (1, rf G 0), (2, rf G 174), (3, rf G 194)] dL_law__3533 rfl (by decide) rfl ?_
      refine r_goto C 23 dL_law__3536 (by decide) ?_
      refine ss_wide (k' := k + 12) (n' := n + 80) (show k + 3 + 0 + 0 ≤ k + 12 by omega) (show n + 18 + 0 + 0 ≤ n + 80 by omega) ?_
      refine ss_ls [(0, scf b), (1, rf G 0), (2, rf G 174), (3, rf G 194), (4, i9 (v4 + 7))] [3, 4, 5, 6, 0] rfl ?_
      exact hkc (v4 + 7) d12
    · refine r_aload_n C 5 dL_law__321 rfl rfl ?_
      refine r_iconst C dL_law__322 ?_
      refine r_lald C dL_law__323 la_194 ly_194 (fun t13 => ?_)
      refine r_iload C 0 dL_law__324 rfl ?_
      refine r_i2l C dL_law__326 ?_
      refine r_lcmp_eq C 333 dL_law__327 dL_law__328 (by decide) (fun _ => ?_) (fun _ => ?_)
      · refine r_goto C 3533 dL_law__333 (by decide) ?_
        refine r_iinc C 6 [(4, i9 (v4 + 7)), (6, i9 r9), (5, i9 r4), (0, scf b), (1, rf G 0), (2, rf G 174), (3, rf G 194)] dL_law__3533 rfl (by decide) rfl ?_
        refine r_goto C 23 dL_law__3536 (by decide) ?_
        refine ss_wide (k' := k + 12) (n' := n + 80) (show k + 3 + 0 + 0 ≤ k + 12 by omega) (show n + 18 + 0 + 0 ≤ n + 80 by omega) ?_
        refine ss_ls [(0, scf b), (1, rf G 0), (2, rf G 174), (3, rf G 194), (4, i9 (v4 + 7))] [3, 4, 5, 6, 0] rfl ?_
        exact hkc (v4 + 7) d12
      · refine r_iconst C dL_law__331 ?_
        exact ss_none
  · refine r_iconst C dL_law__314 ?_
    exact ss_none
theorem dL_law__336 : decode cL_law_ 336 = .ok (.aload_n 1, 1) := by decide +kernel
theorem dL_law__337 : decode cL_law_ 337 = .ok (.aload_n 0, 1) := by decide +kernel
theorem dL_law__338 : decode cL_law_ 338 = .ok (.iload 4, 2) := by decide +kernel
theorem dL_law__340 : decode cL_law_ 340 = .ok (.iconst 1, 1) := by decide +kernel
theorem dL_law__341 : decode cL_law_ 341 = .ok (.iadd, 1) := by decide +kernel
theorem dL_law__342 : decode cL_law_ 342 = .ok (.iaload, 1) := by decide +kernel
theorem dL_law__343 : decode cL_law_ 343 = .ok (.aload_n 0, 1) := by decide +kernel
theorem dL_law__344 : decode cL_law_ 344 = .ok (.iload 4, 2) := by decide +kernel
theorem dL_law__346 : decode cL_law_ 346 = .ok (.iconst 2, 1) := by decide +kernel
theorem dL_law__347 : decode cL_law_ 347 = .ok (.iadd, 1) := by decide +kernel
theorem dL_law__348 : decode cL_law_ 348 = .ok (.iaload, 1) := by decide +kernel
theorem dL_law__349 : decode cL_law_ 349 = .ok (.aload_n 0, 1) := by decide +kernel
theorem dL_law__350 : decode cL_law_ 350 = .ok (.iload 4, 2) := by decide +kernel
theorem dL_law__352 : decode cL_law_ 352 = .ok (.iconst 3, 1) := by decide +kernel
theorem dL_law__353 : decode cL_law_ 353 = .ok (.iadd, 1) := by decide +kernel
theorem dL_law__354 : decode cL_law_ 354 = .ok (.iaload, 1) := by decide +kernel
theorem dL_law__355 : decode cL_law_ 355 = .ok (.aload_n 0, 1) := by decide +kernel
theorem dL_law__356 : decode cL_law_ 356 = .ok (.iload 4, 2) := by decide +kernel
theorem dL_law__358 : decode cL_law_ 358 = .ok (.iconst 4, 1) := by decide +kernel
theorem dL_law__359 : decode cL_law_ 359 = .ok (.iadd, 1) := by decide +kernel
theorem dL_law__360 : decode cL_law_ 360 = .ok (.iaload, 1) := by decide +kernel
theorem dL_law__361 : decode cL_law_ 361 = .ok (.aload_n 0, 1) := by decide +kernel
theorem dL_law__362 : decode cL_law_ 362 = .ok (.iload 4, 2) := by decide +kernel
theorem dL_law__364 : decode cL_law_ 364 = .ok (.iconst 5, 1) := by decide +kernel
theorem dL_law__365 : decode cL_law_ 365 = .ok (.iadd, 1) := by decide +kernel
theorem dL_law__366 : decode cL_law_ 366 = .ok (.iaload, 1) := by decide +kernel
theorem dL_law__367 : decode cL_law_ 367 = .ok (.aload_n 0, 1) := by decide +kernel
theorem dL_law__368 : decode cL_law_ 368 = .ok (.iload 4, 2) := by decide +kernel
theorem dL_law__370 : decode cL_law_ 370 = .ok (.bipush 6, 2) := by decide +kernel
theorem dL_law__372 : decode cL_law_ 372 = .ok (.iadd, 1) := by decide +kernel
theorem dL_law__373 : decode cL_law_ 373 = .ok (.iaload, 1) := by decide +kernel
theorem dL_law__374 : decode cL_law_ 374 = .ok (.invokestatic 179, 3) := by decide +kernel
theorem dL_law__377 : decode cL_law_ 377 = .ok (.istore 5, 2) := by decide +kernel
theorem dL_law__379 : decode cL_law_ 379 = .ok (.aload_n 2, 1) := by decide +kernel
theorem dL_law__380 : decode cL_law_ 380 = .ok (.aload_n 0, 1) := by decide +kernel
theorem dL_law__381 : decode cL_law_ 381 = .ok (.iload 4, 2) := by decide +kernel
theorem dL_law__383 : decode cL_law_ 383 = .ok (.iconst 1, 1) := by decide +kernel
theorem dL_law__384 : decode cL_law_ 384 = .ok (.iadd, 1) := by decide +kernel
theorem dL_law__385 : decode cL_law_ 385 = .ok (.iaload, 1) := by decide +kernel
theorem dL_law__386 : decode cL_law_ 386 = .ok (.aload_n 0, 1) := by decide +kernel
theorem dL_law__387 : decode cL_law_ 387 = .ok (.iload 4, 2) := by decide +kernel
theorem dL_law__389 : decode cL_law_ 389 = .ok (.iconst 2, 1) := by decide +kernel
theorem dL_law__390 : decode cL_law_ 390 = .ok (.iadd, 1) := by decide +kernel
theorem dL_law__391 : decode cL_law_ 391 = .ok (.iaload, 1) := by decide +kernel
theorem dL_law__392 : decode cL_law_ 392 = .ok (.aload_n 0, 1) := by decide +kernel
theorem dL_law__393 : decode cL_law_ 393 = .ok (.iload 4, 2) := by decide +kernel
theorem dL_law__395 : decode cL_law_ 395 = .ok (.iconst 3, 1) := by decide +kernel
theorem dL_law__396 : decode cL_law_ 396 = .ok (.iadd, 1) := by decide +kernel
theorem dL_law__397 : decode cL_law_ 397 = .ok (.iaload, 1) := by decide +kernel
theorem dL_law__398 : decode cL_law_ 398 = .ok (.aload_n 0, 1) := by decide +kernel
theorem dL_law__399 : decode cL_law_ 399 = .ok (.iload 4, 2) := by decide +kernel
theorem dL_law__401 : decode cL_law_ 401 = .ok (.iconst 4, 1) := by decide +kernel
theorem dL_law__402 : decode cL_law_ 402 = .ok (.iadd, 1) := by decide +kernel
theorem dL_law__403 : decode cL_law_ 403 = .ok (.iaload, 1) := by decide +kernel
theorem dL_law__404 : decode cL_law_ 404 = .ok (.aload_n 0, 1) := by decide +kernel
theorem dL_law__405 : decode cL_law_ 405 = .ok (.iload 4, 2) := by decide +kernel
theorem dL_law__407 : decode cL_law_ 407 = .ok (.iconst 5, 1) := by decide +kernel
theorem dL_law__408 : decode cL_law_ 408 = .ok (.iadd, 1) := by decide +kernel
theorem dL_law__409 : decode cL_law_ 409 = .ok (.iaload, 1) := by decide +kernel
theorem dL_law__410 : decode cL_law_ 410 = .ok (.aload_n 0, 1) := by decide +kernel
theorem dL_law__411 : decode cL_law_ 411 = .ok (.iload 4, 2) := by decide +kernel
theorem dL_law__413 : decode cL_law_ 413 = .ok (.bipush 6, 2) := by decide +kernel
theorem dL_law__415 : decode cL_law_ 415 = .ok (.iadd, 1) := by decide +kernel
theorem dL_law__416 : decode cL_law_ 416 = .ok (.iaload, 1) := by decide +kernel
theorem dL_law__417 : decode cL_law_ 417 = .ok (.invokevirtual 182, 3) := by decide +kernel
theorem dL_law__420 : decode cL_law_ 420 = .ok (.aload_n 2, 1) := by decide +kernel
theorem dL_law__421 : decode cL_law_ 421 = .ok (.invokevirtual 175, 3) := by decide +kernel
theorem dL_law__424 : decode cL_law_ 424 = .ok (.iload 5, 2) := by decide +kernel
theorem dL_law__426 : decode cL_law_ 426 = .ok (.if_icmp .eq 5, 3) := by decide +kernel
theorem dL_law__429 : decode cL_law_ 429 = .ok (.iconst 0, 1) := by decide +kernel
theorem dL_law__431 : decode cL_law_ 431 = .ok (.goto 3102, 3) := by decide +kernel
def m_L_case_1 (xs : Nat → Int) (L : Nat) (kc : Int → D9 → Option R9) (v4 : Int) (d : D9) : Option R9 := scr xs L (v4 + 1) (fun t1 => scr xs L (v4 + 2) (fun t2 => scr xs L (v4 + 3) (fun t3 => scr xs L (v4 + 4) (fun t4 => scr xs L (v4 + 5) (fun t5 => scr xs L (v4 + 6) (fun t6 => cz (m_L_fingers t1 t2 t3 t4 t5 t6 d) (fun r7 d8 => scr xs L (v4 + 1) (fun t9 => scr xs L (v4 + 2) (fun t10 => scr xs L (v4 + 3) (fun t11 => scr xs L (v4 + 4) (fun t12 => scr xs L (v4 + 5) (fun t13 => scr xs L (v4 + 6) (fun t14 => cz (m_X12_fingers_174 t9 t10 t11 t12 t13 t14 d8) (fun r15 d16 => cz (m_X12_thrown_174 d16) (fun r17 d18 => if w32 r17 = w32 r7 then kc (v4 + 7) d18 else none)))))))))))))))
set_option maxRecDepth 100000 in
theorem s_L_case_1 {G : G9} {X : X9} (C : CX G X cL_law_ 8 RL [] zL9) (hNc : NC9 (xS X)) {b L : Nat} {xs : Nat → Int} (hSC : SCX G X b L xs) {k n : Nat} (hk : k + 12 ≤ 601024) (hn : n + 80 ≤ 7293034) (kc : Int → D9 → Option R9) (hkc : ∀ (v4 : Int) (d : D9), SS G X 8 (k + 12) (n + 80) 23 [(0, scf b), (1, rf G 0), (2, rf G 174), (3, rf G 194), (4, i9 v4)] [] d (kc v4 d)) : ∀ (v4 : Int) (d : D9), SS G X 8 k n 336 [(0, scf b), (1, rf G 0), (2, rf G 174), (3, rf G 194), (4, i9 v4)] [] d (m_L_case_1 xs L kc v4 d) := by
  intro v4 d
  unfold m_L_case_1
  refine r_aload_n C 1 dL_law__336 rfl rfl ?_
  refine r_aload_nC C 0 dL_law__337 rfl rfl ?_
  refine r_iload C 4 dL_law__338 rfl ?_
  refine r_iconst C dL_law__340 ?_
  refine r_iadd C dL_law__341 ?_
  refine r_scld C hSC dL_law__342 (fun t1 => ?_)
  refine r_aload_nC C 0 dL_law__343 rfl rfl ?_
  refine r_iload C 4 dL_law__344 rfl ?_
  refine r_iconst C dL_law__346 ?_
  refine r_iadd C dL_law__347 ?_
  refine r_scld C hSC dL_law__348 (fun t2 => ?_)
  refine r_aload_nC C 0 dL_law__349 rfl rfl ?_
  refine r_iload C 4 dL_law__350 rfl ?_
  refine r_iconst C dL_law__352 ?_
  refine r_iadd C dL_law__353 ?_
  refine r_scld C hSC dL_law__354 (fun t3 => ?_)
  refine r_aload_nC C 0 dL_law__355 rfl rfl ?_
  refine r_iload C 4 dL_law__356 rfl ?_
  refine r_iconst C dL_law__358 ?_
  refine r_iadd C dL_law__359 ?_
  refine r_scld C hSC dL_law__360 (fun t4 => ?_)
  refine r_aload_nC C 0 dL_law__361 rfl rfl ?_
  refine r_iload C 4 dL_law__362 rfl ?_
  refine r_iconst C dL_law__364 ?_
  refine r_iadd C dL_law__365 ?_
  refine r_scld C hSC dL_law__366 (fun t5 => ?_)
  refine r_aload_nC C 0 dL_law__367 rfl rfl ?_
  refine r_iload C 4 dL_law__368 rfl ?_
  refine r_bipush C dL_law__370 rfl ?_
  refine r_iadd C dL_law__372 ?_
  refine r_scld C hSC dL_law__373 (fun t6 => ?_)
  refine r_callHL C hNc [i9 t6, i9 t5, i9 t4, i9 t3, i9 t2, i9 t1, rf G 0] dL_law__374 (t_L_fingers C.h1 C.h2 t1 t2 t3 t4 t5 t6 d) mwh_L_179 (by decide) (show k + 7 ≤ 601024 by omega) (show n + 42 ≤ 7293034 by omega) rfl rfl (Nat.le_of_ble_eq_true rfl) (fun r7 d8 => ?_)
  show SS G X 8 (k + 7) (n + 42) 377 [(0, scf b), (1, rf G 0), (2, rf G 174), (3, rf G 194), (4, i9 v4)] [i9 r7] d8 _
  refine r_istore C [(5, i9 r7), (0, scf b), (1, rf G 0), (2, rf G 174), (3, rf G 194), (4, i9 v4)] dL_law__377 (by decide) rfl ?_
  refine r_aload_n C 3 dL_law__379 rfl rfl ?_
  refine r_aload_nC C 1 dL_law__380 rfl rfl ?_
  refine r_iload C 5 dL_law__381 rfl ?_
  refine r_iconst C dL_law__383 ?_
  refine r_iadd C dL_law__384 ?_
  refine r_scld C hSC dL_law__385 (fun t9 => ?_)
  refine r_aload_nC C 1 dL_law__386 rfl rfl ?_
  refine r_iload C 5 dL_law__387 rfl ?_
  refine r_iconst C dL_law__389 ?_
  refine r_iadd C dL_law__390 ?_
  refine r_scld C hSC dL_law__391 (fun t10 => ?_)
  refine r_aload_nC C 1 dL_law__392 rfl rfl ?_
  refine r_iload C 5 dL_law__393 rfl ?_
  refine r_iconst C dL_law__395 ?_
  refine r_iadd C dL_law__396 ?_
  refine r_scld C hSC dL_law__397 (fun t11 => ?_)
  refine r_aload_nC C 1 dL_law__398 rfl rfl ?_
  refine r_iload C 5 dL_law__399 rfl ?_
  refine r_iconst C dL_law__401 ?_
  refine r_iadd C dL_law__402 ?_
  refine r_scld C hSC dL_law__403 (fun t12 => ?_)
  refine r_aload_nC C 1 dL_law__404 rfl rfl ?_
  refine r_iload C 5 dL_law__405 rfl ?_
  refine r_iconst C dL_law__407 ?_
  refine r_iadd C dL_law__408 ?_
  refine r_scld C hSC dL_law__409 (fun t13 => ?_)
  refine r_aload_nC C 1 dL_law__410 rfl rfl ?_
  refine r_iload C 5 dL_law__411 rfl ?_
  refine r_bipush C dL_law__413 rfl ?_
  refine r_iadd C dL_law__415 ?_
  refine r_scld C hSC dL_law__416 (fun t14 => ?_)
  refine r_callVL C [i9 t14, i9 t13, i9 t12, i9 t11, i9 t10, i9 t9, rf G 174] dL_law__417 (t_X12_fingers_174 C.h1 C.h2 t9 t10 t11 t12 t13 t14 d8) mw_L_182 mv_X12_fingers la_174 ly_174 rfl (by decide) (show k + 7 + 0 ≤ 601024 by omega) (show n + 42 + 0 ≤ 7293034 by omega) rfl rfl (Nat.le_of_ble_eq_true rfl) (fun r15 d16 => ?_)
  show SS G X 8 (k + 7 + 0) (n + 42 + 0) 420 [(5, i9 r7), (0, scf b), (1, rf G 0), (2, rf G 174), (3, rf G 194), (4, i9 v4)] [] d16 _
  refine r_aload_n C 3 dL_law__420 rfl rfl ?_
  refine r_callVL C [rf G 174] dL_law__421 (t_X12_thrown_174 C.h1 C.h2 d16) mw_L_175 mv_X12_thrown la_174 ly_174 rfl (by decide) (show k + 7 + 0 + 0 ≤ 601024 by omega) (show n + 42 + 0 + 0 ≤ 7293034 by omega) rfl rfl (Nat.le_of_ble_eq_true rfl) (fun r17 d18 => ?_)
  show SS G X 8 (k + 7 + 0 + 0) (n + 42 + 0 + 0) 424 [(5, i9 r7), (0, scf b), (1, rf G 0), (2, rf G 174), (3, rf G 194), (4, i9 v4)] [i9 r17] d18 _
  refine r_iload C 0 dL_law__424 rfl ?_
  refine r_icmp_eq C 431 dL_law__426 (by decide) (fun _ => ?_) (fun _ => ?_)
  · refine r_goto C 3533 dL_law__431 (by decide) ?_
    refine r_iinc C 5 [(4, i9 (v4 + 7)), (5, i9 r7), (0, scf b), (1, rf G 0), (2, rf G 174), (3, rf G 194)] dL_law__3533 rfl (by decide) rfl ?_
    refine r_goto C 23 dL_law__3536 (by decide) ?_
    refine ss_wide (k' := k + 12) (n' := n + 80) (show k + 7 + 0 + 0 ≤ k + 12 by omega) (show n + 42 + 0 + 0 ≤ n + 80 by omega) ?_
    refine ss_ls [(0, scf b), (1, rf G 0), (2, rf G 174), (3, rf G 194), (4, i9 (v4 + 7))] [2, 3, 4, 5, 0] rfl ?_
    exact hkc (v4 + 7) d18
  · refine r_iconst C dL_law__429 ?_
    exact ss_none
theorem dL_law__434 : decode cL_law_ 434 = .ok (.aload_n 1, 1) := by decide +kernel
theorem dL_law__435 : decode cL_law_ 435 = .ok (.aload_n 0, 1) := by decide +kernel
theorem dL_law__436 : decode cL_law_ 436 = .ok (.iload 4, 2) := by decide +kernel
theorem dL_law__438 : decode cL_law_ 438 = .ok (.iconst 1, 1) := by decide +kernel
theorem dL_law__439 : decode cL_law_ 439 = .ok (.iadd, 1) := by decide +kernel
theorem dL_law__440 : decode cL_law_ 440 = .ok (.iaload, 1) := by decide +kernel
theorem dL_law__441 : decode cL_law_ 441 = .ok (.aload_n 0, 1) := by decide +kernel
theorem dL_law__442 : decode cL_law_ 442 = .ok (.iload 4, 2) := by decide +kernel
theorem dL_law__444 : decode cL_law_ 444 = .ok (.iconst 2, 1) := by decide +kernel
theorem dL_law__445 : decode cL_law_ 445 = .ok (.iadd, 1) := by decide +kernel
theorem dL_law__446 : decode cL_law_ 446 = .ok (.iaload, 1) := by decide +kernel
theorem dL_law__447 : decode cL_law_ 447 = .ok (.aload_n 3, 1) := by decide +kernel
theorem dL_law__448 : decode cL_law_ 448 = .ok (.invokestatic 183, 3) := by decide +kernel
theorem dL_law__451 : decode cL_law_ 451 = .ok (.istore 5, 2) := by decide +kernel
theorem dL_law__453 : decode cL_law_ 453 = .ok (.aload_n 2, 1) := by decide +kernel
theorem dL_law__454 : decode cL_law_ 454 = .ok (.aload_n 0, 1) := by decide +kernel
theorem dL_law__455 : decode cL_law_ 455 = .ok (.iload 4, 2) := by decide +kernel
theorem dL_law__457 : decode cL_law_ 457 = .ok (.iconst 1, 1) := by decide +kernel
theorem dL_law__458 : decode cL_law_ 458 = .ok (.iadd, 1) := by decide +kernel
theorem dL_law__459 : decode cL_law_ 459 = .ok (.iaload, 1) := by decide +kernel
theorem dL_law__460 : decode cL_law_ 460 = .ok (.aload_n 0, 1) := by decide +kernel
theorem dL_law__461 : decode cL_law_ 461 = .ok (.iload 4, 2) := by decide +kernel
theorem dL_law__463 : decode cL_law_ 463 = .ok (.iconst 2, 1) := by decide +kernel
theorem dL_law__464 : decode cL_law_ 464 = .ok (.iadd, 1) := by decide +kernel
theorem dL_law__465 : decode cL_law_ 465 = .ok (.iaload, 1) := by decide +kernel
theorem dL_law__466 : decode cL_law_ 466 = .ok (.invokevirtual 186, 3) := by decide +kernel
theorem dL_law__469 : decode cL_law_ 469 = .ok (.istore 6, 2) := by decide +kernel
theorem dL_law__471 : decode cL_law_ 471 = .ok (.aload_n 2, 1) := by decide +kernel
theorem dL_law__472 : decode cL_law_ 472 = .ok (.invokevirtual 175, 3) := by decide +kernel
theorem dL_law__475 : decode cL_law_ 475 = .ok (.iload 5, 2) := by decide +kernel
theorem dL_law__477 : decode cL_law_ 477 = .ok (.if_icmp .eq 5, 3) := by decide +kernel
theorem dL_law__480 : decode cL_law_ 480 = .ok (.iconst 0, 1) := by decide +kernel
theorem dL_law__482 : decode cL_law_ 482 = .ok (.iload 5, 2) := by decide +kernel
theorem dL_law__484 : decode cL_law_ 484 = .ok (.ifCond .ne 22, 3) := by decide +kernel
theorem dL_law__487 : decode cL_law_ 487 = .ok (.aload_n 3, 1) := by decide +kernel
theorem dL_law__488 : decode cL_law_ 488 = .ok (.iconst 0, 1) := by decide +kernel
theorem dL_law__489 : decode cL_law_ 489 = .ok (.laload, 1) := by decide +kernel
theorem dL_law__490 : decode cL_law_ 490 = .ok (.iload 6, 2) := by decide +kernel
theorem dL_law__492 : decode cL_law_ 492 = .ok (.ifCond .eq 7, 3) := by decide +kernel
theorem dL_law__495 : decode cL_law_ 495 = .ok (.lconst 1, 1) := by decide +kernel
theorem dL_law__496 : decode cL_law_ 496 = .ok (.goto 4, 3) := by decide +kernel
theorem dL_law__499 : decode cL_law_ 499 = .ok (.lconst 0, 1) := by decide +kernel
theorem dL_law__500 : decode cL_law_ 500 = .ok (.lcmp, 1) := by decide +kernel
theorem dL_law__501 : decode cL_law_ 501 = .ok (.ifCond .eq 5, 3) := by decide +kernel
theorem dL_law__504 : decode cL_law_ 504 = .ok (.iconst 0, 1) := by decide +kernel
theorem dL_law__506 : decode cL_law_ 506 = .ok (.goto 3027, 3) := by decide +kernel
def m_L_case_2 (xs : Nat → Int) (L : Nat) (kc : Int → D9 → Option R9) (v4 : Int) (d : D9) : Option R9 := scr xs L (v4 + 1) (fun t1 => scr xs L (v4 + 2) (fun t2 => cz (m_L_over t1 t2 d) (fun r3 d4 => scr xs L (v4 + 1) (fun t5 => scr xs L (v4 + 2) (fun t6 => cz (m_X12_over_174 t5 t6 d4) (fun r7 d8 => cz (m_X12_thrown_174 d8) (fun r9 d10 => if w32 r9 = w32 r3 then if w32 r3 ≠ 0 then kc (v4 + 7) d10 else ld d10 194 1 0 (fun t11 => if w32 r7 = 0 then if w64 t11 = w64 0 then kc (v4 + 7) d10 else none else if w64 t11 = w64 1 then kc (v4 + 7) d10 else none) else none)))))))
set_option maxRecDepth 100000 in
theorem s_L_case_2 {G : G9} {X : X9} (C : CX G X cL_law_ 8 RL [] zL9) (hNc : NC9 (xS X)) {b L : Nat} {xs : Nat → Int} (hSC : SCX G X b L xs) {k n : Nat} (hk : k + 12 ≤ 601024) (hn : n + 80 ≤ 7293034) (kc : Int → D9 → Option R9) (hkc : ∀ (v4 : Int) (d : D9), SS G X 8 (k + 12) (n + 80) 23 [(0, scf b), (1, rf G 0), (2, rf G 174), (3, rf G 194), (4, i9 v4)] [] d (kc v4 d)) : ∀ (v4 : Int) (d : D9), SS G X 8 k n 434 [(0, scf b), (1, rf G 0), (2, rf G 174), (3, rf G 194), (4, i9 v4)] [] d (m_L_case_2 xs L kc v4 d) := by
  intro v4 d
  unfold m_L_case_2
  refine r_aload_n C 1 dL_law__434 rfl rfl ?_
  refine r_aload_nC C 0 dL_law__435 rfl rfl ?_
  refine r_iload C 4 dL_law__436 rfl ?_
  refine r_iconst C dL_law__438 ?_
  refine r_iadd C dL_law__439 ?_
  refine r_scld C hSC dL_law__440 (fun t1 => ?_)
  refine r_aload_nC C 0 dL_law__441 rfl rfl ?_
  refine r_iload C 4 dL_law__442 rfl ?_
  refine r_iconst C dL_law__444 ?_
  refine r_iadd C dL_law__445 ?_
  refine r_scld C hSC dL_law__446 (fun t2 => ?_)
  refine r_aload_n C 3 dL_law__447 rfl rfl ?_
  refine r_callHL C hNc [rf G 194, i9 t2, i9 t1, rf G 0] dL_law__448 (t_L_over C.h1 C.h2 t1 t2 d) mwh_L_183 (by decide) (show k + 3 ≤ 601024 by omega) (show n + 18 ≤ 7293034 by omega) rfl rfl (Nat.le_of_ble_eq_true rfl) (fun r3 d4 => ?_)
  show SS G X 8 (k + 3) (n + 18) 451 [(0, scf b), (1, rf G 0), (2, rf G 174), (3, rf G 194), (4, i9 v4)] [i9 r3] d4 _
  refine r_istore C [(5, i9 r3), (0, scf b), (1, rf G 0), (2, rf G 174), (3, rf G 194), (4, i9 v4)] dL_law__451 (by decide) rfl ?_
  refine r_aload_n C 3 dL_law__453 rfl rfl ?_
  refine r_aload_nC C 1 dL_law__454 rfl rfl ?_
  refine r_iload C 5 dL_law__455 rfl ?_
  refine r_iconst C dL_law__457 ?_
  refine r_iadd C dL_law__458 ?_
  refine r_scld C hSC dL_law__459 (fun t5 => ?_)
  refine r_aload_nC C 1 dL_law__460 rfl rfl ?_
  refine r_iload C 5 dL_law__461 rfl ?_
  refine r_iconst C dL_law__463 ?_
  refine r_iadd C dL_law__464 ?_
  refine r_scld C hSC dL_law__465 (fun t6 => ?_)
  refine r_callVL C [i9 t6, i9 t5, rf G 174] dL_law__466 (t_X12_over_174 C.h1 C.h2 t5 t6 d4) mw_L_186 mv_X12_over la_174 ly_174 rfl (by decide) (show k + 3 + 0 ≤ 601024 by omega) (show n + 18 + 0 ≤ 7293034 by omega) rfl rfl (Nat.le_of_ble_eq_true rfl) (fun r7 d8 => ?_)
  show SS G X 8 (k + 3 + 0) (n + 18 + 0) 469 [(5, i9 r3), (0, scf b), (1, rf G 0), (2, rf G 174), (3, rf G 194), (4, i9 v4)] [i9 r7] d8 _
  refine r_istore C [(6, i9 r7), (5, i9 r3), (0, scf b), (1, rf G 0), (2, rf G 174), (3, rf G 194), (4, i9 v4)] dL_law__469 (by decide) rfl ?_
  refine r_aload_n C 4 dL_law__471 rfl rfl ?_
  refine r_callVL C [rf G 174] dL_law__472 (t_X12_thrown_174 C.h1 C.h2 d8) mw_L_175 mv_X12_thrown la_174 ly_174 rfl (by decide) (show k + 3 + 0 + 0 ≤ 601024 by omega) (show n + 18 + 0 + 0 ≤ 7293034 by omega) rfl rfl (Nat.le_of_ble_eq_true rfl) (fun r9 d10 => ?_)
  show SS G X 8 (k + 3 + 0 + 0) (n + 18 + 0 + 0) 475 [(6, i9 r7), (5, i9 r3), (0, scf b), (1, rf G 0), (2, rf G 174), (3, rf G 194), (4, i9 v4)] [i9 r9] d10 _
  refine r_iload C 1 dL_law__475 rfl ?_
  refine r_icmp_eq C 482 dL_law__477 (by decide) (fun _ => ?_) (fun _ => ?_)
  · refine r_iload C 1 dL_law__482 rfl ?_
    refine r_if_ne C (b := 0) 506 dL_law__484 (by decide) (fun _ => ?_) (fun _ => ?_)
    · refine r_goto C 3533 dL_law__506 (by decide) ?_
      refine r_iinc C 6 [(4, i9 (v4 + 7)), (6, i9 r7), (5, i9 r3), (0, scf b), (1, rf G 0), (2, rf G 174), (3, rf G 194)] dL_law__3533 rfl (by decide) rfl ?_
      refine r_goto C 23 dL_law__3536 (by decide) ?_
      refine ss_wide (k' := k + 12) (n' := n + 80) (show k + 3 + 0 + 0 ≤ k + 12 by omega) (show n + 18 + 0 + 0 ≤ n + 80 by omega) ?_
      refine ss_ls [(0, scf b), (1, rf G 0), (2, rf G 174), (3, rf G 194), (4, i9 (v4 + 7))] [3, 4, 5, 6, 0] rfl ?_
      exact hkc (v4 + 7) d10
    · refine r_aload_n C 5 dL_law__487 rfl rfl ?_
      refine r_iconst C dL_law__488 ?_
      refine r_lald C dL_law__489 la_194 ly_194 (fun t11 => ?_)
      refine r_iload C 0 dL_law__490 rfl ?_
      refine r_if_eq C (b := 0) 499 dL_law__492 (by decide) (fun _ => ?_) (fun _ => ?_)
      · refine r_lconst C dL_law__499 (a := 0) rfl ?_
        refine r_lcmp_eq C 506 dL_law__500 dL_law__501 (by decide) (fun _ => ?_) (fun _ => ?_)
        · refine r_goto C 3533 dL_law__506 (by decide) ?_
          refine r_iinc C 6 [(4, i9 (v4 + 7)), (6, i9 r7), (5, i9 r3), (0, scf b), (1, rf G 0), (2, rf G 174), (3, rf G 194)] dL_law__3533 rfl (by decide) rfl ?_
          refine r_goto C 23 dL_law__3536 (by decide) ?_
          refine ss_wide (k' := k + 12) (n' := n + 80) (show k + 3 + 0 + 0 ≤ k + 12 by omega) (show n + 18 + 0 + 0 ≤ n + 80 by omega) ?_
          refine ss_ls [(0, scf b), (1, rf G 0), (2, rf G 174), (3, rf G 194), (4, i9 (v4 + 7))] [3, 4, 5, 6, 0] rfl ?_
          exact hkc (v4 + 7) d10
        · refine r_iconst C dL_law__504 ?_
          exact ss_none
      · refine r_lconst C dL_law__495 (a := 1) rfl ?_
        refine r_goto C 500 dL_law__496 (by decide) ?_
        refine r_lcmp_eq C 506 dL_law__500 dL_law__501 (by decide) (fun _ => ?_) (fun _ => ?_)
        · refine r_goto C 3533 dL_law__506 (by decide) ?_
          refine r_iinc C 6 [(4, i9 (v4 + 7)), (6, i9 r7), (5, i9 r3), (0, scf b), (1, rf G 0), (2, rf G 174), (3, rf G 194)] dL_law__3533 rfl (by decide) rfl ?_
          refine r_goto C 23 dL_law__3536 (by decide) ?_
          refine ss_wide (k' := k + 12) (n' := n + 80) (show k + 3 + 0 + 0 ≤ k + 12 by omega) (show n + 18 + 0 + 0 ≤ n + 80 by omega) ?_
          refine ss_ls [(0, scf b), (1, rf G 0), (2, rf G 174), (3, rf G 194), (4, i9 (v4 + 7))] [3, 4, 5, 6, 0] rfl ?_
          exact hkc (v4 + 7) d10
        · refine r_iconst C dL_law__504 ?_
          exact ss_none
  · refine r_iconst C dL_law__480 ?_
    exact ss_none
theorem dL_law__509 : decode cL_law_ 509 = .ok (.aload_n 1, 1) := by decide +kernel
theorem dL_law__510 : decode cL_law_ 510 = .ok (.aload_n 0, 1) := by decide +kernel
theorem dL_law__511 : decode cL_law_ 511 = .ok (.iload 4, 2) := by decide +kernel
theorem dL_law__513 : decode cL_law_ 513 = .ok (.iconst 1, 1) := by decide +kernel
theorem dL_law__514 : decode cL_law_ 514 = .ok (.iadd, 1) := by decide +kernel
theorem dL_law__515 : decode cL_law_ 515 = .ok (.iaload, 1) := by decide +kernel
theorem dL_law__516 : decode cL_law_ 516 = .ok (.aload_n 0, 1) := by decide +kernel
theorem dL_law__517 : decode cL_law_ 517 = .ok (.iload 4, 2) := by decide +kernel
theorem dL_law__519 : decode cL_law_ 519 = .ok (.iconst 2, 1) := by decide +kernel
theorem dL_law__520 : decode cL_law_ 520 = .ok (.iadd, 1) := by decide +kernel
theorem dL_law__521 : decode cL_law_ 521 = .ok (.iaload, 1) := by decide +kernel
theorem dL_law__522 : decode cL_law_ 522 = .ok (.aload_n 0, 1) := by decide +kernel
theorem dL_law__523 : decode cL_law_ 523 = .ok (.iload 4, 2) := by decide +kernel
theorem dL_law__525 : decode cL_law_ 525 = .ok (.iconst 3, 1) := by decide +kernel
theorem dL_law__526 : decode cL_law_ 526 = .ok (.iadd, 1) := by decide +kernel
theorem dL_law__527 : decode cL_law_ 527 = .ok (.iaload, 1) := by decide +kernel
theorem dL_law__528 : decode cL_law_ 528 = .ok (.aload_n 0, 1) := by decide +kernel
theorem dL_law__529 : decode cL_law_ 529 = .ok (.iload 4, 2) := by decide +kernel
theorem dL_law__531 : decode cL_law_ 531 = .ok (.iconst 4, 1) := by decide +kernel
theorem dL_law__532 : decode cL_law_ 532 = .ok (.iadd, 1) := by decide +kernel
theorem dL_law__533 : decode cL_law_ 533 = .ok (.iaload, 1) := by decide +kernel
theorem dL_law__534 : decode cL_law_ 534 = .ok (.aload_n 3, 1) := by decide +kernel
theorem dL_law__535 : decode cL_law_ 535 = .ok (.invokestatic 187, 3) := by decide +kernel
theorem dL_law__538 : decode cL_law_ 538 = .ok (.istore 5, 2) := by decide +kernel
theorem dL_law__540 : decode cL_law_ 540 = .ok (.aload_n 2, 1) := by decide +kernel
theorem dL_law__541 : decode cL_law_ 541 = .ok (.aload_n 0, 1) := by decide +kernel
theorem dL_law__542 : decode cL_law_ 542 = .ok (.iload 4, 2) := by decide +kernel
theorem dL_law__544 : decode cL_law_ 544 = .ok (.iconst 1, 1) := by decide +kernel
theorem dL_law__545 : decode cL_law_ 545 = .ok (.iadd, 1) := by decide +kernel
theorem dL_law__546 : decode cL_law_ 546 = .ok (.iaload, 1) := by decide +kernel
theorem dL_law__547 : decode cL_law_ 547 = .ok (.aload_n 0, 1) := by decide +kernel
theorem dL_law__548 : decode cL_law_ 548 = .ok (.iload 4, 2) := by decide +kernel
theorem dL_law__550 : decode cL_law_ 550 = .ok (.iconst 2, 1) := by decide +kernel
theorem dL_law__551 : decode cL_law_ 551 = .ok (.iadd, 1) := by decide +kernel
theorem dL_law__552 : decode cL_law_ 552 = .ok (.iaload, 1) := by decide +kernel
theorem dL_law__553 : decode cL_law_ 553 = .ok (.aload_n 0, 1) := by decide +kernel
theorem dL_law__554 : decode cL_law_ 554 = .ok (.iload 4, 2) := by decide +kernel
theorem dL_law__556 : decode cL_law_ 556 = .ok (.iconst 3, 1) := by decide +kernel
theorem dL_law__557 : decode cL_law_ 557 = .ok (.iadd, 1) := by decide +kernel
theorem dL_law__558 : decode cL_law_ 558 = .ok (.iaload, 1) := by decide +kernel
theorem dL_law__559 : decode cL_law_ 559 = .ok (.aload_n 0, 1) := by decide +kernel
theorem dL_law__560 : decode cL_law_ 560 = .ok (.iload 4, 2) := by decide +kernel
theorem dL_law__562 : decode cL_law_ 562 = .ok (.iconst 4, 1) := by decide +kernel
theorem dL_law__563 : decode cL_law_ 563 = .ok (.iadd, 1) := by decide +kernel
theorem dL_law__564 : decode cL_law_ 564 = .ok (.iaload, 1) := by decide +kernel
theorem dL_law__565 : decode cL_law_ 565 = .ok (.invokevirtual 190, 3) := by decide +kernel
theorem dL_law__568 : decode cL_law_ 568 = .ok (.istore 6, 2) := by decide +kernel
theorem dL_law__570 : decode cL_law_ 570 = .ok (.aload_n 2, 1) := by decide +kernel
theorem dL_law__571 : decode cL_law_ 571 = .ok (.invokevirtual 175, 3) := by decide +kernel
theorem dL_law__574 : decode cL_law_ 574 = .ok (.iload 5, 2) := by decide +kernel
theorem dL_law__576 : decode cL_law_ 576 = .ok (.if_icmp .eq 5, 3) := by decide +kernel
theorem dL_law__579 : decode cL_law_ 579 = .ok (.iconst 0, 1) := by decide +kernel
theorem dL_law__581 : decode cL_law_ 581 = .ok (.iload 5, 2) := by decide +kernel
theorem dL_law__583 : decode cL_law_ 583 = .ok (.ifCond .ne 15, 3) := by decide +kernel
theorem dL_law__586 : decode cL_law_ 586 = .ok (.aload_n 3, 1) := by decide +kernel
theorem dL_law__587 : decode cL_law_ 587 = .ok (.iconst 0, 1) := by decide +kernel
theorem dL_law__588 : decode cL_law_ 588 = .ok (.laload, 1) := by decide +kernel
theorem dL_law__589 : decode cL_law_ 589 = .ok (.iload 6, 2) := by decide +kernel
theorem dL_law__591 : decode cL_law_ 591 = .ok (.i2l, 1) := by decide +kernel
theorem dL_law__592 : decode cL_law_ 592 = .ok (.lcmp, 1) := by decide +kernel
theorem dL_law__593 : decode cL_law_ 593 = .ok (.ifCond .eq 5, 3) := by decide +kernel
theorem dL_law__596 : decode cL_law_ 596 = .ok (.iconst 0, 1) := by decide +kernel
theorem dL_law__598 : decode cL_law_ 598 = .ok (.goto 2935, 3) := by decide +kernel
def m_L_case_3 (xs : Nat → Int) (L : Nat) (kc : Int → D9 → Option R9) (v4 : Int) (d : D9) : Option R9 := scr xs L (v4 + 1) (fun t1 => scr xs L (v4 + 2) (fun t2 => scr xs L (v4 + 3) (fun t3 => scr xs L (v4 + 4) (fun t4 => cz (m_L_skin t1 t2 t3 t4 d) (fun r5 d6 => scr xs L (v4 + 1) (fun t7 => scr xs L (v4 + 2) (fun t8 => scr xs L (v4 + 3) (fun t9 => scr xs L (v4 + 4) (fun t10 => cz (m_X12_skin_174 t7 t8 t9 t10 d6) (fun r11 d12 => cz (m_X12_thrown_174 d12) (fun r13 d14 => if w32 r13 = w32 r5 then if w32 r5 ≠ 0 then kc (v4 + 7) d14 else ld d14 194 1 0 (fun t15 => if w64 t15 = w64 (w32 r11) then kc (v4 + 7) d14 else none) else none)))))))))))
set_option maxRecDepth 100000 in
theorem s_L_case_3 {G : G9} {X : X9} (C : CX G X cL_law_ 8 RL [] zL9) (hNc : NC9 (xS X)) {b L : Nat} {xs : Nat → Int} (hSC : SCX G X b L xs) {k n : Nat} (hk : k + 12 ≤ 601024) (hn : n + 80 ≤ 7293034) (kc : Int → D9 → Option R9) (hkc : ∀ (v4 : Int) (d : D9), SS G X 8 (k + 12) (n + 80) 23 [(0, scf b), (1, rf G 0), (2, rf G 174), (3, rf G 194), (4, i9 v4)] [] d (kc v4 d)) : ∀ (v4 : Int) (d : D9), SS G X 8 k n 509 [(0, scf b), (1, rf G 0), (2, rf G 174), (3, rf G 194), (4, i9 v4)] [] d (m_L_case_3 xs L kc v4 d) := by
  intro v4 d
  unfold m_L_case_3
  refine r_aload_n C 1 dL_law__509 rfl rfl ?_
  refine r_aload_nC C 0 dL_law__510 rfl rfl ?_
  refine r_iload C 4 dL_law__511 rfl ?_
  refine r_iconst C dL_law__513 ?_
  refine r_iadd C dL_law__514 ?_
  refine r_scld C hSC dL_law__515 (fun t1 => ?_)
  refine r_aload_nC C 0 dL_law__516 rfl rfl ?_
  refine r_iload C 4 dL_law__517 rfl ?_
  refine r_iconst C dL_law__519 ?_
  refine r_iadd C dL_law__520 ?_
  refine r_scld C hSC dL_law__521 (fun t2 => ?_)
  refine r_aload_nC C 0 dL_law__522 rfl rfl ?_
  refine r_iload C 4 dL_law__523 rfl ?_
  refine r_iconst C dL_law__525 ?_
  refine r_iadd C dL_law__526 ?_
  refine r_scld C hSC dL_law__527 (fun t3 => ?_)
  refine r_aload_nC C 0 dL_law__528 rfl rfl ?_
  refine r_iload C 4 dL_law__529 rfl ?_
  refine r_iconst C dL_law__531 ?_
  refine r_iadd C dL_law__532 ?_
  refine r_scld C hSC dL_law__533 (fun t4 => ?_)
  refine r_aload_n C 3 dL_law__534 rfl rfl ?_
  refine r_callHL C hNc [rf G 194, i9 t4, i9 t3, i9 t2, i9 t1, rf G 0] dL_law__535 (t_L_skin C.h1 C.h2 t1 t2 t3 t4 d) mwh_L_187 (by decide) (show k + 5 ≤ 601024 by omega) (show n + 30 ≤ 7293034 by omega) rfl rfl (Nat.le_of_ble_eq_true rfl) (fun r5 d6 => ?_)
  show SS G X 8 (k + 5) (n + 30) 538 [(0, scf b), (1, rf G 0), (2, rf G 174), (3, rf G 194), (4, i9 v4)] [i9 r5] d6 _
  refine r_istore C [(5, i9 r5), (0, scf b), (1, rf G 0), (2, rf G 174), (3, rf G 194), (4, i9 v4)] dL_law__538 (by decide) rfl ?_
  refine r_aload_n C 3 dL_law__540 rfl rfl ?_
  refine r_aload_nC C 1 dL_law__541 rfl rfl ?_
  refine r_iload C 5 dL_law__542 rfl ?_
  refine r_iconst C dL_law__544 ?_
  refine r_iadd C dL_law__545 ?_
  refine r_scld C hSC dL_law__546 (fun t7 => ?_)
  refine r_aload_nC C 1 dL_law__547 rfl rfl ?_
  refine r_iload C 5 dL_law__548 rfl ?_
  refine r_iconst C dL_law__550 ?_
  refine r_iadd C dL_law__551 ?_
  refine r_scld C hSC dL_law__552 (fun t8 => ?_)
  refine r_aload_nC C 1 dL_law__553 rfl rfl ?_
  refine r_iload C 5 dL_law__554 rfl ?_
  refine r_iconst C dL_law__556 ?_
  refine r_iadd C dL_law__557 ?_
  refine r_scld C hSC dL_law__558 (fun t9 => ?_)
  refine r_aload_nC C 1 dL_law__559 rfl rfl ?_
  refine r_iload C 5 dL_law__560 rfl ?_
  refine r_iconst C dL_law__562 ?_
  refine r_iadd C dL_law__563 ?_
  refine r_scld C hSC dL_law__564 (fun t10 => ?_)
  refine r_callVL C [i9 t10, i9 t9, i9 t8, i9 t7, rf G 174] dL_law__565 (t_X12_skin_174 C.h1 C.h2 t7 t8 t9 t10 d6) mw_L_190 mv_X12_skin la_174 ly_174 rfl (by decide) (show k + 5 + 0 ≤ 601024 by omega) (show n + 30 + 0 ≤ 7293034 by omega) rfl rfl (Nat.le_of_ble_eq_true rfl) (fun r11 d12 => ?_)
  show SS G X 8 (k + 5 + 0) (n + 30 + 0) 568 [(5, i9 r5), (0, scf b), (1, rf G 0), (2, rf G 174), (3, rf G 194), (4, i9 v4)] [i9 r11] d12 _
  refine r_istore C [(6, i9 r11), (5, i9 r5), (0, scf b), (1, rf G 0), (2, rf G 174), (3, rf G 194), (4, i9 v4)] dL_law__568 (by decide) rfl ?_
  refine r_aload_n C 4 dL_law__570 rfl rfl ?_
  refine r_callVL C [rf G 174] dL_law__571 (t_X12_thrown_174 C.h1 C.h2 d12) mw_L_175 mv_X12_thrown la_174 ly_174 rfl (by decide) (show k + 5 + 0 + 0 ≤ 601024 by omega) (show n + 30 + 0 + 0 ≤ 7293034 by omega) rfl rfl (Nat.le_of_ble_eq_true rfl) (fun r13 d14 => ?_)
  show SS G X 8 (k + 5 + 0 + 0) (n + 30 + 0 + 0) 574 [(6, i9 r11), (5, i9 r5), (0, scf b), (1, rf G 0), (2, rf G 174), (3, rf G 194), (4, i9 v4)] [i9 r13] d14 _
  refine r_iload C 1 dL_law__574 rfl ?_
  refine r_icmp_eq C 581 dL_law__576 (by decide) (fun _ => ?_) (fun _ => ?_)
  · refine r_iload C 1 dL_law__581 rfl ?_
    refine r_if_ne C (b := 0) 598 dL_law__583 (by decide) (fun _ => ?_) (fun _ => ?_)
    · refine r_goto C 3533 dL_law__598 (by decide) ?_
      refine r_iinc C 6 [(4, i9 (v4 + 7)), (6, i9 r11), (5, i9 r5), (0, scf b), (1, rf G 0), (2, rf G 174), (3, rf G 194)] dL_law__3533 rfl (by decide) rfl ?_
      refine r_goto C 23 dL_law__3536 (by decide) ?_
      refine ss_wide (k' := k + 12) (n' := n + 80) (show k + 5 + 0 + 0 ≤ k + 12 by omega) (show n + 30 + 0 + 0 ≤ n + 80 by omega) ?_
      refine ss_ls [(0, scf b), (1, rf G 0), (2, rf G 174), (3, rf G 194), (4, i9 (v4 + 7))] [3, 4, 5, 6, 0] rfl ?_
      exact hkc (v4 + 7) d14
    · refine r_aload_n C 5 dL_law__586 rfl rfl ?_
      refine r_iconst C dL_law__587 ?_
      refine r_lald C dL_law__588 la_194 ly_194 (fun t15 => ?_)
      refine r_iload C 0 dL_law__589 rfl ?_
      refine r_i2l C dL_law__591 ?_
      refine r_lcmp_eq C 598 dL_law__592 dL_law__593 (by decide) (fun _ => ?_) (fun _ => ?_)
      · refine r_goto C 3533 dL_law__598 (by decide) ?_
        refine r_iinc C 6 [(4, i9 (v4 + 7)), (6, i9 r11), (5, i9 r5), (0, scf b), (1, rf G 0), (2, rf G 174), (3, rf G 194)] dL_law__3533 rfl (by decide) rfl ?_
        refine r_goto C 23 dL_law__3536 (by decide) ?_
        refine ss_wide (k' := k + 12) (n' := n + 80) (show k + 5 + 0 + 0 ≤ k + 12 by omega) (show n + 30 + 0 + 0 ≤ n + 80 by omega) ?_
        refine ss_ls [(0, scf b), (1, rf G 0), (2, rf G 174), (3, rf G 194), (4, i9 (v4 + 7))] [3, 4, 5, 6, 0] rfl ?_
        exact hkc (v4 + 7) d14
      · refine r_iconst C dL_law__596 ?_
        exact ss_none
  · refine r_iconst C dL_law__579 ?_
    exact ss_none
theorem dL_law__601 : decode cL_law_ 601 = .ok (.aload_n 1, 1) := by decide +kernel
theorem dL_law__602 : decode cL_law_ 602 = .ok (.aload_n 0, 1) := by decide +kernel
theorem dL_law__603 : decode cL_law_ 603 = .ok (.iload 4, 2) := by decide +kernel
theorem dL_law__605 : decode cL_law_ 605 = .ok (.iconst 1, 1) := by decide +kernel
theorem dL_law__606 : decode cL_law_ 606 = .ok (.iadd, 1) := by decide +kernel
theorem dL_law__607 : decode cL_law_ 607 = .ok (.iaload, 1) := by decide +kernel
theorem dL_law__608 : decode cL_law_ 608 = .ok (.aload_n 0, 1) := by decide +kernel
theorem dL_law__609 : decode cL_law_ 609 = .ok (.iload 4, 2) := by decide +kernel
theorem dL_law__611 : decode cL_law_ 611 = .ok (.iconst 2, 1) := by decide +kernel
theorem dL_law__612 : decode cL_law_ 612 = .ok (.iadd, 1) := by decide +kernel
theorem dL_law__613 : decode cL_law_ 613 = .ok (.iaload, 1) := by decide +kernel
theorem dL_law__614 : decode cL_law_ 614 = .ok (.aload_n 0, 1) := by decide +kernel
theorem dL_law__615 : decode cL_law_ 615 = .ok (.iload 4, 2) := by decide +kernel
theorem dL_law__617 : decode cL_law_ 617 = .ok (.iconst 3, 1) := by decide +kernel
theorem dL_law__618 : decode cL_law_ 618 = .ok (.iadd, 1) := by decide +kernel
theorem dL_law__619 : decode cL_law_ 619 = .ok (.iaload, 1) := by decide +kernel
theorem dL_law__620 : decode cL_law_ 620 = .ok (.aload_n 0, 1) := by decide +kernel
theorem dL_law__621 : decode cL_law_ 621 = .ok (.iload 4, 2) := by decide +kernel
theorem dL_law__623 : decode cL_law_ 623 = .ok (.iconst 4, 1) := by decide +kernel
theorem dL_law__624 : decode cL_law_ 624 = .ok (.iadd, 1) := by decide +kernel
theorem dL_law__625 : decode cL_law_ 625 = .ok (.iaload, 1) := by decide +kernel
theorem dL_law__626 : decode cL_law_ 626 = .ok (.aload_n 3, 1) := by decide +kernel
theorem dL_law__627 : decode cL_law_ 627 = .ok (.invokestatic 191, 3) := by decide +kernel
theorem dL_law__630 : decode cL_law_ 630 = .ok (.istore 5, 2) := by decide +kernel
theorem dL_law__632 : decode cL_law_ 632 = .ok (.aload_n 2, 1) := by decide +kernel
theorem dL_law__633 : decode cL_law_ 633 = .ok (.aload_n 0, 1) := by decide +kernel
theorem dL_law__634 : decode cL_law_ 634 = .ok (.iload 4, 2) := by decide +kernel
theorem dL_law__636 : decode cL_law_ 636 = .ok (.iconst 1, 1) := by decide +kernel
theorem dL_law__637 : decode cL_law_ 637 = .ok (.iadd, 1) := by decide +kernel
theorem dL_law__638 : decode cL_law_ 638 = .ok (.iaload, 1) := by decide +kernel
theorem dL_law__639 : decode cL_law_ 639 = .ok (.aload_n 0, 1) := by decide +kernel
theorem dL_law__640 : decode cL_law_ 640 = .ok (.iload 4, 2) := by decide +kernel
theorem dL_law__642 : decode cL_law_ 642 = .ok (.iconst 2, 1) := by decide +kernel
theorem dL_law__643 : decode cL_law_ 643 = .ok (.iadd, 1) := by decide +kernel
theorem dL_law__644 : decode cL_law_ 644 = .ok (.iaload, 1) := by decide +kernel
theorem dL_law__645 : decode cL_law_ 645 = .ok (.aload_n 0, 1) := by decide +kernel
theorem dL_law__646 : decode cL_law_ 646 = .ok (.iload 4, 2) := by decide +kernel
theorem dL_law__648 : decode cL_law_ 648 = .ok (.iconst 3, 1) := by decide +kernel
theorem dL_law__649 : decode cL_law_ 649 = .ok (.iadd, 1) := by decide +kernel
theorem dL_law__650 : decode cL_law_ 650 = .ok (.iaload, 1) := by decide +kernel
theorem dL_law__651 : decode cL_law_ 651 = .ok (.aload_n 0, 1) := by decide +kernel
theorem dL_law__652 : decode cL_law_ 652 = .ok (.iload 4, 2) := by decide +kernel
theorem dL_law__654 : decode cL_law_ 654 = .ok (.iconst 4, 1) := by decide +kernel
theorem dL_law__655 : decode cL_law_ 655 = .ok (.iadd, 1) := by decide +kernel
theorem dL_law__656 : decode cL_law_ 656 = .ok (.iaload, 1) := by decide +kernel
theorem dL_law__657 : decode cL_law_ 657 = .ok (.invokevirtual 193, 3) := by decide +kernel
theorem dL_law__660 : decode cL_law_ 660 = .ok (.istore 6, 2) := by decide +kernel
theorem dL_law__662 : decode cL_law_ 662 = .ok (.aload_n 2, 1) := by decide +kernel
theorem dL_law__663 : decode cL_law_ 663 = .ok (.invokevirtual 175, 3) := by decide +kernel
theorem dL_law__666 : decode cL_law_ 666 = .ok (.iload 5, 2) := by decide +kernel
theorem dL_law__668 : decode cL_law_ 668 = .ok (.if_icmp .eq 5, 3) := by decide +kernel
theorem dL_law__671 : decode cL_law_ 671 = .ok (.iconst 0, 1) := by decide +kernel
theorem dL_law__673 : decode cL_law_ 673 = .ok (.iload 5, 2) := by decide +kernel
theorem dL_law__675 : decode cL_law_ 675 = .ok (.ifCond .ne 15, 3) := by decide +kernel
theorem dL_law__678 : decode cL_law_ 678 = .ok (.aload_n 3, 1) := by decide +kernel
theorem dL_law__679 : decode cL_law_ 679 = .ok (.iconst 0, 1) := by decide +kernel
theorem dL_law__680 : decode cL_law_ 680 = .ok (.laload, 1) := by decide +kernel
theorem dL_law__681 : decode cL_law_ 681 = .ok (.iload 6, 2) := by decide +kernel
theorem dL_law__683 : decode cL_law_ 683 = .ok (.i2l, 1) := by decide +kernel
theorem dL_law__684 : decode cL_law_ 684 = .ok (.lcmp, 1) := by decide +kernel
theorem dL_law__685 : decode cL_law_ 685 = .ok (.ifCond .eq 5, 3) := by decide +kernel
theorem dL_law__688 : decode cL_law_ 688 = .ok (.iconst 0, 1) := by decide +kernel
theorem dL_law__690 : decode cL_law_ 690 = .ok (.goto 2843, 3) := by decide +kernel
def m_L_case_4 (xs : Nat → Int) (L : Nat) (kc : Int → D9 → Option R9) (v4 : Int) (d : D9) : Option R9 := scr xs L (v4 + 1) (fun t1 => scr xs L (v4 + 2) (fun t2 => scr xs L (v4 + 3) (fun t3 => scr xs L (v4 + 4) (fun t4 => cz (m_L_layer t1 t2 t3 t4 d) (fun r5 d6 => scr xs L (v4 + 1) (fun t7 => scr xs L (v4 + 2) (fun t8 => scr xs L (v4 + 3) (fun t9 => scr xs L (v4 + 4) (fun t10 => cz (m_X12_layer_174 t7 t8 t9 t10 d6) (fun r11 d12 => cz (m_X12_thrown_174 d12) (fun r13 d14 => if w32 r13 = w32 r5 then if w32 r5 ≠ 0 then kc (v4 + 7) d14 else ld d14 194 1 0 (fun t15 => if w64 t15 = w64 (w32 r11) then kc (v4 + 7) d14 else none) else none)))))))))))
set_option maxRecDepth 100000 in
theorem s_L_case_4 {G : G9} {X : X9} (C : CX G X cL_law_ 8 RL [] zL9) (hNc : NC9 (xS X)) {b L : Nat} {xs : Nat → Int} (hSC : SCX G X b L xs) {k n : Nat} (hk : k + 12 ≤ 601024) (hn : n + 80 ≤ 7293034) (kc : Int → D9 → Option R9) (hkc : ∀ (v4 : Int) (d : D9), SS G X 8 (k + 12) (n + 80) 23 [(0, scf b), (1, rf G 0), (2, rf G 174), (3, rf G 194), (4, i9 v4)] [] d (kc v4 d)) : ∀ (v4 : Int) (d : D9), SS G X 8 k n 601 [(0, scf b), (1, rf G 0), (2, rf G 174), (3, rf G 194), (4, i9 v4)] [] d (m_L_case_4 xs L kc v4 d) := by
  intro v4 d
  unfold m_L_case_4
  refine r_aload_n C 1 dL_law__601 rfl rfl ?_
  refine r_aload_nC C 0 dL_law__602 rfl rfl ?_
  refine r_iload C 4 dL_law__603 rfl ?_
  refine r_iconst C dL_law__605 ?_
  refine r_iadd C dL_law__606 ?_
  refine r_scld C hSC dL_law__607 (fun t1 => ?_)
  refine r_aload_nC C 0 dL_law__608 rfl rfl ?_
  refine r_iload C 4 dL_law__609 rfl ?_
  refine r_iconst C dL_law__611 ?_
  refine r_iadd C dL_law__612 ?_
  refine r_scld C hSC dL_law__613 (fun t2 => ?_)
  refine r_aload_nC C 0 dL_law__614 rfl rfl ?_
  refine r_iload C 4 dL_law__615 rfl ?_
  refine r_iconst C dL_law__617 ?_
  refine r_iadd C dL_law__618 ?_
  refine r_scld C hSC dL_law__619 (fun t3 => ?_)
  refine r_aload_nC C 0 dL_law__620 rfl rfl ?_
  refine r_iload C 4 dL_law__621 rfl ?_
  refine r_iconst C dL_law__623 ?_
  refine r_iadd C dL_law__624 ?_
  refine r_scld C hSC dL_law__625 (fun t4 => ?_)
  refine r_aload_n C 3 dL_law__626 rfl rfl ?_
  refine r_callHL C hNc [rf G 194, i9 t4, i9 t3, i9 t2, i9 t1, rf G 0] dL_law__627 (t_L_layer C.h1 C.h2 t1 t2 t3 t4 d) mwh_L_191 (by decide) (show k + 4 ≤ 601024 by omega) (show n + 24 ≤ 7293034 by omega) rfl rfl (Nat.le_of_ble_eq_true rfl) (fun r5 d6 => ?_)
  show SS G X 8 (k + 4) (n + 24) 630 [(0, scf b), (1, rf G 0), (2, rf G 174), (3, rf G 194), (4, i9 v4)] [i9 r5] d6 _
  refine r_istore C [(5, i9 r5), (0, scf b), (1, rf G 0), (2, rf G 174), (3, rf G 194), (4, i9 v4)] dL_law__630 (by decide) rfl ?_
  refine r_aload_n C 3 dL_law__632 rfl rfl ?_
  refine r_aload_nC C 1 dL_law__633 rfl rfl ?_
  refine r_iload C 5 dL_law__634 rfl ?_
  refine r_iconst C dL_law__636 ?_
  refine r_iadd C dL_law__637 ?_
  refine r_scld C hSC dL_law__638 (fun t7 => ?_)
  refine r_aload_nC C 1 dL_law__639 rfl rfl ?_
  refine r_iload C 5 dL_law__640 rfl ?_
  refine r_iconst C dL_law__642 ?_
  refine r_iadd C dL_law__643 ?_
  refine r_scld C hSC dL_law__644 (fun t8 => ?_)
  refine r_aload_nC C 1 dL_law__645 rfl rfl ?_
  refine r_iload C 5 dL_law__646 rfl ?_
  refine r_iconst C dL_law__648 ?_
  refine r_iadd C dL_law__649 ?_
  refine r_scld C hSC dL_law__650 (fun t9 => ?_)
  refine r_aload_nC C 1 dL_law__651 rfl rfl ?_
  refine r_iload C 5 dL_law__652 rfl ?_
  refine r_iconst C dL_law__654 ?_
  refine r_iadd C dL_law__655 ?_
  refine r_scld C hSC dL_law__656 (fun t10 => ?_)
  refine r_callVL C [i9 t10, i9 t9, i9 t8, i9 t7, rf G 174] dL_law__657 (t_X12_layer_174 C.h1 C.h2 t7 t8 t9 t10 d6) mw_L_193 mv_X12_layer la_174 ly_174 rfl (by decide) (show k + 4 + 0 ≤ 601024 by omega) (show n + 24 + 0 ≤ 7293034 by omega) rfl rfl (Nat.le_of_ble_eq_true rfl) (fun r11 d12 => ?_)
  show SS G X 8 (k + 4 + 0) (n + 24 + 0) 660 [(5, i9 r5), (0, scf b), (1, rf G 0), (2, rf G 174), (3, rf G 194), (4, i9 v4)] [i9 r11] d12 _
  refine r_istore C [(6, i9 r11), (5, i9 r5), (0, scf b), (1, rf G 0), (2, rf G 174), (3, rf G 194), (4, i9 v4)] dL_law__660 (by decide) rfl ?_
  refine r_aload_n C 4 dL_law__662 rfl rfl ?_
  refine r_callVL C [rf G 174] dL_law__663 (t_X12_thrown_174 C.h1 C.h2 d12) mw_L_175 mv_X12_thrown la_174 ly_174 rfl (by decide) (show k + 4 + 0 + 0 ≤ 601024 by omega) (show n + 24 + 0 + 0 ≤ 7293034 by omega) rfl rfl (Nat.le_of_ble_eq_true rfl) (fun r13 d14 => ?_)
  show SS G X 8 (k + 4 + 0 + 0) (n + 24 + 0 + 0) 666 [(6, i9 r11), (5, i9 r5), (0, scf b), (1, rf G 0), (2, rf G 174), (3, rf G 194), (4, i9 v4)] [i9 r13] d14 _
  refine r_iload C 1 dL_law__666 rfl ?_
  refine r_icmp_eq C 673 dL_law__668 (by decide) (fun _ => ?_) (fun _ => ?_)
  · refine r_iload C 1 dL_law__673 rfl ?_
    refine r_if_ne C (b := 0) 690 dL_law__675 (by decide) (fun _ => ?_) (fun _ => ?_)
    · refine r_goto C 3533 dL_law__690 (by decide) ?_
      refine r_iinc C 6 [(4, i9 (v4 + 7)), (6, i9 r11), (5, i9 r5), (0, scf b), (1, rf G 0), (2, rf G 174), (3, rf G 194)] dL_law__3533 rfl (by decide) rfl ?_
      refine r_goto C 23 dL_law__3536 (by decide) ?_
      refine ss_wide (k' := k + 12) (n' := n + 80) (show k + 4 + 0 + 0 ≤ k + 12 by omega) (show n + 24 + 0 + 0 ≤ n + 80 by omega) ?_
      refine ss_ls [(0, scf b), (1, rf G 0), (2, rf G 174), (3, rf G 194), (4, i9 (v4 + 7))] [3, 4, 5, 6, 0] rfl ?_
      exact hkc (v4 + 7) d14
    · refine r_aload_n C 5 dL_law__678 rfl rfl ?_
      refine r_iconst C dL_law__679 ?_
      refine r_lald C dL_law__680 la_194 ly_194 (fun t15 => ?_)
      refine r_iload C 0 dL_law__681 rfl ?_
      refine r_i2l C dL_law__683 ?_
      refine r_lcmp_eq C 690 dL_law__684 dL_law__685 (by decide) (fun _ => ?_) (fun _ => ?_)
      · refine r_goto C 3533 dL_law__690 (by decide) ?_
        refine r_iinc C 6 [(4, i9 (v4 + 7)), (6, i9 r11), (5, i9 r5), (0, scf b), (1, rf G 0), (2, rf G 174), (3, rf G 194)] dL_law__3533 rfl (by decide) rfl ?_
        refine r_goto C 23 dL_law__3536 (by decide) ?_
        refine ss_wide (k' := k + 12) (n' := n + 80) (show k + 4 + 0 + 0 ≤ k + 12 by omega) (show n + 24 + 0 + 0 ≤ n + 80 by omega) ?_
        refine ss_ls [(0, scf b), (1, rf G 0), (2, rf G 174), (3, rf G 194), (4, i9 (v4 + 7))] [3, 4, 5, 6, 0] rfl ?_
        exact hkc (v4 + 7) d14
      · refine r_iconst C dL_law__688 ?_
        exact ss_none
  · refine r_iconst C dL_law__671 ?_
    exact ss_none
theorem dL_law__693 : decode cL_law_ 693 = .ok (.aload_n 1, 1) := by decide +kernel
theorem dL_law__694 : decode cL_law_ 694 = .ok (.aload_n 0, 1) := by decide +kernel
theorem dL_law__695 : decode cL_law_ 695 = .ok (.iload 4, 2) := by decide +kernel
theorem dL_law__697 : decode cL_law_ 697 = .ok (.iconst 1, 1) := by decide +kernel
theorem dL_law__698 : decode cL_law_ 698 = .ok (.iadd, 1) := by decide +kernel
theorem dL_law__699 : decode cL_law_ 699 = .ok (.iaload, 1) := by decide +kernel
theorem dL_law__700 : decode cL_law_ 700 = .ok (.aload_n 0, 1) := by decide +kernel
theorem dL_law__701 : decode cL_law_ 701 = .ok (.iload 4, 2) := by decide +kernel
theorem dL_law__703 : decode cL_law_ 703 = .ok (.iconst 2, 1) := by decide +kernel
theorem dL_law__704 : decode cL_law_ 704 = .ok (.iadd, 1) := by decide +kernel
theorem dL_law__705 : decode cL_law_ 705 = .ok (.iaload, 1) := by decide +kernel
theorem dL_law__706 : decode cL_law_ 706 = .ok (.aload_n 3, 1) := by decide +kernel
theorem dL_law__707 : decode cL_law_ 707 = .ok (.invokestatic 194, 3) := by decide +kernel
theorem dL_law__710 : decode cL_law_ 710 = .ok (.istore 5, 2) := by decide +kernel
theorem dL_law__712 : decode cL_law_ 712 = .ok (.aload_n 2, 1) := by decide +kernel
theorem dL_law__713 : decode cL_law_ 713 = .ok (.aload_n 0, 1) := by decide +kernel
theorem dL_law__714 : decode cL_law_ 714 = .ok (.iload 4, 2) := by decide +kernel
theorem dL_law__716 : decode cL_law_ 716 = .ok (.iconst 1, 1) := by decide +kernel
theorem dL_law__717 : decode cL_law_ 717 = .ok (.iadd, 1) := by decide +kernel
theorem dL_law__718 : decode cL_law_ 718 = .ok (.iaload, 1) := by decide +kernel
theorem dL_law__719 : decode cL_law_ 719 = .ok (.aload_n 0, 1) := by decide +kernel
theorem dL_law__720 : decode cL_law_ 720 = .ok (.iload 4, 2) := by decide +kernel
theorem dL_law__722 : decode cL_law_ 722 = .ok (.iconst 2, 1) := by decide +kernel
theorem dL_law__723 : decode cL_law_ 723 = .ok (.iadd, 1) := by decide +kernel
theorem dL_law__724 : decode cL_law_ 724 = .ok (.iaload, 1) := by decide +kernel
theorem dL_law__725 : decode cL_law_ 725 = .ok (.invokevirtual 196, 3) := by decide +kernel
theorem dL_law__728 : decode cL_law_ 728 = .ok (.istore 6, 2) := by decide +kernel
theorem dL_law__730 : decode cL_law_ 730 = .ok (.aload_n 2, 1) := by decide +kernel
theorem dL_law__731 : decode cL_law_ 731 = .ok (.invokevirtual 175, 3) := by decide +kernel
theorem dL_law__734 : decode cL_law_ 734 = .ok (.iload 5, 2) := by decide +kernel
theorem dL_law__736 : decode cL_law_ 736 = .ok (.if_icmp .eq 5, 3) := by decide +kernel
theorem dL_law__739 : decode cL_law_ 739 = .ok (.iconst 0, 1) := by decide +kernel
theorem dL_law__741 : decode cL_law_ 741 = .ok (.iload 5, 2) := by decide +kernel
theorem dL_law__743 : decode cL_law_ 743 = .ok (.ifCond .ne 15, 3) := by decide +kernel
theorem dL_law__746 : decode cL_law_ 746 = .ok (.aload_n 3, 1) := by decide +kernel
theorem dL_law__747 : decode cL_law_ 747 = .ok (.iconst 0, 1) := by decide +kernel
theorem dL_law__748 : decode cL_law_ 748 = .ok (.laload, 1) := by decide +kernel
theorem dL_law__749 : decode cL_law_ 749 = .ok (.iload 6, 2) := by decide +kernel
theorem dL_law__751 : decode cL_law_ 751 = .ok (.i2l, 1) := by decide +kernel
theorem dL_law__752 : decode cL_law_ 752 = .ok (.lcmp, 1) := by decide +kernel
theorem dL_law__753 : decode cL_law_ 753 = .ok (.ifCond .eq 5, 3) := by decide +kernel
theorem dL_law__756 : decode cL_law_ 756 = .ok (.iconst 0, 1) := by decide +kernel
theorem dL_law__758 : decode cL_law_ 758 = .ok (.goto 2775, 3) := by decide +kernel
def m_L_case_5 (xs : Nat → Int) (L : Nat) (kc : Int → D9 → Option R9) (v4 : Int) (d : D9) : Option R9 := scr xs L (v4 + 1) (fun t1 => scr xs L (v4 + 2) (fun t2 => cz (m_L_of t1 t2 d) (fun r3 d4 => scr xs L (v4 + 1) (fun t5 => scr xs L (v4 + 2) (fun t6 => cz (m_X12_of_174 t5 t6 d4) (fun r7 d8 => cz (m_X12_thrown_174 d8) (fun r9 d10 => if w32 r9 = w32 r3 then if w32 r3 ≠ 0 then kc (v4 + 7) d10 else ld d10 194 1 0 (fun t11 => if w64 t11 = w64 (w32 r7) then kc (v4 + 7) d10 else none) else none)))))))
set_option maxRecDepth 100000 in
theorem s_L_case_5 {G : G9} {X : X9} (C : CX G X cL_law_ 8 RL [] zL9) (hNc : NC9 (xS X)) {b L : Nat} {xs : Nat → Int} (hSC : SCX G X b L xs) {k n : Nat} (hk : k + 12 ≤ 601024) (hn : n + 80 ≤ 7293034) (kc : Int → D9 → Option R9) (hkc : ∀ (v4 : Int) (d : D9), SS G X 8 (k + 12) (n + 80) 23 [(0, scf b), (1, rf G 0), (2, rf G 174), (3, rf G 194), (4, i9 v4)] [] d (kc v4 d)) : ∀ (v4 : Int) (d : D9), SS G X 8 k n 693 [(0, scf b), (1, rf G 0), (2, rf G 174), (3, rf G 194), (4, i9 v4)] [] d (m_L_case_5 xs L kc v4 d) := by
  intro v4 d
  unfold m_L_case_5
  refine r_aload_n C 1 dL_law__693 rfl rfl ?_
  refine r_aload_nC C 0 dL_law__694 rfl rfl ?_
  refine r_iload C 4 dL_law__695 rfl ?_
  refine r_iconst C dL_law__697 ?_
  refine r_iadd C dL_law__698 ?_
  refine r_scld C hSC dL_law__699 (fun t1 => ?_)
  refine r_aload_nC C 0 dL_law__700 rfl rfl ?_
  refine r_iload C 4 dL_law__701 rfl ?_
  refine r_iconst C dL_law__703 ?_
  refine r_iadd C dL_law__704 ?_
  refine r_scld C hSC dL_law__705 (fun t2 => ?_)
  refine r_aload_n C 3 dL_law__706 rfl rfl ?_
  refine r_callHL C hNc [rf G 194, i9 t2, i9 t1, rf G 0] dL_law__707 (t_L_of C.h1 C.h2 t1 t2 d) mwh_L_194 (by decide) (show k + 2 ≤ 601024 by omega) (show n + 12 ≤ 7293034 by omega) rfl rfl (Nat.le_of_ble_eq_true rfl) (fun r3 d4 => ?_)
  show SS G X 8 (k + 2) (n + 12) 710 [(0, scf b), (1, rf G 0), (2, rf G 174), (3, rf G 194), (4, i9 v4)] [i9 r3] d4 _
  refine r_istore C [(5, i9 r3), (0, scf b), (1, rf G 0), (2, rf G 174), (3, rf G 194), (4, i9 v4)] dL_law__710 (by decide) rfl ?_
  refine r_aload_n C 3 dL_law__712 rfl rfl ?_
  refine r_aload_nC C 1 dL_law__713 rfl rfl ?_
  refine r_iload C 5 dL_law__714 rfl ?_
  refine r_iconst C dL_law__716 ?_
  refine r_iadd C dL_law__717 ?_
  refine r_scld C hSC dL_law__718 (fun t5 => ?_)
  refine r_aload_nC C 1 dL_law__719 rfl rfl ?_
  refine r_iload C 5 dL_law__720 rfl ?_
  refine r_iconst C dL_law__722 ?_
  refine r_iadd C dL_law__723 ?_
  refine r_scld C hSC dL_law__724 (fun t6 => ?_)
  refine r_callVL C [i9 t6, i9 t5, rf G 174] dL_law__725 (t_X12_of_174 C.h1 C.h2 t5 t6 d4) mw_L_196 mv_X12_of la_174 ly_174 rfl (by decide) (show k + 2 + 0 ≤ 601024 by omega) (show n + 12 + 0 ≤ 7293034 by omega) rfl rfl (Nat.le_of_ble_eq_true rfl) (fun r7 d8 => ?_)
  show SS G X 8 (k + 2 + 0) (n + 12 + 0) 728 [(5, i9 r3), (0, scf b), (1, rf G 0), (2, rf G 174), (3, rf G 194), (4, i9 v4)] [i9 r7] d8 _
  refine r_istore C [(6, i9 r7), (5, i9 r3), (0, scf b), (1, rf G 0), (2, rf G 174), (3, rf G 194), (4, i9 v4)] dL_law__728 (by decide) rfl ?_
  refine r_aload_n C 4 dL_law__730 rfl rfl ?_
  refine r_callVL C [rf G 174] dL_law__731 (t_X12_thrown_174 C.h1 C.h2 d8) mw_L_175 mv_X12_thrown la_174 ly_174 rfl (by decide) (show k + 2 + 0 + 0 ≤ 601024 by omega) (show n + 12 + 0 + 0 ≤ 7293034 by omega) rfl rfl (Nat.le_of_ble_eq_true rfl) (fun r9 d10 => ?_)
  show SS G X 8 (k + 2 + 0 + 0) (n + 12 + 0 + 0) 734 [(6, i9 r7), (5, i9 r3), (0, scf b), (1, rf G 0), (2, rf G 174), (3, rf G 194), (4, i9 v4)] [i9 r9] d10 _
  refine r_iload C 1 dL_law__734 rfl ?_
  refine r_icmp_eq C 741 dL_law__736 (by decide) (fun _ => ?_) (fun _ => ?_)
  · refine r_iload C 1 dL_law__741 rfl ?_
    refine r_if_ne C (b := 0) 758 dL_law__743 (by decide) (fun _ => ?_) (fun _ => ?_)
    · refine r_goto C 3533 dL_law__758 (by decide) ?_
      refine r_iinc C 6 [(4, i9 (v4 + 7)), (6, i9 r7), (5, i9 r3), (0, scf b), (1, rf G 0), (2, rf G 174), (3, rf G 194)] dL_law__3533 rfl (by decide) rfl ?_
      refine r_goto C 23 dL_law__3536 (by decide) ?_
      refine ss_wide (k' := k + 12) (n' := n + 80) (show k + 2 + 0 + 0 ≤ k + 12 by omega) (show n + 12 + 0 + 0 ≤ n + 80 by omega) ?_
      refine ss_ls [(0, scf b), (1, rf G 0), (2, rf G 174), (3, rf G 194), (4, i9 (v4 + 7))] [3, 4, 5, 6, 0] rfl ?_
      exact hkc (v4 + 7) d10
    · refine r_aload_n C 5 dL_law__746 rfl rfl ?_
      refine r_iconst C dL_law__747 ?_
      refine r_lald C dL_law__748 la_194 ly_194 (fun t11 => ?_)
      refine r_iload C 0 dL_law__749 rfl ?_
      refine r_i2l C dL_law__751 ?_
      refine r_lcmp_eq C 758 dL_law__752 dL_law__753 (by decide) (fun _ => ?_) (fun _ => ?_)
      · refine r_goto C 3533 dL_law__758 (by decide) ?_
        refine r_iinc C 6 [(4, i9 (v4 + 7)), (6, i9 r7), (5, i9 r3), (0, scf b), (1, rf G 0), (2, rf G 174), (3, rf G 194)] dL_law__3533 rfl (by decide) rfl ?_
        refine r_goto C 23 dL_law__3536 (by decide) ?_
        refine ss_wide (k' := k + 12) (n' := n + 80) (show k + 2 + 0 + 0 ≤ k + 12 by omega) (show n + 12 + 0 + 0 ≤ n + 80 by omega) ?_
        refine ss_ls [(0, scf b), (1, rf G 0), (2, rf G 174), (3, rf G 194), (4, i9 (v4 + 7))] [3, 4, 5, 6, 0] rfl ?_
        exact hkc (v4 + 7) d10
      · refine r_iconst C dL_law__756 ?_
        exact ss_none
  · refine r_iconst C dL_law__739 ?_
    exact ss_none
theorem dL_law__761 : decode cL_law_ 761 = .ok (.aload_n 1, 1) := by decide +kernel
theorem dL_law__762 : decode cL_law_ 762 = .ok (.aload_n 0, 1) := by decide +kernel
theorem dL_law__763 : decode cL_law_ 763 = .ok (.iload 4, 2) := by decide +kernel
theorem dL_law__765 : decode cL_law_ 765 = .ok (.iconst 1, 1) := by decide +kernel
theorem dL_law__766 : decode cL_law_ 766 = .ok (.iadd, 1) := by decide +kernel
theorem dL_law__767 : decode cL_law_ 767 = .ok (.iaload, 1) := by decide +kernel
theorem dL_law__768 : decode cL_law_ 768 = .ok (.aload_n 0, 1) := by decide +kernel
theorem dL_law__769 : decode cL_law_ 769 = .ok (.iload 4, 2) := by decide +kernel
theorem dL_law__771 : decode cL_law_ 771 = .ok (.iconst 2, 1) := by decide +kernel
theorem dL_law__772 : decode cL_law_ 772 = .ok (.iadd, 1) := by decide +kernel
theorem dL_law__773 : decode cL_law_ 773 = .ok (.iaload, 1) := by decide +kernel
theorem dL_law__774 : decode cL_law_ 774 = .ok (.aload_n 0, 1) := by decide +kernel
theorem dL_law__775 : decode cL_law_ 775 = .ok (.iload 4, 2) := by decide +kernel
theorem dL_law__777 : decode cL_law_ 777 = .ok (.iconst 3, 1) := by decide +kernel
theorem dL_law__778 : decode cL_law_ 778 = .ok (.iadd, 1) := by decide +kernel
theorem dL_law__779 : decode cL_law_ 779 = .ok (.iaload, 1) := by decide +kernel
theorem dL_law__780 : decode cL_law_ 780 = .ok (.aload_n 0, 1) := by decide +kernel
theorem dL_law__781 : decode cL_law_ 781 = .ok (.iload 4, 2) := by decide +kernel
theorem dL_law__783 : decode cL_law_ 783 = .ok (.iconst 4, 1) := by decide +kernel
theorem dL_law__784 : decode cL_law_ 784 = .ok (.iadd, 1) := by decide +kernel
theorem dL_law__785 : decode cL_law_ 785 = .ok (.iaload, 1) := by decide +kernel
theorem dL_law__786 : decode cL_law_ 786 = .ok (.aload_n 0, 1) := by decide +kernel
theorem dL_law__787 : decode cL_law_ 787 = .ok (.iload 4, 2) := by decide +kernel
theorem dL_law__789 : decode cL_law_ 789 = .ok (.iconst 5, 1) := by decide +kernel
theorem dL_law__790 : decode cL_law_ 790 = .ok (.iadd, 1) := by decide +kernel
theorem dL_law__791 : decode cL_law_ 791 = .ok (.iaload, 1) := by decide +kernel
theorem dL_law__792 : decode cL_law_ 792 = .ok (.invokevirtual 197, 3) := by decide +kernel
theorem dL_law__795 : decode cL_law_ 795 = .ok (.aload_n 2, 1) := by decide +kernel
theorem dL_law__796 : decode cL_law_ 796 = .ok (.aload_n 0, 1) := by decide +kernel
theorem dL_law__797 : decode cL_law_ 797 = .ok (.iload 4, 2) := by decide +kernel
theorem dL_law__799 : decode cL_law_ 799 = .ok (.iconst 1, 1) := by decide +kernel
theorem dL_law__800 : decode cL_law_ 800 = .ok (.iadd, 1) := by decide +kernel
theorem dL_law__801 : decode cL_law_ 801 = .ok (.iaload, 1) := by decide +kernel
theorem dL_law__802 : decode cL_law_ 802 = .ok (.aload_n 0, 1) := by decide +kernel
theorem dL_law__803 : decode cL_law_ 803 = .ok (.iload 4, 2) := by decide +kernel
theorem dL_law__805 : decode cL_law_ 805 = .ok (.iconst 2, 1) := by decide +kernel
theorem dL_law__806 : decode cL_law_ 806 = .ok (.iadd, 1) := by decide +kernel
theorem dL_law__807 : decode cL_law_ 807 = .ok (.iaload, 1) := by decide +kernel
theorem dL_law__808 : decode cL_law_ 808 = .ok (.aload_n 0, 1) := by decide +kernel
theorem dL_law__809 : decode cL_law_ 809 = .ok (.iload 4, 2) := by decide +kernel
theorem dL_law__811 : decode cL_law_ 811 = .ok (.iconst 3, 1) := by decide +kernel
theorem dL_law__812 : decode cL_law_ 812 = .ok (.iadd, 1) := by decide +kernel
theorem dL_law__813 : decode cL_law_ 813 = .ok (.iaload, 1) := by decide +kernel
theorem dL_law__814 : decode cL_law_ 814 = .ok (.aload_n 0, 1) := by decide +kernel
theorem dL_law__815 : decode cL_law_ 815 = .ok (.iload 4, 2) := by decide +kernel
theorem dL_law__817 : decode cL_law_ 817 = .ok (.iconst 4, 1) := by decide +kernel
theorem dL_law__818 : decode cL_law_ 818 = .ok (.iadd, 1) := by decide +kernel
theorem dL_law__819 : decode cL_law_ 819 = .ok (.iaload, 1) := by decide +kernel
theorem dL_law__820 : decode cL_law_ 820 = .ok (.aload_n 0, 1) := by decide +kernel
theorem dL_law__821 : decode cL_law_ 821 = .ok (.iload 4, 2) := by decide +kernel
theorem dL_law__823 : decode cL_law_ 823 = .ok (.iconst 5, 1) := by decide +kernel
theorem dL_law__824 : decode cL_law_ 824 = .ok (.iadd, 1) := by decide +kernel
theorem dL_law__825 : decode cL_law_ 825 = .ok (.iaload, 1) := by decide +kernel
theorem dL_law__826 : decode cL_law_ 826 = .ok (.invokevirtual 200, 3) := by decide +kernel
theorem dL_law__829 : decode cL_law_ 829 = .ok (.if_icmp .eq 2704, 3) := by decide +kernel
theorem dL_law__832 : decode cL_law_ 832 = .ok (.iconst 0, 1) := by decide +kernel
def m_L_case_6 (xs : Nat → Int) (L : Nat) (kc : Int → D9 → Option R9) (v4 : Int) (d : D9) : Option R9 := scr xs L (v4 + 1) (fun t1 => scr xs L (v4 + 2) (fun t2 => scr xs L (v4 + 3) (fun t3 => scr xs L (v4 + 4) (fun t4 => scr xs L (v4 + 5) (fun t5 => cz (m_X11_feed_0 t1 t2 t3 t4 t5 d) (fun r6 d7 => scr xs L (v4 + 1) (fun t8 => scr xs L (v4 + 2) (fun t9 => scr xs L (v4 + 3) (fun t10 => scr xs L (v4 + 4) (fun t11 => scr xs L (v4 + 5) (fun t12 => cz (m_X12_feed_174 t8 t9 t10 t11 t12 d7) (fun r13 d14 => if w32 r6 = w32 r13 then kc (v4 + 7) d14 else none))))))))))))
set_option maxRecDepth 100000 in
theorem s_L_case_6 {G : G9} {X : X9} (C : CX G X cL_law_ 8 RL [] zL9) (hNc : NC9 (xS X)) {b L : Nat} {xs : Nat → Int} (hSC : SCX G X b L xs) {k n : Nat} (hk : k + 12 ≤ 601024) (hn : n + 80 ≤ 7293034) (kc : Int → D9 → Option R9) (hkc : ∀ (v4 : Int) (d : D9), SS G X 8 (k + 12) (n + 80) 23 [(0, scf b), (1, rf G 0), (2, rf G 174), (3, rf G 194), (4, i9 v4)] [] d (kc v4 d)) : ∀ (v4 : Int) (d : D9), SS G X 8 k n 761 [(0, scf b), (1, rf G 0), (2, rf G 174), (3, rf G 194), (4, i9 v4)] [] d (m_L_case_6 xs L kc v4 d) := by
  intro v4 d
  unfold m_L_case_6
  refine r_aload_n C 1 dL_law__761 rfl rfl ?_
  refine r_aload_nC C 0 dL_law__762 rfl rfl ?_
  refine r_iload C 4 dL_law__763 rfl ?_
  refine r_iconst C dL_law__765 ?_
  refine r_iadd C dL_law__766 ?_
  refine r_scld C hSC dL_law__767 (fun t1 => ?_)
  refine r_aload_nC C 0 dL_law__768 rfl rfl ?_
  refine r_iload C 4 dL_law__769 rfl ?_
  refine r_iconst C dL_law__771 ?_
  refine r_iadd C dL_law__772 ?_
  refine r_scld C hSC dL_law__773 (fun t2 => ?_)
  refine r_aload_nC C 0 dL_law__774 rfl rfl ?_
  refine r_iload C 4 dL_law__775 rfl ?_
  refine r_iconst C dL_law__777 ?_
  refine r_iadd C dL_law__778 ?_
  refine r_scld C hSC dL_law__779 (fun t3 => ?_)
  refine r_aload_nC C 0 dL_law__780 rfl rfl ?_
  refine r_iload C 4 dL_law__781 rfl ?_
  refine r_iconst C dL_law__783 ?_
  refine r_iadd C dL_law__784 ?_
  refine r_scld C hSC dL_law__785 (fun t4 => ?_)
  refine r_aload_nC C 0 dL_law__786 rfl rfl ?_
  refine r_iload C 4 dL_law__787 rfl ?_
  refine r_iconst C dL_law__789 ?_
  refine r_iadd C dL_law__790 ?_
  refine r_scld C hSC dL_law__791 (fun t5 => ?_)
  refine r_callVL C [i9 t5, i9 t4, i9 t3, i9 t2, i9 t1, rf G 0] dL_law__792 (t_X11_feed_0 C.h1 C.h2 t1 t2 t3 t4 t5 d) mw_L_197 mv_X11_feed la_0 ly_0 rfl (by decide) (show k + 0 ≤ 601024 by omega) (show n + 0 ≤ 7293034 by omega) rfl rfl (Nat.le_of_ble_eq_true rfl) (fun r6 d7 => ?_)
  show SS G X 8 (k + 0) (n + 0) 795 [(0, scf b), (1, rf G 0), (2, rf G 174), (3, rf G 194), (4, i9 v4)] [i9 r6] d7 _
  refine r_aload_n C 2 dL_law__795 rfl rfl ?_
  refine r_aload_nC C 0 dL_law__796 rfl rfl ?_
  refine r_iload C 4 dL_law__797 rfl ?_
  refine r_iconst C dL_law__799 ?_
  refine r_iadd C dL_law__800 ?_
  refine r_scld C hSC dL_law__801 (fun t8 => ?_)
  refine r_aload_nC C 0 dL_law__802 rfl rfl ?_
  refine r_iload C 4 dL_law__803 rfl ?_
  refine r_iconst C dL_law__805 ?_
  refine r_iadd C dL_law__806 ?_
  refine r_scld C hSC dL_law__807 (fun t9 => ?_)
  refine r_aload_nC C 0 dL_law__808 rfl rfl ?_
  refine r_iload C 4 dL_law__809 rfl ?_
  refine r_iconst C dL_law__811 ?_
  refine r_iadd C dL_law__812 ?_
  refine r_scld C hSC dL_law__813 (fun t10 => ?_)
  refine r_aload_nC C 0 dL_law__814 rfl rfl ?_
  refine r_iload C 4 dL_law__815 rfl ?_
  refine r_iconst C dL_law__817 ?_
  refine r_iadd C dL_law__818 ?_
  refine r_scld C hSC dL_law__819 (fun t11 => ?_)
  refine r_aload_nC C 0 dL_law__820 rfl rfl ?_
  refine r_iload C 4 dL_law__821 rfl ?_
  refine r_iconst C dL_law__823 ?_
  refine r_iadd C dL_law__824 ?_
  refine r_scld C hSC dL_law__825 (fun t12 => ?_)
  refine r_callVL C [i9 t12, i9 t11, i9 t10, i9 t9, i9 t8, rf G 174, i9 r6] dL_law__826 (t_X12_feed_174 C.h1 C.h2 t8 t9 t10 t11 t12 d7) mw_L_200 mv_X12_feed la_174 ly_174 rfl (by decide) (show k + 0 + 0 ≤ 601024 by omega) (show n + 0 + 0 ≤ 7293034 by omega) rfl rfl (Nat.le_of_ble_eq_true rfl) (fun r13 d14 => ?_)
  show SS G X 8 (k + 0 + 0) (n + 0 + 0) 829 [(0, scf b), (1, rf G 0), (2, rf G 174), (3, rf G 194), (4, i9 v4)] [i9 r13, i9 r6] d14 _
  refine r_icmp_eq C 3533 dL_law__829 (by decide) (fun _ => ?_) (fun _ => ?_)
  · refine r_iinc C 4 [(4, i9 (v4 + 7)), (0, scf b), (1, rf G 0), (2, rf G 174), (3, rf G 194)] dL_law__3533 rfl (by decide) rfl ?_
    refine r_goto C 23 dL_law__3536 (by decide) ?_
    refine ss_wide (k' := k + 12) (n' := n + 80) (show k + 0 + 0 ≤ k + 12 by omega) (show n + 0 + 0 ≤ n + 80 by omega) ?_
    refine ss_ls [(0, scf b), (1, rf G 0), (2, rf G 174), (3, rf G 194), (4, i9 (v4 + 7))] [1, 2, 3, 4, 0] rfl ?_
    exact hkc (v4 + 7) d14
  · refine r_iconst C dL_law__832 ?_
    exact ss_none
theorem dL_law__834 : decode cL_law_ 834 = .ok (.aload_n 1, 1) := by decide +kernel
theorem dL_law__835 : decode cL_law_ 835 = .ok (.aload_n 0, 1) := by decide +kernel
theorem dL_law__836 : decode cL_law_ 836 = .ok (.iload 4, 2) := by decide +kernel
theorem dL_law__838 : decode cL_law_ 838 = .ok (.iconst 1, 1) := by decide +kernel
theorem dL_law__839 : decode cL_law_ 839 = .ok (.iadd, 1) := by decide +kernel
theorem dL_law__840 : decode cL_law_ 840 = .ok (.iaload, 1) := by decide +kernel
theorem dL_law__841 : decode cL_law_ 841 = .ok (.aload_n 3, 1) := by decide +kernel
theorem dL_law__842 : decode cL_law_ 842 = .ok (.invokestatic 201, 3) := by decide +kernel
theorem dL_law__845 : decode cL_law_ 845 = .ok (.istore 5, 2) := by decide +kernel
theorem dL_law__847 : decode cL_law_ 847 = .ok (.aload_n 2, 1) := by decide +kernel
theorem dL_law__848 : decode cL_law_ 848 = .ok (.aload_n 0, 1) := by decide +kernel
theorem dL_law__849 : decode cL_law_ 849 = .ok (.iload 4, 2) := by decide +kernel
theorem dL_law__851 : decode cL_law_ 851 = .ok (.iconst 1, 1) := by decide +kernel
theorem dL_law__852 : decode cL_law_ 852 = .ok (.iadd, 1) := by decide +kernel
theorem dL_law__853 : decode cL_law_ 853 = .ok (.iaload, 1) := by decide +kernel
theorem dL_law__854 : decode cL_law_ 854 = .ok (.invokevirtual 204, 3) := by decide +kernel
theorem dL_law__857 : decode cL_law_ 857 = .ok (.istore 6, 2) := by decide +kernel
theorem dL_law__859 : decode cL_law_ 859 = .ok (.aload_n 2, 1) := by decide +kernel
theorem dL_law__860 : decode cL_law_ 860 = .ok (.invokevirtual 175, 3) := by decide +kernel
theorem dL_law__863 : decode cL_law_ 863 = .ok (.iload 5, 2) := by decide +kernel
theorem dL_law__865 : decode cL_law_ 865 = .ok (.if_icmp .eq 5, 3) := by decide +kernel
theorem dL_law__868 : decode cL_law_ 868 = .ok (.iconst 0, 1) := by decide +kernel
theorem dL_law__870 : decode cL_law_ 870 = .ok (.iload 5, 2) := by decide +kernel
theorem dL_law__872 : decode cL_law_ 872 = .ok (.ifCond .ne 15, 3) := by decide +kernel
theorem dL_law__875 : decode cL_law_ 875 = .ok (.aload_n 3, 1) := by decide +kernel
theorem dL_law__876 : decode cL_law_ 876 = .ok (.iconst 0, 1) := by decide +kernel
theorem dL_law__877 : decode cL_law_ 877 = .ok (.laload, 1) := by decide +kernel
theorem dL_law__878 : decode cL_law_ 878 = .ok (.iload 6, 2) := by decide +kernel
theorem dL_law__880 : decode cL_law_ 880 = .ok (.i2l, 1) := by decide +kernel
theorem dL_law__881 : decode cL_law_ 881 = .ok (.lcmp, 1) := by decide +kernel
theorem dL_law__882 : decode cL_law_ 882 = .ok (.ifCond .eq 5, 3) := by decide +kernel
theorem dL_law__885 : decode cL_law_ 885 = .ok (.iconst 0, 1) := by decide +kernel
theorem dL_law__887 : decode cL_law_ 887 = .ok (.goto 2646, 3) := by decide +kernel
def m_L_case_7 (xs : Nat → Int) (L : Nat) (kc : Int → D9 → Option R9) (v4 : Int) (d : D9) : Option R9 := scr xs L (v4 + 1) (fun t1 => cz (m_L_law t1 d) (fun r2 d3 => scr xs L (v4 + 1) (fun t4 => cz (m_X12_law_174 t4 d3) (fun r5 d6 => cz (m_X12_thrown_174 d6) (fun r7 d8 => if w32 r7 = w32 r2 then if w32 r2 ≠ 0 then kc (v4 + 7) d8 else ld d8 194 1 0 (fun t9 => if w64 t9 = w64 (w32 r5) then kc (v4 + 7) d8 else none) else none)))))
set_option maxRecDepth 100000 in
theorem s_L_case_7 {G : G9} {X : X9} (C : CX G X cL_law_ 8 RL [] zL9) (hNc : NC9 (xS X)) {b L : Nat} {xs : Nat → Int} (hSC : SCX G X b L xs) {k n : Nat} (hk : k + 12 ≤ 601024) (hn : n + 80 ≤ 7293034) (kc : Int → D9 → Option R9) (hkc : ∀ (v4 : Int) (d : D9), SS G X 8 (k + 12) (n + 80) 23 [(0, scf b), (1, rf G 0), (2, rf G 174), (3, rf G 194), (4, i9 v4)] [] d (kc v4 d)) : ∀ (v4 : Int) (d : D9), SS G X 8 k n 834 [(0, scf b), (1, rf G 0), (2, rf G 174), (3, rf G 194), (4, i9 v4)] [] d (m_L_case_7 xs L kc v4 d) := by
  intro v4 d
  unfold m_L_case_7
  refine r_aload_n C 1 dL_law__834 rfl rfl ?_
  refine r_aload_nC C 0 dL_law__835 rfl rfl ?_
  refine r_iload C 4 dL_law__836 rfl ?_
  refine r_iconst C dL_law__838 ?_
  refine r_iadd C dL_law__839 ?_
  refine r_scld C hSC dL_law__840 (fun t1 => ?_)
  refine r_aload_n C 3 dL_law__841 rfl rfl ?_
  refine r_callHL C hNc [rf G 194, i9 t1, rf G 0] dL_law__842 (t_L_law C.h1 C.h2 t1 d) mwh_L_201 (by decide) (show k + 1 ≤ 601024 by omega) (show n + 6 ≤ 7293034 by omega) rfl rfl (Nat.le_of_ble_eq_true rfl) (fun r2 d3 => ?_)
  show SS G X 8 (k + 1) (n + 6) 845 [(0, scf b), (1, rf G 0), (2, rf G 174), (3, rf G 194), (4, i9 v4)] [i9 r2] d3 _
  refine r_istore C [(5, i9 r2), (0, scf b), (1, rf G 0), (2, rf G 174), (3, rf G 194), (4, i9 v4)] dL_law__845 (by decide) rfl ?_
  refine r_aload_n C 3 dL_law__847 rfl rfl ?_
  refine r_aload_nC C 1 dL_law__848 rfl rfl ?_
  refine r_iload C 5 dL_law__849 rfl ?_
  refine r_iconst C dL_law__851 ?_
  refine r_iadd C dL_law__852 ?_
  refine r_scld C hSC dL_law__853 (fun t4 => ?_)
  refine r_callVL C [i9 t4, rf G 174] dL_law__854 (t_X12_law_174 C.h1 C.h2 t4 d3) mw_L_204 mv_X12_law la_174 ly_174 rfl (by decide) (show k + 1 + 0 ≤ 601024 by omega) (show n + 6 + 0 ≤ 7293034 by omega) rfl rfl (Nat.le_of_ble_eq_true rfl) (fun r5 d6 => ?_)
  show SS G X 8 (k + 1 + 0) (n + 6 + 0) 857 [(5, i9 r2), (0, scf b), (1, rf G 0), (2, rf G 174), (3, rf G 194), (4, i9 v4)] [i9 r5] d6 _
  refine r_istore C [(6, i9 r5), (5, i9 r2), (0, scf b), (1, rf G 0), (2, rf G 174), (3, rf G 194), (4, i9 v4)] dL_law__857 (by decide) rfl ?_
  refine r_aload_n C 4 dL_law__859 rfl rfl ?_
  refine r_callVL C [rf G 174] dL_law__860 (t_X12_thrown_174 C.h1 C.h2 d6) mw_L_175 mv_X12_thrown la_174 ly_174 rfl (by decide) (show k + 1 + 0 + 0 ≤ 601024 by omega) (show n + 6 + 0 + 0 ≤ 7293034 by omega) rfl rfl (Nat.le_of_ble_eq_true rfl) (fun r7 d8 => ?_)
  show SS G X 8 (k + 1 + 0 + 0) (n + 6 + 0 + 0) 863 [(6, i9 r5), (5, i9 r2), (0, scf b), (1, rf G 0), (2, rf G 174), (3, rf G 194), (4, i9 v4)] [i9 r7] d8 _
  refine r_iload C 1 dL_law__863 rfl ?_
  refine r_icmp_eq C 870 dL_law__865 (by decide) (fun _ => ?_) (fun _ => ?_)
  · refine r_iload C 1 dL_law__870 rfl ?_
    refine r_if_ne C (b := 0) 887 dL_law__872 (by decide) (fun _ => ?_) (fun _ => ?_)
    · refine r_goto C 3533 dL_law__887 (by decide) ?_
      refine r_iinc C 6 [(4, i9 (v4 + 7)), (6, i9 r5), (5, i9 r2), (0, scf b), (1, rf G 0), (2, rf G 174), (3, rf G 194)] dL_law__3533 rfl (by decide) rfl ?_
      refine r_goto C 23 dL_law__3536 (by decide) ?_
      refine ss_wide (k' := k + 12) (n' := n + 80) (show k + 1 + 0 + 0 ≤ k + 12 by omega) (show n + 6 + 0 + 0 ≤ n + 80 by omega) ?_
      refine ss_ls [(0, scf b), (1, rf G 0), (2, rf G 174), (3, rf G 194), (4, i9 (v4 + 7))] [3, 4, 5, 6, 0] rfl ?_
      exact hkc (v4 + 7) d8
    · refine r_aload_n C 5 dL_law__875 rfl rfl ?_
      refine r_iconst C dL_law__876 ?_
      refine r_lald C dL_law__877 la_194 ly_194 (fun t9 => ?_)
      refine r_iload C 0 dL_law__878 rfl ?_
      refine r_i2l C dL_law__880 ?_
      refine r_lcmp_eq C 887 dL_law__881 dL_law__882 (by decide) (fun _ => ?_) (fun _ => ?_)
      · refine r_goto C 3533 dL_law__887 (by decide) ?_
        refine r_iinc C 6 [(4, i9 (v4 + 7)), (6, i9 r5), (5, i9 r2), (0, scf b), (1, rf G 0), (2, rf G 174), (3, rf G 194)] dL_law__3533 rfl (by decide) rfl ?_
        refine r_goto C 23 dL_law__3536 (by decide) ?_
        refine ss_wide (k' := k + 12) (n' := n + 80) (show k + 1 + 0 + 0 ≤ k + 12 by omega) (show n + 6 + 0 + 0 ≤ n + 80 by omega) ?_
        refine ss_ls [(0, scf b), (1, rf G 0), (2, rf G 174), (3, rf G 194), (4, i9 (v4 + 7))] [3, 4, 5, 6, 0] rfl ?_
        exact hkc (v4 + 7) d8
      · refine r_iconst C dL_law__885 ?_
        exact ss_none
  · refine r_iconst C dL_law__868 ?_
    exact ss_none
theorem dL_law__890 : decode cL_law_ 890 = .ok (.aload_n 1, 1) := by decide +kernel
theorem dL_law__891 : decode cL_law_ 891 = .ok (.aload_n 0, 1) := by decide +kernel
theorem dL_law__892 : decode cL_law_ 892 = .ok (.iload 4, 2) := by decide +kernel
theorem dL_law__894 : decode cL_law_ 894 = .ok (.iconst 1, 1) := by decide +kernel
theorem dL_law__895 : decode cL_law_ 895 = .ok (.iadd, 1) := by decide +kernel
theorem dL_law__896 : decode cL_law_ 896 = .ok (.iaload, 1) := by decide +kernel
theorem dL_law__897 : decode cL_law_ 897 = .ok (.aload_n 3, 1) := by decide +kernel
theorem dL_law__898 : decode cL_law_ 898 = .ok (.invokestatic 205, 3) := by decide +kernel
theorem dL_law__901 : decode cL_law_ 901 = .ok (.istore 5, 2) := by decide +kernel
theorem dL_law__903 : decode cL_law_ 903 = .ok (.aload_n 2, 1) := by decide +kernel
theorem dL_law__904 : decode cL_law_ 904 = .ok (.aload_n 0, 1) := by decide +kernel
theorem dL_law__905 : decode cL_law_ 905 = .ok (.iload 4, 2) := by decide +kernel
theorem dL_law__907 : decode cL_law_ 907 = .ok (.iconst 1, 1) := by decide +kernel
theorem dL_law__908 : decode cL_law_ 908 = .ok (.iadd, 1) := by decide +kernel
theorem dL_law__909 : decode cL_law_ 909 = .ok (.iaload, 1) := by decide +kernel
theorem dL_law__910 : decode cL_law_ 910 = .ok (.invokevirtual 207, 3) := by decide +kernel
theorem dL_law__913 : decode cL_law_ 913 = .ok (.istore 6, 2) := by decide +kernel
theorem dL_law__915 : decode cL_law_ 915 = .ok (.aload_n 2, 1) := by decide +kernel
theorem dL_law__916 : decode cL_law_ 916 = .ok (.invokevirtual 175, 3) := by decide +kernel
theorem dL_law__919 : decode cL_law_ 919 = .ok (.iload 5, 2) := by decide +kernel
theorem dL_law__921 : decode cL_law_ 921 = .ok (.if_icmp .eq 5, 3) := by decide +kernel
theorem dL_law__924 : decode cL_law_ 924 = .ok (.iconst 0, 1) := by decide +kernel
theorem dL_law__926 : decode cL_law_ 926 = .ok (.iload 5, 2) := by decide +kernel
theorem dL_law__928 : decode cL_law_ 928 = .ok (.ifCond .ne 15, 3) := by decide +kernel
theorem dL_law__931 : decode cL_law_ 931 = .ok (.aload_n 3, 1) := by decide +kernel
theorem dL_law__932 : decode cL_law_ 932 = .ok (.iconst 0, 1) := by decide +kernel
theorem dL_law__933 : decode cL_law_ 933 = .ok (.laload, 1) := by decide +kernel
theorem dL_law__934 : decode cL_law_ 934 = .ok (.iload 6, 2) := by decide +kernel
theorem dL_law__936 : decode cL_law_ 936 = .ok (.i2l, 1) := by decide +kernel
theorem dL_law__937 : decode cL_law_ 937 = .ok (.lcmp, 1) := by decide +kernel
theorem dL_law__938 : decode cL_law_ 938 = .ok (.ifCond .eq 5, 3) := by decide +kernel
theorem dL_law__941 : decode cL_law_ 941 = .ok (.iconst 0, 1) := by decide +kernel
theorem dL_law__943 : decode cL_law_ 943 = .ok (.goto 2590, 3) := by decide +kernel
def m_L_case_8 (xs : Nat → Int) (L : Nat) (kc : Int → D9 → Option R9) (v4 : Int) (d : D9) : Option R9 := scr xs L (v4 + 1) (fun t1 => cz (m_L_stories t1 d) (fun r2 d3 => scr xs L (v4 + 1) (fun t4 => cz (m_X12_stories_174 t4 d3) (fun r5 d6 => cz (m_X12_thrown_174 d6) (fun r7 d8 => if w32 r7 = w32 r2 then if w32 r2 ≠ 0 then kc (v4 + 7) d8 else ld d8 194 1 0 (fun t9 => if w64 t9 = w64 (w32 r5) then kc (v4 + 7) d8 else none) else none)))))
set_option maxRecDepth 100000 in
theorem s_L_case_8 {G : G9} {X : X9} (C : CX G X cL_law_ 8 RL [] zL9) (hNc : NC9 (xS X)) {b L : Nat} {xs : Nat → Int} (hSC : SCX G X b L xs) {k n : Nat} (hk : k + 12 ≤ 601024) (hn : n + 80 ≤ 7293034) (kc : Int → D9 → Option R9) (hkc : ∀ (v4 : Int) (d : D9), SS G X 8 (k + 12) (n + 80) 23 [(0, scf b), (1, rf G 0), (2, rf G 174), (3, rf G 194), (4, i9 v4)] [] d (kc v4 d)) : ∀ (v4 : Int) (d : D9), SS G X 8 k n 890 [(0, scf b), (1, rf G 0), (2, rf G 174), (3, rf G 194), (4, i9 v4)] [] d (m_L_case_8 xs L kc v4 d) := by
  intro v4 d
  unfold m_L_case_8
  refine r_aload_n C 1 dL_law__890 rfl rfl ?_
  refine r_aload_nC C 0 dL_law__891 rfl rfl ?_
  refine r_iload C 4 dL_law__892 rfl ?_
  refine r_iconst C dL_law__894 ?_
  refine r_iadd C dL_law__895 ?_
  refine r_scld C hSC dL_law__896 (fun t1 => ?_)
  refine r_aload_n C 3 dL_law__897 rfl rfl ?_
  refine r_callHL C hNc [rf G 194, i9 t1, rf G 0] dL_law__898 (t_L_stories C.h1 C.h2 t1 d) mwh_L_205 (by decide) (show k + 1 ≤ 601024 by omega) (show n + 6 ≤ 7293034 by omega) rfl rfl (Nat.le_of_ble_eq_true rfl) (fun r2 d3 => ?_)
  show SS G X 8 (k + 1) (n + 6) 901 [(0, scf b), (1, rf G 0), (2, rf G 174), (3, rf G 194), (4, i9 v4)] [i9 r2] d3 _
  refine r_istore C [(5, i9 r2), (0, scf b), (1, rf G 0), (2, rf G 174), (3, rf G 194), (4, i9 v4)] dL_law__901 (by decide) rfl ?_
  refine r_aload_n C 3 dL_law__903 rfl rfl ?_
  refine r_aload_nC C 1 dL_law__904 rfl rfl ?_
  refine r_iload C 5 dL_law__905 rfl ?_
  refine r_iconst C dL_law__907 ?_
  refine r_iadd C dL_law__908 ?_
  refine r_scld C hSC dL_law__909 (fun t4 => ?_)
  refine r_callVL C [i9 t4, rf G 174] dL_law__910 (t_X12_stories_174 C.h1 C.h2 t4 d3) mw_L_207 mv_X12_stories la_174 ly_174 rfl (by decide) (show k + 1 + 0 ≤ 601024 by omega) (show n + 6 + 0 ≤ 7293034 by omega) rfl rfl (Nat.le_of_ble_eq_true rfl) (fun r5 d6 => ?_)
  show SS G X 8 (k + 1 + 0) (n + 6 + 0) 913 [(5, i9 r2), (0, scf b), (1, rf G 0), (2, rf G 174), (3, rf G 194), (4, i9 v4)] [i9 r5] d6 _
  refine r_istore C [(6, i9 r5), (5, i9 r2), (0, scf b), (1, rf G 0), (2, rf G 174), (3, rf G 194), (4, i9 v4)] dL_law__913 (by decide) rfl ?_
  refine r_aload_n C 4 dL_law__915 rfl rfl ?_
  refine r_callVL C [rf G 174] dL_law__916 (t_X12_thrown_174 C.h1 C.h2 d6) mw_L_175 mv_X12_thrown la_174 ly_174 rfl (by decide) (show k + 1 + 0 + 0 ≤ 601024 by omega) (show n + 6 + 0 + 0 ≤ 7293034 by omega) rfl rfl (Nat.le_of_ble_eq_true rfl) (fun r7 d8 => ?_)
  show SS G X 8 (k + 1 + 0 + 0) (n + 6 + 0 + 0) 919 [(6, i9 r5), (5, i9 r2), (0, scf b), (1, rf G 0), (2, rf G 174), (3, rf G 194), (4, i9 v4)] [i9 r7] d8 _
  refine r_iload C 1 dL_law__919 rfl ?_
  refine r_icmp_eq C 926 dL_law__921 (by decide) (fun _ => ?_) (fun _ => ?_)
  · refine r_iload C 1 dL_law__926 rfl ?_
    refine r_if_ne C (b := 0) 943 dL_law__928 (by decide) (fun _ => ?_) (fun _ => ?_)
    · refine r_goto C 3533 dL_law__943 (by decide) ?_
      refine r_iinc C 6 [(4, i9 (v4 + 7)), (6, i9 r5), (5, i9 r2), (0, scf b), (1, rf G 0), (2, rf G 174), (3, rf G 194)] dL_law__3533 rfl (by decide) rfl ?_
      refine r_goto C 23 dL_law__3536 (by decide) ?_
      refine ss_wide (k' := k + 12) (n' := n + 80) (show k + 1 + 0 + 0 ≤ k + 12 by omega) (show n + 6 + 0 + 0 ≤ n + 80 by omega) ?_
      refine ss_ls [(0, scf b), (1, rf G 0), (2, rf G 174), (3, rf G 194), (4, i9 (v4 + 7))] [3, 4, 5, 6, 0] rfl ?_
      exact hkc (v4 + 7) d8
    · refine r_aload_n C 5 dL_law__931 rfl rfl ?_
      refine r_iconst C dL_law__932 ?_
      refine r_lald C dL_law__933 la_194 ly_194 (fun t9 => ?_)
      refine r_iload C 0 dL_law__934 rfl ?_
      refine r_i2l C dL_law__936 ?_
      refine r_lcmp_eq C 943 dL_law__937 dL_law__938 (by decide) (fun _ => ?_) (fun _ => ?_)
      · refine r_goto C 3533 dL_law__943 (by decide) ?_
        refine r_iinc C 6 [(4, i9 (v4 + 7)), (6, i9 r5), (5, i9 r2), (0, scf b), (1, rf G 0), (2, rf G 174), (3, rf G 194)] dL_law__3533 rfl (by decide) rfl ?_
        refine r_goto C 23 dL_law__3536 (by decide) ?_
        refine ss_wide (k' := k + 12) (n' := n + 80) (show k + 1 + 0 + 0 ≤ k + 12 by omega) (show n + 6 + 0 + 0 ≤ n + 80 by omega) ?_
        refine ss_ls [(0, scf b), (1, rf G 0), (2, rf G 174), (3, rf G 194), (4, i9 (v4 + 7))] [3, 4, 5, 6, 0] rfl ?_
        exact hkc (v4 + 7) d8
      · refine r_iconst C dL_law__941 ?_
        exact ss_none
  · refine r_iconst C dL_law__924 ?_
    exact ss_none
theorem dL_law__946 : decode cL_law_ 946 = .ok (.aload_n 1, 1) := by decide +kernel
theorem dL_law__947 : decode cL_law_ 947 = .ok (.aload_n 0, 1) := by decide +kernel
theorem dL_law__948 : decode cL_law_ 948 = .ok (.iload 4, 2) := by decide +kernel
theorem dL_law__950 : decode cL_law_ 950 = .ok (.iconst 1, 1) := by decide +kernel
theorem dL_law__951 : decode cL_law_ 951 = .ok (.iadd, 1) := by decide +kernel
theorem dL_law__952 : decode cL_law_ 952 = .ok (.iaload, 1) := by decide +kernel
theorem dL_law__953 : decode cL_law_ 953 = .ok (.aload_n 3, 1) := by decide +kernel
theorem dL_law__954 : decode cL_law_ 954 = .ok (.invokestatic 208, 3) := by decide +kernel
theorem dL_law__957 : decode cL_law_ 957 = .ok (.istore 5, 2) := by decide +kernel
theorem dL_law__959 : decode cL_law_ 959 = .ok (.aload_n 2, 1) := by decide +kernel
theorem dL_law__960 : decode cL_law_ 960 = .ok (.aload_n 0, 1) := by decide +kernel
theorem dL_law__961 : decode cL_law_ 961 = .ok (.iload 4, 2) := by decide +kernel
theorem dL_law__963 : decode cL_law_ 963 = .ok (.iconst 1, 1) := by decide +kernel
theorem dL_law__964 : decode cL_law_ 964 = .ok (.iadd, 1) := by decide +kernel
theorem dL_law__965 : decode cL_law_ 965 = .ok (.iaload, 1) := by decide +kernel
theorem dL_law__966 : decode cL_law_ 966 = .ok (.invokevirtual 210, 3) := by decide +kernel
theorem dL_law__969 : decode cL_law_ 969 = .ok (.istore 6, 2) := by decide +kernel
theorem dL_law__971 : decode cL_law_ 971 = .ok (.aload_n 2, 1) := by decide +kernel
theorem dL_law__972 : decode cL_law_ 972 = .ok (.invokevirtual 175, 3) := by decide +kernel
theorem dL_law__975 : decode cL_law_ 975 = .ok (.iload 5, 2) := by decide +kernel
theorem dL_law__977 : decode cL_law_ 977 = .ok (.if_icmp .eq 5, 3) := by decide +kernel
theorem dL_law__980 : decode cL_law_ 980 = .ok (.iconst 0, 1) := by decide +kernel
theorem dL_law__982 : decode cL_law_ 982 = .ok (.iload 5, 2) := by decide +kernel
theorem dL_law__984 : decode cL_law_ 984 = .ok (.ifCond .ne 15, 3) := by decide +kernel
theorem dL_law__987 : decode cL_law_ 987 = .ok (.aload_n 3, 1) := by decide +kernel
theorem dL_law__988 : decode cL_law_ 988 = .ok (.iconst 0, 1) := by decide +kernel
theorem dL_law__989 : decode cL_law_ 989 = .ok (.laload, 1) := by decide +kernel
theorem dL_law__990 : decode cL_law_ 990 = .ok (.iload 6, 2) := by decide +kernel
theorem dL_law__992 : decode cL_law_ 992 = .ok (.i2l, 1) := by decide +kernel
theorem dL_law__993 : decode cL_law_ 993 = .ok (.lcmp, 1) := by decide +kernel
theorem dL_law__994 : decode cL_law_ 994 = .ok (.ifCond .eq 5, 3) := by decide +kernel
theorem dL_law__997 : decode cL_law_ 997 = .ok (.iconst 0, 1) := by decide +kernel
theorem dL_law__999 : decode cL_law_ 999 = .ok (.goto 2534, 3) := by decide +kernel
def m_L_case_9 (xs : Nat → Int) (L : Nat) (kc : Int → D9 → Option R9) (v4 : Int) (d : D9) : Option R9 := scr xs L (v4 + 1) (fun t1 => cz (m_L_scrapers t1 d) (fun r2 d3 => scr xs L (v4 + 1) (fun t4 => cz (m_X12_scrapers_174 t4 d3) (fun r5 d6 => cz (m_X12_thrown_174 d6) (fun r7 d8 => if w32 r7 = w32 r2 then if w32 r2 ≠ 0 then kc (v4 + 7) d8 else ld d8 194 1 0 (fun t9 => if w64 t9 = w64 (w32 r5) then kc (v4 + 7) d8 else none) else none)))))
set_option maxRecDepth 100000 in
theorem s_L_case_9 {G : G9} {X : X9} (C : CX G X cL_law_ 8 RL [] zL9) (hNc : NC9 (xS X)) {b L : Nat} {xs : Nat → Int} (hSC : SCX G X b L xs) {k n : Nat} (hk : k + 12 ≤ 601024) (hn : n + 80 ≤ 7293034) (kc : Int → D9 → Option R9) (hkc : ∀ (v4 : Int) (d : D9), SS G X 8 (k + 12) (n + 80) 23 [(0, scf b), (1, rf G 0), (2, rf G 174), (3, rf G 194), (4, i9 v4)] [] d (kc v4 d)) : ∀ (v4 : Int) (d : D9), SS G X 8 k n 946 [(0, scf b), (1, rf G 0), (2, rf G 174), (3, rf G 194), (4, i9 v4)] [] d (m_L_case_9 xs L kc v4 d) := by
  intro v4 d
  unfold m_L_case_9
  refine r_aload_n C 1 dL_law__946 rfl rfl ?_
  refine r_aload_nC C 0 dL_law__947 rfl rfl ?_
  refine r_iload C 4 dL_law__948 rfl ?_
  refine r_iconst C dL_law__950 ?_
  refine r_iadd C dL_law__951 ?_
  refine r_scld C hSC dL_law__952 (fun t1 => ?_)
  refine r_aload_n C 3 dL_law__953 rfl rfl ?_
  refine r_callHL C hNc [rf G 194, i9 t1, rf G 0] dL_law__954 (t_L_scrapers C.h1 C.h2 t1 d) mwh_L_208 (by decide) (show k + 1 ≤ 601024 by omega) (show n + 6 ≤ 7293034 by omega) rfl rfl (Nat.le_of_ble_eq_true rfl) (fun r2 d3 => ?_)
  show SS G X 8 (k + 1) (n + 6) 957 [(0, scf b), (1, rf G 0), (2, rf G 174), (3, rf G 194), (4, i9 v4)] [i9 r2] d3 _
  refine r_istore C [(5, i9 r2), (0, scf b), (1, rf G 0), (2, rf G 174), (3, rf G 194), (4, i9 v4)] dL_law__957 (by decide) rfl ?_
  refine r_aload_n C 3 dL_law__959 rfl rfl ?_
  refine r_aload_nC C 1 dL_law__960 rfl rfl ?_
  refine r_iload C 5 dL_law__961 rfl ?_
  refine r_iconst C dL_law__963 ?_
  refine r_iadd C dL_law__964 ?_
  refine r_scld C hSC dL_law__965 (fun t4 => ?_)
  refine r_callVL C [i9 t4, rf G 174] dL_law__966 (t_X12_scrapers_174 C.h1 C.h2 t4 d3) mw_L_210 mv_X12_scrapers la_174 ly_174 rfl (by decide) (show k + 1 + 0 ≤ 601024 by omega) (show n + 6 + 0 ≤ 7293034 by omega) rfl rfl (Nat.le_of_ble_eq_true rfl) (fun r5 d6 => ?_)
  show SS G X 8 (k + 1 + 0) (n + 6 + 0) 969 [(5, i9 r2), (0, scf b), (1, rf G 0), (2, rf G 174), (3, rf G 194), (4, i9 v4)] [i9 r5] d6 _
  refine r_istore C [(6, i9 r5), (5, i9 r2), (0, scf b), (1, rf G 0), (2, rf G 174), (3, rf G 194), (4, i9 v4)] dL_law__969 (by decide) rfl ?_
  refine r_aload_n C 4 dL_law__971 rfl rfl ?_
  refine r_callVL C [rf G 174] dL_law__972 (t_X12_thrown_174 C.h1 C.h2 d6) mw_L_175 mv_X12_thrown la_174 ly_174 rfl (by decide) (show k + 1 + 0 + 0 ≤ 601024 by omega) (show n + 6 + 0 + 0 ≤ 7293034 by omega) rfl rfl (Nat.le_of_ble_eq_true rfl) (fun r7 d8 => ?_)
  show SS G X 8 (k + 1 + 0 + 0) (n + 6 + 0 + 0) 975 [(6, i9 r5), (5, i9 r2), (0, scf b), (1, rf G 0), (2, rf G 174), (3, rf G 194), (4, i9 v4)] [i9 r7] d8 _
  refine r_iload C 1 dL_law__975 rfl ?_
  refine r_icmp_eq C 982 dL_law__977 (by decide) (fun _ => ?_) (fun _ => ?_)
  · refine r_iload C 1 dL_law__982 rfl ?_
    refine r_if_ne C (b := 0) 999 dL_law__984 (by decide) (fun _ => ?_) (fun _ => ?_)
    · refine r_goto C 3533 dL_law__999 (by decide) ?_
      refine r_iinc C 6 [(4, i9 (v4 + 7)), (6, i9 r5), (5, i9 r2), (0, scf b), (1, rf G 0), (2, rf G 174), (3, rf G 194)] dL_law__3533 rfl (by decide) rfl ?_
      refine r_goto C 23 dL_law__3536 (by decide) ?_
      refine ss_wide (k' := k + 12) (n' := n + 80) (show k + 1 + 0 + 0 ≤ k + 12 by omega) (show n + 6 + 0 + 0 ≤ n + 80 by omega) ?_
      refine ss_ls [(0, scf b), (1, rf G 0), (2, rf G 174), (3, rf G 194), (4, i9 (v4 + 7))] [3, 4, 5, 6, 0] rfl ?_
      exact hkc (v4 + 7) d8
    · refine r_aload_n C 5 dL_law__987 rfl rfl ?_
      refine r_iconst C dL_law__988 ?_
      refine r_lald C dL_law__989 la_194 ly_194 (fun t9 => ?_)
      refine r_iload C 0 dL_law__990 rfl ?_
      refine r_i2l C dL_law__992 ?_
      refine r_lcmp_eq C 999 dL_law__993 dL_law__994 (by decide) (fun _ => ?_) (fun _ => ?_)
      · refine r_goto C 3533 dL_law__999 (by decide) ?_
        refine r_iinc C 6 [(4, i9 (v4 + 7)), (6, i9 r5), (5, i9 r2), (0, scf b), (1, rf G 0), (2, rf G 174), (3, rf G 194)] dL_law__3533 rfl (by decide) rfl ?_
        refine r_goto C 23 dL_law__3536 (by decide) ?_
        refine ss_wide (k' := k + 12) (n' := n + 80) (show k + 1 + 0 + 0 ≤ k + 12 by omega) (show n + 6 + 0 + 0 ≤ n + 80 by omega) ?_
        refine ss_ls [(0, scf b), (1, rf G 0), (2, rf G 174), (3, rf G 194), (4, i9 (v4 + 7))] [3, 4, 5, 6, 0] rfl ?_
        exact hkc (v4 + 7) d8
      · refine r_iconst C dL_law__997 ?_
        exact ss_none
  · refine r_iconst C dL_law__980 ?_
    exact ss_none
theorem dL_law__1002 : decode cL_law_ 1002 = .ok (.aload_n 1, 1) := by decide +kernel
theorem dL_law__1003 : decode cL_law_ 1003 = .ok (.aload_n 0, 1) := by decide +kernel
theorem dL_law__1004 : decode cL_law_ 1004 = .ok (.iload 4, 2) := by decide +kernel
theorem dL_law__1006 : decode cL_law_ 1006 = .ok (.iconst 1, 1) := by decide +kernel
theorem dL_law__1007 : decode cL_law_ 1007 = .ok (.iadd, 1) := by decide +kernel
theorem dL_law__1008 : decode cL_law_ 1008 = .ok (.iaload, 1) := by decide +kernel
theorem dL_law__1009 : decode cL_law_ 1009 = .ok (.invokevirtual 211, 3) := by decide +kernel
theorem dL_law__1012 : decode cL_law_ 1012 = .ok (.aload_n 2, 1) := by decide +kernel
theorem dL_law__1013 : decode cL_law_ 1013 = .ok (.aload_n 0, 1) := by decide +kernel
theorem dL_law__1014 : decode cL_law_ 1014 = .ok (.iload 4, 2) := by decide +kernel
theorem dL_law__1016 : decode cL_law_ 1016 = .ok (.iconst 1, 1) := by decide +kernel
theorem dL_law__1017 : decode cL_law_ 1017 = .ok (.iadd, 1) := by decide +kernel
theorem dL_law__1018 : decode cL_law_ 1018 = .ok (.iaload, 1) := by decide +kernel
theorem dL_law__1019 : decode cL_law_ 1019 = .ok (.invokevirtual 214, 3) := by decide +kernel
theorem dL_law__1022 : decode cL_law_ 1022 = .ok (.if_icmp .eq 2511, 3) := by decide +kernel
theorem dL_law__1025 : decode cL_law_ 1025 = .ok (.iconst 0, 1) := by decide +kernel
def m_L_case_10 (xs : Nat → Int) (L : Nat) (kc : Int → D9 → Option R9) (v4 : Int) (d : D9) : Option R9 := scr xs L (v4 + 1) (fun t1 => cz (m_X11_fault_0 t1 d) (fun r2 d3 => scr xs L (v4 + 1) (fun t4 => cz (m_X12_fault_174 t4 d3) (fun r5 d6 => if w32 r2 = w32 r5 then kc (v4 + 7) d6 else none))))
set_option maxRecDepth 100000 in
theorem s_L_case_10 {G : G9} {X : X9} (C : CX G X cL_law_ 8 RL [] zL9) (hNc : NC9 (xS X)) {b L : Nat} {xs : Nat → Int} (hSC : SCX G X b L xs) {k n : Nat} (hk : k + 12 ≤ 601024) (hn : n + 80 ≤ 7293034) (kc : Int → D9 → Option R9) (hkc : ∀ (v4 : Int) (d : D9), SS G X 8 (k + 12) (n + 80) 23 [(0, scf b), (1, rf G 0), (2, rf G 174), (3, rf G 194), (4, i9 v4)] [] d (kc v4 d)) : ∀ (v4 : Int) (d : D9), SS G X 8 k n 1002 [(0, scf b), (1, rf G 0), (2, rf G 174), (3, rf G 194), (4, i9 v4)] [] d (m_L_case_10 xs L kc v4 d) := by
  intro v4 d
  unfold m_L_case_10
  refine r_aload_n C 1 dL_law__1002 rfl rfl ?_
  refine r_aload_nC C 0 dL_law__1003 rfl rfl ?_
  refine r_iload C 4 dL_law__1004 rfl ?_
  refine r_iconst C dL_law__1006 ?_
  refine r_iadd C dL_law__1007 ?_
  refine r_scld C hSC dL_law__1008 (fun t1 => ?_)
  refine r_callVL C [i9 t1, rf G 0] dL_law__1009 (t_X11_fault_0 C.h1 C.h2 t1 d) mw_L_211 mv_X11_fault la_0 ly_0 rfl (by decide) (show k + 0 ≤ 601024 by omega) (show n + 0 ≤ 7293034 by omega) rfl rfl (Nat.le_of_ble_eq_true rfl) (fun r2 d3 => ?_)
  show SS G X 8 (k + 0) (n + 0) 1012 [(0, scf b), (1, rf G 0), (2, rf G 174), (3, rf G 194), (4, i9 v4)] [i9 r2] d3 _
  refine r_aload_n C 2 dL_law__1012 rfl rfl ?_
  refine r_aload_nC C 0 dL_law__1013 rfl rfl ?_
  refine r_iload C 4 dL_law__1014 rfl ?_
  refine r_iconst C dL_law__1016 ?_
  refine r_iadd C dL_law__1017 ?_
  refine r_scld C hSC dL_law__1018 (fun t4 => ?_)
  refine r_callVL C [i9 t4, rf G 174, i9 r2] dL_law__1019 (t_X12_fault_174 C.h1 C.h2 t4 d3) mw_L_214 mv_X12_fault la_174 ly_174 rfl (by decide) (show k + 0 + 0 ≤ 601024 by omega) (show n + 0 + 0 ≤ 7293034 by omega) rfl rfl (Nat.le_of_ble_eq_true rfl) (fun r5 d6 => ?_)
  show SS G X 8 (k + 0 + 0) (n + 0 + 0) 1022 [(0, scf b), (1, rf G 0), (2, rf G 174), (3, rf G 194), (4, i9 v4)] [i9 r5, i9 r2] d6 _
  refine r_icmp_eq C 3533 dL_law__1022 (by decide) (fun _ => ?_) (fun _ => ?_)
  · refine r_iinc C 4 [(4, i9 (v4 + 7)), (0, scf b), (1, rf G 0), (2, rf G 174), (3, rf G 194)] dL_law__3533 rfl (by decide) rfl ?_
    refine r_goto C 23 dL_law__3536 (by decide) ?_
    refine ss_wide (k' := k + 12) (n' := n + 80) (show k + 0 + 0 ≤ k + 12 by omega) (show n + 0 + 0 ≤ n + 80 by omega) ?_
    refine ss_ls [(0, scf b), (1, rf G 0), (2, rf G 174), (3, rf G 194), (4, i9 (v4 + 7))] [1, 2, 3, 4, 0] rfl ?_
    exact hkc (v4 + 7) d6
  · refine r_iconst C dL_law__1025 ?_
    exact ss_none
theorem dL_law__1027 : decode cL_law_ 1027 = .ok (.aload_n 1, 1) := by decide +kernel
theorem dL_law__1028 : decode cL_law_ 1028 = .ok (.aload_n 0, 1) := by decide +kernel
theorem dL_law__1029 : decode cL_law_ 1029 = .ok (.iload 4, 2) := by decide +kernel
theorem dL_law__1031 : decode cL_law_ 1031 = .ok (.iconst 1, 1) := by decide +kernel
theorem dL_law__1032 : decode cL_law_ 1032 = .ok (.iadd, 1) := by decide +kernel
theorem dL_law__1033 : decode cL_law_ 1033 = .ok (.iaload, 1) := by decide +kernel
theorem dL_law__1034 : decode cL_law_ 1034 = .ok (.aload_n 0, 1) := by decide +kernel
theorem dL_law__1035 : decode cL_law_ 1035 = .ok (.iload 4, 2) := by decide +kernel
theorem dL_law__1037 : decode cL_law_ 1037 = .ok (.iconst 2, 1) := by decide +kernel
theorem dL_law__1038 : decode cL_law_ 1038 = .ok (.iadd, 1) := by decide +kernel
theorem dL_law__1039 : decode cL_law_ 1039 = .ok (.iaload, 1) := by decide +kernel
theorem dL_law__1040 : decode cL_law_ 1040 = .ok (.aload_n 0, 1) := by decide +kernel
theorem dL_law__1041 : decode cL_law_ 1041 = .ok (.iload 4, 2) := by decide +kernel
theorem dL_law__1043 : decode cL_law_ 1043 = .ok (.iconst 3, 1) := by decide +kernel
theorem dL_law__1044 : decode cL_law_ 1044 = .ok (.iadd, 1) := by decide +kernel
theorem dL_law__1045 : decode cL_law_ 1045 = .ok (.iaload, 1) := by decide +kernel
theorem dL_law__1046 : decode cL_law_ 1046 = .ok (.aload_n 0, 1) := by decide +kernel
theorem dL_law__1047 : decode cL_law_ 1047 = .ok (.iload 4, 2) := by decide +kernel
theorem dL_law__1049 : decode cL_law_ 1049 = .ok (.iconst 4, 1) := by decide +kernel
theorem dL_law__1050 : decode cL_law_ 1050 = .ok (.iadd, 1) := by decide +kernel
theorem dL_law__1051 : decode cL_law_ 1051 = .ok (.iaload, 1) := by decide +kernel
theorem dL_law__1052 : decode cL_law_ 1052 = .ok (.aload_n 3, 1) := by decide +kernel
theorem dL_law__1053 : decode cL_law_ 1053 = .ok (.invokestatic 215, 3) := by decide +kernel
theorem dL_law__1056 : decode cL_law_ 1056 = .ok (.istore 5, 2) := by decide +kernel
theorem dL_law__1058 : decode cL_law_ 1058 = .ok (.aload_n 2, 1) := by decide +kernel
theorem dL_law__1059 : decode cL_law_ 1059 = .ok (.aload_n 0, 1) := by decide +kernel
theorem dL_law__1060 : decode cL_law_ 1060 = .ok (.iload 4, 2) := by decide +kernel
theorem dL_law__1062 : decode cL_law_ 1062 = .ok (.iconst 1, 1) := by decide +kernel
theorem dL_law__1063 : decode cL_law_ 1063 = .ok (.iadd, 1) := by decide +kernel
theorem dL_law__1064 : decode cL_law_ 1064 = .ok (.iaload, 1) := by decide +kernel
theorem dL_law__1065 : decode cL_law_ 1065 = .ok (.aload_n 0, 1) := by decide +kernel
theorem dL_law__1066 : decode cL_law_ 1066 = .ok (.iload 4, 2) := by decide +kernel
theorem dL_law__1068 : decode cL_law_ 1068 = .ok (.iconst 2, 1) := by decide +kernel
theorem dL_law__1069 : decode cL_law_ 1069 = .ok (.iadd, 1) := by decide +kernel
theorem dL_law__1070 : decode cL_law_ 1070 = .ok (.iaload, 1) := by decide +kernel
theorem dL_law__1071 : decode cL_law_ 1071 = .ok (.aload_n 0, 1) := by decide +kernel
theorem dL_law__1072 : decode cL_law_ 1072 = .ok (.iload 4, 2) := by decide +kernel
theorem dL_law__1074 : decode cL_law_ 1074 = .ok (.iconst 3, 1) := by decide +kernel
theorem dL_law__1075 : decode cL_law_ 1075 = .ok (.iadd, 1) := by decide +kernel
theorem dL_law__1076 : decode cL_law_ 1076 = .ok (.iaload, 1) := by decide +kernel
theorem dL_law__1077 : decode cL_law_ 1077 = .ok (.aload_n 0, 1) := by decide +kernel
theorem dL_law__1078 : decode cL_law_ 1078 = .ok (.iload 4, 2) := by decide +kernel
theorem dL_law__1080 : decode cL_law_ 1080 = .ok (.iconst 4, 1) := by decide +kernel
theorem dL_law__1081 : decode cL_law_ 1081 = .ok (.iadd, 1) := by decide +kernel
theorem dL_law__1082 : decode cL_law_ 1082 = .ok (.iaload, 1) := by decide +kernel
theorem dL_law__1083 : decode cL_law_ 1083 = .ok (.invokevirtual 217, 3) := by decide +kernel
theorem dL_law__1086 : decode cL_law_ 1086 = .ok (.istore 6, 2) := by decide +kernel
theorem dL_law__1088 : decode cL_law_ 1088 = .ok (.aload_n 2, 1) := by decide +kernel
theorem dL_law__1089 : decode cL_law_ 1089 = .ok (.invokevirtual 175, 3) := by decide +kernel
theorem dL_law__1092 : decode cL_law_ 1092 = .ok (.iload 5, 2) := by decide +kernel
theorem dL_law__1094 : decode cL_law_ 1094 = .ok (.if_icmp .eq 5, 3) := by decide +kernel
theorem dL_law__1097 : decode cL_law_ 1097 = .ok (.iconst 0, 1) := by decide +kernel
theorem dL_law__1099 : decode cL_law_ 1099 = .ok (.iload 5, 2) := by decide +kernel
theorem dL_law__1101 : decode cL_law_ 1101 = .ok (.ifCond .ne 15, 3) := by decide +kernel
theorem dL_law__1104 : decode cL_law_ 1104 = .ok (.aload_n 3, 1) := by decide +kernel
theorem dL_law__1105 : decode cL_law_ 1105 = .ok (.iconst 0, 1) := by decide +kernel
theorem dL_law__1106 : decode cL_law_ 1106 = .ok (.laload, 1) := by decide +kernel
theorem dL_law__1107 : decode cL_law_ 1107 = .ok (.iload 6, 2) := by decide +kernel
theorem dL_law__1109 : decode cL_law_ 1109 = .ok (.i2l, 1) := by decide +kernel
theorem dL_law__1110 : decode cL_law_ 1110 = .ok (.lcmp, 1) := by decide +kernel
theorem dL_law__1111 : decode cL_law_ 1111 = .ok (.ifCond .eq 5, 3) := by decide +kernel
theorem dL_law__1114 : decode cL_law_ 1114 = .ok (.iconst 0, 1) := by decide +kernel
theorem dL_law__1116 : decode cL_law_ 1116 = .ok (.goto 2417, 3) := by decide +kernel
def m_L_case_11 (xs : Nat → Int) (L : Nat) (kc : Int → D9 → Option R9) (v4 : Int) (d : D9) : Option R9 := scr xs L (v4 + 1) (fun t1 => scr xs L (v4 + 2) (fun t2 => scr xs L (v4 + 3) (fun t3 => scr xs L (v4 + 4) (fun t4 => cz (m_L_age t1 t2 t3 t4 d) (fun r5 d6 => scr xs L (v4 + 1) (fun t7 => scr xs L (v4 + 2) (fun t8 => scr xs L (v4 + 3) (fun t9 => scr xs L (v4 + 4) (fun t10 => cz (m_X12_age_174 t7 t8 t9 t10 d6) (fun r11 d12 => cz (m_X12_thrown_174 d12) (fun r13 d14 => if w32 r13 = w32 r5 then if w32 r5 ≠ 0 then kc (v4 + 7) d14 else ld d14 194 1 0 (fun t15 => if w64 t15 = w64 (w32 r11) then kc (v4 + 7) d14 else none) else none)))))))))))
set_option maxRecDepth 100000 in
theorem s_L_case_11 {G : G9} {X : X9} (C : CX G X cL_law_ 8 RL [] zL9) (hNc : NC9 (xS X)) {b L : Nat} {xs : Nat → Int} (hSC : SCX G X b L xs) {k n : Nat} (hk : k + 12 ≤ 601024) (hn : n + 80 ≤ 7293034) (kc : Int → D9 → Option R9) (hkc : ∀ (v4 : Int) (d : D9), SS G X 8 (k + 12) (n + 80) 23 [(0, scf b), (1, rf G 0), (2, rf G 174), (3, rf G 194), (4, i9 v4)] [] d (kc v4 d)) : ∀ (v4 : Int) (d : D9), SS G X 8 k n 1027 [(0, scf b), (1, rf G 0), (2, rf G 174), (3, rf G 194), (4, i9 v4)] [] d (m_L_case_11 xs L kc v4 d) := by
  intro v4 d
  unfold m_L_case_11
  refine r_aload_n C 1 dL_law__1027 rfl rfl ?_
  refine r_aload_nC C 0 dL_law__1028 rfl rfl ?_
  refine r_iload C 4 dL_law__1029 rfl ?_
  refine r_iconst C dL_law__1031 ?_
  refine r_iadd C dL_law__1032 ?_
  refine r_scld C hSC dL_law__1033 (fun t1 => ?_)
  refine r_aload_nC C 0 dL_law__1034 rfl rfl ?_
  refine r_iload C 4 dL_law__1035 rfl ?_
  refine r_iconst C dL_law__1037 ?_
  refine r_iadd C dL_law__1038 ?_
  refine r_scld C hSC dL_law__1039 (fun t2 => ?_)
  refine r_aload_nC C 0 dL_law__1040 rfl rfl ?_
  refine r_iload C 4 dL_law__1041 rfl ?_
  refine r_iconst C dL_law__1043 ?_
  refine r_iadd C dL_law__1044 ?_
  refine r_scld C hSC dL_law__1045 (fun t3 => ?_)
  refine r_aload_nC C 0 dL_law__1046 rfl rfl ?_
  refine r_iload C 4 dL_law__1047 rfl ?_
  refine r_iconst C dL_law__1049 ?_
  refine r_iadd C dL_law__1050 ?_
  refine r_scld C hSC dL_law__1051 (fun t4 => ?_)
  refine r_aload_n C 3 dL_law__1052 rfl rfl ?_
  refine r_callHL C hNc [rf G 194, i9 t4, i9 t3, i9 t2, i9 t1, rf G 0] dL_law__1053 (t_L_age C.h1 C.h2 t1 t2 t3 t4 d) mwh_L_215 (by decide) (show k + 4 ≤ 601024 by omega) (show n + 24 ≤ 7293034 by omega) rfl rfl (Nat.le_of_ble_eq_true rfl) (fun r5 d6 => ?_)
  show SS G X 8 (k + 4) (n + 24) 1056 [(0, scf b), (1, rf G 0), (2, rf G 174), (3, rf G 194), (4, i9 v4)] [i9 r5] d6 _
  refine r_istore C [(5, i9 r5), (0, scf b), (1, rf G 0), (2, rf G 174), (3, rf G 194), (4, i9 v4)] dL_law__1056 (by decide) rfl ?_
  refine r_aload_n C 3 dL_law__1058 rfl rfl ?_
  refine r_aload_nC C 1 dL_law__1059 rfl rfl ?_
  refine r_iload C 5 dL_law__1060 rfl ?_
  refine r_iconst C dL_law__1062 ?_
  refine r_iadd C dL_law__1063 ?_
  refine r_scld C hSC dL_law__1064 (fun t7 => ?_)
  refine r_aload_nC C 1 dL_law__1065 rfl rfl ?_
  refine r_iload C 5 dL_law__1066 rfl ?_
  refine r_iconst C dL_law__1068 ?_
  refine r_iadd C dL_law__1069 ?_
  refine r_scld C hSC dL_law__1070 (fun t8 => ?_)
  refine r_aload_nC C 1 dL_law__1071 rfl rfl ?_
  refine r_iload C 5 dL_law__1072 rfl ?_
  refine r_iconst C dL_law__1074 ?_
  refine r_iadd C dL_law__1075 ?_
  refine r_scld C hSC dL_law__1076 (fun t9 => ?_)
  refine r_aload_nC C 1 dL_law__1077 rfl rfl ?_
  refine r_iload C 5 dL_law__1078 rfl ?_
  refine r_iconst C dL_law__1080 ?_
  refine r_iadd C dL_law__1081 ?_
  refine r_scld C hSC dL_law__1082 (fun t10 => ?_)
  refine r_callVL C [i9 t10, i9 t9, i9 t8, i9 t7, rf G 174] dL_law__1083 (t_X12_age_174 C.h1 C.h2 t7 t8 t9 t10 d6) mw_L_217 mv_X12_age la_174 ly_174 rfl (by decide) (show k + 4 + 0 ≤ 601024 by omega) (show n + 24 + 0 ≤ 7293034 by omega) rfl rfl (Nat.le_of_ble_eq_true rfl) (fun r11 d12 => ?_)
  show SS G X 8 (k + 4 + 0) (n + 24 + 0) 1086 [(5, i9 r5), (0, scf b), (1, rf G 0), (2, rf G 174), (3, rf G 194), (4, i9 v4)] [i9 r11] d12 _
  refine r_istore C [(6, i9 r11), (5, i9 r5), (0, scf b), (1, rf G 0), (2, rf G 174), (3, rf G 194), (4, i9 v4)] dL_law__1086 (by decide) rfl ?_
  refine r_aload_n C 4 dL_law__1088 rfl rfl ?_
  refine r_callVL C [rf G 174] dL_law__1089 (t_X12_thrown_174 C.h1 C.h2 d12) mw_L_175 mv_X12_thrown la_174 ly_174 rfl (by decide) (show k + 4 + 0 + 0 ≤ 601024 by omega) (show n + 24 + 0 + 0 ≤ 7293034 by omega) rfl rfl (Nat.le_of_ble_eq_true rfl) (fun r13 d14 => ?_)
  show SS G X 8 (k + 4 + 0 + 0) (n + 24 + 0 + 0) 1092 [(6, i9 r11), (5, i9 r5), (0, scf b), (1, rf G 0), (2, rf G 174), (3, rf G 194), (4, i9 v4)] [i9 r13] d14 _
  refine r_iload C 1 dL_law__1092 rfl ?_
  refine r_icmp_eq C 1099 dL_law__1094 (by decide) (fun _ => ?_) (fun _ => ?_)
  · refine r_iload C 1 dL_law__1099 rfl ?_
    refine r_if_ne C (b := 0) 1116 dL_law__1101 (by decide) (fun _ => ?_) (fun _ => ?_)
    · refine r_goto C 3533 dL_law__1116 (by decide) ?_
      refine r_iinc C 6 [(4, i9 (v4 + 7)), (6, i9 r11), (5, i9 r5), (0, scf b), (1, rf G 0), (2, rf G 174), (3, rf G 194)] dL_law__3533 rfl (by decide) rfl ?_
      refine r_goto C 23 dL_law__3536 (by decide) ?_
      refine ss_wide (k' := k + 12) (n' := n + 80) (show k + 4 + 0 + 0 ≤ k + 12 by omega) (show n + 24 + 0 + 0 ≤ n + 80 by omega) ?_
      refine ss_ls [(0, scf b), (1, rf G 0), (2, rf G 174), (3, rf G 194), (4, i9 (v4 + 7))] [3, 4, 5, 6, 0] rfl ?_
      exact hkc (v4 + 7) d14
    · refine r_aload_n C 5 dL_law__1104 rfl rfl ?_
      refine r_iconst C dL_law__1105 ?_
      refine r_lald C dL_law__1106 la_194 ly_194 (fun t15 => ?_)
      refine r_iload C 0 dL_law__1107 rfl ?_
      refine r_i2l C dL_law__1109 ?_
      refine r_lcmp_eq C 1116 dL_law__1110 dL_law__1111 (by decide) (fun _ => ?_) (fun _ => ?_)
      · refine r_goto C 3533 dL_law__1116 (by decide) ?_
        refine r_iinc C 6 [(4, i9 (v4 + 7)), (6, i9 r11), (5, i9 r5), (0, scf b), (1, rf G 0), (2, rf G 174), (3, rf G 194)] dL_law__3533 rfl (by decide) rfl ?_
        refine r_goto C 23 dL_law__3536 (by decide) ?_
        refine ss_wide (k' := k + 12) (n' := n + 80) (show k + 4 + 0 + 0 ≤ k + 12 by omega) (show n + 24 + 0 + 0 ≤ n + 80 by omega) ?_
        refine ss_ls [(0, scf b), (1, rf G 0), (2, rf G 174), (3, rf G 194), (4, i9 (v4 + 7))] [3, 4, 5, 6, 0] rfl ?_
        exact hkc (v4 + 7) d14
      · refine r_iconst C dL_law__1114 ?_
        exact ss_none
  · refine r_iconst C dL_law__1097 ?_
    exact ss_none
theorem dL_law__1119 : decode cL_law_ 1119 = .ok (.aload_n 1, 1) := by decide +kernel
theorem dL_law__1120 : decode cL_law_ 1120 = .ok (.aload_n 0, 1) := by decide +kernel
theorem dL_law__1121 : decode cL_law_ 1121 = .ok (.iload 4, 2) := by decide +kernel
theorem dL_law__1123 : decode cL_law_ 1123 = .ok (.iconst 1, 1) := by decide +kernel
theorem dL_law__1124 : decode cL_law_ 1124 = .ok (.iadd, 1) := by decide +kernel
theorem dL_law__1125 : decode cL_law_ 1125 = .ok (.iaload, 1) := by decide +kernel
theorem dL_law__1126 : decode cL_law_ 1126 = .ok (.aload_n 0, 1) := by decide +kernel
theorem dL_law__1127 : decode cL_law_ 1127 = .ok (.iload 4, 2) := by decide +kernel
theorem dL_law__1129 : decode cL_law_ 1129 = .ok (.iconst 2, 1) := by decide +kernel
theorem dL_law__1130 : decode cL_law_ 1130 = .ok (.iadd, 1) := by decide +kernel
theorem dL_law__1131 : decode cL_law_ 1131 = .ok (.iaload, 1) := by decide +kernel
theorem dL_law__1132 : decode cL_law_ 1132 = .ok (.aload_n 0, 1) := by decide +kernel
theorem dL_law__1133 : decode cL_law_ 1133 = .ok (.iload 4, 2) := by decide +kernel
theorem dL_law__1135 : decode cL_law_ 1135 = .ok (.iconst 3, 1) := by decide +kernel
theorem dL_law__1136 : decode cL_law_ 1136 = .ok (.iadd, 1) := by decide +kernel
theorem dL_law__1137 : decode cL_law_ 1137 = .ok (.iaload, 1) := by decide +kernel
theorem dL_law__1138 : decode cL_law_ 1138 = .ok (.ifCond .eq 7, 3) := by decide +kernel
theorem dL_law__1141 : decode cL_law_ 1141 = .ok (.iconst 1, 1) := by decide +kernel
theorem dL_law__1142 : decode cL_law_ 1142 = .ok (.goto 4, 3) := by decide +kernel
theorem dL_law__1145 : decode cL_law_ 1145 = .ok (.iconst 0, 1) := by decide +kernel
theorem dL_law__1146 : decode cL_law_ 1146 = .ok (.aload_n 3, 1) := by decide +kernel
theorem dL_law__1147 : decode cL_law_ 1147 = .ok (.invokestatic 218, 3) := by decide +kernel
theorem dL_law__1150 : decode cL_law_ 1150 = .ok (.istore 5, 2) := by decide +kernel
theorem dL_law__1152 : decode cL_law_ 1152 = .ok (.aload_n 2, 1) := by decide +kernel
theorem dL_law__1153 : decode cL_law_ 1153 = .ok (.aload_n 0, 1) := by decide +kernel
theorem dL_law__1154 : decode cL_law_ 1154 = .ok (.iload 4, 2) := by decide +kernel
theorem dL_law__1156 : decode cL_law_ 1156 = .ok (.iconst 1, 1) := by decide +kernel
theorem dL_law__1157 : decode cL_law_ 1157 = .ok (.iadd, 1) := by decide +kernel
theorem dL_law__1158 : decode cL_law_ 1158 = .ok (.iaload, 1) := by decide +kernel
theorem dL_law__1159 : decode cL_law_ 1159 = .ok (.aload_n 0, 1) := by decide +kernel
theorem dL_law__1160 : decode cL_law_ 1160 = .ok (.iload 4, 2) := by decide +kernel
theorem dL_law__1162 : decode cL_law_ 1162 = .ok (.iconst 2, 1) := by decide +kernel
theorem dL_law__1163 : decode cL_law_ 1163 = .ok (.iadd, 1) := by decide +kernel
theorem dL_law__1164 : decode cL_law_ 1164 = .ok (.iaload, 1) := by decide +kernel
theorem dL_law__1165 : decode cL_law_ 1165 = .ok (.aload_n 0, 1) := by decide +kernel
theorem dL_law__1166 : decode cL_law_ 1166 = .ok (.iload 4, 2) := by decide +kernel
theorem dL_law__1168 : decode cL_law_ 1168 = .ok (.iconst 3, 1) := by decide +kernel
theorem dL_law__1169 : decode cL_law_ 1169 = .ok (.iadd, 1) := by decide +kernel
theorem dL_law__1170 : decode cL_law_ 1170 = .ok (.iaload, 1) := by decide +kernel
theorem dL_law__1171 : decode cL_law_ 1171 = .ok (.ifCond .eq 7, 3) := by decide +kernel
theorem dL_law__1174 : decode cL_law_ 1174 = .ok (.iconst 1, 1) := by decide +kernel
theorem dL_law__1175 : decode cL_law_ 1175 = .ok (.goto 4, 3) := by decide +kernel
theorem dL_law__1178 : decode cL_law_ 1178 = .ok (.iconst 0, 1) := by decide +kernel
theorem dL_law__1179 : decode cL_law_ 1179 = .ok (.invokevirtual 221, 3) := by decide +kernel
theorem dL_law__1182 : decode cL_law_ 1182 = .ok (.istore 6, 2) := by decide +kernel
theorem dL_law__1184 : decode cL_law_ 1184 = .ok (.aload_n 2, 1) := by decide +kernel
theorem dL_law__1185 : decode cL_law_ 1185 = .ok (.invokevirtual 175, 3) := by decide +kernel
theorem dL_law__1188 : decode cL_law_ 1188 = .ok (.iload 5, 2) := by decide +kernel
theorem dL_law__1190 : decode cL_law_ 1190 = .ok (.if_icmp .eq 5, 3) := by decide +kernel
theorem dL_law__1193 : decode cL_law_ 1193 = .ok (.iconst 0, 1) := by decide +kernel
theorem dL_law__1195 : decode cL_law_ 1195 = .ok (.iload 5, 2) := by decide +kernel
theorem dL_law__1197 : decode cL_law_ 1197 = .ok (.ifCond .ne 15, 3) := by decide +kernel
theorem dL_law__1200 : decode cL_law_ 1200 = .ok (.aload_n 3, 1) := by decide +kernel
theorem dL_law__1201 : decode cL_law_ 1201 = .ok (.iconst 0, 1) := by decide +kernel
theorem dL_law__1202 : decode cL_law_ 1202 = .ok (.laload, 1) := by decide +kernel
theorem dL_law__1203 : decode cL_law_ 1203 = .ok (.iload 6, 2) := by decide +kernel
theorem dL_law__1205 : decode cL_law_ 1205 = .ok (.i2l, 1) := by decide +kernel
theorem dL_law__1206 : decode cL_law_ 1206 = .ok (.lcmp, 1) := by decide +kernel
theorem dL_law__1207 : decode cL_law_ 1207 = .ok (.ifCond .eq 5, 3) := by decide +kernel
theorem dL_law__1210 : decode cL_law_ 1210 = .ok (.iconst 0, 1) := by decide +kernel
theorem dL_law__1212 : decode cL_law_ 1212 = .ok (.goto 2321, 3) := by decide +kernel
def m_L_case_12 (xs : Nat → Int) (L : Nat) (kc : Int → D9 → Option R9) (v4 : Int) (d : D9) : Option R9 := scr xs L (v4 + 1) (fun t1 => scr xs L (v4 + 2) (fun t2 => scr xs L (v4 + 3) (fun t3 => if w32 t3 = 0 then cz (m_L_span t1 t2 0 d) (fun r4 d5 => scr xs L (v4 + 1) (fun t6 => scr xs L (v4 + 2) (fun t7 => scr xs L (v4 + 3) (fun t8 => if w32 t8 = 0 then cz (m_X12_span_174 t6 t7 0 d5) (fun r9 d10 => cz (m_X12_thrown_174 d10) (fun r11 d12 => if w32 r11 = w32 r4 then if w32 r4 ≠ 0 then kc (v4 + 7) d12 else ld d12 194 1 0 (fun t13 => if w64 t13 = w64 (w32 r9) then kc (v4 + 7) d12 else none) else none)) else cz (m_X12_span_174 t6 t7 1 d5) (fun r14 d15 => cz (m_X12_thrown_174 d15) (fun r16 d17 => if w32 r16 = w32 r4 then if w32 r4 ≠ 0 then kc (v4 + 7) d17 else ld d17 194 1 0 (fun t18 => if w64 t18 = w64 (w32 r14) then kc (v4 + 7) d17 else none) else none)))))) else cz (m_L_span t1 t2 1 d) (fun r19 d20 => scr xs L (v4 + 1) (fun t21 => scr xs L (v4 + 2) (fun t22 => scr xs L (v4 + 3) (fun t23 => if w32 t23 = 0 then cz (m_X12_span_174 t21 t22 0 d20) (fun r24 d25 => cz (m_X12_thrown_174 d25) (fun r26 d27 => if w32 r26 = w32 r19 then if w32 r19 ≠ 0 then kc (v4 + 7) d27 else ld d27 194 1 0 (fun t28 => if w64 t28 = w64 (w32 r24) then kc (v4 + 7) d27 else none) else none)) else cz (m_X12_span_174 t21 t22 1 d20) (fun r29 d30 => cz (m_X12_thrown_174 d30) (fun r31 d32 => if w32 r31 = w32 r19 then if w32 r19 ≠ 0 then kc (v4 + 7) d32 else ld d32 194 1 0 (fun t33 => if w64 t33 = w64 (w32 r29) then kc (v4 + 7) d32 else none) else none)))))))))
set_option maxRecDepth 100000 in
theorem s_L_case_12 {G : G9} {X : X9} (C : CX G X cL_law_ 8 RL [] zL9) (hNc : NC9 (xS X)) {b L : Nat} {xs : Nat → Int} (hSC : SCX G X b L xs) {k n : Nat} (hk : k + 12 ≤ 601024) (hn : n + 80 ≤ 7293034) (kc : Int → D9 → Option R9) (hkc : ∀ (v4 : Int) (d : D9), SS G X 8 (k + 12) (n + 80) 23 [(0, scf b), (1, rf G 0), (2, rf G 174), (3, rf G 194), (4, i9 v4)] [] d (kc v4 d)) : ∀ (v4 : Int) (d : D9), SS G X 8 k n 1119 [(0, scf b), (1, rf G 0), (2, rf G 174), (3, rf G 194), (4, i9 v4)] [] d (m_L_case_12 xs L kc v4 d) := by
  intro v4 d
  unfold m_L_case_12
  refine r_aload_n C 1 dL_law__1119 rfl rfl ?_
  refine r_aload_nC C 0 dL_law__1120 rfl rfl ?_
  refine r_iload C 4 dL_law__1121 rfl ?_
  refine r_iconst C dL_law__1123 ?_
  refine r_iadd C dL_law__1124 ?_
  refine r_scld C hSC dL_law__1125 (fun t1 => ?_)
  refine r_aload_nC C 0 dL_law__1126 rfl rfl ?_
  refine r_iload C 4 dL_law__1127 rfl ?_
  refine r_iconst C dL_law__1129 ?_
  refine r_iadd C dL_law__1130 ?_
  refine r_scld C hSC dL_law__1131 (fun t2 => ?_)
  refine r_aload_nC C 0 dL_law__1132 rfl rfl ?_
  refine r_iload C 4 dL_law__1133 rfl ?_
  refine r_iconst C dL_law__1135 ?_
  refine r_iadd C dL_law__1136 ?_
  refine r_scld C hSC dL_law__1137 (fun t3 => ?_)
  refine r_if_eq C (b := 0) 1145 dL_law__1138 (by decide) (fun _ => ?_) (fun _ => ?_)
  · refine r_iconst C dL_law__1145 ?_
    refine r_aload_n C 3 dL_law__1146 rfl rfl ?_
    refine r_callHL C hNc [rf G 194, i9 0, i9 t2, i9 t1, rf G 0] dL_law__1147 (t_L_span C.h1 C.h2 t1 t2 0 d) mwh_L_218 (by decide) (show k + 2 ≤ 601024 by omega) (show n + 12 ≤ 7293034 by omega) rfl rfl (Nat.le_of_ble_eq_true rfl) (fun r4 d5 => ?_)
    show SS G X 8 (k + 2) (n + 12) 1150 [(0, scf b), (1, rf G 0), (2, rf G 174), (3, rf G 194), (4, i9 v4)] [i9 r4] d5 _
    refine r_istore C [(5, i9 r4), (0, scf b), (1, rf G 0), (2, rf G 174), (3, rf G 194), (4, i9 v4)] dL_law__1150 (by decide) rfl ?_
    refine r_aload_n C 3 dL_law__1152 rfl rfl ?_
    refine r_aload_nC C 1 dL_law__1153 rfl rfl ?_
    refine r_iload C 5 dL_law__1154 rfl ?_
    refine r_iconst C dL_law__1156 ?_
    refine r_iadd C dL_law__1157 ?_
    refine r_scld C hSC dL_law__1158 (fun t6 => ?_)
    refine r_aload_nC C 1 dL_law__1159 rfl rfl ?_
    refine r_iload C 5 dL_law__1160 rfl ?_
    refine r_iconst C dL_law__1162 ?_
    refine r_iadd C dL_law__1163 ?_
    refine r_scld C hSC dL_law__1164 (fun t7 => ?_)
    refine r_aload_nC C 1 dL_law__1165 rfl rfl ?_
    refine r_iload C 5 dL_law__1166 rfl ?_
    refine r_iconst C dL_law__1168 ?_
    refine r_iadd C dL_law__1169 ?_
    refine r_scld C hSC dL_law__1170 (fun t8 => ?_)
    refine r_if_eq C (b := 0) 1178 dL_law__1171 (by decide) (fun _ => ?_) (fun _ => ?_)
    · refine r_iconst C dL_law__1178 ?_
      refine r_callVL C [i9 0, i9 t7, i9 t6, rf G 174] dL_law__1179 (t_X12_span_174 C.h1 C.h2 t6 t7 0 d5) mw_L_221 mv_X12_span la_174 ly_174 rfl (by decide) (show k + 2 + 0 ≤ 601024 by omega) (show n + 12 + 0 ≤ 7293034 by omega) rfl rfl (Nat.le_of_ble_eq_true rfl) (fun r9 d10 => ?_)
      show SS G X 8 (k + 2 + 0) (n + 12 + 0) 1182 [(5, i9 r4), (0, scf b), (1, rf G 0), (2, rf G 174), (3, rf G 194), (4, i9 v4)] [i9 r9] d10 _
      refine r_istore C [(6, i9 r9), (5, i9 r4), (0, scf b), (1, rf G 0), (2, rf G 174), (3, rf G 194), (4, i9 v4)] dL_law__1182 (by decide) rfl ?_
      refine r_aload_n C 4 dL_law__1184 rfl rfl ?_
      refine r_callVL C [rf G 174] dL_law__1185 (t_X12_thrown_174 C.h1 C.h2 d10) mw_L_175 mv_X12_thrown la_174 ly_174 rfl (by decide) (show k + 2 + 0 + 0 ≤ 601024 by omega) (show n + 12 + 0 + 0 ≤ 7293034 by omega) rfl rfl (Nat.le_of_ble_eq_true rfl) (fun r11 d12 => ?_)
      show SS G X 8 (k + 2 + 0 + 0) (n + 12 + 0 + 0) 1188 [(6, i9 r9), (5, i9 r4), (0, scf b), (1, rf G 0), (2, rf G 174), (3, rf G 194), (4, i9 v4)] [i9 r11] d12 _
      refine r_iload C 1 dL_law__1188 rfl ?_
      refine r_icmp_eq C 1195 dL_law__1190 (by decide) (fun _ => ?_) (fun _ => ?_)
      · refine r_iload C 1 dL_law__1195 rfl ?_
        refine r_if_ne C (b := 0) 1212 dL_law__1197 (by decide) (fun _ => ?_) (fun _ => ?_)
        · refine r_goto C 3533 dL_law__1212 (by decide) ?_
          refine r_iinc C 6 [(4, i9 (v4 + 7)), (6, i9 r9), (5, i9 r4), (0, scf b), (1, rf G 0), (2, rf G 174), (3, rf G 194)] dL_law__3533 rfl (by decide) rfl ?_
          refine r_goto C 23 dL_law__3536 (by decide) ?_
          refine ss_wide (k' := k + 12) (n' := n + 80) (show k + 2 + 0 + 0 ≤ k + 12 by omega) (show n + 12 + 0 + 0 ≤ n + 80 by omega) ?_
          refine ss_ls [(0, scf b), (1, rf G 0), (2, rf G 174), (3, rf G 194), (4, i9 (v4 + 7))] [3, 4, 5, 6, 0] rfl ?_
          exact hkc (v4 + 7) d12
        · refine r_aload_n C 5 dL_law__1200 rfl rfl ?_
          refine r_iconst C dL_law__1201 ?_
          refine r_lald C dL_law__1202 la_194 ly_194 (fun t13 => ?_)
          refine r_iload C 0 dL_law__1203 rfl ?_
          refine r_i2l C dL_law__1205 ?_
          refine r_lcmp_eq C 1212 dL_law__1206 dL_law__1207 (by decide) (fun _ => ?_) (fun _ => ?_)
          · refine r_goto C 3533 dL_law__1212 (by decide) ?_
            refine r_iinc C 6 [(4, i9 (v4 + 7)), (6, i9 r9), (5, i9 r4), (0, scf b), (1, rf G 0), (2, rf G 174), (3, rf G 194)] dL_law__3533 rfl (by decide) rfl ?_
            refine r_goto C 23 dL_law__3536 (by decide) ?_
            refine ss_wide (k' := k + 12) (n' := n + 80) (show k + 2 + 0 + 0 ≤ k + 12 by omega) (show n + 12 + 0 + 0 ≤ n + 80 by omega) ?_
            refine ss_ls [(0, scf b), (1, rf G 0), (2, rf G 174), (3, rf G 194), (4, i9 (v4 + 7))] [3, 4, 5, 6, 0] rfl ?_
            exact hkc (v4 + 7) d12
          · refine r_iconst C dL_law__1210 ?_
            exact ss_none
      · refine r_iconst C dL_law__1193 ?_
        exact ss_none
    · refine r_iconst C dL_law__1174 ?_
      refine r_goto C 1179 dL_law__1175 (by decide) ?_
      refine r_callVL C [i9 1, i9 t7, i9 t6, rf G 174] dL_law__1179 (t_X12_span_174 C.h1 C.h2 t6 t7 1 d5) mw_L_221 mv_X12_span la_174 ly_174 rfl (by decide) (show k + 2 + 0 ≤ 601024 by omega) (show n + 12 + 0 ≤ 7293034 by omega) rfl rfl (Nat.le_of_ble_eq_true rfl) (fun r14 d15 => ?_)
      show SS G X 8 (k + 2 + 0) (n + 12 + 0) 1182 [(5, i9 r4), (0, scf b), (1, rf G 0), (2, rf G 174), (3, rf G 194), (4, i9 v4)] [i9 r14] d15 _
      refine r_istore C [(6, i9 r14), (5, i9 r4), (0, scf b), (1, rf G 0), (2, rf G 174), (3, rf G 194), (4, i9 v4)] dL_law__1182 (by decide) rfl ?_
      refine r_aload_n C 4 dL_law__1184 rfl rfl ?_
      refine r_callVL C [rf G 174] dL_law__1185 (t_X12_thrown_174 C.h1 C.h2 d15) mw_L_175 mv_X12_thrown la_174 ly_174 rfl (by decide) (show k + 2 + 0 + 0 ≤ 601024 by omega) (show n + 12 + 0 + 0 ≤ 7293034 by omega) rfl rfl (Nat.le_of_ble_eq_true rfl) (fun r16 d17 => ?_)
      show SS G X 8 (k + 2 + 0 + 0) (n + 12 + 0 + 0) 1188 [(6, i9 r14), (5, i9 r4), (0, scf b), (1, rf G 0), (2, rf G 174), (3, rf G 194), (4, i9 v4)] [i9 r16] d17 _
      refine r_iload C 1 dL_law__1188 rfl ?_
      refine r_icmp_eq C 1195 dL_law__1190 (by decide) (fun _ => ?_) (fun _ => ?_)
      · refine r_iload C 1 dL_law__1195 rfl ?_
        refine r_if_ne C (b := 0) 1212 dL_law__1197 (by decide) (fun _ => ?_) (fun _ => ?_)
        · refine r_goto C 3533 dL_law__1212 (by decide) ?_
          refine r_iinc C 6 [(4, i9 (v4 + 7)), (6, i9 r14), (5, i9 r4), (0, scf b), (1, rf G 0), (2, rf G 174), (3, rf G 194)] dL_law__3533 rfl (by decide) rfl ?_
          refine r_goto C 23 dL_law__3536 (by decide) ?_
          refine ss_wide (k' := k + 12) (n' := n + 80) (show k + 2 + 0 + 0 ≤ k + 12 by omega) (show n + 12 + 0 + 0 ≤ n + 80 by omega) ?_
          refine ss_ls [(0, scf b), (1, rf G 0), (2, rf G 174), (3, rf G 194), (4, i9 (v4 + 7))] [3, 4, 5, 6, 0] rfl ?_
          exact hkc (v4 + 7) d17
        · refine r_aload_n C 5 dL_law__1200 rfl rfl ?_
          refine r_iconst C dL_law__1201 ?_
          refine r_lald C dL_law__1202 la_194 ly_194 (fun t18 => ?_)
          refine r_iload C 0 dL_law__1203 rfl ?_
          refine r_i2l C dL_law__1205 ?_
          refine r_lcmp_eq C 1212 dL_law__1206 dL_law__1207 (by decide) (fun _ => ?_) (fun _ => ?_)
          · refine r_goto C 3533 dL_law__1212 (by decide) ?_
            refine r_iinc C 6 [(4, i9 (v4 + 7)), (6, i9 r14), (5, i9 r4), (0, scf b), (1, rf G 0), (2, rf G 174), (3, rf G 194)] dL_law__3533 rfl (by decide) rfl ?_
            refine r_goto C 23 dL_law__3536 (by decide) ?_
            refine ss_wide (k' := k + 12) (n' := n + 80) (show k + 2 + 0 + 0 ≤ k + 12 by omega) (show n + 12 + 0 + 0 ≤ n + 80 by omega) ?_
            refine ss_ls [(0, scf b), (1, rf G 0), (2, rf G 174), (3, rf G 194), (4, i9 (v4 + 7))] [3, 4, 5, 6, 0] rfl ?_
            exact hkc (v4 + 7) d17
          · refine r_iconst C dL_law__1210 ?_
            exact ss_none
      · refine r_iconst C dL_law__1193 ?_
        exact ss_none
  · refine r_iconst C dL_law__1141 ?_
    refine r_goto C 1146 dL_law__1142 (by decide) ?_
    refine r_aload_n C 3 dL_law__1146 rfl rfl ?_
    refine r_callHL C hNc [rf G 194, i9 1, i9 t2, i9 t1, rf G 0] dL_law__1147 (t_L_span C.h1 C.h2 t1 t2 1 d) mwh_L_218 (by decide) (show k + 2 ≤ 601024 by omega) (show n + 12 ≤ 7293034 by omega) rfl rfl (Nat.le_of_ble_eq_true rfl) (fun r19 d20 => ?_)
    show SS G X 8 (k + 2) (n + 12) 1150 [(0, scf b), (1, rf G 0), (2, rf G 174), (3, rf G 194), (4, i9 v4)] [i9 r19] d20 _
    refine r_istore C [(5, i9 r19), (0, scf b), (1, rf G 0), (2, rf G 174), (3, rf G 194), (4, i9 v4)] dL_law__1150 (by decide) rfl ?_
    refine r_aload_n C 3 dL_law__1152 rfl rfl ?_
    refine r_aload_nC C 1 dL_law__1153 rfl rfl ?_
    refine r_iload C 5 dL_law__1154 rfl ?_
    refine r_iconst C dL_law__1156 ?_
    refine r_iadd C dL_law__1157 ?_
    refine r_scld C hSC dL_law__1158 (fun t21 => ?_)
    refine r_aload_nC C 1 dL_law__1159 rfl rfl ?_
    refine r_iload C 5 dL_law__1160 rfl ?_
    refine r_iconst C dL_law__1162 ?_
    refine r_iadd C dL_law__1163 ?_
    refine r_scld C hSC dL_law__1164 (fun t22 => ?_)
    refine r_aload_nC C 1 dL_law__1165 rfl rfl ?_
    refine r_iload C 5 dL_law__1166 rfl ?_
    refine r_iconst C dL_law__1168 ?_
    refine r_iadd C dL_law__1169 ?_
    refine r_scld C hSC dL_law__1170 (fun t23 => ?_)
    refine r_if_eq C (b := 0) 1178 dL_law__1171 (by decide) (fun _ => ?_) (fun _ => ?_)
    · refine r_iconst C dL_law__1178 ?_
      refine r_callVL C [i9 0, i9 t22, i9 t21, rf G 174] dL_law__1179 (t_X12_span_174 C.h1 C.h2 t21 t22 0 d20) mw_L_221 mv_X12_span la_174 ly_174 rfl (by decide) (show k + 2 + 0 ≤ 601024 by omega) (show n + 12 + 0 ≤ 7293034 by omega) rfl rfl (Nat.le_of_ble_eq_true rfl) (fun r24 d25 => ?_)
      show SS G X 8 (k + 2 + 0) (n + 12 + 0) 1182 [(5, i9 r19), (0, scf b), (1, rf G 0), (2, rf G 174), (3, rf G 194), (4, i9 v4)] [i9 r24] d25 _
      refine r_istore C [(6, i9 r24), (5, i9 r19), (0, scf b), (1, rf G 0), (2, rf G 174), (3, rf G 194), (4, i9 v4)] dL_law__1182 (by decide) rfl ?_
      refine r_aload_n C 4 dL_law__1184 rfl rfl ?_
      refine r_callVL C [rf G 174] dL_law__1185 (t_X12_thrown_174 C.h1 C.h2 d25) mw_L_175 mv_X12_thrown la_174 ly_174 rfl (by decide) (show k + 2 + 0 + 0 ≤ 601024 by omega) (show n + 12 + 0 + 0 ≤ 7293034 by omega) rfl rfl (Nat.le_of_ble_eq_true rfl) (fun r26 d27 => ?_)
      show SS G X 8 (k + 2 + 0 + 0) (n + 12 + 0 + 0) 1188 [(6, i9 r24), (5, i9 r19), (0, scf b), (1, rf G 0), (2, rf G 174), (3, rf G 194), (4, i9 v4)] [i9 r26] d27 _
      refine r_iload C 1 dL_law__1188 rfl ?_
      refine r_icmp_eq C 1195 dL_law__1190 (by decide) (fun _ => ?_) (fun _ => ?_)
      · refine r_iload C 1 dL_law__1195 rfl ?_
        refine r_if_ne C (b := 0) 1212 dL_law__1197 (by decide) (fun _ => ?_) (fun _ => ?_)
        · refine r_goto C 3533 dL_law__1212 (by decide) ?_
          refine r_iinc C 6 [(4, i9 (v4 + 7)), (6, i9 r24), (5, i9 r19), (0, scf b), (1, rf G 0), (2, rf G 174), (3, rf G 194)] dL_law__3533 rfl (by decide) rfl ?_
          refine r_goto C 23 dL_law__3536 (by decide) ?_
          refine ss_wide (k' := k + 12) (n' := n + 80) (show k + 2 + 0 + 0 ≤ k + 12 by omega) (show n + 12 + 0 + 0 ≤ n + 80 by omega) ?_
          refine ss_ls [(0, scf b), (1, rf G 0), (2, rf G 174), (3, rf G 194), (4, i9 (v4 + 7))] [3, 4, 5, 6, 0] rfl ?_
          exact hkc (v4 + 7) d27
        · refine r_aload_n C 5 dL_law__1200 rfl rfl ?_
          refine r_iconst C dL_law__1201 ?_
          refine r_lald C dL_law__1202 la_194 ly_194 (fun t28 => ?_)
          refine r_iload C 0 dL_law__1203 rfl ?_
          refine r_i2l C dL_law__1205 ?_
          refine r_lcmp_eq C 1212 dL_law__1206 dL_law__1207 (by decide) (fun _ => ?_) (fun _ => ?_)
          · refine r_goto C 3533 dL_law__1212 (by decide) ?_
            refine r_iinc C 6 [(4, i9 (v4 + 7)), (6, i9 r24), (5, i9 r19), (0, scf b), (1, rf G 0), (2, rf G 174), (3, rf G 194)] dL_law__3533 rfl (by decide) rfl ?_
            refine r_goto C 23 dL_law__3536 (by decide) ?_
            refine ss_wide (k' := k + 12) (n' := n + 80) (show k + 2 + 0 + 0 ≤ k + 12 by omega) (show n + 12 + 0 + 0 ≤ n + 80 by omega) ?_
            refine ss_ls [(0, scf b), (1, rf G 0), (2, rf G 174), (3, rf G 194), (4, i9 (v4 + 7))] [3, 4, 5, 6, 0] rfl ?_
            exact hkc (v4 + 7) d27
          · refine r_iconst C dL_law__1210 ?_
            exact ss_none
      · refine r_iconst C dL_law__1193 ?_
        exact ss_none
    · refine r_iconst C dL_law__1174 ?_
      refine r_goto C 1179 dL_law__1175 (by decide) ?_
      refine r_callVL C [i9 1, i9 t22, i9 t21, rf G 174] dL_law__1179 (t_X12_span_174 C.h1 C.h2 t21 t22 1 d20) mw_L_221 mv_X12_span la_174 ly_174 rfl (by decide) (show k + 2 + 0 ≤ 601024 by omega) (show n + 12 + 0 ≤ 7293034 by omega) rfl rfl (Nat.le_of_ble_eq_true rfl) (fun r29 d30 => ?_)
      show SS G X 8 (k + 2 + 0) (n + 12 + 0) 1182 [(5, i9 r19), (0, scf b), (1, rf G 0), (2, rf G 174), (3, rf G 194), (4, i9 v4)] [i9 r29] d30 _
      refine r_istore C [(6, i9 r29), (5, i9 r19), (0, scf b), (1, rf G 0), (2, rf G 174), (3, rf G 194), (4, i9 v4)] dL_law__1182 (by decide) rfl ?_
      refine r_aload_n C 4 dL_law__1184 rfl rfl ?_
      refine r_callVL C [rf G 174] dL_law__1185 (t_X12_thrown_174 C.h1 C.h2 d30) mw_L_175 mv_X12_thrown la_174 ly_174 rfl (by decide) (show k + 2 + 0 + 0 ≤ 601024 by omega) (show n + 12 + 0 + 0 ≤ 7293034 by omega) rfl rfl (Nat.le_of_ble_eq_true rfl) (fun r31 d32 => ?_)
      show SS G X 8 (k + 2 + 0 + 0) (n + 12 + 0 + 0) 1188 [(6, i9 r29), (5, i9 r19), (0, scf b), (1, rf G 0), (2, rf G 174), (3, rf G 194), (4, i9 v4)] [i9 r31] d32 _
      refine r_iload C 1 dL_law__1188 rfl ?_
      refine r_icmp_eq C 1195 dL_law__1190 (by decide) (fun _ => ?_) (fun _ => ?_)
      · refine r_iload C 1 dL_law__1195 rfl ?_
        refine r_if_ne C (b := 0) 1212 dL_law__1197 (by decide) (fun _ => ?_) (fun _ => ?_)
        · refine r_goto C 3533 dL_law__1212 (by decide) ?_
          refine r_iinc C 6 [(4, i9 (v4 + 7)), (6, i9 r29), (5, i9 r19), (0, scf b), (1, rf G 0), (2, rf G 174), (3, rf G 194)] dL_law__3533 rfl (by decide) rfl ?_
          refine r_goto C 23 dL_law__3536 (by decide) ?_
          refine ss_wide (k' := k + 12) (n' := n + 80) (show k + 2 + 0 + 0 ≤ k + 12 by omega) (show n + 12 + 0 + 0 ≤ n + 80 by omega) ?_
          refine ss_ls [(0, scf b), (1, rf G 0), (2, rf G 174), (3, rf G 194), (4, i9 (v4 + 7))] [3, 4, 5, 6, 0] rfl ?_
          exact hkc (v4 + 7) d32
        · refine r_aload_n C 5 dL_law__1200 rfl rfl ?_
          refine r_iconst C dL_law__1201 ?_
          refine r_lald C dL_law__1202 la_194 ly_194 (fun t33 => ?_)
          refine r_iload C 0 dL_law__1203 rfl ?_
          refine r_i2l C dL_law__1205 ?_
          refine r_lcmp_eq C 1212 dL_law__1206 dL_law__1207 (by decide) (fun _ => ?_) (fun _ => ?_)
          · refine r_goto C 3533 dL_law__1212 (by decide) ?_
            refine r_iinc C 6 [(4, i9 (v4 + 7)), (6, i9 r29), (5, i9 r19), (0, scf b), (1, rf G 0), (2, rf G 174), (3, rf G 194)] dL_law__3533 rfl (by decide) rfl ?_
            refine r_goto C 23 dL_law__3536 (by decide) ?_
            refine ss_wide (k' := k + 12) (n' := n + 80) (show k + 2 + 0 + 0 ≤ k + 12 by omega) (show n + 12 + 0 + 0 ≤ n + 80 by omega) ?_
            refine ss_ls [(0, scf b), (1, rf G 0), (2, rf G 174), (3, rf G 194), (4, i9 (v4 + 7))] [3, 4, 5, 6, 0] rfl ?_
            exact hkc (v4 + 7) d32
          · refine r_iconst C dL_law__1210 ?_
            exact ss_none
      · refine r_iconst C dL_law__1193 ?_
        exact ss_none

theorem rt_inj {v w : Int} {d e : D9} (h : rt v d = rt w e) : v = w ∧ d = e := by
  have h1 := Option.some.inj h
  have h2 := congrArg Prod.fst h1
  have h3 := congrArg Prod.snd h1
  exact ⟨Sum.inl.inj h2, h3⟩
/-- both laid a layer on a skin -/
theorem AI.lay {d : D9} {s a b e val : Int} {c : Option R9} {m : D9 → Option R9} {f : Nat → Int} (v : INV d) (hs : 0 ≤ s ∧ s < d 175 1) (hL : sk (d 175) s 4 < 4) (ha : C5 a) (hb : C5 b) (he : C5 e)
    (hC : ∀ d1, m_X6_addLayer_9_22 s a b e d = rt (sk (d 175) s 4 + 1) d1 → c = rt val d1)
    (hM : ∀ d', d' 175 = d 175 → ∃ d0, MS d' d0 ∧ d0 174 3 = 0 ∧ d0 175 = d 175 ∧ ∀ d2, m_X12_addLayer_174 s a b e d0 = rt 0 d2 → sk (d2 175) s 4 = sk (d 175) s 4 + 1 → m d' = rt val d2) : AI d c m f := by
  have q := v.1
  obtain ⟨x2, _, _, x5⟩ := p_addLayer (a := a) (b := b) (e := e) q.1 rfl hs hL
  obtain ⟨d1, y1, y2, _, _⟩ := T_layer q.1 q.2 hs hL ha hb he x5
  refine AI.mk v val (hC d1 y1) (WM.of fun k u _ => y2 k (by omega)) (y2 175 (by omega)) (fun d' h => ?_)
  obtain ⟨d0, m1, m2, m4, m5⟩ := hM d' h
  obtain ⟨d2, z2, z3, z5⟩ := p_addLayer (a := a) (b := b) (e := e) q.1 m4 hs hL
  obtain ⟨d1', w1, _, w3, w4⟩ := T_layer q.1 q.2 hs hL ha hb he z5
  rw [y1] at w1
  have ee := (rt_inj w1).2
  subst ee
  refine ⟨d2, m5 d2 z2 z5.1, m1.1.wm.tr (WM.of fun k _ u => z3 k u), ?_, fun k u w => ?_, ⟨w3, w4⟩, ?_⟩
  · rw [z3 194 (by omega)]; exact m1.2
  · rw [z3 k (by omega)]; exact m1.1.1 k (by unfold SCR; omega)
  · rw [z3 174 (by omega)]; exact m2
theorem o_layer {s a b e : Int} {d : D9} (v : INV d) (hs : I32 s) (ha : I32 a) (hb : I32 b) (he : I32 e) : AI d (m_X11_layer_0 s a b e d) (m_X12_layer_174 s a b e) fN := by
  have q := v.1
  have n := TKn q.1
  unfold T7n at n
  have hC := m_X11_layer_0.eq_1 s a b e d
  rw [q_askSkin hs (RWs q.2).1 (by omega)] at hC
  by_cases x : 0 ≤ s ∧ s < d 175 1
  · rw [if_pos x, cl_rt, ask_i ha (by omega)] at hC
    have k4 := (TKs q.1 s x.1 x.2).2.2.2.2.1
    have r4 := ((RWs q.2).2 s x.1 x.2).1.2.2.2.2.1
    by_cases y : (0 ≤ a ∧ a ≤ 9999) ∧ (0 ≤ b ∧ b ≤ 9999) ∧ 0 ≤ e ∧ e ≤ 9999
    · rw [if_pos y.1, cl_rt, ask_i hb (by omega), if_pos y.2.1, cl_rt, ask_i he (by omega), if_pos y.2.2, cl_rt, ld_in (by omega), r4, w32_id (by omega), cl_id] at hC
      by_cases z : sk (d 175) s 4 < 4
      · rw [if_pos (show sk (d 175) s 4 < w32 4 from z)] at hC
        refine AI.lay (val := sk (d 175) s 4 + 1) v x z y.1 y.2.1 y.2.2 (fun d1 h => hC.trans h) (fun d' h => ?_)
        have e1 := (m3 d' 0).1.trans h
        refine ⟨up d' 174 3 0, MS.u3 d' 0, m3w _ _, e1, fun d2 u w => ?_⟩
        unfold m_X12_layer_174
        rw [pf_v, isSkin_t q.1 e1 hs, cl_rt, dec_t x, bi_t, t1_0, if_pos ne10, areCounts_i ha hb he, cl_rt, dec_t y, bi_t, t1_0, if_pos ne10, sk_of e1 (by omega), cl_rt, w32_id (by omega), if_pos (show sk (d 175) s 4 ≠ w32 4 from by rw [w32_id (by omega)]; omega), u, cl_rt, sk_of rfl (by omega), cl_rt, w]
      · rw [if_neg (show ¬ sk (d 175) s 4 < w32 4 from z)] at hC
        refine AG.ai v (AG.ret q (-1) hC (fun d' q' h => ?_))
        have e1 := (m3 d' 0).1.trans h
        refine ⟨up d' 174 3 0, ?_, MS.u3 d' 0, m3w _ _⟩
        unfold m_X12_layer_174
        rw [pf_v, isSkin_t q.1 e1 hs, cl_rt, dec_t x, bi_t, t1_0, if_pos ne10, areCounts_i ha hb he, cl_rt, dec_t y, bi_t, t1_0, if_pos ne10, sk_of e1 (by omega), cl_rt, w32_id (by omega), if_neg (show ¬ sk (d 175) s 4 ≠ w32 4 from by rw [w32_id (by omega)]; omega)]
    · have hC2 : m_X11_layer_0 s a b e d = th 0 d := by
        rw [hC]
        by_cases y1 : 0 ≤ a ∧ a ≤ 9999
        · rw [if_pos y1, cl_rt, ask_i hb (by omega)]
          by_cases y2 : 0 ≤ b ∧ b ≤ 9999
          · rw [if_pos y2, cl_rt, ask_i he (by omega), if_neg (fun h => y ⟨y1, y2, h⟩), cl_th]
          · rw [if_neg y2, cl_th]
        · rw [if_neg y1, cl_th]
      refine AG.ai v (AG.thr q 0 hC2 (fun d' q' h => ?_))
      have e1 := (m3 d' 0).1.trans h
      unfold m_X12_layer_174
      rw [pf_v, isSkin_t q.1 e1 hs, cl_rt, dec_t x, bi_t, t1_0, if_pos ne10, areCounts_i ha hb he, cl_rt, dec_f y, bi_f, t0_0, if_neg (by omega), p_fails, cl_rt]
      exact thr1 d' 2
  · rw [if_neg x, cl_th] at hC
    refine AG.ai v (AG.thr q 2 hC (fun d' q' h => ?_))
    have e1 := (m3 d' 0).1.trans h
    unfold m_X12_layer_174
    rw [pf_v, isSkin_t q.1 e1 hs, cl_rt, dec_f x, bi_f, t0_0, if_neg (by omega), p_fails, cl_rt]
    exact thr1 d' 1
theorem o_drip {s age b c h seed : Int} {d : D9} (v : INV d) (hs : I32 s) (hA : I32 age) (hb : I32 b) (hc : I32 c) (hh : I32 h) : AI d (m_X11_drip_0 s age b c h seed d) (m_X12_drip_174 s age b c h seed) fN := by
  have q := v.1
  have n := TKn q.1
  unfold T7n at n
  have h10 := (TKl q.1).2.2.2.2.2.1
  have h6 := (TKl q.1).2.1
  have rl := RWl q.2
  have hC := m_X11_drip_0.eq_1 s age b c h seed d
  rw [q_askSkin hs (RWs q.2).1 (by omega)] at hC
  by_cases x : 0 ≤ s ∧ s < d 175 1
  · rw [if_pos x, cl_rt, askDrip_i hA hb hc hh] at hC
    have k4 := (TKs q.1 s x.1 x.2).2.2.2.2.1
    have r4 := ((RWs q.2).2 s x.1 x.2).1.2.2.2.2.1
    by_cases y : (0 ≤ age ∧ age ≤ 400) ∧ (0 ≤ b ∧ b ≤ 9999) ∧ (0 ≤ c ∧ c ≤ 9999) ∧ 0 ≤ h ∧ h ≤ 99
    · obtain ⟨yA, yb, yc, yh⟩ := id y
      have g := grn_rng q.1 (age := age) yb yc yh
      have dr := (drw_r (seed := seed) g.2 h10).2
      rw [if_pos y, cl_rt, ld_in (by omega), r4, w32_id (by omega)] at hC
      by_cases z : sk (d 175) s 4 < 4
      · rw [if_pos (show sk (d 175) s 4 < w32 4 from z), q_grown (by rw [rl.2.1]; omega) yb yA yc yh, cl_rt, rl.2.1, div9_in (by omega), tdiv_pos (by omega), show gn (d 175 6) b age.toNat (10 * c * h) / 1000 = grn (d 175) age b c h from rfl, q_drawn q.1 rl g.2, cl_rt] at hC
        refine AI.lay (val := drw (d 175 10) (grn (d 175) age b c h) seed) (a := drw (d 175 10) (grn (d 175) age b c h) seed) (b := b) (e := c) v x z dr yb yc (fun d1 u => by rw [hC, u, cl_rt]) (fun d' u => ?_)
        have e1 := (m3 d' 0).1.trans u
        refine ⟨up (up d' 174 3 0) 174 24 (1103515245 * seed + 12345), (MS.u3 d' 0).tr (MS.w (by unfold SCR; omega) (by decide) (by omega) (by intro _; decide)), ?_, ?_, fun d2 u2 w => ?_⟩
        · rw [up_us, us_ne (by omega), m3w]
        · rw [up_o (by omega), e1]
        · unfold m_X12_drip_174
          rw [pf_v, isSkin_t q.1 e1 hs, cl_rt, dec_t x, bi_t, t1_0, if_pos ne10, isDrip_i hA hb hc hh, cl_rt, dec_t y, bi_t, t1_0, if_pos ne10, sk_of e1 (by omega), cl_rt, w32_id (by omega), if_pos (show sk (d 175) s 4 ≠ w32 4 from by rw [w32_id (by omega)]; omega), p_drip q.1 e1 yA yb yc yh, cl_rt, u2, cl_rt]
      · rw [if_neg (show ¬ sk (d 175) s 4 < w32 4 from z)] at hC
        refine AG.ai v (AG.ret q (-1) hC (fun d' q' u => ?_))
        have e1 := (m3 d' 0).1.trans u
        refine ⟨up d' 174 3 0, ?_, MS.u3 d' 0, m3w _ _⟩
        unfold m_X12_drip_174
        rw [pf_v, isSkin_t q.1 e1 hs, cl_rt, dec_t x, bi_t, t1_0, if_pos ne10, isDrip_i hA hb hc hh, cl_rt, dec_t y, bi_t, t1_0, if_pos ne10, sk_of e1 (by omega), cl_rt, w32_id (by omega), if_neg (show ¬ sk (d 175) s 4 ≠ w32 4 from by rw [w32_id (by omega)]; omega)]
    · rw [if_neg y, cl_th] at hC
      refine AG.ai v (AG.thr q 0 hC (fun d' q' u => ?_))
      have e1 := (m3 d' 0).1.trans u
      unfold m_X12_drip_174
      rw [pf_v, isSkin_t q.1 e1 hs, cl_rt, dec_t x, bi_t, t1_0, if_pos ne10, isDrip_i hA hb hc hh, cl_rt, dec_f y, bi_f, t0_0, if_neg (by omega), p_fails, cl_rt]
      exact thr1 d' 2
  · rw [if_neg x, cl_th] at hC
    refine AG.ai v (AG.thr q 2 hC (fun d' q' u => ?_))
    have e1 := (m3 d' 0).1.trans u
    unfold m_X12_drip_174
    rw [pf_v, isSkin_t q.1 e1 hs, cl_rt, dec_f x, bi_f, t0_0, if_neg (by omega), p_fails, cl_rt]
    exact thr1 d' 1

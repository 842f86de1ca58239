/-! image, restore -/
theorem q_askImage {p : Int} {d : D9} (h : I32 p) : m_X11_askImage p d = if 0 ≤ p ∧ p ≤ 2 then rt 0 d else th 2 d := by
  unfold m_X11_askImage m_X11_askImage_c9
  rw [w32_id h, show w32 3 = 3 from rfl]
  by_cases a : p < 0
  · rw [if_pos a, if_neg (by omega)]
  · rw [if_neg a]
    by_cases b : p < 3
    · rw [if_pos b, if_pos (by omega)]
    · rw [if_neg b, if_neg (by omega)]
theorem t2_0 : w32 2 = 2 := rfl
theorem q_imageC {p : Int} {d : D9} (h : 0 ≤ p ∧ p ≤ 2) : ∃ s, m_X11_image_0 p d = rt 0 (up s 39 p.toNat 1) ∧ PCW d s 0 (62 + 37 * p.toNat) 37 := by
  unfold m_X11_image_0
  rw [q_askImage (by unfold I32; omega), if_pos h, cl_rt]
  obtain rfl | rfl | rfl : p = 0 ∨ p = 1 ∨ p = 2 := by omega
  · obtain ⟨s, a, b⟩ := q_X10_62_0 d
    rw [t0_0, if_pos rfl, a, cl_rt, sd_in (by omega)]
    exact ⟨s, rfl, b⟩
  · obtain ⟨s, a, b⟩ := q_X10_99_0 d
    rw [t1_0, if_neg ne10, if_pos rfl, a, cl_rt, sd_in (by omega)]
    exact ⟨s, rfl, b⟩
  · obtain ⟨s, a, b⟩ := q_X10_136_0 d
    rw [t2_0, if_neg (by omega), if_neg (by omega), if_pos rfl, a, cl_rt, sd_in (by omega)]
    exact ⟨s, rfl, b⟩
theorem q_restoreC {p : Int} {d : D9} (h : 0 ≤ p ∧ p ≤ 2) (g : d 39 p.toNat = 1) : ∃ s, m_X11_restore_0 p d = rt 0 s ∧ PCW d s (62 + 37 * p.toNat) 0 37 := by
  unfold m_X11_restore_0
  rw [q_askImage (by unfold I32; omega), if_pos h, cl_rt]
  obtain rfl | rfl | rfl : p = 0 ∨ p = 1 ∨ p = 2 := by omega
  · obtain ⟨s, a, b⟩ := q_X10_0_62 d
    rw [t0_0, if_pos rfl, ld_in (by omega), g, t1_0, if_pos ne10, a, cl_rt]
    exact ⟨s, rfl, b⟩
  · obtain ⟨s, a, b⟩ := q_X10_0_99 d
    rw [t1_0, if_neg ne10, if_pos rfl, ld_in (by omega), g, t1_0, if_pos ne10, a, cl_rt]
    exact ⟨s, rfl, b⟩
  · obtain ⟨s, a, b⟩ := q_X10_0_136 d
    rw [t2_0, if_neg (by omega), if_neg (by omega), if_pos rfl, ld_in (by omega), g, t1_0, if_pos ne10, a, cl_rt]
    exact ⟨s, rfl, b⟩
theorem q_restoreN {p : Int} {d : D9} (h : 0 ≤ p ∧ p ≤ 2) (g : d 39 p.toNat = 0) : m_X11_restore_0 p d = th 1 d := by
  unfold m_X11_restore_0
  rw [q_askImage (by unfold I32; omega), if_pos h, cl_rt]
  obtain rfl | rfl | rfl : p = 0 ∨ p = 1 ∨ p = 2 := by omega
  · rw [t0_0, if_pos rfl, ld_in (by omega), g, t0_0, if_neg (by omega)]
  · rw [t1_0, if_neg ne10, if_pos rfl, ld_in (by omega), g, t0_0, if_neg (by omega)]
  · rw [t2_0, if_neg (by omega), if_neg (by omega), if_pos rfl, ld_in (by omega), g, t0_0, if_neg (by omega)]
theorem o_image {p : Int} {d : D9} (v : INV d) (hp : I32 p) : AI d (m_X11_image_0 p d) (m_X12_image_174 p) fB := by
  have q := v.1
  by_cases x : 0 ≤ p ∧ p ≤ 2
  · obtain ⟨s, hC, hs⟩ := q_imageC (d := d) x
    refine Or.inl ⟨0, _, hC, fun d' h => ?_⟩
    obtain ⟨d2, e2, z1, z2⟩ := p_imageL (p := p) (d := up (up d' 174 3 0) 177 p.toNat 1) x
    have hM : m_X12_image_174 p d' = rt 0 d2 := by
      unfold m_X12_image_174 m_X12_image_174_c18
      rw [w32_id hp, within_i hp (by omega), cl_rt, w32_bi, dec_t x, bi_t, if_neg ne10, pf_v, m3w, t0_0, if_pos (by omega), sd_in (by omega)]
      exact e2
    have g0 : ∀ k, k ≠ 39 → k ≠ 194 → k ≠ 174 → k ≠ 176 → k ≠ 177 → d2 k = s k := fun k a b c e f => by
      rw [z1 k e, up_o f, up_o c, h k b, up_o a]
    have g : ∀ k, (k < 63 ∨ 174 < k) → k ≠ 39 → k ≠ 194 → k ≠ 174 → k ≠ 176 → k ≠ 177 → d2 k = d k := fun k j a b c e f => by
      rw [g0 k a b c e f]; exact hs.1 k (by omega)
    have g4 : ∀ j, j ≠ 3 → d2 174 j = d 174 j := fun j a => by
      rw [z1 174 (by omega), up_o (by omega), up_us, us_ne a, h 174 (by omega), up_o (by omega), hs.1 174 (by omega)]
    have g39 : d2 39 = us (d 39) p.toNat 1 := by
      rw [z1 39 (by omega), up_o (by omega), up_o (by omega), h 39 (by omega), up_us, hs.1 39 (by omega)]
    have g177 : d2 177 = us (d 177) p.toNat 1 := by
      rw [z1 177 (by omega), up_us, up_o (by omega), h 177 (by omega), up_o (by omega), hs.1 177 (by omega)]
    have g176 : ∀ j : Nat, d2 176 j = if 1604 * p ≤ j ∧ (j : Int) < 1604 * p + 1604 then d 175 ((j : Int) - 1604 * p).toNat else d 176 j := fun j => by
      rw [z2]
      simp (disch := omega) only [up_o]
      rw [h 175 (by omega), h 176 (by omega), up_o (by omega), up_o (by omega), hs.1 175 (by omega), hs.1 176 (by omega)]
    have i175 : d2 175 = d 175 := g 175 (by omega) (by omega) (by omega) (by omega) (by omega) (by omega)
    obtain ⟨i1, i2, i3, i4⟩ := v.2
    have im : IM d2 := by
      intro i hi
      rw [g39, g177]
      by_cases e : i = p.toNat
      · rw [us_eq e, us_eq e]
        have ht : ∀ j : Nat, j < 1604 → d2 176 (1604 * i + j) = d 175 j := fun j hj => by
          rw [g176, if_pos (by omega)]
          congr 1; omega
        refine ⟨rfl, Or.inr ⟨rfl, TK_all ht q.1, RW_all ht q.1 (RW_p q.1 q.2 (fun k j a b c => ?_))⟩⟩
        show d2 (k + 62 + 37 * i) j = d k j
        rw [g0 _ (by omega) (by omega) (by omega) (by omega) (by omega), show k + 62 + 37 * i = k + (62 + 37 * p.toNat) by omega]
        exact hs.2 k j a b c
      · rw [us_ne e, us_ne e]
        obtain ⟨a, b⟩ := i1 i hi
        refine ⟨a, ?_⟩
        rcases b with b | ⟨b1, b2, b3⟩
        · exact Or.inl b
        · have ht : ∀ j : Nat, j < 1604 → d2 176 (1604 * i + j) = d 176 (1604 * i + j) := fun j hj => by
            rw [g176, if_neg (by omega)]
          refine Or.inr ⟨b1, TK_all ht b2, RW_all ht b2 (RW_c b3 (fun k c e => ?_))⟩
          show d2 (k + 62 + 37 * i) = d (k + 62 + 37 * i)
          rw [g0 _ (by omega) (by omega) (by omega) (by omega) (by omega)]
          exact hs.1 _ (by omega)
    have fc : FC d2 := by
      unfold FC
      rw [g 53 (by omega) (by omega) (by omega) (by omega) (by omega) (by omega), g4 20 (by omega), g4 21 (by omega)]
      exact i3
    have e51 := g 51 (by omega) (by omega) (by omega) (by omega) (by omega) (by omega)
    refine ⟨d2, hM, ⟨⟨by rw [i175]; exact q.1, by rw [i175]; exact RW_c q.2 (fun k a b => g k (by omega) (by omega) (by omega) (by omega) (by omega) (by omega))⟩, im, TX_c i2 (by rw [e51]; exact ⟨rfl, rfl, rfl⟩) (g4 _ (by omega)) (g4 _ (by omega)) (g4 _ (by omega)) (g _ (by omega) (by omega) (by omega) (by omega) (by omega) (by omega)) (g _ (by omega) (by omega) (by omega) (by omega) (by omega) (by omega)), fc, TY_c i4 (fun k a b => g k (by omega) (by omega) (by omega) (by omega) (by omega) (by omega)) (fun k a b => g k (by omega) (by omega) (by omega) (by omega) (by omega) (by omega))⟩, ?_, ?_⟩
    · rw [z1 194 (by omega), up_o (by omega), up_o (by omega)]
    · rw [z1 174 (by omega), up_o (by omega), m3w]
  · refine AG.ai v (AG.thr q 2 ?_ (fun d' q' e => ?_))
    · unfold m_X11_image_0
      rw [q_askImage hp, if_neg x, cl_th]
    · refine ⟨0, up d' 174 3 1, ?_, MS.u3 d' 1, up_same _ _ _ _⟩
      unfold m_X12_image_174 m_X12_image_174_c18
      rw [w32_id hp, within_i hp (by omega), cl_rt, w32_bi, dec_f x, bi_f, if_pos rfl, pf_v, m3w, t1_0, if_neg (by omega)]
theorem o_restore {p : Int} {d : D9} (v : INV d) (hp : I32 p) : AI d (m_X11_restore_0 p d) (m_X12_restore_174 p) fS := by
  have q := v.1
  by_cases x : 0 ≤ p ∧ p ≤ 2
  · obtain ⟨a39, b39⟩ := v.2.1 p.toNat (by omega)
    rcases b39 with b39 | ⟨b1, b2, b3⟩
    · refine Or.inr ⟨1, d, ⟨?_, by decide⟩, fun d' h => ⟨0, up d' 174 3 2, ?_, ?_, up_o (by decide), up_same _ _ _ _⟩⟩
      · exact q_restoreN x (a39.trans b39)
      · unfold m_X12_restore_174 m_X12_restore_174_c31
        rw [w32_id hp, within_i hp (by omega), cl_rt, w32_bi, dec_t x, bi_t, if_pos ne10, ld_in (by omega), h 177 (by omega), b39, t0_0, if_neg (by omega), pf_v, m3w, t2_0, if_neg (by omega)]
      · exact (h.sm.tr (SM.u3 d' 2)).inv v
    · obtain ⟨s, hC, hs⟩ := q_restoreC (d := d) x (a39.trans b1)
      refine Or.inl ⟨0, _, hC, fun d' h => ?_⟩
      obtain ⟨d2, e2, z1, z2⟩ := p_restoreL (p := p) (d := up d' 174 3 0) x
      have hM : m_X12_restore_174 p d' = rt 0 d2 := by
        unfold m_X12_restore_174 m_X12_restore_174_c31
        rw [w32_id hp, within_i hp (by omega), cl_rt, w32_bi, dec_t x, bi_t, if_pos ne10, ld_in (by omega), h 177 (by omega), hs.1 177 (by omega), b1, t1_0, if_pos ne10, pf_v, m3w, t0_0, if_pos (by omega)]
        exact e2
      have g0 : ∀ k, k ≠ 194 → k ≠ 174 → k ≠ 175 → d2 k = s k := fun k a b c => by
        rw [z1 k c, up_o b, h k a]
      have ht : ∀ j : Nat, j < 1604 → d2 175 j = d 176 (1604 * p.toNat + j) := fun j hj => by
        rw [z2, if_pos (by omega), up_o (by omega), h 176 (by omega), hs.1 176 (by omega)]
        show d 176 (1604 * p + ((j : Int) - 0)).toNat = _
        congr 1; omega
      have w : WM d d2 := by
        refine ((WM.of fun k a b => hs.1 k (by omega)).tr (h.sm.wm)).tr ⟨fun k a b c => by rw [z1 k c, up_o (by intro e; subst e; exact a (by unfold SCR; omega))], ?_⟩
        rw [z1 51 (by omega), z1 174 (by omega), up_o (by omega), up_us, us_ne (by omega), us_ne (by omega), us_ne (by omega), us_ne (by omega), us_ne (by omega)]
        exact ⟨⟨rfl, rfl, rfl⟩, rfl, rfl, rfl, rfl, rfl⟩
      refine ⟨d2, hM, ⟨⟨TK_all ht b2, RW_all ht b2 (RW_p b2 b3 (fun k j a b c => ?_))⟩, w.iv v.2⟩, by rw [z1 194 (by omega), up_o (by omega)], by rw [z1 174 (by omega), m3w]⟩
      show d2 k j = d (k + 62 + 37 * p.toNat) j
      rw [g0 k (by omega) (by omega) (by omega), show k + 62 + 37 * p.toNat = k + (62 + 37 * p.toNat) by omega]
      exact hs.2 k j a b c
  · refine AG.ai v (AG.thr q 2 ?_ (fun d' q' e => ?_))
    · unfold m_X11_restore_0
      rw [q_askImage hp, if_neg x, cl_th]
    · refine ⟨0, up d' 174 3 1, ?_, MS.u3 d' 1, up_same _ _ _ _⟩
      unfold m_X12_restore_174 m_X12_restore_174_c31
      rw [w32_id hp, within_i hp (by omega), cl_rt, w32_bi, dec_f x, bi_f, if_neg (by omega), pf_v, m3w, t1_0, if_neg (by omega)]

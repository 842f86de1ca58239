/-! twenty bytes of a text -/
theorem byte_rng (a : Int) : 0 ≤ and9 a 255 ∧ and9 a 255 ≤ 255 := by
  have e : and9 a 255 = and9 255 a := by unfold and9; rw [Int32.and_comm]
  rw [e, and9_g (by omega)]
  have := Nat.and_le_left (n := (255 : Int).toNat) (m := (a % 4294967296).toNat)
  have e2 : (255 : Int).toNat = 255 := rfl
  omega
/-- a tape (cell k) with its length (cell h, field f), n bytes on -/
def FE (d s : D9) (k h f : Nat) (g : Int → Int) (n : Int) : Prop := (∀ k', k' ≠ k → k' ≠ h → s k' = d k') ∧ (∀ j, j ≠ f → s h j = d h j) ∧ s h f = d h f + n ∧ ∀ j : Nat, s k j = if d h f ≤ j ∧ (j : Int) < d h f + n then g (j - d h f) else d k j
theorem FE.z (d : D9) (k h f : Nat) (g : Int → Int) : FE d d k h f g 0 := ⟨fun _ _ _ => rfl, fun _ _ => rfl, by omega, fun j => by rw [if_neg (by omega)]⟩
theorem FE.st {d s : D9} {k h f : Nat} {g : Int → Int} {n : Int} (x : FE d s k h f g n) (hk : k ≠ h) (h0 : 0 ≤ d h f ∧ 0 ≤ n) : FE d (up (up s k (d h f + n).toNat (g n)) h f (d h f + n + 1)) k h f g (n + 1) := by
  obtain ⟨x1, x2, x3, x4⟩ := x
  refine ⟨fun k' a b => by rw [up_o b, up_o a]; exact x1 k' a b, fun j a => by rw [up_us, us_ne a, up_o (Ne.symm hk)]; exact x2 j a, by rw [up_us, us_eq rfl]; omega, fun j => ?_⟩
  rw [up_o hk, up_us]
  by_cases e : j = (d h f + n).toNat
  · rw [us_eq e, if_pos (by omega), show (j : Int) - d h f = n by omega]
  · rw [us_ne e, x4 j]
    by_cases c : d h f ≤ j ∧ (j : Int) < d h f + n
    · rw [if_pos c, if_pos (by omega)]
    · rw [if_neg c, if_neg (by omega)]
theorem q_turn {x sh : Int} {d s : D9} {g : Int → Int} {n : Int} {K : Int → Int → D9 → Option R9} (h : FE d s 52 51 1 g n) (hT : 0 ≤ d 51 1 ∧ 0 ≤ n ∧ d 51 1 + n < 400) (hs : 0 ≤ sh ∧ sh ≤ 24) (hg : g n = and9 (ush9 x sh) 255) : ∃ s', b_X8_append_51_c3 K x sh s = K x (sh + (-8)) s' ∧ FE d s' 52 51 1 g (n + 1) := by
  refine ⟨_, ?_, h.st (by decide) (by omega)⟩
  have b := byte_rng (ush9 x sh)
  rw [b_X8_append_51_c3, w32_id (by omega), if_neg (by omega), h.2.2.1, w32_id (a := 400) (by omega), w32_id (by omega), if_neg (by omega), sd_in (by omega), pf_v, up_o (by decide), h.2.2.1, hg, Int.emod_eq_of_lt (by omega) (by omega), Int.emod_eq_of_lt (by omega) (by omega)]
theorem q_append {x : Int} {d s : D9} {g : Int → Int} {n : Int} (h : FE d s 52 51 1 g n) (hT : 0 ≤ d 51 1 ∧ 0 ≤ n ∧ d 51 1 + n + 4 ≤ 400) (g0 : g n = and9 (ush9 x 24) 255) (g1 : g (n + 1) = and9 (ush9 x 16) 255) (g2 : g (n + 1 + 1) = and9 (ush9 x 8) 255) (g3 : g (n + 1 + 1 + 1) = and9 (ush9 x 0) 255) : ∃ s', m_X8_append_51 x s = rt 0 s' ∧ FE d s' 52 51 1 g (n + 4) := by
  unfold m_X8_append_51 m_X8_append_51_c3 FU
  obtain ⟨s1, a1, b1⟩ := q_turn (sh := 24) (K := fix9 (fun _ _ _ => none) (fun k => b_X8_append_51_c3 k) 999999) h (by omega) (by omega) g0
  obtain ⟨s2, a2, b2⟩ := q_turn (sh := 16) (K := fix9 (fun _ _ _ => none) (fun k => b_X8_append_51_c3 k) 999998) b1 (by omega) (by omega) g1
  obtain ⟨s3, a3, b3⟩ := q_turn (sh := 8) (K := fix9 (fun _ _ _ => none) (fun k => b_X8_append_51_c3 k) 999997) b2 (by omega) (by omega) g2
  obtain ⟨s4, a4, b4⟩ := q_turn (sh := 0) (K := fix9 (fun _ _ _ => none) (fun k => b_X8_append_51_c3 k) 999996) b3 (by omega) (by omega) g3
  refine ⟨s4, ?_, by rw [show n + 4 = n + 1 + 1 + 1 + 1 by omega]; exact b4⟩
  rw [fx2, a1, show (24 : Int) + (-8) = 16 from rfl, fx2, a2, show (16 : Int) + (-8) = 8 from rfl, fx2, a3, show (8 : Int) + (-8) = 0 from rfl, fx2, a4, fx2, b_X8_append_51_c3, if_pos (by decide)]
def sel (a b c e g i : Int) : Int := if 4 ≤ i then (if 8 ≤ i then (if 12 ≤ i then (if 16 ≤ i then g else e) else c) else b) else a
def gby (a b c e g i : Int) : Int := and9 (ush9 (sel a b c e g i) (24 - 8 * and9 i 3)) 255
theorem p_feedL {a b c e g : Int} {d : D9} (hT : 0 ≤ d 174 7 ∧ d 174 7 + 20 ≤ 400) : ∃ d2, m_X12_feed_174_c23 a b c e g 0 d = rt (d 174 7 + 20) d2 ∧ FE d d2 178 174 7 (gby a b c e g) 20 := by
  have z := fix_fu (z := fun _ _ _ _ _ _ _ => none) (B := fun k => b_X12_feed_174_c23 k) (fun k i (s : D9) => k a b c e g i s) 0 20 (fun i s => up (up s 178 (d 174 7 + i).toNat (gby a b c e g i)) 174 7 (d 174 7 + i + 1)) (fun i s => 0 ≤ i ∧ FE d s 178 174 7 (gby a b c e g) i) (fun s => rt (d 174 7 + 20) s) d (by omega) ⟨by omega, FE.z _ _ _ _ _⟩ ?_ ?_
  · exact ⟨_, z.2, z.1.2⟩
  · intro k s hI
    simp only [b_X12_feed_174_c23]
    rw [if_pos (by decide), hI.2.2.2.1]
  · intro k i s hi hI
    refine ⟨⟨by omega, hI.2.st (by decide) (by omega)⟩, ?_⟩
    have body : ∀ v, v = sel a b c e g i → m_X12_feed_174_c76 k a b c e g i v s = k a b c e g (i + 1) (up (up s 178 (d 174 7 + i).toNat (gby a b c e g i)) 174 7 (d 174 7 + i + 1)) := fun v hv => by
      unfold m_X12_feed_174_c76
      rw [hI.2.2.2.1, sd_in (by omega), pf_v, up_o (by decide), hI.2.2.2.1, hv]; rfl
    simp only [b_X12_feed_174_c23]
    rw [w32_id (a := i) (by omega), w32_id (a := 20) (by omega), w32_id (a := 4) (by omega), w32_id (a := 8) (by omega), w32_id (a := 12) (by omega), w32_id (a := 16) (by omega), if_neg (by omega)]
    by_cases h4 : 4 ≤ i
    · rw [if_pos h4]
      by_cases h8 : 8 ≤ i
      · rw [if_pos h8]
        by_cases h12 : 12 ≤ i
        · rw [if_pos h12]
          by_cases h16 : 16 ≤ i
          · rw [if_pos h16, body _ (by unfold sel; rw [if_pos h4, if_pos h8, if_pos h12, if_pos h16])]
          · rw [if_neg h16, body _ (by unfold sel; rw [if_pos h4, if_pos h8, if_pos h12, if_neg h16])]
        · rw [if_neg h12, body _ (by unfold sel; rw [if_pos h4, if_pos h8, if_neg h12])]
      · rw [if_neg h8, body _ (by unfold sel; rw [if_pos h4, if_neg h8])]
    · rw [if_neg h4, body _ (by unfold sel; rw [if_neg h4])]
theorem o_feed {a b c e g : Int} {d : D9} (v : INV d) : AI d (m_X11_feed_0 a b c e g d) (m_X12_feed_174 a b c e g) fZ := by
  have q := v.1
  obtain ⟨i1, i2, i3, i4⟩ := v.2
  obtain ⟨⟨x1, x2, x3⟩, xr, xt⟩ := id i2
  have hC := m_X11_feed_0.eq_1 a b c e g d
  rw [x1, w32_id (by omega), w32_id (a := 400) (by omega)] at hC
  by_cases y : d 174 7 + 20 ≤ 400
  · rw [if_pos y] at hC
    obtain ⟨s1, a1, b1⟩ := q_append (x := a) (FE.z d 52 51 1 (gby a b c e g)) (by omega) rfl rfl rfl rfl
    obtain ⟨s2, a2, b2⟩ := q_append (x := b) b1 (by omega) rfl rfl rfl rfl
    obtain ⟨s3, a3, b3⟩ := q_append (x := c) b2 (by omega) rfl rfl rfl rfl
    obtain ⟨s4, a4, b4⟩ := q_append (x := e) b3 (by omega) rfl rfl rfl rfl
    obtain ⟨s5, a5, b5⟩ := q_append (x := g) b4 (by omega) rfl rfl rfl rfl
    rw [a1, cl_rt, a2, cl_rt, a3, cl_rt, a4, cl_rt, a5, cl_rt] at hC
    rw [show (0 : Int) + 4 + 4 + 4 + 4 + 4 = 20 from rfl] at b5
    obtain ⟨y1, y2, y3, y4⟩ := b5
    rw [x1] at y3 y4
    refine Or.inl ⟨_, s5, hC, fun d' h => ?_⟩
    have g2 : ∀ k, k ≠ 51 → k ≠ 52 → k ≠ 194 → d' k = d k := fun k u w z => (h k z).trans (y1 k w u)
    have e7 : (up d' 174 3 0) 174 7 = d 174 7 := by rw [up_us, us_ne (by decide), g2 174 (by decide) (by decide) (by decide)]
    obtain ⟨d2, z1, z2, z3, z4, z5⟩ := p_feedL (a := a) (b := b) (c := c) (e := e) (g := g) (d := up d' 174 3 0) (by rw [e7]; omega)
    rw [e7] at z1 z4 z5
    have f : ∀ k, k ≠ 51 → k ≠ 52 → k ≠ 174 → k ≠ 178 → k ≠ 194 → d2 k = d k := fun k u1 u2 u3 u4 u5 => by
      rw [z2 k u4 u3, up_o u3, g2 k u1 u2 u5]
    have f4 : ∀ j, j ≠ 7 → j ≠ 3 → d2 174 j = d 174 j := fun j u w => by
      rw [z3 j u, up_us, us_ne w, g2 174 (by decide) (by decide) (by decide)]
    have f51 : d2 51 = s5 51 := by rw [z2 51 (by decide) (by decide), up_o (by decide), h 51 (by decide)]
    have f52 : d2 52 = s5 52 := by rw [z2 52 (by decide) (by decide), up_o (by decide), h 52 (by decide)]
    have t5 : d2 175 = d 175 := f 175 (by decide) (by decide) (by decide) (by decide) (by decide)
    refine ⟨d2, ?_, ⟨⟨by rw [t5]; exact q.1, by rw [t5]; exact RW_c q.2 (fun k u w => f k (by omega) (by omega) (by omega) (by omega) (by omega))⟩, IM_c i1 (f _ (by decide) (by decide) (by decide) (by decide) (by decide)) (f _ (by decide) (by decide) (by decide) (by decide) (by decide)) (f _ (by decide) (by decide) (by decide) (by decide) (by decide)) (fun k u w => f k (by omega) (by omega) (by omega) (by omega) (by omega)), ?_, ?_, TY_c i4 (fun k u w => f k (by omega) (by omega) (by omega) (by omega) (by omega)) (fun k u w => f k (by omega) (by omega) (by omega) (by omega) (by omega))⟩, ?_, ?_⟩
    · unfold m_X12_feed_174
      rw [pf_v, e7, w32_id (by omega), w32_id (a := 400) (by omega), if_pos y, z1, y3]
    · refine ⟨⟨by rw [f51, y3, z4], by rw [f51, y2 2 (by decide), f4 15 (by decide) (by decide), x2], by rw [f51, y2 3 (by decide), f4 16 (by decide) (by decide), x3]⟩, by rw [z4]; omega, fun j u => ?_⟩
      rw [f52, y4, z5]
      by_cases w : d 174 7 ≤ (j : Int) ∧ (j : Int) < d 174 7 + 20
      · rw [if_pos w, if_pos w]
        exact ⟨rfl, byte_rng _⟩
      · rw [if_neg w, if_neg w, up_o (by decide), g2 178 (by decide) (by decide) (by decide)]
        exact xt j u
    · unfold FC
      rw [f 53 (by decide) (by decide) (by decide) (by decide) (by decide), f4 20 (by decide) (by decide), f4 21 (by decide) (by decide)]
      exact i3
    · rw [z2 194 (by decide) (by decide), up_o (by decide)]
    · rw [z3 3 (by decide), up_us, us_eq rfl]
  · rw [if_neg y] at hC
    refine AG.ai v (Or.inl ⟨-1, d, hC, SM.rf d, fun d' sm => ⟨up d' 174 3 0, ?_, MS.u3 d' 0, m3w _ _⟩⟩)
    have e7 : (up d' 174 3 0) 174 7 = d 174 7 := by rw [up_us, us_ne (by decide), sm.2.2.1]
    unfold m_X12_feed_174
    rw [pf_v, e7, w32_id (by omega), w32_id (a := 400) (by omega), if_neg y]

/-! trays -/
theorem AI.ty {d d1 : D9} {c : Option R9} {m : D9 → Option R9} {f : Nat → Int} (v : INV d) (val : Int) (hc : c = rt val d1) (s : ∀ k, k ≠ 55 → k ≠ 56 → k ≠ 57 → d1 k = d k)
    (hm : ∀ d', X4 d1 d' → ∃ d2, m d' = rt val d2 ∧ (∀ k, k ≠ 174 → k ≠ 191 → k ≠ 192 → k ≠ 193 → d2 k = d' k) ∧ (∀ j, j ≠ 3 → d2 174 j = d' 174 j) ∧ TY d2 ∧ d2 174 3 = 0) : AI d c m f := by
  refine Or.inl ⟨val, d1, hc, fun d' x => ?_⟩
  obtain ⟨d2, h1, h2, h3, h4, h5⟩ := hm d' x
  obtain ⟨i1, i2, i3, i4⟩ := v.2
  have g : ∀ k, k < 55 ∨ (57 < k ∧ k < 191) → k ≠ 174 → d2 k = d k := fun k a b => by
    rw [h2 k b (by omega) (by omega) (by omega), x k (by omega), s k (by omega) (by omega) (by omega)]
  have g4 : ∀ j, j ≠ 3 → d2 174 j = d 174 j := fun j a => by
    rw [h3 j a, x 174 (by omega), s 174 (by omega) (by omega) (by omega)]
  refine ⟨d2, h1, ⟨⟨?_, ?_⟩, IM_c i1 (g _ (by omega) (by omega)) (g _ (by omega) (by omega)) (g _ (by omega) (by omega)) (fun k a b => g k (by omega) (by omega)), TX_c i2 ?_ (g4 _ (by omega)) (g4 _ (by omega)) (g4 _ (by omega)) (g _ (by omega) (by omega)) (g _ (by omega) (by omega)), ?_, h4⟩, h2 194 (by omega) (by omega) (by omega) (by omega), h5⟩
  · rw [g 175 (by omega) (by omega)]; exact v.1.1
  · rw [g 175 (by omega) (by omega)]; exact RW_c v.1.2 (fun k a b => g k (by omega) (by omega))
  · rw [g 51 (by omega) (by omega)]; exact ⟨rfl, rfl, rfl⟩
  · unfold FC
    rw [g 53 (by omega) (by omega), g4 20 (by omega), g4 21 (by omega)]
    exact i3
def ZR (d s : D9) (k : Nat) (lo n : Int) : Prop := (∀ k', k' ≠ k → s k' = d k') ∧ ∀ j : Nat, s k j = if lo ≤ j ∧ (j : Int) < lo + n then 0 else d k j
theorem ZR.st {d s : D9} {k : Nat} {lo n : Int} (h : ZR d s k lo n) (h0 : 0 ≤ lo ∧ 0 ≤ n) : ZR d (up s k (lo + n).toNat 0) k lo (n + 1) := by
  refine ⟨fun k' a => by rw [up_o a]; exact h.1 k' a, fun j => ?_⟩
  rw [up_us]
  by_cases e : j = (lo + n).toNat
  · rw [us_eq e, if_pos (by omega)]
  · rw [us_ne e, h.2 j]
    by_cases g : lo ≤ j ∧ (j : Int) < lo + n
    · rw [if_pos g, if_pos (by omega)]
    · rw [if_neg g, if_neg (by omega)]
theorem q_clearL {p : Int} {d : D9} (hp : 0 ≤ p ∧ p < 4) : ∃ d1, m_X9_clear_54_c17 p 0 d = rt 0 d1 ∧ ZR d d1 57 (p * 40) 40 := by
  have z := fix_fu (z := fun _ _ _ => none) (B := fun k => b_X9_clear_54_c17 k) (fun k i (s : D9) => k p i s) 0 40 (fun i s => up s 57 (p * 40 + i).toNat 0) (fun i s => 0 ≤ i ∧ ZR d s 57 (p * 40) i) (fun s => rt 0 s) d (by omega) ⟨by omega, fun _ _ => rfl, fun j => by rw [if_neg (by omega)]⟩ ?_ ?_
  · exact ⟨_, z.2, z.1.2⟩
  · intro k s hI
    simp only [b_X9_clear_54_c17]
    rw [if_pos (by decide)]
  · intro k i s hi hI
    refine ⟨⟨by omega, hI.2.st (by omega)⟩, ?_⟩
    simp only [b_X9_clear_54_c17]
    rw [w32_id (by omega), w32_id (by omega), if_neg (by omega), sd_in (by omega)]
theorem p_clearL {p : Int} {d : D9} (hp : 0 ≤ p ∧ p < 4) : ∃ d1, m_X12_tray_174_c69 p 0 d = rt 0 d1 ∧ ZR d d1 193 (40 * p) 40 := by
  have z := fix_fu (z := fun _ _ _ => none) (B := fun k => b_X12_tray_174_c69 k) (fun k i (s : D9) => k p i s) 0 40 (fun i s => up s 193 (40 * p + i).toNat 0) (fun i s => 0 ≤ i ∧ ZR d s 193 (40 * p) i) (fun s => rt 0 s) d (by omega) ⟨by omega, fun _ _ => rfl, fun j => by rw [if_neg (by omega)]⟩ ?_ ?_
  · exact ⟨_, z.2, z.1.2⟩
  · intro k s hI
    simp only [b_X12_tray_174_c69]
    rw [if_pos (by decide)]
  · intro k i s hi hI
    refine ⟨⟨by omega, hI.2.st (by omega)⟩, ?_⟩
    simp only [b_X12_tray_174_c69]
    rw [w32_id (by omega), w32_id (by omega), if_neg (by omega), sd_in (by omega)]
theorem q_askTray {p : Int} {d : D9} (hp : I32 p) : m_X11_askTray p d = if 0 ≤ p ∧ p ≤ 3 then rt 0 d else th 2 d := by
  unfold m_X11_askTray m_X11_askTray_c9
  rw [w32_id hp]
  by_cases a : p < 0
  · rw [if_pos a, if_neg (by omega)]
  · rw [if_neg a]
    by_cases b : p ≤ 3
    · rw [if_pos (show p < w32 4 by rw [w32_id (by omega)]; omega), if_pos (by omega)]
    · rw [if_neg (show ¬ p < w32 4 by rw [w32_id (by omega)]; omega), if_neg (by omega)]
theorem p_isTray {p : Int} {d : D9} (hp : I32 p) : m_X12_isTray p d = rt (bi (decide (0 ≤ p ∧ p ≤ 3))) d := by
  unfold m_X12_isTray
  rw [w32_id hp, within_i hp (by omega), cl_rt, bi_m]
theorem o_tray {p a b : Int} {d : D9} (v : INV d) (hp : I32 p) (ha : I32 a) (hb : I32 b) : AI d (m_X11_tray_0 p a b d) (m_X12_tray_174 p a b) fN := by
  have q := v.1
  have hC := m_X11_tray_0.eq_1 p a b d
  rw [q_askTray hp] at hC
  have c41 : ∀ (d' : D9) (s : Int), 1 ≤ s ∧ s ≤ 2 → ∃ b' d2, m_X12_tray_174_c41 p a b s d' = rt b' d2 ∧ MS d' d2 ∧ d2 174 3 = s := fun d' s hs => by
    unfold m_X12_tray_174_c41
    rw [pf_v, m3w, w32_id (by omega), if_neg (by omega)]
    exact ⟨_, _, rfl, MS.u3 d' s, m3w _ _⟩
  have hM : ∀ d' : D9, m_X12_tray_174 p a b d' = m_X12_tray_174_c41 p a b (if 0 ≤ p ∧ p ≤ 3 then (if (0 ≤ a ∧ a ≤ 3) ∧ 0 ≤ b ∧ b ≤ 40 then 0 else 2) else 1) d' := fun d' => by
    unfold m_X12_tray_174
    rw [p_isTray hp, cl_rt, w32_bi]
    by_cases x : 0 ≤ p ∧ p ≤ 3
    · rw [dec_t x, bi_t, if_pos ne10, w32_id ha, within_i ha (by omega), cl_rt, w32_bi, if_pos x]
      by_cases y : 0 ≤ a ∧ a ≤ 3
      · rw [dec_t y, bi_t, if_neg ne10, w32_id hb, within_i hb (by omega), cl_rt, w32_bi]
        by_cases z : 0 ≤ b ∧ b ≤ 40
        · rw [dec_t z, bi_t, if_pos ne10, if_pos ⟨y, z⟩]
        · rw [dec_f z, bi_f, if_neg (show ¬ (0 : Int) ≠ 0 by omega), if_neg (fun g => z g.2)]
      · rw [dec_f y, bi_f, if_pos rfl, if_neg (fun g => y g.1)]
    · rw [dec_f x, bi_f, if_neg (by omega), if_neg x]
  by_cases x : 0 ≤ p ∧ p ≤ 3
  · rw [if_pos x, cl_rt, ask_i ha (by omega)] at hC
    by_cases y : (0 ≤ a ∧ a ≤ 3) ∧ 0 ≤ b ∧ b ≤ 40
    · obtain ⟨d1, e1, z1, z2⟩ := q_clearL (p := p) (d := up (up d 55 p.toNat a) 56 p.toNat b) (by omega)
      rw [if_pos y.1, cl_rt, ask_i hb (by omega), if_pos y.2, cl_rt, m_X9_clear_54, sd_in (by omega), sd_in (by omega), e1, cl_rt] at hC
      refine AI.ty v 0 hC (fun k g1 g2 g3 => by rw [z1 k g3, up_o g2, up_o g1]) (fun d' h => ?_)
      obtain ⟨d2, f1, f2, f3⟩ := p_clearL (p := p) (d := up (up (up d' 174 3 0) 191 p.toNat a) 192 p.toNat b) (by omega)
      refine ⟨d2, ?_, fun k g1 g2 g3 g4 => by rw [f2 k g4, up_o g3, up_o g2, up_o g1], fun j g => by rw [f2 174 (by omega), up_o (by omega), up_o (by omega), up_us, us_ne g], ?_, by rw [f2 174 (by omega), up_o (by omega), up_o (by omega), up_us, us_eq rfl]⟩
      · rw [hM, if_pos x, if_pos y, m_X12_tray_174_c41, pf_v, m3w, t0_0, if_pos (by omega), sd_in (by omega), sd_in (by omega), f1]
      · obtain ⟨t1, t2⟩ := v.2.2.2.2
        have a55 : d2 55 = us (d 55) p.toNat a := by
          rw [f2 55 (by omega)]; simp (disch := omega) only [up_o]; rw [h 55 (by omega), z1 55 (by omega)]; simp (disch := omega) only [up_o, up_us]
        have a56 : d2 56 = us (d 56) p.toNat b := by
          rw [f2 56 (by omega)]; simp (disch := omega) only [up_o]; rw [h 56 (by omega), z1 56 (by omega)]; simp (disch := omega) only [up_o, up_us]
        have a191 : d2 191 = us (d 191) p.toNat a := by
          rw [f2 191 (by omega)]; simp (disch := omega) only [up_o, up_us]; rw [h 191 (by omega), z1 191 (by omega)]; simp (disch := omega) only [up_o, up_us]
        have a192 : d2 192 = us (d 192) p.toNat b := by
          rw [f2 192 (by omega)]; simp (disch := omega) only [up_o, up_us]; rw [h 192 (by omega), z1 192 (by omega)]; simp (disch := omega) only [up_o, up_us]
        have a57 : ∀ j : Nat, d2 57 j = if p * 40 ≤ j ∧ (j : Int) < p * 40 + 40 then 0 else d 57 j := fun j => by
          rw [f2 57 (by omega)]; simp (disch := omega) only [up_o]; rw [h 57 (by omega), z2]; simp (disch := omega) only [up_o]
        have a193 : ∀ j : Nat, d2 193 j = if 40 * p ≤ j ∧ (j : Int) < 40 * p + 40 then 0 else d 193 j := fun j => by
          rw [f3]; simp (disch := omega) only [up_o]; rw [h 193 (by omega), z1 193 (by omega)]; simp (disch := omega) only [up_o]
        refine ⟨fun i g => ?_, fun j g => ?_⟩
        · rw [a55, a56, a191, a192]
          by_cases e : i = p.toNat
          · rw [us_eq e, us_eq e, us_eq e, us_eq e]; exact Or.inr ⟨y.2, rfl, y.1, rfl⟩
          · rw [us_ne e, us_ne e, us_ne e, us_ne e]; exact t1 i g
        · rw [a57, a193]
          by_cases e : p * 40 ≤ j ∧ (j : Int) < p * 40 + 40
          · rw [if_pos e, if_pos (by omega)]; omega
          · rw [if_neg e, if_neg (by omega)]; exact t2 j g
    · have hC2 : m_X11_tray_0 p a b d = th 0 d := by
        rw [hC]
        by_cases y1 : 0 ≤ a ∧ a ≤ 3
        · rw [if_pos y1, cl_rt, ask_i hb (by omega), if_neg (fun g => y ⟨y1, g⟩), cl_th]
        · rw [if_neg y1, cl_th]
      refine AG.ai v (AG.thr q 0 hC2 (fun d' q' h => ?_))
      rw [hM, if_pos x, if_neg y]
      exact c41 d' 2 (by omega)
  · rw [if_neg x, cl_th] at hC
    refine AG.ai v (AG.thr q 2 hC (fun d' q' h => ?_))
    rw [hM, if_neg x]
    exact c41 d' 1 (by omega)

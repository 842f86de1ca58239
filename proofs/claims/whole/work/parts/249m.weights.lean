/-! the weights -/
def bad (d : D9) (p lo hi i : Int) : Bool := decide (¬ (lo ≤ d 57 (p * 40 + i).toNat ∧ d 57 (p * 40 + i).toNat ≤ hi))
theorem q_allW {p lo hi : Int} {d : D9} (hp : 0 ≤ p ∧ p ≤ 3) (t : TY d) (hn : 0 ≤ d 56 p.toNat ∧ d 56 p.toNat ≤ 40) (hl : I32 lo) (hh : I32 hi) : m_X9_allWithin_54 p lo hi d = if ex (bad d p lo hi) (d 56 p.toNat).toNat 0 = true then rt 0 d else rt 1 d := by
  unfold I32 at hl hh
  have z := fix_xu (z := fun _ _ _ _ _ => none) (B := fun k => b_X9_allWithin_54_c3 k) (fun k i => k p lo hi i d) 0 (d 56 p.toNat) (bad d p lo hi) (rt 0 d) (rt 1 d) (by omega) ?_ ?_
  · rw [show d 56 p.toNat - 0 = d 56 p.toNat by omega] at z
    exact z
  · intro k
    simp only [b_X9_allWithin_54_c3]
    rw [ld_in (by omega), if_pos (Int.le_refl _)]; rfl
  · intro k i h0 h1
    have r := (t.2 (p * 40 + i).toNat (by omega))
    simp only [b_X9_allWithin_54_c3]
    rw [ld_in (by omega), w32_id (by omega), w32_id (by omega), if_neg (by omega), ld_in (by omega), w64_id (by omega), w64_id (by omega), w64_id (by omega)]
    unfold bad
    by_cases a : d 57 (p * 40 + i).toNat < lo
    · rw [if_pos a, dec_t (by omega), if_pos rfl]; rfl
    · rw [if_neg a]
      by_cases b : d 57 (p * 40 + i).toNat ≤ hi
      · rw [if_pos b, dec_f (by omega), if_neg (by decide)]
      · rw [if_neg b, dec_t (by omega), if_pos rfl]; rfl
def CPY (d s : D9) (k : Nat) (lo : Int) (g : Int → Int) (n : Int) : Prop := (∀ k', k' ≠ k → s k' = d k') ∧ ∀ j : Nat, s k j = if lo ≤ j ∧ (j : Int) < lo + n then g (j - lo) else d k j
theorem CPY.z (d : D9) (k : Nat) (lo : Int) (g : Int → Int) : CPY d d k lo g 0 := ⟨fun _ _ => rfl, fun j => by rw [if_neg (by omega)]⟩
theorem CPY.st {d s : D9} {k : Nat} {lo n : Int} {g : Int → Int} (h : CPY d s k lo g n) (h0 : 0 ≤ lo ∧ 0 ≤ n) : CPY d (up s k (lo + n).toNat (g n)) k lo g (n + 1) := by
  refine ⟨fun k' a => by rw [up_o a]; exact h.1 k' a, fun j => ?_⟩
  rw [up_us]
  by_cases e : j = (lo + n).toNat
  · rw [us_eq e, if_pos (by omega), show (j : Int) - lo = n by omega]
  · rw [us_ne e, h.2 j]
    by_cases c : lo ≤ j ∧ (j : Int) < lo + n
    · rw [if_pos c, if_pos (by omega)]
    · rw [if_neg c, if_neg (by omega)]
theorem q_cp36 {p : Int} {d : D9} (hp : 0 ≤ p ∧ p ≤ 3) : ∃ d1, m_X11_weights_0_c66 p 0 d = rt 1 d1 ∧ CPY d d1 36 0 (fun i => d 57 (p * 40 + i).toNat) 5 := by
  have z := fix_fu (z := fun _ _ _ => none) (B := fun k => b_X11_weights_0_c66 k) (fun k i (s : D9) => k p i s) 0 5 (fun i s => up s 36 (0 + i).toNat (d 57 (p * 40 + i).toNat)) (fun i s => 0 ≤ i ∧ CPY d s 36 0 (fun i => d 57 (p * 40 + i).toNat) i) (fun s => rt 1 s) d (by omega) ⟨by omega, CPY.z _ _ _ _⟩ ?_ ?_
  · exact ⟨_, z.2, z.1.2⟩
  · intro k s hI
    simp only [b_X11_weights_0_c66]
    rw [if_pos (by decide)]; rfl
  · intro k i s hi hI
    refine ⟨⟨by omega, hI.2.st (by omega)⟩, ?_⟩
    simp only [b_X11_weights_0_c66]
    rw [w32_id (by omega), w32_id (by omega), if_neg (by omega), m_X9_numberAt_54, ld_in (by omega), cl_rt, sd_in (by omega), hI.2.1 57 (by omega), show 0 + i = i by omega]
theorem q_cp37 {p : Int} {d : D9} (hp : 0 ≤ p ∧ p ≤ 3) : ∃ d1, m_X11_weights_0_c66_1 p 0 d = rt 1 d1 ∧ CPY d d1 37 0 (fun i => d 57 (p * 40 + i).toNat) 5 := by
  have z := fix_fu (z := fun _ _ _ => none) (B := fun k => b_X11_weights_0_c66_1 k) (fun k i (s : D9) => k p i s) 0 5 (fun i s => up s 37 (0 + i).toNat (d 57 (p * 40 + i).toNat)) (fun i s => 0 ≤ i ∧ CPY d s 37 0 (fun i => d 57 (p * 40 + i).toNat) i) (fun s => rt 1 s) d (by omega) ⟨by omega, CPY.z _ _ _ _⟩ ?_ ?_
  · exact ⟨_, z.2, z.1.2⟩
  · intro k s hI
    simp only [b_X11_weights_0_c66_1]
    rw [if_pos (by decide)]; rfl
  · intro k i s hi hI
    refine ⟨⟨by omega, hI.2.st (by omega)⟩, ?_⟩
    simp only [b_X11_weights_0_c66_1]
    rw [w32_id (by omega), w32_id (by omega), if_neg (by omega), m_X9_numberAt_54, ld_in (by omega), cl_rt, sd_in (by omega), hI.2.1 57 (by omega), show 0 + i = i by omega]
theorem p_cp {m p : Int} {d : D9} (hp : 0 ≤ p ∧ p ≤ 3) : ∃ d1, m_X12_weights_174_c87 m p 0 d = rt 1 d1 ∧ CPY d d1 175 (if w32 m = 0 then 1134 else 1139) (fun i => d 193 (40 * p + i).toNat) 5 := by
  have z := fix_fu (z := fun _ _ _ _ => none) (B := fun k => b_X12_weights_174_c87 k) (fun k i (s : D9) => k m p i s) 0 5 (fun i s => up s 175 ((if w32 m = 0 then 1134 else 1139) + i).toNat (d 193 (40 * p + i).toNat)) (fun i s => 0 ≤ i ∧ CPY d s 175 (if w32 m = 0 then 1134 else 1139) (fun i => d 193 (40 * p + i).toNat) i) (fun s => rt 1 s) d (by omega) ⟨by omega, CPY.z _ _ _ _⟩ ?_ ?_
  · exact ⟨_, z.2, z.1.2⟩
  · intro k s hI
    simp only [b_X12_weights_174_c87]
    rw [if_pos (by decide)]; rfl
  · intro k i s hi hI
    refine ⟨⟨by omega, hI.2.st (by split <;> omega)⟩, ?_⟩
    simp only [b_X12_weights_174_c87, m_X12_weights_174_c108]
    rw [w32_id (a := 5) (by omega), w32_id (a := i) (by omega), if_neg (by omega)]
    by_cases e : w32 m = 0
    · rw [if_pos e, ld_in (by omega), sd_in (by omega), hI.2.1 193 (by omega), if_pos e]; rfl
    · rw [if_neg e, ld_in (by omega), sd_in (by omega), hI.2.1 193 (by omega), if_neg e]; rfl
theorem p_allW {m p : Int} {d e : D9} (hp : 0 ≤ p ∧ p ≤ 3) (t : TY d) (h3 : e 193 = d 193) : m_X12_weights_174_c51 m p 0 e = if ex (bad d p 0 99) 5 0 = true then rt 0 e else m_X12_weights_174_c87 m p 0 e := by
  have z := fix_xu (z := fun _ _ _ _ => none) (B := fun k => b_X12_weights_174_c51 k) (fun k i => k m p i e) 0 5 (bad d p 0 99) (rt 0 e) (m_X12_weights_174_c87 m p 0 e) (by omega) ?_ ?_
  · exact z
  · intro k
    simp only [b_X12_weights_174_c51]
    rw [if_pos (by decide)]
  · intro k i h0 hi
    have r := (t.2 (p * 40 + i).toNat (by omega))
    simp only [b_X12_weights_174_c51]
    rw [w32_id (by omega), w32_id (by omega), if_neg (by omega), ld_in (by omega), h3, show (40 * p + i) = p * 40 + i by omega, ← r.1, p_within ⟨by omega, by unfold I32; omega, by unfold I32; omega⟩, cl_rt, w32_bi]
    unfold bad
    by_cases b : 0 ≤ d 57 (p * 40 + i).toNat ∧ d 57 (p * 40 + i).toNat ≤ 99
    · rw [dec_t b, bi_t, if_pos ne10, dec_f (fun g => g b), if_neg (by decide)]
    · rw [dec_f b, bi_f, if_neg (show ¬ (0 : Int) ≠ 0 by omega), dec_t b, if_pos rfl]; rfl
theorem T_weights {t t' : Nat → Int} {d d1 : D9} {b : Bool} {g : Int → Int} (k : TK t) (r : RW d t) (hg : ∀ i, 0 ≤ i → i < 5 → 0 ≤ g i ∧ g i ≤ 99)
    (ht : ∀ j : Nat, t' j = if (if b = true then 1139 else 1134) ≤ (j : Int) ∧ (j : Int) < (if b = true then 1139 else 1134) + 5 then g (j - (if b = true then 1139 else 1134)) else t j)
    (c0 : CPY d d1 (if b = true then 37 else 36) 0 g 5) : TK t' ∧ RW d1 t' := by
  have n := TKn k
  unfold T7n at n
  have hN : ∀ j : Nat, j < 1134 ∨ 1144 ≤ j → t' j = t j := fun j h => by
    rw [ht, if_neg]
    cases b <;> simp <;> omega
  have hA : ∀ lo hi, hi ≤ 1134 ∨ 1144 ≤ lo → AGR t t' lo hi := fun lo hi h j x y => hN j (by omega)
  have nl := (TKy k).1
  have c6 : ∀ k, k < 36 ∨ 37 < k → d1 k = d k := fun k h => c0.1 k (by cases b <;> simp <;> omega)
  refine ⟨⟨T7n_c (hA _ _ (by omega)) (TKn k), T7l_c (hN 4 (by omega)) (hA _ _ (by omega)) (TKl k), T7p_c (hN 0 (by omega)) (hA _ _ (by omega)) (by omega) (TKp k), T7o_c (hN 0 (by omega)) (hN 2 (by omega)) (hA _ _ (by omega)) (by omega) (TKo k), T7s_c (by rw [hN 0 (by omega)]; omega) (hN 1 (by omega)) (by omega) (hA _ _ (by omega)) (TKs k), T7h_c (hN 3 (by omega)) (by omega) (hA _ _ (by omega)) (TKh k), T7y_c (hN 5 (by omega)) (hA _ _ (by omega)) (TKy k), ?_, T7r_c (hA _ _ (by omega)) (TKr k)⟩, R7l_t (hN 4 (by omega)) (hA _ _ (by omega)) (R7l_c (RWl r) (c6 _ (by omega))), R7p_t (hN 0 (by omega)) (hN 2 (by omega)) (by omega) (hA _ _ (by omega)) (R7p_c (RWp r) (c6 _ (by omega)) (c6 _ (by omega)) (c6 _ (by omega)) (c6 _ (by omega)) (c6 _ (by omega))), R7o_t (hN 2 (by omega)) (by omega) (hA _ _ (by omega)) (R7o_c (RWo r) (c6 _ (by omega)) (c6 _ (by omega))), R7s_t (hN 1 (by omega)) (by omega) (hA _ _ (by omega)) (hA _ _ (by omega)) (TKs k) (R7s_c (RWs r) (fun k x _ => c6 k (by omega))), R7h_t (hN 3 (by omega)) (by omega) (hA _ _ (by omega)) (R7h_c (RWh r) (c6 _ (by omega)) (c6 _ (by omega)) (c6 _ (by omega))), R7y_t (hN 5 (by omega)) (by omega) (hA _ _ (by omega)) (R7y_c (RWy r) (fun k x _ => c6 k (by omega))), ?_, R7r_t (hA _ _ (by omega)) (TKr k) (R7r_c (RWr r) (fun k x _ => c6 k (by omega)))⟩
  · intro i x y
    rw [ht]
    generalize (if b = true then (1139 : Int) else 1134) = L
    by_cases h : L ≤ ((1134 + i).toNat : Int) ∧ ((1134 + i).toNat : Int) < L + 5
    · rw [if_pos h]; exact hg _ (by omega) (by omega)
    · rw [if_neg h]; exact TKw k i x y
  · intro i x y
    obtain ⟨r1, r2⟩ := RWw r i x y
    rw [ht, ht]
    cases b
    · simp only [Bool.false_eq_true, if_false] at c0 ⊢
      rw [if_pos (by omega), if_neg (by omega), c0.2, if_pos (by omega), c0.1 37 (by omega)]
      exact ⟨by congr 1; omega, r2⟩
    · simp only [if_true] at c0 ⊢
      rw [if_neg (by omega), if_pos (by omega), c0.2, if_pos (by omega), c0.1 36 (by omega)]
      exact ⟨r1, by congr 1; omega⟩
theorem o_weights {m p : Int} {d : D9} (v : INV d) (hp : I32 p) : AI d (m_X11_weights_0 m p d) (m_X12_weights_174 m p) fS := by
  have q := v.1
  have t := v.2.2.2.2
  have hC := m_X11_weights_0.eq_1 m p d
  rw [q_askFilled hp t] at hC
  have c27 : ∀ (d' : D9) (s : Int), 1 ≤ s ∧ s ≤ 2 → ∃ b' d2, m_X12_weights_174_c27 m p s d' = rt b' d2 ∧ MS d' d2 ∧ d2 174 3 = s := fun d' s hs => by
    unfold m_X12_weights_174_c27
    rw [pf_v, m3w, w32_id (by omega), if_pos (by omega)]
    exact ⟨_, _, rfl, MS.u3 d' s, m3w _ _⟩
  by_cases a : 0 ≤ p ∧ p ≤ 3
  · rw [if_pos a] at hC
    rcases t.1 p.toNat (by omega) with ⟨b, c⟩ | ⟨b, c, c1, c2⟩
    · rw [if_pos b, cl_th] at hC
      refine AG.ai v (Or.inr ⟨1, d, ⟨hC, by decide⟩, SM.rf d, fun d' s => ?_⟩)
      unfold m_X12_weights_174
      rw [p_isTray hp, cl_rt, dec_t a, bi_t, t1_0, if_pos ne10, ld_in (by omega), s.1 191 (by unfold SCR; omega), c, if_neg (by omega)]
      exact c27 d' 2 (by omega)
    · rw [if_neg (by omega), cl_rt, ld_in (by omega), w32_id (by omega)] at hC
      have hM : ∀ d' : D9, d' 191 = d 191 → d' 192 = d 192 → m_X12_weights_174 m p d' = if d 56 p.toNat = 5 then m_X12_weights_174_c51 m p 0 (up d' 174 3 0) else rt 0 (up d' 174 3 0) := fun d' s1 s2 => by
        unfold m_X12_weights_174 m_X12_weights_174_c27
        rw [p_isTray hp, cl_rt, dec_t a, bi_t, t1_0, if_pos ne10, ld_in (by omega), s1, w32_id (by omega), if_pos (show d 191 p.toNat ≠ w32 (-1) by rw [w32_id (by omega)]; omega), pf_v, m3w, t0_0, if_neg (show ¬ (0 : Int) < 0 by omega), ld_in (by omega), up_o (by omega), s2, c, w32_id (by omega), w32_id (by omega)]
        rfl
      by_cases n5 : d 56 p.toNat = 5
      · rw [if_neg (by rw [n5]; decide), q_allW a t b (by unfold I32; omega) (by unfold I32; omega), n5, show ((5 : Int)).toNat = 5 from rfl] at hC
        cases hx : ex (bad d p 0 99) 5 0
        · have hg : ∀ i, 0 ≤ i → i < 5 → 0 ≤ d 57 (p * 40 + i).toNat ∧ d 57 (p * 40 + i).toNat ≤ 99 := fun i x y => by
            have := ex_false.mp hx i x (by omega)
            unfold bad at this
            exact Classical.byContradiction fun g => by rw [dec_t g] at this; exact absurd this (by decide)
          have hgg : (fun i : Int => d 193 (40 * p + i).toNat) = fun i => d 193 (p * 40 + i).toNat := by
            funext i; rw [show 40 * p + i = p * 40 + i by omega]
          rw [hx, if_neg (by decide), cl_rt, t1_0, if_pos ne10] at hC
          have fin : ∀ (bb : Bool) (d1 : D9), bb = decide (¬ w32 m = 0) → m_X11_weights_0 m p d = rt 1 d1 → CPY d d1 (if bb = true then 37 else 36) 0 (fun i => d 57 (p * 40 + i).toNat) 5 → AI d (m_X11_weights_0 m p d) (m_X12_weights_174 m p) fS := fun bb d1 hbb h1 h2 => by
            have g1 : ∀ k, k < 36 ∨ 37 < k → d1 k = d k := fun k h => h2.1 k (by cases bb <;> simp <;> omega)
            refine Or.inl ⟨1, d1, h1, fun d' h => ?_⟩
            have g2 : ∀ k, k < 36 ∨ 37 < k → k ≠ 194 → d' k = d k := fun k x y => (h k y).trans (g1 k x)
            obtain ⟨d2, z1, z2⟩ := p_cp (m := m) (p := p) (d := up d' 174 3 0) a
            have e193 : ∀ i, 0 ≤ i → i < 5 → (up d' 174 3 0) 193 (40 * p + i).toNat = d 57 (p * 40 + i).toNat := fun i x y => by
              rw [up_o (by omega), g2 193 (by omega) (by omega), (t.2 _ (by omega)).1, show 40 * p + i = p * 40 + i by omega]
            have z175 : ∀ j : Nat, d2 175 j = if (if bb = true then 1139 else 1134) ≤ (j : Int) ∧ (j : Int) < (if bb = true then 1139 else 1134) + 5 then d 57 (p * 40 + (j - (if bb = true then 1139 else 1134))).toNat else d 175 j := fun j => by
              rw [z2.2 j, hbb]
              by_cases e : w32 m = 0
              · rw [if_pos e, dec_f (fun g => g e)]
                simp only [Bool.false_eq_true, if_false]
                by_cases w : (1134 : Int) ≤ j ∧ (j : Int) < 1134 + 5
                · rw [if_pos w, if_pos w, e193 _ (by omega) (by omega)]
                · rw [if_neg w, if_neg w, up_o (by omega), g2 175 (by omega) (by omega)]
              · rw [if_neg e, dec_t e]
                simp only [if_true]
                by_cases w : (1139 : Int) ≤ j ∧ (j : Int) < 1139 + 5
                · rw [if_pos w, if_pos w, e193 _ (by omega) (by omega)]
                · rw [if_neg w, if_neg w, up_o (by omega), g2 175 (by omega) (by omega)]
            obtain ⟨k1, k2⟩ := T_weights (g := fun i => d 57 (p * 40 + i).toNat) q.1 q.2 hg z175 h2
            have m7 : M7 d' d2 := ⟨fun k x y => by rw [z2.1 k x, up_o y], fun j x => by rw [z2.1 174 (by omega), up_us, us_ne x]⟩
            refine ⟨d2, ?_, ⟨⟨k1, RW_c k2 (fun k x y => by rw [m7.1 k (by omega) (by omega), h k (by omega)])⟩, (((WM.of fun k x y => g1 k (by omega)).tr h.sm.wm).tr m7.wm).iv v.2⟩, m7.1 194 (by omega) (by omega), by rw [z2.1 174 (by omega), m3w]⟩
            rw [hM d' (g2 191 (by omega) (by omega)) (g2 192 (by omega) (by omega)), if_pos n5, p_allW a t (by rw [up_o (by omega), g2 193 (by omega) (by omega)]), hx, if_neg (by decide), z1]
          by_cases e : w32 m = 0
          · obtain ⟨d1, y1, y2⟩ := q_cp36 (p := p) (d := d) a
            rw [if_pos e, y1] at hC
            exact fin false d1 (by rw [dec_f (fun g => g e)]) hC y2
          · obtain ⟨d1, y1, y2⟩ := q_cp37 (p := p) (d := d) a
            rw [if_neg e, y1] at hC
            exact fin true d1 (by rw [dec_t e]) hC y2
        · rw [hx, if_pos rfl, cl_rt, t0_0, if_neg (by omega)] at hC
          refine AG.ai v (Or.inl ⟨0, d, hC, SM.rf d, fun d' s => ⟨up d' 174 3 0, ?_, MS.u3 d' 0, m3w _ _⟩⟩)
          rw [hM d' (s.1 191 (by unfold SCR; omega)) (s.1 192 (by unfold SCR; omega)), if_pos n5, p_allW a t (by rw [up_o (by omega)]; exact s.1 193 (by unfold SCR; omega)), hx, if_pos rfl]
      · rw [if_pos (show d 56 p.toNat ≠ w32 5 by rw [w32_id (by omega)]; exact n5)] at hC
        refine AG.ai v (Or.inl ⟨0, d, hC, SM.rf d, fun d' s => ⟨up d' 174 3 0, ?_, MS.u3 d' 0, m3w _ _⟩⟩)
        rw [hM d' (s.1 191 (by unfold SCR; omega)) (s.1 192 (by unfold SCR; omega)), if_neg n5]
  · rw [if_neg a, cl_th] at hC
    refine AG.ai v (Or.inr ⟨2, d, ⟨hC, by decide⟩, SM.rf d, fun d' s => ?_⟩)
    unfold m_X12_weights_174
    rw [p_isTray hp, cl_rt, dec_f a, bi_f, t0_0, if_neg (by omega)]
    exact c27 d' 1 (by omega)

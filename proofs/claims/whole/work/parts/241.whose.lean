/-! whose -/
def mS (t : Nat → Int) (k : Int) : Int := cM t k (t 3).toNat
def lS (t : Nat → Int) (p k : Int) : Int := cL t p (-1) k (t 3).toNat
def byS (t : Nat → Int) : Int := fo (fun k b => b * max 1 (mS t k)) 4 0 1
def prt (t : Nat → Int) (p k : Int) : Int := lS t p k * (byS t / max 1 (mS t k))
def alS (t : Nat → Int) (p : Int) : Int := fo (fun k a => a + prt t p k) 4 0 0
theorem mS_rng {t : Nat → Int} (k : TK t) (s : Int) : 0 ≤ mS t s ∧ mS t s ≤ 40 := by
  have n3 := (TKn k).2.2.2
  have := cM_rng t s (t 3).toNat
  unfold mS; omega
theorem lS_rng {t : Nat → Int} (p s : Int) (hs : s ≠ -1) : 0 ≤ lS t p s ∧ lS t p s ≤ mS t s := ⟨(cL_rng t p (-1) s (t 3).toNat).1, cL_le t p (-1) s hs (t 3).toNat⟩
theorem by_step {t : Nat → Int} (k : TK t) (i b : Int) (A : Int) (h : 1 ≤ b ∧ b ≤ A) : 1 ≤ b * max 1 (mS t i) ∧ b * max 1 (mS t i) ≤ A * 40 := by
  have := mS_rng k i
  exact mul_rng h (by omega)
theorem by_rng {t : Nat → Int} (k : TK t) : 1 ≤ byS t ∧ byS t ≤ 2560000 := by
  have h1 := by_step k 0 1 1 (by omega)
  have h2 := by_step k (0 + 1) _ _ h1
  have h3 := by_step k (0 + 1 + 1) _ _ h2
  have h4 := by_step k (0 + 1 + 1 + 1) _ _ h3
  unfold byS
  simp only [fo]
  omega
theorem prt_rng {t : Nat → Int} (k : TK t) (p s : Int) (hs : s ≠ -1) : 0 ≤ prt t p s ∧ prt t p s ≤ 102400000 := by
  have hb := by_rng k
  have hl := lS_rng (t := t) p s hs
  have hm := mS_rng k s
  have q1 : 0 ≤ byS t / max 1 (mS t s) := Int.ediv_nonneg (by omega) (by omega)
  have q2 : byS t / max 1 (mS t s) ≤ byS t := Int.ediv_le_self _ (by omega)
  have := mb (x := byS t / max 1 (mS t s)) (r := lS t p s) (A := 2560000) (R := 40) (by omega) (by omega) (by omega) (by omega)
  have q3 : 0 ≤ lS t p s * (byS t / max 1 (mS t s)) := Int.mul_nonneg hl.1 q1
  have q4 : lS t p s * (byS t / max 1 (mS t s)) = byS t / max 1 (mS t s) * lS t p s := Int.mul_comm _ _
  unfold prt
  omega
theorem al_rng {t : Nat → Int} (k : TK t) (p : Int) : 0 ≤ alS t p ∧ alS t p ≤ 409600000 ∧ prt t p 0 ≤ alS t p ∧ prt t p 1 ≤ alS t p ∧ prt t p 2 ≤ alS t p ∧ prt t p 3 ≤ alS t p := by
  have h0 := prt_rng k p 0 (by omega)
  have h1 := prt_rng k p 1 (by omega)
  have h2 := prt_rng k p 2 (by omega)
  have h3 := prt_rng k p 3 (by omega)
  have e : alS t p = 0 + prt t p 0 + prt t p 1 + prt t p 2 + prt t p 3 := rfl
  omega
theorem q_whose_2 {p s : Int} {d : D9} (q : Q7 d) (hp : 0 ≤ p ∧ p < d 175 0) (hs : 0 ≤ s ∧ s ≤ 3) : m_X10_whoseInto_1_53_c62 p s (byS (d 175)) 0 0 0 d = cl (m_X0_put_53 (prt (d 175) p s) (alS (d 175) p) d) (fun r1 d2 => rt (r1 % 2) d2) := by
  have hb := by_rng q.1
  have z := (fix_fu (z := fun _ _ _ _ _ _ _ => none) (B := fun k => b_X10_whoseInto_1_53_c62 k) (fun k i (c : Int × Int) => k p s (byS (d 175)) c.1 c.2 i d) 0 4 (fun i c => (if i = s then prt (d 175) p i else c.1, c.2 + prt (d 175) p i)) (fun i c => 0 ≤ i) (fun c => cl (m_X0_put_53 c.1 c.2 d) (fun r1 d2 => rt (r1 % 2) d2)) (0, 0) (by omega) (by omega) ?_ ?_).2
  · refine z.trans ?_
    rw [show ((4 : Int) - 0).toNat = 4 from rfl]
    have e2 : (fo (fun i (c : Int × Int) => (if i = s then prt (d 175) p i else c.1, c.2 + prt (d 175) p i)) 4 0 (0, 0)) = (prt (d 175) p s, alS (d 175) p) := by
      have : s = 0 ∨ s = 1 ∨ s = 2 ∨ s = 3 := by omega
      rcases this with rfl | rfl | rfl | rfl <;> rfl
    rw [e2]
  · intro k' c hI
    simp only [b_X10_whoseInto_1_53_c62]
    rw [if_pos (Int.le_refl _)]
  · intro k' i c hlt hI
    have hm := mS_rng q.1 i
    have hl := lS_rng (t := d 175) p i (by omega)
    refine ⟨by omega, ?_⟩
    simp only [b_X10_whoseInto_1_53_c62]
    rw [w32_id (by omega), w32_id (by omega), if_neg (by omega), q_likesOf q.1 q.2 hp (by omega) (by omega), cl_rt, q_ofSort q.1 q.2 (by omega), cl_rt, show cM (d 175) i (d 175 3).toNat = mS (d 175) i from rfl, show cL (d 175) p (-1) i (d 175 3).toNat = lS (d 175) p i from rfl, max9_in (by omega), w32_id (by omega), dvL_in (by omega), lt_v, lt_v, w32_id (by omega), divL_in (by omega), tdiv_pos (by omega), w32_id (by omega), show lS (d 175) p i * (byS (d 175) / max 1 (mS (d 175) i)) = prt (d 175) p i from rfl]
    by_cases x : i = s
    · rw [if_neg (by omega), if_pos x]
    · rw [if_pos x, if_neg x]
theorem q_whose_1 {p s : Int} {d : D9} (q : Q7 d) : m_X10_whoseInto_1_53_c22 p s 1 0 d = m_X10_whoseInto_1_53_c62 p s (byS (d 175)) 0 0 0 d := by
  have z := (fix_fu (z := fun _ _ _ _ _ => none) (B := fun k => b_X10_whoseInto_1_53_c22 k) (fun k i b => k p s b i d) 0 4 (fun k b => b * max 1 (mS (d 175) k)) (fun i b => 0 ≤ i) (fun b => m_X10_whoseInto_1_53_c62 p s b 0 0 0 d) 1 (by omega) (by omega) ?_ ?_).2
  · exact z
  · intro k' c hI
    simp only [b_X10_whoseInto_1_53_c22]
    rw [if_pos (Int.le_refl _)]
  · intro k' i c hlt hI
    have hm := mS_rng q.1 i
    refine ⟨by omega, ?_⟩
    simp only [b_X10_whoseInto_1_53_c22]
    rw [w32_id (by omega), w32_id (by omega), if_neg (by omega), q_ofSort q.1 q.2 (by omega), cl_rt, show cM (d 175) i (d 175 3).toNat = mS (d 175) i from rfl, max9_in (by omega), w32_id (by omega), lt_v]
/-! the model's two rows -/
def WR (d d0 : D9) (M L : Int → Int) : Prop := (∀ k, k ≠ 184 → k ≠ 185 → d k = d0 k) ∧ ∀ k : Int, 0 ≤ k → k < 4 → d 184 k.toNat = M k ∧ d 185 k.toNat = L k
theorem p_who_0 {p s : Int} {d0 : D9} : ∀ (m f : Nat) (i : Int) (d : D9), m < f → i + m = 4 → 0 ≤ i → (∀ k, k ≠ 184 → k ≠ 185 → d k = d0 k) → (∀ k : Int, 0 ≤ k → k < i → d 184 k.toNat = 0 ∧ d 185 k.toNat = 0) → ∃ d1, fix9 (fun _ _ _ _ => none) (fun k => b_X12_whose_174_c21 k) f p s i d = m_X12_whose_174_c48 p s 0 d1 ∧ WR d1 d0 (fun _ => 0) (fun _ => 0)
  | 0, f + 1, i, d, _, he, h0, hF, hz => by
    refine ⟨d, ?_, hF, fun k a b => hz k a (by omega)⟩
    rw [fx3, b_X12_whose_174_c21, if_pos (by rw [show i = 4 by omega]; exact Int.le_refl _)]
  | m + 1, f + 1, i, d, hf, he, h0, hF, hz => by
    obtain ⟨d1, a1, a2⟩ := p_who_0 (p := p) (s := s) (d0 := d0) m f (i + 1) (up (up d 184 i.toNat 0) 185 i.toNat 0) (by omega) (by omega) (by omega) (fun k x y => ((up_k y).trans (up_k x)).trans (hF k x y)) (fun k a b => by
      by_cases y : k = i
      · subst y
        exact ⟨by rw [up_k (by decide), up_same], up_same _ _ _ _⟩
      · have : k.toNat ≠ i.toNat := by omega
        rw [up_k (by decide), up_j this, up_j this, up_k (by decide)]
        exact hz k a (by omega))
    refine ⟨d1, ?_, a2⟩
    rw [fx3, b_X12_whose_174_c21, w32_id (by omega), w32_id (by omega), if_neg (by omega), sd_in (by omega), sd_in (by omega)]
    exact a1
  | _, 0, _, _, hf, _, _, _, _ => absurd hf (Nat.not_lt_zero _)
theorem p_who_1 {p s : Int} {d0 : D9} {t : Nat → Int} (k : TK t) (e0 : d0 175 = t) (hp : 0 ≤ p ∧ p < t 0) : ∀ (m f : Nat) (n : Nat) (d : D9), m < f → (n : Int) + m = t 3 → WR d d0 (fun k => cM t k n) (fun k => cL t p (-1) k n) → ∃ d1, fix9 (fun _ _ _ _ => none) (fun k => b_X12_whose_174_c48 k) f p s n d = m_X12_whose_174_c113 s 1 0 d1 ∧ WR d1 d0 (mS t) (lS t p)
  | 0, f + 1, n, d, _, he, hW => by
    have e : d 175 = t := (hW.1 175 (by decide) (by decide)).trans e0
    refine ⟨d, ?_, hW.1, fun k a b => ?_⟩
    · rw [fx3, b_X12_whose_174_c48, ld_in (by omega), show ((3 : Int).toNat) = 3 from rfl, e, if_pos (by rw [show (n : Int) = t 3 by omega]; exact Int.le_refl _)]
    · have := hW.2 k a b
      unfold mS lS
      rw [show (t 3).toNat = n by omega]; exact this
  | m + 1, f + 1, n, d, hf, he, hW => by
    obtain ⟨n0, n1, n2, n3⟩ := TKn k
    have e : d 175 = t := (hW.1 175 (by decide) (by decide)).trans e0
    have a0 := (TKh k n (by omega) (by omega)).1
    have w1 := hW.2 (hd t n 0) a0.1 (by omega)
    dsimp only at w1
    have e5 : (up d 184 (hd t n 0).toNat (cM t (hd t n 0) n + 1)) 175 = t := (up_k (by decide)).trans e
    have body : b_X12_whose_174_c48 (fix9 (fun _ _ _ _ => none) (fun k => b_X12_whose_174_c48 k) f) p s n d = fix9 (fun _ _ _ _ => none) (fun k => b_X12_whose_174_c48 k) f p s (n + 1) (up (up d 184 (hd t n 0).toNat (cM t (hd t n 0) n + 1)) 185 (hd t n 0).toNat (cL t p (-1) (hd t n 0) n + bi (lik t n p (-1)))) := by
      rw [b_X12_whose_174_c48, ld_in (by omega), show ((3 : Int).toNat) = 3 from rfl, e, w32_id (by omega), w32_id (by omega), if_neg (by omega), hd_of e (by omega), cl_rt, ld_in (by omega), w1.1, sd_in (by omega), hd_of e5 (by omega), cl_rt, ld_in (by omega), up_k (by decide), w1.2, p_isLike k e5 (by omega) hp (by omega), cl_rt, w32_bi, sd_in (by omega), sd_in (by omega)]
      cases lik t n p (-1) <;> simp [bi]
    obtain ⟨d1, a1, a2⟩ := p_who_1 (s := s) (d0 := d0) k e0 hp m f (n + 1) (up (up d 184 (hd t n 0).toNat (cM t (hd t n 0) n + 1)) 185 (hd t n 0).toNat (cL t p (-1) (hd t n 0) n + bi (lik t n p (-1)))) (by omega) (by omega) ⟨fun k x y => ((up_k y).trans (up_k x)).trans (hW.1 k x y), fun j a b => by
      have wj := hW.2 j a b
      dsimp only at wj ⊢
      rw [cM_s, cL_s, dec_f (show ¬ j = -1 by omega), Bool.false_or]
      by_cases y : j = hd t n 0
      · subst y
        rw [up_k (by decide), up_same, up_same, dec_t rfl, bi_t, Bool.true_and]
        exact ⟨rfl, rfl⟩
      · have : j.toNat ≠ (hd t n 0).toNat := by omega
        rw [up_k (by decide), up_j this, up_j this, up_k (by decide), dec_f (fun h => y h.symm), bi_f, Bool.false_and, bi_f, Int.add_zero, Int.add_zero]
        exact wj⟩
    refine ⟨d1, ?_, a2⟩
    rw [fx3, body]
    rw [show ((n + 1 : Nat) : Int) = (n : Int) + 1 by omega] at a1
    exact a1
  | _, 0, _, _, hf, _, _ => absurd hf (Nat.not_lt_zero _)
theorem p_who_3 {p s : Int} {d : D9} {t : Nat → Int} (k : TK t) (hs : 0 ≤ s ∧ s ≤ 3) (hW : ∀ i : Int, 0 ≤ i → i < 4 → d 184 i.toNat = mS t i ∧ d 185 i.toNat = lS t p i) : m_X12_whose_174_c157 s (byS t) 0 0 d = if alS t p = 0 ∨ mS t s = 0 then cl (m_X12_nothing_174 d) (fun r1 d2 => rt (r1 % 2) d2) else cl (m_X12_fraction_174 (prt t p s) (alS t p) d) (fun r5 d6 => rt (r5 % 2) d6) := by
  have hb := by_rng k
  have z := (fix_fu (z := fun _ _ _ _ _ => none) (B := fun k => b_X12_whose_174_c157 k) (fun k i a => k s (byS t) a i d) 0 4 (fun i a => a + prt t p i) (fun i a => 0 ≤ i ∧ 0 ≤ a ∧ a ≤ 102400000 * i) (fun a => if a = 0 ∨ mS t s = 0 then cl (m_X12_nothing_174 d) (fun r1 d2 => rt (r1 % 2) d2) else cl (m_X12_fraction_174 (prt t p s) a d) (fun r5 d6 => rt (r5 % 2) d6)) 0 (by omega) (by omega) ?_ ?_).2
  · exact z
  · intro k' a hI
    have hm := mS_rng k s
    obtain ⟨w1, w2⟩ := hW s hs.1 (by omega)
    simp only [b_X12_whose_174_c157]
    rw [if_pos (Int.le_refl _), w64_id (by omega), w64_id (by omega), ld_in (by omega), w1, w64_id (by omega), ld_in (by omega), w2, ld_in (by omega), w1, m_X12_whose_174_c225]
    by_cases x : a = 0
    · rw [if_pos x, if_pos (Or.inl x)]
    · rw [if_neg x]
      by_cases y : mS t s = 0
      · rw [if_neg (by omega), if_pos (Or.inr y)]
      · have e1 : max 1 (mS t s) = mS t s := by omega
        rw [if_pos y, if_neg (by omega), dvL_in (by omega), divL_in (by omega), tdiv_pos (by omega)]
        unfold prt
        rw [e1]
  · intro k' i a hlt hI
    have hm := mS_rng k i
    have hp' := prt_rng k p i (by omega)
    have hl := lS_rng (t := t) p i (by omega)
    obtain ⟨w1, w2⟩ := hW i hI.1 (by omega)
    refine ⟨by omega, ?_⟩
    simp only [b_X12_whose_174_c157]
    rw [w32_id (by omega), w32_id (by omega), if_neg (by omega), ld_in (by omega), w1, w64_id (by omega), w64_id (by omega), ld_in (by omega), w2, ld_in (by omega), w1, lt_v, lt_v]
    by_cases y : mS t i = 0
    · rw [if_neg (by omega)]
      have e0 : prt t p i = 0 := by
        unfold prt
        rw [show lS t p i = 0 by omega, Int.zero_mul]
      rw [e0]
    · have e1 : max 1 (mS t i) = mS t i := by omega
      rw [if_pos y, dvL_in (by omega), divL_in (by omega), tdiv_pos (by omega)]
      unfold prt
      rw [e1]
theorem p_who_2 {p s : Int} {d : D9} {t : Nat → Int} (k : TK t) (hW : ∀ i : Int, 0 ≤ i → i < 4 → d 184 i.toNat = mS t i ∧ d 185 i.toNat = lS t p i) : m_X12_whose_174_c113 s 1 0 d = m_X12_whose_174_c157 s (byS t) 0 0 d := by
  have z := (fix_fu (z := fun _ _ _ _ => none) (B := fun k => b_X12_whose_174_c113 k) (fun k i b => k s b i d) 0 4 (fun k b => b * max 1 (mS t k)) (fun i b => 0 ≤ i) (fun b => m_X12_whose_174_c157 s b 0 0 d) 1 (by omega) (by omega) ?_ ?_).2
  · exact z
  · intro k' c hI
    simp only [b_X12_whose_174_c113]
    rw [if_pos (Int.le_refl _)]
  · intro k' i c hlt hI
    have hm := mS_rng k i
    obtain ⟨w1, w2⟩ := hW i hI (by omega)
    refine ⟨by omega, ?_⟩
    simp only [b_X12_whose_174_c113]
    rw [w32_id (by omega), w32_id (by omega), if_neg (by omega), ld_in (by omega), w1, w64_id (by omega), w64_id (by omega), lt_v, ld_in (by omega), w1, lt_v]
    by_cases y : mS t i = 0
    · rw [if_neg (by omega), show max 1 (mS t i) = 1 by omega]
    · rw [if_pos y, show max 1 (mS t i) = mS t i by omega]
theorem MS.o2 {d d' : D9} (h : ∀ k, k ≠ 184 → k ≠ 185 → d' k = d k) : MS d d' :=
  ⟨⟨fun k hk => h k (by intro e; subst e; exact hk (by unfold SCR; omega)) (by intro e; subst e; exact hk (by unfold SCR; omega)), ⟨by rw [h 51 (by omega) (by omega)], by rw [h 51 (by omega) (by omega)], by rw [h 51 (by omega) (by omega)]⟩, by rw [h 174 (by omega) (by omega)], by rw [h 174 (by omega) (by omega)], by rw [h 174 (by omega) (by omega)], by rw [h 174 (by omega) (by omega)], by rw [h 174 (by omega) (by omega)]⟩, h 194 (by omega) (by omega)⟩
theorem o_whose {p s : Int} {d : D9} (q : Q7 d) (hp : I32 p) (hs : I32 s) : AF d (m_X11_whose_0 p s d) (m_X12_whose_174 p s) f1 := by
  obtain ⟨n0, n1, n2, n3⟩ := TKn q.1
  have ha := q_askHand q.1 q.2 hp
  by_cases hc : 0 ≤ p ∧ p < d 175 0
  · by_cases hk : pt (d 175) p 0 = 0
    · by_cases hD : 0 ≤ s ∧ s ≤ 3
      · have al := al_rng q.1 p
        have pr := prt_rng q.1 p s (by omega)
        have hm := mS_rng q.1 s
        have hmod : ∀ d' : D9, d' 175 = d 175 → ∃ d1, m_X12_whose_174 p s d' = (if alS (d 175) p = 0 ∨ mS (d 175) s = 0 then cl (m_X12_nothing_174 d1) (fun r1 d2 => rt (r1 % 2) d2) else cl (m_X12_fraction_174 (prt (d 175) p s) (alS (d 175) p) d1) (fun r5 d6 => rt (r5 % 2) d6)) ∧ MS d' d1 ∧ d1 174 3 = 0 := by
          intro d' e
          have e1 := (m3 d' 0).1.trans e
          obtain ⟨d1, a1, a2⟩ := p_who_0 (p := p) (s := s) (d0 := up d' 174 3 0) 4 FU 0 (up d' 174 3 0) (by decide) (by omega) (by omega) (fun _ _ _ => rfl) (fun k a b => by omega)
          obtain ⟨d2, b1, b2⟩ := p_who_1 (s := s) (d0 := up d' 174 3 0) q.1 e1 hc (d 175 3).toNat FU 0 d1 (by unfold FU; omega) (by omega) a2
          refine ⟨d2, ?_, (MS.u3 d' 0).tr (MS.o2 b2.1), by rw [b2.1 174 (by decide) (by decide)]; exact m3w d' 0⟩
          unfold m_X12_whose_174
          rw [p_sortFault q.1 e hp hs, hfa_0 ⟨hc, hk⟩, if_pos rfl, if_pos hD, cl_rt, pf_v, m3w, t0_0, if_pos (by omega)]
          rw [show m_X12_whose_174_c21 p s 0 (up d' 174 3 0) = _ from a1]
          rw [show m_X12_whose_174_c48 p s 0 d1 = _ from b1, p_who_2 q.1 b2.2, p_who_3 q.1 hD b2.2]
        have hcls : mS (d 175) s ≠ 0 → m_X11_whose_0 p s d = cl (cl (m_X0_put_53 (prt (d 175) p s) (alS (d 175) p) d) (fun r1 d2 => rt (r1 % 2) d2)) (fun r5 d6 => rt (r5 % 2) d6) := by
          intro x
          unfold m_X11_whose_0 m_X10_whoseInto_1_53
          rw [ha, if_pos hc, if_pos hk, cl_rt, ask_i hs (by omega), if_pos hD, cl_rt, q_ofSort q.1 q.2 hD, cl_rt, show cM (d 175) s (d 175 3).toNat = mS (d 175) s from rfl, w32_id (by omega), if_pos x, q_whose_1 q, q_whose_2 q hc hD]
        by_cases x : mS (d 175) s = 0
        · refine AF.mk q 0 0 0 ?_ (fun d' q' e => ?_)
          · unfold m_X11_whose_0 m_X10_whoseInto_1_53
            rw [ha, if_pos hc, if_pos hk, cl_rt, ask_i hs (by omega), if_pos hD, cl_rt, q_ofSort q.1 q.2 hD, cl_rt, show cM (d 175) s (d 175 3).toNat = mS (d 175) s from rfl, w32_id (by omega), if_neg (by omega), q_drop, cl_rt, cl_rt]
            rfl
          · obtain ⟨d1, z1, z2, z3⟩ := hmod d' e
            refine ⟨d1, ?_, z2, z3⟩
            rw [z1, if_pos (Or.inr x), p_nothing, cl_rt]; rfl
        · by_cases y : alS (d 175) p = 0
          · refine AF.mk q 0 0 0 ?_ (fun d' q' e => ?_)
            · rw [hcls x, q_put0 y, cl_rt, cl_rt]; rfl
            · obtain ⟨d1, z1, z2, z3⟩ := hmod d' e
              refine ⟨d1, ?_, z2, z3⟩
              rw [z1, if_pos (Or.inl y), p_nothing, cl_rt]; rfl
          · refine AF.mk q 1 (fU (prt (d 175) p s) (alS (d 175) p)) (fL (prt (d 175) p s) (alS (d 175) p)) ?_ (fun d' q' e => ?_)
            · rw [hcls x, q_put (by omega) (by omega), cl_rt, cl_rt]; rfl
            · obtain ⟨d1, z1, z2, z3⟩ := hmod d' e
              refine ⟨d1, ?_, z2, z3⟩
              rw [z1, if_neg (by omega), p_frac (by omega) (by omega), cl_rt]; rfl
      · refine AF.thr q 0 ?_ (fun d' q' e => ?_)
        · unfold m_X11_whose_0
          rw [ha, if_pos hc, if_pos hk, cl_rt, ask_i hs (by omega), if_neg hD, cl_th]
        · unfold m_X12_whose_174
          rw [p_sortFault q.1 e hp hs, hfa_0 ⟨hc, hk⟩, if_pos rfl, if_neg hD, cl_rt, pf_v, m3w, if_neg (by decide)]
          exact ref3 (v := 3) (by omega) rfl
    · refine AF.thr q 1 ?_ (fun d' q' e => ?_)
      · unfold m_X11_whose_0
        rw [ha, if_pos hc, if_neg hk, cl_th]
      · unfold m_X12_whose_174
        rw [p_sortFault q.1 e hp hs, hfa_2 hc hk, if_neg (by omega), cl_rt, pf_v, m3w, if_neg (by decide)]
        exact ref3 (v := 2) (by omega) rfl
  · refine AF.thr q 2 ?_ (fun d' q' e => ?_)
    · unfold m_X11_whose_0
      rw [ha, if_neg hc, cl_th]
    · unfold m_X12_whose_174
      rw [p_sortFault q.1 e hp hs, hfa_1 hc, if_neg (by omega), cl_rt, pf_v, m3w, if_neg (by decide)]
      exact ref3 (v := 1) (by omega) rfl

/-! which skin is scraped next -/
noncomputable def nbS (t : Nat → Int) (U : Int → Bool) (left : Int) (r : Nat) (s b : Int) : Int := if (U s = false ∧ sk t s 4 = 0 ∧ sk t s 1 = t (rp t r).toNat ∧ sk t s 3 ≤ left ∧ hlr t U r s = true) ∧ (b = -1 ∨ sk t s 3 < sk t b 3) then s else b
noncomputable def nb (t : Nat → Int) (U : Int → Bool) (left : Int) (r : Nat) : Int := fo (nbS t U left r) (t 1).toNat 0 (-1)
noncomputable def nx (t : Nat → Int) (U : Int → Bool) (left : Int) : Int := fd (fun r => if nb t U left r.toNat = -1 then none else some (nb t U left r.toNat)) (-1) (t 1144).toNat 0
theorem nb_ok {t : Nat → Int} (hn : 0 ≤ t 1) (U : Int → Bool) (left : Int) (r : Nat) : (-1 ≤ nb t U left r ∧ nb t U left r < t 1) ∧ (nb t U left r ≠ -1 → U (nb t U left r) = false ∧ sk t (nb t U left r) 3 ≤ left) := by
  have h := fo_inv (g := nbS t U left r) (fun i b => (0 ≤ i ∧ -1 ≤ b ∧ b < i) ∧ (b ≠ -1 → U b = false ∧ sk t b 3 ≤ left)) (t 1).toNat 0 (-1) ⟨by omega, fun h => absurd rfl h⟩ (fun j b _ _ h => by
    unfold nbS
    by_cases c : (U j = false ∧ sk t j 4 = 0 ∧ sk t j 1 = t (rp t r).toNat ∧ sk t j 3 ≤ left ∧ hlr t U r j = true) ∧ (b = -1 ∨ sk t j 3 < sk t b 3)
    · rw [if_pos c]; exact ⟨by have := h.1; omega, fun _ => ⟨c.1.1, c.1.2.2.2.1⟩⟩
    · rw [if_neg c]; exact ⟨by have := h.1; omega, h.2⟩)
  unfold nb
  exact ⟨by have := h.1; omega, h.2⟩
theorem nx_ok {t : Nat → Int} (hn : 0 ≤ t 1) (U : Int → Bool) (left : Int) : (-1 ≤ nx t U left ∧ nx t U left < t 1) ∧ (nx t U left ≠ -1 → U (nx t U left) = false ∧ sk t (nx t U left) 3 ≤ left) := by
  have key : ∀ (n : Nat) (i : Int), (fd (fun r => if nb t U left r.toNat = -1 then none else some (nb t U left r.toNat)) (-1) n i = -1) ∨ ∃ r : Nat, fd (fun r => if nb t U left r.toNat = -1 then none else some (nb t U left r.toNat)) (-1) n i = nb t U left r := by
    intro n
    induction n with
    | zero => intro i; exact Or.inl rfl
    | succ n ih =>
      intro i
      simp only [fd]
      by_cases c : nb t U left i.toNat = -1
      · rw [if_pos c]; exact ih (i + 1)
      · rw [if_neg c]; exact Or.inr ⟨i.toNat, rfl⟩
  unfold nx
  rcases key (t 1144).toNat 0 with e | ⟨r, e⟩
  · rw [e]; exact ⟨by omega, fun h => absurd rfl h⟩
  · rw [e]; exact nb_ok hn U left r
/-- the class's search between two scrapings -/
def SW (d : D9) (t : Nat → Int) (U : Int → Bool) (left : Int) : Prop := SR d t U ∧ ((0 ≤ d 58 6 ∧ d 58 6 < 1073741824) ∧ ∀ s, 0 ≤ s → s < 30 → tb (d 58 6) s = U s) ∧ d 58 7 = left
theorem q_nb {left : Int} {d : D9} {t : Nat → Int} {U : Int → Bool} (k : TK t) (w : RW d t) (S : SW d t U left) (hl : -100000 ≤ left ∧ left ≤ 999) (r : Nat) (hr : (r : Int) < t 1144) : m_X5_nextByRule_58_1 r d = rt (nb t U left r) d := by
  obtain ⟨n0, n1, n2, n3⟩ := TKn k
  obtain ⟨y0, yr⟩ := TKr k
  obtain ⟨a1, a2, a3, a4, a5⟩ := yr r hr
  obtain ⟨b0, _⟩ := (RWr w).2 r hr
  have z := (fix_fu (z := fun _ _ _ _ => none) (B := fun k => b_X5_nextByRule_58_1_c11 k) (fun k s b => k r b s d) 0 (t 1) (nbS t U left r) (fun s b => 0 ≤ s ∧ -1 ≤ b ∧ b < s) (fun b => rt b d) (-1) (by omega) (by omega) ?_ ?_).2
  · rw [Int.sub_zero] at z; exact z
  · intro k' b hI
    simp only [b_X5_nextByRule_58_1_c11]
    rw [(RWs w).1, if_pos (Int.le_refl _)]
  · intro k' s b hlt hI
    obtain ⟨rA, _, _⟩ := (RWs w).2 s hI.1 hlt
    have hk := TKs k s hI.1 hlt
    have h1 := hk.2.1
    have hg := hk.2.2.2.1
    have h4 := hk.2.2.2.2.1
    refine ⟨by unfold nbS; split <;> omega, ?_⟩
    have c91 : ∀ s0 : Bool, ∀ f : Bool, m_X5_nextByRule_58_1_c91 k' r b s (bi f) (bi s0) d = if f = true ∧ s0 = true ∧ sk t s 1 = t (rp t r).toNat ∧ hlr t U r s = true then k' r s (s + 1) d else k' r b (s + 1) d := by
      intro s0 f
      unfold m_X5_nextByRule_58_1_c91
      rw [w32_bi, w32_bi, ld_in (by omega), rA.2.1, ld_in (by omega), Int.toNat_natCast, b0, w32_id (by omega), w32_id (by omega), q_holds k w S.1 ⟨hI.1, hlt⟩ r hr, cl_rt, w32_bi]
      cases f
      · rw [bi_f, if_pos rfl, if_neg (by simp)]
      · rw [bi_t, if_neg ne10]
        cases s0
        · rw [bi_f, if_pos rfl, if_neg (by simp)]
        · rw [bi_t, if_neg ne10]
          by_cases x : sk t s 1 = t (rp t r).toNat
          · rw [if_neg (by omega)]
            cases hh : hlr t U r s
            · rw [bi_f, if_pos rfl, if_neg (by simp)]
            · rw [bi_t, if_neg ne10, if_pos ⟨rfl, rfl, x, rfl⟩]
          · rw [if_pos x, if_neg (fun h => x h.2.2.1)]
    have c61 : ∀ f : Bool, m_X5_nextByRule_58_1_c61 k' r b s (bi f) d = if f = true ∧ (b = -1 ∨ sk t s 3 < sk t b 3) ∧ sk t s 1 = t (rp t r).toNat ∧ hlr t U r s = true then k' r s (s + 1) d else k' r b (s + 1) d := by
      intro f
      unfold m_X5_nextByRule_58_1_c61
      have c1 := c91 true f
      have c0 := c91 false f
      rw [bi_t] at c1
      rw [bi_f] at c0
      rw [w32_id (by omega), w32_id (by omega), c1, c0]
      by_cases x : b = -1
      · rw [if_pos x]
        by_cases y : f = true ∧ true = true ∧ sk t s 1 = t (rp t r).toNat ∧ hlr t U r s = true
        · rw [if_pos y, if_pos ⟨y.1, Or.inl x, y.2.2⟩]
        · rw [if_neg y, if_neg (fun h => y ⟨h.1, rfl, h.2.2⟩)]
      · obtain ⟨rB, _, _⟩ := (RWs w).2 b (by omega) (by omega)
        have hgb := (TKs k b (by omega) (by omega)).2.2.2.1
        rw [if_neg x, ld_in (by omega), rA.2.2.2.1, ld_in (by omega), rB.2.2.2.1, w32_id (by omega), w32_id (by omega)]
        by_cases u : sk t s 3 < sk t b 3
        · rw [if_neg (by omega)]
          by_cases y : f = true ∧ true = true ∧ sk t s 1 = t (rp t r).toNat ∧ hlr t U r s = true
          · rw [if_pos y, if_pos ⟨y.1, Or.inr u, y.2.2⟩]
          · rw [if_neg y, if_neg (fun h => y ⟨h.1, rfl, h.2.2⟩)]
        · rw [if_pos (by omega), if_neg (by simp), if_neg (by rintro ⟨_, h | h, _⟩ <;> omega)]
    simp only [b_X5_nextByRule_58_1_c11]
    have d1 := c61 true
    have d0 := c61 false
    rw [bi_t] at d1
    rw [bi_f] at d0
    rw [(RWs w).1, w32_id (by omega), w32_id (by omega), if_neg (by omega), ld_in (by omega), rA.2.2.2.2.1, w32_id (by omega), q_isIn (by have := S.2.1.1; omega), cl_rt, w32_bi, S.2.1.2 s hI.1 (by omega), ld_in (by omega), rA.2.2.2.1, S.2.2, w32_id (by omega), w32_id (by omega), d0, d1]
    unfold nbS
    by_cases x : sk t s 4 = 0
    · rw [if_neg (by omega)]
      cases hu : U s
      · rw [bi_f, if_neg (show ¬ (0 : Int) ≠ 0 by omega)]
        by_cases y : sk t s 3 ≤ left
        · rw [if_neg (by omega)]
          by_cases c : true = true ∧ (b = -1 ∨ sk t s 3 < sk t b 3) ∧ sk t s 1 = t (rp t r).toNat ∧ hlr t U r s = true
          · rw [if_pos c, if_pos ⟨⟨rfl, x, c.2.2.1, y, c.2.2.2⟩, c.2.1⟩]
          · rw [if_neg c, if_neg (fun h => c ⟨rfl, h.2, h.1.2.2.1, h.1.2.2.2.2⟩)]
        · rw [if_pos (by omega), if_neg (by simp), if_neg (fun h => y h.1.2.2.2.1)]
      · rw [bi_t, if_pos ne10, if_neg (by simp), if_neg (by rintro ⟨⟨h, _⟩, _⟩; cases h)]
    · rw [if_pos x, if_neg (by simp), if_neg (fun h => x h.1.2.1)]
theorem q_nx {left : Int} {d : D9} {t : Nat → Int} {U : Int → Bool} (k : TK t) (w : RW d t) (S : SW d t U left) (hl : -100000 ≤ left ∧ left ≤ 999) : m_X5_nextByRules_58_1 d = rt (nx t U left) d := by
  obtain ⟨n0, n1, n2, n3⟩ := TKn k
  obtain ⟨y0, yr⟩ := TKr k
  have z := fix_du (z := fun _ _ => none) (B := fun k => b_X5_nextByRules_58_1_c2 k) (fun k r => k r d) 0 (t 1144) (fun r => if nb t U left r.toNat = -1 then none else some (nb t U left r.toNat)) (-1) (fun v => rt v d) (by omega) ?_ ?_
  · rw [Int.sub_zero] at z; exact z
  · intro k'
    simp only [b_X5_nextByRules_58_1_c2]
    rw [(RWr w).1, if_pos (Int.le_refl _)]
  · intro k' r h0 hi
    obtain ⟨R, rfl⟩ := Int.eq_ofNat_of_zero_le h0
    have o := (nb_ok n1.1 U left R).1
    simp only [b_X5_nextByRules_58_1_c2]
    rw [(RWr w).1, w32_id (by omega), w32_id (by omega), if_neg (by omega), q_nb k w S hl R hi, cl_rt, w32_id (by omega), w32_id (by omega), Int.toNat_natCast]
    by_cases c : nb t U left R = -1
    · rw [if_pos c, if_pos c]
    · rw [if_neg c, if_neg c]
/-! the model's -/
def SV (d d0 : D9) : Prop := ∀ k, k ≠ 189 → d k = d0 k
theorem p_nb_l {left : Int} {t : Nat → Int} {U : Int → Bool} {d0 : D9} (L : LR d0 t) (hI : IN d0 U) (hl : -100000 ≤ left ∧ left ≤ 999) (r : Nat) (hr : (r : Int) < t 1144) (kc : Int → Int → Int → D9 → Option R9) : ∀ (m f : Nat) (s b : Int) (d : D9), m < f → 0 ≤ s → s + m = t 1 → -1 ≤ b ∧ b < s → SV d d0 → ∃ d', SV d' d0 ∧ fix9 (fun _ _ _ _ _ _ => none) (fun k => b_X12_nextBy_174_c24 kc k) f left (rp t r) r b s d = if fo (nbS t U left r) m s b = -1 then kc left (rp t (r + 1)) (r + 1) d' else rt (fo (nbS t U left r) m s b) d'
  | 0, f + 1, s, b, d, _, h0, he, hb, hF => by
    have k := L.2.1
    obtain ⟨n0, n1, n2, n3⟩ := TKn k
    obtain ⟨y0, yr⟩ := TKr k
    obtain ⟨a1, a2, a3, a4, a5⟩ := yr r hr
    have e4 : rp t (r + 1) = rp t r + 2 + t (rp t r + 1).toNat := rfl
    have e : d 175 = t := (hF 175 (by decide)).trans L.1
    refine ⟨d, hF, ?_⟩
    rw [fx5, b_X12_nextBy_174_c24, ld_in (by omega), Int.toNat_one, e, if_pos (by rw [show t 1 = s by omega]; exact Int.le_refl _), w32_id (by omega), w32_id (by omega), ld_in (by omega), e, lt_v, show rp t r + (2 + t (rp t r + 1).toNat) = rp t (r + 1) by omega]
    rfl
  | m + 1, f + 1, s, b, d, hf, h0, he, hb, hF => by
    have k := L.2.1
    obtain ⟨n0, n1, n2, n3⟩ := TKn k
    obtain ⟨y0, yr⟩ := TKr k
    obtain ⟨a1, a2, a3, a4, a5⟩ := yr r hr
    have e4 : rp t (r + 1) = rp t r + 2 + t (rp t r + 1).toNat := rfl
    have e : d 175 = t := (hF 175 (by decide)).trans L.1
    have Ld : LR d t := LR_sm L (hF 175 (by decide)) (hF 182 (by decide))
    have Id : IN d U := fun s a b => by rw [hF 188 (by decide)]; exact hI s a b
    have hk := TKs k s h0 (by omega)
    have h1 := hk.2.1
    have hg := hk.2.2.2.1
    have h4 := hk.2.2.2.2.1
    obtain ⟨d1, s1, s2⟩ := p_so Ld Id (s := s) ⟨h0, by omega⟩ r hr
    have hF1 : SV d1 d0 := fun k hk => (s2 k hk).trans (hF k hk)
    have e1 : d1 175 = t := (hF1 175 (by decide)).trans L.1
    have go := fun (b' : Int) (hb' : -1 ≤ b' ∧ b' < s + 1) (d' : D9) (h' : SV d' d0) => p_nb_l L hI hl r hr kc m f (s + 1) b' d' (by omega) (by omega) (by omega) hb' h'
    rw [fx5, b_X12_nextBy_174_c24, ld_in (by omega), Int.toNat_one, e, w32_id (by omega), w32_id (by omega), if_neg (by omega), ld_in (by omega), Id s h0 (by omega), w32_bi, sk_of e (by omega), cl_rt, w32_id (by omega), sk_of e (by omega), cl_rt, ld_in (by omega), e, w32_id (by omega), w32_id (by omega), sk_of e (by omega), cl_rt, w32_id (by omega), w32_id (by omega), ld_in (by omega), e, show t (rp t r + 1).toNat = rN t r from rfl, s1, cl_rt, w32_bi]
    show ∃ d', SV d' d0 ∧ _ = if fo (nbS t U left r) m (s + 1) (nbS t U left r s b) = -1 then kc left (rp t (r + 1)) (r + 1) d' else rt (fo (nbS t U left r) m (s + 1) (nbS t U left r s b)) d'
    by_cases c : (U s = false ∧ sk t s 4 = 0 ∧ sk t s 1 = t (rp t r).toNat ∧ sk t s 3 ≤ left ∧ hlr t U r s = true) ∧ (b = -1 ∨ sk t s 3 < sk t b 3)
    · have en : nbS t U left r s b = s := by unfold nbS; rw [if_pos c]
      rw [en]
      obtain ⟨⟨c1, c2, c3, c4, c5⟩, c6⟩ := c
      obtain ⟨d', z1, z2⟩ := go s (by omega) d1 hF1
      refine ⟨d', z1, ?_⟩
      rw [c1, bi_f, if_neg (show ¬ (0 : Int) ≠ 0 by omega), if_neg (by omega), if_neg (by omega), if_neg (by omega), c5, bi_t, if_pos ne10, w32_id (by omega), w32_id (by omega)]
      by_cases x : b = -1
      · rw [if_pos x]; exact z2
      · have hgb := (TKs k b (by omega) (by omega)).2.2.2.1
        rw [if_neg x, sk_of e1 (by omega), cl_rt, sk_of e1 (by omega), cl_rt, w32_id (by omega), w32_id (by omega), if_neg (by omega)]; exact z2
    · have en : nbS t U left r s b = b := by unfold nbS; rw [if_neg c]
      rw [en]
      cases hu : U s
      · rw [bi_f, if_neg (show ¬ (0 : Int) ≠ 0 by omega)]
        by_cases x4 : 0 < sk t s 4
        · rw [if_pos x4]; exact go b (by omega) d hF
        · rw [if_neg x4]
          by_cases x1 : sk t s 1 = t (rp t r).toNat
          · rw [if_neg (by omega)]
            by_cases x3 : left < sk t s 3
            · rw [if_pos x3]; exact go b (by omega) d hF
            · rw [if_neg x3]
              cases hh : hlr t U r s
              · rw [bi_f, if_neg (show ¬ (0 : Int) ≠ 0 by omega)]; exact go b (by omega) d1 hF1
              · rw [bi_t, if_pos ne10, w32_id (by omega), w32_id (by omega)]
                have nn : ¬ (b = -1 ∨ sk t s 3 < sk t b 3) := fun h => c ⟨⟨hu, by omega, x1, by omega, hh⟩, h⟩
                have hgb := (TKs k b (by omega) (by omega)).2.2.2.1
                rw [if_neg (fun h => nn (Or.inl h)), sk_of e1 (by omega), cl_rt, sk_of e1 (by omega), cl_rt, w32_id (by omega), w32_id (by omega), if_pos (by omega)]
                exact go b (by omega) d1 hF1
          · rw [if_pos x1]; exact go b (by omega) d hF
      · rw [bi_t, if_pos ne10]; exact go b (by omega) d hF
  | _, 0, _, _, _, hf, _, _, _, _ => absurd hf (Nat.not_lt_zero _)
theorem p_nx_l {left : Int} {t : Nat → Int} {U : Int → Bool} {d0 : D9} (L : LR d0 t) (hI : IN d0 U) (hl : -100000 ≤ left ∧ left ≤ 999) : ∀ (m f : Nat) (r : Nat) (d : D9), m < f → (r : Int) + m = t 1144 → SV d d0 → ∃ d', SV d' d0 ∧ fix9 (fun _ _ _ _ => none) (fun k => b_X12_nextBy_174_c6 k) f left (rp t r) r d = rt (fd (fun r => if nb t U left r.toNat = -1 then none else some (nb t U left r.toNat)) (-1) m r) d'
  | 0, f + 1, r, d, _, he, hF => by
    have k := L.2.1
    have e : d 175 = t := (hF 175 (by decide)).trans L.1
    refine ⟨d, hF, ?_⟩
    rw [fx3, b_X12_nextBy_174_c6, ld_in (by omega), show ((1144 : Int).toNat) = 1144 from rfl, e, if_pos (by rw [show t 1144 = (r : Int) by omega]; exact Int.le_refl _)]
    rfl
  | m + 1, f + 1, r, d, hf, he, hF => by
    have k := L.2.1
    obtain ⟨n0, n1, n2, n3⟩ := TKn k
    obtain ⟨y0, yr⟩ := TKr k
    have e : d 175 = t := (hF 175 (by decide)).trans L.1
    obtain ⟨d1, z1, z2⟩ := p_nb_l L hI hl r (by omega) (fix9 (fun _ _ _ _ => none) (fun k => b_X12_nextBy_174_c6 k) f) (t 1).toNat FU 0 (-1) d (by unfold FU; omega) (by omega) (by omega) (by omega) hF
    rw [fx3, b_X12_nextBy_174_c6, ld_in (by omega), show ((1144 : Int).toNat) = 1144 from rfl, e, w32_id (by omega), w32_id (by omega), if_neg (by omega)]
    rw [show fo (nbS t U left r) (t 1).toNat 0 (-1) = nb t U left r from rfl] at z2
    simp only [fd, Int.toNat_natCast]
    by_cases c : nb t U left r = -1
    · rw [if_pos c] at z2
      obtain ⟨d2, w1, w2⟩ := p_nx_l L hI hl m f (r + 1) d1 (by omega) (by omega) z1
      refine ⟨d2, w1, ?_⟩
      rw [show ((r + 1 : Nat) : Int) = (r : Int) + 1 by omega] at w2
      rw [if_pos c]
      exact z2.trans w2
    · rw [if_neg c] at z2
      refine ⟨d1, z1, ?_⟩
      rw [if_neg c]
      exact z2
  | _, 0, _, _, hf, _, _ => absurd hf (Nat.not_lt_zero _)
theorem p_nx {left : Int} {t : Nat → Int} {U : Int → Bool} {d : D9} (L : LR d t) (hI : IN d U) (hl : -100000 ≤ left ∧ left ≤ 999) : ∃ d', SV d' d ∧ m_X12_nextBy_174 left d = rt (nx t U left) d' := by
  have y0 := (TKr L.2.1).1
  exact p_nx_l L hI hl (t 1144).toNat FU 0 d (by unfold FU; omega) (by omega) (fun _ _ => rfl)

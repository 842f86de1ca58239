/-! plan: the skins that may be chosen -/
def chS (t : Nat → Int) (s : Int) (c : Int × (Int → Int)) : Int × (Int → Int) := if c.1 < 12 ∧ sk t s 4 = 0 ∧ sk t s 1 ≠ 0 then (c.1 + 1, fun i => if i = c.1 then s else c.2 i) else c
def chF (t : Nat → Int) : Int × (Int → Int) := fo (chS t) (t 1).toNat 0 (0, fun _ => 0)
def CH (t : Nat → Int) (i : Int) (c : Int × (Int → Int)) : Prop := (0 ≤ c.1 ∧ c.1 ≤ 12) ∧ ∀ j, 0 ≤ j → j < c.1 → (0 ≤ c.2 j ∧ c.2 j < i) ∧ sk t (c.2 j) 4 = 0 ∧ sk t (c.2 j) 1 ≠ 0
theorem CH_s {t : Nat → Int} {i : Int} {c : Int × (Int → Int)} (hi : 0 ≤ i) (h : CH t i c) : CH t (i + 1) (chS t i c) := by
  unfold chS
  by_cases x : c.1 < 12 ∧ sk t i 4 = 0 ∧ sk t i 1 ≠ 0
  · rw [if_pos x]
    refine ⟨by dsimp only; have := h.1; omega, fun j a b => ?_⟩
    dsimp only at b ⊢
    by_cases y : j = c.1
    · rw [if_pos y]; exact ⟨by omega, x.2⟩
    · rw [if_neg y]
      have := h.2 j a (by omega)
      exact ⟨by omega, this.2⟩
  · rw [if_neg x]
    refine ⟨h.1, fun j a b => ?_⟩
    have := h.2 j a b
    exact ⟨by omega, this.2⟩
theorem chF_ok {t : Nat → Int} (k : TK t) : CH t (t 1) (chF t) := by
  have n1 := (TKn k).2.1
  have := fo_inv (g := chS t) (CH t) (t 1).toNat 0 (0, fun _ => 0) ⟨⟨by decide, by decide⟩, fun j a b => by dsimp only at b; omega⟩ (fun j c h1 _ h => CH_s h1 h)
  rw [show (0 : Int) + ((t 1).toNat : Int) = t 1 by omega] at this
  exact this
theorem ch_full {t : Nat → Int} : ∀ (m : Nat) (i : Int) (c : Int × (Int → Int)), 12 ≤ c.1 → fo (chS t) m i c = c
  | 0, _, _, _ => rfl
  | m + 1, i, c, h => by
    show fo (chS t) m (i + 1) (chS t i c) = c
    have e : chS t i c = c := by unfold chS; rw [if_neg (by omega)]
    rw [e]; exact ch_full m (i + 1) c h
theorem q_touches {s : Int} {d : D9} {t : Nat → Int} (k : TK t) (r : RW d t) (hs : 0 ≤ s ∧ s < t 1) : m_X6_touches_9 s d = rt (bi (decide (sk t s 1 ≠ 0))) d := by
  have n1 := (TKn k).2.1
  have h1 := (TKs k s hs.1 hs.2).2.1
  unfold m_X6_touches_9
  rw [ld_in (by omega), ((RWs r).2 s hs.1 hs.2).1.2.1, w32_id (by omega)]
  by_cases x : sk t s 1 = 0
  · rw [if_pos x]; simp [x, bi]
  · rw [if_neg x]; simp [x, bi]
theorem RW_up {d : D9} {t : Nat → Int} {k j : Nat} {v : Int} (h : RW d t) (hk : 37 < k) : RW (up d k j v) t := RW_c h (fun i _ _ => up_k (by omega))
/-- cells of the search are written, nothing else -/
def F5 (d d' : D9) : Prop := ∀ k, ¬ (58 ≤ k ∧ k ≤ 62) → d' k = d k
theorem F5.rw {d d' : D9} {t : Nat → Int} (h : F5 d d') (r : RW d t) : RW d' t := RW_c r (fun k _ _ => h k (by omega))
theorem F5.sm {d d' : D9} (h : F5 d d') : SM d d' :=
  ⟨fun k hk => h k (fun e => hk (by unfold SCR; omega)), ⟨by rw [h 51 (by omega)], by rw [h 51 (by omega)], by rw [h 51 (by omega)]⟩, by rw [h 174 (by omega)], by rw [h 174 (by omega)], by rw [h 174 (by omega)], by rw [h 174 (by omega)], by rw [h 174 (by omega)]⟩
theorem F5.tr {d d' d'' : D9} (a : F5 d d') (b : F5 d' d'') : F5 d d'' := fun k hk => (b k hk).trans (a k hk)
theorem F5.up {d : D9} {k j : Nat} {v : Int} (h : 58 ≤ k ∧ k ≤ 62) : F5 d (fun k9 j9 => if k9 = k ∧ j9 = j then v else d k9 j9) := fun k' hk => up_k (by intro e; subst e; exact hk h)
theorem q_find_l {d0 : D9} {t : Nat → Int} (k : TK t) (r : RW d0 t) : ∀ (m f : Nat) (s : Int) (c : Int × (Int → Int)) (d : D9), m < f → 0 ≤ s → s + m = t 1 → CH t s c → (∀ k, k ≠ 60 → d k = d0 k) → (∀ i, 0 ≤ i → i < c.1 → d 60 i.toNat = c.2 i) → ∃ d', fix9 (fun _ _ _ => none) (fun k => b_X5_findChoices_58_9_c4 k) f c.1 s d = rt (fo (chS t) m s c).1 d' ∧ (∀ k, k ≠ 60 → d' k = d0 k) ∧ ∀ i, 0 ≤ i → i < (fo (chS t) m s c).1 → d' 60 i.toNat = (fo (chS t) m s c).2 i
  | 0, f + 1, s, c, d, _, h0, he, hc, hF, hz => by
    refine ⟨d, ?_, hF, hz⟩
    rw [fx2, b_X5_findChoices_58_9_c4, hF 9 (by decide), (RWs r).1, if_pos (by rw [show t 1 = s by omega]; exact Int.le_refl _)]
    rfl
  | m + 1, f + 1, s, c, d, hf, h0, he, hc, hF, hz => by
    have n1 := (TKn k).2.1
    have rd : RW d t := RW_c r (fun i _ _ => hF i (by omega))
    have h4 := (TKs k s h0 (by omega)).2.2.2.2.1
    rw [fx2, b_X5_findChoices_58_9_c4, (RWs rd).1, w32_id (by omega), w32_id (by omega), if_neg (by omega), w32_id (by omega), w32_id (by have := hc.1; omega)]
    by_cases x : 12 ≤ c.1
    · rw [if_pos x, ch_full (m + 1) s c x]
      exact ⟨d, rfl, hF, hz⟩
    · rw [if_neg x, ld_in (by omega), ((RWs rd).2 s h0 (by omega)).1.2.2.2.2.1, w32_id (by omega), q_touches k rd ⟨h0, by omega⟩, cl_rt, w32_bi]
      show ∃ d', _ = rt (fo (chS t) m (s + 1) (chS t s c)).1 d' ∧ _ ∧ ∀ i, 0 ≤ i → i < (fo (chS t) m (s + 1) (chS t s c)).1 → d' 60 i.toNat = (fo (chS t) m (s + 1) (chS t s c)).2 i
      have hs := CH_s h0 hc
      by_cases y : sk t s 4 = 0 ∧ sk t s 1 ≠ 0
      · have e : chS t s c = (c.1 + 1, fun i => if i = c.1 then s else c.2 i) := by unfold chS; rw [if_pos ⟨by omega, y⟩]
        rw [e] at hs ⊢
        rw [if_neg (by omega), dec_t y.2, bi_t, if_neg ne10, sd_in (by have := hc.1; omega)]
        exact q_find_l k r m f (s + 1) (c.1 + 1, fun i => if i = c.1 then s else c.2 i) (up d 60 c.1.toNat s) (by omega) (by omega) (by omega) hs (fun k hk => (up_k hk).trans (hF k hk)) (fun i a b => by
          dsimp only at b ⊢
          by_cases z : i = c.1
          · subst z; rw [up_same, if_pos rfl]
          · rw [up_j (by have := hc.1; omega), if_neg z]; exact hz i a (by omega))
      · have e : chS t s c = c := by unfold chS; rw [if_neg (fun h => y h.2)]
        rw [e] at hs ⊢
        have ih := q_find_l k r m f (s + 1) c d (by omega) (by omega) (by omega) hs hF hz
        by_cases y1 : sk t s 4 = 0
        · rw [if_neg (by omega), dec_f (fun h => y ⟨y1, h⟩), bi_f, if_pos rfl]; exact ih
        · rw [if_pos y1]; exact ih
  | _, 0, _, _, _, hf, _, _, _, _, _ => absurd hf (Nat.not_lt_zero _)
theorem q_find {d : D9} {t : Nat → Int} (k : TK t) (r : RW d t) : ∃ d', m_X5_findChoices_58_9 d = rt (chF t).1 d' ∧ (∀ k, k ≠ 60 → d' k = d k) ∧ ∀ i, 0 ≤ i → i < (chF t).1 → d' 60 i.toNat = (chF t).2 i := by
  have n1 := (TKn k).2.1
  exact q_find_l k r (t 1).toNat FU 0 (0, fun _ => 0) d (by unfold FU; omega) (by omega) (by omega) ⟨⟨by decide, by decide⟩, fun j a b => by dsimp only at b; omega⟩ (fun _ _ => rfl) (fun i a b => by dsimp only at b; omega)
theorem p_find_l {t : Nat → Int} (k : TK t) {d0 : D9} (e0 : d0 175 = t) : ∀ (m f : Nat) (s : Int) (c : Int × (Int → Int)) (d : D9), m < f → 0 ≤ s → s + m = t 1 → CH t s c → (∀ k j, ¬ (k = 187 ∨ k = 174 ∧ j = 31) → d k j = d0 k j) → d 174 31 = c.1 → (∀ i, 0 ≤ i → i < c.1 → d 187 i.toNat = c.2 i) → ∃ d', fix9 (fun _ _ => none) (fun k => b_X12_layCandidates_174_c7 k) f s d = rt 0 d' ∧ (∀ k j, ¬ (k = 187 ∨ k = 174 ∧ j = 31) → d' k j = d0 k j) ∧ d' 174 31 = (fo (chS t) m s c).1 ∧ ∀ i, 0 ≤ i → i < (fo (chS t) m s c).1 → d' 187 i.toNat = (fo (chS t) m s c).2 i
  | 0, f + 1, s, c, d, _, h0, he, hc, hF, h31, hz => by
    have e : d 175 = t := by rw [← e0]; funext j; exact hF 175 j (by omega)
    refine ⟨d, ?_, hF, h31, hz⟩
    rw [fx1, b_X12_layCandidates_174_c7, ld_in (by omega), Int.toNat_one, e, if_pos (by rw [show t 1 = s by omega]; exact Int.le_refl _)]
  | m + 1, f + 1, s, c, d, hf, h0, he, hc, hF, h31, hz => by
    have n1 := (TKn k).2.1
    have e : d 175 = t := by rw [← e0]; funext j; exact hF 175 j (by omega)
    have h4 := (TKs k s h0 (by omega)).2.2.2.2.1
    have h1 := (TKs k s h0 (by omega)).2.1
    rw [fx1, b_X12_layCandidates_174_c7, ld_in (by omega), Int.toNat_one, e, w32_id (by omega), w32_id (by omega), if_neg (by omega), h31, w32_id (by have := hc.1; omega), w32_id (by omega), sk_of e (by omega), cl_rt, w32_id (by omega), sk_of e (by omega), cl_rt, w32_id (by omega)]
    show ∃ d', _ = rt 0 d' ∧ _ ∧ d' 174 31 = (fo (chS t) m (s + 1) (chS t s c)).1 ∧ ∀ i, 0 ≤ i → i < (fo (chS t) m (s + 1) (chS t s c)).1 → d' 187 i.toNat = (fo (chS t) m (s + 1) (chS t s c)).2 i
    have hs := CH_s h0 hc
    by_cases y : c.1 < 12 ∧ sk t s 4 = 0 ∧ sk t s 1 ≠ 0
    · have ec : chS t s c = (c.1 + 1, fun i => if i = c.1 then s else c.2 i) := by unfold chS; rw [if_pos y]
      rw [ec] at hs ⊢
      rw [if_neg (by omega), if_neg (by omega), if_pos y.2.2, sd_in (by have := hc.1; omega), pf_v, up_k (by decide), h31]
      exact p_find_l k e0 m f (s + 1) (c.1 + 1, fun i => if i = c.1 then s else c.2 i) (up (up d 187 c.1.toNat s) 174 31 (c.1 + 1)) (by omega) (by omega) (by omega) hs (fun k j hk => by
        rw [up_get, if_neg (fun h => hk (Or.inr h)), up_get, if_neg (fun h => hk (Or.inl h.1))]; exact hF k j hk) (up_same _ _ _ _) (fun i a b => by
        dsimp only at b ⊢
        rw [up_k (by decide)]
        by_cases z : i = c.1
        · subst z; rw [up_same, if_pos rfl]
        · rw [up_j (by have := hc.1; omega), if_neg z]; exact hz i a (by omega))
    · have ec : chS t s c = c := by unfold chS; rw [if_neg y]
      rw [ec] at hs ⊢
      have ih := p_find_l k e0 m f (s + 1) c d (by omega) (by omega) (by omega) hs hF h31 hz
      by_cases y0 : c.1 = 12
      · rw [if_pos y0]; exact ih
      · rw [if_neg y0]
        by_cases y1 : sk t s 4 = 0
        · rw [if_neg (by omega), if_neg (fun h => y ⟨by have := hc.1; omega, y1, h⟩)]; exact ih
        · rw [if_pos (by omega)]; exact ih
  | _, 0, _, _, _, hf, _, _, _, _, _, _ => absurd hf (Nat.not_lt_zero _)
theorem p_find {t : Nat → Int} (k : TK t) {d : D9} (e : d 175 = t) : ∃ d', m_X12_layCandidates_174 d = rt 0 d' ∧ (∀ k j, ¬ (k = 187 ∨ k = 174 ∧ j = 31) → d' k j = d k j) ∧ d' 174 31 = (chF t).1 ∧ ∀ i, 0 ≤ i → i < (chF t).1 → d' 187 i.toNat = (chF t).2 i := by
  have n1 := (TKn k).2.1
  obtain ⟨d', a1, a2, a3, a4⟩ := p_find_l k (d0 := up d 174 31 0) ((up_k (by decide)).trans e) (t 1).toNat FU 0 (0, fun _ => 0) (up d 174 31 0) (by unfold FU; omega) (by omega) (by omega) ⟨⟨by decide, by decide⟩, fun j a b => by dsimp only at b; omega⟩ (fun _ _ _ => rfl) (up_same _ _ _ _) (fun i a b => by dsimp only at b; omega)
  refine ⟨d', a1, fun k j hk => (a2 k j hk).trans ?_, a3, a4⟩
  rw [up_get, if_neg (fun h => hk (Or.inr h))]
theorem MS.pj {d d' : D9} (h : ∀ k j, ¬ (k = 187 ∨ k = 174 ∧ j = 31) → d' k j = d k j) : MS d d' :=
  ⟨⟨fun k hk => by funext j; exact h k j (by rintro (rfl | ⟨rfl, _⟩) <;> exact hk (by unfold SCR; omega)), ⟨h _ _ (by omega), h _ _ (by omega), h _ _ (by omega)⟩, h _ _ (by omega), h _ _ (by omega), h _ _ (by omega), h _ _ (by omega), h _ _ (by omega)⟩, by funext j; exact h _ _ (by omega)⟩

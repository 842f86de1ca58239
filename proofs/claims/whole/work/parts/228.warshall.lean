/-! what lies above: the model's table -/
def oU (t : Nat → Int) (k : Int) : Int := t (256 + 2 * k).toNat
def oL (t : Nat → Int) (k : Int) : Int := t (256 + 2 * k + 1).toNat
def T7o (t : Nat → Int) : Prop := ∀ k, 0 ≤ k → k < t 2 → (0 ≤ oU t k ∧ oU t k < t 0) ∧ (0 ≤ oL t k ∧ oL t k < t 0)
def ord (t : Nat → Int) (u l : Int) : Bool := ex (fun k => decide (oU t k = u ∧ oL t k = l)) (t 2).toNat 0
def Wb (o : Int → Int → Bool) : Nat → Int → Int → Bool
  | 0, u, l => o u l
  | m + 1, u, l => Wb o m u l || (Wb o m u m && Wb o m m l)
theorem Wb_mono {o : Int → Int → Bool} {u l : Int} (h : o u l = true) : ∀ m, Wb o m u l = true
  | 0 => h
  | m + 1 => by simp only [Wb, Wb_mono h m, Bool.true_or]
theorem Wb_mid {o : Int → Int → Bool} : ∀ (m : Nat) (u x l : Int), 0 ≤ x → x < m → Wb o m u x = true → Wb o m x l = true → Wb o m u l = true
  | 0, u, x, l, h0, h1, _, _ => by omega
  | m + 1, u, x, l, h0, h1, a, b => by
    simp only [Wb, Bool.or_eq_true, Bool.and_eq_true] at a b ⊢
    by_cases hx : x < m
    · rcases a with a | a
      · rcases b with b | b
        · exact Or.inl (Wb_mid m u x l h0 hx a b)
        · exact Or.inr ⟨Wb_mid m u x m h0 hx a b.1, b.2⟩
      · rcases b with b | b
        · exact Or.inr ⟨a.1, Wb_mid m m x l h0 hx a.2 b⟩
        · exact Or.inr ⟨a.1, b.2⟩
    · have e : x = m := by omega
      subst e
      refine Or.inr ⟨?_, ?_⟩
      · rcases a with a | a
        · exact a
        · exact a.1
      · rcases b with b | b
        · exact b
        · exact b.2
theorem Wb_sound {o : Int → Int → Bool} : ∀ (m : Nat) (u l : Int), Wb o m u l = true → Relation.TransGen (fun x y => o x y = true) u l
  | 0, u, l, h => .single h
  | m + 1, u, l, h => by
    simp only [Wb, Bool.or_eq_true, Bool.and_eq_true] at h
    rcases h with h | h
    · exact Wb_sound m u l h
    · exact (Wb_sound m u m h.1).trans (Wb_sound m m l h.2)
theorem Wb_iff {o : Int → Int → Bool} {n : Nat} (ho : ∀ x y, o x y = true → 0 ≤ y ∧ y < n) (u l : Int) : Wb o n u l = true ↔ Relation.TransGen (fun x y => o x y = true) u l := by
  constructor
  · exact Wb_sound n u l
  · intro h
    have key : ∀ l, Relation.TransGen (fun x y => o x y = true) u l → Wb o n u l = true ∧ 0 ≤ l ∧ l < n := by
      intro l h
      induction h with
      | single h => exact ⟨Wb_mono h n, ho _ _ h⟩
      | tail _ h ih => exact ⟨Wb_mid n u _ _ ih.2.1 ih.2.2 ih.1 (Wb_mono h n), ho _ _ h⟩
    exact (key l h).1
theorem Wb_row (o : Int → Int → Bool) (m : Nat) (l : Int) : Wb o (m + 1) m l = Wb o m m l := by
  simp only [Wb]; cases Wb o m m l <;> simp
theorem Wb_col (o : Int → Int → Bool) (m : Nat) (u : Int) : Wb o (m + 1) u m = Wb o m u m := by
  simp only [Wb]; cases Wb o m u m <;> simp
theorem ex_last {P : Int → Bool} : ∀ {n : Nat} {i : Int}, ex P (n + 1) i = (ex P n i || P (i + n))
  | 0, i => by
    have : i + ((0 : Nat) : Int) = i := by omega
    simp only [ex]; rw [this]; cases P i <;> rfl
  | n + 1, i => by
    have h := ex_last (P := P) (n := n) (i := i + 1)
    have : i + ((n + 1 : Nat) : Int) = i + 1 + n := by omega
    rw [this]
    show (P i || ex P (n + 1) (i + 1)) = ((P i || ex P n (i + 1)) || P (i + 1 + n))
    rw [h, Bool.or_assoc]
def MA (d : D9) (n : Int) (F : Int → Int → Bool) : Prop := ∀ u l, 0 ≤ u → u < n → 0 ≤ l → l < n → d 182 (30 * u + l).toNat = bi (F u l)
def K7 (d d' : D9) : Prop := ∀ k, k ≠ 182 → d' k = d k
theorem MA_up {d : D9} {n : Int} {F G : Int → Int → Bool} {u l : Int} {v : Bool} (h : MA d n F) (hn : n ≤ 30) (hu : 0 ≤ u ∧ u < n) (hl : 0 ≤ l ∧ l < n) (hG : ∀ x y, 0 ≤ x → x < n → 0 ≤ y → y < n → G x y = if x = u ∧ y = l then v else F x y) : MA (up d 182 (30 * u + l).toNat (bi v)) n G := by
  intro x y a b c e
  rw [hG x y a b c e, up_get]
  by_cases hh : x = u ∧ y = l
  · obtain ⟨rfl, rfl⟩ := hh; simp
  · have hne : ¬ (30 * x + y).toNat = (30 * u + l).toNat := by omega
    simp only [hne, hh, and_false, if_false]
    exact h x y a b c e
theorem p_w_in {o : Int → Int → Bool} {n : Int} (hn : 0 ≤ n ∧ n ≤ 30) {m : Nat} {u : Int} (hm : (m : Int) < n) (hu : 0 ≤ u ∧ u < n) (kc : Int → Int → Int → D9 → Option R9) : ∀ (g f : Nat) (l : Int) (d : D9), g < f → 0 ≤ l → l + g = n → MA d n (fun x y => if x < u ∨ x = u ∧ y < l then Wb o (m + 1) x y else Wb o m x y) →
    ∃ d', fix9 (fun _ _ _ _ _ => none) (fun k => b_X12_layReach_174_c96 kc k) f n m u l d = kc n m (u + 1) d' ∧ K7 d d' ∧ MA d' n (fun x y => if x < u + 1 then Wb o (m + 1) x y else Wb o m x y)
  | 0, f + 1, l, d, _, h0, he, hM => by
    refine ⟨d, ?_, fun _ _ => rfl, fun x y a b c e => ?_⟩
    · show b_X12_layReach_174_c96 kc _ n m u l d = _
      rw [b_X12_layReach_174_c96, if_pos (by rw [show l = n by omega]; exact Int.le_refl _)]
    · rw [hM x y a b c e]
      try dsimp only
      congr 1
      by_cases q : x < u + 1
      · rw [if_pos q, if_pos (by omega)]
      · rw [if_neg q, if_neg (by omega)]
  | g + 1, f + 1, l, d, hf, h0, he, hM => by
    have hum : d 182 (30 * u + m).toNat = bi (Wb o m u m) := by
      rw [hM u m hu.1 hu.2 (by omega) hm]
      try dsimp only
      congr 1
      split
      · exact Wb_col o m u
      · rfl
    have hul : d 182 (30 * u + l).toNat = bi (Wb o m u l) := by
      rw [hM u l hu.1 hu.2 (by omega) (by omega)]
      try dsimp only
      rw [if_neg (by omega)]
    have hml : d 182 (30 * (m : Int) + l).toNat = bi (Wb o m m l) := by
      rw [hM m l (by omega) hm (by omega) (by omega)]
      try dsimp only
      congr 1
      split
      · exact Wb_row o m l
      · rfl
    have hb : ∃ d1, b_X12_layReach_174_c96 kc (fix9 (fun _ _ _ _ _ => none) (fun k => b_X12_layReach_174_c96 kc k) f) n m u l d = (if Wb o m u m = true then fix9 (fun _ _ _ _ _ => none) (fun k => b_X12_layReach_174_c96 kc k) f n m u (l + 1) d1 else kc n m (u + 1) d) ∧ d1 = up d 182 (30 * u + l).toNat (bi (Wb o m u l || (Wb o m u m && Wb o m m l))) := by
      refine ⟨_, ?_, rfl⟩
      rw [b_X12_layReach_174_c96, w32_id (by omega), w32_id (by omega), if_neg (by omega), ld_in (by omega), hum, w32_bi, ld_in (by omega), hul, w32_bi, sd_in (by omega), ld_in (by omega), hml, w32_bi, sd_in (by omega)]
      cases Wb o m u m <;> cases Wb o m u l <;> cases Wb o m m l <;> simp [bi]
    obtain ⟨d1, b1, hd1⟩ := hb
    by_cases hW : Wb o m u m = true
    · rw [if_pos hW] at b1
      have hM1 : MA d1 n (fun x y => if x < u ∨ x = u ∧ y < l + 1 then Wb o (m + 1) x y else Wb o m x y) := by
        rw [hd1]
        refine MA_up hM hn.2 hu (by omega) (fun x y a b c e => ?_)
        try dsimp only
        by_cases q : x = u ∧ y = l
        · rw [if_pos q, if_pos (show x < u ∨ x = u ∧ y < l + 1 by omega), q.1, q.2]; rfl
        · rw [if_neg q]
          by_cases q2 : x < u ∨ x = u ∧ y < l
          · rw [if_pos q2, if_pos (by omega)]
          · rw [if_neg q2, if_neg (by omega)]
      obtain ⟨d', k1, k2, k3⟩ := p_w_in hn hm hu kc g f (l + 1) d1 (by omega) (by omega) (by omega) hM1
      refine ⟨d', b1.trans k1, fun k hk => (k2 k hk).trans ?_, k3⟩
      rw [hd1, up_k hk]
    · rw [if_neg hW] at b1
      refine ⟨d, b1, fun _ _ => rfl, fun x y a b c e => ?_⟩
      rw [hM x y a b c e]
      try dsimp only
      congr 1
      by_cases q : x < u
      · rw [if_pos (Or.inl q), if_pos (by omega)]
      · by_cases q2 : x = u
        · subst q2
          rw [Bool.not_eq_true] at hW
          have e2 : Wb o (m + 1) x y = Wb o m x y := by simp only [Wb, hW, Bool.false_and, Bool.or_false]
          rw [if_pos (show x < x + 1 by omega), e2]
          split <;> rfl
        · rw [if_neg (by omega), if_neg (by omega)]
  | _, 0, _, _, hf, _, _, _ => absurd hf (Nat.not_lt_zero _)
theorem p_w_mid {o : Int → Int → Bool} {n : Int} (hn : 0 ≤ n ∧ n ≤ 30) {m : Nat} (hm : (m : Int) < n) (kc : Int → Int → D9 → Option R9) : ∀ (g f : Nat) (u : Int) (d : D9), g < f → 0 ≤ u → u + g = n → MA d n (fun x y => if x < u then Wb o (m + 1) x y else Wb o m x y) →
    ∃ d', fix9 (fun _ _ _ _ => none) (fun k => b_X12_layReach_174_c88 kc k) f n m u d = kc n (m + 1) d' ∧ K7 d d' ∧ MA d' n (Wb o (m + 1))
  | 0, f + 1, u, d, _, h0, he, hM => by
    refine ⟨d, ?_, fun _ _ => rfl, fun x y a b c e => ?_⟩
    · show b_X12_layReach_174_c88 kc _ n m u d = _
      rw [b_X12_layReach_174_c88, if_pos (by rw [show u = n by omega]; exact Int.le_refl _)]
    · rw [hM x y a b c e]
      try dsimp only
      rw [if_pos (by omega)]
  | g + 1, f + 1, u, d, hf, h0, he, hM => by
    obtain ⟨d1, a1, a2, a3⟩ := p_w_in hn hm ⟨h0, by omega⟩ (fix9 (fun _ _ _ _ => none) (fun k => b_X12_layReach_174_c88 kc k) f) n.toNat FU 0 d (by unfold FU; omega) (by omega) (by omega) (o := o) (fun x y a b c e => by
      rw [hM x y a b c e]
      try dsimp only
      congr 1
      by_cases q : x < u
      · rw [if_pos q, if_pos (Or.inl q)]
      · rw [if_neg q, if_neg (by omega)])
    obtain ⟨d', k1, k2, k3⟩ := p_w_mid hn hm kc g f (u + 1) d1 (by omega) (by omega) (by omega) a3
    refine ⟨d', ?_, fun k hk => (k2 k hk).trans (a2 k hk), k3⟩
    show b_X12_layReach_174_c88 kc _ n m u d = _
    rw [b_X12_layReach_174_c88, w32_id (by omega), w32_id (by omega), if_neg (by omega)]
    exact a1.trans k1
  | _, 0, _, _, hf, _, _, _ => absurd hf (Nat.not_lt_zero _)
theorem p_w_out {o : Int → Int → Bool} {n : Int} (hn : 0 ≤ n ∧ n ≤ 30) : ∀ (g f : Nat) (m : Nat) (d : D9), g < f → (m : Int) + g = n → MA d n (Wb o m) →
    ∃ d', fix9 (fun _ _ _ => none) (fun k => b_X12_layReach_174_c81 k) f n m d = rt 0 d' ∧ K7 d d' ∧ MA d' n (Wb o n.toNat)
  | 0, f + 1, m, d, _, he, hM => by
    refine ⟨d, ?_, fun _ _ => rfl, ?_⟩
    · rw [fx2, b_X12_layReach_174_c81, if_pos (by rw [show (m : Int) = n by omega]; exact Int.le_refl _)]
    · rw [show n.toNat = m by omega]; exact hM
  | g + 1, f + 1, m, d, hf, he, hM => by
    obtain ⟨d1, a1, a2, a3⟩ := p_w_mid hn (m := m) (by omega) (fix9 (fun _ _ _ => none) (fun k => b_X12_layReach_174_c81 k) f) n.toNat FU 0 d (by unfold FU; omega) (by omega) (by omega) (o := o) (fun x y a b c e => by
      rw [hM x y a b c e]
      try dsimp only
      rw [if_neg (by omega)])
    obtain ⟨d', k1, k2, k3⟩ := p_w_out hn g f (m + 1) d1 (by omega) (by omega) a3
    rw [show ((m + 1 : Nat) : Int) = (m : Int) + 1 by omega] at k1
    refine ⟨d', ?_, fun k hk => (k2 k hk).trans (a2 k hk), k3⟩
    rw [fx2, b_X12_layReach_174_c81, w32_id (by omega), w32_id (by omega), if_neg (by omega)]
    exact a1.trans k1
  | _, 0, _, _, hf, _, _ => absurd hf (Nat.not_lt_zero _)
theorem p_w_ord {t : Nat → Int} (hn : T7n t) (ho : T7o t) : ∀ (g f : Nat) (i : Int) (d : D9), g < f → 0 ≤ i → i + g = t 2 → d 175 = t → MA d (t 0) (fun u l => ex (fun k => decide (oU t k = u ∧ oL t k = l)) i.toNat 0) →
    ∃ d1, fix9 (fun _ _ _ => none) (fun k => b_X12_layReach_174_c33 k) f (t 0) (256 + 2 * i) d = m_X12_layReach_174_c81 (t 0) 0 d1 ∧ K7 d d1 ∧ MA d1 (t 0) (ord t)
  | 0, f + 1, i, d, _, h0, he, hT, hM => by
    refine ⟨d, ?_, fun _ _ => rfl, ?_⟩
    · show b_X12_layReach_174_c33 _ (t 0) (256 + 2 * i) d = _
      rw [b_X12_layReach_174_c33, ld_in (by omega), if_pos (by rw [hT, show t (2 : Int).toNat = i from by rw [show (2 : Int).toNat = 2 from rfl]; omega]; exact Int.le_refl _)]
    · have e : (t 2).toNat = i.toNat := by omega
      unfold ord; rw [e]; exact hM
  | g + 1, f + 1, i, d, hf, h0, he, hT, hM => by
    obtain ⟨n0, n1, n2, n3⟩ := hn
    obtain ⟨o1, o2⟩ := ho i h0 (by omega)
    have r1 : d 175 (256 + 2 * i).toNat = oU t i := by rw [hT]; rfl
    have r2 : d 175 (256 + 2 * i + 1).toNat = oL t i := by rw [hT]; rfl
    obtain ⟨d', k1, k2, k3⟩ := p_w_ord ⟨n0, n1, n2, n3⟩ ho g f (i + 1) (up d 182 (30 * oU t i + oL t i).toNat (bi true)) (by omega) (by omega) (by omega) (by rw [up_k (by decide)]; exact hT)
      (MA_up hM (by omega) o1 o2 (fun x y a b c e => by
        try dsimp only
        rw [show (i + 1).toNat = i.toNat + 1 by omega, ex_last, show (0 : Int) + (i.toNat : Int) = i by omega]
        by_cases q : x = oU t i ∧ y = oL t i
        · rw [if_pos q, q.1, q.2]; simp
        · rw [if_neg q]
          have : ¬ (oU t i = x ∧ oL t i = y) := by omega
          simp [this]))
    refine ⟨d', ?_, fun k hk => (k2 k hk).trans (up_k hk), k3⟩
    show b_X12_layReach_174_c33 _ (t 0) (256 + 2 * i) d = _
    rw [b_X12_layReach_174_c33, ld_in (by omega), ld_in (by omega), ld_in (by omega), r1, r2, sd_in (by omega), if_neg (by
      rw [hT, show t (2 : Int).toNat = t 2 from rfl, w32_id (by omega), w32_id (by omega)]; omega), show 256 + 2 * i + 2 = 256 + 2 * (i + 1) by omega]
    exact k1
  | _, 0, _, _, hf, _, _, _, _ => absurd hf (Nat.not_lt_zero _)
theorem p_w_zero {n : Int} : ∀ (g f : Nat) (i : Int) (d : D9), g < f → 0 ≤ i → i + g = 900 → (∀ j, j < i.toNat → d 182 j = 0) →
    ∃ d1, fix9 (fun _ _ _ => none) (fun k => b_X12_layReach_174_c9 k) f n i d = m_X12_layReach_174_c33 n 256 d1 ∧ K7 d d1 ∧ ∀ j, j < 900 → d1 182 j = 0
  | 0, f + 1, i, d, _, h0, he, hM => by
    refine ⟨d, ?_, fun _ _ => rfl, fun j hj => hM j (by omega)⟩
    show b_X12_layReach_174_c9 _ n i d = _
    rw [b_X12_layReach_174_c9, if_pos (by rw [show i = 900 by omega]; exact Int.le_refl _)]
  | g + 1, f + 1, i, d, hf, h0, he, hM => by
    obtain ⟨d', k1, k2, k3⟩ := p_w_zero (n := n) g f (i + 1) (up d 182 i.toNat 0) (by omega) (by omega) (by omega) (fun j hj => by
      rw [up_get]; by_cases q : j = i.toNat
      · simp [q]
      · simp only [q, and_false, if_false]; exact hM j (by omega))
    refine ⟨d', ?_, fun k hk => (k2 k hk).trans (up_k hk), k3⟩
    show b_X12_layReach_174_c9 _ n i d = _
    rw [b_X12_layReach_174_c9, w32_id (by omega), w32_id (by omega), if_neg (by omega), sd_in (by omega)]
    exact k1
  | _, 0, _, _, hf, _, _, _ => absurd hf (Nat.not_lt_zero _)
/-- u lies above l, on and on -/
noncomputable def abv (t : Nat → Int) (u l : Int) : Bool := @decide (Relation.TransGen (fun x y => ord t x y = true) u l) (Classical.propDecidable _)
theorem abv_iff (t : Nat → Int) (u l : Int) : abv t u l = true ↔ Relation.TransGen (fun x y => ord t x y = true) u l := by
  unfold abv; exact @decide_eq_true_iff _ (Classical.propDecidable _)
theorem ord_rng {t : Nat → Int} (ho : T7o t) (hn : 0 ≤ t 2) {u l : Int} (h : ord t u l = true) : (0 ≤ u ∧ u < t 0) ∧ 0 ≤ l ∧ l < t 0 := by
  obtain ⟨k, h1, h2, h3⟩ := ex_iff.mp h
  have q := ho k h1 (by omega)
  have e : oU t k = u ∧ oL t k = l := of_decide_eq_true h3
  rw [e.1, e.2] at q; exact q
theorem p_layReach {d : D9} (hn : T7n (d 175)) (ho : T7o (d 175)) : ∃ d', m_X12_layReach_174 d = rt 0 d' ∧ K7 d d' ∧ MA d' (d 175 0) (abv (d 175)) := by
  obtain ⟨n0, n1, n2, n3⟩ := id hn
  unfold m_X12_layReach_174
  rw [ld_in (by omega)]
  obtain ⟨d1, a1, a2, a3⟩ := p_w_zero (n := d 175 0) 900 FU 0 d (by decide) (by omega) (by omega) (fun j hj => by simp at hj)
  obtain ⟨d2, b1, b2, b3⟩ := p_w_ord hn ho (d 175 2).toNat FU 0 d1 (by unfold FU; omega) (by omega) (by omega) (a2 175 (by decide)) (fun u l a b c e => by
    rw [a3 _ (by omega)]; rfl)
  obtain ⟨d3, c1, c2, c3⟩ := p_w_out (o := ord (d 175)) (n := d 175 0) n0 (d 175 0).toNat FU 0 d2 (by unfold FU; omega) (by omega) b3
  refine ⟨d3, a1.trans (b1.trans c1), fun k hk => (c2 k hk).trans ((b2 k hk).trans (a2 k hk)), fun u l a b c e => ?_⟩
  rw [c3 u l a b c e]
  refine congrArg bi ?_
  have q := Wb_iff (o := ord (d 175)) (n := (d 175 0).toNat) (fun x y h => by have := (ord_rng ho n2.1 h).2; omega) u l
  rw [← abv_iff] at q
  cases h1 : Wb (ord (d 175)) (d 175 0).toNat u l <;> cases h2 : abv (d 175) u l <;> simp [h1, h2] at q ⊢

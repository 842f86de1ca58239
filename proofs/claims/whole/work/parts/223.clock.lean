/-! the clock -/
theorem mb {x r A R : Int} (h1 : -A ≤ x) (h2 : x ≤ A) (h3 : 0 ≤ r) (h4 : r ≤ R) : -(A * R) ≤ x * r ∧ x * r ≤ A * R := by
  have hA : 0 ≤ A := by omega
  have e1 : x * r ≤ A * r := Int.mul_le_mul_of_nonneg_right h2 h3
  have e2 : A * r ≤ A * R := Int.mul_le_mul_of_nonneg_left h4 hA
  have e3 : -A * r ≤ x * r := Int.mul_le_mul_of_nonneg_right h1 h3
  have e4 : -A * r = -(A * r) := Int.neg_mul A r
  omega
theorem tdiv_max (x : Int) : max 0 (x.tdiv 1000) = max 0 (x / 1000) := by
  by_cases h : 0 ≤ x
  · rw [Int.tdiv_eq_ediv_of_nonneg h]
  · have h1 : x.tdiv 1000 ≤ 0 := by
      have e : x.tdiv 1000 = -((-x).tdiv 1000) := by rw [Int.neg_tdiv, Int.neg_neg]
      rw [e, Int.tdiv_eq_ediv_of_nonneg (by omega)]; omega
    omega
theorem tdiv_pos {x y : Int} (h : 0 ≤ x) : x.tdiv y = x / y := Int.tdiv_eq_ediv_of_nonneg h
theorem tdiv_rng {x A : Int} (h : -A ≤ x ∧ x ≤ A) : -A ≤ x.tdiv 1000 ∧ x.tdiv 1000 ≤ A := by
  by_cases h0 : 0 ≤ x
  · rw [tdiv_pos h0]; omega
  · have e : x.tdiv 1000 = -((-x).tdiv 1000) := by rw [Int.neg_tdiv, Int.neg_neg]
    rw [e, tdiv_pos (by omega)]; omega
def gr (r g b : Int) : Int := max 0 (((1000 * b - g) * r) / 1000)
theorem gr_bd {r g b : Int} (hr : 0 ≤ r ∧ r ≤ 1000) : 0 ≤ gr r g b ∧ g + gr r g b ≤ max g (1000 * b) := by
  unfold gr
  refine ⟨by omega, ?_⟩
  by_cases h : 0 ≤ 1000 * b - g
  · have h1 : (1000 * b - g) * r ≤ (1000 * b - g) * 1000 := Int.mul_le_mul_of_nonneg_left hr.2 h
    generalize (1000 * b - g) * r = y at h1
    omega
  · have h1 : (1000 * b - g) * r ≤ 0 := Int.mul_nonpos_of_nonpos_of_nonneg (by omega) hr.1
    generalize (1000 * b - g) * r = y at h1
    omega
/-- how often it grows till the goal, n times at most -/
def ck (r b goal : Int) : Nat → Int → Int
  | 0, _ => 0
  | n + 1, g => if g < goal then 1 + ck r b goal n (g + gr r g b) else 0
def gn (r b : Int) : Nat → Int → Int
  | 0, g => g
  | n + 1, g => gn r b n (g + gr r g b)
theorem ck_rng (r b goal : Int) : ∀ (n : Nat) (g : Int), 0 ≤ ck r b goal n g ∧ ck r b goal n g ≤ n
  | 0, _ => by simp [ck]
  | n + 1, g => by
    unfold ck
    have := ck_rng r b goal n (g + gr r g b)
    split <;> omega
theorem gn_rng {r b : Int} (hr : 0 ≤ r ∧ r ≤ 1000) : ∀ (n : Nat) (g : Int), g ≤ gn r b n g ∧ gn r b n g ≤ max g (1000 * b)
  | 0, g => by simp only [gn]; omega
  | n + 1, g => by
    simp only [gn]
    have h1 := gn_rng (b := b) hr n (g + gr r g b)
    have h2 := gr_bd (g := g) (b := b) hr
    omega
theorem gn_fix {r b g : Int} (h : gr r g b = 0) : ∀ n, gn r b n g = g
  | 0 => rfl
  | n + 1 => by simp only [gn]; rw [h, Int.add_zero]; exact gn_fix h n
theorem ck_fix {r b g goal : Int} (h : gr r g b = 0) (hg : g < goal) : ∀ n : Nat, ck r b goal n g = n
  | 0 => rfl
  | n + 1 => by simp only [ck, if_pos hg]; rw [h, Int.add_zero, ck_fix h hg n]; omega
theorem gn_succ (r b : Int) : ∀ (n : Nat) (g : Int), gn r b (n + 1) g = gn r b n g + gr r (gn r b n g) b
  | 0, _ => rfl
  | n + 1, g => gn_succ r b n (g + gr r g b)
theorem gn_mono {r b : Int} (hr : 0 ≤ r ∧ r ≤ 1000) (g : Int) : ∀ (n m : Nat), n ≤ m → gn r b n g ≤ gn r b m g
  | n, 0, h => by have : n = 0 := by omega
                  subst this; exact Int.le_refl _
  | n, m + 1, h => by
    by_cases e : n = m + 1
    · subst e; exact Int.le_refl _
    · have h1 := gn_mono (b := b) hr g n m (by omega)
      have h2 := gr_bd (g := gn r b m g) (b := b) hr
      rw [gn_succ]; omega
/-- the clock's answer is at most m just if it shows the goal after m, at least m just if not before -/
theorem ck_le (r b goal : Int) : ∀ (n : Nat) (g : Int) (m : Nat), m < n → (ck r b goal n g ≤ m ↔ ∃ k, k ≤ m ∧ goal ≤ gn r b k g)
  | 0, _, _, h => absurd h (Nat.not_lt_zero _)
  | n + 1, g, 0, _ => by
    simp only [ck]
    constructor
    · intro h
      refine ⟨0, Nat.le_refl _, ?_⟩
      simp only [gn]
      by_cases hg : g < goal
      · rw [if_pos hg] at h
        have := ck_rng r b goal n (g + gr r g b)
        omega
      · omega
    · rintro ⟨k, hk, hg⟩
      have : k = 0 := by omega
      subst this
      simp only [gn] at hg
      rw [if_neg (by omega)]; omega
  | n + 1, g, m + 1, h => by
    simp only [ck]
    have ih := ck_le r b goal n (g + gr r g b) m (by omega)
    by_cases hg : g < goal
    · rw [if_pos hg]
      constructor
      · intro h1
        obtain ⟨k, hk, h2⟩ := ih.mp (by omega)
        exact ⟨k + 1, by omega, h2⟩
      · rintro ⟨k, hk, h2⟩
        cases k with
        | zero => simp only [gn] at h2; omega
        | succ k =>
          have := ih.mpr ⟨k, by omega, h2⟩
          omega
    · rw [if_neg hg]
      constructor
      · intro _; exact ⟨0, by omega, by simp only [gn]; omega⟩
      · intro _; omega
theorem ck_le' {r b goal g : Int} (hr : 0 ≤ r ∧ r ≤ 1000) {n m : Nat} (h : m < n) : ck r b goal n g ≤ m ↔ goal ≤ gn r b m g := by
  rw [ck_le r b goal n g m h]
  constructor
  · rintro ⟨k, hk, h1⟩
    exact Int.le_trans h1 (gn_mono hr g k m hk)
  · intro h1; exact ⟨m, Nat.le_refl _, h1⟩
/-! the class's clock -/
theorem q_growth {g b : Int} {d : D9} (hr : 0 ≤ d 22 1 ∧ d 22 1 ≤ 99) (hg : 0 ≤ g ∧ g ≤ 10000000) (hb : 0 ≤ b ∧ b ≤ 9999) : m_X2_growth_22 g b d = rt (gr (d 22 1) g b) d := by
  unfold m_X2_growth_22 gr
  have h1 := mb (x := 1000 * b - g) (r := d 22 1) (A := 10000000) (R := 99) (by omega) (by omega) (by omega) (by omega)
  rw [div9_in (by omega)]
  have h2 := tdiv_rng (x := (1000 * b - g) * d 22 1) (A := 10000000 * 99) (by omega)
  rw [max9_in (by omega), tdiv_max]
theorem q_ageAt_l {goal b : Int} {d : D9} (hr : 0 ≤ d 22 1 ∧ d 22 1 ≤ 99) (hb : 0 ≤ b ∧ b ≤ 9999) (hG : 0 ≤ goal ∧ goal ≤ 20000000) : ∀ (m f : Nat) (g n : Int), m < f → n + m = 400 → 0 ≤ n → 0 ≤ g ∧ g ≤ 10000000 →
    fix9 (fun _ _ _ _ _ => none) (fun k => b_X2_ageAt_22_c12 k) f goal b g n d = rt (n + ck (d 22 1) b goal m g) d
  | 0, f + 1, g, n, _, h1, h0, hg => by
    show b_X2_ageAt_22_c12 _ goal b g n d = _
    rw [b_X2_ageAt_22_c12, w32_id (by omega), w32_id (by omega), if_pos (by omega)]
    simp only [ck]
    have : n = 400 := by omega
    rw [this]; rfl
  | m + 1, f + 1, g, n, hf, h1, h0, hg => by
    show b_X2_ageAt_22_c12 _ goal b g n d = _
    rw [b_X2_ageAt_22_c12, w32_id (by omega), w32_id (a := n) (by omega), if_neg (by omega), w32_id (a := g) (by omega), w32_id (a := goal) (by omega)]
    by_cases hgo : g < goal
    · have h2 := gr_bd (r := d 22 1) (g := g) (b := b) (by omega)
      rw [if_pos hgo, q_growth hr hg hb, cl_rt, w32_id (by omega)]
      by_cases hz : gr (d 22 1) g b = 0
      · rw [if_neg (by omega), ck_fix hz hgo]
        have : n + ((m + 1 : Nat) : Int) = 400 := by omega
        rw [this]
      · rw [if_pos hz, lt_v, q_ageAt_l hr hb hG m f _ _ (by omega) (by omega) (by omega) (by omega)]
        simp only [ck, if_pos hgo]
        rw [Int.add_assoc]
    · rw [if_neg hgo]
      simp only [ck, if_neg hgo]
      rw [Int.add_zero]
  | _, 0, _, _, hf, _, _, _ => absurd hf (Nat.not_lt_zero _)
theorem q_ageAt {goal b e s : Int} {d : D9} (hr : 0 ≤ d 22 1 ∧ d 22 1 ≤ 99) (hb : 0 ≤ b ∧ b ≤ 9999) (hG : 0 ≤ goal ∧ goal ≤ 20000000) (he : 0 ≤ e ∧ e ≤ 9999) (hs : 0 ≤ s ∧ s ≤ 99) : m_X2_ageAt_22 goal b e s d = rt (ck (d 22 1) b goal 400 (10 * e * s)) d := by
  unfold m_X2_ageAt_22
  rw [lt_v]
  have h1 := mb (x := 10 * e) (r := s) (A := 99990) (R := 99) (by omega) (by omega) (by omega) (by omega)
  have h2 : 0 ≤ 10 * e * s := Int.mul_nonneg (by omega) hs.1
  have k := q_ageAt_l (d := d) hr hb hG 400 FU (10 * e * s) 0 (by decide) (by omega) (by omega) (by omega)
  rw [Int.zero_add] at k
  exact k
theorem q_grown_l {b age : Int} {d : D9} (hr : 0 ≤ d 22 1 ∧ d 22 1 ≤ 99) (hb : 0 ≤ b ∧ b ≤ 9999) (hG : age ≤ 400) : ∀ (m f : Nat) (g n : Int), m < f → n + m = age → 0 ≤ n → 0 ≤ g ∧ g ≤ 10000000 →
    fix9 (fun _ _ _ _ _ => none) (fun k => b_X2_grownBy_22_c12 k) f age b g n d = rt (gn (d 22 1) b m g) d
  | 0, f + 1, g, n, _, h1, h0, hg => by
    show b_X2_grownBy_22_c12 _ age b g n d = _
    rw [b_X2_grownBy_22_c12, w32_id (by omega), w32_id (by omega), if_pos (by omega)]
    rfl
  | m + 1, f + 1, g, n, hf, h1, h0, hg => by
    show b_X2_grownBy_22_c12 _ age b g n d = _
    rw [b_X2_grownBy_22_c12]
    have h2 := gr_bd (r := d 22 1) (g := g) (b := b) (by omega)
    rw [w32_id (by omega), w32_id (a := n) (by omega), if_neg (by omega), q_growth hr hg hb, cl_rt, w32_id (by omega)]
    by_cases hz : gr (d 22 1) g b = 0
    · rw [if_neg (by omega), gn_fix hz]
    · rw [if_pos hz, lt_v, q_grown_l hr hb hG m f _ _ (by omega) (by omega) (by omega) (by omega)]
      rfl
  | _, 0, _, _, hf, _, _, _ => absurd hf (Nat.not_lt_zero _)
theorem q_grown {b e s age : Int} {d : D9} (hr : 0 ≤ d 22 1 ∧ d 22 1 ≤ 99) (hb : 0 ≤ b ∧ b ≤ 9999) (ha : 0 ≤ age ∧ age ≤ 400) (he : 0 ≤ e ∧ e ≤ 9999) (hs : 0 ≤ s ∧ s ≤ 99) : m_X2_grownBy_22 age b e s d = rt (gn (d 22 1) b age.toNat (10 * e * s)) d := by
  unfold m_X2_grownBy_22
  rw [lt_v]
  have h1 := mb (x := 10 * e) (r := s) (A := 99990) (R := 99) (by omega) (by omega) (by omega) (by omega)
  have h2 : 0 ≤ 10 * e * s := Int.mul_nonneg (by omega) hs.1
  exact q_grown_l (d := d) hr hb ha.2 age.toNat FU (10 * e * s) 0 (by unfold FU; omega) (by omega) (by omega) (by omega)
/-! the model's clock -/
theorem divL_in {a b : Int} (h : (-9223372036854775808 ≤ a ∧ a ≤ 9223372036854775807) ∧ -9223372036854775808 ≤ b ∧ b ≤ 9223372036854775807) : divL a b = a.tdiv b := by
  unfold divL; rw [w64_id h.1, w64_id h.2]
theorem p_growth {g b : Int} {d : D9} (hr : 0 ≤ d 175 6 ∧ d 175 6 ≤ 99) (hg : 0 ≤ g ∧ g ≤ 10000000) (hb : 0 ≤ b ∧ b ≤ 9999) : m_X12_growth_174 g b d = rt (gr (d 175 6) g b) d := by
  unfold m_X12_growth_174 gr
  rw [ld_in (by omega)]
  show rt (maxL9 0 (divL ((1000 * w32 b - g) * w32 (d 175 6)) 1000)) d = _
  have h1 := mb (x := 1000 * b - g) (r := d 175 6) (A := 10000000) (R := 99) (by omega) (by omega) (by omega) (by omega)
  rw [w32_id (by omega), w32_id (by omega), divL_in (by omega)]
  have h2 := tdiv_rng (x := (1000 * b - g) * d 175 6) (A := 10000000 * 99) (by omega)
  rw [maxL9_in (by omega), tdiv_max]
theorem p_clock_l {a b : Int} {d : D9} (hr : 0 ≤ d 175 6 ∧ d 175 6 ≤ 99) (hb : 0 ≤ b ∧ b ≤ 9999) (hG : 0 ≤ a ∧ a ≤ 20000) : ∀ (m f : Nat) (g n : Int), m < f → n + m = 400 → 0 ≤ n → 0 ≤ g ∧ g ≤ 10000000 →
    fix9 (fun _ _ _ _ _ => none) (fun k => b_X12_clock_174_c15 k) f a b g n d = rt (n + ck (d 175 6) b (1000 * a) m g) d
  | 0, f + 1, g, n, _, h1, h0, hg => by
    show b_X12_clock_174_c15 _ a b g n d = _
    rw [b_X12_clock_174_c15, w32_id (by omega), w64_id (by omega), w64_id (by omega), w32_id (by omega), w32_id (by omega)]
    simp only [ck]
    rw [Int.add_zero]
    split
    · rfl
    · rw [if_pos (by omega)]
  | m + 1, f + 1, g, n, hf, h1, h0, hg => by
    show b_X12_clock_174_c15 _ a b g n d = _
    rw [b_X12_clock_174_c15, w32_id (by omega), w64_id (by omega), w64_id (by omega), w32_id (by omega), w32_id (by omega)]
    by_cases hgo : g < 1000 * a
    · have h2 := gr_bd (r := d 175 6) (g := g) (b := b) (by omega)
      rw [if_neg (by omega), if_neg (by omega), p_growth hr hg hb, cl_rt, lt_v, p_clock_l hr hb hG m f _ _ (by omega) (by omega) (by omega) (by omega)]
      simp only [ck, if_pos hgo]
      rw [Int.add_assoc]
    · rw [if_pos (by omega)]
      simp only [ck, if_neg hgo]
      rw [Int.add_zero]
  | _, 0, _, _, hf, _, _, _ => absurd hf (Nat.not_lt_zero _)
theorem p_clock {a b e s : Int} {d : D9} (hr : 0 ≤ d 175 6 ∧ d 175 6 ≤ 99) (hb : 0 ≤ b ∧ b ≤ 9999) (hG : 0 ≤ a ∧ a ≤ 20000) (he : 0 ≤ e ∧ e ≤ 9999) (hs : 0 ≤ s ∧ s ≤ 99) : m_X12_clock_174 a b e s d = rt (ck (d 175 6) b (1000 * a) 400 (10 * e * s)) d := by
  unfold m_X12_clock_174
  rw [lt_v, w32_id (by omega), w32_id (by omega)]
  have h1 := mb (x := 10 * e) (r := s) (A := 99990) (R := 99) (by omega) (by omega) (by omega) (by omega)
  have h2 : 0 ≤ 10 * e * s := Int.mul_nonneg (by omega) hs.1
  have k := p_clock_l (d := d) hr hb hG 400 FU (10 * e * s) 0 (by decide) (by omega) (by omega) (by omega)
  rw [Int.zero_add] at k
  exact k

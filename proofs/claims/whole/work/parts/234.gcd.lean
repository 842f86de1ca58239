/-! fractions by least numbers -/
def fp : Nat → Nat × Nat
  | 0 => (1, 2)
  | n + 1 => match fp n with
    | (a, b) => (b, a + b)
def Fb (n : Nat) : Nat := (fp n).1
theorem Fb_0 : Fb 0 = 1 := rfl
theorem Fb_1 : Fb 1 = 2 := rfl
theorem Fb_2 (n : Nat) : Fb (n + 2) = Fb (n + 1) + Fb n := by
  show (fp (n + 2)).1 = (fp (n + 1)).1 + (fp n).1
  simp only [fp]
  cases fp n with
  | mk a b => simp only []; omega
theorem Fb_100 : 1000000000000000000 < Fb 100 := by decide +kernel
theorem remL_n {a b : Nat} (ha : a ≤ 9223372036854775807) (hb : b ≤ 9223372036854775807) : remL (a : Int) (b : Int) = ((a % b : Nat) : Int) := by
  unfold remL
  rw [w64_id (by omega), w64_id (by omega)]
  rfl
theorem divL_n {a b : Nat} (ha : a ≤ 9223372036854775807) (hb : b ≤ 9223372036854775807) : divL (a : Int) (b : Int) = ((a / b : Nat) : Int) := by
  unfold divL
  rw [w64_id (by omega), w64_id (by omega)]
  rfl
theorem gcd_step (a b : Nat) : Nat.gcd b (a % b) = Nat.gcd a b := by
  rw [Nat.gcd_comm a b, Nat.gcd_rec b a, Nat.gcd_comm]
/-- one turn of the class's loop -/
theorem q_g1 {a b : Nat} {i : Int} {d : D9} {k : Int → Int → Int → D9 → Option R9} (ha : a ≤ 9223372036854775807) (hb : b ≤ 9223372036854775807) (h0 : b ≠ 0) (hi : 0 ≤ i ∧ i < 100) : b_X0_commonOf_c9 k (a : Int) (b : Int) i d = k (b : Int) ((a % b : Nat) : Int) (i + 1) d := by
  rw [b_X0_commonOf_c9, w32_id (by omega), w32_id (by omega), if_neg (by omega), w64_id (by omega), w64_id (by omega), if_neg (by omega), dvL_in (by omega), lt_v, remL_n ha hb]
theorem q_gcd_l {d : D9} : ∀ (m f : Nat) (a b : Nat) (i : Int), m < f → i + m = 100 → 0 ≤ i → a ≤ 9223372036854775807 → b ≤ 9223372036854775807 → b < Fb m → fix9 (fun _ _ _ _ => none) (fun k => b_X0_commonOf_c9 k) f (a : Int) (b : Int) i d = rt ((Nat.gcd a b : Nat) : Int) d
  | 0, f + 1, a, b, i, _, hi, h0, ha, hb, hF => by
    rw [Fb_0] at hF
    have : b = 0 := by omega
    subst this
    rw [fx3, b_X0_commonOf_c9, if_pos (by rw [show i = 100 by omega]; exact Int.le_refl _), Nat.gcd_zero_right]
  | 1, f + 2, a, b, i, hf, hi, h0, ha, hb, hF => by
    rw [Fb_1] at hF
    by_cases hz : b = 0
    · subst hz
      rw [fx3, b_X0_commonOf_c9, w32_id (by omega), w32_id (by omega), if_neg (by omega), if_pos (show w64 ((0 : Nat) : Int) = w64 0 from rfl), Nat.gcd_zero_right]
    · have : b = 1 := by omega
      subst this
      rw [fx3, q_g1 ha hb (by omega) (by omega), fx3, b_X0_commonOf_c9, if_pos (by rw [show i + 1 = 100 by omega]; exact Int.le_refl _), Nat.gcd_one_right]
  | m + 2, f + 2, a, b, i, hf, hi, h0, ha, hb, hF => by
    by_cases hz : b = 0
    · subst hz
      rw [fx3, b_X0_commonOf_c9, w32_id (by omega), w32_id (by omega), if_neg (by omega), if_pos (show w64 ((0 : Nat) : Int) = w64 0 from rfl), Nat.gcd_zero_right]
    · have hr : a % b < b := Nat.mod_lt _ (by omega)
      rw [fx3, q_g1 ha hb hz (by omega)]
      by_cases h1 : a % b < Fb (m + 1)
      · rw [q_gcd_l (m + 1) (f + 1) b (a % b) (i + 1) (by omega) (by omega) (by omega) hb (by omega) h1, gcd_step]
      · have hz2 : a % b ≠ 0 := by
          have : 0 < Fb (m + 1) := by
            cases m with
            | zero => decide
            | succ m =>
              rw [Fb_2]
              have : 0 < Fb 0 := by decide
              have key : ∀ n, 0 < Fb n := by
                intro n
                induction n using Nat.strongRecOn with
                | ind n ih =>
                  match n with
                  | 0 => decide
                  | 1 => decide
                  | n + 2 => rw [Fb_2]; have := ih n (by omega); omega
              have := key m
              omega
          omega
        have hr2 : b % (a % b) < Fb m := by
          rw [Fb_2] at hF
          have e := Nat.div_add_mod b (a % b)
          have hq : 1 ≤ b / (a % b) := (Nat.le_div_iff_mul_le (by omega)).mpr (by omega)
          have hm : (a % b) * 1 ≤ (a % b) * (b / (a % b)) := Nat.mul_le_mul_left _ hq
          omega
        have hr3 : b % (a % b) < a % b := Nat.mod_lt _ (by omega)
        rw [fx3, q_g1 hb (by omega) hz2 (by omega), q_gcd_l m f (a % b) (b % (a % b)) (i + 1 + 1) (by omega) (by omega) (by omega) (by omega) (by omega) hr2, gcd_step, gcd_step]
  | _, 0, _, _, _, hf, _, _, _, _, _ => absurd hf (Nat.not_lt_zero _)
  | _ + 1, 1, _, _, _, hf, _, _, _, _, _ => absurd hf (by omega)
theorem q_gcd {a b : Nat} {d : D9} (ha : a ≤ 1000000000000000000) (hb : b ≤ 1000000000000000000) : m_X0_commonOf (a : Int) (b : Int) d = rt ((Nat.gcd a b : Nat) : Int) d := by
  have hF := Fb_100
  unfold m_X0_commonOf m_X0_commonOf_c9
  exact q_gcd_l 100 FU a b 0 (by decide) (by omega) (by omega) (by omega) (by omega) (by omega)
/-- the least numbers -/
def fU (u l : Int) : Int := ((u.toNat / Nat.gcd u.toNat l.toNat : Nat) : Int)
def fL (u l : Int) : Int := ((l.toNat / Nat.gcd u.toNat l.toNat : Nat) : Int)
theorem q_put {u l : Int} {d : D9} (hu : 0 ≤ u ∧ u ≤ 1000000000000000000) (hl : 0 < l ∧ l ≤ 1000000000000000000) : m_X0_put_53 u l d = rt 1 (up (up d 53 0 (fU u l)) 53 1 (fL u l)) := by
  obtain ⟨a, rfl⟩ := Int.eq_ofNat_of_zero_le hu.1
  obtain ⟨b, rfl⟩ := Int.eq_ofNat_of_zero_le (show 0 ≤ l by omega)
  have hg : 0 < Nat.gcd a b := Nat.gcd_pos_of_pos_right a (by omega)
  have hg2 : Nat.gcd a b ≤ b := Nat.gcd_le_right a (by omega)
  unfold m_X0_put_53 fU fL
  rw [w64_id (by omega), w64_id (by omega), if_pos (by omega), q_gcd (by omega) (by omega), cl_rt, w64_id (by omega), if_pos (by omega), dvL_in (by omega), pf_v, dvL_in (by omega), pf_v, divL_n (by omega) (by omega), divL_n (by omega) (by omega)]
  simp only [Int.toNat_natCast]
  rfl
theorem q_put0 {u l : Int} {d : D9} (hl : l = 0) : m_X0_put_53 u l d = rt 0 (up (up d 53 0 0) 53 1 0) := by
  subst hl
  rfl
theorem q_drop (d : D9) : m_X0_drop_53 d = rt 0 (up (up d 53 0 0) 53 1 0) := rfl
/-- one turn of the model's loop -/
theorem p_g1 {u l : Int} {a b : Nat} {d : D9} {k : Int → Int → Int → Int → D9 → Option R9} (ha : a ≤ 9223372036854775807) (hb : b ≤ 9223372036854775807) (h0 : b ≠ 0) : b_X12_fraction_174_c6 k u l (a : Int) (b : Int) d = k u l (b : Int) ((a % b : Nat) : Int) d := by
  rw [b_X12_fraction_174_c6, w64_id (by omega), w64_id (by omega), if_neg (by omega), dvL_in (by omega), lt_v, remL_n ha hb]
theorem p_g0 {u l : Nat} {a : Nat} {d : D9} {k : Int → Int → Int → Int → D9 → Option R9} (hu : u ≤ 9223372036854775807) (hl : l ≤ 9223372036854775807) (ha : a ≤ 9223372036854775807) (h0 : a ≠ 0) : b_X12_fraction_174_c6 k (u : Int) (l : Int) (a : Int) ((0 : Nat) : Int) d = rt 1 (up (up d 174 20 ((u / a : Nat) : Int)) 174 21 ((l / a : Nat) : Int)) := by
  rw [b_X12_fraction_174_c6, if_pos (show w64 ((0 : Nat) : Int) = w64 0 from rfl), dvL_in (by omega), pf_v, dvL_in (by omega), pf_v, divL_n hu ha, divL_n hl ha]
  rfl
theorem p_gcd_l {u l : Nat} {d : D9} (hu : u ≤ 9223372036854775807) (hl : l ≤ 9223372036854775807) : ∀ (m f : Nat) (a b : Nat), m < f → a ≤ 9223372036854775807 → b ≤ 9223372036854775807 → b < Fb m → 0 < Nat.gcd a b → fix9 (fun _ _ _ _ _ => none) (fun k => b_X12_fraction_174_c6 k) f (u : Int) (l : Int) (a : Int) (b : Int) d = rt 1 (up (up d 174 20 ((u / Nat.gcd a b : Nat) : Int)) 174 21 ((l / Nat.gcd a b : Nat) : Int))
  | 0, f + 1, a, b, _, ha, hb, hF, hg => by
    rw [Fb_0] at hF
    have : b = 0 := by omega
    subst this
    rw [Nat.gcd_zero_right] at hg ⊢
    rw [fx4, p_g0 hu hl ha (by omega)]
  | 1, f + 2, a, b, hf, ha, hb, hF, hg => by
    rw [Fb_1] at hF
    by_cases hz : b = 0
    · subst hz
      rw [Nat.gcd_zero_right] at hg ⊢
      rw [fx4, p_g0 hu hl ha (by omega)]
    · have : b = 1 := by omega
      subst this
      rw [fx4, p_g1 ha hb (by omega), Nat.mod_one, fx4, p_g0 hu hl (by omega) (by omega), Nat.gcd_one_right]
  | m + 2, f + 2, a, b, hf, ha, hb, hF, hg => by
    by_cases hz : b = 0
    · subst hz
      rw [Nat.gcd_zero_right] at hg ⊢
      rw [fx4, p_g0 hu hl ha (by omega)]
    · have hr : a % b < b := Nat.mod_lt _ (by omega)
      rw [fx4, p_g1 ha hb hz]
      by_cases h1 : a % b < Fb (m + 1)
      · rw [p_gcd_l hu hl (m + 1) (f + 1) b (a % b) (by omega) hb (by omega) h1 (by rw [gcd_step]; exact hg), gcd_step]
      · have hz2 : a % b ≠ 0 := by
          have key : ∀ n, 0 < Fb n := by
            intro n
            induction n using Nat.strongRecOn with
            | ind n ih =>
              match n with
              | 0 => decide
              | 1 => decide
              | n + 2 => rw [Fb_2]; have := ih n (by omega); omega
          have := key (m + 1)
          omega
        have hr2 : b % (a % b) < Fb m := by
          rw [Fb_2] at hF
          have e := Nat.div_add_mod b (a % b)
          have hq : 1 ≤ b / (a % b) := (Nat.le_div_iff_mul_le (by omega)).mpr (by omega)
          have hm : (a % b) * 1 ≤ (a % b) * (b / (a % b)) := Nat.mul_le_mul_left _ hq
          omega
        have hr3 : b % (a % b) < a % b := Nat.mod_lt _ (by omega)
        rw [fx4, p_g1 hb (by omega) hz2, p_gcd_l hu hl m f (a % b) (b % (a % b)) (by omega) (by omega) (by omega) hr2 (by rw [gcd_step, gcd_step]; exact hg), gcd_step, gcd_step]
  | _, 0, _, _, hf, _, _, _, _ => absurd hf (Nat.not_lt_zero _)
  | _ + 1, 1, _, _, hf, _, _, _, _ => absurd hf (by omega)
theorem p_frac {u l : Int} {d : D9} (hu : 0 ≤ u ∧ u ≤ 1000000000000000000) (hl : 0 < l ∧ l ≤ 1000000000000000000) : m_X12_fraction_174 u l d = rt 1 (up (up d 174 20 (fU u l)) 174 21 (fL u l)) := by
  obtain ⟨a, rfl⟩ := Int.eq_ofNat_of_zero_le hu.1
  obtain ⟨b, rfl⟩ := Int.eq_ofNat_of_zero_le (show 0 ≤ l by omega)
  have hF := Fb_100
  unfold m_X12_fraction_174 m_X12_fraction_174_c6
  exact p_gcd_l (by omega) (by omega) 100 FU a b (by decide) (by omega) (by omega) (by omega) (Nat.gcd_pos_of_pos_right a (by omega))
theorem p_nothing (d : D9) : m_X12_nothing_174 d = rt 0 (up (up d 174 20 0) 174 21 0) := rfl
/-! agreeing at a call that makes a fraction -/
def SF (d d' : D9) : Prop := (∀ k, ¬ SCR k → k ≠ 53 → d' k = d k) ∧ (d' 51 1 = d 51 1 ∧ d' 51 2 = d 51 2 ∧ d' 51 3 = d 51 3) ∧ d' 174 7 = d 174 7 ∧ d' 174 15 = d 174 15 ∧ d' 174 16 = d 174 16
theorem SM.f {d d' : D9} (h : SM d d') : SF d d' := ⟨fun k a _ => h.1 k a, h.2.1, h.2.2.1, h.2.2.2.1, h.2.2.2.2.1⟩
theorem SF.tr {d d' d'' : D9} (a : SF d d') (b : SF d' d'') : SF d d'' :=
  ⟨fun k h h2 => (b.1 k h h2).trans (a.1 k h h2), ⟨b.2.1.1.trans a.2.1.1, b.2.1.2.1.trans a.2.1.2.1, b.2.1.2.2.trans a.2.1.2.2⟩, b.2.2.1.trans a.2.2.1, b.2.2.2.1.trans a.2.2.2.1, b.2.2.2.2.trans a.2.2.2.2⟩
theorem SF.t {d d' : D9} (h : SF d d') : d' 175 = d 175 := h.1 175 (by unfold SCR; omega) (by decide)
theorem SF.q {d d' : D9} (h : SF d d') (q : Q7 d) : Q7 d' := by
  unfold Q7
  rw [h.t]
  exact ⟨q.1, RW_c q.2 (fun k a b => h.1 k (by unfold SCR; omega) (by omega))⟩
theorem SF.c (d : D9) (u l : Int) : SF d (up (up d 53 0 u) 53 1 l) :=
  ⟨fun k _ h => (up_k h).trans (up_k h), ⟨by rw [up_k (by decide), up_k (by decide)], by rw [up_k (by decide), up_k (by decide)], by rw [up_k (by decide), up_k (by decide)]⟩, by rw [up_k (by decide), up_k (by decide)], by rw [up_k (by decide), up_k (by decide)], by rw [up_k (by decide), up_k (by decide)]⟩
theorem SF.m (d : D9) (u l : Int) : SF d (up (up d 174 20 u) 174 21 l) :=
  ⟨fun k a _ => have h : k ≠ 174 := fun e => a (by subst e; unfold SCR; omega)
    (up_k h).trans (up_k h), ⟨by rw [up_k (by decide), up_k (by decide)], by rw [up_k (by decide), up_k (by decide)], by rw [up_k (by decide), up_k (by decide)]⟩, rfl, rfl, rfl⟩
def AF (d : D9) (c : Option R9) (m : D9 → Option R9) (f : Nat → Int) : Prop :=
  (∃ v d1, c = rt v d1 ∧ SF d d1 ∧ ∀ d', SM d1 d' → ∃ d2, m d' = rt v d2 ∧ SF d' d2 ∧ d2 194 = d' 194 ∧ d2 53 = d' 53 ∧ d2 174 20 = d1 53 0 ∧ d2 174 21 = d1 53 1 ∧ d2 174 3 = 0) ∨
  (∃ e d1, (c = th e d1 ∧ f e ≠ 0) ∧ SM d d1 ∧ ∀ d', SM d d' → ∃ b d2, m d' = rt b d2 ∧ MS d' d2 ∧ d2 174 3 = f e)
/-- both made the fraction u by l (or none: 0, 0), the model after a way that left nothing of note -/
theorem AF.mk {d : D9} {c : Option R9} {m : D9 → Option R9} {f : Nat → Int} (q : Q7 d) (v u l : Int) (hc : c = rt v (up (up d 53 0 u) 53 1 l)) (hm : ∀ d', Q7 d' → d' 175 = d 175 → ∃ d1, m d' = rt v (up (up d1 174 20 u) 174 21 l) ∧ MS d' d1 ∧ d1 174 3 = 0) : AF d c m f := by
  refine Or.inl ⟨v, _, hc, SF.c d u l, fun d' s => ?_⟩
  have sf := (SF.c d u l).tr s.f
  obtain ⟨d1, h1, h2, h3⟩ := hm d' (sf.q q) sf.t
  refine ⟨_, h1, h2.1.f.tr (SF.m d1 u l), ?_, ?_, ?_, ?_, ?_⟩
  · rw [up_k (by decide), up_k (by decide)]; exact h2.2
  · rw [up_k (by decide), up_k (by decide)]; exact h2.1.1 53 (by unfold SCR; omega)
  · rfl
  · rfl
  · exact h3
theorem AF.thr {d : D9} {c : Option R9} {m : D9 → Option R9} {f : Nat → Int} (q : Q7 d) (e : Nat) (hc : c = th e d) (hm : ∀ d', Q7 d' → d' 175 = d 175 → ∃ b d2, m d' = rt b d2 ∧ MS d' d2 ∧ d2 174 3 = f e) (he : f e ≠ 0 := by decide) : AF d c m f :=
  Or.inr ⟨e, d, ⟨hc, he⟩, SM.rf d, fun d' s => hm d' (s.q q) s.t⟩

/-! stories, and folds over a window -/
theorem fo_add {σ : Type} {g : Int → σ → σ} : ∀ (a b : Nat) (i : Int) (s : σ), fo g (a + b) i s = fo g b (i + a) (fo g a i s)
  | 0, b, i, s => by
    rw [Nat.zero_add, show i + ((0 : Nat) : Int) = i by omega]; rfl
  | a + 1, b, i, s => by
    rw [show a + 1 + b = (a + b) + 1 by omega, show i + ((a + 1 : Nat) : Int) = i + 1 + a by omega]
    exact fo_add a b (i + 1) (g i s)
theorem fo_skip {σ : Type} {g : Int → σ → σ} : ∀ (m : Nat) (i : Int) (s : σ), (∀ j s, i ≤ j → j < i + m → g j s = s) → fo g m i s = s
  | 0, _, _, _ => rfl
  | m + 1, i, s, h => by
    show fo g m (i + 1) (g i s) = s
    rw [h i s (by omega) (by omega)]
    exact fo_skip m (i + 1) s (fun j s h1 h2 => h j s (by omega) (by omega))
theorem fo_win {σ : Type} {g : Int → σ → σ} {lo hi : Int} {n : Nat} (h0 : 0 ≤ lo ∧ lo ≤ hi ∧ hi ≤ n) (s : σ) (h : ∀ (j : Int) s, 0 ≤ j → j < n → (j < lo ∨ hi ≤ j) → g j s = s) : fo g n 0 s = fo g (hi - lo).toNat lo s := by
  have e : n = lo.toNat + ((hi - lo).toNat + (n - hi.toNat)) := by omega
  rw [e, fo_add, fo_add, show (0 : Int) + (lo.toNat : Int) = lo by omega, show lo + ((hi - lo).toNat : Int) = hi by omega, fo_skip lo.toNat 0 s (fun j s h1 h2 => h j s h1 (by omega) (by omega))]
  exact fo_skip _ _ _ (fun j s h1 h2 => h j s (by omega) (by omega) (by omega))
theorem st_0 (t : Nat → Int) (k : Int) : t (1086 + 4 * k).toNat = st t k 0 := by unfold st; rw [Int.add_zero]
theorem st_w (t : Nat → Int) (k w : Int) : t (1086 + 4 * k + w).toNat = st t k w := rfl
def was (t : Nat → Int) (s w x : Int) : Bool := ex (fun k => decide (st t k 0 = s ∧ st t k 1 = w ∧ st t k 2 ≤ x ∧ x ≤ st t k 3)) (t 5).toNat 0
theorem p_was {s w x : Int} {d : D9} {t : Nat → Int} (k : TK t) (e : d 175 = t) (hs : 0 ≤ s ∧ s ≤ 1) (hw : 0 ≤ w ∧ w ≤ 9) (hx : 0 ≤ x ∧ x ≤ 400) : m_X12_wasThere_174 s w x d = rt (bi (was t s w x)) d := by
  obtain ⟨y5, yk⟩ := TKy k
  have z := fix_xu (z := fun _ _ _ _ _ => none) (B := fun k => b_X12_wasThere_174_c5 k) (fun k i => k s w x (1086 + 4 * i) d) 0 (t 5) (fun k => decide (st t k 0 = s ∧ st t k 1 = w ∧ st t k 2 ≤ x ∧ x ≤ st t k 3)) (rt 1 d) (rt 0 d) (by omega) ?_ ?_
  · rw [Int.sub_zero] at z
    refine z.trans ?_
    unfold was
    split
    · rename_i h; rw [h]; rfl
    · rename_i h; rw [Bool.not_eq_true] at h; rw [h]; rfl
  · intro k'
    simp only [b_X12_wasThere_174_c5]
    rw [ld_in (by omega), show ((5 : Int).toNat) = 5 from rfl, e, if_pos (Int.le_refl _)]; rfl
  · intro k' i h0 hi
    obtain ⟨a0, a1, a2, a3, a4⟩ := yk i h0 hi
    simp only [b_X12_wasThere_174_c5]
    rw [ld_in (by omega), show ((5 : Int).toNat) = 5 from rfl, e, w32_id (by omega), w32_id (by omega), if_neg (by omega), ld_in (by omega), e, st_0 t i, ld_in (by omega), e, st_w t i 1, ld_in (by omega), e, st_w t i 2, ld_in (by omega), e, st_w t i 3, w32_id (by omega), w32_id (by omega), w32_id (by omega), w32_id (by omega), w32_id (by omega), w32_id (by omega), w32_id (by omega), p_within ⟨by omega, by unfold I32; omega, by unfold I32; omega⟩, cl_rt, w32_bi, show 1086 + 4 * i + 4 = 1086 + 4 * (i + 1) by omega]
    by_cases x1 : st t i 0 = s
    · by_cases x2 : st t i 1 = w
      · by_cases x3 : st t i 2 ≤ x ∧ x ≤ st t i 3
        · simp [x1, x2, x3, bi]
        · simp [x1, x2, x3, bi]
      · simp [x1, x2]
    · simp [x1]
theorem q_spans {i x : Int} {d : D9} {t : Nat → Int} (k : TK t) (r : RW d t) (hi : 0 ≤ i ∧ i < t 5) (hx : 0 ≤ x ∧ x ≤ 400) : m_X7_spans_23 i x d = rt (bi (decide (st t i 2 ≤ x ∧ x ≤ st t i 3))) d := by
  obtain ⟨y5, yk⟩ := TKy k
  obtain ⟨a0, a1, a2, a3, a4⟩ := yk i hi.1 hi.2
  obtain ⟨r0, r1, r2, r3⟩ := (RWy r).2 i hi.1 hi.2
  unfold m_X7_spans_23
  rw [ld_in (by omega), r2, w32_id (by omega), w32_id (by omega), ld_in (by omega), r3, w32_id (by omega)]
  by_cases x1 : st t i 2 ≤ x
  · rw [if_neg (by omega)]
    by_cases x2 : x ≤ st t i 3
    · rw [if_neg (by omega), dec_t ⟨x1, x2⟩]; rfl
    · rw [if_pos (by omega), dec_f (fun h => x2 h.2)]; rfl
  · rw [if_pos (by omega), dec_f (fun h => x1 h.1)]; rfl
theorem q_tells {w x : Int} {d : D9} {t : Nat → Int} (k : TK t) (r : RW d t) (hw : 0 ≤ w ∧ w ≤ 9) (hx : 0 ≤ x ∧ x ≤ 400) : m_X7_tellsBeast_23 w x d = rt (bi (was t 0 w x)) d := by
  obtain ⟨y5, yk⟩ := TKy k
  have z := fix_xu (z := fun _ _ _ _ => none) (B := fun k => b_X7_tellsBeast_23_c2 k) (fun k i => k w x i d) 0 (t 5) (fun k => decide (st t k 0 = 0 ∧ st t k 1 = w ∧ st t k 2 ≤ x ∧ x ≤ st t k 3)) (rt 1 d) (rt 0 d) (by omega) ?_ ?_
  · rw [Int.sub_zero] at z
    refine z.trans ?_
    unfold was
    split
    · rename_i h; rw [h]; rfl
    · rename_i h; rw [Bool.not_eq_true] at h; rw [h]; rfl
  · intro k'
    simp only [b_X7_tellsBeast_23_c2]
    rw [(RWy r).1, if_pos (Int.le_refl _)]; rfl
  · intro k' i h0 hi
    obtain ⟨a0, a1, a2, a3, a4⟩ := yk i h0 hi
    obtain ⟨r0, r1, r2, r3⟩ := (RWy r).2 i h0 hi
    simp only [b_X7_tellsBeast_23_c2]
    rw [(RWy r).1, w32_id (by omega), w32_id (by omega), if_neg (by omega), ld_in (by omega), r0, w32_id (by omega), w32_id (by omega), ld_in (by omega), r1, w32_id (by omega), w32_id (by omega), q_spans k r ⟨h0, hi⟩ hx, cl_rt, w32_bi]
    by_cases x1 : st t i 0 = 0
    · rw [if_neg (by omega)]
      by_cases x2 : st t i 1 = w
      · by_cases x3 : st t i 2 ≤ x ∧ x ≤ st t i 3
        · simp [x1, x2, x3, bi]
        · simp [x1, x2, x3, bi]
      · simp [x1, x2]
    · rw [if_pos (by omega)]; simp [x1]
def liv (t : Nat → Int) (p x : Int) : Bool := decide (pt t p 0 ≠ 2) || was t 0 (pt t p 2) x
theorem q_lives {p x : Int} {d : D9} {t : Nat → Int} (k : TK t) (r : RW d t) (hp : 0 ≤ p ∧ p < t 0) (hx : 0 ≤ x ∧ x ≤ 400) : m_X10_livesAt_1 p x d = rt (bi (liv t p x)) d := by
  have n0 := (TKn k).1
  obtain ⟨k0, k1, k2, _⟩ := TKp k p hp.1 hp.2
  obtain ⟨r0, r1, r2, _⟩ := (RWp r).2.2.1 p hp.1 hp.2
  unfold m_X10_livesAt_1 liv
  rw [ld_in (by omega), r0, w32_id (by omega), w32_id (by omega), ld_in (by omega), r2, q_tells k r k2 hx, cl_rt, w32_bi]
  by_cases y : pt t p 0 = 2
  · rw [if_neg (by omega)]
    cases was t 0 (pt t p 2) x <;> simp [y, bi]
  · rw [if_pos y]; simp [y, bi]
/-! the peoples at a time -/
def ppS (t : Nat → Int) (x k v : Int) : Int := if st t k 0 = 1 ∧ st t k 2 ≤ x ∧ x ≤ st t k 3 then or9 v (shl9 1 (st t k 1)) else v
def pps (t : Nat → Int) (x : Int) : Int := fo (ppS t x) (t 5).toNat 0 0
theorem pps_ok {t : Nat → Int} (k : TK t) (x : Int) : (0 ≤ pps t x ∧ pps t x < 1073741824) ∧ ∀ w, 0 ≤ w → w < 30 → tb (pps t x) w = was t 1 w x := by
  obtain ⟨y5, yk⟩ := TKy k
  have key : ∀ n : Nat, (n : Int) ≤ t 5 → (0 ≤ fo (ppS t x) n 0 0 ∧ fo (ppS t x) n 0 0 < 1073741824) ∧ ∀ w, 0 ≤ w → w < 30 → tb (fo (ppS t x) n 0 0) w = ex (fun k => decide (st t k 0 = 1 ∧ st t k 1 = w ∧ st t k 2 ≤ x ∧ x ≤ st t k 3)) n 0 := by
    intro n
    induction n with
    | zero => intro _; exact ⟨⟨Int.le_refl 0, (by decide : (0 : Int) < 1073741824)⟩, fun w _ _ => tb_0 w⟩
    | succ n ih =>
      intro hn
      obtain ⟨i1, i2⟩ := ih (by omega)
      obtain ⟨a0, a1, a2, a3, a4⟩ := yk n (by omega) (by omega)
      have rk := shl9_rng (i := st t n 1) (by omega)
      rw [fo_last, Int.zero_add]
      generalize fo (ppS t x) n 0 0 = v at i1 i2 ⊢
      refine ⟨?_, fun w h0 h1 => ?_⟩
      · unfold ppS
        split
        · exact or9_rng (by omega)
        · exact i1
      · rw [ex_last, Int.zero_add, ← i2 w h0 h1]
        unfold ppS
        by_cases c : st t n 0 = 1 ∧ st t n 2 ≤ x ∧ x ≤ st t n 3
        · rw [if_pos c, tb_or (by omega), tb_shl (by omega) h0]
          congr 1
          exact decide_eq_decide.mpr ⟨fun h => ⟨c.1, h, c.2⟩, fun h => h.2.1⟩
        · rw [if_neg c, dec_f (fun h => c ⟨h.1, h.2.2⟩), Bool.or_false]
  have := key (t 5).toNat (by omega)
  exact this
theorem was_6 {t : Nat → Int} (k : TK t) {w x : Int} (hw : 6 ≤ w) : was t 1 w x = false := by
  obtain ⟨y5, yk⟩ := TKy k
  unfold was
  rw [ex_false]
  intro j h0 h1
  obtain ⟨a0, a1, a2, _⟩ := yk j h0 (by omega)
  exact dec_f (fun h => by have := a2 h.1; omega)
theorem q_pps {x : Int} {d : D9} {t : Nat → Int} (k : TK t) (r : RW d t) (hx : 0 ≤ x ∧ x ≤ 400) : m_X7_peoplesAt_23 x d = rt (pps t x) d := by
  obtain ⟨y5, yk⟩ := TKy k
  have z := (fix_fu (z := fun _ _ _ _ => none) (B := fun k => b_X7_peoplesAt_23_c4 k) (fun k i v => k x v i d) 0 (t 5) (ppS t x) (fun i v => 0 ≤ i) (fun v => rt v d) 0 (by omega) (by omega) ?_ ?_).2
  · rw [Int.sub_zero] at z; exact z
  · intro k' v hI
    simp only [b_X7_peoplesAt_23_c4]
    rw [(RWy r).1, if_pos (Int.le_refl _)]
  · intro k' i v hi h0
    obtain ⟨a0, a1, a2, a3, a4⟩ := yk i h0 hi
    obtain ⟨r0, r1, r2, r3⟩ := (RWy r).2 i h0 hi
    refine ⟨by omega, ?_⟩
    simp only [b_X7_peoplesAt_23_c4]
    rw [(RWy r).1, w32_id (by omega), w32_id (by omega), if_neg (by omega), ld_in (by omega), r0, w32_id (by omega), w32_id (by omega), q_spans k r ⟨h0, hi⟩ hx, cl_rt, w32_bi, ld_in (by omega), r1, lt_v]
    unfold ppS
    by_cases x1 : st t i 0 = 1
    · rw [if_neg (by omega)]
      by_cases x3 : st t i 2 ≤ x ∧ x ≤ st t i 3
      · simp [x1, x3, bi]
      · simp [x1, x3, bi]
    · rw [if_pos (by omega)]; simp [x1]
theorem fo_shift (h : Int → Int) : ∀ (m : Nat) (i s : Int), fo (fun k c => c + h k) m i s = s + fo (fun k c => c + h k) m i 0
  | 0, _, s => by simp [fo]
  | m + 1, i, s => by
    simp only [fo]
    rw [fo_shift h m (i + 1) (s + h i), fo_shift h m (i + 1) (0 + h i)]
    omega
def p6 (t : Nat → Int) (x : Int) : Int := fo (fun w c => c + bi (was t 1 w x)) 6 0 0
theorem cn_tr {X n : Nat} (h : ∀ i, n ≤ i → X.testBit i = false) : ∀ k, cn X (n + k) = cn X n
  | 0 => rfl
  | k + 1 => by
    show cn X (n + k) + (X.testBit (n + k)).toNat = _
    rw [cn_tr h k, h (n + k) (by omega)]; rfl
theorem bc_pps {t : Nat → Int} (k : TK t) (x : Int) : bc (pps t x) = p6 t x ∧ pps t x < 64 := by
  obtain ⟨⟨h0, h1⟩, hb⟩ := pps_ok k x
  obtain ⟨X, hX⟩ := Int.eq_ofNat_of_zero_le h0
  have hbit : ∀ i : Nat, i < 30 → X.testBit i = was t 1 i x := by
    intro i hi
    have := hb i (by omega) (by omega)
    rw [hX] at this
    simpa [tb] using this
  have hz : ∀ i : Nat, 6 ≤ i → X.testBit i = false := by
    intro i hi
    by_cases h : i < 30
    · rw [hbit i h]; exact was_6 k (by omega)
    · have := tb_lt (a := pps t x) (n := 30) (i := i) (by omega) (by omega)
      rw [hX] at this
      simpa [tb] using this
  refine ⟨?_, ?_⟩
  · rw [hX, bc_nat X (by omega)]
    unfold cnt
    rw [show 30 = 6 + 24 from rfl, cn_tr hz 24]
    unfold p6
    simp only [fo, cn]
    rw [hbit 0 (by omega), hbit 1 (by omega), hbit 2 (by omega), hbit 3 (by omega), hbit 4 (by omega), hbit 5 (by omega)]
    have tn : ∀ b : Bool, ((b.toNat : Nat) : Int) = bi b := by intro b; cases b <;> rfl
    simp only [Int.natCast_add, tn]
    simp only [show ((0 : Nat) : Int) = 0 from rfl, show ((1 : Nat) : Int) = 0 + 1 from rfl, show ((2 : Nat) : Int) = 0 + 1 + 1 from rfl, show ((3 : Nat) : Int) = 0 + 1 + 1 + 1 from rfl, show ((4 : Nat) : Int) = 0 + 1 + 1 + 1 + 1 from rfl, show ((5 : Nat) : Int) = 0 + 1 + 1 + 1 + 1 + 1 from rfl]
  · rw [hX]
    have : X < 2 ^ 6 := Nat.lt_pow_two_of_testBit X hz
    omega

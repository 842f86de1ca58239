/-! the class's skins, held against what is told -/
def FR (d d' : D9) (P : Nat → Nat → Prop) : Prop := ∀ k j, ¬ P k j → d' k j = d k j
def R7l (c : D9) (t : Nat → Int) : Prop := c 22 0 = t 4 ∧ c 22 1 = t 6 ∧ c 22 2 = t 7 ∧ c 22 3 = t 8 ∧ c 22 4 = t 9 ∧ c 22 5 = t 10 ∧ c 22 6 = t 11 ∧ c 22 7 = t 12
def lst (t : Nat → Int) (s l : Int) (m : Bool) : Int := if tha t s l = true then -1 else spa t s l m
def RB7 (c : D9) (t : Nat → Int) (s l : Int) : Prop := c 17 (s * 4 + l).toNat = sk t s (5 + 3 * l + 0) ∧ c 18 (s * 4 + l).toNat = sk t s (5 + 3 * l + 1) ∧ c 19 (s * 4 + l).toNat = sk t s (5 + 3 * l + 2)
def RA7 (c : D9) (t : Nat → Int) (s : Int) : Prop := c 10 s.toNat = sk t s 0 ∧ c 11 s.toNat = sk t s 1 ∧ (c 12 s.toNat = if sk t s 1 = 0 then 0 else sk t s 2) ∧ c 13 s.toNat = sk t s 3 ∧ c 14 s.toNat = sk t s 4 ∧ ∀ l, 0 ≤ l → l < sk t s 4 → RB7 c t s l
def RE7 (c : D9) (t : Nat → Int) (s l : Int) : Prop := c 20 (s * 4 + l).toNat = lst t s l false ∧ c 21 (s * 4 + l).toNat = lst t s l true
def RC7 (c : D9) (t : Nat → Int) (s : Int) : Prop := ∀ l, 0 ≤ l → l < sk t s 4 → RE7 c t s l
def RJ7 (c : D9) (t : Nat → Int) (s : Int) : Prop := c 15 s.toNat = srt t s ∧ c 16 s.toNat = sya t s
def R7s (c : D9) (t : Nat → Int) : Prop := c 9 0 = t 1 ∧ ∀ s, 0 ≤ s → s < t 1 → RA7 c t s ∧ RC7 c t s ∧ RJ7 c t s
theorem lst_rng (t : Nat → Int) (s l : Int) (m : Bool) : -1 ≤ lst t s l m ∧ lst t s l m ≤ 400 := by
  have := spa_rng t s l m
  unfold lst; split <;> omega
theorem lst_thin (t : Nat → Int) (s l : Int) (m : Bool) : (lst t s l m = -1) = (tha t s l = true) := by
  have := spa_rng t s l m
  unfold lst
  cases tha t s l <;> simp
  omega
theorem q_isThin {b : Int} {d : D9} {t : Nat → Int} (hl : T7l t) (hr : R7l d t) (hb : 0 ≤ b ∧ b ≤ 9999) : m_X2_isThin_22 b d = rt (bi (thn t b)) d := by
  obtain ⟨_, _, _, _, h9, _⟩ := hl
  obtain ⟨_, _, _, _, e4, _⟩ := hr
  unfold m_X2_isThin_22 thn
  rw [e4, w32_id (by omega), w32_id (by omega)]
  by_cases h : b < t 9
  · rw [if_neg (by omega)]; simp [h, bi]
  · rw [if_pos (by omega)]; simp [h, bi]
theorem q_goalBelow {a : Int} {d : D9} {t : Nat → Int} (hl : T7l t) (hr : R7l d t) (ha : 0 ≤ a ∧ a ≤ 9999) : m_X2_goalBelow_22 a d = rt (goal t a false) d := by
  obtain ⟨_, _, _, _, _, h10, _⟩ := hl
  obtain ⟨_, _, _, _, _, e5, _⟩ := hr
  unfold m_X2_goalBelow_22 goal
  have h2 := mb (x := a) (r := 100 - t 10) (A := 9999) (R := 150) (by omega) (by omega) (by omega) (by omega)
  have h4 : 0 ≤ a * (100 - t 10) := Int.mul_nonneg (by omega) (by omega)
  rw [e5, div9_in (by omega), tdiv_pos h4]; simp
theorem q_goalAbove {a : Int} {d : D9} {t : Nat → Int} (hl : T7l t) (hr : R7l d t) (ha : 0 ≤ a ∧ a ≤ 9999) : m_X2_goalAbove_22 a d = rt (goal t a true) d := by
  obtain ⟨_, _, _, _, _, h10, _⟩ := hl
  obtain ⟨_, _, _, _, _, e5, _⟩ := hr
  unfold m_X2_goalAbove_22 goal
  have h2 := mb (x := a) (r := 100 + t 10) (A := 9999) (R := 150) (by omega) (by omega) (by omega) (by omega)
  have h4 : 0 ≤ a * (100 + t 10) := Int.mul_nonneg (by omega) (by omega)
  rw [e5, div9_in (by omega), tdiv_pos h4]; simp
theorem q_leastFor {a b e : Int} {d : D9} {t : Nat → Int} (hl : T7l t) (hr : R7l d t) (ha : 0 ≤ a ∧ a ≤ 9999) (hb : 0 ≤ b ∧ b ≤ 9999) (he : 0 ≤ e ∧ e ≤ 9999) : m_X2_leastFor_22 a b e d = rt (spn t a b e false) d := by
  have g := goal_rng (m := false) hl ha
  unfold m_X2_leastFor_22 spn
  rw [q_goalBelow hl hr ha, cl_rt]
  obtain ⟨_, h6, h7, h8, _, h10, _⟩ := hl
  obtain ⟨_, e1, e2, e3, _, e5, _⟩ := hr
  rw [q_ageAt (by rw [e1]; omega) hb g he (by rw [e3]; omega), cl_rt, e1, e3]
  simp
theorem q_greatestFor {a b e : Int} {d : D9} {t : Nat → Int} (hl : T7l t) (hr : R7l d t) (ha : 0 ≤ a ∧ a ≤ 9999) (hb : 0 ≤ b ∧ b ≤ 9999) (he : 0 ≤ e ∧ e ≤ 9999) : m_X2_greatestFor_22 a b e d = rt (spn t a b e true) d := by
  have g := goal_rng (m := true) hl ha
  unfold m_X2_greatestFor_22 spn
  rw [q_goalAbove hl hr ha, cl_rt]
  obtain ⟨_, h6, h7, h8, _, h10, _⟩ := hl
  obtain ⟨_, e1, e2, e3, _, e5, _⟩ := hr
  rw [q_ageAt (by rw [e1]; omega) hb g he (by rw [e2]; omega), cl_rt, e1, e2]
  simp
theorem R7l_up {d : D9} {t : Nat → Int} {k j : Nat} {v : Int} (h : R7l d t) (hk : k ≠ 22) : R7l (up d k j v) t := by
  unfold R7l; rw [up_k (Ne.symm hk)]; exact h
theorem q_clockCell {s l : Int} {d : D9} {t : Nat → Int} (hl : T7l t) (hr : R7l d t) (hs : 0 ≤ s ∧ s < 30) (hk : SK7 t s) (h : 0 ≤ l ∧ l < sk t s 4) (hB : RB7 d t s l) :
    m_X6_clockCell_9_22 (s * 4 + l) d = rt 0 (up (up d 20 (s * 4 + l).toNat (lst t s l false)) 21 (s * 4 + l).toNat (lst t s l true)) := by
  obtain ⟨_, _, _, _, h4, hc⟩ := hk
  have c0 := hc l h.1 h.2 0 (by omega) (by omega)
  have c1 := hc l h.1 h.2 1 (by omega) (by omega)
  have c2 := hc l h.1 h.2 2 (by omega) (by omega)
  obtain ⟨b0, b1, b2⟩ := hB
  have hr2 : ∀ v, R7l (up d 20 (s * 4 + l).toNat v) t := fun v => R7l_up hr (by decide)
  have w0 : w32 0 = 0 := rfl
  have w1 : w32 1 ≠ 0 := by decide
  unfold m_X6_clockCell_9_22
  rw [ld_in (by omega), b1, q_isThin hl hr c1, cl_rt, show thn t (sk t s (5 + 3 * l + 1)) = tha t s l from rfl]
  unfold lst spa
  cases hT : tha t s l
  · rw [bi_f, if_pos w0, ld_in (by omega), ld_in (by omega), ld_in (by omega), b0, b1, b2, q_leastFor hl hr c0 c1 c2, cl_rt, m_X6_clockCell_9_22_c46, sd_in (by omega), if_pos w0, ld_in (by omega), ld_in (by omega), ld_in (by omega), up_k (by decide), up_k (by decide), up_k (by decide), b0, b1, b2, q_greatestFor hl (hr2 _) c0 c1 c2, cl_rt, sd_in (by omega)]
    rfl
  · rw [bi_t, if_neg w1, m_X6_clockCell_9_22_c46, sd_in (by omega), if_neg w1, sd_in (by omega)]
    rfl
theorem q_thick {s : Int} {d : D9} {t : Nat → Int} (hs : 0 ≤ s ∧ s < 30) (h4 : 0 ≤ sk t s 4 ∧ sk t s 4 ≤ 4) (e4 : d 14 s.toNat = sk t s 4) (hC : RC7 d t s) : m_X6_thick_9 s d = rt (thk t s) d := by
  refine (fix_fu (z := fun _ _ _ _ => none) (B := fun k => b_X6_thick_9_c4 k) (fun k l n => k s n l d) 0 (sk t s 4) (fun l n => n + bi (!tha t s l)) (fun l n => 0 ≤ l ∧ 0 ≤ n ∧ n ≤ l) (fun n => rt n d) 0 (by omega) (by omega) ?_ ?_).2.trans ?_
  · intro k n hI
    simp only [b_X6_thick_9_c4]
    rw [ld_in (by omega), e4, if_pos (by omega)]
  · intro k l n hlt hI
    have hb := bi_rng (!tha t s l)
    have r := lst_rng t s l false
    refine ⟨by omega, ?_⟩
    simp only [b_X6_thick_9_c4]
    rw [ld_in (by omega), e4, w32_id (by omega), w32_id (by omega), if_neg (by omega), ld_in (by omega), (hC l hI.1 hlt).1, w32_id (by omega), w32_id (by omega), lt_v, lt_v]
    have e := lst_thin t s l false
    cases hT : tha t s l
    · rw [hT] at e
      rw [if_neg (by rw [e]; simp)]; rfl
    · rw [hT] at e
      rw [if_pos (by rw [e])]; rfl
  · simp [thk]
theorem q_turned {s : Int} {d : D9} {t : Nat → Int} (hs : 0 ≤ s ∧ s < 30) (h4 : 0 ≤ sk t s 4 ∧ sk t s 4 ≤ 4) (e4 : d 14 s.toNat = sk t s 4) (hC : RC7 d t s) : m_X6_isTurned_9 s d = rt (bi (trn t s)) d := by
  unfold m_X6_isTurned_9
  rw [lt_v, ld_in (by omega), lt_v, e4]
  have z := fix_xu (z := fun _ _ _ => none) (B := fun k => b_X6_isTurned_9_c16 k) (fun k i => k (s * 4 + sk t s 4) (s * 4 + i) d) 0 (sk t s 4) (fun i => ex (fun j => !tha t s i && !tha t s j && decide (spa t s j true < spa t s i false)) (sk t s 4 - (i + 1)).toNat (i + 1)) (rt 1 d) (rt 0 d) (by omega) ?_ ?_
  · rw [Int.add_zero, Int.sub_zero] at z
    refine z.trans ?_
    unfold trn
    split
    · rename_i h; rw [h]; rfl
    · rename_i h; rw [Bool.not_eq_true] at h; rw [h]; rfl
  · intro k
    simp only [b_X6_isTurned_9_c16]
    rw [if_pos (by omega)]
    rfl
  · intro k i h0 hi
    simp only [b_X6_isTurned_9_c16]
    rw [w32_id (by omega), w32_id (by omega), if_neg (by omega), lt_v]
    have z2 := (fix_xu (z := fun _ _ _ _ => none) (B := fun kk => b_X6_isTurned_9_c28 k kk) (fun kk j => kk (s * 4 + sk t s 4) (s * 4 + i) (s * 4 + j) d) (i + 1) (sk t s 4) (fun j => !tha t s i && !tha t s j && decide (spa t s j true < spa t s i false)) (rt 1 d) (k (s * 4 + sk t s 4) (s * 4 + (i + 1)) d) (by omega) ?_ ?_)
    · rw [← Int.add_assoc] at z2
      rw [← Int.add_assoc]
      exact z2
    · intro kk
      simp only [b_X6_isTurned_9_c28]
      rw [if_pos (by omega), Int.add_assoc]
    · intro kk j h1 hj
      have r1 := spa_rng t s i false
      have r2 := spa_rng t s j true
      have q1 := lst_rng t s j true
      have q2 := lst_rng t s i false
      simp only [b_X6_isTurned_9_c28]
      rw [w32_id (by omega), w32_id (by omega), if_neg (by omega), ld_in (by omega), (hC j (by omega) hj).2, ld_in (by omega), (hC i h0 hi).1, ld_in (by omega), (hC j (by omega) hj).2, w32_id (a := lst t s j true) (by omega), w32_id (by omega), w32_id (by omega), Int.add_assoc]
      unfold lst
      cases tha t s i <;> cases tha t s j <;> simp
      · rw [if_neg (by omega)]
        by_cases hh : spa t s j true < spa t s i false
        · rw [if_neg (by omega), if_pos hh]
        · rw [if_pos (by omega), if_neg hh]
      · intro h1 h2; omega
theorem fd_map {ρ σ : Type} {p : Int → Option ρ} {q : Int → Option σ} {f : ρ → σ} {e : ρ} {e' : σ} (he : e' = f e) : ∀ {n : Nat} {i : Int}, (∀ j, i ≤ j → j < i + n → q j = (p j).map f) → fd q e' n i = f (fd p e n i)
  | 0, _, _ => he
  | n + 1, i, h => by
    simp only [fd]
    rw [h i (by omega) (by omega)]
    cases p i with
    | none => exact fd_map he (n := n) (i := i + 1) (fun j h1 h2 => h j (by omega) (by omega))
    | some v => rfl
theorem fd_last {ρ : Type} {p : Int → Option ρ} {e : ρ} : ∀ {n : Nat} {i : Int}, fd p e (n + 1) i = fd p ((p (i + n)).getD e) n i
  | 0, i => by
    have : i + ((0 : Nat) : Int) = i := by omega
    rw [this]; simp only [fd]; cases p i <;> rfl
  | n + 1, i => by
    have h := fd_last (p := p) (e := e) (n := n) (i := i + 1)
    have : i + ((n + 1 : Nat) : Int) = i + 1 + n := by omega
    rw [this]
    show (match p i with | some v => v | none => fd p e (n + 1) (i + 1)) = (match p i with | some v => v | none => fd p _ n (i + 1))
    rw [h]
theorem fd_in {p : Int → Option Int} {e lo hi : Int} (he : lo ≤ e ∧ e < hi) : ∀ {n : Nat} {i : Int}, (∀ j v, i ≤ j → j < i + n → p j = some v → lo ≤ v ∧ v < hi) → lo ≤ fd p e n i ∧ fd p e n i < hi
  | 0, _, _ => he
  | n + 1, i, h => by
    simp only [fd]
    cases hp : p i with
    | none => exact fd_in he (n := n) (i := i + 1) (fun j v h1 h2 h3 => h j v (by omega) (by omega) h3)
    | some v => exact h i v (by omega) (by omega) hp
theorem q_outer {s : Int} {d : D9} {t : Nat → Int} (hs : 0 ≤ s ∧ s < 30) (h4 : 1 ≤ sk t s 4 ∧ sk t s 4 ≤ 4) (e4 : d 14 s.toNat = sk t s 4) (hC : RC7 d t s) : ∃ r, (0 ≤ r ∧ r < 120) ∧ m_X6_outermost_9 s d = rt r d ∧ d 21 r.toNat = lsO t s := by
  have z := fix_du (z := fun _ _ _ _ => none) (B := fun k => b_X6_outermost_9_c6 k) (fun k l => k s (s * 4) (s * 4 + l) d) 0 (sk t s 4) (fun l => if tha t s l = true then none else some (s * 4 + l)) (s * 4) (fun v => rt v d) (by omega) ?_ ?_
  · rw [Int.add_zero, Int.sub_zero] at z
    have hr : s * 4 ≤ fd (fun l => if tha t s l = true then none else some (s * 4 + l)) (s * 4) (sk t s 4).toNat 0 ∧ fd (fun l => if tha t s l = true then none else some (s * 4 + l)) (s * 4) (sk t s 4).toNat 0 < s * 4 + 4 := by
      refine fd_in (by omega) (fun j v h1 h2 h3 => ?_)
      split at h3
      · cases h3
      · cases h3; omega
    refine ⟨_, ⟨by omega, by omega⟩, z, ?_⟩
    unfold lsO
    cases hT : tha t s 0 with
    | true =>
      have e0 : d 21 (s * 4).toNat = -1 := by
        have := (hC 0 (by omega) (by omega)).2
        rw [Int.add_zero] at this
        rw [this]; unfold lst; rw [hT]; rfl
      refine (fd_map (f := fun r => d 21 r.toNat) (e := s * 4) e0.symm (fun j h1 h2 => ?_)).symm
      have hj := (hC j h1 (by omega)).2
      cases hj2 : tha t s j
      · unfold lst at hj
        rw [hj2] at hj
        simp [hj]
      · simp
    | false =>
      obtain ⟨n, hn⟩ : ∃ n, (sk t s 4).toNat = n + 1 := ⟨(sk t s 4).toNat - 1, by omega⟩
      rw [hn]
      simp only [fd, hT]
      have hj := (hC 0 (by omega) (by omega)).2
      unfold lst at hj
      rw [hT, Int.add_zero] at hj
      simp [hj]
  · intro k
    simp only [b_X6_outermost_9_c6]
    rw [ld_in (by omega), e4, if_pos (by omega)]
  · intro k l h0 hi
    have r := lst_rng t s l false
    simp only [b_X6_outermost_9_c6]
    rw [ld_in (by omega), e4, w32_id (by omega), w32_id (by omega), if_neg (by omega), ld_in (by omega), (hC l h0 hi).1, w32_id (by omega), w32_id (by omega), Int.add_assoc]
    simp only [lst_thin]
    cases tha t s l <;> simp
theorem q_inner {s : Int} {d : D9} {t : Nat → Int} (hs : 0 ≤ s ∧ s < 30) (h4 : 1 ≤ sk t s 4 ∧ sk t s 4 ≤ 4) (e4 : d 14 s.toNat = sk t s 4) (hC : RC7 d t s) : ∃ r, (0 ≤ r ∧ r < 120) ∧ m_X6_innermost_9 s d = rt r d ∧ d 20 r.toNat = lsI t s := by
  unfold m_X6_innermost_9
  rw [lt_v, ld_in (by omega), lt_v, e4]
  have z := fix_du (z := fun _ _ _ => none) (B := fun k => b_X6_innermost_9_c15 k) (fun k l => k (s * 4) (s * 4 + (sk t s 4 - 1 - l)) d) 0 (sk t s 4 - 1) (fun l => if tha t s (sk t s 4 - 1 - l) = true then none else some (s * 4 + (sk t s 4 - 1 - l))) (s * 4) (fun v => rt v d) (by omega) ?_ ?_
  · rw [Int.sub_zero] at z
    have hr : s * 4 ≤ fd (fun l => if tha t s (sk t s 4 - 1 - l) = true then none else some (s * 4 + (sk t s 4 - 1 - l))) (s * 4) (sk t s 4 - 1).toNat 0 ∧ fd (fun l => if tha t s (sk t s 4 - 1 - l) = true then none else some (s * 4 + (sk t s 4 - 1 - l))) (s * 4) (sk t s 4 - 1).toNat 0 < s * 4 + 4 := by
      refine fd_in (by omega) (fun j v h1 h2 h3 => ?_)
      split at h3
      · cases h3
      · cases h3; omega
    rw [show s * 4 + sk t s 4 - 1 = s * 4 + (sk t s 4 - 1) by omega]
    refine ⟨_, ⟨by omega, by omega⟩, z, ?_⟩
    · unfold lsI
      obtain ⟨n, hn⟩ : ∃ n, (sk t s 4).toNat = n + 1 := ⟨(sk t s 4).toNat - 1, by omega⟩
      have hn2 : (sk t s 4 - 1).toNat = n := by omega
      rw [hn, hn2, fd_last]
      refine (fd_map (f := fun r => d 20 r.toNat) (e := s * 4) ?_ (fun j h1 h2 => ?_)).symm
      · have := (hC 0 (by omega) (by omega)).1
        rw [Int.add_zero] at this
        rw [this, show sk t s 4 - 1 - (0 + (n : Int)) = 0 by omega]
        unfold lst
        cases tha t s 0 <;> simp
      · have hj := (hC (sk t s 4 - 1 - j) (by omega) (by omega)).1
        cases hj2 : tha t s (sk t s 4 - 1 - j)
        · unfold lst at hj
          rw [hj2] at hj
          simp [hj]
        · simp
  · intro k
    simp only [b_X6_innermost_9_c15]
    rw [if_pos (by rw [w32_id (by omega), w32_id (by omega)]; omega)]
  · intro k l h0 hi
    have r := lst_rng t s (sk t s 4 - 1 - l) false
    simp only [b_X6_innermost_9_c15]
    rw [w32_id (by omega), w32_id (by omega), if_neg (by omega), ld_in (by omega), (hC _ (by omega) (by omega)).1, w32_id (by omega), w32_id (by omega), show s * 4 + (sk t s 4 - 1 - l) + -1 = s * 4 + (sk t s 4 - 1 - (l + 1)) by omega]
    simp only [lst_thin]
    cases tha t s (sk t s 4 - 1 - l) <;> simp
theorem q_sortOf {s : Int} {d : D9} {t : Nat → Int} (hs : 0 ≤ s ∧ s < 30) (h1 : 0 ≤ sk t s 1 ∧ sk t s 1 ≤ 2) (h4 : 0 ≤ sk t s 4 ∧ sk t s 4 ≤ 4) (e1 : d 11 s.toNat = sk t s 1) (e4 : d 14 s.toNat = sk t s 4) (hC : RC7 d t s) : m_X6_sortOf_9 s d = rt (srt t s) d := by
  have h5 := thk_rng (t := t) (s := s) (by omega)
  unfold m_X6_sortOf_9 srt
  rw [ld_in (by omega), e4, w32_id (by omega), q_thick hs h4 e4 hC, cl_rt, w32_id (by omega), q_turned hs h4 e4 hC, cl_rt, w32_bi, ld_in (by omega), ld_in (by omega), e1, w32_id (by omega), w32_id (by omega)]
  by_cases z1 : sk t s 4 = 0
  · simp [z1]
  · by_cases z2 : thk t s = 0
    · simp [z1, z2]
    · simp only [z1, z2, if_false, not_false_eq_true, if_true, ne_eq]
      cases trn t s
      · simp only [bi, Bool.false_eq_true, if_false, if_true]
        by_cases y0 : sk t s 1 = 0
        · simp [y0]
        · by_cases y1 : sk t s 1 = 1
          · simp [y1]
          · have y2 : sk t s 1 = 2 := by omega
            simp [y2]
      · simp [bi]
theorem q_judge {s : Int} {d : D9} {t : Nat → Int} (hs : 0 ≤ s ∧ s < 30) (h1 : 0 ≤ sk t s 1 ∧ sk t s 1 ≤ 2) (h4 : 0 ≤ sk t s 4 ∧ sk t s 4 ≤ 4) (e1 : d 11 s.toNat = sk t s 1) (e4 : d 14 s.toNat = sk t s 4) (hC : RC7 d t s) :
    ∃ d', m_X6_judge_9 s d = rt 0 d' ∧ RJ7 d' t s ∧ FR d d' (fun k j => (k = 15 ∨ k = 16) ∧ j = s.toNat) := by
  have hr := srt_rng (t := t) (s := s) h1
  unfold m_X6_judge_9
  rw [q_sortOf hs h1 h4 e1 e4 hC, cl_rt, sd_in (by omega), sd_in (by omega), ld_in (by omega), ld_in (by omega), show (up (up d 15 s.toNat (srt t s)) 16 s.toNat (-1)) 15 s.toNat = srt t s from by rw [up_k (by decide), up_same], w32_id (by omega), w32_id (by omega), w32_id (by omega)]
  have e4' : (up (up d 15 s.toNat (srt t s)) 16 s.toNat (-1)) 14 s.toNat = sk t s 4 := by rw [up_k (by decide), up_k (by decide)]; exact e4
  have hC' : RC7 (up (up d 15 s.toNat (srt t s)) 16 s.toNat (-1)) t s := by
    intro l a b
    unfold RE7
    rw [up_k (by decide), up_k (by decide), up_k (by decide), up_k (by decide)]; exact hC l a b
  have fr : ∀ v, FR d (up (up (up d 15 s.toNat (srt t s)) 16 s.toNat (-1)) 16 s.toNat v) (fun k j => (k = 15 ∨ k = 16) ∧ j = s.toNat) := by
    intro v k j h
    simp only [up_get]
    rw [if_neg (fun e => h ⟨Or.inr e.1, e.2⟩), if_neg (fun e => h ⟨Or.inr e.1, e.2⟩), if_neg (fun e => h ⟨Or.inl e.1, e.2⟩)]
  by_cases z4 : srt t s = 4
  · have hp : 1 ≤ sk t s 4 := by
      unfold srt at z4
      by_cases hh : sk t s 4 = 0
      · rw [if_pos hh] at z4; omega
      · omega
    obtain ⟨r, r1, r2, r3⟩ := q_inner hs (by omega) e4' hC'
    rw [if_neg (by omega), r2, cl_rt, ld_in (by omega), r3, sd_in (by omega)]
    refine ⟨_, rfl, ⟨?_, ?_⟩, fr _⟩
    · rw [up_k (by decide), up_k (by decide), up_same]
    · rw [up_same]; unfold sya; rw [if_pos z4]
  · rw [if_pos z4]
    by_cases z5 : srt t s = 5
    · have hp : 1 ≤ sk t s 4 := by
        unfold srt at z5
        by_cases hh : sk t s 4 = 0
        · rw [if_pos hh] at z5; omega
        · omega
      obtain ⟨r, r1, r2, r3⟩ := q_outer hs (by omega) e4' hC'
      rw [if_neg (by omega), r2, cl_rt, ld_in (by omega), r3, sd_in (by omega)]
      refine ⟨_, rfl, ⟨?_, ?_⟩, fr _⟩
      · rw [up_k (by decide), up_k (by decide), up_same]
      · rw [up_same]; unfold sya; rw [if_neg z4, if_pos z5]
    · rw [if_pos z5]
      refine ⟨_, rfl, ⟨?_, ?_⟩, ?_⟩
      · rw [up_k (by decide), up_same]
      · rw [up_same]; unfold sya; rw [if_neg z4, if_neg z5]
      · intro k j h
        simp only [up_get]
        rw [if_neg (fun e => h ⟨Or.inr e.1, e.2⟩), if_neg (fun e => h ⟨Or.inl e.1, e.2⟩)]
theorem RA7_fr {d d' : D9} {t : Nat → Int} {s : Int} (h : RA7 d t s) (e : ∀ k, (k = 10 ∨ k = 11 ∨ k = 12 ∨ k = 13 ∨ k = 14) → d' k s.toNat = d k s.toNat) (e2 : ∀ k l, (k = 17 ∨ k = 18 ∨ k = 19) → 0 ≤ l → l < sk t s 4 → d' k (s * 4 + l).toNat = d k (s * 4 + l).toNat) : RA7 d' t s := by
  obtain ⟨h0, h1, h2, h3, h4, hb⟩ := h
  refine ⟨by rw [e _ (by simp)]; exact h0, by rw [e _ (by simp)]; exact h1, by rw [e _ (by simp)]; exact h2, by rw [e _ (by simp)]; exact h3, by rw [e _ (by simp)]; exact h4, fun l a b => ?_⟩
  obtain ⟨x, y, z⟩ := hb l a b
  exact ⟨by rw [e2 _ l (by simp) a b]; exact x, by rw [e2 _ l (by simp) a b]; exact y, by rw [e2 _ l (by simp) a b]; exact z⟩
theorem RC7_fr {d d' : D9} {t : Nat → Int} {s : Int} (h : RC7 d t s) (e2 : ∀ k l, (k = 20 ∨ k = 21) → 0 ≤ l → l < sk t s 4 → d' k (s * 4 + l).toNat = d k (s * 4 + l).toNat) : RC7 d' t s := fun l a b =>
  ⟨by rw [e2 _ l (by simp) a b]; exact (h l a b).1, by rw [e2 _ l (by simp) a b]; exact (h l a b).2⟩
theorem RJ7_fr {d d' : D9} {t : Nat → Int} {s : Int} (h : RJ7 d t s) (e : ∀ k, (k = 15 ∨ k = 16) → d' k s.toNat = d k s.toNat) : RJ7 d' t s :=
  ⟨by rw [e _ (by simp)]; exact h.1, by rw [e _ (by simp)]; exact h.2⟩
/-- a layer is laid: t is what is told afterwards -/
theorem q_addLayer {s a b e : Int} {d : D9} {t : Nat → Int} (hl : T7l t) (hr : R7l d t) (hs : 0 ≤ s ∧ s < 30) (hk : SK7 t s) (hL : 1 ≤ sk t s 4) (e4 : d 14 s.toNat = sk t s 4 - 1)
    (ha : a = sk t s (5 + 3 * (sk t s 4 - 1) + 0)) (hb : b = sk t s (5 + 3 * (sk t s 4 - 1) + 1)) (he : e = sk t s (5 + 3 * (sk t s 4 - 1) + 2))
    (e0 : d 10 s.toNat = sk t s 0) (e1 : d 11 s.toNat = sk t s 1) (e2 : d 12 s.toNat = if sk t s 1 = 0 then 0 else sk t s 2) (e3 : d 13 s.toNat = sk t s 3)
    (hB : ∀ l, 0 ≤ l → l < sk t s 4 - 1 → RB7 d t s l) (hC : ∀ l, 0 ≤ l → l < sk t s 4 - 1 → RE7 d t s l) :
    ∃ d', m_X6_addLayer_9_22 s a b e d = rt (sk t s 4) d' ∧ RA7 d' t s ∧ RC7 d' t s ∧ RJ7 d' t s ∧ FR d d' (fun k j => ((k = 14 ∨ k = 15 ∨ k = 16) ∧ j = s.toNat) ∨ ((k = 17 ∨ k = 18 ∨ k = 19 ∨ k = 20 ∨ k = 21) ∧ j = (s * 4 + (sk t s 4 - 1)).toNat)) := by
  have hk' := hk
  obtain ⟨_, h1, _, _, h4, hc⟩ := hk
  unfold m_X6_addLayer_9_22
  rw [ld_in (by omega), e4, w32_id (by omega), w32_id (by omega), if_neg (by omega), if_pos (by omega), lt_v, sd_in (by omega), sd_in (by omega), sd_in (by omega), ld_in (by omega), sd_in (by omega)]
  have x14 : (up (up (up d 17 (s * 4 + (sk t s 4 - 1)).toNat a) 18 (s * 4 + (sk t s 4 - 1)).toNat b) 19 (s * 4 + (sk t s 4 - 1)).toNat e) 14 s.toNat = sk t s 4 - 1 := by
    rw [up_k (by decide), up_k (by decide), up_k (by decide)]; exact e4
  rw [x14, show sk t s 4 - 1 + 1 = sk t s 4 by omega]
  -- the state when the counts are written
  generalize hd7 : up (up (up (up d 17 (s * 4 + (sk t s 4 - 1)).toNat a) 18 (s * 4 + (sk t s 4 - 1)).toNat b) 19 (s * 4 + (sk t s 4 - 1)).toNat e) 14 s.toNat (sk t s 4) = d7
  have g : ∀ k j, d7 k j = if k = 14 ∧ j = s.toNat then sk t s 4 else if k = 19 ∧ j = (s * 4 + (sk t s 4 - 1)).toNat then e else if k = 18 ∧ j = (s * 4 + (sk t s 4 - 1)).toNat then b else if k = 17 ∧ j = (s * 4 + (sk t s 4 - 1)).toNat then a else d k j := by
    intro k j; rw [← hd7]; rfl
  have hr7 : R7l d7 t := by
    rw [← hd7]; exact R7l_up (R7l_up (R7l_up (R7l_up hr (by decide)) (by decide)) (by decide)) (by decide)
  have hB7 : ∀ l, 0 ≤ l → l < sk t s 4 → RB7 d7 t s l := by
    intro l a1 a2
    unfold RB7
    rw [g, g, g]
    by_cases hh : l = sk t s 4 - 1
    · subst hh
      simp [ha, hb, he]
    · have hne : ¬ (s * 4 + l).toNat = (s * 4 + (sk t s 4 - 1)).toNat := by omega
      simp only [hne, and_false, if_false]
      simpa [RB7] using hB l a1 (by omega)
  have hA7 : RA7 d7 t s := by
    refine ⟨?_, ?_, ?_, ?_, ?_, hB7⟩
    · rw [g]; simpa using e0
    · rw [g]; simpa using e1
    · rw [g]; simpa using e2
    · rw [g]; simpa using e3
    · rw [g]; simp
  rw [q_clockCell hl hr7 hs hk' (by omega) (hB7 _ (by omega) (by omega)), cl_rt]
  generalize hd9 : up (up d7 20 (s * 4 + (sk t s 4 - 1)).toNat (lst t s (sk t s 4 - 1) false)) 21 (s * 4 + (sk t s 4 - 1)).toNat (lst t s (sk t s 4 - 1) true) = d9
  have g9 : ∀ k j, d9 k j = if k = 21 ∧ j = (s * 4 + (sk t s 4 - 1)).toNat then lst t s (sk t s 4 - 1) true else if k = 20 ∧ j = (s * 4 + (sk t s 4 - 1)).toNat then lst t s (sk t s 4 - 1) false else d7 k j := by
    intro k j; rw [← hd9]; rfl
  have hC9 : RC7 d9 t s := by
    intro l a1 a2
    unfold RE7
    rw [g9, g9]
    by_cases hh : l = sk t s 4 - 1
    · subst hh; simp
    · have hne : ¬ (s * 4 + l).toNat = (s * 4 + (sk t s 4 - 1)).toNat := by omega
      simp only [hne, and_false, if_false]
      rw [g, g]
      simpa [RE7] using hC l a1 (by omega)
  have hA9 : RA7 d9 t s := RA7_fr hA7 (fun k hk => by rw [g9]; rcases hk with rfl | rfl | rfl | rfl | rfl <;> simp) (fun k l hk _ _ => by rw [g9]; rcases hk with rfl | rfl | rfl <;> simp)
  obtain ⟨d', j1, j2, j3⟩ := q_judge hs h1 h4 hA9.2.1 hA9.2.2.2.2.1 hC9
  rw [j1, cl_rt, ld_in (by omega)]
  have hA' : RA7 d' t s := RA7_fr hA9 (fun k hk => j3 _ _ (by rcases hk with rfl | rfl | rfl | rfl | rfl <;> simp)) (fun k l hk _ _ => j3 _ _ (by rcases hk with rfl | rfl | rfl <;> simp))
  have hC' : RC7 d' t s := RC7_fr hC9 (fun k l hk _ _ => j3 _ _ (by rcases hk with rfl | rfl <;> simp))
  refine ⟨d', by rw [hA'.2.2.2.2.1], hA', hC', j2, fun k j hP => ?_⟩
  rw [j3 k j (fun q => hP (Or.inl ⟨by omega, q.2⟩)), g9, if_neg (fun q => hP (Or.inr ⟨by omega, q.2⟩)), if_neg (fun q => hP (Or.inr ⟨by omega, q.2⟩)), g, if_neg (fun q => hP (Or.inl ⟨by omega, q.2⟩)), if_neg (fun q => hP (Or.inr ⟨by omega, q.2⟩)), if_neg (fun q => hP (Or.inr ⟨by omega, q.2⟩)), if_neg (fun q => hP (Or.inr ⟨by omega, q.2⟩))]
/-- all layers are clocked anew by a law of which t tells -/
def RA8 (c : D9) (t : Nat → Int) : Prop := c 9 0 = t 1 ∧ ∀ s, 0 ≤ s → s < t 1 → RA7 c t s
theorem q_clockAll_in {s : Int} {t : Nat → Int} (hl : T7l t) (hs : 0 ≤ s ∧ s < 30) (hk : SK7 t s) (kc : Int → D9 → Option R9) : ∀ (m f : Nat) (l : Int) (d : D9), m < f → 0 ≤ l → l + m = sk t s 4 → R7l d t → RA7 d t s → (∀ l', 0 ≤ l' → l' < l → RE7 d t s l') →
    ∃ d', fix9 (fun _ _ _ => none) (fun k => b_X6_clockAll_9_22_c12 kc k) f s l d = kc (s + 1) d' ∧ RC7 d' t s ∧ RJ7 d' t s ∧ FR d d' (fun k j => ((k = 15 ∨ k = 16) ∧ j = s.toNat) ∨ ((k = 20 ∨ k = 21) ∧ ∃ l : Int, 0 ≤ l ∧ l < 4 ∧ j = (s * 4 + l).toNat))
  | 0, f + 1, l, d, _, h0, he, hr, hA, hE => by
    have hC : RC7 d t s := fun l' a b => hE l' a (by omega)
    obtain ⟨d', j1, j2, j3⟩ := q_judge hs hk.2.1 hk.2.2.2.2.1 hA.2.1 hA.2.2.2.2.1 hC
    refine ⟨d', ?_, RC7_fr hC (fun k l hk _ _ => j3 _ _ (by rcases hk with rfl | rfl <;> simp)), j2, fun k j hP => j3 k j (fun q => hP (Or.inl q))⟩
    show b_X6_clockAll_9_22_c12 kc _ s l d = _
    rw [b_X6_clockAll_9_22_c12, ld_in (by omega), hA.2.2.2.2.1, if_pos (by rw [show sk t s 4 = l by omega]; exact Int.le_refl _), j1, cl_rt]
  | m + 1, f + 1, l, d, hf, h0, he, hr, hA, hE => by
    have h4 := hk.2.2.2.2.1
    have g9 : ∀ k j, up (up d 20 (s * 4 + l).toNat (lst t s l false)) 21 (s * 4 + l).toNat (lst t s l true) k j = if k = 21 ∧ j = (s * 4 + l).toNat then lst t s l true else if k = 20 ∧ j = (s * 4 + l).toNat then lst t s l false else d k j := fun k j => rfl
    have ih := q_clockAll_in hl hs hk kc m f (l + 1) (up (up d 20 (s * 4 + l).toNat (lst t s l false)) 21 (s * 4 + l).toNat (lst t s l true)) (by omega) (by omega) (by omega) (R7l_up (R7l_up hr (by decide)) (by decide))
      (RA7_fr hA (fun k hk => by rw [g9]; rcases hk with rfl | rfl | rfl | rfl | rfl <;> simp) (fun k l hk _ _ => by rw [g9]; rcases hk with rfl | rfl | rfl <;> simp))
      (by
        intro l' a b
        unfold RE7
        rw [g9, g9]
        by_cases hh : l' = l
        · subst hh; simp
        · have hne : ¬ (s * 4 + l').toNat = (s * 4 + l).toNat := by omega
          simp only [hne, and_false, if_false]
          exact hE l' a (by omega))
    obtain ⟨d', k1, k2, k3, k4⟩ := ih
    refine ⟨d', ?_, k2, k3, fun k j hP => ?_⟩
    · show b_X6_clockAll_9_22_c12 kc _ s l d = _
      rw [b_X6_clockAll_9_22_c12, ld_in (by omega), hA.2.2.2.2.1, w32_id (by omega), w32_id (by omega), if_neg (by omega), q_clockCell hl hr hs hk (by omega) (hA.2.2.2.2.2 l h0 (by omega)), cl_rt]
      exact k1
    · rw [k4 k j hP, g9, if_neg (fun q => hP (Or.inr ⟨by omega, l, by omega, by omega, q.2⟩)), if_neg (fun q => hP (Or.inr ⟨by omega, l, by omega, by omega, q.2⟩))]
  | _, 0, _, _, hf, _, _, _, _, _ => absurd hf (Nat.not_lt_zero _)
theorem q_clockAll_l {t : Nat → Int} (hl : T7l t) (hT : T7s t) (hn : 0 ≤ t 1 ∧ t 1 ≤ 30) : ∀ (m f : Nat) (s : Int) (d : D9), m < f → 0 ≤ s → s + m = t 1 → R7l d t → RA8 d t → (∀ s', 0 ≤ s' → s' < s → RC7 d t s' ∧ RJ7 d t s') →
    ∃ d', fix9 (fun _ _ => none) (fun k => b_X6_clockAll_9_22_c2 k) f s d = rt 0 d' ∧ R7s d' t ∧ FR d d' (fun k _ => k = 15 ∨ k = 16 ∨ k = 20 ∨ k = 21)
  | 0, f + 1, s, d, _, h0, he, hr, hA, hE => by
    refine ⟨d, ?_, ⟨hA.1, fun s' a b => ⟨hA.2 s' a b, hE s' a (by omega)⟩⟩, fun _ _ _ => rfl⟩
    show b_X6_clockAll_9_22_c2 _ s d = _
    rw [b_X6_clockAll_9_22_c2, hA.1, if_pos (by rw [show t 1 = s by omega]; exact Int.le_refl _)]
  | m + 1, f + 1, s, d, hf, h0, he, hr, hA, hE => by
    have hs : 0 ≤ s ∧ s < 30 := by omega
    have hk := hT s h0 (by omega)
    have h4 := hk.2.2.2.2.1
    obtain ⟨d1, a1, a2, a3, a4⟩ := q_clockAll_in hl hs hk (fix9 (fun _ _ => none) (fun k => b_X6_clockAll_9_22_c2 k) f) (sk t s 4).toNat FU 0 d (by unfold FU; omega) (by omega) (by omega) hr (hA.2 s h0 (by omega)) (fun l' a b => by omega)
    have fr1 : ∀ k j, k ≠ 15 ∧ k ≠ 16 ∧ k ≠ 20 ∧ k ≠ 21 → d1 k j = d k j := fun k j h => a4 k j (by rintro (q | q) <;> omega)
    have hr1 : R7l d1 t := by
      unfold R7l
      rw [fr1 _ _ (by decide), fr1 _ _ (by decide), fr1 _ _ (by decide), fr1 _ _ (by decide), fr1 _ _ (by decide), fr1 _ _ (by decide), fr1 _ _ (by decide), fr1 _ _ (by decide)]; exact hr
    have hA1 : RA8 d1 t := ⟨by rw [fr1 _ _ (by decide)]; exact hA.1, fun s' a b => RA7_fr (hA.2 s' a b) (fun k hk => fr1 _ _ (by omega)) (fun k l hk _ _ => fr1 _ _ (by omega))⟩
    have hE1 : ∀ s', 0 ≤ s' → s' < s + 1 → RC7 d1 t s' ∧ RJ7 d1 t s' := by
      intro s' a b
      by_cases hh : s' = s
      · subst hh; exact ⟨a2, a3⟩
      · have h4' := (hT s' a (by omega)).2.2.2.2.1
        have e := hE s' a (by omega)
        exact ⟨RC7_fr e.1 (fun k l hk l0 l1 => a4 _ _ (by
            rintro (q | ⟨_, l2, q1, q2, q3⟩)
            · omega
            · omega)), RJ7_fr e.2 (fun k hk => a4 _ _ (by
            rintro (q | ⟨q, _⟩)
            · omega
            · omega))⟩
    obtain ⟨d', k1, k2, k3⟩ := q_clockAll_l hl hT hn m f (s + 1) d1 (by omega) (by omega) (by omega) hr1 hA1 hE1
    refine ⟨d', ?_, k2, fun k j hP => (k3 k j hP).trans (fr1 k j (by omega))⟩
    show b_X6_clockAll_9_22_c2 _ s d = _
    rw [b_X6_clockAll_9_22_c2, hA.1, w32_id (by omega), w32_id (by omega), if_neg (by omega)]
    exact a1.trans k1
  | _, 0, _, _, hf, _, _, _, _, _ => absurd hf (Nat.not_lt_zero _)
theorem q_clockAll {t : Nat → Int} {d : D9} (hl : T7l t) (hT : T7s t) (hn : 0 ≤ t 1 ∧ t 1 ≤ 30) (hr : R7l d t) (hA : RA8 d t) : ∃ d', m_X6_clockAll_9_22 d = rt 0 d' ∧ R7s d' t ∧ FR d d' (fun k _ => k = 15 ∨ k = 16 ∨ k = 20 ∨ k = 21) :=
  q_clockAll_l hl hT hn (t 1).toNat FU 0 d (by unfold FU; omega) (by omega) (by omega) hr hA (fun s' a b => by omega)

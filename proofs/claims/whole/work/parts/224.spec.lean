/-! what is told: places and bounds -/
def pt (t : Nat → Int) (p w : Int) : Int := t (16 + 8 * p + w).toNat
def sk (t : Nat → Int) (s w : Int) : Int := t (336 + 17 * s + w).toNat
def hd (t : Nat → Int) (h w : Int) : Int := t (846 + 6 * h + w).toNat
def T7n (t : Nat → Int) : Prop := (0 ≤ t 0 ∧ t 0 ≤ 30) ∧ (0 ≤ t 1 ∧ t 1 ≤ 30) ∧ (0 ≤ t 2 ∧ t 2 ≤ 40) ∧ (0 ≤ t 3 ∧ t 3 ≤ 40)
def T7l (t : Nat → Int) : Prop := (0 ≤ t 4 ∧ t 4 ≤ 12) ∧ (1 ≤ t 6 ∧ t 6 ≤ 99) ∧ (0 ≤ t 7 ∧ t 7 ≤ 99) ∧ (0 ≤ t 8 ∧ t 8 ≤ 99) ∧ (0 ≤ t 9 ∧ t 9 ≤ 999) ∧ (0 ≤ t 10 ∧ t 10 ≤ 50) ∧ (1 ≤ t 11 ∧ t 11 ≤ 99) ∧ (0 ≤ t 12 ∧ t 12 ≤ 50)
def SK7 (t : Nat → Int) (s : Int) : Prop := (0 ≤ sk t s 0 ∧ sk t s 0 ≤ 5) ∧ (0 ≤ sk t s 1 ∧ sk t s 1 ≤ 2) ∧ (sk t s 1 ≠ 0 → 0 ≤ sk t s 2 ∧ sk t s 2 < t 0) ∧ (1 ≤ sk t s 3 ∧ sk t s 3 ≤ 99) ∧ (0 ≤ sk t s 4 ∧ sk t s 4 ≤ 4) ∧ ∀ l, 0 ≤ l → l < sk t s 4 → ∀ w, 0 ≤ w → w < 3 → 0 ≤ sk t s (5 + 3 * l + w) ∧ sk t s (5 + 3 * l + w) ≤ 9999
def T7s (t : Nat → Int) : Prop := ∀ s, 0 ≤ s → s < t 1 → SK7 t s
/-! skins: what is asked of them -/
def thn (t : Nat → Int) (b : Int) : Bool := decide (b < t 9)
def tha (t : Nat → Int) (s l : Int) : Bool := thn t (sk t s (5 + 3 * l + 1))
def goal (t : Nat → Int) (a : Int) (m : Bool) : Int := 1000 * (if m = true then (a * (100 + t 10)) / 100 else (a * (100 - t 10)) / 100)
def spn (t : Nat → Int) (a b e : Int) (m : Bool) : Int := ck (t 6) b (goal t a m) 400 (10 * e * (if m = true then t 7 else t 8))
def spa (t : Nat → Int) (s l : Int) (m : Bool) : Int := spn t (sk t s (5 + 3 * l + 0)) (sk t s (5 + 3 * l + 1)) (sk t s (5 + 3 * l + 2)) m
def thk (t : Nat → Int) (s : Int) : Int := fo (fun l n => n + bi (!tha t s l)) (sk t s 4).toNat 0 0
def trn (t : Nat → Int) (s : Int) : Bool := ex (fun i => ex (fun j => !tha t s i && !tha t s j && decide (spa t s j true < spa t s i false)) (sk t s 4 - (i + 1)).toNat (i + 1)) (sk t s 4).toNat 0
def srt (t : Nat → Int) (s : Int) : Int := if sk t s 4 = 0 then 0 else if thk t s = 0 then 1 else if trn t s = true then 2 else 3 + sk t s 1
def lsI (t : Nat → Int) (s : Int) : Int := fd (fun k => if tha t s (sk t s 4 - 1 - k) = true then none else some (spa t s (sk t s 4 - 1 - k) false)) (-1) (sk t s 4).toNat 0
def lsO (t : Nat → Int) (s : Int) : Int := fd (fun k => if tha t s k = true then none else some (spa t s k true)) (-1) (sk t s 4).toNat 0
def sya (t : Nat → Int) (s : Int) : Int := if srt t s = 4 then lsI t s else if srt t s = 5 then lsO t s else -1
theorem goal_rng {t : Nat → Int} {a : Int} {m : Bool} (h : T7l t) (ha : 0 ≤ a ∧ a ≤ 9999) : 0 ≤ goal t a m ∧ goal t a m ≤ 20000000 := by
  obtain ⟨_, _, _, _, _, h10, _, _⟩ := h
  unfold goal
  have h1 := mb (x := a) (r := 100 + t 10) (A := 9999) (R := 150) (by omega) (by omega) (by omega) (by omega)
  have h2 := mb (x := a) (r := 100 - t 10) (A := 9999) (R := 150) (by omega) (by omega) (by omega) (by omega)
  have h3 : 0 ≤ a * (100 + t 10) := Int.mul_nonneg (by omega) (by omega)
  have h4 : 0 ≤ a * (100 - t 10) := Int.mul_nonneg (by omega) (by omega)
  split <;> omega
theorem spn_rng (t : Nat → Int) (a b e : Int) (m : Bool) : 0 ≤ spn t a b e m ∧ spn t a b e m ≤ 400 := by
  have := ck_rng (t 6) b (goal t a m) 400 (10 * e * (if m = true then t 7 else t 8))
  unfold spn; omega
theorem spa_rng (t : Nat → Int) (s l : Int) (m : Bool) : 0 ≤ spa t s l m ∧ spa t s l m ≤ 400 := spn_rng _ _ _ _ _
theorem fd_rng {p : Int → Option Int} {lo hi e : Int} (he : lo ≤ e ∧ e ≤ hi) (h : ∀ i v, p i = some v → lo ≤ v ∧ v ≤ hi) : ∀ (n : Nat) (i : Int), lo ≤ fd p e n i ∧ fd p e n i ≤ hi
  | 0, _ => he
  | n + 1, i => by
    simp only [fd]
    cases hp : p i with
    | none => exact fd_rng he h n (i + 1)
    | some v => exact h i v hp
theorem sya_rng (t : Nat → Int) (s : Int) : -1 ≤ sya t s ∧ sya t s ≤ 400 := by
  have k1 : -1 ≤ lsI t s ∧ lsI t s ≤ 400 := by
    refine fd_rng (by omega) (fun i v h => ?_) _ _
    split at h
    · cases h
    · cases h; have := spa_rng t s (sk t s 4 - 1 - i) false; omega
  have k2 : -1 ≤ lsO t s ∧ lsO t s ≤ 400 := by
    refine fd_rng (by omega) (fun i v h => ?_) _ _
    split at h
    · cases h
    · cases h; have := spa_rng t s i true; omega
  unfold sya
  split
  · exact k1
  · split
    · exact k2
    · omega
theorem thk_rng {t : Nat → Int} {s : Int} (h : 0 ≤ sk t s 4) : 0 ≤ thk t s ∧ thk t s ≤ sk t s 4 := by
  have k := fo_inv (g := fun l n => n + bi (!tha t s l)) (fun j n => 0 ≤ n ∧ n ≤ j) (sk t s 4).toNat 0 0 (by omega) (fun j n h1 _ h3 => by have := bi_rng (!tha t s j); omega)
  unfold thk
  omega
theorem srt_rng {t : Nat → Int} {s : Int} (h : 0 ≤ sk t s 1 ∧ sk t s 1 ≤ 2) : 0 ≤ srt t s ∧ srt t s ≤ 5 := by
  unfold srt
  split
  · omega
  · split
    · omega
    · split <;> omega
/-! the model's skins -/
theorem p_ofSkin {s w : Int} {d : D9} (h : (0 ≤ s ∧ s < 30) ∧ 0 ≤ w ∧ w < 17) : m_X12_ofSkin_174 s w d = rt (sk (d 175) s w) d := by
  unfold m_X12_ofSkin_174 sk; rw [ld_in (by omega)]
theorem p_ofPaint {p w : Int} {d : D9} (h : (0 ≤ p ∧ p < 30) ∧ 0 ≤ w ∧ w < 8) : m_X12_ofPaint_174 p w d = rt (pt (d 175) p w) d := by
  unfold m_X12_ofPaint_174 pt; rw [ld_in (by omega)]
theorem p_ofHand {p w : Int} {d : D9} (h : (0 ≤ p ∧ p < 40) ∧ 0 ≤ w ∧ w < 6) : m_X12_ofHand_174 p w d = rt (hd (d 175) p w) d := by
  unfold m_X12_ofHand_174 hd; rw [ld_in (by omega)]
theorem p_counted {s l w : Int} {d : D9} (h : (0 ≤ s ∧ s < 30) ∧ (0 ≤ l ∧ l < 4) ∧ 0 ≤ w ∧ w < 3) : m_X12_counted_174 s l w d = rt (sk (d 175) s (5 + 3 * l + w)) d := by
  unfold m_X12_counted_174; rw [p_ofSkin (by omega), cl_rt]
theorem p_isThin {b : Int} {d : D9} (hl : T7l (d 175)) (hb : 0 ≤ b ∧ b ≤ 9999) : m_X12_isThin_174 b d = rt (bi (thn (d 175) b)) d := by
  obtain ⟨_, _, _, _, h9, _⟩ := hl
  unfold m_X12_isThin_174 thn
  rw [ld_in (by omega)]
  show (if w32 (d 175 9) ≤ w32 b then _ else _) = _
  rw [w32_id (by omega), w32_id (by omega)]
  by_cases h : b < d 175 9
  · rw [if_neg (by omega)]; simp [h, bi]
  · rw [if_pos (by omega)]; simp [h, bi]
theorem p_isThinAt {s l : Int} {d : D9} (hl : T7l (d 175)) (hs : 0 ≤ s ∧ s < 30) (hk : SK7 (d 175) s) (h : 0 ≤ l ∧ l < sk (d 175) s 4) : m_X12_isThinAt_174 s l d = rt (bi (tha (d 175) s l)) d := by
  obtain ⟨_, _, _, _, h4, hc⟩ := hk
  unfold m_X12_isThinAt_174
  rw [p_counted (by omega), cl_rt, p_isThin hl (hc l h.1 h.2 1 (by omega) (by omega)), cl_rt, bi_m]
  rfl
theorem p_spanOf {a b e m : Int} {d : D9} (hl : T7l (d 175)) (ha : 0 ≤ a ∧ a ≤ 9999) (hb : 0 ≤ b ∧ b ≤ 9999) (he : 0 ≤ e ∧ e ≤ 9999) (hm : m = 0 ∨ m = 1) : m_X12_spanOf_174 a b e m d = rt (spn (d 175) a b e (decide (m = 1))) d := by
  have hl' := hl
  obtain ⟨_, h6, h7, h8, h9, h10, _⟩ := hl
  have g0 := goal_rng (m := false) hl' ha
  have g1 := goal_rng (m := true) hl' ha
  unfold goal at g0 g1
  have b1 := mb (x := a) (r := 100 + d 175 10) (A := 9999) (R := 150) (by omega) (by omega) (by omega) (by omega)
  have b2 := mb (x := a) (r := 100 - d 175 10) (A := 9999) (R := 150) (by omega) (by omega) (by omega) (by omega)
  have h3 : 0 ≤ a * (100 + d 175 10) := Int.mul_nonneg (by omega) (by omega)
  have h4 : 0 ≤ a * (100 - d 175 10) := Int.mul_nonneg (by omega) (by omega)
  unfold m_X12_spanOf_174 spn goal
  rcases hm with rfl | rfl
  · rw [w32_id (by omega), if_pos rfl, ld_in (by omega), ld_in (by omega)]
    show cl (m_X12_clock_174 (div9 (a * (100 - d 175 10)) 100) b e (d 175 8) d) _ = _
    rw [div9_in (by omega), tdiv_pos h4, p_clock (by omega) hb (by simp at g0; omega) he h8, cl_rt]
    simp
  · rw [w32_id (by omega), if_neg (by omega), ld_in (by omega), ld_in (by omega)]
    show cl (m_X12_clock_174 (div9 (a * (100 + d 175 10)) 100) b e (d 175 7) d) _ = _
    rw [div9_in (by omega), tdiv_pos h3, p_clock (by omega) hb (by simp at g1; omega) he h7, cl_rt]
    simp
theorem p_spanAt {s l m : Int} {d : D9} (hl : T7l (d 175)) (hs : 0 ≤ s ∧ s < 30) (hk : SK7 (d 175) s) (h : 0 ≤ l ∧ l < sk (d 175) s 4) (hm : m = 0 ∨ m = 1) : m_X12_spanAt_174 s l m d = rt (spa (d 175) s l (decide (m = 1))) d := by
  obtain ⟨_, _, _, _, h4, hc⟩ := hk
  unfold m_X12_spanAt_174
  rw [p_counted (by omega), cl_rt, p_counted (by omega), cl_rt, p_counted (by omega), cl_rt, p_spanOf hl (hc l h.1 h.2 0 (by omega) (by omega)) (hc l h.1 h.2 1 (by omega) (by omega)) (hc l h.1 h.2 2 (by omega) (by omega)) hm, cl_rt]
  rfl
theorem p_thick {s : Int} {d : D9} (hl : T7l (d 175)) (hs : 0 ≤ s ∧ s < 30) (hk : SK7 (d 175) s) : m_X12_thick_174 s d = rt (thk (d 175) s) d := by
  have h4 := hk.2.2.2.2.1
  refine (fix_fu (z := fun _ _ _ _ => none) (B := fun k => b_X12_thick_174_c4 k) (fun k l n => k s n l d) 0 (sk (d 175) s 4) (fun l n => n + bi (!tha (d 175) s l)) (fun l n => 0 ≤ l ∧ 0 ≤ n ∧ n ≤ l) (fun n => rt n d) 0 (by omega) (by omega) ?_ ?_).2.trans ?_
  · intro k n hI
    simp only [b_X12_thick_174_c4]
    rw [p_ofSkin (by omega), cl_rt, w32_id (by omega), if_pos (by omega)]
  · intro k l n hlt hI
    have hb := bi_rng (!tha (d 175) s l)
    refine ⟨by omega, ?_⟩
    simp only [b_X12_thick_174_c4]
    rw [p_ofSkin (by omega), cl_rt, w32_id (by omega), w32_id (by omega), if_neg (by omega), p_isThinAt hl hs hk (by omega), cl_rt, w32_bi, lt_v, lt_v]
    cases tha (d 175) s l <;> simp [bi]
  · simp [thk]
theorem p_turned {s : Int} {d : D9} (hl : T7l (d 175)) (hs : 0 ≤ s ∧ s < 30) (hk : SK7 (d 175) s) : m_X12_isTurned_174 s d = rt (bi (trn (d 175) s)) d := by
  have h4 := hk.2.2.2.2.1
  refine (fix_xu (z := fun _ _ _ => none) (B := fun k => b_X12_isTurned_174_c2 k) (fun k i => k s i d) 0 (sk (d 175) s 4) (fun i => ex (fun j => !tha (d 175) s i && !tha (d 175) s j && decide (spa (d 175) s j true < spa (d 175) s i false)) (sk (d 175) s 4 - (i + 1)).toNat (i + 1)) (rt 1 d) (rt 0 d) (by omega) ?_ ?_).trans ?_
  · intro k
    simp only [b_X12_isTurned_174_c2]
    rw [p_ofSkin (by omega), cl_rt, if_pos (by omega)]
    rfl
  · intro k i h0 hi
    simp only [b_X12_isTurned_174_c2]
    rw [p_ofSkin (by omega), cl_rt, w32_id (by omega), w32_id (by omega), if_neg (by omega), lt_v]
    refine (fix_xu (z := fun _ _ _ _ => none) (B := fun kk => b_X12_isTurned_174_c16 k kk) (fun kk j => kk s i j d) (i + 1) (sk (d 175) s 4) (fun j => !tha (d 175) s i && !tha (d 175) s j && decide (spa (d 175) s j true < spa (d 175) s i false)) (rt 1 d) (k s (i + 1) d) (by omega) ?_ ?_)
    · intro kk
      simp only [b_X12_isTurned_174_c16]
      rw [p_ofSkin (by omega), cl_rt, if_pos (by omega)]
    · intro kk j h1 hj
      have r1 := spa_rng (d 175) s i false
      have r2 := spa_rng (d 175) s j true
      simp only [b_X12_isTurned_174_c16]
      rw [p_ofSkin (by omega), cl_rt, w32_id (by omega), w32_id (by omega), if_neg (by omega), p_isThinAt hl hs hk (by omega), cl_rt, w32_bi, p_isThinAt hl hs hk (by omega), cl_rt, w32_bi, p_spanAt hl hs hk (by omega) (by omega), cl_rt, p_spanAt hl hs hk (by omega) (by omega), cl_rt]
      cases tha (d 175) s i <;> cases tha (d 175) s j <;> simp [bi]
      rw [w32_id (by omega), w32_id (by omega)]
      by_cases hh : spa (d 175) s j true < spa (d 175) s i false
      · rw [if_neg (by omega), if_pos hh]
      · rw [if_pos (by omega), if_neg hh]
  · simp only [Int.sub_zero]
    unfold trn
    split
    · rename_i h; rw [h]; rfl
    · rename_i h; rw [Bool.not_eq_true] at h; rw [h]; rfl
theorem p_sortOf {s : Int} {d : D9} (hl : T7l (d 175)) (hs : 0 ≤ s ∧ s < 30) (hk : SK7 (d 175) s) : m_X12_sortOf_174 s d = rt (srt (d 175) s) d := by
  have h4 := hk.2.2.2.2.1
  have h1 := hk.2.1
  have h5 := thk_rng (t := d 175) (s := s) (by omega)
  unfold m_X12_sortOf_174 srt
  rw [p_ofSkin (by omega), cl_rt, w32_id (by omega), p_thick hl hs hk, cl_rt, w32_id (by omega), p_turned hl hs hk, cl_rt, w32_bi, p_ofSkin (by omega), cl_rt]
  by_cases e1 : sk (d 175) s 4 = 0
  · simp [e1]
  · by_cases e2 : thk (d 175) s = 0
    · simp [e1, e2]
    · simp only [e1, e2, if_false, not_false_eq_true, if_true, ne_eq]
      cases trn (d 175) s <;> simp [bi]
theorem p_saysOf {s : Int} {d : D9} (hl : T7l (d 175)) (hs : 0 ≤ s ∧ s < 30) (hk : SK7 (d 175) s) : m_X12_saysOf_174 s d = rt (sya (d 175) s) d := by
  have h4 := hk.2.2.2.2.1
  have h1 := srt_rng (t := d 175) (s := s) hk.2.1
  have o : ∀ v2, v2 = 5 → m_X12_saysOf_174_c53 s v2 (sk (d 175) s 4) d = rt (lsO (d 175) s) d := by
    intro v2 e; subst e
    unfold m_X12_saysOf_174_c53
    rw [if_neg (by simp)]
    refine (fix_du (z := fun _ _ _ _ => none) (B := fun k => b_X12_saysOf_174_c61 k) (fun k l => k s (sk (d 175) s 4) l d) 0 (sk (d 175) s 4) (fun k => if tha (d 175) s k = true then none else some (spa (d 175) s k true)) (-1) (fun v => rt v d) (by omega) ?_ ?_).trans ?_
    · intro k
      simp only [b_X12_saysOf_174_c61]
      rw [if_pos (by omega)]
    · intro k l h0 hi
      simp only [b_X12_saysOf_174_c61]
      rw [w32_id (by omega), w32_id (by omega), if_neg (by omega), p_isThinAt hl hs hk (by omega), cl_rt, w32_bi, p_spanAt hl hs hk (by omega) (by omega), cl_rt]
      cases tha (d 175) s l <;> simp [bi]
    · simp [lsO]
  have o2 : ∀ v2, v2 ≠ 5 ∧ 0 ≤ v2 ∧ v2 ≤ 5 → m_X12_saysOf_174_c53 s v2 (sk (d 175) s 4) d = rt (-1) d := by
    intro v2 e
    unfold m_X12_saysOf_174_c53
    rw [w32_id (by omega), w32_id (by omega), if_pos (by omega)]
  unfold m_X12_saysOf_174 sya
  rw [p_sortOf hl hs hk, cl_rt, p_ofSkin (by omega), cl_rt, w32_id (by omega), w32_id (by omega)]
  by_cases e4 : srt (d 175) s = 4
  · rw [if_neg (by omega), if_pos e4, lt_v, e4]
    have z := fix_du (z := fun _ _ _ _ _ => none) (B := fun k => b_X12_saysOf_174_c23 k) (fun k j => k s 4 (sk (d 175) s 4) (sk (d 175) s 4 - 1 - j) d) 0 (sk (d 175) s 4) (fun k => if tha (d 175) s (sk (d 175) s 4 - 1 - k) = true then none else some (spa (d 175) s (sk (d 175) s 4 - 1 - k) false)) (-1) (fun v => rt v d) (by omega) ?_ ?_
    · rw [Int.sub_zero, Int.sub_zero] at z
      exact z
    · intro k
      simp only [b_X12_saysOf_174_c23]
      rw [w32_id (by omega), if_pos (by omega), o2 4 (by omega)]
    · intro k l h0 hi
      simp only [b_X12_saysOf_174_c23]
      rw [w32_id (by omega), if_neg (by omega), p_isThinAt hl hs hk (by omega), cl_rt, w32_bi, p_spanAt hl hs hk (by omega) (by omega), cl_rt]
      rw [show sk (d 175) s 4 - 1 - l + -1 = sk (d 175) s 4 - 1 - (l + 1) by omega]
      cases tha (d 175) s (sk (d 175) s 4 - 1 - l) <;> simp [bi]
  · rw [if_pos e4, if_neg e4]
    by_cases e5 : srt (d 175) s = 5
    · rw [if_pos e5]; exact o _ e5
    · rw [if_neg e5]; exact o2 _ (by omega)

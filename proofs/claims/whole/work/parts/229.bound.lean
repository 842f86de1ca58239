/-! paints, and bounds -/
def cto (t : Nat → Int) (p : Int) : Int := fo (fun k n => n + bi (decide (oL t k = p))) (t 2).toNat 0 0
def R7o (c : D9) (t : Nat → Int) : Prop := (∀ x : Int, 0 ≤ x → x < 30 → (0 ≤ c 7 x.toNat ∧ c 7 x.toNat < 1073741824) ∧ (0 ≤ c 8 x.toNat ∧ c 8 x.toNat < 1073741824)) ∧ (∀ u l : Int, 0 ≤ u → u < 30 → 0 ≤ l → l < 30 → tb (c 7 l.toNat) u = ord t u l ∧ tb (c 8 u.toNat) l = ord t u l) ∧ ∀ p : Int, 0 ≤ p → p < 30 → bc (c 7 p.toNat) = cto t p
theorem abv_7 {d : D9} {t : Nat → Int} (hn : T7n t) (ho : T7o t) (hR : R7o d t) (u l : Int) : Relation.TransGen (E7 d) l u ↔ abv t u l = true := by
  rw [abv_iff]
  constructor
  · intro h
    induction h with
    | single h => exact .single (by rw [← (hR.2.1 _ _ h.2.1.1 h.2.1.2 h.1.1 h.1.2).1]; exact h.2.2)
    | tail _ h ih => exact Relation.TransGen.trans (.single (by rw [← (hR.2.1 _ _ h.2.1.1 h.2.1.2 h.1.1 h.1.2).1]; exact h.2.2)) ih
  · intro h
    have key : ∀ x y, ord t x y = true → E7 d y x := by
      intro x y h
      obtain ⟨a, b⟩ := ord_rng ho hn.2.2.1.1 h
      have n0 := hn.1
      exact ⟨by omega, by omega, by rw [(hR.2.1 x y (by omega) (by omega) (by omega) (by omega)).1]; exact h⟩
    induction h with
    | single h => exact .single (key _ _ h)
    | tail _ h ih => exact Relation.TransGen.trans (.single (key _ _ h)) ih
theorem abv_8 {d : D9} {t : Nat → Int} (hn : T7n t) (ho : T7o t) (hR : R7o d t) (u l : Int) : Relation.TransGen (E8 d) u l ↔ abv t u l = true := by
  rw [abv_iff]
  constructor
  · intro h
    induction h with
    | single h => exact .single (by rw [← (hR.2.1 _ _ h.1.1 h.1.2 h.2.1.1 h.2.1.2).2]; exact h.2.2)
    | tail _ h ih => exact ih.tail (by rw [← (hR.2.1 _ _ h.1.1 h.1.2 h.2.1.1 h.2.1.2).2]; exact h.2.2)
  · intro h
    have key : ∀ x y, ord t x y = true → E8 d x y := by
      intro x y h
      obtain ⟨a, b⟩ := ord_rng ho hn.2.2.1.1 h
      have n0 := hn.1
      exact ⟨by omega, by omega, by rw [(hR.2.1 x y (by omega) (by omega) (by omega) (by omega)).2]; exact h⟩
    induction h with
    | single h => exact .single (key _ _ h)
    | tail _ h ih => exact ih.tail (key _ _ h)
theorem b_iff {a b : Bool} (h : a = true ↔ b = true) : a = b := by cases a <;> cases b <;> simp_all
theorem q_above {p : Int} {d : D9} {t : Nat → Int} (hn : T7n t) (ho : T7o t) (hR : R7o d t) (hp : 0 ≤ p ∧ p < 30) : ∃ r, (0 ≤ r ∧ r < 1073741824) ∧ m_X3_reach_2_7 p d = rt r d ∧ ∀ u, 0 ≤ u → u < 30 → tb r u = abv t u p := by
  obtain ⟨r, h1, h2, h3⟩ := q_reach7 (d := d) (fun x a b => (hR.1 x a b).1) hp
  exact ⟨r, h1, h2, fun u a b => b_iff ((h3 u a b).trans (abv_7 hn ho hR u p))⟩
theorem q_withAbove {p : Int} {d : D9} {t : Nat → Int} (hn : T7n t) (ho : T7o t) (hR : R7o d t) (hp : 0 ≤ p ∧ p < 30) : ∃ r, (0 ≤ r ∧ r < 1073741824) ∧ m_X3_withAbove_2 p d = rt r d ∧ ∀ u, 0 ≤ u → u < 30 → tb r u = (decide (u = p) || abv t u p) := by
  obtain ⟨r, h1, h2, h3⟩ := q_above hn ho hR hp
  have rk := shl9_rng hp
  refine ⟨or9 r (shl9 1 p), or9_rng (by omega), ?_, fun u a b => ?_⟩
  · unfold m_X3_withAbove_2; rw [h2, cl_rt]
  · rw [tb_or (by omega), tb_shl hp a, h3 u a b, Bool.or_comm]
    congr 1
    simp [eq_comm]
theorem q_withBelow {p : Int} {d : D9} {t : Nat → Int} (hn : T7n t) (ho : T7o t) (hR : R7o d t) (hp : 0 ≤ p ∧ p < 30) : ∃ r, (0 ≤ r ∧ r < 1073741824) ∧ m_X3_withBelow_2 p d = rt r d ∧ ∀ u, 0 ≤ u → u < 30 → tb r u = (decide (u = p) || abv t p u) := by
  obtain ⟨r, h1, h2, h3⟩ := q_reach8 (d := d) (fun x a b => (hR.1 x a b).2) hp
  have rk := shl9_rng hp
  refine ⟨or9 r (shl9 1 p), or9_rng (by omega), ?_, fun u a b => ?_⟩
  · unfold m_X3_withBelow_2; rw [h2, cl_rt]
  · rw [tb_or (by omega), tb_shl hp a, b_iff ((h3 u a b).trans (abv_8 hn ho hR p u)), Bool.or_comm]
    congr 1
    simp [eq_comm]
noncomputable def hit (t : Nat → Int) (p : Int) (m : Bool) (w s : Int) : Bool := decide (s ≠ w) && decide (sk t s 1 = if m = true then 2 else 1) && (decide (sk t s 2 = p) || (if m = true then abv t p (sk t s 2) else abv t (sk t s 2) p)) && decide (sya t s ≠ -1)
noncomputable def bst (t : Nat → Int) (p : Int) (m : Bool) (w s v : Int) : Int := if hit t p m w s = true then (if m = true then min v (sya t s) else max v (sya t s)) else v
noncomputable def bnd (t : Nat → Int) (p : Int) (m : Bool) (w : Int) : Int := fo (bst t p m w) (t 1).toNat 0 (if m = true then 400 else 0)
theorem bst_rng {t : Nat → Int} {p : Int} {m : Bool} {w s v : Int} (h : 0 ≤ v ∧ v ≤ 400) : 0 ≤ bst t p m w s v ∧ bst t p m w s v ≤ 400 := by
  have r := sya_rng t s
  unfold bst
  by_cases hh : hit t p m w s = true
  · rw [if_pos hh]
    have : sya t s ≠ -1 := by
      unfold hit at hh
      simp only [Bool.and_eq_true, decide_eq_true_eq] at hh
      exact hh.2
    split <;> omega
  · rw [if_neg hh]; exact h
theorem bnd_rng (t : Nat → Int) (p : Int) (m : Bool) (w : Int) : 0 ≤ bnd t p m w ∧ bnd t p m w ≤ 400 :=
  fo_inv (g := bst t p m w) (fun _ v => 0 ≤ v ∧ v ≤ 400) (t 1).toNat 0 _ (by split <;> omega) (fun j v _ _ h => bst_rng h)
theorem q_speaks {s l S : Int} {d : D9} {t : Nat → Int} (hn : T7n t) (hk : SK7 t s) (hs : 0 ≤ s ∧ s < t 1) (hA : RA7 d t s) (hJ : RJ7 d t s) (hl : l = 1 ∨ l = 2) (hS : 0 ≤ S ∧ S < 1073741824) : m_X6_speaks_9 s l S d = rt (bi (decide (sk t s 1 = l) && decide (sya t s ≠ -1) && tb S (sk t s 2))) d := by
  obtain ⟨n0, n1, _⟩ := hn
  have r := sya_rng t s
  have h1 := hk.2.1
  unfold m_X6_speaks_9
  rw [ld_in (by omega), hA.2.1, w32_id (by omega), w32_id (by omega), ld_in (by omega), hJ.2, w32_id (by omega), w32_id (by omega), ld_in (by omega), hA.2.2.1]
  by_cases e1 : sk t s 1 = l
  · rw [if_neg (by omega)]
    have hp := hk.2.2.1 (by omega)
    by_cases e2 : sya t s = -1
    · rw [if_pos e2]; simp [e2, bi]
    · rw [if_neg e2, if_neg (by omega : ¬ sk t s 1 = 0), q_isIn (by omega), cl_rt, w32_bi]
      simp only [e1, e2, decide_true, Bool.true_and, ne_eq, not_false_eq_true]
      cases tb S (sk t s 2) <;> simp [bi]
  · rw [if_pos e1]; simp [e1, bi]
theorem q_leastSaid {p w S : Int} {d : D9} {t : Nat → Int} (hn : T7n t) (hT : T7s t) (hR : R7s d t) (hw : -1 ≤ w ∧ w ≤ 30) (hS : 0 ≤ S ∧ S < 1073741824) (hb : ∀ u, 0 ≤ u → u < 30 → tb S u = (decide (u = p) || abv t u p)) : m_X6_leastSaid_9 S w d = rt (bnd t p false w) d := by
  obtain ⟨n0, n1, n2, n3⟩ := id hn
  refine (fix_fu (z := fun _ _ _ _ _ => none) (B := fun k => b_X6_leastSaid_9_c5 k) (fun k s v => k S w v s d) 0 (t 1) (bst t p false w) (fun s v => 0 ≤ s ∧ 0 ≤ v ∧ v ≤ 400) (fun v => rt v d) 0 (by omega) (by omega) ?_ ?_).2.trans ?_
  · intro k v hI
    simp only [b_X6_leastSaid_9_c5]
    rw [hR.1, if_pos (Int.le_refl _)]
  · intro k s v hlt hI
    refine ⟨⟨by omega, bst_rng hI.2⟩, ?_⟩
    obtain ⟨hA, hC, hJ⟩ := hR.2 s hI.1 hlt
    have hk := hT s hI.1 hlt
    have r := sya_rng t s
    simp only [b_X6_leastSaid_9_c5]
    rw [hR.1, w32_id (by omega), w32_id (by omega), if_neg (by omega), w32_id (by omega), q_speaks hn hk ⟨hI.1, hlt⟩ hA hJ (by omega) hS, cl_rt, w32_bi, ld_in (by omega), hJ.2, lt_v, max9_in (by omega)]
    unfold bst hit
    by_cases e1 : s = w
    · rw [if_pos e1]; simp [e1]
    · rw [if_neg e1]
      by_cases e2 : sk t s 1 = 1
      · have hp := hk.2.2.1 (by omega)
        rw [hb _ (by omega) (by omega)]
        by_cases e3 : sya t s = -1
        · simp [e1, e2, e3, bi]
        · cases hz : (decide (sk t s 2 = p) || abv t (sk t s 2) p) <;> simp [e1, e2, e3, hz, bi]
      · simp [e1, e2, bi]
  · simp [bnd]
theorem q_mostSaid {p w S : Int} {d : D9} {t : Nat → Int} (hn : T7n t) (hT : T7s t) (hR : R7s d t) (hw : -1 ≤ w ∧ w ≤ 30) (hS : 0 ≤ S ∧ S < 1073741824) (hb : ∀ u, 0 ≤ u → u < 30 → tb S u = (decide (u = p) || abv t p u)) : m_X6_mostSaid_9 S w d = rt (bnd t p true w) d := by
  obtain ⟨n0, n1, n2, n3⟩ := id hn
  refine (fix_fu (z := fun _ _ _ _ _ => none) (B := fun k => b_X6_mostSaid_9_c7 k) (fun k s v => k S w v s d) 0 (t 1) (bst t p true w) (fun s v => 0 ≤ s ∧ 0 ≤ v ∧ v ≤ 400) (fun v => rt v d) 400 (by omega) (by omega) ?_ ?_).2.trans ?_
  · intro k v hI
    simp only [b_X6_mostSaid_9_c7]
    rw [hR.1, if_pos (Int.le_refl _)]
  · intro k s v hlt hI
    refine ⟨⟨by omega, bst_rng hI.2⟩, ?_⟩
    obtain ⟨hA, hC, hJ⟩ := hR.2 s hI.1 hlt
    have hk := hT s hI.1 hlt
    have r := sya_rng t s
    simp only [b_X6_mostSaid_9_c7]
    rw [hR.1, w32_id (by omega), w32_id (by omega), if_neg (by omega), w32_id (by omega), q_speaks hn hk ⟨hI.1, hlt⟩ hA hJ (by omega) hS, cl_rt, w32_bi, ld_in (by omega), hJ.2, lt_v, min9_in (by omega)]
    unfold bst hit
    by_cases e1 : s = w
    · rw [if_pos e1]; simp [e1]
    · rw [if_neg e1]
      by_cases e2 : sk t s 1 = 2
      · have hp := hk.2.2.1 (by omega)
        rw [hb _ (by omega) (by omega)]
        by_cases e3 : sya t s = -1
        · simp [e1, e2, e3, bi]
        · cases hz : (decide (sk t s 2 = p) || abv t p (sk t s 2)) <;> simp [e1, e2, e3, hz, bi]
      · simp [e1, e2, bi]
  · simp [bnd]
theorem q_leastOf {p : Int} {d : D9} {t : Nat → Int} (hn : T7n t) (ho : T7o t) (hT : T7s t) (hO : R7o d t) (hR : R7s d t) (hp : 0 ≤ p ∧ p < 30) : m_X10_leastOf_1 p d = rt (bnd t p false (-1)) d := by
  obtain ⟨r, h1, h2, h3⟩ := q_withAbove hn ho hO hp
  unfold m_X10_leastOf_1
  rw [h2, cl_rt, q_leastSaid hn hT hR (by omega) h1 h3, cl_rt]
theorem q_mostOf {p : Int} {d : D9} {t : Nat → Int} (hn : T7n t) (ho : T7o t) (hT : T7s t) (hO : R7o d t) (hR : R7s d t) (hp : 0 ≤ p ∧ p < 30) : m_X10_mostOf_1 p d = rt (bnd t p true (-1)) d := by
  obtain ⟨r, h1, h2, h3⟩ := q_withBelow hn ho hO hp
  unfold m_X10_mostOf_1
  rw [h2, cl_rt, q_mostSaid hn hT hR (by omega) h1 h3, cl_rt]
/-! the model's bounds -/
theorem p_isAbove {u l : Int} {d : D9} {n : Int} {F : Int → Int → Bool} (hM : MA d n F) (hn : n ≤ 30) (hu : 0 ≤ u ∧ u < n) (hl : 0 ≤ l ∧ l < n) : m_X12_isAbove_174 u l d = rt (bi (F u l)) d := by
  unfold m_X12_isAbove_174
  rw [ld_in (by omega), hM u l hu.1 hu.2 hl.1 hl.2, bi_m]
theorem p_boundOf {p m w : Int} {d : D9} (hn : T7n (d 175)) (hl : T7l (d 175)) (hT : T7s (d 175)) (hM : MA d (d 175 0) (abv (d 175))) (hp : 0 ≤ p ∧ p < d 175 0) (hw : -1 ≤ w ∧ w ≤ 30) (hm : m = 0 ∨ m = 1) : m_X12_boundOf_174 p m w d = rt (bnd (d 175) p (decide (m = 1)) w) d := by
  obtain ⟨n0, n1, n2, n3⟩ := id hn
  have loop : ∀ v0, 0 ≤ v0 ∧ v0 ≤ 400 → m_X12_boundOf_174_c16 p m w v0 0 d = rt (fo (bst (d 175) p (decide (m = 1)) w) (d 175 1).toNat 0 v0) d := by
    intro v0 h0
    refine (fix_fu (z := fun _ _ _ _ _ _ => none) (B := fun k => b_X12_boundOf_174_c16 k) (fun k s v => k p m w v s d) 0 (d 175 1) (bst (d 175) p (decide (m = 1)) w) (fun s v => 0 ≤ s ∧ 0 ≤ v ∧ v ≤ 400) (fun v => rt v d) v0 (by omega) (by omega) ?_ ?_).2.trans ?_
    · intro k v hI
      simp only [b_X12_boundOf_174_c16]
      rw [ld_in (by omega), Int.toNat_one, if_pos (Int.le_refl _)]
    · intro k s v hlt hI
      refine ⟨⟨by omega, bst_rng hI.2⟩, ?_⟩
      have hk := hT s hI.1 hlt
      have h1 := hk.2.1
      have r := sya_rng (d 175) s
      simp only [b_X12_boundOf_174_c16]
      rw [ld_in (by omega), Int.toNat_one, w32_id (by omega), w32_id (by omega), if_neg (by omega), w32_id (by omega), p_ofSkin (by omega), cl_rt, w32_id (a := m) (by omega)]
      by_cases e1 : s = w
      · rw [if_pos e1]; simp [bst, hit, e1]
      · rw [if_neg e1]
        rcases hm with rfl | rfl
        · rw [if_pos rfl, m_X12_boundOf_174_c49, w32_id (by omega), w32_id (by omega)]
          unfold bst hit
          by_cases e2 : sk (d 175) s 1 = 1
          · have hp2 := hk.2.2.1 (by omega)
            rw [if_pos e2, p_ofSkin (by omega), cl_rt, w32_id (by omega), w32_id (by omega), w32_id (a := 0) (by omega), if_pos rfl, p_isAbove hM (by omega) (by omega) (by omega), cl_rt, w32_bi, m_X12_boundOf_174_c100, p_saysOf hl (by omega) hk, cl_rt, w32_id (a := sya (d 175) s) (by omega), w32_id (a := -1) (by omega), w32_id (a := 0) (by omega), if_pos rfl, lt_v, max9_in (by omega)]
            by_cases e3 : sya (d 175) s = -1
            · simp [e1, e2, e3, bi]
            · by_cases e4 : sk (d 175) s 2 = p
              · simp [e1, e2, e3, e4]
              · cases hz : abv (d 175) (sk (d 175) s 2) p <;> simp [e1, e2, e3, e4, hz, bi]
          · rw [if_neg e2]; simp [e1, e2]
        · rw [if_neg (by omega), m_X12_boundOf_174_c49, w32_id (by omega), w32_id (by omega)]
          unfold bst hit
          by_cases e2 : sk (d 175) s 1 = 2
          · have hp2 := hk.2.2.1 (by omega)
            rw [if_pos e2, p_ofSkin (by omega), cl_rt, w32_id (by omega), w32_id (by omega), w32_id (a := 1) (by omega), if_neg (show ¬ (1 : Int) = 0 by omega), p_isAbove hM (by omega) (by omega) (by omega), cl_rt, w32_bi, m_X12_boundOf_174_c100, p_saysOf hl (by omega) hk, cl_rt, w32_id (a := sya (d 175) s) (by omega), w32_id (a := -1) (by omega), w32_id (a := 1) (by omega), if_neg (show ¬ (1 : Int) = 0 by omega), lt_v, min9_in (by omega)]
            by_cases e3 : sya (d 175) s = -1
            · simp [e1, e2, e3, bi]
            · by_cases e4 : sk (d 175) s 2 = p
              · simp [e1, e2, e3, e4]
              · cases hz : abv (d 175) p (sk (d 175) s 2) <;> simp [e1, e2, e3, e4, hz, bi]
          · rw [if_neg e2]; simp [e1, e2]
    · simp
  unfold m_X12_boundOf_174 bnd
  rcases hm with rfl | rfl
  · rw [w32_id (by omega), if_pos rfl, loop 0 (by omega)]; simp
  · rw [w32_id (by omega), if_neg (by omega), loop 400 (by omega)]; simp

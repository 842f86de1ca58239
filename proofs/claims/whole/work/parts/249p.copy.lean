/-! a wall's cells, below their lengths -/
def siz (k : Nat) : Nat := if k = 2 then 2 else if k ≤ 5 then 30 else if k = 6 then 150 else if k ≤ 8 then 30 else if k = 9 then 1 else if k ≤ 16 then 30 else if k ≤ 21 then 120 else if k = 22 then 8 else if k = 23 then 1 else if k ≤ 27 then 12 else if k = 28 then 2 else if k ≤ 31 then 12 else if k = 32 then 400 else if k = 33 then 1 else if k = 34 then 40 else if k = 35 then 200 else 5
def PE (c c' : D9) : Prop := ∀ k j, 2 ≤ k → k ≤ 37 → j < siz k → c' k j = c k j
theorem PE.a {c c' : D9} (h : PE c c') (k n : Nat) (hk : 2 ≤ k ∧ k ≤ 37) (hn : siz k = n) {j : Nat} (hj : j < n) : c' k j = c k j := h k j hk.1 hk.2 (by rw [hn]; exact hj)
theorem RW_p {c c' : D9} {t : Nat → Int} (k : TK t) (r : RW c t) (e : PE c c') : RW c' t := by
  have n := TKn k
  unfold T7n at n
  have ny := (TKy k).1
  have nr := (TKr k).1
  refine ⟨?_, ?_, ?_, ?_, ?_, ?_, ?_, ?_⟩
  · obtain ⟨a0, a1, a2, a3, a4, a5, a6, a7⟩ := RWl r
    have g : ∀ j, j < 8 → c' 22 j = c 22 j := fun j h => e.a 22 8 (by omega) rfl h
    unfold R7l
    rw [g 0 (by omega), g 1 (by omega), g 2 (by omega), g 3 (by omega), g 4 (by omega), g 5 (by omega), g 6 (by omega), g 7 (by omega)]
    exact ⟨a0, a1, a2, a3, a4, a5, a6, a7⟩
  · obtain ⟨a0, a1, a2, a3⟩ := RWp r
    refine ⟨by rw [e.a 2 2 (by omega) rfl (by omega)]; exact a0, by rw [e.a 2 2 (by omega) rfl (by omega)]; exact a1, fun p x y => ?_, fun p x y f u w => by rw [e.a 6 150 (by omega) rfl (by omega)]; exact a3 p x y f u w⟩
    obtain ⟨b0, b1, b2, b3⟩ := a2 p x y
    rw [e.a 3 30 (by omega) rfl (by omega), e.a 4 30 (by omega) rfl (by omega), e.a 5 30 (by omega) rfl (by omega)]
    exact ⟨b0, b1, b2, fun f u w => by rw [e.a 6 150 (by omega) rfl (by omega)]; exact b3 f u w⟩
  · obtain ⟨a0, a1, a2⟩ := RWo r
    refine ⟨fun x u w => ?_, fun u l u0 u1 l0 l1 => ?_, fun p u w => ?_⟩
    · rw [e.a 7 30 (by omega) rfl (by omega), e.a 8 30 (by omega) rfl (by omega)]; exact a0 x u w
    · rw [e.a 7 30 (by omega) rfl (by omega), e.a 8 30 (by omega) rfl (by omega)]; exact a1 u l u0 u1 l0 l1
    · rw [e.a 7 30 (by omega) rfl (by omega)]; exact a2 p u w
  · obtain ⟨a0, a1⟩ := RWs r
    refine ⟨by rw [e.a 9 1 (by omega) rfl (by omega)]; exact a0, fun s x y => ?_⟩
    obtain ⟨b0, b1, b2⟩ := a1 s x y
    have h4 := (TKs k s x y).2.2.2.2.1
    refine ⟨RA7_fr b0 (fun k hk => ?_) (fun k l hk u w => ?_), RC7_fr b1 (fun k l hk u w => ?_), RJ7_fr b2 (fun k hk => ?_)⟩
    · rcases hk with rfl | rfl | rfl | rfl | rfl <;> exact e.a _ 30 (by omega) rfl (by omega)
    · rcases hk with rfl | rfl | rfl <;> exact e.a _ 120 (by omega) rfl (by omega)
    · rcases hk with rfl | rfl <;> exact e.a _ 120 (by omega) rfl (by omega)
    · rcases hk with rfl | rfl <;> exact e.a _ 30 (by omega) rfl (by omega)
  · obtain ⟨a0, a1⟩ := RWh r
    refine ⟨by rw [e.a 33 1 (by omega) rfl (by omega)]; exact a0, fun h x y => ?_⟩
    obtain ⟨b0, b1⟩ := a1 h x y
    exact ⟨by rw [e.a 34 40 (by omega) rfl (by omega)]; exact b0, fun f u w => by rw [e.a 35 200 (by omega) rfl (by omega)]; exact b1 f u w⟩
  · obtain ⟨a0, a1⟩ := RWy r
    refine ⟨by rw [e.a 23 1 (by omega) rfl (by omega)]; exact a0, fun i x y => ?_⟩
    rw [e.a 24 12 (by omega) rfl (by omega), e.a 25 12 (by omega) rfl (by omega), e.a 26 12 (by omega) rfl (by omega), e.a 27 12 (by omega) rfl (by omega)]
    exact a1 i x y
  · intro i x y
    rw [e.a 36 5 (by omega) rfl (by omega), e.a 37 5 (by omega) rfl (by omega)]
    exact RWw r i x y
  · obtain ⟨a0, a1⟩ := RWr r
    refine ⟨by rw [e.a 28 2 (by omega) rfl (by omega)]; exact a0, fun i x => ?_⟩
    obtain ⟨b0, b1, b2, b3, b4⟩ := a1 i x
    rw [e.a 29 12 (by omega) rfl (by omega), e.a 30 12 (by omega) rfl (by omega), e.a 31 12 (by omega) rfl (by omega)]
    exact ⟨b0, b1, b2, b3, fun j u w => by rw [e.a 32 400 (by omega) rfl (by omega)]; exact b4 j u w⟩
/-- the cells 2..K of the wall at a are copied to the wall at b -/
def PCW (d s : D9) (a b K : Nat) : Prop := (∀ k', (k' < b + 2 ∨ b + K < k') → s k' = d k') ∧ ∀ k j, 2 ≤ k → k ≤ K → j < siz k → s (k + b) j = d (k + a) j
theorem PCW.z (d : D9) (a b : Nat) : PCW d d a b 1 := ⟨fun _ _ => rfl, fun k j x y => by omega⟩
theorem PCW.st {d s s' : D9} {a b K : Nat} (h : PCW d s a b K) (hK : 1 ≤ K ∧ K + 1 ≤ 37) (hdj : a + 37 < b + 2 ∨ b + 37 < a + 2) (h1 : ∀ k', k' ≠ K + 1 + b → s' k' = s k') (h2 : ∀ j, j < siz (K + 1) → s' (K + 1 + b) j = s (K + 1 + a) j) : PCW d s' a b (K + 1) := by
  refine ⟨fun k' x => by rw [h1 k' (by omega)]; exact h.1 k' (by omega), fun k j x y z => ?_⟩
  by_cases e : k = K + 1
  · subst e
    rw [h2 j z, h.1 (K + 1 + a) (by omega)]
  · rw [h1 (k + b) (by omega)]
    exact h.2 k j x (by omega) z
theorem cp_in {d : D9} {a b n : Nat} {m : Int} {K : D9 → Option R9} (hm : m = n) (h : n ≤ 400) : cp9 d a n b n (min9 m m) K = K (cpy d a b n) := by
  unfold cp9
  rw [min9_in (by omega), Int.min_self, w32_id (by omega), if_pos (by omega), hm]
  rfl
theorem PCW.row {d s : D9} {a b K : Nat} (h : PCW d s a b K) (hK : 1 ≤ K ∧ K + 1 ≤ 37) (hdj : a + 37 < b + 2 ∨ b + 37 < a + 2) {x y n : Nat} (hx : x = K + 1 + a) (hy : y = K + 1 + b) (hn : n = siz (K + 1)) : PCW d (cpy s x y n) a b (K + 1) := by
  subst hx hy hn
  refine h.st hK hdj (fun k' e => ?_) (fun j e => ?_)
  · funext j; unfold cpy; rw [if_neg (fun g => e g.1)]
  · unfold cpy; rw [if_pos ⟨rfl, e⟩]
theorem PCW.f1 {d s : D9} {a b K : Nat} (h : PCW d s a b K) (hK : 1 ≤ K ∧ K + 1 ≤ 37) (hdj : a + 37 < b + 2 ∨ b + 37 < a + 2) {y : Nat} {v : Int} (hy : y = K + 1 + b) (hv : v = s (K + 1 + a) 0) (hn : siz (K + 1) = 1) : PCW d (up s y 0 v) a b (K + 1) := by
  subst hy
  refine h.st hK hdj (fun k' e => up_o e) (fun j e => ?_)
  rw [hn] at e
  obtain rfl : j = 0 := by omega
  rw [up_us, us_eq rfl, hv]

/-! a change of the skins -/
theorem TK_sk {t t' : Nat → Int} (k : TK t) (hf : ∀ j : Nat, j ≠ 1 → (j < 336 ∨ 846 ≤ j) → t' j = t j) (h1 : 0 ≤ t' 1 ∧ t' 1 ≤ 30) (hS : T7s t') : TK t' := by
  have n := TKn k
  unfold T7n at n
  have hA : ∀ lo hi, 2 ≤ lo ∧ hi ≤ 336 ∨ 846 ≤ lo → AGR t t' lo hi := fun lo hi h j x y => hf j (by omega) (by omega)
  have hN : ∀ j : Nat, j ≠ 1 → j < 16 → t' j = t j := fun j x y => hf j x (by omega)
  refine ⟨?_, T7l_c (hN 4 (by omega) (by omega)) (hA _ _ (by omega)) (TKl k), T7p_c (hN 0 (by omega) (by omega)) (hA _ _ (by omega)) (by omega) (TKp k), T7o_c (hN 0 (by omega) (by omega)) (hN 2 (by omega) (by omega)) (hA _ _ (by omega)) (by omega) (TKo k), hS, T7h_c (hN 3 (by omega) (by omega)) (by omega) (hA _ _ (by omega)) (TKh k), T7y_c (hN 5 (by omega) (by omega)) (hA _ _ (by omega)) (TKy k), T7w_c (hA _ _ (by omega)) (TKw k), T7r_c (hA _ _ (by omega)) (TKr k)⟩
  unfold T7n
  rw [hN 3 (by omega) (by omega), hN 2 (by omega) (by omega), hN 0 (by omega) (by omega)]
  omega
theorem RW_sk {t t' : Nat → Int} {d d1 : D9} (k : TK t) (r : RW d t) (hf : ∀ j : Nat, j ≠ 1 → (j < 336 ∨ 846 ≤ j) → t' j = t j) (c6 : ∀ k, k < 9 ∨ 21 < k → d1 k = d k) (hR : R7s d1 t') : RW d1 t' := by
  have n := TKn k
  unfold T7n at n
  have hA : ∀ lo hi, 2 ≤ lo ∧ hi ≤ 336 ∨ 846 ≤ lo → AGR t t' lo hi := fun lo hi h j x y => hf j (by omega) (by omega)
  have hN : ∀ j : Nat, j ≠ 1 → j < 16 → t' j = t j := fun j x y => hf j x (by omega)
  have nl := (TKy k).1
  exact ⟨R7l_t (hN 4 (by omega) (by omega)) (hA _ _ (by omega)) (R7l_c (RWl r) (c6 _ (by omega))), R7p_t (hN 0 (by omega) (by omega)) (hN 2 (by omega) (by omega)) (by omega) (hA _ _ (by omega)) (R7p_c (RWp r) (c6 _ (by omega)) (c6 _ (by omega)) (c6 _ (by omega)) (c6 _ (by omega)) (c6 _ (by omega))), R7o_t (hN 2 (by omega) (by omega)) (by omega) (hA _ _ (by omega)) (R7o_c (RWo r) (c6 _ (by omega)) (c6 _ (by omega))), hR, R7h_t (hN 3 (by omega) (by omega)) (by omega) (hA _ _ (by omega)) (R7h_c (RWh r) (c6 _ (by omega)) (c6 _ (by omega)) (c6 _ (by omega))), R7y_t (hN 5 (by omega) (by omega)) (by omega) (hA _ _ (by omega)) (R7y_c (RWy r) (fun k x _ => c6 k (by omega))), R7w_t (hA _ _ (by omega)) (R7w_c (RWw r) (c6 _ (by omega)) (c6 _ (by omega))), R7r_t (hA _ _ (by omega)) (TKr k) (R7r_c (RWr r) (fun k x _ => c6 k (by omega)))⟩
/-! a new skin -/
def nsk (t t' : Nat → Int) (a b c e : Int) : Prop := t' 1 = t 1 + 1 ∧ sk t' (t 1) 0 = a ∧ sk t' (t 1) 1 = b ∧ (b ≠ 0 → sk t' (t 1) 2 = c) ∧ sk t' (t 1) 3 = e ∧ sk t' (t 1) 4 = 0 ∧ ∀ j : Nat, j ≠ 1 → (j < 336 + 17 * t 1 ∨ 341 + 17 * t 1 ≤ j) → t' j = t j
theorem T_skin {t t' : Nat → Int} {d d1 : D9} {a b c e : Int} (k : TK t) (r : RW d t) (hn : t 1 < 30) (ha : 0 ≤ a ∧ a ≤ 5) (hb : 0 ≤ b ∧ b ≤ 2) (hc : b ≠ 0 → 0 ≤ c ∧ c < t 0) (he : 1 ≤ e ∧ e ≤ 99) (h : nsk t t' a b c e)
    (c9 : d1 9 0 = t 1 + 1) (c0 : d1 10 = us (d 10) (t 1).toNat a) (c1 : d1 11 = us (d 11) (t 1).toNat b) (c2 : d1 12 = us (d 12) (t 1).toNat (if b = 0 then 0 else c)) (c3 : d1 13 = us (d 13) (t 1).toNat e) (c4 : d1 14 = us (d 14) (t 1).toNat 0) (c5 : d1 15 = us (d 15) (t 1).toNat 0) (c7 : d1 16 = us (d 16) (t 1).toNat (-1)) (c6 : ∀ k, k < 9 ∨ 16 < k → d1 k = d k) : TK t' ∧ RW d1 t' := by
  have n := TKn k
  unfold T7n at n
  obtain ⟨h1, e0, e1, e2, e3, e4, hf⟩ := h
  have hN : ∀ j : Nat, j ≠ 1 → j < 16 → t' j = t j := fun j x y => hf j x (by omega)
  have hO : ∀ s, 0 ≤ s → s < t 1 → ∀ w, 0 ≤ w → w < 17 → sk t' s w = sk t s w := fun s x y w u v => hf _ (by omega) (by omega)
  refine ⟨TK_sk k (fun j x y => hf j x (by omega)) (by omega) (fun s x y => ?_), RW_sk k r (fun j x y => hf j x (by omega)) (fun k x => c6 k (by omega)) ⟨by rw [c9, h1], fun s x y => ?_⟩⟩
  · by_cases z : s = t 1
    · subst z
      unfold SK7
      rw [e0, e1, e3, e4, hN 0 (by omega) (by omega)]
      exact ⟨ha, hb, fun u => by rw [e2 u]; exact hc u, he, by omega, fun l u v => by omega⟩
    · exact SK7_c (by rw [hN 0 (by omega) (by omega)]; omega) (hO s x (by omega)) (TKs k s x (by omega))
  · by_cases z : s = t 1
    · subst z
      refine ⟨⟨?_, ?_, ?_, ?_, ?_, fun l u v => ?_⟩, fun l u v => ?_, ?_, ?_⟩
      · rw [c0, us_eq rfl, e0]
      · rw [c1, us_eq rfl, e1]
      · rw [c2, us_eq rfl, e1]
        by_cases w : b = 0
        · rw [if_pos w, if_pos w]
        · rw [if_neg w, if_neg w, e2 w]
      · rw [c3, us_eq rfl, e3]
      · rw [c4, us_eq rfl, e4]
      · rw [e4] at v; omega
      · rw [e4] at v; omega
      · rw [c5, us_eq rfl, srt, if_pos e4]
      · rw [c7, us_eq rfl, sya, srt, if_pos e4]; rfl
    · obtain ⟨y0, y1, y2⟩ := (RWs r).2 s x (by omega)
      have g : ∀ k, d1 k s.toNat = d k s.toNat ∨ k = 9 := fun k => by
        by_cases w : k < 9 ∨ 16 < k
        · exact Or.inl (by rw [c6 k w])
        · obtain rfl | rfl | rfl | rfl | rfl | rfl | rfl | rfl : k = 9 ∨ k = 10 ∨ k = 11 ∨ k = 12 ∨ k = 13 ∨ k = 14 ∨ k = 15 ∨ k = 16 := by omega
          · exact Or.inr rfl
          · exact Or.inl (by rw [c0, us_ne (by omega)])
          · exact Or.inl (by rw [c1, us_ne (by omega)])
          · exact Or.inl (by rw [c2, us_ne (by omega)])
          · exact Or.inl (by rw [c3, us_ne (by omega)])
          · exact Or.inl (by rw [c4, us_ne (by omega)])
          · exact Or.inl (by rw [c5, us_ne (by omega)])
          · exact Or.inl (by rw [c7, us_ne (by omega)])
      refine RS_t ⟨⟨hN 6 (by omega) (by omega), hN 7 (by omega) (by omega), hN 8 (by omega) (by omega), hN 9 (by omega) (by omega), hN 10 (by omega) (by omega)⟩, hO s x (by omega)⟩ (TKs k s x (by omega)).2.2.2.2.1 ⟨RA7_fr y0 (fun k hk => (g k).resolve_right (by omega)) (fun k l hk _ _ => by rw [c6 k (by omega)]), RC7_fr y1 (fun k l hk _ _ => by rw [c6 k (by omega)]), RJ7_fr y2 (fun k hk => (g k).resolve_right (by omega))⟩

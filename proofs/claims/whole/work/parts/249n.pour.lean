/-! layers from a tray -/
theorem JL {s p M : Int} {D : Nat → Int} (hp : 0 ≤ p ∧ p ≤ 3) (hM : 0 ≤ M ∧ M ≤ 13) (hD : ∀ j, 0 ≤ j → j < 3 * M → C5 (D (p * 40 + j).toNat)) : ∀ (m f1 f2 : Nat) (i : Int) (d e : D9), m < f1 → m < f2 → i + m = M → 0 ≤ i → TK (e 175) → RW d (e 175) → 0 ≤ s ∧ s < e 175 1 → sk (e 175) s 4 + m ≤ 4 → d 57 = D → (∀ j, 0 ≤ j → j < 3 * M → e 193 (40 * p + j).toNat = D (p * 40 + j).toNat) →
    ∃ d1 e1, fix9 (fun _ _ _ _ _ _ => none) (fun k => b_X11_pour_0_c92 k) f1 s p (3 * M) M (3 * i) d = rt M d1 ∧ fix9 (fun _ _ _ _ _ => none) (fun k => b_X12_pour_174_c158 k) f2 s M (40 * p) i e = rt M e1 ∧ (∀ k, k < 9 ∨ 21 < k → d1 k = d k) ∧ (∀ k, k ≠ 175 → e1 k = e k) ∧ TK (e1 175) ∧ RW d1 (e1 175)
  | 0, f1 + 1, f2 + 1, i, d, e, _, _, hi, h0, kt, rw', _, _, _, _ => by
    refine ⟨d, e, ?_, ?_, fun _ _ => rfl, fun _ _ => rfl, kt, rw'⟩
    · rw [fx5, b_X11_pour_0_c92, w32_id (by omega), w32_id (by omega), if_pos (by omega)]
    · rw [fx4, b_X12_pour_174_c158, w32_id (by omega), w32_id (by omega), if_pos (by omega)]
  | m + 1, f1 + 1, f2 + 1, i, d, e, g1, g2, hi, h0, kt, rw', hs, hL, h57, h193 => by
    have n := TKn kt
    unfold T7n at n
    obtain ⟨e1, x1, x2, x3⟩ := p_addLayer (d := e) (a := D (p * 40 + 3 * i).toNat) (b := D (p * 40 + (3 * i + 1)).toNat) (e := D (p * 40 + (3 * i + 2)).toNat) kt rfl hs (by omega)
    obtain ⟨d1, y1, y2, y3, y4⟩ := T_layer kt rw' hs (by omega) (hD (3 * i) (by omega) (by omega)) (hD (3 * i + 1) (by omega) (by omega)) (hD (3 * i + 2) (by omega) (by omega)) x3
    have hs1 : e1 175 1 = e 175 1 := x3.2.2.2.2 1 (by omega) (by have := (TKs kt s hs.1 hs.2).2.2.2.2.1; omega)
    obtain ⟨d2, e2, z1, z2, z3, z4, z5, z6⟩ := JL hp hM hD m f1 f2 (i + 1) d1 e1 (by omega) (by omega) (by omega) (by omega) y3 y4 (by rw [hs1]; exact hs) (by rw [x3.1]; omega) (by rw [y2 57 (by omega)]; exact h57) (fun j u v => by rw [x2 193 (by omega)]; exact h193 j u v)
    refine ⟨d2, e2, ?_, ?_, fun k u => (z3 k u).trans (y2 k u), fun k u => (z4 k u).trans (x2 k u), z5, z6⟩
    · rw [fx5, b_X11_pour_0_c92, w32_id (by omega), w32_id (by omega), if_neg (by omega), m_X9_numberAt_54, ld_in (by omega), cl_rt, m_X9_numberAt_54, ld_in (by omega), cl_rt, m_X9_numberAt_54, ld_in (by omega), cl_rt, h57, y1, cl_rt, show 3 * i + 3 = 3 * (i + 1) by omega, z1]
    · rw [fx4, b_X12_pour_174_c158, w32_id (by omega), w32_id (by omega), if_neg (by omega), ld_in (by omega), ld_in (by omega), ld_in (by omega), h193 (3 * i) (by omega) (by omega), show 40 * p + 3 * i + 1 = 40 * p + (3 * i + 1) by omega, show 40 * p + 3 * i + 2 = 40 * p + (3 * i + 2) by omega, h193 (3 * i + 1) (by omega) (by omega), h193 (3 * i + 2) (by omega) (by omega), x1, cl_rt, z2]
  | _, 0, _, _, _, _, hf, _, _, _, _, _, _, _, _, _ => absurd hf (Nat.not_lt_zero _)
  | _, _, 0, _, _, _, _, hf, _, _, _, _, _, _, _, _ => absurd hf (Nat.not_lt_zero _)

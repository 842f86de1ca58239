/-! images -/
theorem p_imageL {p : Int} {d : D9} (hp : 0 ≤ p ∧ p ≤ 2) : ∃ d1, m_X12_image_174_c38 p 0 d = rt 0 d1 ∧ CPY d d1 176 (1604 * p) (fun i => d 175 i.toNat) 1604 := by
  have z := fix_fu (z := fun _ _ _ => none) (B := fun k => b_X12_image_174_c38 k) (fun k i (s : D9) => k p i s) 0 1604 (fun i s => up s 176 (1604 * p + i).toNat (d 175 i.toNat)) (fun i s => 0 ≤ i ∧ CPY d s 176 (1604 * p) (fun i => d 175 i.toNat) i) (fun s => rt 0 s) d (by omega) ⟨by omega, CPY.z _ _ _ _⟩ ?_ ?_
  · exact ⟨_, z.2, z.1.2⟩
  · intro k s hI
    simp only [b_X12_image_174_c38]
    rw [if_pos (Int.le_refl _)]
  · intro k i s hi hI
    refine ⟨⟨by omega, hI.2.st (by omega)⟩, ?_⟩
    simp only [b_X12_image_174_c38]
    rw [w32_id (by omega), w32_id (by omega), if_neg (by omega), ld_in (by omega), sd_in (by omega), hI.2.1 175 (by omega)]
theorem p_restoreL {p : Int} {d : D9} (hp : 0 ≤ p ∧ p ≤ 2) : ∃ d1, m_X12_restore_174_c44 p 0 d = rt 0 d1 ∧ CPY d d1 175 0 (fun i => d 176 (1604 * p + i).toNat) 1604 := by
  have z := fix_fu (z := fun _ _ _ => none) (B := fun k => b_X12_restore_174_c44 k) (fun k i (s : D9) => k p i s) 0 1604 (fun i s => up s 175 (0 + i).toNat (d 176 (1604 * p + i).toNat)) (fun i s => 0 ≤ i ∧ CPY d s 175 0 (fun i => d 176 (1604 * p + i).toNat) i) (fun s => rt 0 s) d (by omega) ⟨by omega, CPY.z _ _ _ _⟩ ?_ ?_
  · exact ⟨_, z.2, z.1.2⟩
  · intro k s hI
    simp only [b_X12_restore_174_c44]
    rw [if_pos (Int.le_refl _)]
  · intro k i s hi hI
    refine ⟨⟨by omega, hI.2.st (by omega)⟩, ?_⟩
    simp only [b_X12_restore_174_c44]
    rw [w32_id (by omega), w32_id (by omega), if_neg (by omega), ld_in (by omega), sd_in (by omega), hI.2.1 176 (by omega), show 0 + i = i by omega]
theorem TK_all {t t' : Nat → Int} (h : ∀ j : Nat, j < 1604 → t' j = t j) (k : TK t) : TK t' := by
  have n := TKn k
  unfold T7n at n
  have hA : ∀ lo hi, hi ≤ 1604 → AGR t t' lo hi := fun lo hi g j x y => h j (by omega)
  exact ⟨T7n_c (hA _ _ (by omega)) (TKn k), T7l_c (h 4 (by omega)) (hA _ _ (by omega)) (TKl k), T7p_c (h 0 (by omega)) (hA _ _ (by omega)) (by omega) (TKp k), T7o_c (h 0 (by omega)) (h 2 (by omega)) (hA _ _ (by omega)) (by omega) (TKo k), T7s_c (by rw [h 0 (by omega)]; omega) (h 1 (by omega)) (by omega) (hA _ _ (by omega)) (TKs k), T7h_c (h 3 (by omega)) (by omega) (hA _ _ (by omega)) (TKh k), T7y_c (h 5 (by omega)) (hA _ _ (by omega)) (TKy k), T7w_c (hA _ _ (by omega)) (TKw k), T7r_c (hA _ _ (by omega)) (TKr k)⟩
theorem RW_all {t t' : Nat → Int} {c : D9} (h : ∀ j : Nat, j < 1604 → t' j = t j) (k : TK t) (r : RW c t) : RW c t' := by
  have n := TKn k
  unfold T7n at n
  have nl := (TKy k).1
  have hA : ∀ lo hi, hi ≤ 1604 → AGR t t' lo hi := fun lo hi g j x y => h j (by omega)
  exact ⟨R7l_t (h 4 (by omega)) (hA _ _ (by omega)) (RWl r), R7p_t (h 0 (by omega)) (h 2 (by omega)) (by omega) (hA _ _ (by omega)) (RWp r), R7o_t (h 2 (by omega)) (by omega) (hA _ _ (by omega)) (RWo r), R7s_t (h 1 (by omega)) (by omega) (hA _ _ (by omega)) (hA _ _ (by omega)) (TKs k) (RWs r), R7h_t (h 3 (by omega)) (by omega) (hA _ _ (by omega)) (RWh r), R7y_t (h 5 (by omega)) (by omega) (hA _ _ (by omega)) (RWy r), R7w_t (hA _ _ (by omega)) (RWw r), R7r_t (hA _ _ (by omega)) (TKr k) (RWr r)⟩

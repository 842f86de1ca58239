/-! images -/
theorem p_imageL {p : Int} {d : D9} (hp : 0 ≤ p ∧ p ≤ 2) : ∃ d1, m_X12_image_174_c38 p 0 d = rt 0 d1 ∧ CPY d d1 176 (1604 * p) (fun i => d 175 i.toNat) 1604 := by
  have z := fix_fu (z := fun _ _ _ => none) (B := fun k => b_X12_image_174_c38 k) (fun k i (s : D9) => k p i s) 0 1604 (fun i s => up s 176 (1604 * p + i).toNat (d 175 i.toNat)) (fun i s => 0 ≤ i ∧ CPY d s 176 (1604 * p) (fun i => d 175 i.toNat) i) (fun s => rt 0 s) d (by omega) ⟨by omega, CPY.z _ _ _ _⟩ ?_ ?_
  · exact ⟨_, z.2, z.1.2⟩
  · intro k s hI
    simp only [b_X12_image_174_c38]
    rw [if_pos (Int.le_refl _)]
  · intro k i s hi hI
    refine ⟨⟨by omega, hI.2.st (by omega)⟩, ?_⟩
    simp only [b_X12_image_174_c38]
    rw [w32_id (by omega), w32_id (by omega), if_neg (by omega), ld_in (by omega), sd_in (by omega), hI.2.1 175 (by omega)]
theorem p_restoreL {p : Int} {d : D9} (hp : 0 ≤ p ∧ p ≤ 2) : ∃ d1, m_X12_restore_174_c44 p 0 d = rt 0 d1 ∧ CPY d d1 175 0 (fun i => d 176 (1604 * p + i).toNat) 1604 := by
  have z := fix_fu (z := fun _ _ _ => none) (B := fun k => b_X12_restore_174_c44 k) (fun k i (s : D9) => k p i s) 0 1604 (fun i s => up s 175 (0 + i).toNat (d 176 (1604 * p + i).toNat)) (fun i s => 0 ≤ i ∧ CPY d s 175 0 (fun i => d 176 (1604 * p + i).toNat) i) (fun s => rt 0 s) d (by omega) ⟨by omega, CPY.z _ _ _ _⟩ ?_ ?_
  · exact ⟨_, z.2, z.1.2⟩
  · intro k s hI
    simp only [b_X12_restore_174_c44]
    rw [if_pos (Int.le_refl _)]
  · intro k i s hi hI
    refine ⟨⟨by omega, hI.2.st (by omega)⟩, ?_⟩
    simp only [b_X12_restore_174_c44]
    rw [w32_id (by omega), w32_id (by omega), if_neg (by omega), ld_in (by omega), sd_in (by omega), hI.2.1 176 (by omega), show 0 + i = i by omega]

/-! what the makers leave: the invariant holds at the start -/
def d00 : D9 := fx_X12 174 (fx_X11 0 (fun _ => zr))
theorem dz_un {k : Nat} (h : k ≠ 22 ∧ k ≠ 36 ∧ k ≠ 37 ∧ k ≠ 40 ∧ k ≠ 51 ∧ k ≠ 56 ∧ k ≠ 84 ∧ k ≠ 98 ∧ k ≠ 99 ∧ k ≠ 121 ∧ k ≠ 135 ∧ k ≠ 136 ∧ k ≠ 158 ∧ k ≠ 172 ∧ k ≠ 173 ∧ k ≠ 174 ∧ k ≠ 175 ∧ k ≠ 179 ∧ k ≠ 191) : d00 k = zr := by
  unfold d00 fx_X12 fx_X11 fx_X10 fx_X1 fx_X2 fx_X8 fx_X9
  simp (disch := omega) only [up_k]
theorem dz_TK : TK (d00 175) := by
  have e0 : d00 175 0 = 0 := by decide +kernel
  have e1 : d00 175 1 = 0 := by decide +kernel
  have e2 : d00 175 2 = 0 := by decide +kernel
  have e3 : d00 175 3 = 0 := by decide +kernel
  have e5 : d00 175 5 = 0 := by decide +kernel
  have er : d00 175 1144 = 0 := by decide +kernel
  refine ⟨?_, ?_, ?_, ?_, ?_, ?_, ?_, ?_, ?_⟩
  · unfold T7n; rw [e0, e1, e2, e3]; decide
  · unfold T7l; decide +kernel
  · intro p a b; rw [e0] at b; omega
  · intro k a b; rw [e2] at b; omega
  · intro s a b; rw [e1] at b; omega
  · intro h a b; rw [e3] at b; omega
  · refine ⟨by rw [e5]; decide, fun k a b => ?_⟩
    rw [e5] at b; omega
  · intro i a b
    have : i = 0 ∨ i = 1 ∨ i = 2 ∨ i = 3 ∨ i = 4 ∨ i = 5 ∨ i = 6 ∨ i = 7 ∨ i = 8 ∨ i = 9 := by omega
    rcases this with h | h | h | h | h | h | h | h | h | h <;> subst h <;> decide +kernel
  · refine ⟨by rw [er]; decide, fun r h => ?_⟩
    rw [er] at h; omega
theorem dz_RW : RW d00 (d00 175) := by
  have e0 : d00 175 0 = 0 := by decide +kernel
  have e1 : d00 175 1 = 0 := by decide +kernel
  have e2 : d00 175 2 = 0 := by decide +kernel
  have e3 : d00 175 3 = 0 := by decide +kernel
  have e5 : d00 175 5 = 0 := by decide +kernel
  have er : d00 175 1144 = 0 := by decide +kernel
  refine ⟨?_, ?_, ?_, ?_, ?_, ?_, ?_, ?_⟩
  · unfold R7l; decide +kernel
  · refine ⟨by rw [e0, dz_un (by decide)], by rw [e2, dz_un (by decide)], fun p a b => ?_, fun p a b f _ _ => by rw [dz_un (by decide)]⟩
    rw [e0] at b; omega
  · refine ⟨fun x _ _ => ?_, fun u l _ _ _ _ => ?_, fun p _ _ => ?_⟩
    · rw [dz_un (k := 7) (by decide), dz_un (k := 8) (by decide)]
      show ((0 : Int) ≤ 0 ∧ (0 : Int) < 1073741824) ∧ (0 : Int) ≤ 0 ∧ (0 : Int) < 1073741824
      decide
    · rw [dz_un (k := 7) (by decide), dz_un (k := 8) (by decide)]
      have : ord (d00 175) u l = false := by
        unfold ord; rw [e2]; rfl
      rw [this]
      exact ⟨tb_0 _, tb_0 _⟩
    · rw [dz_un (k := 7) (by decide)]
      have : cto (d00 175) p = 0 := by
        unfold cto; rw [e2]; rfl
      rw [this]
      exact bc_0
  · refine ⟨by rw [e1, dz_un (by decide)], fun s a b => ?_⟩
    rw [e1] at b; omega
  · refine ⟨by rw [e3, dz_un (by decide)], fun s a b => ?_⟩
    rw [e3] at b; omega
  · refine ⟨by rw [e5, dz_un (by decide)], fun s a b => ?_⟩
    rw [e5] at b; omega
  · intro i a b
    have : i = 0 ∨ i = 1 ∨ i = 2 ∨ i = 3 ∨ i = 4 := by omega
    rcases this with h | h | h | h | h <;> subst h <;> decide +kernel
  · refine ⟨by rw [er, dz_un (by decide)], fun r h => ?_⟩
    rw [er] at h; omega
theorem dz_IV : IV d00 := by
  refine ⟨fun i hi => ?_, ⟨?_, ?_, fun j hj => ?_⟩, ?_, fun i hi => Or.inl ?_, fun j hj => ?_⟩
  · rw [dz_un (k := 39) (by decide), dz_un (k := 177) (by decide)]
    exact ⟨rfl, Or.inl rfl⟩
  · decide +kernel
  · decide +kernel
  · rw [dz_un (k := 52) (by decide), dz_un (k := 178) (by decide)]
    show (0 : Int) = 0 ∧ (0 : Int) ≤ 0 ∧ (0 : Int) ≤ 255
    decide
  · unfold FC; decide +kernel
  · have : i = 0 ∨ i = 1 ∨ i = 2 ∨ i = 3 := by omega
    rcases this with h | h | h | h <;> subst h <;> decide +kernel
  · rw [dz_un (k := 57) (by decide), dz_un (k := 193) (by decide)]
    show (0 : Int) = 0 ∧ -9223372036854775808 ≤ (0 : Int) ∧ (0 : Int) ≤ 9223372036854775807
    decide
theorem dz_INV : INV d00 := ⟨⟨dz_TK, dz_RW⟩, dz_IV⟩

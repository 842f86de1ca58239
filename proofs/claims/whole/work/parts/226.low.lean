/-! the lowest bit, and a set without another -/
theorem i32g (a : Int) : (Int32.ofInt a).toBitVec.toNat = (a % 4294967296).toNat := by
  rw [Int32.toBitVec_ofInt, BitVec.toNat_ofInt]; rfl
theorem and9_g {a b : Int} (h : 0 ≤ a ∧ a ≤ 2147483647) : and9 a b = ((a.toNat &&& (b % 4294967296).toNat : Nat) : Int) := by
  unfold and9
  rw [← Int32.toInt_toBitVec, Int32.toBitVec_and, BitVec.toInt_eq_toNat_bmod, BitVec.toNat_and, i32g, i32g]
  have e : (a % 4294967296).toNat = a.toNat := by omega
  rw [e]
  have h3 : a.toNat &&& (b % 4294967296).toNat < 2 ^ 31 := Nat.lt_of_le_of_lt Nat.and_le_left (by omega)
  generalize a.toNat &&& (b % 4294967296).toNat = y at h3 ⊢
  rw [Int.bmod_def]
  split <;> omega
theorem dec2 : ∀ (n x : Nat), x ≤ n → 0 < x → ∃ k m, x = 2 ^ k * (2 * m + 1)
  | 0, x, h, h0 => by omega
  | n + 1, x, h, h0 => by
    by_cases e : x % 2 = 1
    · exact ⟨0, x / 2, by omega⟩
    · obtain ⟨k, m, hk⟩ := dec2 n (x / 2) (by omega) (by omega)
      refine ⟨k + 1, m, ?_⟩
      rw [Nat.pow_succ, Nat.mul_comm (2 ^ k) 2, Nat.mul_assoc, ← hk]; omega
theorem low_nat {x k m : Nat} (hx : x = 2 ^ k * (2 * m + 1)) (hb : x < 2 ^ 32) : x &&& (2 ^ 32 - x) = 2 ^ k := by
  have hp : 0 < 2 ^ k := Nat.pow_pos (by omega)
  have h0 : 0 < x := by rw [hx]; exact Nat.mul_pos hp (by omega)
  have hk : k < 32 := by
    apply Nat.lt_of_not_le; intro h
    have h1 : 2 ^ 32 ≤ 2 ^ k := Nat.pow_le_pow_right (by omega) h
    have h2 : 2 ^ k * 1 ≤ 2 ^ k * (2 * m + 1) := Nat.mul_le_mul_left _ (by omega)
    omega
  have e : 2 ^ 32 - x = 2 ^ 32 - ((x - 1) + 1) := by omega
  apply Nat.eq_of_testBit_eq
  intro i
  rw [Nat.testBit_and, e, Nat.testBit_two_pow_sub_succ (by omega), Nat.testBit_two_pow]
  have e1 : x - 1 = 2 ^ k * (2 * m) + (2 ^ k - 1) := by
    rw [hx, Nat.mul_add]; omega
  rw [e1, Nat.testBit_two_pow_mul_add _ (by omega), Nat.testBit_two_pow_sub_one, hx, Nat.testBit_two_pow_mul]
  by_cases h1 : i < k
  · have : ¬ k ≤ i := by omega
    have : ¬ k = i := by omega
    simp [*]
  · by_cases h2 : k = i
    · subst h2; simp [hk]
    · have h3 : k ≤ i := by omega
      simp only [h1, h2, h3, if_false, decide_true, decide_false, Bool.true_and, ge_iff_le]
      obtain ⟨j, hj⟩ : ∃ j, i - k = j + 1 := ⟨i - k - 1, by omega⟩
      rw [hj]
      have q1 : (2 * m + 1).testBit (j + 1) = m.testBit j := by rw [Nat.testBit_succ]; congr 1; omega
      have q2 : (2 * m).testBit (j + 1) = m.testBit j := by rw [Nat.testBit_succ]; congr 1; omega
      rw [q1, q2]
      cases m.testBit j <;> simp
theorem low_bit {x : Int} (h : 0 < x ∧ x < 1073741824) : ∃ k : Int, (0 ≤ k ∧ k < 30) ∧ and9 x (-x) = shl9 1 k ∧ tb x k = true ∧ ∀ j, 0 ≤ j → j < k → tb x j = false := by
  obtain ⟨k, m, hk⟩ := dec2 x.toNat x.toNat (Nat.le_refl _) (by omega)
  have hp : 0 < 2 ^ k := Nat.pow_pos (by omega)
  have hk30 : k < 30 := by
    apply Nat.lt_of_not_le; intro h
    have h1 : 2 ^ 30 ≤ 2 ^ k := Nat.pow_le_pow_right (by omega) h
    have h2 : 2 ^ k * 1 ≤ 2 ^ k * (2 * m + 1) := Nat.mul_le_mul_left _ (by omega)
    omega
  refine ⟨k, by omega, ?_, ?_, ?_⟩
  · rw [and9_g (by omega), shl9_1 (by omega)]
    have e : (-x % 4294967296).toNat = 2 ^ 32 - x.toNat := by omega
    rw [e, low_nat hk (by omega)]
    simp
  · unfold tb
    rw [hk, Int.toNat_natCast, Nat.testBit_two_pow_mul]
    simp
  · intro j h0 hj
    unfold tb
    rw [hk, Nat.testBit_two_pow_mul]
    have : ¬ k ≤ j.toNat := by omega
    simp [this]
theorem xor_m1 {y : Int} (h : 0 ≤ y ∧ y ≤ 2147483647) : xor9 y (-1) = -y - 1 := by
  unfold xor9
  have e : (Int32.ofInt (-1)).toBitVec = BitVec.allOnes 32 := by decide
  rw [← Int32.toInt_toBitVec, Int32.toBitVec_xor, e, BitVec.xor_allOnes, BitVec.toInt_not, i32g, Int.bmod_def]
  split <;> omega
theorem sub_rng {x y : Int} (hx : 0 ≤ x ∧ x ≤ 2147483647) (hy : 0 ≤ y ∧ y ≤ 2147483647) : 0 ≤ and9 x (xor9 y (-1)) ∧ and9 x (xor9 y (-1)) ≤ x := by
  rw [xor_m1 hy, and9_g hx]
  have h3 : x.toNat &&& ((-y - 1) % 4294967296).toNat ≤ x.toNat := Nat.and_le_left
  omega
theorem tb_sub {x y i : Int} (hx : 0 ≤ x ∧ x ≤ 2147483647) (hy : 0 ≤ y ∧ y ≤ 2147483647) (hi : 0 ≤ i ∧ i < 32) : tb (and9 x (xor9 y (-1))) i = (tb x i && !tb y i) := by
  rw [xor_m1 hy, and9_g hx]
  unfold tb
  rw [Int.toNat_natCast, Nat.testBit_and]
  have e : ((-y - 1) % 4294967296).toNat = 2 ^ 32 - (y.toNat + 1) := by omega
  rw [e, Nat.testBit_two_pow_sub_succ (by omega)]
  have : i.toNat < 32 := by omega
  simp [this]
theorem cn_full {X : Nat} : ∀ n, cn X n = n → ∀ i, i < n → X.testBit i = true
  | 0, _, i, hi => absurd hi (Nat.not_lt_zero _)
  | n + 1, h, i, hi => by
    have hb : ∀ m, cn X m ≤ m := by
      intro m
      induction m with
      | zero => exact Nat.le_refl _
      | succ m ih =>
        show cn X m + (X.testBit m).toNat ≤ m + 1
        have : (X.testBit m).toNat ≤ 1 := Bool.toNat_le _
        omega
    have h1 : cn X n + (X.testBit n).toNat = n + 1 := h
    have h2 := hb n
    have h3 : (X.testBit n).toNat ≤ 1 := Bool.toNat_le _
    by_cases e : i = n
    · subst e
      cases hh : X.testBit i with
      | true => rfl
      | false => rw [hh] at h1; simp at h1; omega
    · exact cn_full n (by omega) i (by omega)
theorem bc_full {x : Int} (hx : 0 ≤ x ∧ x < 1073741824) (h : 30 ≤ bc x) : ∀ i, 0 ≤ i → i < 30 → tb x i = true := by
  intro i h0 h1
  obtain ⟨X, rfl⟩ := Int.eq_ofNat_of_zero_le hx.1
  rw [bc_nat X (by omega)] at h
  have hb : ∀ m, cn X m ≤ m := by
    intro m
    induction m with
    | zero => exact Nat.le_refl _
    | succ m ih =>
      show cn X m + (X.testBit m).toNat ≤ m + 1
      have : (X.testBit m).toNat ≤ 1 := Bool.toNat_le _
      omega
  have := hb 30
  unfold cnt at h
  have := cn_full (X := X) 30 (by omega) i.toNat (by omega)
  simpa [tb] using this
theorem tb_zero {x : Int} (hx : 0 ≤ x ∧ x < 1073741824) (h : ∀ i, 0 ≤ i → i < 30 → tb x i = false) : x = 0 :=
  tb_ext hx (by omega) (fun i a b => by rw [h i a b, tb_0])

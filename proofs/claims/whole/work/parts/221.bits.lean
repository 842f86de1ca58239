/-! bits: numbers below 2^31 that are sets -/
def tb (x i : Int) : Bool := x.toNat.testBit i.toNat
theorem i32n {a : Int} (h : 0 ≤ a ∧ a ≤ 2147483647) : (Int32.ofInt a).toBitVec = BitVec.ofNat 32 a.toNat := by
  apply BitVec.eq_of_toInt_eq
  rw [Int32.toInt_toBitVec, w32_of, w32_id (by omega), BitVec.toInt_eq_toNat_bmod, BitVec.toNat_ofNat, Nat.mod_eq_of_lt (by omega), Int.bmod_def]
  split <;> omega
theorem and9_n {a b : Int} (h : (0 ≤ a ∧ a ≤ 2147483647) ∧ 0 ≤ b ∧ b ≤ 2147483647) : and9 a b = ((a.toNat &&& b.toNat : Nat) : Int) := by
  unfold and9
  rw [← Int32.toInt_toBitVec, Int32.toBitVec_and, i32n h.1, i32n h.2, BitVec.toInt_eq_toNat_bmod, BitVec.toNat_and]
  have h1 : a.toNat < 2 ^ 31 := by omega
  have h3 : a.toNat &&& b.toNat < 2 ^ 31 := Nat.and_lt_two_pow _ (by omega)
  simp only [BitVec.toNat_ofNat]
  rw [Nat.mod_eq_of_lt (by omega), Nat.mod_eq_of_lt (a := b.toNat) (by omega), Int.bmod_def]
  split <;> omega
theorem or9_n {a b : Int} (h : (0 ≤ a ∧ a ≤ 2147483647) ∧ 0 ≤ b ∧ b ≤ 2147483647) : or9 a b = ((a.toNat ||| b.toNat : Nat) : Int) := by
  unfold or9
  rw [← Int32.toInt_toBitVec, Int32.toBitVec_or, i32n h.1, i32n h.2, BitVec.toInt_eq_toNat_bmod, BitVec.toNat_or]
  have h3 : a.toNat ||| b.toNat < 2 ^ 31 := Nat.or_lt_two_pow (by omega) (by omega)
  simp only [BitVec.toNat_ofNat]
  rw [Nat.mod_eq_of_lt (by omega), Nat.mod_eq_of_lt (a := b.toNat) (by omega), Int.bmod_def]
  split <;> omega
theorem sh9_in {b : Int} (h : 0 ≤ b ∧ b < 32) : sh9 b = b.toNat := by
  unfold sh9; rw [w32_id (by omega)]; omega
theorem shl9_1 {i : Int} (h : 0 ≤ i ∧ i < 32) : shl9 1 i = ((2 ^ i.toNat : Nat) : Int) := by
  unfold shl9; rw [sh9_in h]; simp
theorem shl9_rng {i : Int} (h : 0 ≤ i ∧ i < 30) : 1 ≤ shl9 1 i ∧ shl9 1 i ≤ 536870912 := by
  rw [shl9_1 (by omega)]
  have h1 : 2 ^ i.toNat ≤ 2 ^ 29 := Nat.pow_le_pow_right (by omega) (by omega)
  have h2 : 0 < 2 ^ i.toNat := Nat.pow_pos (by omega)
  omega
theorem or9_rng {a b : Int} (h : (0 ≤ a ∧ a < 1073741824) ∧ 0 ≤ b ∧ b < 1073741824) : 0 ≤ or9 a b ∧ or9 a b < 1073741824 := by
  rw [or9_n (by omega)]
  have h3 : a.toNat ||| b.toNat < 2 ^ 30 := Nat.or_lt_two_pow (by omega) (by omega)
  omega
theorem tb_or {a b i : Int} (h : (0 ≤ a ∧ a < 1073741824) ∧ 0 ≤ b ∧ b < 1073741824) : tb (or9 a b) i = (tb a i || tb b i) := by
  unfold tb; rw [or9_n (by omega), Int.toNat_natCast, Nat.testBit_or]
theorem tb_shl {i j : Int} (h : 0 ≤ i ∧ i < 30) (hj : 0 ≤ j) : tb (shl9 1 i) j = decide (i = j) := by
  unfold tb; rw [shl9_1 (by omega), Int.toNat_natCast, Nat.testBit_two_pow]
  by_cases e : i = j
  · subst e; simp
  · simp only [e, decide_false]
    have : ¬ i.toNat = j.toNat := by omega
    simp [this]
theorem tb_0 (i : Int) : tb 0 i = false := by simp [tb]
theorem tb_lt {a i : Int} {n : Nat} (h : 0 ≤ a ∧ a < 2 ^ n) (hi : (n : Int) ≤ i) : tb a i = false := by
  unfold tb
  apply Nat.testBit_lt_two_pow
  have : a.toNat < 2 ^ n := by
    have e : ((2 ^ n : Nat) : Int) = (2 : Int) ^ n := by simp
    omega
  exact Nat.lt_of_lt_of_le this (Nat.pow_le_pow_right (by omega) (by omega))
theorem tb_ext {a b : Int} (ha : 0 ≤ a ∧ a < 1073741824) (hb : 0 ≤ b ∧ b < 1073741824) (h : ∀ i, 0 ≤ i → i < 30 → tb a i = tb b i) : a = b := by
  have e : a.toNat = b.toNat := by
    apply Nat.eq_of_testBit_eq
    intro i
    by_cases hi : i < 30
    · have := h i (by omega) (by omega)
      simpa [tb] using this
    · have h1 := tb_lt (a := a) (n := 30) (i := i) (by omega) (by omega)
      have h2 := tb_lt (a := b) (n := 30) (i := i) (by omega) (by omega)
      simp only [tb, Int.toNat_natCast] at h1 h2
      rw [h1, h2]
  omega
theorem shr_1 {a i : Int} (ha : 0 ≤ a ∧ a ≤ 2147483647) (hi : 0 ≤ i ∧ i < 32) : shr9 a i = ((a.toNat >>> i.toNat : Nat) : Int) := by
  unfold shr9; rw [sh9_in hi, w32_id (by omega), Nat.shiftRight_eq_div_pow]
  obtain ⟨n, rfl⟩ := Int.eq_ofNat_of_zero_le ha.1
  simp
theorem ush_1 {a i : Int} (ha : 0 ≤ a ∧ a ≤ 2147483647) (hi : 0 ≤ i ∧ i < 32) : ush9 a i = ((a.toNat >>> i.toNat : Nat) : Int) := by
  unfold ush9; rw [sh9_in hi, w32_id (by omega), Int.emod_eq_of_lt ha.1 (by omega), Nat.shiftRight_eq_div_pow]
  obtain ⟨n, rfl⟩ := Int.eq_ofNat_of_zero_le ha.1
  simp
theorem q_isIn {x i : Int} {d : D9} (hx : (0 ≤ x ∧ x ≤ 2147483647) ∧ 0 ≤ i ∧ i < 32) : m_X11_isIn x i d = rt (bi (tb x i)) d := by
  unfold m_X11_isIn
  rw [shr_1 hx.1 hx.2]
  have h0 : x.toNat >>> i.toNat ≤ x.toNat := by rw [Nat.shiftRight_eq_div_pow]; exact Nat.div_le_self _ _
  unfold tb
  rw [Nat.testBit_eq_decide_div_mod_eq, ← Nat.shiftRight_eq_div_pow]
  generalize x.toNat >>> i.toNat = y at h0 ⊢
  have key : and9 (y : Int) 1 = ((y % 2 : Nat) : Int) := by
    rw [and9_n (by omega)]
    exact congrArg Nat.cast (Nat.and_one_is_mod y)
  rw [key]
  have h3 : y % 2 < 2 := Nat.mod_lt _ (by decide)
  generalize y % 2 = u at h3 ⊢
  rw [w32_id (by omega), w32_id (by omega)]
  by_cases h : u = 1
  · subst h; simp [bi]
  · have : u = 0 := by omega
    subst this; simp [bi]

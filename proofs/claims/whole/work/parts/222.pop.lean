/-! bitCount -/
def bc (p0 : Int) : Int :=
  let a1 := p0 - (and9 (ush9 p0 1) 1431655765)
  let a2 := (and9 a1 858993459) + (and9 (ush9 a1 2) 858993459)
  let a3 := and9 (a2 + (ush9 a2 4)) 252645135
  let a4 := a3 + (ush9 a3 8)
  let a5 := a4 + (ush9 a4 16)
  and9 a5 63
theorem q_bc (x : Int) (d : D9) : m_J6_bitCount_0f7a4 x d = rt (bc x) d := rfl
def F1 (M X : Nat) : Nat := X - ((X / 2) &&& M)
def F2 (M X : Nat) : Nat := (X &&& M) + ((X / 4) &&& M)
def F3 (M X : Nat) : Nat := (X + X / 16) &&& M
theorem and_split (x m y M : Nat) (hx : x < 256) (hm : m < 256) : (x + 256 * y) &&& (m + 256 * M) = (x &&& m) + 256 * (y &&& M) := by
  have hl : (x &&& m) < 256 := Nat.and_lt_two_pow (n := 8) _ hm
  apply Nat.eq_of_testBit_eq
  intro j
  have e1 := Nat.testBit_two_pow_mul_add y (i := 8) hx j
  have e2 := Nat.testBit_two_pow_mul_add M (i := 8) hm j
  have e3 := Nat.testBit_two_pow_mul_add (y &&& M) (i := 8) hl j
  rw [show 2 ^ 8 = 256 from rfl] at e1 e2 e3
  rw [Nat.testBit_and, Nat.add_comm x, Nat.add_comm m, Nat.add_comm (x &&& m), e1, e2, e3]
  split <;> simp [Nat.testBit_and]
theorem byte1 : ∀ a < 256, ∀ e < 2, (a / 2 + 128 * e) &&& 85 = (a / 2) &&& 85 := by decide +kernel
theorem byte2 : ∀ a < 256, ∀ e < 4, (a / 4 + 64 * e) &&& 51 = (a / 4) &&& 51 := by decide +kernel
theorem F1_split (a y M : Nat) (ha : a < 256) : F1 (85 + 256 * M) (a + 256 * y) = F1 85 a + 256 * F1 M y := by
  unfold F1
  have e : (a + 256 * y) / 2 = (a / 2 + 128 * (y % 2)) + 256 * (y / 2) := by omega
  rw [e, and_split _ _ _ _ (by omega) (by omega), byte1 a ha (y % 2) (Nat.mod_lt _ (by decide))]
  have h1 : (a / 2) &&& 85 ≤ a / 2 := Nat.and_le_left
  have h2 : (y / 2) &&& M ≤ y / 2 := Nat.and_le_left
  omega
theorem F2_split (a y M : Nat) (ha : a < 256) : F2 (51 + 256 * M) (a + 256 * y) = F2 51 a + 256 * F2 M y := by
  unfold F2
  have e : (a + 256 * y) / 4 = (a / 4 + 64 * (y % 4)) + 256 * (y / 4) := by omega
  rw [e, and_split _ _ _ _ (by omega) (by omega), and_split _ _ _ _ (by omega) (by omega), byte2 a ha (y % 4) (Nat.mod_lt _ (by decide))]
  omega
theorem byte3 : ∀ a < 103, ∀ e < 8, (a + a / 16 + 16 * e) &&& 15 = (a + a / 16) &&& 15 := by decide +kernel
theorem F3_split (a y M : Nat) (ha : a < 103) (hy : y % 16 < 8) : F3 (15 + 256 * M) (a + 256 * y) = F3 15 a + 256 * F3 M y := by
  unfold F3
  have e : (a + 256 * y) + (a + 256 * y) / 16 = (a + a / 16 + 16 * (y % 16)) + 256 * (y + y / 16) := by omega
  rw [e, and_split _ _ _ _ (by omega) (by omega), byte3 a ha (y % 16) hy]
def pb (a : Nat) : Nat := F3 15 (F2 51 (F1 85 a))
theorem pb_ok : ∀ a < 256, pb a = ((List.range 8).map (fun i => (a.testBit i).toNat)).sum ∧ F2 51 (F1 85 a) < 103 ∧ F2 51 (F1 85 a) % 16 < 8 ∧ F1 85 a < 256 := by decide +kernel
theorem pb_le : ∀ a < 256, pb a ≤ 8 := by decide +kernel
theorem pc_ok (a b c e : Nat) (ha : a < 256) (hb : b < 256) (hc : c < 256) (he : e < 256) : F3 252645135 (F2 858993459 (F1 1431655765 (a + 256 * (b + 256 * (c + 256 * e))))) = pb a + 256 * (pb b + 256 * (pb c + 256 * pb e)) := by
  have m1 : 1431655765 = 85 + 256 * (85 + 256 * (85 + 256 * 85)) := rfl
  have m2 : 858993459 = 51 + 256 * (51 + 256 * (51 + 256 * 51)) := rfl
  have m3 : 252645135 = 15 + 256 * (15 + 256 * (15 + 256 * 15)) := rfl
  obtain ⟨_, a2, a3, a4⟩ := pb_ok a ha
  obtain ⟨_, b2, b3, b4⟩ := pb_ok b hb
  obtain ⟨_, c2, c3, c4⟩ := pb_ok c hc
  obtain ⟨_, e2, e3, e4⟩ := pb_ok e he
  rw [m1, m2, m3, F1_split _ _ _ ha, F1_split _ _ _ hb, F1_split _ _ _ hc, F2_split _ _ _ a4, F2_split _ _ _ b4, F2_split _ _ _ c4, F3_split _ _ _ a2 (by omega), F3_split _ _ _ b2 (by omega), F3_split _ _ _ c2 (by omega)]
  rfl
def cn (X : Nat) : Nat → Nat
  | 0 => 0
  | n + 1 => cn X n + (X.testBit n).toNat
def cnt (X : Nat) : Nat := cn X 30
theorem pop_1 (X : Nat) (hX : X < 1073741824) : (X : Int) - and9 (ush9 (X : Int) 1) 1431655765 = ((F1 1431655765 X : Nat) : Int) ∧ F1 1431655765 X < 1073741824 := by
  have h1 : (X / 2) &&& 1431655765 ≤ X / 2 := Nat.and_le_left
  have e : and9 (ush9 (X : Int) 1) 1431655765 = (((X / 2) &&& 1431655765 : Nat) : Int) := by
    rw [ush_1 (by omega) (by omega), Int.toNat_natCast, Nat.shiftRight_eq_div_pow]
    rw [show X / 2 ^ (1 : Int).toNat = X / 2 from rfl, and9_n (by omega), Int.toNat_natCast]
    rfl
  rw [e]
  unfold F1
  generalize (X / 2) &&& 1431655765 = y at h1
  omega
theorem pop_2 (Y : Nat) (hY : Y < 1073741824) : and9 (Y : Int) 858993459 + and9 (ush9 (Y : Int) 2) 858993459 = ((F2 858993459 Y : Nat) : Int) ∧ F2 858993459 Y ≤ 1717986918 := by
  have q1 : Y &&& 858993459 ≤ 858993459 := Nat.and_le_right
  have q2 : Y / 4 &&& 858993459 ≤ 858993459 := Nat.and_le_right
  have e1 : and9 (Y : Int) 858993459 = ((Y &&& 858993459 : Nat) : Int) := by
    rw [and9_n (by omega), Int.toNat_natCast]; rfl
  have e2 : and9 (ush9 (Y : Int) 2) 858993459 = (((Y / 4) &&& 858993459 : Nat) : Int) := by
    rw [ush_1 (by omega) (by omega), Int.toNat_natCast, Nat.shiftRight_eq_div_pow]
    rw [show Y / 2 ^ (2 : Int).toNat = Y / 4 from rfl, and9_n (by omega), Int.toNat_natCast]
    rfl
  rw [e1, e2]
  unfold F2
  generalize Y &&& 858993459 = u at q1
  generalize Y / 4 &&& 858993459 = v at q2
  omega
theorem pop_3 (Y : Nat) (hY : Y ≤ 1717986918) : and9 ((Y : Int) + ush9 (Y : Int) 4) 252645135 = ((F3 252645135 Y : Nat) : Int) := by
  have e : (Y : Int) + ush9 (Y : Int) 4 = ((Y + Y / 16 : Nat) : Int) := by
    rw [ush_1 (by omega) (by omega), Int.toNat_natCast, Nat.shiftRight_eq_div_pow]
    rw [show Y / 2 ^ (4 : Int).toNat = Y / 16 from rfl]
    omega
  rw [e, and9_n (by omega), Int.toNat_natCast]
  rfl
theorem pop_8 (Y : Nat) (hY : Y < 1073741824) : (Y : Int) + ush9 (Y : Int) 8 = ((Y + Y / 256 : Nat) : Int) := by
  rw [ush_1 (by omega) (by omega), Int.toNat_natCast, Nat.shiftRight_eq_div_pow]
  rw [show Y / 2 ^ (8 : Int).toNat = Y / 256 from rfl]
  omega
theorem pop_16 (Y : Nat) (hY : Y < 1073741824) : (Y : Int) + ush9 (Y : Int) 16 = ((Y + Y / 65536 : Nat) : Int) := by
  rw [ush_1 (by omega) (by omega), Int.toNat_natCast, Nat.shiftRight_eq_div_pow]
  rw [show Y / 2 ^ (16 : Int).toNat = Y / 65536 from rfl]
  omega
theorem pop_63 (Y : Nat) (hY : Y < 1073741824) : and9 (Y : Int) 63 = ((Y % 64 : Nat) : Int) := by
  rw [and9_n (by omega), Int.toNat_natCast]
  exact congrArg Nat.cast (Nat.and_two_pow_sub_one_eq_mod Y 6)
theorem pop_4 (p q r s : Nat) (hp : p ≤ 8) (hq : q ≤ 8) (hr : r ≤ 8) (hs : s ≤ 8) (Y : Nat) (hY : Y = p + 256 * (q + 256 * (r + 256 * s))) : and9 (((Y : Int) + ush9 (Y : Int) 8) + ush9 ((Y : Int) + ush9 (Y : Int) 8) 16) 63 = ((p + q + r + s : Nat) : Int) := by
  have h1 : Y / 256 = q + 256 * (r + 256 * s) := by omega
  have h2 : (Y + Y / 256) / 65536 = (r + s) + 256 * s := by omega
  rw [pop_8 Y (by omega), pop_16 _ (by omega), pop_63 _ (by omega)]
  have h3 : (Y + Y / 256 + (Y + Y / 256) / 65536) % 64 = p + q + r + s := by
    rw [h2, h1]; omega
  rw [h3]
theorem bits_lo (a y i : Nat) (ha : a < 256) (hi : i < 8) : (a + 256 * y).testBit i = a.testBit i := by
  have := Nat.testBit_two_pow_mul_add y (i := 8) ha i
  rw [Nat.add_comm]
  exact this.trans (if_pos hi)
theorem bits_hi (a y i : Nat) (ha : a < 256) : (a + 256 * y).testBit (8 + i) = y.testBit i := by
  have := Nat.testBit_two_pow_mul_add y (i := 8) ha (8 + i)
  rw [Nat.add_comm a]
  refine this.trans ((if_neg (by omega)).trans ?_)
  congr 1; omega
theorem cn_hi (a y : Nat) (ha : a < 256) : ∀ n, cn (a + 256 * y) (8 + n) = cn a 8 + cn y n
  | 0 => by
    simp only [cn, Nat.add_zero, bits_lo a y _ ha (show 0 < 8 by decide), bits_lo a y _ ha (show 1 < 8 by decide), bits_lo a y _ ha (show 2 < 8 by decide), bits_lo a y _ ha (show 3 < 8 by decide), bits_lo a y _ ha (show 4 < 8 by decide), bits_lo a y _ ha (show 5 < 8 by decide), bits_lo a y _ ha (show 6 < 8 by decide), bits_lo a y _ ha (show 7 < 8 by decide)]
  | n + 1 => by
    show cn (a + 256 * y) (8 + n) + ((a + 256 * y).testBit (8 + n)).toNat = cn a 8 + (cn y n + (y.testBit n).toNat)
    rw [cn_hi a y ha n, bits_hi a y n ha, Nat.add_assoc]
theorem pb_cn : ∀ a < 256, pb a = cn a 8 := by decide +kernel
theorem cn_6 : ∀ a < 64, cn a 8 = cn a 6 := by decide +kernel
theorem bc_nat (X : Nat) (hX : X < 1073741824) : bc (X : Int) = ((cnt X : Nat) : Int) := by
  obtain ⟨a, b, c, e, ha, hb, hc, he, hx⟩ : ∃ a b c e : Nat, a < 256 ∧ b < 256 ∧ c < 256 ∧ e < 64 ∧ X = a + 256 * (b + 256 * (c + 256 * e)) :=
    ⟨X % 256, X / 256 % 256, X / 65536 % 256, X / 16777216, by omega, by omega, by omega, by omega, by omega⟩
  obtain ⟨s1, b1⟩ := pop_1 X hX
  obtain ⟨s2, b2⟩ := pop_2 _ b1
  have s3 := pop_3 _ b2
  have k := pop_4 (pb a) (pb b) (pb c) (pb e) (pb_le a ha) (pb_le b hb) (pb_le c hc) (pb_le e (by omega)) (F3 252645135 (F2 858993459 (F1 1431655765 X))) (by rw [hx]; exact pc_ok a b c e ha hb hc (by omega))
  show and9 (((and9 (((and9 ((X : Int) - and9 (ush9 (X : Int) 1) 1431655765) 858993459) + (and9 (ush9 ((X : Int) - and9 (ush9 (X : Int) 1) 1431655765) 2) 858993459)) + ush9 ((and9 ((X : Int) - and9 (ush9 (X : Int) 1) 1431655765) 858993459) + (and9 (ush9 ((X : Int) - and9 (ush9 (X : Int) 1) 1431655765) 2) 858993459)) 4) 252645135) + ush9 (and9 (((and9 ((X : Int) - and9 (ush9 (X : Int) 1) 1431655765) 858993459) + (and9 (ush9 ((X : Int) - and9 (ush9 (X : Int) 1) 1431655765) 2) 858993459)) + ush9 ((and9 ((X : Int) - and9 (ush9 (X : Int) 1) 1431655765) 858993459) + (and9 (ush9 ((X : Int) - and9 (ush9 (X : Int) 1) 1431655765) 2) 858993459)) 4) 252645135) 8) + ush9 ((and9 (((and9 ((X : Int) - and9 (ush9 (X : Int) 1) 1431655765) 858993459) + (and9 (ush9 ((X : Int) - and9 (ush9 (X : Int) 1) 1431655765) 2) 858993459)) + ush9 ((and9 ((X : Int) - and9 (ush9 (X : Int) 1) 1431655765) 858993459) + (and9 (ush9 ((X : Int) - and9 (ush9 (X : Int) 1) 1431655765) 2) 858993459)) 4) 252645135) + ush9 (and9 (((and9 ((X : Int) - and9 (ush9 (X : Int) 1) 1431655765) 858993459) + (and9 (ush9 ((X : Int) - and9 (ush9 (X : Int) 1) 1431655765) 2) 858993459)) + ush9 ((and9 ((X : Int) - and9 (ush9 (X : Int) 1) 1431655765) 858993459) + (and9 (ush9 ((X : Int) - and9 (ush9 (X : Int) 1) 1431655765) 2) 858993459)) 4) 252645135) 8) 16) 63 = _
  rw [s1, s2, s3, k]
  congr 1
  unfold cnt
  rw [hx, pb_cn a ha, pb_cn b hb, pb_cn c hc, pb_cn e (by omega), cn_6 e he]
  have q := cn_hi a (b + 256 * (c + 256 * e)) ha 22
  have q2 := cn_hi b (c + 256 * e) hb 14
  have q3 := cn_hi c e hc 6
  rw [show 30 = 8 + 22 from rfl, q, show 22 = 8 + 14 from rfl, q2, show 14 = 8 + 6 from rfl, q3]
  omega
theorem bc_rng (x : Int) : 0 ≤ bc x ∧ bc x ≤ 63 := by
  have key : ∀ a : Int, 0 ≤ and9 a 63 ∧ and9 a 63 ≤ 63 := by
    intro a
    unfold and9
    rw [← Int32.toInt_toBitVec, Int32.toBitVec_and, i32n (a := 63) (by omega), BitVec.toInt_eq_toNat_bmod, BitVec.toNat_and]
    have h3 : (Int32.ofInt a).toBitVec.toNat &&& (BitVec.ofNat 32 (63 : Int).toNat).toNat ≤ 63 := by
      refine Nat.le_trans Nat.and_le_right ?_
      decide
    generalize (Int32.ofInt a).toBitVec.toNat &&& (BitVec.ofNat 32 (63 : Int).toNat).toNat = y at h3 ⊢
    rw [Int.bmod_def]
    split <;> omega
  exact key _
theorem cn_low : ∀ (k n : Nat), cn (2 ^ k - 1) n = min k n
  | k, 0 => by simp [cn]
  | k, n + 1 => by
    show cn (2 ^ k - 1) n + ((2 ^ k - 1).testBit n).toNat = _
    rw [cn_low k n, Nat.testBit_two_pow_sub_one]
    by_cases h : n < k
    · simp [h]; omega
    · simp [h]; omega
theorem bc_pow (k : Nat) (hk : k < 30) : bc (((2 ^ k : Nat) : Int) - 1) = (k : Int) := by
  have h1 : 0 < 2 ^ k := Nat.pow_pos (by omega)
  have h2 : 2 ^ k ≤ 2 ^ 29 := Nat.pow_le_pow_right (by omega) (by omega)
  have e : ((2 ^ k : Nat) : Int) - 1 = ((2 ^ k - 1 : Nat) : Int) := by omega
  rw [e, bc_nat _ (by omega)]
  congr 1
  unfold cnt
  rw [cn_low]; omega
theorem cn_or (X u : Nat) (hu : X.testBit u = false) : ∀ n, cn (X ||| 2 ^ u) n = cn X n + (if u < n then 1 else 0)
  | 0 => by simp [cn]
  | n + 1 => by
    show cn (X ||| 2 ^ u) n + ((X ||| 2 ^ u).testBit n).toNat = cn X n + (X.testBit n).toNat + _
    rw [cn_or X u hu n, Nat.testBit_or, Nat.testBit_two_pow]
    by_cases h : u = n
    · subst h; simp [hu]
    · by_cases h2 : u < n
      · have h3 : u < n + 1 := by omega
        simp [h, h2, h3]; omega
      · have h3 : ¬ u < n + 1 := by omega
        simp [h, h2, h3]
theorem bc_or {x u : Int} (hx : 0 ≤ x ∧ x < 1073741824) (hu : 0 ≤ u ∧ u < 30) (h : tb x u = false) : bc (or9 x (shl9 1 u)) = bc x + 1 := by
  have r := shl9_rng hu
  have r2 := or9_rng (a := x) (b := shl9 1 u) (by omega)
  obtain ⟨X, rfl⟩ := Int.eq_ofNat_of_zero_le hx.1
  rw [or9_n (by omega)] at r2 ⊢
  rw [shl9_1 (by omega)] at r2 ⊢
  simp only [Int.toNat_natCast] at r2 ⊢
  rw [bc_nat _ (by omega), bc_nat _ (by omega)]
  unfold cnt
  rw [cn_or X u.toNat (by simpa [tb] using h) 30, if_pos (by omega)]
  omega
theorem bc_0 : bc 0 = 0 := by
  have := bc_nat 0 (by omega)
  simpa [cnt, cn] using this

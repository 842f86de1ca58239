/-! tests of rules: a pile of answers -/
def rea (t : Nat → Int) (U : Int → Bool) (p : Int) : Bool := ex (fun s => decide (sk t s 1 ≠ 0 ∧ sk t s 2 = p) && (decide (0 < sk t s 4) || U s)) (t 1).toNat 0
noncomputable def opn (t : Nat → Int) (p : Int) : Bool := decide (bnd t p false (-1) = 0 ∧ bnd t p true (-1) = 400)
noncomputable def fct (t : Nat → Int) (U : Int → Bool) (s x : Int) : Bool := if 300 ≤ x then decide (sk t s 0 = x - 300) else if 100 ≤ x then decide (sk t s 3 ≤ x - 100) else if sk t s 1 = 0 then false else if x = 5 then !rea t U (sk t s 2) else if x = 6 then opn t (sk t s 2) else decide (pt t (sk t s 2) 0 = x - 1)
def stS (fc : Int → Bool) (x : Int) (st : List Bool) : List Bool := if x = 7 then (match st with | b :: r => (!b) :: r | [] => []) else if x = 8 then (match st with | b :: a :: r => (a && b) :: r | r => r) else if x = 9 then (match st with | b :: a :: r => (a || b) :: r | r => r) else fc x :: st
def stk (fc : Int → Bool) (sg : Int → Int) : Nat → List Bool
  | 0 => []
  | n + 1 => stS fc (sg n) (stk fc sg n)
theorem stk_len {fc : Int → Bool} {sg : Int → Int} {N : Int} (h : PG7 sg N) : ∀ n : Nat, (n : Int) ≤ N → ((stk fc sg n).length : Int) = hg sg n
  | 0, _ => rfl
  | n + 1, hn => by
    have ih := stk_len (fc := fc) h n (by omega)
    obtain ⟨_, a7, a8, a0, a19⟩ := h.1 n (by omega) (by omega)
    rw [Int.toNat_natCast] at a7 a8 a0 a19
    show ((stS fc (sg n) (stk fc sg n)).length : Int) = _
    generalize stk fc sg n = st at ih ⊢
    simp only [hg]
    unfold stS
    by_cases x7 : sg n = 7
    · rw [if_pos x7, if_pos x7]
      cases st with
      | nil => simpa using ih
      | cons b r => simpa using ih
    · rw [if_neg x7, if_neg x7]
      by_cases x8 : sg n = 8
      · rw [if_pos x8, if_pos (Or.inl x8)]
        match st, ih with
        | [], ih => simp at ih; have := a8 (Or.inl x8); omega
        | [b], ih => simp at ih; have := a8 (Or.inl x8); omega
        | b :: a :: r, ih => simp at ih ⊢; omega
      · rw [if_neg x8]
        by_cases x9 : sg n = 9
        · rw [if_pos x9, if_pos (Or.inr x9)]
          match st, ih with
          | [], ih => simp at ih; have := a8 (Or.inr x9); omega
          | [b], ih => simp at ih; have := a8 (Or.inr x9); omega
          | b :: a :: r, ih => simp at ih ⊢; omega
        · rw [if_neg x9, if_neg (by omega)]
          simp; omega
def hol (fc : Int → Bool) (sg : Int → Int) (N : Int) : Bool := decide (N = 0) || (stk fc sg N.toNat).headD false
/-! the class's pile -/
def enc : List Bool → Int
  | [] => 1
  | b :: r => 2 * enc r + bi b
theorem enc_rng : ∀ st : List Bool, 1 ≤ enc st ∧ enc st < 2 ^ (st.length + 1)
  | [] => by decide
  | b :: r => by
    have ih := enc_rng r
    have hb := bi_rng b
    simp only [enc, List.length_cons]
    have e : (2 : Int) ^ (r.length + 1 + 1) = 2 ^ (r.length + 1) * 2 := Int.pow_succ _ _
    omega
theorem enc_bd {st : List Bool} (h : st.length ≤ 20) : 1 ≤ enc st ∧ enc st < 2097152 := by
  have r := enc_rng st
  have e : (2 : Int) ^ (st.length + 1) ≤ 2 ^ 21 := by
    have : 2 ^ (st.length + 1) ≤ 2 ^ 21 := Nat.pow_le_pow_right (by omega) (by omega)
    exact_mod_cast this
  have : (2 : Int) ^ 21 = 2097152 := by decide
  omega
theorem n_split (X : Nat) : X = 2 * (X / 2) + X % 2 := by omega
theorem and1 {v : Int} (h : 0 ≤ v ∧ v < 1073741824) : and9 v 1 = v % 2 := by
  obtain ⟨X, rfl⟩ := Int.eq_ofNat_of_zero_le h.1
  rw [and9_n (by omega), Int.toNat_natCast]
  have : X &&& (1 : Int).toNat = X % 2 := Nat.and_one_is_mod X
  rw [this]; omega
theorem shr1 {v : Int} (h : 0 ≤ v ∧ v < 1073741824) : shr9 v 1 = v / 2 := by
  unfold shr9; rw [w32_id (by omega)]; rfl
theorem bits_eq {X q b : Nat} (h1 : X / 2 = q) (h2 : X % 2 = b) : X = 2 * q + b := by omega
theorem or_b {X : Nat} {b : Bool} (hX : X % 2 = 0) : X ||| b.toNat = X + b.toNat := by
  have e := n_split (X ||| b.toNat)
  rw [Nat.or_div_two] at e
  have h2 : (X ||| b.toNat) % 2 = b.toNat := by
    have := Nat.or_mod_two_pow (a := X) (b := b.toNat) (n := 1)
    rw [show 2 ^ 1 = 2 from rfl] at this
    rw [this, hX]
    cases b <;> rfl
  have h3 : b.toNat / 2 = 0 := by cases b <;> rfl
  rw [h3, Nat.or_zero, h2] at e
  omega
theorem orb {v : Int} {b : Bool} (h : 0 ≤ v ∧ v < 1073741824) (h2 : v % 2 = 0) : or9 v (bi b) = v + bi b := by
  obtain ⟨X, rfl⟩ := Int.eq_ofNat_of_zero_le h.1
  have hb := bi_rng b
  rw [or9_n (by omega), Int.toNat_natCast]
  have e : (bi b).toNat = b.toNat := by cases b <;> rfl
  rw [e, or_b (by omega)]
  have : ((b.toNat : Nat) : Int) = bi b := by cases b <;> rfl
  omega
theorem or_t {e : Int} {a b : Bool} (h : 0 ≤ e ∧ e < 100000000) : or9 (2 * e + bi a) (bi b) = 2 * e + bi (a || b) := by
  cases a
  · rw [bi_f, Int.add_zero, orb (by omega) (by omega), Bool.false_or]
  · have hb := bi_rng b
    obtain ⟨E, rfl⟩ := Int.eq_ofNat_of_zero_le h.1
    rw [bi_t, or9_n (by omega)]
    have e1 : (2 * (E : Int) + 1).toNat = 2 * E + 1 := by omega
    have e2 : (bi b).toNat = b.toNat := by cases b <;> rfl
    rw [e1, e2, Bool.true_or, bi_t]
    have s := n_split ((2 * E + 1) ||| b.toNat)
    rw [Nat.or_div_two] at s
    have h2 : ((2 * E + 1) ||| b.toNat) % 2 = 1 := by
      have := Nat.or_mod_two_pow (a := 2 * E + 1) (b := b.toNat) (n := 1)
      rw [show 2 ^ 1 = 2 from rfl] at this
      rw [this, show (2 * E + 1) % 2 = 1 by omega]
      cases b <;> rfl
    have h3 : b.toNat / 2 = 0 := by cases b <;> rfl
    rw [h3, Nat.or_zero, h2] at s
    omega
theorem xor1 {e : Int} {b : Bool} (h : 0 ≤ e ∧ e < 100000000) : xor9 (2 * e + bi b) 1 = 2 * e + bi (!b) := by
  have hb := bi_rng b
  obtain ⟨E, rfl⟩ := Int.eq_ofNat_of_zero_le h.1
  unfold xor9
  rw [← Int32.toInt_toBitVec, Int32.toBitVec_xor, i32n (by omega), i32n (by omega), BitVec.toInt_eq_toNat_bmod, BitVec.toNat_xor]
  simp only [BitVec.toNat_ofNat]
  have e1 : (2 * (E : Int) + bi b).toNat = 2 * E + b.toNat := by cases b <;> simp [bi] <;> omega
  have lt : b.toNat ≤ 1 := Bool.toNat_le b
  rw [e1, Nat.mod_eq_of_lt (by omega), show ((1 : Int).toNat) % 2 ^ 32 = 1 from rfl]
  have s := n_split ((2 * E + b.toNat) ^^^ 1)
  rw [Nat.xor_div_two] at s
  have h2 : ((2 * E + b.toNat) ^^^ 1) % 2 = (!b).toNat := by
    have := Nat.xor_mod_two_pow (a := 2 * E + b.toNat) (b := 1) (n := 1)
    rw [show 2 ^ 1 = 2 from rfl] at this
    rw [this, show (2 * E + b.toNat) % 2 = b.toNat by omega]
    cases b <;> rfl
  rw [h2, show (1 : Nat) / 2 = 0 from rfl, Nat.xor_zero, show (2 * E + b.toNat) / 2 = E by omega] at s
  rw [s]
  have lt2 : (!b).toNat ≤ 1 := Bool.toNat_le _
  have e3 : (((!b).toNat : Nat) : Int) = bi (!b) := by cases b <;> rfl
  rw [Int.bmod_def]
  split <;> omega
theorem andm2 {e : Int} {b : Bool} (h : 0 ≤ e ∧ e < 100000000) : and9 (2 * e + bi b) (-2) = 2 * e := by
  have hb := bi_rng b
  obtain ⟨E, rfl⟩ := Int.eq_ofNat_of_zero_le h.1
  rw [and9_g (by omega)]
  have e1 : (2 * (E : Int) + bi b).toNat = 2 * E + b.toNat := by cases b <;> simp [bi] <;> omega
  have lt : b.toNat ≤ 1 := Bool.toNat_le b
  rw [e1, show ((-2 : Int) % 4294967296).toNat = 4294967294 from rfl]
  have s := n_split ((2 * E + b.toNat) &&& 4294967294)
  rw [Nat.and_div_two] at s
  have h2 : ((2 * E + b.toNat) &&& 4294967294) % 2 = 0 := by
    have := Nat.and_mod_two_pow (a := 2 * E + b.toNat) (b := 4294967294) (n := 1)
    rw [show 2 ^ 1 = 2 from rfl] at this
    rw [this, show 4294967294 % 2 = 0 from rfl, Nat.and_zero]
  have h3 : (2 * E + b.toNat) / 2 &&& 4294967294 / 2 = E := by
    rw [show (2 * E + b.toNat) / 2 = E by omega, show 4294967294 / 2 = 2 ^ 31 - 1 from rfl, Nat.and_two_pow_sub_one_eq_mod, Nat.mod_eq_of_lt (by omega)]
  rw [h2, h3] at s
  omega
/-! the model's pile -/
def PI (d : D9) : List Bool → Prop
  | [] => True
  | b :: r => d 189 r.length = bi b ∧ PI d r
theorem PI_up {d : D9} {j : Nat} {v : Int} : ∀ {st : List Bool}, st.length ≤ j → PI d st → PI (up d 189 j v) st
  | [], _, _ => trivial
  | b :: r, h, ⟨h1, h2⟩ => by
    have h' : r.length + 1 ≤ j := h
    exact ⟨by rw [up_j (by omega)]; exact h1, PI_up (by omega) h2⟩

/-! the tokens of a text: scanning -/
theorem up_up (d : D9) (k j : Nat) (v w : Int) : up (up d k j v) k j w = up d k j w := by
  funext k' j'
  simp only [up_get]
  by_cases h : k' = k ∧ j' = j
  · rw [if_pos h, if_pos h]
  · rw [if_neg h, if_neg h, if_neg h]
theorem up_self (d : D9) (k j : Nat) : up d k j (d k j) = d := by
  funext k' j'
  rw [up_get]
  by_cases h : k' = k ∧ j' = j
  · rw [if_pos h, h.1, h.2]
  · rw [if_neg h]
theorem up_4 {d : D9} {k i j : Nat} {v a w b : Int} (h : i ≠ j) : up (up (up (up d k j v) k i a) k j w) k i b = up (up d k j w) k i b := by
  funext k' j'
  simp only [up_get]
  by_cases a1 : k' = k ∧ j' = i
  · rw [if_pos a1, if_pos a1]
  · rw [if_neg a1, if_neg a1]
    by_cases a2 : k' = k ∧ j' = j
    · rw [if_pos a2, if_neg a1, if_pos a2]
    · rw [if_neg a2, if_neg a2, if_neg a1, if_neg a2]
def TPE (c : D9) (k : Nat) (T : Nat → Int) : Prop := ∀ j : Nat, j < 400 → c k j = T j ∧ 0 ≤ T j ∧ T j ≤ 255
def blk (x : Int) : Bool := decide (x = 10 ∨ x = 32)
def ltr (x : Int) : Bool := decide (97 ≤ x ∧ x ≤ 122)
def dgt (x : Int) : Bool := decide (48 ≤ x ∧ x ≤ 57)
/-- from a on the signs are P up to b -/
def SC (P : Int → Bool) (T : Nat → Int) (n a b : Int) : Prop := (a ≤ b ∧ b ≤ n) ∧ (∀ i : Int, a ≤ i → i < b → P (T i.toNat) = true) ∧ (b < n → P (T b.toNat) = false)
theorem SC_ex (P : Int → Bool) (T : Nat → Int) (n : Int) : ∀ (m : Nat) (a : Int), a + m = n → ∃ b, SC P T n a b
  | 0, a, h => ⟨a, by omega, fun i x y => by omega, fun x => by omega⟩
  | m + 1, a, h => by
    cases hp : P (T a.toNat) with
    | false => exact ⟨a, by omega, fun i x y => by omega, fun _ => hp⟩
    | true =>
      obtain ⟨b, h1, h2, h3⟩ := SC_ex P T n m (a + 1) (by omega)
      refine ⟨b, by omega, fun i x y => ?_, h3⟩
      by_cases e : i = a
      · subst e; exact hp
      · exact h2 i (by omega) y
theorem fix_w {α : Type} {z : α} {B : α → α} (ap : α → Int → Option R9) (lo N : Int) (R : Option R9) (hN : lo ≤ N ∧ N < lo + 900000) (hE : ∀ k, ap (B k) N = R) (hS : ∀ k i, lo ≤ i → i < N → ap (B k) i = ap k (i + 1)) : ap (fix9 z B FU) lo = R :=
  (fix_xu (z := z) ap lo N (fun _ => false) R R hN hE (fun k i a b => (hS k i a b).trans (if_neg (by decide)).symm)).trans (ite_self _)
theorem q_ltr {x : Int} {d : D9} (h : 0 ≤ x ∧ x ≤ 255) : m_X8_isLetter x d = rt (bi (ltr x)) d := by
  unfold m_X8_isLetter ltr
  rw [w32_id (by omega), show w32 97 = 97 from rfl, show w32 122 = 122 from rfl]
  by_cases a : x < 97
  · rw [if_pos a, dec_f (by omega)]; rfl
  · rw [if_neg a]
    by_cases b : 122 < x
    · rw [if_pos b, dec_f (by omega)]; rfl
    · rw [if_neg b, dec_t (by omega)]; rfl
theorem q_dgt {x : Int} {d : D9} (h : 0 ≤ x ∧ x ≤ 255) : m_X8_isDigit x d = rt (bi (dgt x)) d := by
  unfold m_X8_isDigit dgt
  rw [w32_id (by omega), show w32 48 = 48 from rfl, show w32 57 = 57 from rfl]
  by_cases a : x < 48
  · rw [if_pos a, dec_f (by omega)]; rfl
  · rw [if_neg a]
    by_cases b : 57 < x
    · rw [if_pos b, dec_f (by omega)]; rfl
    · rw [if_neg b, dec_t (by omega)]; rfl
theorem p_ltr {x : Int} {d : D9} (h : 0 ≤ x ∧ x ≤ 255) : m_X12_isLetter x d = rt (bi (ltr x)) d := q_ltr h
theorem p_dgt {x : Int} {d : D9} (h : 0 ≤ x ∧ x ≤ 255) : m_X12_isDigit x d = rt (bi (dgt x)) d := q_dgt h
theorem wi {x : Int} (h : -1000 ≤ x ∧ x ≤ 100000) : w32 x = x := w32_id (by omega)
theorem q_blank {d : D9} {T : Nat → Int} {a s n : Int} (hT : TPE d 52 T) (e : d 51 4 = n) (hn : n ≤ 400) (ha : 0 ≤ a) (h : SC blk T n a s) : m_X8_advance_51_c8 (up d 51 6 a) = m_X8_advance_51_c60 (up d 51 6 s) := by
  obtain ⟨h1, h2, h3⟩ := h
  unfold m_X8_advance_51_c8
  refine fix_w (fun (k : D9 → Option R9) i => k (up d 51 6 i)) a s _ (by omega) (fun k => ?_) (fun k i x y => ?_)
  · simp only [b_X8_advance_51_c8]
    simp (disch := omega) only [up_us, up_o, us_ne, us_eq, e]
    rw [wi (x := n) (by omega), wi (x := s) (by omega)]
    by_cases c : n ≤ s
    · rw [if_pos c]
    · have hp := of_decide_eq_false (h3 (by omega))
      have t := hT s.toNat (by omega)
      rw [if_neg c, ld_in (by omega), up_o (by decide), t.1, wi (x := T s.toNat) (by omega), wi (x := 10) (by omega), if_neg (by omega), ld_in (by omega), up_o (by decide), t.1, wi (x := T s.toNat) (by omega), wi (x := 32) (by omega), if_pos (by omega)]
  · simp only [b_X8_advance_51_c8]
    simp (disch := omega) only [up_us, up_o, us_ne, us_eq, e, pf_v, up_up]
    have hp := of_decide_eq_true (h2 i x y)
    have t := hT i.toNat (by omega)
    rw [wi (x := n) (by omega), wi (x := i) (by omega), if_neg (by omega), ld_in (by omega), up_o (by decide), t.1, wi (x := T i.toNat) (by omega), wi (x := 10) (by omega)]
    by_cases c : T i.toNat = 10
    · rw [if_pos c]
    · rw [if_neg c, ld_in (by omega), up_o (by decide), t.1, wi (x := T i.toNat) (by omega), wi (x := 32) (by omega), if_neg (by omega)]
theorem p_blank {d : D9} {T : Nat → Int} {a s n : Int} (hT : TPE d 178 T) (e : d 174 8 = n) (hn : n ≤ 400) (ha : 0 ≤ a) (h : SC blk T n a s) : m_X12_next_174_c0 (up d 174 9 a) = m_X12_next_174_c52 (up d 174 9 s) := by
  obtain ⟨h1, h2, h3⟩ := h
  unfold m_X12_next_174_c0
  refine fix_w (fun (k : D9 → Option R9) i => k (up d 174 9 i)) a s _ (by omega) (fun k => ?_) (fun k i x y => ?_)
  · simp only [b_X12_next_174_c0]
    simp (disch := omega) only [up_us, up_o, us_ne, us_eq, e]
    rw [wi (x := n) (by omega), wi (x := s) (by omega)]
    by_cases c : n ≤ s
    · rw [if_pos c]
    · have hp := of_decide_eq_false (h3 (by omega))
      have t := hT s.toNat (by omega)
      rw [if_neg c, ld_in (by omega), up_o (by decide), t.1, wi (x := T s.toNat) (by omega), wi (x := 32) (by omega), if_neg (by omega), ld_in (by omega), up_o (by decide), t.1, wi (x := T s.toNat) (by omega), wi (x := 10) (by omega), if_pos (by omega)]
  · simp only [b_X12_next_174_c0]
    simp (disch := omega) only [up_us, up_o, us_ne, us_eq, e, pf_v, up_up]
    have hp := of_decide_eq_true (h2 i x y)
    have t := hT i.toNat (by omega)
    rw [wi (x := n) (by omega), wi (x := i) (by omega), if_neg (by omega), ld_in (by omega), up_o (by decide), t.1, wi (x := T i.toNat) (by omega), wi (x := 32) (by omega)]
    by_cases c : T i.toNat = 32
    · rw [if_pos c]
    · rw [if_neg c, ld_in (by omega), up_o (by decide), t.1, wi (x := T i.toNat) (by omega), wi (x := 10) (by omega), if_neg (by omega)]
theorem w32_bt : w32 (bi true) = 1 := rfl
theorem w32_bf : w32 (bi false) = 0 := rfl
theorem q_letters {d : D9} {T : Nat → Int} {a b n : Int} (hT : TPE d 52 T) (e : d 51 4 = n) (hn : n ≤ 400) (ha : 0 ≤ a) (h : SC ltr T n a b) : m_X8_advance_51_c102 (up d 51 5 a) = m_X8_advance_51_c141 (up d 51 5 b) := by
  obtain ⟨h1, h2, h3⟩ := h
  unfold m_X8_advance_51_c102
  refine fix_w (fun (k : D9 → Option R9) i => k (up d 51 5 i)) a b _ (by omega) (fun k => ?_) (fun k i x y => ?_)
  · simp only [b_X8_advance_51_c102]
    simp (disch := omega) only [up_us, up_o, us_ne, us_eq, e]
    rw [wi (x := n) (by omega), wi (x := b) (by omega)]
    by_cases c : n ≤ b
    · rw [if_pos c]
    · have t := hT b.toNat (by omega)
      rw [if_neg c, ld_in (by omega), up_o (by decide), t.1, q_ltr t.2, cl_rt, h3 (by omega), w32_bf, if_pos rfl]
  · simp only [b_X8_advance_51_c102]
    simp (disch := omega) only [up_us, up_o, us_ne, us_eq, e]
    have t := hT i.toNat (by omega)
    rw [wi (x := n) (by omega), wi (x := i) (by omega), if_neg (by omega), ld_in (by omega), up_o (by decide), t.1, q_ltr t.2, cl_rt, h2 i x y, w32_bt, if_neg ne10, pf_v, up_up, up_us, us_eq rfl]
theorem p_see {d : D9} {T : Nat → Int} {i n : Int} (hT : TPE d 178 T) (e : d 174 8 = n) (hn : 0 ≤ n ∧ n ≤ 400) (hi : 0 ≤ i ∧ i ≤ 400) : m_X12_see_174 i d = rt (if i < n then T i.toNat else 0) d := by
  unfold m_X12_see_174
  rw [e, wi (x := n) (by omega), wi (x := i) (by omega)]
  by_cases c : i < n
  · rw [if_neg (by omega), ld_in (by omega), if_pos c, (hT i.toNat (by omega)).1]
  · rw [if_pos (by omega), if_neg c]
theorem p_letters {d : D9} {T : Nat → Int} {a b n : Int} (hT : TPE d 178 T) (e : d 174 8 = n) (hn : n ≤ 400) (ha : 0 ≤ a) (h : SC ltr T n a b) : m_X12_next_174_c94 (up d 174 9 a) = rt 0 (up (up d 174 9 b) 174 11 1) := by
  obtain ⟨h1, h2, h3⟩ := h
  have hT' : ∀ i : Int, TPE (up d 174 9 i) 178 T := fun i => by unfold TPE; rw [up_o (by decide)]; exact hT
  have e' : ∀ i : Int, up d 174 9 i 174 8 = n := fun i => by rw [up_us, us_ne (by decide)]; exact e
  unfold m_X12_next_174_c94
  refine fix_w (fun (k : D9 → Option R9) i => k (up d 174 9 i)) a b _ (by omega) (fun k => ?_) (fun k i x y => ?_)
  · simp only [b_X12_next_174_c94]
    rw [show up d 174 9 b 174 9 = b from up_same _ _ _ _, p_see (hT' b) (e' b) (by omega) (by omega), cl_rt]
    by_cases c : b < n
    · rw [if_pos c, p_ltr (hT b.toNat (by omega)).2, cl_rt, h3 c, w32_bf, if_pos rfl, pf_v]
    · rw [if_neg c, p_ltr (by omega), cl_rt, show ltr 0 = false from rfl, w32_bf, if_pos rfl, pf_v]
  · simp only [b_X12_next_174_c94]
    rw [show up d 174 9 i 174 9 = i from up_same _ _ _ _, p_see (hT' i) (e' i) (by omega) (by omega), cl_rt, if_pos (by omega), p_ltr (hT i.toNat (by omega)).2, cl_rt, h2 i x y, w32_bt, if_neg ne10, pf_v, up_up, up_same]
/-! numbers -/
def dgv (T : Nat → Int) (s i v : Int) : Int := if i - s < 3 then 10 * v + T i.toNat - 48 else v
def dgI (s i v : Int) : Prop := (i - s = 0 → v = 0) ∧ (i - s = 1 → 0 ≤ v ∧ v ≤ 9) ∧ (i - s = 2 → 0 ≤ v ∧ v ≤ 99) ∧ 0 ≤ v ∧ v ≤ 999
theorem dgI_st {T : Nat → Int} {s i v : Int} (h : dgI s i v) (hi : s ≤ i) (hd : 48 ≤ T i.toNat ∧ T i.toNat ≤ 57) : dgI s (i + 1) (dgv T s i v) := by
  unfold dgI dgv at *
  by_cases c : i - s < 3
  · rw [if_pos c]; omega
  · rw [if_neg c]; omega
theorem q_digits {d : D9} {T : Nat → Int} {a b n : Int} (hT : TPE d 52 T) (e : d 51 4 = n) (hn : n ≤ 400) (ha : 0 ≤ a) (h : SC dgt T n a b) : m_X8_advance_51_c172 (up d 51 5 a) = m_X8_advance_51_c211 (up d 51 5 b) := by
  obtain ⟨h1, h2, h3⟩ := h
  unfold m_X8_advance_51_c172
  refine fix_w (fun (k : D9 → Option R9) i => k (up d 51 5 i)) a b _ (by omega) (fun k => ?_) (fun k i x y => ?_)
  · simp only [b_X8_advance_51_c172]
    simp (disch := omega) only [up_us, up_o, us_ne, us_eq, e]
    rw [wi (x := n) (by omega), wi (x := b) (by omega)]
    by_cases c : n ≤ b
    · rw [if_pos c]
    · have t := hT b.toNat (by omega)
      rw [if_neg c, ld_in (by omega), up_o (by decide), t.1, q_dgt t.2, cl_rt, h3 (by omega), w32_bf, if_pos rfl]
  · simp only [b_X8_advance_51_c172]
    simp (disch := omega) only [up_us, up_o, us_ne, us_eq, e]
    have t := hT i.toNat (by omega)
    rw [wi (x := n) (by omega), wi (x := i) (by omega), if_neg (by omega), ld_in (by omega), up_o (by decide), t.1, q_dgt t.2, cl_rt, h2 i x y, w32_bt, if_neg ne10, pf_v, up_up, up_us, us_eq rfl]
theorem fo_dg2 {σ : Type} {g : Int → σ → σ} : ∀ (m k : Nat) (i : Int) (v : σ), fo g (m + k) i v = fo g k (i + m) (fo g m i v)
  | 0, k, i, v => by
    rw [show i + ((0 : Nat) : Int) = i by omega, Nat.zero_add]; rfl
  | m + 1, k, i, v => by
    rw [show m + 1 + k = (m + k) + 1 by omega]
    show fo g (m + k) (i + 1) (g i v) = fo g k (i + ((m + 1 : Nat) : Int)) (fo g m (i + 1) (g i v))
    rw [fo_dg2 m k (i + 1) (g i v), show i + ((m + 1 : Nat) : Int) = i + 1 + m by omega]
theorem fo_dgv {T : Nat → Int} {s : Int} : ∀ (m : Nat) (i v : Int), 3 ≤ i - s → fo (dgv T s) m i v = v
  | 0, _, _, _ => rfl
  | m + 1, i, v, h => by
    show fo (dgv T s) m (i + 1) (dgv T s i v) = v
    rw [show dgv T s i v = v from if_neg (by omega)]
    exact fo_dgv m (i + 1) v (by omega)
theorem q_decimal {d : D9} {T : Nat → Int} {s b n : Int} (hT : TPE d 52 T) (e5 : d 51 5 = b) (e6 : d 51 6 = s) (hb : b ≤ 400) (ha : 0 ≤ s) (h : SC dgt T n s b) : (0 ≤ fo (dgv T s) (b - s).toNat s 0 ∧ fo (dgv T s) (b - s).toNat s 0 ≤ 999) ∧ m_X8_decimal_51 d = rt (fo (dgv T s) (b - s).toNat s 0) d := by
  obtain ⟨h1, h2, h3⟩ := h
  have main : ∀ M : Int, s ≤ M → M ≤ b → M ≤ s + 3 → (M = b ∨ M = s + 3) → dgI s M (fo (dgv T s) (M - s).toNat s 0) ∧ m_X8_decimal_51 d = rt (fo (dgv T s) (M - s).toNat s 0) d := by
    intro M m1 m2 m3 m4
    unfold m_X8_decimal_51 m_X8_decimal_51_c7
    rw [lt_v, e6]
    have z := fix_fu (z := fun _ _ _ => none) (B := fun k => b_X8_decimal_51_c7 k) (fun k i (v : Int) => k v i d) s M (dgv T s) (fun i v => s ≤ i ∧ dgI s i v) (fun v => rt v d) 0 (by omega) ⟨by omega, by unfold dgI; omega⟩ ?_ ?_
    · exact ⟨z.1.2, z.2⟩
    · intro k v hI
      simp only [b_X8_decimal_51_c7]
      rw [e5, e6, wi (x := b) (by omega), wi (x := M) (by omega)]
      by_cases c : b ≤ M
      · rw [if_pos c]
      · rw [if_neg c, wi (x := s + 3) (by omega), if_pos (by omega)]
    · intro k i v hi hI
      have t := hT i.toNat (by omega)
      have hd := of_decide_eq_true (h2 i hI.1 (by omega))
      refine ⟨⟨by omega, dgI_st hI.2 hI.1 hd⟩, ?_⟩
      simp only [b_X8_decimal_51_c7]
      rw [e5, e6, wi (x := b) (by omega), wi (x := i) (by omega), if_neg (by omega), wi (x := s + 3) (by omega), if_neg (by omega), ld_in (by omega), t.1, lt_v, show dgv T s i v = 10 * v + T i.toNat - 48 from if_pos (by omega)]
  by_cases c : b ≤ s + 3
  · obtain ⟨z1, z2⟩ := main b h1.1 (by omega) (by omega) (Or.inl rfl)
    exact ⟨z1.2.2.2, z2⟩
  · obtain ⟨z1, z2⟩ := main (s + 3) (by omega) (by omega) (by omega) (Or.inr rfl)
    have q : fo (dgv T s) (b - s).toNat s 0 = fo (dgv T s) (s + 3 - s).toNat s 0 := by
      rw [show (b - s).toNat = (s + 3 - s).toNat + (b - s - 3).toNat by omega, fo_dg2]
      exact fo_dgv _ _ _ (by omega)
    rw [q]
    exact ⟨z1.2.2.2, z2⟩
theorem p_digits {d : D9} {T : Nat → Int} {s b n : Int} (hT : TPE d 178 T) (e : d 174 8 = n) (e6 : d 174 10 = s) (hn : n ≤ 400) (ha : 0 ≤ s) (h : SC dgt T n s b) : m_X12_next_174_c141 (up (up d 174 12 0) 174 9 s) = rt 0 (up (up (up d 174 12 (fo (dgv T s) (b - s).toNat s 0)) 174 9 b) 174 11 (if b - s ≤ 3 then 2 else 4)) := by
  obtain ⟨h1, h2, h3⟩ := h
  have hT' : ∀ v i : Int, TPE (up (up d 174 12 v) 174 9 i) 178 T := fun v i => by unfold TPE; rw [up_o (by decide), up_o (by decide)]; exact hT
  have e' : ∀ v i : Int, up (up d 174 12 v) 174 9 i 174 8 = n := fun v i => by simp (disch := omega) only [up_us, us_ne, e]
  unfold m_X12_next_174_c141
  have z := fix_fu (z := fun _ => none) (B := fun k => b_X12_next_174_c141 k) (fun k i (v : Int) => k (up (up d 174 12 v) 174 9 i)) s b (dgv T s) (fun i v => s ≤ i) (fun v => rt 0 (up (up (up d 174 12 v) 174 9 b) 174 11 (if b - s ≤ 3 then 2 else 4))) 0 (by omega) (by omega) ?_ ?_
  · exact z.2
  · intro k v hI
    simp only [b_X12_next_174_c141]
    have f : (if b < n then T b.toNat else 0) ≤ 255 ∧ 0 ≤ (if b < n then T b.toNat else 0) ∧ dgt (if b < n then T b.toNat else 0) = false := by
      by_cases c : b < n
      · rw [if_pos c]; exact ⟨(hT b.toNat (by omega)).2.2, (hT b.toNat (by omega)).2.1, h3 c⟩
      · rw [if_neg c]; exact ⟨by omega, by omega, rfl⟩
    rw [show up (up d 174 12 v) 174 9 b 174 9 = b from up_same _ _ _ _, p_see (hT' v b) (e' v b) (by omega) (by omega), cl_rt, p_dgt ⟨f.2.1, f.1⟩, cl_rt, f.2.2, w32_bf, if_pos rfl]
    simp (disch := omega) only [up_us, us_ne, us_eq, e6]
    rw [wi (x := 3) (by omega), wi (x := b - s) (by omega)]
    by_cases c : b - s ≤ 3
    · rw [if_pos c, if_pos c, pf_v]
    · rw [if_neg c, if_neg c, pf_v]
  · intro k i v hi hI
    have t := hT i.toNat (by omega)
    refine ⟨by omega, ?_⟩
    simp only [b_X12_next_174_c141]
    rw [show up (up d 174 12 v) 174 9 i 174 9 = i from up_same _ _ _ _, p_see (hT' v i) (e' v i) (by omega) (by omega), cl_rt, if_pos (by omega), p_dgt t.2, cl_rt, h2 i hI hi, w32_bt, if_neg ne10]
    simp (disch := omega) only [up_us, us_ne, us_eq, e, e6]
    rw [wi (x := 3) (by omega), wi (x := i - s) (by omega)]
    unfold dgv
    by_cases c : i - s < 3
    · rw [if_neg (by omega), if_pos c, ld_in (by omega), up_o (by decide), up_o (by decide), t.1, pf_v, pf_v]
      simp (disch := omega) only [up_us, us_ne, us_eq]
      rw [up_4 (by decide)]
    · rw [if_pos (by omega), if_neg c, pf_v, pf_v]
      simp (disch := omega) only [up_us, us_ne, us_eq]
      rw [up_4 (by decide)]

/-! plan: sets of choices -/
def dtS (t : Nat → Int) (s v : Int) : Int := if sk t s 1 ≠ 0 ∧ 0 < sk t s 4 then or9 v (shl9 1 (sk t s 2)) else v
def dtd (t : Nat → Int) : Int := fo (dtS t) (t 1).toNat 0 0
theorem dtS_rng {t : Nat → Int} (k : TK t) {s v : Int} (hs : 0 ≤ s ∧ s < t 1) (hv : 0 ≤ v ∧ v < 1073741824) : 0 ≤ dtS t s v ∧ dtS t s v < 1073741824 := by
  have n0 := (TKn k).1
  unfold dtS
  by_cases x : sk t s 1 ≠ 0 ∧ 0 < sk t s 4
  · have hp := (TKs k s hs.1 hs.2).2.2.1 x.1
    have rk := shl9_rng (i := sk t s 2) (by omega)
    rw [if_pos x]; exact or9_rng (by omega)
  · rw [if_neg x]; exact hv
theorem dtd_rng {t : Nat → Int} (k : TK t) : 0 ≤ dtd t ∧ dtd t < 1073741824 := by
  have n1 := (TKn k).2.1
  exact fo_inv (g := dtS t) (fun _ v => 0 ≤ v ∧ v < 1073741824) (t 1).toNat 0 0 (by omega) (fun j v h1 h2 h => dtS_rng k (by omega) h)
theorem q_dated {d : D9} {t : Nat → Int} (k : TK t) (r : RW d t) : m_X6_datedPaints_9 d = rt (dtd t) d := by
  obtain ⟨n0, n1, n2, n3⟩ := TKn k
  have z := (fix_fu (z := fun _ _ _ => none) (B := fun k => b_X6_datedPaints_9_c4 k) (fun k s v => k v s d) 0 (t 1) (dtS t) (fun s v => 0 ≤ s) (fun v => rt v d) 0 (by omega) (by omega) ?_ ?_).2
  · rw [Int.sub_zero] at z; exact z
  · intro k' v hI
    simp only [b_X6_datedPaints_9_c4]
    rw [(RWs r).1, if_pos (Int.le_refl _)]
  · intro k' s v hlt h0
    have hk := TKs k s h0 hlt
    have h4 := hk.2.2.2.2.1
    obtain ⟨rA, _, _⟩ := (RWs r).2 s h0 hlt
    refine ⟨by omega, ?_⟩
    simp only [b_X6_datedPaints_9_c4]
    rw [(RWs r).1, w32_id (by omega), w32_id (by omega), if_neg (by omega), q_touches k r ⟨h0, hlt⟩, cl_rt, w32_bi, ld_in (by omega), rA.2.2.2.2.1, w32_id (by omega), ld_in (by omega), rA.2.2.1, lt_v]
    unfold dtS
    by_cases x : sk t s 1 = 0
    · rw [dec_f (by omega), bi_f, if_pos rfl, if_neg (show ¬ (sk t s 1 ≠ 0 ∧ 0 < sk t s 4) from fun h => h.1 x)]
    · rw [dec_t x, bi_t, if_neg ne10, if_neg x]
      by_cases y : 0 < sk t s 4
      · rw [if_neg (by omega), if_pos ⟨x, y⟩]
      · rw [if_pos (by omega), if_neg (fun h => y h.2)]
/-- grains and paints of the choices from j on in a set -/
def gsS (t : Nat → Int) (S k v : Int) : Int := v + (if tb S k = true then sk t ((chF t).2 k) 3 else 0)
def gs (t : Nat → Int) (S j : Int) : Int := fo (gsS t S) ((chF t).1 - j).toNat j 0
def psS (t : Nat → Int) (S k v : Int) : Int := if tb S k = true then or9 v (shl9 1 (sk t ((chF t).2 k) 2)) else v
def ps (t : Nat → Int) (S : Int) : Int := fo (psS t S) (chF t).1.toNat 0 (dtd t)
def cov (t : Nat → Int) (S : Int) : Int := bc (ps t S)
theorem gs_step {t : Nat → Int} {S j : Int} (h : j < (chF t).1) : gs t S j = (if tb S j = true then sk t ((chF t).2 j) 3 else 0) + gs t S (j + 1) := by
  unfold gs
  rw [show ((chF t).1 - j).toNat = ((chF t).1 - (j + 1)).toNat + 1 by omega]
  show fo (gsS t S) ((chF t).1 - (j + 1)).toNat (j + 1) (gsS t S j 0) = _
  have e := fo_shift (fun k => if tb S k = true then sk t ((chF t).2 k) 3 else 0) ((chF t).1 - (j + 1)).toNat (j + 1) (gsS t S j 0)
  rw [show gsS t S = fun k c => c + (fun k => if tb S k = true then sk t ((chF t).2 k) 3 else 0) k from rfl]
  rw [show gsS t S = fun k c => c + (fun k => if tb S k = true then sk t ((chF t).2 k) 3 else 0) k from rfl] at e
  rw [e]; simp
theorem gs_end {t : Nat → Int} {S : Int} : gs t S (chF t).1 = 0 := by
  unfold gs; rw [Int.sub_self]; rfl
theorem gs_congr {t : Nat → Int} {S S' j : Int} (h : ∀ k, j ≤ k → tb S k = tb S' k) : gs t S j = gs t S' j := by
  unfold gs
  refine fo_congr' _ _ _ (fun k v a b => ?_)
  unfold gsS; rw [h k a]
theorem gs_rng {t : Nat → Int} (k : TK t) {S j : Int} (hj : 0 ≤ j ∧ j ≤ (chF t).1) : 0 ≤ gs t S j ∧ gs t S j ≤ 1188 := by
  have hc := chF_ok k
  have := fo_inv (g := gsS t S) (fun i v => 0 ≤ v ∧ v ≤ 99 * (i - j)) ((chF t).1 - j).toNat j 0 (by omega) (fun i v h1 h2 h => by
    have q := hc.2 i (by omega) (by omega)
    have g := (TKs k _ q.1.1 q.1.2).2.2.2.1
    unfold gsS
    split <;> omega)
  have := hc.1
  unfold gs; omega
theorem ps_ok {t : Nat → Int} (k : TK t) (S : Int) : (0 ≤ ps t S ∧ ps t S < 1073741824) ∧ ∀ w, 0 ≤ w → w < 30 → tb (ps t S) w = (tb (dtd t) w || ex (fun i => tb S i && decide (sk t ((chF t).2 i) 2 = w)) (chF t).1.toNat 0) := by
  have hc := chF_ok k
  have n0 := (TKn k).1
  have d0 := dtd_rng k
  have key : ∀ n : Nat, (n : Int) ≤ (chF t).1 → (0 ≤ fo (psS t S) n 0 (dtd t) ∧ fo (psS t S) n 0 (dtd t) < 1073741824) ∧ ∀ w, 0 ≤ w → w < 30 → tb (fo (psS t S) n 0 (dtd t)) w = (tb (dtd t) w || ex (fun i => tb S i && decide (sk t ((chF t).2 i) 2 = w)) n 0) := by
    intro n
    induction n with
    | zero => intro _; exact ⟨d0, fun w _ _ => by simp [fo, ex]⟩
    | succ n ih =>
      intro hn
      obtain ⟨i1, i2⟩ := ih (by omega)
      have q := hc.2 n (by omega) (by omega)
      have hp := (TKs k _ q.1.1 q.1.2).2.2.1 q.2.2
      have rk := shl9_rng (i := sk t ((chF t).2 n) 2) (by omega)
      rw [fo_last, Int.zero_add]
      generalize fo (psS t S) n 0 (dtd t) = v at i1 i2 ⊢
      unfold psS
      refine ⟨?_, fun w h0 h1 => ?_⟩
      · split
        · exact or9_rng (by omega)
        · exact i1
      · rw [ex_last, Int.zero_add]
        cases hb : tb S n
        · rw [if_neg (by simp), i2 w h0 h1]; simp
        · rw [if_pos rfl, tb_or (by omega), tb_shl (by omega) h0, i2 w h0 h1, Bool.true_and, Bool.or_assoc]
  have h := key (chF t).1.toNat (by have := hc.1; omega)
  exact h
/-- the class's two rows, for a set -/
def PL (t : Nat → Int) (S : Int) (d : D9) : Prop := ∀ j, 0 ≤ j → j ≤ (chF t).1 → d 61 j.toNat = gs t S j ∧ (0 ≤ d 62 j.toNat ∧ d 62 j.toNat < 1073741824) ∧ ∀ w, 0 ≤ w → w < 30 → tb (d 62 j.toNat) w = (tb (dtd t) w || ex (fun i => tb S i && decide (sk t ((chF t).2 i) 2 = w)) ((chF t).1 - j).toNat j)
theorem PL_0 {t : Nat → Int} (k : TK t) {S : Int} {d : D9} (h : PL t S d) : d 62 0 = ps t S := by
  have hc := chF_ok k
  obtain ⟨a, b, c⟩ := h 0 (by omega) hc.1.1
  obtain ⟨x, y⟩ := ps_ok k S
  refine tb_ext b x (fun w h0 h1 => ?_)
  have := c w h0 h1
  rw [Int.sub_zero] at this
  rw [y w h0 h1]; exact this
/-- the next set's bits -/
theorem succ_bits {S : Int} (h : 0 ≤ S ∧ S + 1 < 1073741824) : ∃ L : Int, (0 ≤ L ∧ L < 30) ∧ and9 (S + 1) (-(S + 1)) = shl9 1 L ∧ tb (S + 1) L = true ∧ (∀ j, 0 ≤ j → j < L → tb (S + 1) j = false) ∧ (∀ j, L < j → tb (S + 1) j = tb S j) ∧ shl9 1 L ≤ S + 1 := by
  obtain ⟨k, m, hk⟩ := dec2 (S + 1).toNat (S + 1).toNat (Nat.le_refl _) (by omega)
  have hp : 0 < 2 ^ k := Nat.pow_pos (by omega)
  have hle : 2 ^ k * 1 ≤ 2 ^ k * (2 * m + 1) := Nat.mul_le_mul_left _ (by omega)
  have hk30 : k < 30 := by
    apply Nat.lt_of_not_le; intro h
    have h1 : 2 ^ 30 ≤ 2 ^ k := Nat.pow_le_pow_right (by omega) h
    omega
  refine ⟨k, by omega, ?_, ?_, ?_, ?_, ?_⟩
  · rw [and9_g (by omega), shl9_1 (by omega)]
    have e : (-(S + 1) % 4294967296).toNat = 2 ^ 32 - (S + 1).toNat := by omega
    rw [e, low_nat hk (by omega)]
    simp
  · unfold tb
    rw [hk, Int.toNat_natCast, Nat.testBit_two_pow_mul]
    simp
  · intro j h0 hj
    unfold tb
    rw [hk, Nat.testBit_two_pow_mul]
    have : ¬ k ≤ j.toNat := by omega
    simp [this]
  · intro j hj
    unfold tb
    have e1 : S.toNat = 2 ^ k * (2 * m) + (2 ^ k - 1) := by
      have e2 : 2 ^ k * (2 * m + 1) = 2 ^ k * (2 * m) + 2 ^ k := by rw [Nat.mul_add, Nat.mul_one]
      omega
    rw [e1, hk, Nat.testBit_two_pow_mul_add _ (by omega), Nat.testBit_two_pow_mul, if_neg (by omega)]
    have h3 : k ≤ j.toNat := by omega
    simp only [ge_iff_le, h3, decide_true, Bool.true_and]
    obtain ⟨i, hi⟩ : ∃ i, j.toNat - k = i + 1 := ⟨j.toNat - k - 1, by omega⟩
    rw [hi]
    have q1 : (2 * m + 1).testBit (i + 1) = m.testBit i := by rw [Nat.testBit_succ]; congr 1; omega
    have q2 : (2 * m).testBit (i + 1) = m.testBit i := by rw [Nat.testBit_succ]; congr 1; omega
    rw [q1, q2]
  · rw [shl9_1 (by omega), Int.toNat_natCast]
    omega
theorem shl_le {L n : Int} (hL : 0 ≤ L ∧ L < 30) (hn : 0 ≤ n ∧ n < 30) (h : shl9 1 L < shl9 1 n) : L < n := by
  rw [shl9_1 (by omega), shl9_1 (by omega)] at h
  have h' : 2 ^ L.toNat < 2 ^ n.toNat := by omega
  have := (Nat.pow_lt_pow_iff_right (a := 2) (by omega)).mp h'
  omega
theorem q_look_l {g p : Int} {d0 : D9} : ∀ (m f : Nat) (j : Int) (d : D9), m < f → j + 1 = m → j ≤ 12 → (∀ k i, ¬ ((k = 61 ∨ k = 62)) → d k i = d0 k i) → (∀ i : Nat, j < i → d 61 i = d0 61 i ∧ d 62 i = d0 62 i ∨ d 61 i = g ∧ d 62 i = p) → ∃ d', fix9 (fun _ _ _ _ => none) (fun k => b_X5_lookAt_58_9_c66 k) f g p j d = rt 0 d' ∧ (∀ k i, ¬ (k = 61 ∨ k = 62) → d' k i = d0 k i) ∧ (∀ i : Nat, (i : Int) ≤ j → d' 61 i = g ∧ d' 62 i = p) ∧ ∀ i : Nat, j < i → d' 61 i = d 61 i ∧ d' 62 i = d 62 i
  | 0, f + 1, j, d, _, he, hj, hF, hz => by
    refine ⟨d, ?_, hF, fun i h => by omega, fun i h => ⟨rfl, rfl⟩⟩
    rw [fx3, b_X5_lookAt_58_9_c66, w32_id (by omega), if_pos (by omega)]
  | m + 1, f + 1, j, d, hf, he, hj, hF, hz => by
    obtain ⟨d', a1, a2, a3, a4⟩ := q_look_l (g := g) (p := p) (d0 := d0) m f (j + -1) (up (up d 61 j.toNat g) 62 j.toNat p) (by omega) (by omega) (by omega) (fun k i hk => by
        rw [up_k (by omega), up_k (by omega)]; exact hF k i hk) (fun i hi => by
        by_cases y : i = j.toNat
        · subst y
          right; exact ⟨by rw [up_k (by decide), up_same], up_same _ _ _ _⟩
        · rw [up_k (by decide), up_j y, up_j y, up_k (by decide)]
          exact hz i (by omega))
    refine ⟨d', ?_, a2, fun i h => ?_, fun i h => ?_⟩
    · rw [fx3, b_X5_lookAt_58_9_c66, w32_id (by omega), if_neg (by omega), sd_in (by omega), sd_in (by omega)]
      exact a1
    · by_cases y : (i : Int) ≤ j + -1
      · exact a3 i y
      · have z := a4 i (by omega)
        have e : i = j.toNat := by omega
        subst e
        rw [z.1, z.2, up_k (by decide), up_same, up_same]
        exact ⟨rfl, rfl⟩
    · have z := a4 i (by omega)
      have y : i ≠ j.toNat := by omega
      rw [z.1, z.2, up_k (by decide), up_j y, up_j y, up_k (by decide)]
      exact ⟨rfl, rfl⟩
  | _, 0, _, _, hf, _, _, _, _ => absurd hf (Nat.not_lt_zero _)
theorem q_look {t : Nat → Int} (k : TK t) {S : Int} {d : D9} (r : RW d t) (hS : 0 ≤ S ∧ S + 1 < shl9 1 (chF t).1) (hc60 : ∀ i, 0 ≤ i → i < (chF t).1 → d 60 i.toNat = (chF t).2 i) (hP : PL t S d) : ∃ d', m_X5_lookAt_58_9 (S + 1) d = rt 0 d' ∧ (∀ k i, ¬ (k = 61 ∨ k = 62) → d' k i = d k i) ∧ PL t (S + 1) d' := by
  have hc := chF_ok k
  have n0 := (TKn k).1
  have n1 := (TKn k).2.1
  have c12 := hc.1
  have rn := shl9_rng (i := (chF t).1) (by omega)
  obtain ⟨L, hL, e1, e2, e3, e4, e5⟩ := succ_bits (S := S) (by omega)
  have hLn : L < (chF t).1 := shl_le hL (by omega) (by omega)
  have ebc : bc (shl9 1 L - 1) = L := by
    rw [shl9_1 (by omega)]
    have := bc_pow L.toNat (by omega)
    omega
  have q := hc.2 L hL.1 hLn
  have hk := TKs k _ q.1.1 q.1.2
  have hp := hk.2.2.1 q.2.2
  have rk := shl9_rng (i := sk t ((chF t).2 L) 2) (by omega)
  obtain ⟨rA, _, _⟩ := (RWs r).2 _ q.1.1 q.1.2
  obtain ⟨P1, P2, P3⟩ := hP (L + 1) (by omega) (by omega)
  obtain ⟨d', a1, a2, a3, a4⟩ := q_look_l (g := gs t S (L + 1) + sk t ((chF t).2 L) 3) (p := or9 (d 62 (L + 1).toNat) (shl9 1 (sk t ((chF t).2 L) 2))) (d0 := d) (L + 1).toNat FU L d (by unfold FU; omega) (by omega) (by omega) (fun _ _ _ => rfl) (fun i h => Or.inl ⟨rfl, rfl⟩)
  refine ⟨d', ?_, a2, fun j h0 hj => ?_⟩
  · unfold m_X5_lookAt_58_9
    rw [e1, q_bc, cl_rt, ebc, w32_id (by omega), w32_id (by omega), if_pos (by omega), ld_in (by omega), hc60 L hL.1 hLn, ld_in (by omega), P1, ld_in (by omega), rA.2.2.2.1, lt_v, ld_in (by omega), ld_in (by omega), rA.2.2.1, if_neg q.2.2, lt_v]
    exact a1
  · have same : ∀ k, L < k → tb (S + 1) k = tb S k := e4
    by_cases y : L < j
    · obtain ⟨z1, z2⟩ := a4 j.toNat (by omega)
      obtain ⟨p1, p2, p3⟩ := hP j h0 hj
      rw [z1, z2]
      refine ⟨p1.trans (gs_congr (fun k hk => (same k (by omega)).symm)), p2, fun w a b => ?_⟩
      rw [p3 w a b]
      congr 1
      exact ex_congr (fun i hi _ => by rw [same i (by omega)])
    · obtain ⟨z1, z2⟩ := a3 j.toNat (by omega)
      rw [z1, z2]
      -- below the lowest bit nothing is in the set
      have down : ∀ n : Nat, ∀ j : Int, 0 ≤ j → j + n = L → gs t (S + 1) j = gs t (S + 1) (L + 1) + sk t ((chF t).2 L) 3 ∧ ∀ w, ex (fun i => tb (S + 1) i && decide (sk t ((chF t).2 i) 2 = w)) ((chF t).1 - j).toNat j = (decide (sk t ((chF t).2 L) 2 = w) || ex (fun i => tb (S + 1) i && decide (sk t ((chF t).2 i) 2 = w)) ((chF t).1 - (L + 1)).toNat (L + 1)) := by
        intro n
        induction n with
        | zero =>
          intro j h0 hj
          have ej : j = L := by omega
          subst ej
          refine ⟨by rw [gs_step hLn, e2, if_pos rfl]; omega, fun w => ?_⟩
          rw [show ((chF t).1 - j).toNat = ((chF t).1 - (j + 1)).toNat + 1 by omega]
          simp only [ex]
          rw [e2, Bool.true_and]
        | succ n ih =>
          intro j h0 hj
          obtain ⟨i1, i2⟩ := ih (j + 1) (by omega) (by omega)
          refine ⟨by rw [gs_step (by omega), e3 j h0 (by omega), if_neg (by simp), i1]; omega, fun w => ?_⟩
          rw [show ((chF t).1 - j).toNat = ((chF t).1 - (j + 1)).toNat + 1 by omega]
          simp only [ex]
          rw [e3 j h0 (by omega), Bool.false_and, Bool.false_or, i2 w]
      obtain ⟨dn1, dn2⟩ := down (L - j).toNat j h0 (by omega)
      refine ⟨by rw [dn1, gs_congr (S := S + 1) (S' := S) (fun k hk => same k (by omega))], or9_rng (by omega), fun w a b => ?_⟩
      rw [tb_or (by omega), tb_shl (by omega) a, P3 w a b, dn2 w]
      rw [ex_congr (P := fun i => tb (S + 1) i && decide (sk t ((chF t).2 i) 2 = w)) (Q := fun i => tb S i && decide (sk t ((chF t).2 i) 2 = w)) (fun i hi _ => by rw [same i (by omega)])]
      cases tb (dtd t) w <;> cases decide (sk t ((chF t).2 L) 2 = w) <;> simp

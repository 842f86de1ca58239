/-! the mathematics: evaluation of mirrors -/
theorem cl_rt (v : Int) (d : D9) (K : Int → D9 → Option R9) : cl (rt v d) K = K v d := rfl
theorem cl_th (e : Nat) (d : D9) (K : Int → D9 → Option R9) : cl (th e d) K = th e d := rfl
theorem lt_v (v : Int) (K : Int → Option R9) : lt9v v K = K v := rfl
theorem pf_v (d : D9) (a j : Nat) (v : Int) (K : D9 → Option R9) : pf d a j v K = K (up d a j v) := rfl
theorem ld_in {d : D9} {k n : Nat} {j : Int} {K : Int → Option R9} (h : 0 ≤ j ∧ j < n ∧ n ≤ 10000) : ld d k n j K = K (d k j.toNat) := by
  unfold ld; rw [w32_id (by omega), if_pos ⟨h.1, h.2.1⟩]
theorem sd_in {d : D9} {k n : Nat} {j v : Int} {K : D9 → Option R9} (h : 0 ≤ j ∧ j < n ∧ n ≤ 10000) : sd d k n j v K = K (up d k j.toNat v) := by
  unfold sd; rw [w32_id (by omega), if_pos ⟨h.1, h.2.1⟩]
theorem dv_in {b : Int} {K : Option R9} (h : b ≠ 0 ∧ -2147483648 ≤ b ∧ b ≤ 2147483647) : dv b K = K := by
  unfold dv; rw [w32_id h.2, if_neg h.1]
theorem dvL_in {b : Int} {K : Option R9} (h : b ≠ 0 ∧ -9223372036854775808 ≤ b ∧ b ≤ 9223372036854775807) : dvL b K = K := by
  unfold dvL; rw [w64_id h.2, if_neg h.1]
theorem up_get (d : D9) (k j : Nat) (v : Int) (k' j' : Nat) : up d k j v k' j' = if k' = k ∧ j' = j then v else d k' j' := rfl
theorem div9_in {a b : Int} (h : (-2147483648 ≤ a ∧ a ≤ 2147483647) ∧ -2147483648 ≤ b ∧ b ≤ 2147483647) : div9 a b = a.tdiv b := by
  unfold div9; rw [w32_id h.1, w32_id h.2]
theorem rem9_in {a b : Int} (h : (-2147483648 ≤ a ∧ a ≤ 2147483647) ∧ -2147483648 ≤ b ∧ b ≤ 2147483647) : rem9 a b = a.tmod b := by
  unfold rem9; rw [w32_id h.1, w32_id h.2]
theorem max9_in {a b : Int} (h : (-2147483648 ≤ a ∧ a ≤ 2147483647) ∧ -2147483648 ≤ b ∧ b ≤ 2147483647) : max9 a b = max a b := by
  unfold max9; rw [w32_id h.1, w32_id h.2]; omega
theorem min9_in {a b : Int} (h : (-2147483648 ≤ a ∧ a ≤ 2147483647) ∧ -2147483648 ≤ b ∧ b ≤ 2147483647) : min9 a b = min a b := by
  unfold min9; rw [w32_id h.1, w32_id h.2]; omega
theorem abs9_in {a : Int} (h : -2147483647 ≤ a ∧ a ≤ 2147483647) : abs9 a = if 0 ≤ a then a else -a := by
  unfold abs9; rw [w32_id (by omega)]; omega
theorem maxL9_in {a b : Int} (h : (-9223372036854775808 ≤ a ∧ a ≤ 9223372036854775807) ∧ -9223372036854775808 ≤ b ∧ b ≤ 9223372036854775807) : maxL9 a b = max a b := by
  unfold maxL9; rw [w64_id h.1, w64_id h.2]; omega
/-! truth values -/
def bi (b : Bool) : Int := if b = true then 1 else 0
theorem bi_t : bi true = 1 := rfl
theorem bi_f : bi false = 0 := rfl
theorem bi_rng (b : Bool) : 0 ≤ bi b ∧ bi b ≤ 1 := by cases b <;> simp [bi]
theorem w32_bi (b : Bool) : w32 (bi b) = bi b := w32_id (by have := bi_rng b; omega)
theorem w64_bi (b : Bool) : w64 (bi b) = bi b := w64_id (by have := bi_rng b; omega)
theorem bi_0 (b : Bool) : (bi b = 0) = (b = false) := by cases b <;> simp [bi]
theorem bi_1 (b : Bool) : (bi b = 1) = (b = true) := by cases b <;> simp [bi]
theorem bi_m (b : Bool) : bi b % 2 = bi b := by cases b <;> rfl
/-! loops -/
theorem fix_ind {α : Type} {z : α} {B : α → α} (P : Nat → α → Prop) (h : ∀ m x, (∀ m', m' < m → P m' x) → P m (B x)) : ∀ f m, m < f → P m (fix9 z B f)
  | 0, _, hf => absurd hf (Nat.not_lt_zero _)
  | f + 1, m, hf => h m _ (fun m' hm => fix_ind P h f m' (by omega))
/-- a fold upwards over n numbers from i on -/
def fo {σ : Type} (g : Int → σ → σ) : Nat → Int → σ → σ
  | 0, _, s => s
  | n + 1, i, s => fo g n (i + 1) (g i s)
theorem fix_fo {α σ : Type} {z : α} {B : α → α} (ap : α → Int → σ → Option R9) (N : Int) (g : Int → σ → σ) (I : Int → σ → Prop) (R : σ → Option R9)
    (hE : ∀ k s, I N s → ap (B k) N s = R s)
    (hS : ∀ k i s, i < N → I i s → I (i + 1) (g i s) ∧ ap (B k) i s = ap k (i + 1) (g i s)) : ∀ (m f : Nat) (i : Int) (s : σ), m < f → i + m = N → I i s → I N (fo g m i s) ∧ ap (fix9 z B f) i s = R (fo g m i s)
  | 0, f + 1, i, s, _, hi, h => by
    have e : i = N := by omega
    subst e
    exact ⟨h, hE _ s h⟩
  | m + 1, f + 1, i, s, hf, hi, h => by
    obtain ⟨h1, h2⟩ := hS (fix9 z B f) i s (by omega) h
    obtain ⟨k1, k2⟩ := fix_fo (z := z) ap N g I R hE hS m f (i + 1) (g i s) (by omega) (by omega) h1
    exact ⟨k1, h2.trans k2⟩
  | _, 0, _, _, hf, _, _ => absurd hf (Nat.not_lt_zero _)
/-- the same, for a loop from lo to N with the usual fuel -/
theorem fix_fu {α σ : Type} {z : α} {B : α → α} (ap : α → Int → σ → Option R9) (lo N : Int) (g : Int → σ → σ) (I : Int → σ → Prop) (R : σ → Option R9) (s : σ) (hN : lo ≤ N ∧ N < lo + 900000) (h0 : I lo s)
    (hE : ∀ k s, I N s → ap (B k) N s = R s)
    (hS : ∀ k i s, i < N → I i s → I (i + 1) (g i s) ∧ ap (B k) i s = ap k (i + 1) (g i s)) : I N (fo g (N - lo).toNat lo s) ∧ ap (fix9 z B FU) lo s = R (fo g (N - lo).toNat lo s) :=
  fix_fo ap N g I R hE hS (N - lo).toNat FU lo s (by unfold FU; omega) (by omega) h0
theorem fo_congr {σ : Type} {g g' : Int → σ → σ} (I : Int → σ → Prop) : ∀ (m : Nat) (i : Int) (s : σ), I i s → (∀ j s, i ≤ j → j < i + m → I j s → g j s = g' j s ∧ I (j + 1) (g j s)) → fo g m i s = fo g' m i s
  | 0, _, _, _, _ => rfl
  | m + 1, i, s, h, e => by
    have e1 := e i s (by omega) (by omega) h
    show fo g m (i + 1) (g i s) = fo g' m (i + 1) (g' i s)
    rw [← e1.1]
    exact fo_congr I m (i + 1) (g i s) e1.2 (fun j s h1 h2 h3 => e j s (by omega) (by omega) h3)
theorem fo_congr' {σ : Type} {g g' : Int → σ → σ} (m : Nat) (i : Int) (s : σ) (e : ∀ j s, i ≤ j → j < i + m → g j s = g' j s) : fo g m i s = fo g' m i s :=
  fo_congr (fun _ _ => True) m i s trivial (fun j s h1 h2 _ => ⟨e j s h1 h2, trivial⟩)
theorem fo_inv {σ : Type} {g : Int → σ → σ} (I : Int → σ → Prop) : ∀ (m : Nat) (i : Int) (s : σ), I i s → (∀ j s, i ≤ j → j < i + m → I j s → I (j + 1) (g j s)) → I (i + m) (fo g m i s)
  | 0, i, s, h, _ => by
    have : i + ((0 : Nat) : Int) = i := by omega
    rw [this]; exact h
  | m + 1, i, s, h, e => by
    have h1 := fo_inv I m (i + 1) (g i s) (e i s (by omega) (by omega) h) (fun j s h1 h2 h3 => e j s (by omega) (by omega) h3)
    have : i + ((m + 1 : Nat) : Int) = i + 1 + m := by omega
    rw [this]; exact h1
theorem fo_last {σ : Type} {g : Int → σ → σ} : ∀ (m : Nat) (i : Int) (s : σ), fo g (m + 1) i s = g (i + m) (fo g m i s)
  | 0, i, s => by
    have : i + ((0 : Nat) : Int) = i := by omega
    rw [this]; rfl
  | m + 1, i, s => by
    have h := fo_last (g := g) m (i + 1) (g i s)
    have : i + ((m + 1 : Nat) : Int) = i + 1 + m := by omega
    rw [this]; exact h
/-- is there one among n numbers from i on -/
def ex (P : Int → Bool) : Nat → Int → Bool
  | 0, _ => false
  | n + 1, i => P i || ex P n (i + 1)
theorem ex_iff {P : Int → Bool} : ∀ {n : Nat} {i : Int}, ex P n i = true ↔ ∃ j, i ≤ j ∧ j < i + n ∧ P j = true
  | 0, i => by simp only [ex]; constructor
               · intro h; cases h
               · rintro ⟨j, h1, h2, _⟩; omega
  | n + 1, i => by
    simp only [ex, Bool.or_eq_true, ex_iff (n := n) (i := i + 1)]
    constructor
    · rintro (h | ⟨j, h1, h2, h3⟩)
      · exact ⟨i, by omega, by omega, h⟩
      · exact ⟨j, by omega, by omega, h3⟩
    · rintro ⟨j, h1, h2, h3⟩
      by_cases e : j = i
      · subst e; exact Or.inl h3
      · exact Or.inr ⟨j, by omega, by omega, h3⟩
theorem ex_false {P : Int → Bool} {n : Nat} {i : Int} : ex P n i = false ↔ ∀ j, i ≤ j → j < i + n → P j = false := by
  constructor
  · intro h j h1 h2
    cases hp : P j with
    | false => rfl
    | true => rw [ex_iff.mpr ⟨j, h1, h2, hp⟩] at h; cases h
  · intro h
    cases he : ex P n i with
    | false => rfl
    | true => obtain ⟨j, h1, h2, h3⟩ := ex_iff.mp he; rw [h j h1 h2] at h3; cases h3
theorem ex_congr {P Q : Int → Bool} : ∀ {n : Nat} {i : Int}, (∀ j, i ≤ j → j < i + n → P j = Q j) → ex P n i = ex Q n i
  | 0, _, _ => rfl
  | n + 1, i, h => by
    simp only [ex]
    rw [h i (by omega) (by omega), ex_congr (n := n) (i := i + 1) (fun j h1 h2 => h j (by omega) (by omega))]
theorem fix_ex {α : Type} {z : α} {B : α → α} (ap : α → Int → Option R9) (N : Int) (P : Int → Bool) (T F : Option R9)
    (hE : ∀ k, ap (B k) N = F)
    (lo : Int) (hS : ∀ k i, lo ≤ i → i < N → ap (B k) i = if P i = true then T else ap k (i + 1)) : ∀ (m f : Nat) (i : Int), m < f → lo ≤ i → i + m = N → ap (fix9 z B f) i = if ex P m i = true then T else F
  | 0, f + 1, i, _, _, hi => by
    have e : i = N := by omega
    subst e
    exact hE _
  | m + 1, f + 1, i, hf, hl, hi => by
    have h2 := hS (fix9 z B f) i hl (by omega)
    have k2 := fix_ex (z := z) ap N P T F hE lo hS m f (i + 1) (by omega) (by omega) (by omega)
    show ap (B (fix9 z B f)) i = _
    rw [h2, k2]
    simp only [ex]
    by_cases hp : P i = true <;> simp [hp]
  | _, 0, _, hf, _, _ => absurd hf (Nat.not_lt_zero _)
theorem fix_xu {α : Type} {z : α} {B : α → α} (ap : α → Int → Option R9) (lo N : Int) (P : Int → Bool) (T F : Option R9) (hN : lo ≤ N ∧ N < lo + 900000)
    (hE : ∀ k, ap (B k) N = F) (hS : ∀ k i, lo ≤ i → i < N → ap (B k) i = if P i = true then T else ap k (i + 1)) : ap (fix9 z B FU) lo = if ex P (N - lo).toNat lo = true then T else F :=
  fix_ex ap N P T F hE lo hS (N - lo).toNat FU lo (by unfold FU; omega) (by omega) (by omega)
/-- the first one's value among n numbers from i on -/
def fd {ρ : Type} (p : Int → Option ρ) (e : ρ) : Nat → Int → ρ
  | 0, _ => e
  | n + 1, i => match p i with
    | some v => v
    | none => fd p e n (i + 1)
theorem fix_fd {α ρ : Type} {z : α} {B : α → α} (ap : α → Int → Option R9) (N : Int) (p : Int → Option ρ) (e : ρ) (T : ρ → Option R9)
    (hE : ∀ k, ap (B k) N = T e) (lo : Int)
    (hS : ∀ k i, lo ≤ i → i < N → ap (B k) i = match p i with | some v => T v | none => ap k (i + 1)) : ∀ (m f : Nat) (i : Int), m < f → lo ≤ i → i + m = N → ap (fix9 z B f) i = T (fd p e m i)
  | 0, f + 1, i, _, _, hi => by
    have e : i = N := by omega
    subst e
    exact hE _
  | m + 1, f + 1, i, hf, hl, hi => by
    have h2 := hS (fix9 z B f) i hl (by omega)
    have k2 := fix_fd (z := z) ap N p e T hE lo hS m f (i + 1) (by omega) (by omega) (by omega)
    show ap (B (fix9 z B f)) i = _
    rw [h2]
    simp only [fd]
    cases hp : p i <;> simp [hp, k2]
  | _, 0, _, hf, _, _ => absurd hf (Nat.not_lt_zero _)
theorem fix_du {α ρ : Type} {z : α} {B : α → α} (ap : α → Int → Option R9) (lo N : Int) (p : Int → Option ρ) (e : ρ) (T : ρ → Option R9) (hN : lo ≤ N ∧ N < lo + 900000)
    (hE : ∀ k, ap (B k) N = T e)
    (hS : ∀ k i, lo ≤ i → i < N → ap (B k) i = match p i with | some v => T v | none => ap k (i + 1)) : ap (fix9 z B FU) lo = T (fd p e (N - lo).toNat lo) :=
  fix_fd ap N p e T hE lo hS (N - lo).toNat FU lo (by unfold FU; omega) (by omega) (by omega)
theorem fd_congr {ρ : Type} {p q : Int → Option ρ} {e : ρ} : ∀ {n : Nat} {i : Int}, (∀ j, i ≤ j → j < i + n → p j = q j) → fd p e n i = fd q e n i
  | 0, _, _ => rfl
  | n + 1, i, h => by
    simp only [fd]
    rw [h i (by omega) (by omega), fd_congr (n := n) (i := i + 1) (fun j h1 h2 => h j (by omega) (by omega))]
/-! one turn of a loop, by the number of its numbers -/
theorem fx0 {z : D9 → Option R9} {B : (D9 → Option R9) → (D9 → Option R9)} {f : Nat} {d : D9} : fix9 z B (f + 1)  d = B (fix9 z B f)  d := rfl
theorem fx1 {z : Int → D9 → Option R9} {B : (Int → D9 → Option R9) → (Int → D9 → Option R9)} {f : Nat} {x0 : Int} {d : D9} : fix9 z B (f + 1) x0 d = B (fix9 z B f) x0 d := rfl
theorem fx2 {z : Int → Int → D9 → Option R9} {B : (Int → Int → D9 → Option R9) → (Int → Int → D9 → Option R9)} {f : Nat} {x0 x1 : Int} {d : D9} : fix9 z B (f + 1) x0 x1 d = B (fix9 z B f) x0 x1 d := rfl
theorem fx3 {z : Int → Int → Int → D9 → Option R9} {B : (Int → Int → Int → D9 → Option R9) → (Int → Int → Int → D9 → Option R9)} {f : Nat} {x0 x1 x2 : Int} {d : D9} : fix9 z B (f + 1) x0 x1 x2 d = B (fix9 z B f) x0 x1 x2 d := rfl
theorem fx4 {z : Int → Int → Int → Int → D9 → Option R9} {B : (Int → Int → Int → Int → D9 → Option R9) → (Int → Int → Int → Int → D9 → Option R9)} {f : Nat} {x0 x1 x2 x3 : Int} {d : D9} : fix9 z B (f + 1) x0 x1 x2 x3 d = B (fix9 z B f) x0 x1 x2 x3 d := rfl
theorem fx5 {z : Int → Int → Int → Int → Int → D9 → Option R9} {B : (Int → Int → Int → Int → Int → D9 → Option R9) → (Int → Int → Int → Int → Int → D9 → Option R9)} {f : Nat} {x0 x1 x2 x3 x4 : Int} {d : D9} : fix9 z B (f + 1) x0 x1 x2 x3 x4 d = B (fix9 z B f) x0 x1 x2 x3 x4 d := rfl
theorem fx6 {z : Int → Int → Int → Int → Int → Int → D9 → Option R9} {B : (Int → Int → Int → Int → Int → Int → D9 → Option R9) → (Int → Int → Int → Int → Int → Int → D9 → Option R9)} {f : Nat} {x0 x1 x2 x3 x4 x5 : Int} {d : D9} : fix9 z B (f + 1) x0 x1 x2 x3 x4 x5 d = B (fix9 z B f) x0 x1 x2 x3 x4 x5 d := rfl
theorem fx7 {z : Int → Int → Int → Int → Int → Int → Int → D9 → Option R9} {B : (Int → Int → Int → Int → Int → Int → Int → D9 → Option R9) → (Int → Int → Int → Int → Int → Int → Int → D9 → Option R9)} {f : Nat} {x0 x1 x2 x3 x4 x5 x6 : Int} {d : D9} : fix9 z B (f + 1) x0 x1 x2 x3 x4 x5 x6 d = B (fix9 z B f) x0 x1 x2 x3 x4 x5 x6 d := rfl

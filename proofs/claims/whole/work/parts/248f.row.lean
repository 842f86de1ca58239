/-! the row of skins that rules name -/
noncomputable def fw (t : Nat → Int) : Nat → (Int → Bool) → Int → Int → (Int → Int) → (Int → Bool) × Int × (Int → Int)
  | 0, U, _, c, w => (U, c, w)
  | n + 1, U, l, c, w => if nx t U l = -1 then (U, c, w) else fw t n (fun s => U s || decide (nx t U l = s)) (l - sk t (nx t U l) 3) (c + 1) (fun i => if i = c then nx t U l else w i)
noncomputable def fwR (t : Nat → Int) (g : Int) : (Int → Bool) × Int × (Int → Int) := fw t 30 (fun _ => false) g 0 (fun _ => 0)
theorem fw_rng {t : Nat → Int} : ∀ (n : Nat) (U : Int → Bool) (l c : Int) (w : Int → Int), c ≤ (fw t n U l c w).2.1 ∧ (fw t n U l c w).2.1 ≤ c + n
  | 0, _, _, c, _ => by simp [fw]
  | n + 1, U, l, c, w => by
    simp only [fw]
    split
    · dsimp only; omega
    · have := fw_rng (t := t) n (fun s => U s || decide (nx t U l = s)) (l - sk t (nx t U l) 3) (c + 1) (fun i => if i = c then nx t U l else w i)
      omega
theorem dtd_tb {t : Nat → Int} (k : TK t) : ∀ p, 0 ≤ p → p < 30 → tb (dtd t) p = rea t (fun _ => false) p := by
  have n0 := (TKn k).1
  have n1 := (TKn k).2.1
  have key : ∀ n : Nat, (n : Int) ≤ t 1 → (0 ≤ fo (dtS t) n 0 0 ∧ fo (dtS t) n 0 0 < 1073741824) ∧ ∀ p, 0 ≤ p → p < 30 → tb (fo (dtS t) n 0 0) p = ex (fun s => decide (sk t s 1 ≠ 0 ∧ sk t s 2 = p) && (decide (0 < sk t s 4) || false)) n 0 := by
    intro n
    induction n with
    | zero => intro _; exact ⟨⟨Int.le_refl 0, (by decide : (0 : Int) < 1073741824)⟩, fun p _ _ => tb_0 p⟩
    | succ n ih =>
      intro hn
      obtain ⟨i1, i2⟩ := ih (by omega)
      rw [fo_last, Int.zero_add]
      have rg := dtS_rng k (s := n) (by omega) i1
      generalize fo (dtS t) n 0 0 = v at i1 i2 rg ⊢
      refine ⟨rg, fun p h0 h1 => ?_⟩
      rw [ex_last, Int.zero_add, ← i2 p h0 h1]
      unfold dtS
      by_cases x : sk t n 1 ≠ 0 ∧ 0 < sk t n 4
      · have hp := (TKs k n (by omega) (by omega)).2.2.1 x.1
        have rk := shl9_rng (i := sk t n 2) (by omega)
        rw [if_pos x, tb_or (by omega), tb_shl (by omega) h0, dec_t x.2, Bool.true_or, Bool.and_true]
        congr 1
        exact decide_eq_decide.mpr ⟨fun h => ⟨x.1, h⟩, fun h => h.2⟩
      · rw [if_neg x]
        have : (decide (sk t n 1 ≠ 0 ∧ sk t n 2 = p) && (decide (0 < sk t n 4) || false)) = false := by
          by_cases y : sk t n 1 = 0
          · rw [dec_f (fun h => h.1 y)]; rfl
          · rw [dec_f (show ¬ 0 < sk t n 4 from fun h => x ⟨y, h⟩)]; simp
        rw [this, Bool.or_false]
  intro p h0 h1
  exact (key (t 1).toNat (by omega)).2 p h0 h1
/-- only the search's own row and numbers are written -/
def F6 (d d' : D9) : Prop := (∀ k, k ≠ 58 → k ≠ 59 → d' k = d k) ∧ d' 58 0 = d 58 0 ∧ d' 58 1 = d 58 1 ∧ d' 58 2 = d 58 2
theorem F6.tr {d d' d'' : D9} (a : F6 d d') (b : F6 d' d'') : F6 d d'' := ⟨fun k x y => (b.1 k x y).trans (a.1 k x y), b.2.1.trans a.2.1, b.2.2.1.trans a.2.2.1, b.2.2.2.trans a.2.2.2⟩
theorem F6.rf (d : D9) : F6 d d := ⟨fun _ _ _ => rfl, rfl, rfl, rfl⟩
theorem F6.u {d : D9} {j : Nat} {v : Int} (h : 3 ≤ j) : F6 d (up d 58 j v) := ⟨fun k x _ => up_k x, up_j (by omega), up_j (by omega), up_j (by omega)⟩
theorem F6.v {d : D9} {j : Nat} {v : Int} : F6 d (up d 59 j v) := ⟨fun k _ y => up_k y, by rw [up_k (by decide)], by rw [up_k (by decide)], by rw [up_k (by decide)]⟩
theorem F6.f5 {d d' : D9} (h : F6 d d') : F5 d d' := fun k hk => h.1 k (by omega) (by omega)
def RO (d : D9) (c : Int) (w : Int → Int) : Prop := d 58 3 = c ∧ ∀ i, 0 ≤ i → i < c → d 59 i.toNat = w i
theorem rea_s {t : Nat → Int} {U : Int → Bool} {s p : Int} (hs : 0 ≤ s ∧ s < t 1) : rea t (fun x => U x || decide (s = x)) p = (rea t U p || decide (sk t s 1 ≠ 0 ∧ sk t s 2 = p)) := by
  apply b_iff
  unfold rea
  rw [Bool.or_eq_true, ex_iff, ex_iff, decide_eq_true_eq]
  constructor
  · rintro ⟨j, a, b, c⟩
    simp only [Bool.and_eq_true, Bool.or_eq_true, decide_eq_true_eq] at c
    rcases c with ⟨c1, c2 | c2 | c2⟩
    · exact Or.inl ⟨j, a, b, by simp [c1, c2]⟩
    · exact Or.inl ⟨j, a, b, by simp [c1, c2]⟩
    · subst c2; exact Or.inr c1
  · rintro (⟨j, a, b, c⟩ | h)
    · refine ⟨j, a, b, ?_⟩
      simp only [Bool.and_eq_true, Bool.or_eq_true, decide_eq_true_eq] at c ⊢
      exact ⟨c.1, c.2.imp id Or.inl⟩
    · exact ⟨s, hs.1, by omega, by simp [h.1, h.2]⟩
theorem q_take {left : Int} {d : D9} {t : Nat → Int} {U : Int → Bool} {c s : Int} {w : Int → Int} (k : TK t) (r : RW d t) (S : SW d t U left) (R : RO d c w) (hc : 0 ≤ c ∧ c < 30) (hs : 0 ≤ s ∧ s < t 1) :
    ∃ d', m_X5_take_58_9 s d = rt 0 d' ∧ F6 d d' ∧ SW d' t (fun x => U x || decide (s = x)) (left - sk t s 3) ∧ RO d' (c + 1) (fun i => if i = c then s else w i) := by
  obtain ⟨n0, n1, n2, n3⟩ := TKn k
  have hk := TKs k s hs.1 hs.2
  have h1 := hk.2.1
  obtain ⟨rA, _, _⟩ := (RWs r).2 s hs.1 hs.2
  obtain ⟨⟨⟨r4, b4⟩, r8, b8⟩, ⟨r6, b6⟩, h7⟩ := S
  have rk := shl9_rng (i := s) (by omega)
  unfold m_X5_take_58_9
  rw [R.1, w32_id (by omega), w32_id (by omega), if_pos hc.2, sd_in (by omega), pf_v, pf_v, ld_in (by omega), pf_v]
  generalize hd5 : up (up (up (up d 59 c.toNat s) 58 3 ((up d 59 c.toNat s) 58 3 + 1)) 58 6 (or9 ((up (up d 59 c.toNat s) 58 3 ((up d 59 c.toNat s) 58 3 + 1)) 58 6) (shl9 1 s))) 58 7 ((up (up (up d 59 c.toNat s) 58 3 ((up d 59 c.toNat s) 58 3 + 1)) 58 6 (or9 ((up (up d 59 c.toNat s) 58 3 ((up d 59 c.toNat s) 58 3 + 1)) 58 6) (shl9 1 s))) 58 7 - (up (up (up d 59 c.toNat s) 58 3 ((up d 59 c.toNat s) 58 3 + 1)) 58 6 (or9 ((up (up d 59 c.toNat s) 58 3 ((up d 59 c.toNat s) 58 3 + 1)) 58 6) (shl9 1 s))) 13 s.toNat) = d5
  have g5 : ∀ k j, d5 k j = if k = 58 ∧ j = 7 then left - sk t s 3 else if k = 58 ∧ j = 6 then or9 (d 58 6) (shl9 1 s) else if k = 58 ∧ j = 3 then c + 1 else if k = 59 ∧ j = c.toNat then s else d k j := by
    intro k j
    rw [← hd5, ← h7, ← rA.2.2.2.1, ← R.1]
    rfl
  have f5 : F6 d d5 := ⟨fun k x y => by funext j; rw [g5, if_neg (fun h => x h.1), if_neg (fun h => x h.1), if_neg (fun h => x h.1), if_neg (fun h => y h.1)], by rw [g5]; rfl, by rw [g5]; rfl, by rw [g5]; rfl⟩
  have r5 : RW d5 t := f5.f5.rw r
  rw [q_touches k r5 hs, cl_rt, w32_bi]
  have tk : ∀ p, 0 ≤ p → p < 30 → tb (or9 (d 58 6) (shl9 1 s)) p = (U p || decide (s = p)) := fun p a b => by rw [tb_or (by omega), tb_shl (by omega) a, b6 p a b]
  have ro5 : RO d5 (c + 1) (fun i => if i = c then s else w i) := ⟨by rw [g5]; rfl, fun i a b => by
    rw [g5]
    by_cases y : i = c
    · subst y; simp
    · have : ¬ i.toNat = c.toNat := by omega
      simp only [this, y, and_false, if_false]
      rw [if_neg (by omega), if_neg (by omega), if_neg (by omega)]
      exact R.2 i a (by omega)⟩
  by_cases x : sk t s 1 = 0
  · rw [dec_f (by omega), bi_f, if_pos rfl]
    refine ⟨d5, rfl, f5, ⟨⟨⟨by rw [g5]; exact r4, fun p a b => ?_⟩, by rw [g5]; exact r8, fun p a b => by rw [g5]; exact b8 p a b⟩, ⟨by rw [g5]; exact or9_rng (by omega), fun p a b => by rw [g5]; exact tk p a b⟩, by rw [g5]; rfl⟩, ro5⟩
    rw [g5, rea_s hs, dec_f (fun h => h.1 x), Bool.or_false]
    exact b4 p a b
  · have hp := hk.2.2.1 x
    have rkp := shl9_rng (i := sk t s 2) (by omega)
    obtain ⟨rA5, _, _⟩ := (RWs r5).2 s hs.1 hs.2
    rw [dec_t x, bi_t, if_neg ne10, ld_in (by omega), rA5.2.2.1, if_neg x, pf_v]
    have e4 : d5 58 4 = d 58 4 := by rw [g5]; rfl
    have g9 : ∀ k j, (up d5 58 4 (or9 (d5 58 4) (shl9 1 (sk t s 2)))) k j = if k = 58 ∧ j = 4 then or9 (d 58 4) (shl9 1 (sk t s 2)) else d5 k j := fun k j => by rw [e4]; rfl
    refine ⟨_, rfl, f5.tr (F6.u (by omega)), ⟨⟨⟨by rw [g9]; exact or9_rng (by omega), fun p a b => ?_⟩, by rw [g9, g5]; exact r8, fun p a b => by rw [g9, g5]; exact b8 p a b⟩, ⟨by rw [g9, g5]; exact or9_rng (by omega), fun p a b => by rw [g9, g5]; exact tk p a b⟩, by rw [g9, g5]; rfl⟩, by rw [g9]; exact ro5.1, fun i a b => by rw [g9]; exact ro5.2 i a b⟩
    rw [g9]
    show tb (or9 (d 58 4) (shl9 1 (sk t s 2))) p = _
    rw [tb_or (by omega), tb_shl (by omega) a, b4 p a b, rea_s hs]
    congr 1
    exact decide_eq_decide.mpr ⟨fun h => ⟨x, h⟩, fun h => h.2⟩
theorem q_row_l {t : Nat → Int} (k : TK t) : ∀ (n f : Nat) (i : Int) (U : Int → Bool) (l c : Int) (w : Int → Int) (d : D9), n < f → i + n = 30 → 0 ≤ i → c = i → RW d t → SW d t U l → RO d c w → 0 ≤ l ∧ l ≤ 999 →
    ∃ d' l', fix9 (fun _ _ _ => none) (fun k => b_X5_makeRow_58_1_c83 k) f (nx t U l) i d = rt 0 d' ∧ F6 d d' ∧ SW d' t (fw t n U l c w).1 l' ∧ RO d' (fw t n U l c w).2.1 (fw t n U l c w).2.2
  | 0, f + 1, i, U, l, c, w, d, _, he, h0, hci, r, S, R, hl => by
    refine ⟨d, l, ?_, F6.rf d, S, R⟩
    rw [fx2, b_X5_makeRow_58_1_c83, if_pos (by rw [show i = 30 by omega]; exact Int.le_refl _)]
  | n + 1, f + 1, i, U, l, c, w, d, hf, he, h0, hci, r, S, R, hl => by
    obtain ⟨n0, n1, n2, n3⟩ := TKn k
    obtain ⟨o1, o2⟩ := nx_ok n1.1 U l
    rw [fx2, b_X5_makeRow_58_1_c83, w32_id (by omega), w32_id (by omega), if_neg (by omega), w32_id (by omega), w32_id (by omega)]
    simp only [fw]
    by_cases x : nx t U l = -1
    · rw [if_pos x, if_pos x]
      exact ⟨d, l, rfl, F6.rf d, S, R⟩
    · rw [if_neg x, if_neg x]
      have hg := (TKs k (nx t U l) (by omega) (by omega)).2.2.2.1
      have ho := o2 x
      obtain ⟨d1, a1, a2, a3, a4⟩ := q_take k r S R (s := nx t U l) (by omega) (by omega)
      have r1 := a2.f5.rw r
      rw [a1, cl_rt, q_nx k r1 a3 (by omega), cl_rt]
      obtain ⟨d', l', b1, b2, b3, b4⟩ := q_row_l k n f (i + 1) (fun s => U s || decide (nx t U l = s)) (l - sk t (nx t U l) 3) (c + 1) (fun i => if i = c then nx t U l else w i) d1 (by omega) (by omega) (by omega) (by omega) r1 a3 a4 (by omega)
      exact ⟨d', l', b1, a2.tr b2, b3, b4⟩
  | _, 0, _, _, _, _, _, _, hf, _, _, _, _, _, _, _ => absurd hf (Nat.not_lt_zero _)
theorem q_open_l {t : Nat → Int} (k : TK t) {g : Int} {d0 : D9} (r0 : RW d0 t) : ∀ (m f : Nat) (p : Int) (d : D9), m < f → 0 ≤ p → p + m = t 0 → F6 d0 d → (∀ j, j ≠ 8 → d 58 j = d0 58 j) → d 59 = d0 59 → (0 ≤ d 58 8 ∧ d 58 8 < 1073741824) → (∀ u, 0 ≤ u → u < 30 → tb (d 58 8) u = (decide (u < p) && opn t u)) →
    ∃ d1, fix9 (fun _ _ => none) (fun k => b_X5_makeRow_58_1_c33 k) f p d = cl (m_X5_nextByRules_58_1 d1) (fun r1 d2 => m_X5_makeRow_58_1_c83 r1 0 d2) ∧ F6 d0 d1 ∧ (∀ j, j ≠ 8 → d1 58 j = d0 58 j) ∧ d1 59 = d0 59 ∧ (0 ≤ d1 58 8 ∧ d1 58 8 < 1073741824) ∧ ∀ u, 0 ≤ u → u < t 0 → tb (d1 58 8) u = opn t u
  | 0, f + 1, p, d, _, h0, he, hF, h8, h59, hr, hb => by
    have n0 := (TKn k).1
    refine ⟨d, ?_, hF, h8, h59, hr, fun u a b => by rw [hb u a (by omega), dec_t (by omega), Bool.true_and]⟩
    rw [fx1, b_X5_makeRow_58_1_c33, (RWp (hF.f5.rw r0)).1, if_pos (by rw [show t 0 = p by omega]; exact Int.le_refl _)]
  | m + 1, f + 1, p, d, hf, h0, he, hF, h8, h59, hr, hb => by
    obtain ⟨n0, n1, n2, n3⟩ := TKn k
    have r := hF.f5.rw r0
    have b1 := bnd_rng t p false (-1)
    have b2 := bnd_rng t p true (-1)
    have rk := shl9_rng (i := p) (by omega)
    have iso : m_X10_isOpen_1 p d = rt (bi (opn t p)) d := by
      unfold m_X10_isOpen_1 opn
      rw [q_leastOf (TKn k) (TKo k) (TKs k) (RWo r) (RWs r) (by omega), cl_rt, q_mostOf (TKn k) (TKo k) (TKs k) (RWo r) (RWs r) (by omega), cl_rt, w32_id (by omega), w32_id (by omega), w32_id (by omega)]
      by_cases z1 : bnd t p false (-1) = 0
      · rw [if_neg (by omega)]
        by_cases z2 : bnd t p true (-1) = 400
        · rw [if_neg (by omega), dec_t ⟨z1, z2⟩]; rfl
        · rw [if_pos z2, dec_f (fun h => z2 h.2)]; rfl
      · rw [if_pos z1, dec_f (fun h => z1 h.1)]; rfl
    have go := fun (v : Int) (hv : 0 ≤ v ∧ v < 1073741824) (hbv : ∀ u, 0 ≤ u → u < 30 → tb v u = (decide (u < p + 1) && opn t u)) => q_open_l k (g := g) r0 m f (p + 1) (up d 58 8 v) (by omega) (by omega) (by omega) (hF.tr (F6.u (by omega))) (fun j hj => by rw [up_j hj]; exact h8 j hj) (by rw [up_k (by decide)]; exact h59) (by rw [up_same]; exact hv) (fun u a b => by rw [up_same]; exact hbv u a b)
    rw [fx1, b_X5_makeRow_58_1_c33, (RWp r).1, w32_id (by omega), w32_id (by omega), if_neg (by omega), iso, cl_rt, w32_bi, pf_v, pf_v, or9_0 (by omega)]
    cases ho : opn t p
    · rw [bi_f, if_pos rfl]
      refine go (d 58 8) hr (fun u a b => ?_)
      rw [hb u a b]
      by_cases y : u = p
      · subst y; rw [ho]; simp
      · congr 1; exact decide_eq_decide.mpr (by omega)
    · rw [bi_t, if_neg ne10]
      refine go (or9 (d 58 8) (shl9 1 p)) (or9_rng (by omega)) (fun u a b => ?_)
      rw [tb_or (by omega), tb_shl (by omega) a, hb u a b]
      by_cases y : u = p
      · subst y; rw [ho]; simp; omega
      · rw [dec_f (show ¬ p = u by omega), Bool.or_false]; congr 1; exact decide_eq_decide.mpr (by omega)
  | _, 0, _, _, hf, _, _, _, _, _, _, _ => absurd hf (Nat.not_lt_zero _)
theorem q_makeRow {t : Nat → Int} (k : TK t) {g : Int} (hg : 0 ≤ g ∧ g ≤ 999) {d : D9} (r : RW d t) : ∃ d', m_X5_makeRow_58_1 g d = rt 0 d' ∧ F6 d d' ∧ ((0 ≤ d' 58 4 ∧ d' 58 4 < 1073741824) ∧ ∀ p, 0 ≤ p → p < 30 → tb (d' 58 4) p = rea t (fwR t g).1 p) ∧ RO d' (fwR t g).2.1 (fwR t g).2.2 := by
  obtain ⟨n0, n1, n2, n3⟩ := TKn k
  have dr := dtd_rng k
  have r3 : RW (up (up (up d 58 3 0) 58 6 0) 58 7 g) t := RW_up (RW_up (RW_up r (by decide)) (by decide)) (by decide)
  generalize hd7 : up (up (up (up (up d 58 3 0) 58 6 0) 58 7 g) 58 4 (dtd t)) 58 8 0 = d7
  have F7 : F6 d d7 := by rw [← hd7]; exact ((((F6.u (by omega)).tr (F6.u (by omega))).tr (F6.u (by omega))).tr (F6.u (by omega))).tr (F6.u (by omega))
  have r7 : RW d7 t := F7.f5.rw r
  have v8 : d7 58 8 = 0 := by rw [← hd7]; rfl
  have v3 : d7 58 3 = 0 := by rw [← hd7]; rfl
  have v4 : d7 58 4 = dtd t := by rw [← hd7]; rfl
  have v6 : d7 58 6 = 0 := by rw [← hd7]; rfl
  have v7 : d7 58 7 = g := by rw [← hd7]; rfl
  obtain ⟨d1, a1, a2, a3, a4, a5, a6⟩ := q_open_l k (g := g) r7 (t 0).toNat FU 0 d7 (by unfold FU; omega) (by omega) (by omega) (F6.rf d7) (fun _ _ => rfl) rfl (by rw [v8]; omega) (fun u a b => by rw [v8, tb_0, dec_f (by omega)]; rfl)
  have r1 : RW d1 t := a2.f5.rw r7
  have S1 : SW d1 t (fun _ => false) g := ⟨⟨⟨by rw [a3 4 (by decide), v4]; exact dr, fun p x y => by rw [a3 4 (by decide), v4]; exact dtd_tb k p x y⟩, a5, a6⟩, ⟨by rw [a3 6 (by decide), v6]; omega, fun s _ _ => by rw [a3 6 (by decide), v6, tb_0]⟩, by rw [a3 7 (by decide), v7]⟩
  have R1 : RO d1 0 (fun _ => 0) := ⟨by rw [a3 3 (by decide), v3], fun i a b => by omega⟩
  obtain ⟨d', l', b1, b2, b3, b4⟩ := q_row_l k 30 FU 0 (fun _ => false) g 0 (fun _ => 0) d1 (by decide) (by omega) (by omega) rfl r1 S1 R1 hg
  refine ⟨d', ?_, (F7.tr a2).tr b2, b3.1.1, b4⟩
  unfold m_X5_makeRow_58_1
  rw [pf_v, pf_v, pf_v, q_dated k r3, cl_rt, pf_v, pf_v, hd7]
  rw [show m_X5_makeRow_58_1_c33 0 d7 = _ from a1, q_nx k r1 S1 (by omega), cl_rt]
  exact b1

/-! plan: the best set -/
theorem in_c {x i : Int} (hx : (0 ≤ x ∧ x ≤ 2147483647) ∧ 0 ≤ i ∧ i < 32) : (w32 (and9 (shr9 x i) 1) ≠ w32 1) ↔ tb x i = false := by
  have h := q_isIn (d := fun _ _ => 0) hx
  unfold m_X11_isIn at h
  cases hb : tb x i
  · rw [hb] at h
    constructor
    · intro _; rfl
    · intro _ e
      rw [if_neg (by simpa using e)] at h
      simp [rt, bi] at h
  · rw [hb] at h
    constructor
    · intro e
      rw [if_pos e] at h
      simp [rt, bi] at h
    · intro e; cases e
noncomputable def plS (t : Nat → Int) (g S b : Int) : Int := if gs t S 0 ≤ g ∧ (cov t b < cov t S ∨ cov t S = cov t b ∧ gs t S 0 < gs t b 0) then S else b
noncomputable def plF (t : Nat → Int) (g : Int) : Int := fo (plS t g) (shl9 1 (chF t).1 - 1).toNat 1 0
def skS (t : Nat → Int) (b k v : Int) : Int := if tb b k = true then or9 v (shl9 1 ((chF t).2 k)) else v
def skb (t : Nat → Int) (b : Int) : Int := fo (skS t b) (chF t).1.toNat 0 0
theorem skS_rng {t : Nat → Int} (k : TK t) {b i v : Int} (hi : 0 ≤ i ∧ i < (chF t).1) (hv : 0 ≤ v ∧ v < 1073741824) : 0 ≤ skS t b i v ∧ skS t b i v < 1073741824 := by
  have n1 := (TKn k).2.1
  have q := (chF_ok k).2 i hi.1 hi.2
  have rk := shl9_rng (i := (chF t).2 i) (by omega)
  unfold skS; split
  · exact or9_rng (by omega)
  · exact hv
theorem cov_rng (t : Nat → Int) (S : Int) : 0 ≤ cov t S ∧ cov t S ≤ 63 := bc_rng _
theorem q_skinsOf {t : Nat → Int} (k : TK t) {b : Int} {d : D9} (hb : 0 ≤ b ∧ b ≤ 4096) (hc60 : ∀ i, 0 ≤ i → i < (chF t).1 → d 60 i.toNat = (chF t).2 i) : m_X5_skinsOf_58 b (chF t).1 d = rt (skb t b) d := by
  have c12 := (chF_ok k).1
  have z := (fix_fu (z := fun _ _ _ _ _ => none) (B := fun k => b_X5_skinsOf_58_c5 k) (fun k i v => k b (chF t).1 v i d) 0 (chF t).1 (skS t b) (fun i v => 0 ≤ i ∧ 0 ≤ v ∧ v < 1073741824) (fun v => rt v d) 0 (by omega) (by omega) ?_ ?_).2
  · rw [Int.sub_zero] at z; exact z
  · intro k' v hI
    simp only [b_X5_skinsOf_58_c5]
    rw [if_pos (Int.le_refl _)]
  · intro k' i v hlt hI
    refine ⟨⟨by omega, skS_rng k ⟨hI.1, hlt⟩ hI.2⟩, ?_⟩
    simp only [b_X5_skinsOf_58_c5]
    rw [w32_id (by omega), w32_id (by omega), if_neg (by omega), q_isIn (by omega), cl_rt, w32_bi, lt_v, or9_0 (by omega), ld_in (by omega), hc60 i hI.1 hlt, lt_v]
    unfold skS
    cases tb b i <;> simp [bi]
theorem q_pl_l {t : Nat → Int} (k : TK t) {g : Int} (hg : 0 ≤ g ∧ g ≤ 999) : ∀ (m f : Nat) (S b : Int) (d : D9), m < f → 0 ≤ S → S + 1 + m = shl9 1 (chF t).1 → (0 ≤ b ∧ b ≤ S) → RW d t → (∀ i, 0 ≤ i → i < (chF t).1 → d 60 i.toNat = (chF t).2 i) → PL t S d → d 58 1 = cov t b → d 58 2 = gs t b 0 →
    ∃ d', fix9 (fun _ _ _ _ _ => none) (fun k => b_X5_makePlan_58_9_c83 k) f g (chF t).1 b (S + 1) d = rt 0 d' ∧ F5 d d' ∧ d' 58 0 = skb t (fo (plS t g) m (S + 1) b) ∧ d' 58 1 = cov t (fo (plS t g) m (S + 1) b) ∧ d' 58 2 = gs t (fo (plS t g) m (S + 1) b) 0
  | 0, f + 1, S, b, d, _, h0, he, hb, r, h60, hP, h1, h2 => by
    have c12 := (chF_ok k).1
    have rn := shl9_rng (i := (chF t).1) (by omega)
    have r12 : shl9 1 (chF t).1 ≤ 4096 := by
      rw [shl9_1 (by omega)]
      have : 2 ^ (chF t).1.toNat ≤ 2 ^ 12 := Nat.pow_le_pow_right (by omega) (by omega)
      omega
    refine ⟨up d 58 0 (skb t b), ?_, F5.up (by omega), up_same _ _ _ _, by rw [up_j (by decide)]; exact h1, by rw [up_j (by decide)]; exact h2⟩
    rw [fx4, b_X5_makePlan_58_9_c83, if_pos (by rw [show S + 1 = shl9 1 (chF t).1 by omega]; exact Int.le_refl _), q_skinsOf k (by omega) h60, cl_rt, pf_v]
  | m + 1, f + 1, S, b, d, hf, h0, he, hb, r, h60, hP, h1, h2 => by
    have c12 := (chF_ok k).1
    have rn := shl9_rng (i := (chF t).1) (by omega)
    obtain ⟨d1, a1, a2, a3⟩ := q_look k (S := S) r (by omega) h60 hP
    have p0 := PL_0 k a3
    have g0 := (a3 0 (by omega) c12.1).1
    rw [Int.toNat_zero] at g0
    have cb := cov_rng t b
    have cs := cov_rng t (S + 1)
    have gb := gs_rng k (S := b) (j := 0) ⟨by omega, c12.1⟩
    have gS := gs_rng k (S := S + 1) (j := 0) ⟨by omega, c12.1⟩
    have f1 : F5 d d1 := fun k hk => by funext i; exact a2 k i (by omega)
    have r1 : RW d1 t := f1.rw r
    have h60' : ∀ i, 0 ≤ i → i < (chF t).1 → d1 60 i.toNat = (chF t).2 i := fun i a b => (a2 60 _ (by omega)).trans (h60 i a b)
    have e1 : d1 58 1 = cov t b := (a2 58 1 (by omega)).trans h1
    have e2 : d1 58 2 = gs t b 0 := (a2 58 2 (by omega)).trans h2
    have yes : ∃ d', m_X5_makePlan_58_9_c145 (fix9 (fun _ _ _ _ _ => none) (fun k => b_X5_makePlan_58_9_c83 k) f) g (chF t).1 b (S + 1) (cov t (S + 1)) 1 d1 = (if gs t (S + 1) 0 ≤ g then fix9 (fun _ _ _ _ _ => none) (fun k => b_X5_makePlan_58_9_c83 k) f g (chF t).1 (S + 1) (S + 1 + 1) d' else fix9 (fun _ _ _ _ _ => none) (fun k => b_X5_makePlan_58_9_c83 k) f g (chF t).1 b (S + 1 + 1) d1) ∧ d' = up (up d1 58 1 (cov t (S + 1))) 58 2 (gs t (S + 1) 0) := by
      refine ⟨_, ?_, rfl⟩
      unfold m_X5_makePlan_58_9_c145
      rw [t1_0, if_neg ne10, ld_in (by omega), Int.toNat_zero, g0, w32_id (by omega), w32_id (by omega), pf_v, ld_in (by omega), Int.toNat_zero, up_k (by decide), g0, pf_v]
      by_cases y : gs t (S + 1) 0 ≤ g
      · rw [if_neg (by omega), if_pos y]
      · rw [if_pos (by omega), if_neg y]
    have no : m_X5_makePlan_58_9_c145 (fix9 (fun _ _ _ _ _ => none) (fun k => b_X5_makePlan_58_9_c83 k) f) g (chF t).1 b (S + 1) (cov t (S + 1)) 0 d1 = fix9 (fun _ _ _ _ _ => none) (fun k => b_X5_makePlan_58_9_c83 k) f g (chF t).1 b (S + 1 + 1) d1 := by
      unfold m_X5_makePlan_58_9_c145
      rw [if_pos t0_0]
    obtain ⟨d2, y1, y2⟩ := yes
    have goS := q_pl_l k hg m f (S + 1) (S + 1) d2 (by omega) (by omega) (by omega) (by omega) (by rw [y2]; exact RW_up (RW_up r1 (by decide)) (by decide)) (fun i a b => by rw [y2, up_k (by decide), up_k (by decide)]; exact h60' i a b) (fun j a b => by rw [y2, up_k (by decide), up_k (by decide), up_k (by decide), up_k (by decide)]; exact a3 j a b) (by rw [y2, up_j (by decide), up_same]) (by rw [y2, up_same])
    have goB := q_pl_l k hg m f (S + 1) b d1 (by omega) (by omega) (by omega) (by omega) r1 h60' a3 e1 e2
    have f2 : F5 d d2 := f1.tr (by rw [y2]; exact (F5.up (by omega)).tr (F5.up (by omega)))
    have bc0 : bc (d1 62 0) = cov t (S + 1) := by rw [p0]; rfl
    rw [fx4, b_X5_makePlan_58_9_c83, w32_id (by omega), w32_id (by omega), if_neg (by omega), a1, cl_rt, ld_in (by omega), Int.toNat_zero, q_bc, cl_rt, bc0, e1, w32_id (by omega), w32_id (by omega), ld_in (by omega), Int.toNat_zero, g0, e2, w32_id (by omega), w32_id (by omega), y1, no]
    show ∃ d', _ = rt 0 d' ∧ F5 d d' ∧ d' 58 0 = skb t (fo (plS t g) m (S + 1 + 1) (plS t g (S + 1) b)) ∧ d' 58 1 = cov t (fo (plS t g) m (S + 1 + 1) (plS t g (S + 1) b)) ∧ d' 58 2 = gs t (fo (plS t g) m (S + 1 + 1) (plS t g (S + 1) b)) 0
    by_cases x : gs t (S + 1) 0 ≤ g ∧ (cov t b < cov t (S + 1) ∨ cov t (S + 1) = cov t b ∧ gs t (S + 1) 0 < gs t b 0)
    · have ep : plS t g (S + 1) b = S + 1 := by unfold plS; rw [if_pos x]
      rw [ep]
      obtain ⟨d', b1, b2, b3, b4, b5⟩ := goS
      refine ⟨d', ?_, f2.tr b2, b3, b4, b5⟩
      rw [if_pos x.1]
      by_cases w : cov t b < cov t (S + 1)
      · rw [if_pos w]; exact b1
      · rw [if_neg w]
        rcases x.2 with z | z
        · exact absurd z w
        · rw [if_neg (by omega), if_neg (by omega)]; exact b1
    · have ep : plS t g (S + 1) b = b := by unfold plS; rw [if_neg x]
      rw [ep]
      obtain ⟨d', b1, b2, b3, b4, b5⟩ := goB
      refine ⟨d', ?_, f1.tr b2, b3, b4, b5⟩
      by_cases w : cov t b < cov t (S + 1)
      · rw [if_pos w, if_neg (fun h => x ⟨h, Or.inl w⟩)]; exact b1
      · rw [if_neg w]
        by_cases w2 : cov t (S + 1) = cov t b
        · rw [if_neg (by omega)]
          by_cases w3 : gs t (S + 1) 0 < gs t b 0
          · rw [if_neg (by omega), if_neg (fun h => x ⟨h, Or.inr ⟨w2, w3⟩⟩)]; exact b1
          · rw [if_pos (by omega)]; exact b1
        · rw [if_pos w2]; exact b1
  | _, 0, _, _, _, hf, _, _, _, _, _, _, _, _ => absurd hf (Nat.not_lt_zero _)
theorem gs_z {t : Nat → Int} : ∀ (n : Nat) (j : Int), (chF t).1 - j = n → gs t 0 j = 0
  | 0, j, h => by rw [show j = (chF t).1 by omega, gs_end]
  | n + 1, j, h => by rw [gs_step (by omega), tb_0, if_neg (by simp), gs_z n (j + 1) (by omega)]; rfl
theorem ex_z {t : Nat → Int} {w : Int} (n : Nat) (j : Int) : ex (fun i => tb 0 i && decide (sk t ((chF t).2 i) 2 = w)) n j = false := by
  rw [ex_false]; intro i _ _; rw [tb_0]; rfl
theorem q_pl_0 {t : Nat → Int} (k : TK t) {g : Int} {d0 : D9} (hv : d0 62 (chF t).1.toNat = dtd t) (hz0 : d0 61 (chF t).1.toNat = 0) : ∀ (m f : Nat) (j : Int) (d : D9), m < f → 0 ≤ j → j + m = (chF t).1 → (∀ k i, ¬ (k = 61 ∨ k = 62) → d k i = d0 k i) → d 62 (chF t).1.toNat = dtd t → d 61 (chF t).1.toNat = 0 → (∀ i : Int, 0 ≤ i → i < j → d 61 i.toNat = 0 ∧ d 62 i.toNat = dtd t) → ∃ d', fix9 (fun _ _ _ _ _ => none) (fun k => b_X5_makePlan_58_9_c47 k) f g (chF t).1 0 j d = m_X5_makePlan_58_9_c83 g (chF t).1 0 1 d' ∧ (∀ k i, ¬ (k = 61 ∨ k = 62) → d' k i = d0 k i) ∧ PL t 0 d'
  | 0, f + 1, j, d, _, h0, he, hF, h62, h61, hz => by
    refine ⟨d, ?_, hF, fun i a b => ?_⟩
    · rw [fx4, b_X5_makePlan_58_9_c47, if_pos (by rw [show (chF t).1 = j by omega]; exact Int.le_refl _)]
    · have c12 := (chF_ok k).1
      have dd := dtd_rng k
      have key : d 61 i.toNat = 0 ∧ d 62 i.toNat = dtd t := by
        by_cases y : i < j
        · exact hz i a y
        · rw [show i = (chF t).1 by omega]; exact ⟨h61, h62⟩
      rw [key.1, key.2]
      refine ⟨(gs_z ((chF t).1 - i).toNat i (by omega)).symm, dd, fun w _ _ => ?_⟩
      rw [ex_z]; simp
  | m + 1, f + 1, j, d, hf, h0, he, hF, h62, h61, hz => by
    have c12 := (chF_ok k).1
    have hne : (chF t).1.toNat ≠ j.toNat := by omega
    obtain ⟨d', a1, a2, a3⟩ := q_pl_0 k (g := g) hv hz0 m f (j + 1) (up (up d 61 j.toNat 0) 62 j.toNat (dtd t)) (by omega) (by omega) (by omega) (fun k i hk => by rw [up_k (by omega), up_k (by omega)]; exact hF k i hk) (by rw [up_j hne, up_k (by decide)]; exact h62) (by rw [up_k (by decide), up_j hne]; exact h61) (fun i a b => by
      by_cases y : i = j
      · subst y; exact ⟨by rw [up_k (by decide), up_same], up_same _ _ _ _⟩
      · have : i.toNat ≠ j.toNat := by omega
        rw [up_k (by decide), up_j this, up_j this, up_k (by decide)]
        exact hz i a (by omega))
    refine ⟨d', ?_, a2, a3⟩
    rw [fx4, b_X5_makePlan_58_9_c47, w32_id (by omega), w32_id (by omega), if_neg (by omega), sd_in (by omega), ld_in (by omega), up_k (by decide), h62, sd_in (by omega)]
    exact a1
  | _, 0, _, _, hf, _, _, _, _, _, _ => absurd hf (Nat.not_lt_zero _)
theorem q_makePlan {t : Nat → Int} (k : TK t) {g : Int} (hg : 0 ≤ g ∧ g ≤ 999) {d : D9} (r : RW d t) : ∃ d', m_X5_makePlan_58_9 g d = rt 0 d' ∧ F5 d d' ∧ d' 58 0 = skb t (plF t g) ∧ d' 58 1 = cov t (plF t g) ∧ d' 58 2 = gs t (plF t g) 0 := by
  have c12 := (chF_ok k).1
  have dd := dtd_rng k
  have rn := shl9_rng (i := (chF t).1) (by omega)
  have r12 : shl9 1 (chF t).1 ≤ 4096 := by
    rw [shl9_1 (by omega)]
    have : 2 ^ (chF t).1.toNat ≤ 2 ^ 12 := Nat.pow_le_pow_right (by omega) (by omega)
    omega
  obtain ⟨d2, a1, a2, a3⟩ := q_find k r
  have r3 : RW (up d2 61 (chF t).1.toNat 0) t := RW_up (RW_c r (fun i _ _ => a2 i (by omega))) (by decide)
  generalize hd11 : up (up (up (up d2 61 (chF t).1.toNat 0) 62 (chF t).1.toNat (dtd t)) 58 2 0) 58 1 (bc (dtd t)) = d11
  have g11 : ∀ k j, d11 k j = if k = 58 ∧ j = 1 then bc (dtd t) else if k = 58 ∧ j = 2 then 0 else if k = 62 ∧ j = (chF t).1.toNat then dtd t else if k = 61 ∧ j = (chF t).1.toNat then 0 else d2 k j := fun k j => by rw [← hd11]; rfl
  have v62 : d11 62 (chF t).1.toNat = dtd t := by rw [g11]; simp
  have v61 : d11 61 (chF t).1.toNat = 0 := by rw [g11]; simp
  obtain ⟨d3, b1, b2, b3⟩ := q_pl_0 k (g := g) v62 v61 (chF t).1.toNat FU 0 d11 (by unfold FU; omega) (by omega) (by omega) (fun _ _ _ => rfl) v62 v61 (fun i a b => by omega)
  have F11 : F5 d d11 := fun k hk => by
    funext j
    rw [g11, if_neg (by omega), if_neg (by omega), if_neg (by omega), if_neg (by omega), a2 k (by omega)]
  have F3 : F5 d d3 := F11.tr (fun k hk => by funext j; exact b2 k j (by omega))
  have e0 : ps t 0 = dtd t := by
    have h := PL_0 k b3
    have h2 := b3 0 (by omega) c12.1
    rw [← h]
    refine tb_ext (by have := h2.2.1; rw [Int.toNat_zero] at this; exact this) dd (fun w x y => ?_)
    have := h2.2.2 w x y
    rw [Int.toNat_zero] at this
    rw [this, ex_z]; simp
  obtain ⟨d', c1, c2, c3, c4, c5⟩ := q_pl_l k hg (shl9 1 (chF t).1 - 1).toNat FU 0 0 d3 (by unfold FU; omega) (by omega) (by omega) (by omega) (F3.rw r) (fun i a b => by
      rw [b2 60 _ (by omega), g11]
      simpa using a3 i a b) b3 (by
      rw [b2 58 1 (by omega), g11]
      simp [cov, e0]) (by
      rw [b2 58 2 (by omega), g11, gs_z (chF t).1.toNat 0 (by omega)]
      simp)
  refine ⟨d', ?_, F3.tr c2, c3, c4, c5⟩
  unfold m_X5_makePlan_58_9
  rw [a1, cl_rt, sd_in (by omega), q_dated k r3, cl_rt, sd_in (by omega), pf_v, ld_in (by omega), up_k (by decide), up_same, q_bc, cl_rt, pf_v, hd11]
  rw [show m_X5_makePlan_58_9_c47 g (chF t).1 0 0 d11 = _ from b1]
  exact c1

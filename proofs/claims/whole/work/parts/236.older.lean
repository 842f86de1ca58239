/-! older -/
theorem srt_4 {t : Nat → Int} {s : Int} (h1 : 0 ≤ sk t s 1 ∧ sk t s 1 ≤ 2) : (srt t s = 4 → sk t s 1 = 1) ∧ (sya t s ≠ -1 → sk t s 1 = 1 → srt t s = 4) := by
  have key : srt t s = 0 ∨ srt t s = 1 ∨ srt t s = 2 ∨ srt t s = 3 + sk t s 1 := by
    unfold srt
    split
    · omega
    · split
      · omega
      · split <;> omega
  refine ⟨fun h => by omega, fun h h2 => ?_⟩
  unfold sya at h
  by_cases x : srt t s = 4
  · exact x
  · rw [if_neg x] at h
    by_cases y : srt t s = 5
    · omega
    · rw [if_neg y] at h; exact absurd rfl h
noncomputable def nxs (t : Nat → Int) (p tt : Int) (U : Int → Bool) (s b : Int) : Int := if (U s = false ∧ srt t s = 4 ∧ (sk t s 2 = p ∨ abv t (sk t s 2) p = true) ∧ tt ≤ sya t s) ∧ (b = -1 ∨ sya t b < sya t s) then s else b
noncomputable def nxt (t : Nat → Int) (p tt : Int) (U : Int → Bool) : Int := fo (nxs t p tt U) (t 1).toNat 0 (-1)
theorem nxt_rng {t : Nat → Int} (hn : 0 ≤ t 1) (p tt : Int) (U : Int → Bool) : -1 ≤ nxt t p tt U ∧ nxt t p tt U < t 1 := by
  have h := fo_inv (g := nxs t p tt U) (fun i b => 0 ≤ i ∧ -1 ≤ b ∧ b < i) (t 1).toNat 0 (-1) (by omega) (fun j b _ _ h => by unfold nxs; split <;> omega)
  unfold nxt
  omega
theorem q_next {p tt S V : Int} {U : Int → Bool} {d : D9} {t : Nat → Int} (k : TK t) (r : RW d t) (ht : 1 ≤ tt ∧ tt ≤ 400) (hS : 0 ≤ S ∧ S < 1073741824) (hb : ∀ u, 0 ≤ u → u < 30 → tb S u = (decide (u = p) || abv t u p)) (hV : 0 ≤ V ∧ V < 1073741824) (hU : ∀ s, 0 ≤ s → s < 30 → tb V s = U s) : m_X6_nextOldest_9 S tt V d = rt (nxt t p tt U) d := by
  obtain ⟨n0, n1, n2, n3⟩ := TKn k
  have z := (fix_fu (z := fun _ _ _ _ _ _ => none) (B := fun k => b_X6_nextOldest_9_c6 k) (fun k s b => k S tt V b s d) 0 (t 1) (nxs t p tt U) (fun s b => 0 ≤ s ∧ -1 ≤ b ∧ b < s) (fun b => rt b d) (-1) (by omega) (by omega) ?_ ?_).2
  · rw [Int.sub_zero] at z; exact z
  · intro k' b hI
    simp only [b_X6_nextOldest_9_c6]
    rw [(RWs r).1, if_pos (Int.le_refl _)]
  · intro k' s b hlt hI
    obtain ⟨rA, rC, rJ⟩ := (RWs r).2 s hI.1 hlt
    have hk := TKs k s hI.1 hlt
    have y1 := sya_rng t s
    have y2 := sya_rng t b
    obtain ⟨x1, x2⟩ := srt_4 (t := t) (s := s) hk.2.1
    refine ⟨by unfold nxs; split <;> omega, ?_⟩
    simp only [b_X6_nextOldest_9_c6]
    rw [(RWs r).1, w32_id (by omega), w32_id (by omega), if_neg (by omega), q_isIn (by omega), cl_rt, w32_bi, hU s hI.1 (by omega), q_speaks (TKn k) hk ⟨hI.1, hlt⟩ rA rJ (by omega) hS, cl_rt, w32_bi, ld_in (by omega), rJ.2, w32_id (by omega), w32_id (by omega), w32_id (by omega), w32_id (by omega), ld_in (by omega), rJ.2]
    unfold nxs
    cases hu : U s
    · rw [bi_f, if_neg (by omega)]
      by_cases a : sk t s 1 = 1
      · have hp := hk.2.2.1 (by omega)
        rw [hb _ (by omega) (by omega)]
        by_cases b1 : sya t s = -1
        · rw [if_pos (by simp [b1, bi]), if_neg (by omega)]
        · have a4 := x2 b1 a
          by_cases c1 : sk t s 2 = p ∨ abv t (sk t s 2) p = true
          · have c2 : (decide (sk t s 2 = p) || abv t (sk t s 2) p) = true := by simpa using c1
            rw [c2, if_neg (by simp [a, b1, bi])]
            by_cases e1 : sya t s < tt
            · rw [if_pos e1, if_neg (by omega)]
            · rw [if_neg e1]
              by_cases e2 : b = -1
              · rw [if_pos e2, if_pos ⟨⟨rfl, a4, c1, by omega⟩, Or.inl e2⟩]
              · rw [if_neg e2, ld_in (by omega), ((RWs r).2 b (by omega) (by omega)).2.2.2, w32_id (by omega), w32_id (by omega)]
                by_cases e3 : sya t b < sya t s
                · rw [if_neg (by omega), if_pos ⟨⟨rfl, a4, c1, by omega⟩, Or.inr e3⟩]
                · rw [if_pos (by omega), if_neg (by rintro ⟨_, h | h⟩ <;> omega)]
          · have c2 : (decide (sk t s 2 = p) || abv t (sk t s 2) p) = false := by
              cases hz : (decide (sk t s 2 = p) || abv t (sk t s 2) p) with
              | false => rfl
              | true => exact absurd (by simpa using hz) c1
            rw [c2, if_pos (by simp [bi]), if_neg (fun h => c1 h.1.2.2.1)]
      · rw [if_pos (by simp [a, bi]), if_neg (fun h => a (x1 h.1.2.1))]
    · rw [bi_t, if_pos ne10, if_neg (by rintro ⟨⟨h, _⟩, _⟩; cases h)]
theorem p_next {p tt : Int} {U : Int → Bool} {d : D9} {t : Nat → Int} (L : LR d t) (hp : 0 ≤ p ∧ p < t 0) (ht : 1 ≤ tt ∧ tt ≤ 400) (hU : ∀ s, 0 ≤ s → s < 30 → d 183 s.toNat = bi (U s)) : m_X12_sayingMost_174 p tt d = rt (nxt t p tt U) d := by
  obtain ⟨n0, n1, n2, n3⟩ := TKn L.2.1
  have z := (fix_fu (z := fun _ _ _ _ _ => none) (B := fun k => b_X12_sayingMost_174_c5 k) (fun k s b => k p tt b s d) 0 (t 1) (nxs t p tt U) (fun s b => 0 ≤ s ∧ -1 ≤ b ∧ b < s) (fun b => rt b d) (-1) (by omega) (by omega) ?_ ?_).2
  · rw [Int.sub_zero] at z; exact z
  · intro k' b hI
    simp only [b_X12_sayingMost_174_c5]
    rw [ld_in (by omega), Int.toNat_one, L.1, if_pos (Int.le_refl _)]
  · intro k' s b hlt hI
    have hk := TKs L.2.1 s hI.1 hlt
    have y1 := sya_rng t s
    have y2 := sya_rng t b
    have y3 := srt_rng (t := t) (s := s) hk.2.1
    obtain ⟨x1, x2⟩ := srt_4 (t := t) (s := s) hk.2.1
    refine ⟨by unfold nxs; split <;> omega, ?_⟩
    simp only [b_X12_sayingMost_174_c5]
    rw [ld_in (by omega), Int.toNat_one, L.1, w32_id (by omega), w32_id (by omega), if_neg (by omega), ld_in (by omega), hU s hI.1 (by omega), w32_bi, srt_t L.2.1 L.1 ⟨hI.1, hlt⟩, cl_rt, w32_id (by omega), w32_id (by omega), sk_of L.1 (by omega), cl_rt]
    have tail : m_X12_sayingMost_174_c62 k' p tt b s d = if tt ≤ sya t s ∧ (b = -1 ∨ sya t b < sya t s) then k' p tt s (s + 1) d else k' p tt b (s + 1) d := by
      unfold m_X12_sayingMost_174_c62
      rw [sya_t L.2.1 L.1 ⟨hI.1, hlt⟩, cl_rt, w32_id (by omega), w32_id (by omega), w32_id (by omega), w32_id (by omega)]
      by_cases e1 : tt ≤ sya t s
      · rw [if_pos e1]
        by_cases e2 : b = -1
        · rw [if_pos e2, if_pos ⟨e1, Or.inl e2⟩]
        · rw [if_neg e2, sya_t L.2.1 L.1 ⟨hI.1, hlt⟩, cl_rt, sya_t L.2.1 L.1 (by omega), cl_rt, w32_id (by omega), w32_id (by omega)]
          by_cases e3 : sya t b < sya t s
          · rw [if_neg (by omega), if_pos ⟨e1, Or.inr e3⟩]
          · rw [if_pos (by omega), if_neg (by rintro ⟨_, h | h⟩ <;> omega)]
      · rw [if_neg e1, if_neg (fun h => e1 h.1)]
    unfold nxs
    cases hu : U s
    · rw [bi_f, if_neg (by omega)]
      by_cases a4 : srt t s = 4
      · rw [if_neg (by omega)]
        have hp2 := hk.2.2.1 (by have := x1 a4; omega)
        rw [w32_id (by omega), w32_id (by omega), sk_of L.1 (by omega), cl_rt, LR_abv L (by omega) (by omega), cl_rt, w32_bi, tail]
        by_cases c0 : sk t s 2 = p
        · rw [if_pos c0]
          by_cases e1 : tt ≤ sya t s ∧ (b = -1 ∨ sya t b < sya t s)
          · rw [if_pos e1, if_pos ⟨⟨rfl, a4, Or.inl c0, e1.1⟩, e1.2⟩]
          · rw [if_neg e1, if_neg (fun h => e1 ⟨h.1.2.2.2, h.2⟩)]
        · rw [if_neg c0]
          cases c1 : abv t (sk t s 2) p
          · rw [bi_f, if_pos rfl, if_neg (by rintro ⟨⟨_, _, h | h, _⟩, _⟩
                                             · exact c0 h
                                             · cases h)]
          · rw [bi_t, if_neg ne10]
            by_cases e1 : tt ≤ sya t s ∧ (b = -1 ∨ sya t b < sya t s)
            · rw [if_pos e1, if_pos ⟨⟨rfl, a4, Or.inr rfl, e1.1⟩, e1.2⟩]
            · rw [if_neg e1, if_neg (fun h => e1 ⟨h.1.2.2.2, h.2⟩)]
      · rw [if_pos a4, if_neg (fun h => a4 h.1.2.1)]
    · rw [bi_t, if_pos ne10, if_neg (by rintro ⟨⟨h, _⟩, _⟩; cases h)]
noncomputable def old7 (t : Nat → Int) (p tt : Int) : Nat → (Int → Bool) → Int → Int → Int × Int
  | 0, _, u, l => (u, l)
  | n + 1, U, u, l => if nxt t p tt U = -1 then (u, l) else old7 t p tt n (fun s => U s || decide (nxt t p tt U = s)) (u * lkU t (nxt t p tt U)) (l * lkL t (nxt t p tt U))
def OI (n : Nat) (u l : Int) : Prop := 1 ≤ u ∧ u ≤ l ∧ l * 2500 ^ n ≤ 1000000000000000000
theorem OI_s {t : Nat → Int} (k : TK t) {s : Int} (hs : 0 ≤ s ∧ s < t 1) {n : Nat} {u l : Int} (h : OI (n + 1) u l) : OI n (u * lkU t s) (l * lkL t s) := by
  obtain ⟨h1, h2, h3⟩ := h
  have r := lk_rng k hs
  have a := mul_rng (a := u) (b := lkU t s) (A := l) (B := lkL t s) ⟨h1, h2⟩ (by omega)
  refine ⟨a.1, a.2, ?_⟩
  have b : l * lkL t s ≤ l * 2500 := Int.mul_le_mul_of_nonneg_left r.2.2.2 (by omega)
  have c : (0 : Int) ≤ 2500 ^ n := Int.le_of_lt (Int.pow_pos (by omega))
  have e : l * lkL t s * 2500 ^ n ≤ l * 2500 * 2500 ^ n := Int.mul_le_mul_of_nonneg_right b c
  have e2 : l * 2500 ^ (n + 1) = l * 2500 * 2500 ^ n := by rw [Int.pow_succ, Int.mul_comm (2500 ^ n) 2500, Int.mul_assoc]
  omega
theorem OI_e {n : Nat} {u l : Int} (h : OI n u l) : (0 ≤ l - u ∧ l - u ≤ 1000000000000000000) ∧ 0 < l ∧ l ≤ 1000000000000000000 := by
  obtain ⟨h1, h2, h3⟩ := h
  have : l * 1 ≤ l * 2500 ^ n := Int.mul_le_mul_of_nonneg_left (by
    have := Int.pow_pos (n := 2500) (m := n) (by omega)
    omega) (by omega)
  omega
theorem q_old_l {p tt S : Int} {d : D9} {t : Nat → Int} (k : TK t) (r : RW d t) (ht : 1 ≤ tt ∧ tt ≤ 400) (hS : 0 ≤ S ∧ S < 1073741824) (hb : ∀ u, 0 ≤ u → u < 30 → tb S u = (decide (u = p) || abv t u p)) : ∀ (m f : Nat) (i V u l : Int) (U : Int → Bool), m < f → i + m = 5 → 0 ≤ i → (0 ≤ V ∧ V < 1073741824) → (∀ s, 0 ≤ s → s < 30 → tb V s = U s) → OI m u l →
    fix9 (fun _ _ _ _ _ _ _ => none) (fun k => b_X10_olderInto_1_53_c22 k) f tt S V u l i d = rt 0 (up (up d 53 0 (fU ((old7 t p tt m U u l).2 - (old7 t p tt m U u l).1) (old7 t p tt m U u l).2)) 53 1 (fL ((old7 t p tt m U u l).2 - (old7 t p tt m U u l).1) (old7 t p tt m U u l).2))
  | 0, f + 1, i, V, u, l, U, _, he, h0, hV, hU, hI => by
    have o := OI_e hI
    rw [fx6, b_X10_olderInto_1_53_c22, if_pos (by rw [show i = 5 by omega]; exact Int.le_refl _), m_X10_olderInto_1_53_c90, q_put o.1 o.2, cl_rt]
    rfl
  | m + 1, f + 1, i, V, u, l, U, hf, he, h0, hV, hU, hI => by
    have n1 := (TKn k).2.1
    have o := OI_e hI
    have nr := nxt_rng n1.1 p tt U
    rw [fx6, b_X10_olderInto_1_53_c22, w32_id (by omega), w32_id (by omega), if_neg (by omega), q_next k r ht hS hb hV hU, cl_rt, w32_id (by omega), w32_id (by omega)]
    simp only [old7]
    by_cases x : nxt t p tt U = -1
    · rw [if_neg (by omega), if_pos x, m_X10_olderInto_1_53_c90, q_put o.1 o.2, cl_rt]
    · have lr := lk_rng k (s := nxt t p tt U) (by omega)
      have rk := shl9_rng (i := nxt t p tt U) (by omega)
      rw [if_pos x, if_neg x, lt_v, q_leakU k r (by omega), cl_rt, lt_v, q_leakL k r (by omega), cl_rt, lt_v, w32_id (by omega), w32_id (by omega)]
      exact q_old_l k r ht hS hb m f (i + 1) _ _ _ _ (by omega) (by omega) (by omega) (or9_rng (by omega)) (fun s a b => by rw [tb_or (by omega), tb_shl (by omega) a, hU s a b]) (OI_s k (by omega) hI)
  | _, 0, _, _, _, _, _, hf, _, _, _, _, _ => absurd hf (Nat.not_lt_zero _)
theorem LR_sm {d d' : D9} {t : Nat → Int} (h : LR d t) (e1 : d' 175 = d 175) (e2 : d' 182 = d 182) : LR d' t := ⟨e1.trans h.1, h.2.1, fun u l a b c e => by rw [e2]; exact h.2.2 u l a b c e⟩
theorem p_old_l {p tt : Int} {t : Nat → Int} (hp : 0 ≤ p ∧ p < t 0) (ht : 1 ≤ tt ∧ tt ≤ 400) : ∀ (m f : Nat) (i u l : Int) (U : Int → Bool) (d : D9), m < f → i + m = 5 → 0 ≤ i → LR d t → (∀ s, 0 ≤ s → s < 30 → d 183 s.toNat = bi (U s)) → OI m u l →
    ∃ d1, fix9 (fun _ _ _ _ _ _ => none) (fun k => b_X12_older_174_c74 k) f p tt u l i d = rt 0 (up (up d1 174 20 (fU ((old7 t p tt m U u l).2 - (old7 t p tt m U u l).1) (old7 t p tt m U u l).2)) 174 21 (fL ((old7 t p tt m U u l).2 - (old7 t p tt m U u l).1) (old7 t p tt m U u l).2)) ∧ MS d d1 ∧ d1 174 3 = d 174 3
  | 0, f + 1, i, u, l, U, d, _, he, h0, L, hU, hI => by
    have o := OI_e hI
    refine ⟨d, ?_, MS.rf d, rfl⟩
    rw [fx5, b_X12_older_174_c74, if_pos (by rw [show i = 5 by omega]; exact Int.le_refl _), p_frac o.1 o.2, cl_rt]
    rfl
  | m + 1, f + 1, i, u, l, U, d, hf, he, h0, L, hU, hI => by
    have k := L.2.1
    have n1 := (TKn k).2.1
    have o := OI_e hI
    have nr := nxt_rng n1.1 p tt U
    rw [fx5, b_X12_older_174_c74, w32_id (by omega), w32_id (by omega), if_neg (by omega), p_next L hp ht hU, cl_rt, w32_id (by omega), w32_id (by omega)]
    simp only [old7]
    by_cases x : nxt t p tt U = -1
    · rw [if_neg (by omega), if_pos x]
      have hI' : OI m u l := ⟨hI.1, hI.2.1, by
        have c : (0 : Int) < 2500 ^ m := Int.pow_pos (by omega)
        have e : l * 2500 ^ m ≤ l * 2500 ^ (m + 1) := Int.mul_le_mul_of_nonneg_left (by rw [Int.pow_succ]; omega) (by have := hI.1; have := hI.2.1; omega)
        exact Int.le_trans e hI.2.2⟩
      obtain ⟨d1, a1, a2, a3⟩ := p_old_l hp ht m f (i + 1) u l U d (by omega) (by omega) (by omega) L hU hI'
      have eq : old7 t p tt m U u l = (u, l) := by
        cases m with
        | zero => rfl
        | succ m => simp only [old7, if_pos x]
      rw [eq] at a1
      exact ⟨d1, a1, a2, a3⟩
    · rw [if_pos x, if_neg x, sd_in (by omega)]
      have L5 : LR (up d 183 (nxt t p tt U).toNat (1 % 2)) t := LR_sm L (up_k (by decide)) (up_k (by decide))
      rw [p_layLeaked k L5.1 (by omega), cl_rt, lt_v, lt_v]
      obtain ⟨d1, a1, a2, a3⟩ := p_old_l hp ht m f (i + 1) (u * lkU t (nxt t p tt U)) (l * lkL t (nxt t p tt U)) (fun s => U s || decide (nxt t p tt U = s)) (up (up (up d 183 (nxt t p tt U).toNat (1 % 2)) 174 22 (lkU t (nxt t p tt U))) 174 23 (lkL t (nxt t p tt U))) (by omega) (by omega) (by omega) (LR_sm L5 ((up_k (by decide)).trans (up_k (by decide))) ((up_k (by decide)).trans (up_k (by decide)))) (fun s a b => by
          rw [up_k (by decide), up_k (by decide), up_get]
          by_cases y : nxt t p tt U = s
          · subst y; simp [bi]
          · have : ¬ s.toNat = (nxt t p tt U).toNat := by omega
            simp only [this, y, and_false, if_false, decide_false, Bool.or_false]
            exact hU s a b) (OI_s k (by omega) hI)
      refine ⟨d1, a1, ((MS.w (by unfold SCR; omega) (by decide) (by omega) (by omega)).tr (MS.u2 _ _ _)).tr a2, a3⟩
  | _, 0, _, _, _, _, _, hf, _, _, _, _, _ => absurd hf (Nat.not_lt_zero _)
theorem p_old_z {p tt : Int} : ∀ (m f : Nat) (i : Int) (d : D9), m < f → i + m = 30 → 0 ≤ i → (∀ s : Int, 0 ≤ s → s < i → d 183 s.toNat = 0) → ∃ d1, fix9 (fun _ _ _ _ => none) (fun k => b_X12_older_174_c47 k) f p tt i d = m_X12_older_174_c74 p tt 1 1 0 d1 ∧ (∀ k, k ≠ 183 → d1 k = d k) ∧ ∀ s : Int, 0 ≤ s → s < 30 → d1 183 s.toNat = 0
  | 0, f + 1, i, d, _, he, h0, hz => by
    refine ⟨d, ?_, fun _ _ => rfl, fun s a b => hz s a (by omega)⟩
    rw [fx3, b_X12_older_174_c47, if_pos (by rw [show i = 30 by omega]; exact Int.le_refl _)]
  | m + 1, f + 1, i, d, hf, he, h0, hz => by
    obtain ⟨d1, a1, a2, a3⟩ := p_old_z (p := p) (tt := tt) m f (i + 1) (up d 183 i.toNat 0) (by omega) (by omega) (by omega) (fun s a b => by
      rw [up_get]
      by_cases y : s = i
      · subst y; simp
      · have : ¬ s.toNat = i.toNat := by omega
        simp only [this, and_false, if_false]
        exact hz s a (by omega))
    refine ⟨d1, ?_, fun k hk => (a2 k hk).trans (up_k hk), a3⟩
    rw [fx3, b_X12_older_174_c47, w32_id (by omega), w32_id (by omega), if_neg (by omega), sd_in (by omega)]
    exact a1
  | _, 0, _, _, hf, _, _, _ => absurd hf (Nat.not_lt_zero _)
theorem MS.o1 {d d' : D9} {n : Nat} (hn : 179 ≤ n ∧ n ≤ 190) (h : ∀ k, k ≠ n → d' k = d k) : MS d d' :=
  ⟨⟨fun k hk => h k (by intro e; subst e; exact hk (by unfold SCR; omega)), ⟨by rw [h 51 (by omega)], by rw [h 51 (by omega)], by rw [h 51 (by omega)]⟩, by rw [h 174 (by omega)], by rw [h 174 (by omega)], by rw [h 174 (by omega)], by rw [h 174 (by omega)], by rw [h 174 (by omega)]⟩, h 194 (by omega)⟩
theorem o_older {p tt : Int} {d : D9} (q : Q7 d) (hp : I32 p) (ht : I32 tt) : AF d (m_X11_older_0 p tt d) (fun d' => cl (m_X12_older_174 p tt d') (fun _ d2 => rt 0 d2)) fN := by
  have n0 := (TKn q.1).1
  have ha := q_askPaint (d := d) hp (RWp q.2).1 n0
  by_cases hc : 0 ≤ p ∧ p < d 175 0
  · by_cases hd : 1 ≤ tt ∧ tt ≤ 400
    · have I0 : OI 5 1 1 := ⟨by omega, by omega, by decide⟩
      obtain ⟨r, h1, h2, h3⟩ := q_withAbove (TKn q.1) (TKo q.1) (RWo q.2) (p := p) (by omega)
      have z := q_old_l q.1 q.2 hd h1 h3 5 FU 0 0 1 1 (fun _ => false) (by decide) (by omega) (by omega) (by omega) (fun s _ _ => tb_0 s) I0
      refine AF.mk q 0 (fU ((old7 (d 175) p tt 5 (fun _ => false) 1 1).2 - (old7 (d 175) p tt 5 (fun _ => false) 1 1).1) (old7 (d 175) p tt 5 (fun _ => false) 1 1).2) (fL ((old7 (d 175) p tt 5 (fun _ => false) 1 1).2 - (old7 (d 175) p tt 5 (fun _ => false) 1 1).1) (old7 (d 175) p tt 5 (fun _ => false) 1 1).2) ?_ (fun d' q' e => ?_)
      · unfold m_X11_older_0 m_X10_olderInto_1_53
        rw [ha, if_pos hc, cl_rt, ask_i ht (by omega), if_pos hd, cl_rt, h2, cl_rt]
        rw [show m_X10_olderInto_1_53_c22 tt r 0 1 1 0 d = _ from z, cl_rt]
      · obtain ⟨d2, a1, a2, a3, a4⟩ := lr3 q.1 e
        obtain ⟨d3, b1, b2, b3⟩ := p_old_z (p := p) (tt := tt) 30 FU 0 d2 (by decide) (by omega) (by omega) (fun s a b => by omega)
        have L3 : LR d3 (d 175) := LR_sm a4 (b2 175 (by decide)) (b2 182 (by decide))
        obtain ⟨d4, c1, c2, c3⟩ := p_old_l hc hd 5 FU 0 1 1 (fun _ => false) d3 (by decide) (by omega) (by omega) L3 b3 I0
        refine ⟨d4, ?_, (a2.tr (MS.o1 (n := 183) (by omega) b2)).tr c2, by rw [c3, b2 174 (by decide)]; exact a3⟩
        unfold m_X12_older_174 m_X12_older_174_c30
        rw [isPaint_t q.1 e hp, cl_rt, dec_t hc, bi_t, t1_0, if_pos ne10, w32_id ht, within_i ht (by omega), cl_rt, dec_t hd, bi_t, t1_0, if_neg ne10, pf_v, (m3 d' 0).2, t0_0, if_pos (by omega), a1, cl_rt]
        rw [show m_X12_older_174_c47 p tt 0 d2 = _ from b1, show m_X12_older_174_c74 p tt 1 1 0 d3 = _ from c1, cl_rt]
    · refine AF.thr q 0 ?_ (fun d' q' e => ?_)
      · unfold m_X11_older_0
        rw [ha, if_pos hc, cl_rt, ask_i ht (by omega), if_neg hd, cl_th]
      · unfold m_X12_older_174 m_X12_older_174_c30
        rw [isPaint_t q.1 e hp, cl_rt, dec_t hc, bi_t, t1_0, if_pos ne10, w32_id ht, within_i ht (by omega), cl_rt, dec_f hd, bi_f, t0_0, if_pos rfl, pf_v, (m3 d' 2).2, if_neg (by decide), cl_rt]
        exact ⟨_, _, rfl, MS.u3 d' 2, (m3 d' 2).2⟩
  · refine AF.thr q 2 ?_ (fun d' q' e => ?_)
    · unfold m_X11_older_0
      rw [ha, if_neg hc, cl_th]
    · unfold m_X12_older_174 m_X12_older_174_c30
      rw [isPaint_t q.1 e hp, cl_rt, dec_f hc, bi_f, t0_0, if_neg (by omega), pf_v, (m3 d' 1).2, t1_0, if_neg (by omega), cl_rt]
      exact ⟨_, _, rfl, MS.u3 d' 1, (m3 d' 1).2⟩

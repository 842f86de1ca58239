/-! one paint over another -/
theorem ex_or {P Q : Int → Bool} : ∀ {n : Nat} {i : Int}, ex (fun k => P k || Q k) n i = (ex P n i || ex Q n i)
  | 0, _ => rfl
  | n + 1, i => by
    simp only [ex]
    rw [ex_or (n := n)]
    cases P i <;> cases Q i <;> cases ex P n (i + 1) <;> rfl
theorem ord_key (p q r s : Prop) [Decidable p] [Decidable q] [Decidable r] [Decidable s] (E : Bool) (d : D9) : (if ¬ p then (if ¬ r then rt (bi E) d else if ¬ s then rt (bi E) d else rt (1 % 2) d) else if q then rt (1 % 2) d else if ¬ r then rt (bi E) d else if ¬ s then rt (bi E) d else rt (1 % 2) d) = rt (bi ((decide (p ∧ q) || decide (r ∧ s)) || E)) d := by
  by_cases a : p <;> by_cases b : q <;> by_cases c : r <;> by_cases e : s <;> simp [a, b, c, e, bi]
theorem p_isOrd_l {u l : Int} {t : Nat → Int} {d : D9} (k : TK t) (h : d 175 = t) (hu : 0 ≤ u ∧ u < 30) (hl : 0 ≤ l ∧ l < 30) : ∀ (m f : Nat) (i : Int), m < f → i + m = t 2 → 0 ≤ i → fix9 (fun _ _ _ _ => none) (fun k => b_X12_isOrdered_174_c4 k) f u l (256 + 2 * i) d = rt (bi (ex (fun k => decide (oU t k = u ∧ oL t k = l) || decide (oU t k = l ∧ oL t k = u)) m i)) d
  | 0, f + 1, i, _, hm, h0 => by
    have n := TKn k
    unfold T7n at n
    rw [fx3, b_X12_isOrdered_174_c4, ld_in (by omega), h, show ((2 : Int)).toNat = 2 from rfl, w32_id (by omega), w32_id (by omega), if_pos (by omega)]; rfl
  | m + 1, f + 1, i, hf, hm, h0 => by
    have n := TKn k
    unfold T7n at n
    obtain ⟨o1, o2⟩ := TKo k i h0 (by omega)
    have ih := p_isOrd_l k h hu hl m f (i + 1) (by omega) (by omega) (by omega)
    have eU : t (256 + 2 * i).toNat = oU t i := rfl
    have eL : t (256 + 2 * i + 1).toNat = oL t i := rfl
    rw [fx3, b_X12_isOrdered_174_c4, m_X12_isOrdered_174_c42, ld_in (by omega), h, show ((2 : Int)).toNat = 2 from rfl, w32_id (by omega), w32_id (by omega), if_neg (by omega), show 256 + 2 * i + 2 = 256 + 2 * (i + 1) by omega, ih]
    simp (disch := omega) only [ld_in, h]
    rw [eU, eL, w32_id (a := oU t i) (by omega), w32_id (a := oL t i) (by omega), w32_id (a := u) (by omega), w32_id (a := l) (by omega)]
    simp only [ex]
    exact ord_key (oU t i = u) (oL t i = l) (oU t i = l) (oL t i = u) _ d
  | _, 0, _, hf, _, _ => absurd hf (Nat.not_lt_zero _)
theorem p_isOrd {u l : Int} {t : Nat → Int} {d : D9} (k : TK t) (h : d 175 = t) (hu : 0 ≤ u ∧ u < 30) (hl : 0 ≤ l ∧ l < 30) : m_X12_isOrdered_174 u l d = rt (bi (ord t u l || ord t l u)) d := by
  have n := TKn k
  unfold T7n at n
  have x := p_isOrd_l k h hu hl (t 2).toNat FU 0 (by unfold FU; omega) (by omega) (by omega)
  rw [ex_or] at x
  exact x
def nov (t t' : Nat → Int) (u l : Int) : Prop := t' 2 = t 2 + 1 ∧ oU t' (t 2) = u ∧ oL t' (t 2) = l ∧ ∀ j : Nat, j ≠ 2 → ((j : Int) < 256 + 2 * t 2 ∨ 258 + 2 * t 2 ≤ j) → t' j = t j
theorem T_over {t t' : Nat → Int} {d d1 : D9} {u l : Int} (k : TK t) (r : RW d t) (hn : t 2 < 40) (hu : 0 ≤ u ∧ u < t 0) (hl : 0 ≤ l ∧ l < t 0) (h : nov t t' u l) (ho : ord t u l = false)
    (c0 : d1 2 0 = d 2 0) (c1 : d1 2 1 = t 2 + 1) (c7 : d1 7 = us (d 7) l.toNat (or9 (d 7 l.toNat) (shl9 1 u))) (c8 : d1 8 = us (d 8) u.toNat (or9 (d 8 u.toNat) (shl9 1 l))) (c6 : ∀ k, k ≠ 2 → k ≠ 7 → k ≠ 8 → d1 k = d k) : TK t' ∧ RW d1 t' := by
  have n := TKn k
  unfold T7n at n
  obtain ⟨h2, eu, el, hf⟩ := h
  have hA : ∀ lo hi, 3 ≤ lo ∧ hi ≤ 256 ∨ 336 ≤ lo → AGR t t' lo hi := fun lo hi h j x y => hf j (by omega) (by omega)
  have hN : ∀ j : Nat, j ≠ 2 → j < 16 → t' j = t j := fun j x y => hf j x (by omega)
  have nl := (TKy k).1
  have hU : ∀ i, 0 ≤ i → i < t 2 → oU t' i = oU t i ∧ oL t' i = oL t i := fun i x y => ⟨hf _ (by omega) (by omega), hf _ (by omega) (by omega)⟩
  have e2 : (t' 2).toNat = (t 2).toNat + 1 := by omega
  have hO : ∀ a b, ord t' a b = (ord t a b || decide (u = a ∧ l = b)) := fun a b => by
    unfold ord
    rw [e2, ex_last, show (0 : Int) + ((t 2).toNat : Int) = t 2 by omega, eu, el]
    congr 1
    exact ex_congr (fun i x y => by rw [(hU i (by omega) (by omega)).1, (hU i (by omega) (by omega)).2])
  have hT : ∀ p, cto t' p = cto t p + bi (decide (l = p)) := fun p => by
    unfold cto
    rw [e2, fo_last, show (0 : Int) + ((t 2).toNat : Int) = t 2 by omega, el]
    congr 1
    exact fo_congr' _ _ _ (fun i v x y => by rw [(hU i (by omega) (by omega)).2])
  obtain ⟨o1, o2, o3⟩ := RWo r
  have su := shl9_rng (i := u) (by omega)
  have sl := shl9_rng (i := l) (by omega)
  have rl := o1 l (by omega) (by omega)
  have ru := o1 u (by omega) (by omega)
  refine ⟨⟨?_, T7l_c (hN 4 (by omega) (by omega)) (hA _ _ (by omega)) (TKl k), T7p_c (hN 0 (by omega) (by omega)) (hA _ _ (by omega)) (by omega) (TKp k), ?_, T7s_c (by rw [hN 0 (by omega) (by omega)]; omega) (hN 1 (by omega) (by omega)) (by omega) (hA _ _ (by omega)) (TKs k), T7h_c (hN 3 (by omega) (by omega)) (by omega) (hA _ _ (by omega)) (TKh k), T7y_c (hN 5 (by omega) (by omega)) (hA _ _ (by omega)) (TKy k), T7w_c (hA _ _ (by omega)) (TKw k), T7r_c (hA _ _ (by omega)) (TKr k)⟩, R7l_t (hN 4 (by omega) (by omega)) (hA _ _ (by omega)) (R7l_c (RWl r) (c6 _ (by omega) (by omega) (by omega))), ?_, ⟨?_, ?_, ?_⟩, R7s_t (hN 1 (by omega) (by omega)) (by omega) (hA _ _ (by omega)) (hA _ _ (by omega)) (TKs k) (R7s_c (RWs r) (fun k x _ => c6 k (by omega) (by omega) (by omega))), R7h_t (hN 3 (by omega) (by omega)) (by omega) (hA _ _ (by omega)) (R7h_c (RWh r) (c6 _ (by omega) (by omega) (by omega)) (c6 _ (by omega) (by omega) (by omega)) (c6 _ (by omega) (by omega) (by omega))), R7y_t (hN 5 (by omega) (by omega)) (by omega) (hA _ _ (by omega)) (R7y_c (RWy r) (fun k x _ => c6 k (by omega) (by omega) (by omega))), R7w_t (hA _ _ (by omega)) (R7w_c (RWw r) (c6 _ (by omega) (by omega) (by omega)) (c6 _ (by omega) (by omega) (by omega))), R7r_t (hA _ _ (by omega)) (TKr k) (R7r_c (RWr r) (fun k x _ => c6 k (by omega) (by omega) (by omega)))⟩
  · unfold T7n
    rw [h2, hN 3 (by omega) (by omega), hN 1 (by omega) (by omega), hN 0 (by omega) (by omega)]
    omega
  · intro i x y
    rw [hN 0 (by omega) (by omega)]
    by_cases z : i = t 2
    · rw [z, eu, el]; exact ⟨hu, hl⟩
    · rw [(hU i x (by omega)).1, (hU i x (by omega)).2]; exact TKo k i x (by omega)
  · obtain ⟨r0, r1, r2, r3⟩ := RWp r
    refine ⟨by rw [c0, r0, hN 0 (by omega) (by omega)], by rw [c1, h2], fun p x y => ?_, fun p x y f w z => ?_⟩
    · rw [hN 0 (by omega) (by omega)] at y
      rw [c6 3 (by omega) (by omega) (by omega), c6 4 (by omega) (by omega) (by omega), c6 5 (by omega) (by omega) (by omega), c6 6 (by omega) (by omega) (by omega), pt_c (hA _ _ (by omega)) (by omega), pt_c (hA _ _ (by omega)) (by omega), pt_c (hA _ _ (by omega)) (by omega)]
      obtain ⟨y0, y1, y2, y3⟩ := r2 p x y
      exact ⟨y0, y1, y2, fun f w z => by rw [pt_c (hA _ _ (by omega)) (by omega)]; exact y3 f w z⟩
    · rw [hN 0 (by omega) (by omega)] at x
      rw [c6 6 (by omega) (by omega) (by omega)]
      exact r3 p x y f w z
  · intro x a b
    have := o1 x a b
    rw [c7, c8]
    constructor
    · by_cases z : x = l
      · rw [z, us_eq rfl]; exact or9_rng (by omega)
      · rw [us_ne (by omega)]; exact this.1
    · by_cases z : x = u
      · rw [z, us_eq rfl]; exact or9_rng (by omega)
      · rw [us_ne (by omega)]; exact this.2
  · intro a b a0 a1 b0 b1
    obtain ⟨x, y⟩ := o2 a b a0 a1 b0 b1
    rw [c7, c8, hO]
    constructor
    · by_cases z : b = l
      · subst z
        rw [us_eq rfl, tb_or (by omega), tb_shl (by omega) a0, x]
        simp
      · rw [us_ne (by omega), x, dec_f (fun h => z h.2.symm), Bool.or_false]
    · by_cases z : a = u
      · subst z
        rw [us_eq rfl, tb_or (by omega), tb_shl (by omega) b0, y]
        simp
      · rw [us_ne (by omega), y, dec_f (fun h => z h.1.symm), Bool.or_false]
  · intro p a b
    rw [c7, hT]
    by_cases z : p = l
    · subst z
      rw [us_eq rfl, bc_or rl.1 (by omega) (by rw [(o2 u p (by omega) (by omega) a b).1, ho]), o3 p a b, dec_t rfl, bi_t]
    · rw [us_ne (by omega), dec_f (fun h => z h.symm), bi_f, Int.add_zero]; exact o3 p a b
theorem q_over {u l : Int} {d : D9} {t : Nat → Int} (k : TK t) (r : RW d t) (hu : 0 ≤ u ∧ u < t 0) (hl : 0 ≤ l ∧ l < t 0) : m_X3_layOver_2 u l d = if t 2 = 40 ∨ (ord t u l || ord t l u) = true then rt 0 d else rt 1 (up (up (up d 7 l.toNat (or9 (d 7 l.toNat) (shl9 1 u))) 8 u.toNat (or9 (d 8 u.toNat) (shl9 1 l))) 2 1 (t 2 + 1)) := by
  have n := TKn k
  unfold T7n at n
  obtain ⟨o1, o2, o3⟩ := RWo r
  have rl := o1 l (by omega) (by omega)
  have ru := o1 u (by omega) (by omega)
  have r1 := (RWp r).2.1
  unfold m_X3_layOver_2
  rw [r1, w32_id (a := t 2) (by omega)]
  by_cases x : t 2 = 40
  · rw [if_pos (show w32 40 ≤ t 2 by rw [x]; decide), if_pos (Or.inl x)]; rfl
  · rw [if_neg (show ¬ w32 40 ≤ t 2 by rw [w32_id (by omega)]; omega), ld_in (by omega), q_isIn (by omega), cl_rt, w32_bi, (o2 u l hu.1 (by omega) hl.1 (by omega)).1]
    cases h1 : ord t u l
    · rw [bi_f, if_neg (by omega), ld_in (by omega), q_isIn (by omega), cl_rt, w32_bi, (o2 l u hl.1 (by omega) hu.1 (by omega)).1]
      cases h2 : ord t l u
      · rw [bi_f, if_pos rfl, if_neg (by simp [x]), ld_in (by omega), sd_in (by omega), ld_in (by omega), sd_in (by omega), pf_v]
        simp (disch := omega) only [up_o, r1]
        rfl
      · rw [bi_t, if_neg ne10, if_pos (show t 2 = 40 ∨ (false || true) = true from Or.inr rfl)]; rfl
    · rw [bi_t, if_pos ne10, if_pos (show t 2 = 40 ∨ (true || ord t l u) = true from Or.inr rfl)]; rfl
theorem o_over {u l : Int} {d : D9} (v : INV d) (hu : I32 u) (hl : I32 l) : AI d (m_X11_over_0 u l d) (m_X12_over_174 u l) fN := by
  have q := v.1
  have n := TKn q.1
  unfold T7n at n
  have r0 := (RWp q.2).1
  have hC := m_X11_over_0.eq_1 u l d
  rw [q_askPaint hu r0 n.1] at hC
  have c46 : ∀ (d' : D9) (s : Int), 1 ≤ s ∧ s ≤ 2 → ∃ b d2, m_X12_over_174_c46 u l s d' = rt b d2 ∧ MS d' d2 ∧ d2 174 3 = s := fun d' s hs => by
    unfold m_X12_over_174_c46
    rw [pf_v, m3w, w32_id (by omega), if_pos (by omega)]
    exact ⟨_, _, rfl, MS.u3 d' s, m3w _ _⟩
  have hM : ∀ d' : D9, d' 175 = d 175 → m_X12_over_174 u l d' = m_X12_over_174_c46 u l (if (0 ≤ u ∧ u < d 175 0) ∧ 0 ≤ l ∧ l < d 175 0 then (if u ≠ l ∧ pt (d 175) u 1 = pt (d 175) l 1 then 0 else 2) else 1) d' := fun d' h => by
    unfold m_X12_over_174
    rw [isPaint_t q.1 h hu, cl_rt, w32_bi]
    by_cases x : 0 ≤ u ∧ u < d 175 0
    · rw [dec_t x, bi_t, if_neg ne10, isPaint_t q.1 h hl, cl_rt, w32_bi]
      by_cases y : 0 ≤ l ∧ l < d 175 0
      · have hx := (TKp q.1 u x.1 x.2).2.1
        have hy := (TKp q.1 l y.1 y.2).2.1
        rw [dec_t y, bi_t, if_pos ne10, w32_id hu, w32_id hl, pt_of h (by omega), cl_rt, pt_of h (by omega), cl_rt, w32_id (by omega), w32_id (by omega), if_pos (show (0 ≤ u ∧ u < d 175 0) ∧ 0 ≤ l ∧ l < d 175 0 from ⟨x, y⟩)]
        by_cases z : u = l
        · rw [if_pos z, if_neg (fun g => g.1 z)]
        · rw [if_neg z]
          by_cases w : pt (d 175) u 1 = pt (d 175) l 1
          · rw [if_pos w, if_pos ⟨z, w⟩]
          · rw [if_neg w, if_neg (fun g => w g.2)]
      · rw [dec_f y, bi_f, if_neg (by omega), if_neg (show ¬ ((0 ≤ u ∧ u < d 175 0) ∧ 0 ≤ l ∧ l < d 175 0) from fun g => y g.2)]
    · rw [dec_f x, bi_f, if_pos rfl, if_neg (show ¬ ((0 ≤ u ∧ u < d 175 0) ∧ 0 ≤ l ∧ l < d 175 0) from fun g => x g.1)]
  by_cases x : 0 ≤ u ∧ u < d 175 0
  · rw [if_pos x, cl_rt, q_askPaint hl r0 n.1] at hC
    by_cases y : 0 ≤ l ∧ l < d 175 0
    · have hx := (TKp q.1 u x.1 x.2).2.1
      have hy := (TKp q.1 l y.1 y.2).2.1
      rw [if_pos y, cl_rt, w32_id hu, w32_id hl, ld_in (by omega), ld_in (by omega), ((RWp q.2).2.2.1 u x.1 x.2).2.1, ((RWp q.2).2.2.1 l y.1 y.2).2.1, w32_id (by omega), w32_id (by omega), m_X11_over_0_c38] at hC
      by_cases z : u ≠ l ∧ pt (d 175) u 1 = pt (d 175) l 1
      · rw [if_neg z.1, if_pos z.2, q_over q.1 q.2 x y] at hC
        have hM2 : ∀ d' : D9, d' 175 = d 175 → m_X12_over_174 u l d' = m_X12_over_174_c46 u l 0 d' := fun d' h => by
          rw [hM d' h, if_pos ⟨x, y⟩, if_pos z]
        by_cases w : d 175 2 = 40 ∨ (ord (d 175) u l || ord (d 175) l u) = true
        · rw [if_pos w, cl_rt] at hC
          refine AG.ai v (AG.ret q 0 hC (fun d' q' h => ?_))
          have e1 := (m3 d' 0).1.trans h
          refine ⟨up d' 174 3 0, ?_, MS.u3 d' 0, m3w _ _⟩
          rw [hM2 d' h]
          unfold m_X12_over_174_c46
          rw [pf_v, m3w, t0_0, if_neg (by omega), ld_in (by omega), show ((2 : Int)).toNat = 2 from rfl, e1, w32_id (by omega), w32_id (a := 40) (by omega)]
          by_cases w1 : d 175 2 = 40
          · rw [if_pos w1]; rfl
          · rw [if_neg w1, p_isOrd q.1 e1 (by omega) (by omega), cl_rt, w32_bi, w.resolve_left w1, bi_t, if_neg ne10]; rfl
        · rw [if_neg w, cl_rt] at hC
          have w1 : d 175 2 ≠ 40 := fun g => w (Or.inl g)
          have w2 : (ord (d 175) u l || ord (d 175) l u) = false := by
            cases g : (ord (d 175) u l || ord (d 175) l u)
            · rfl
            · exact absurd (Or.inr g) w
          have w3 : ord (d 175) u l = false := by
            cases g : ord (d 175) u l
            · rfl
            · rw [g] at w2; exact absurd w2 (by simp)
          refine AI.up v 1 hC (fun k _ => by simp (disch := omega) only [up_o]) (fun d' h => ?_)
          have e1 := (m3 d' 0).1.trans h
          refine ⟨up (up (up (up d' 174 3 0) 175 (256 + 2 * d 175 2).toNat u) 175 (256 + 2 * d 175 2 + 1).toNat l) 175 2 (d 175 2 + 1), ?_, M7.u (M7.u (M7.u (M7.u3 (M7.rf d')))), ?_, by simp (disch := omega) only [up_o, up_us, us_eq]⟩
          · rw [hM2 d' h]
            unfold m_X12_over_174_c46
            rw [pf_v, m3w, t0_0, if_neg (by omega), ld_in (by omega), show ((2 : Int)).toNat = 2 from rfl, e1, w32_id (by omega), w32_id (a := 40) (by omega), if_neg w1, p_isOrd q.1 e1 (by omega) (by omega), cl_rt, w32_bi, w2, bi_f, if_pos rfl, ld_in (by omega), show ((2 : Int)).toNat = 2 from rfl, e1, lt_v, sd_in (by omega), sd_in (by omega), ld_in (by omega), sd_in (by omega), show ((2 : Int)).toNat = 2 from rfl]
            simp (disch := omega) only [up_us, us_ne, us_eq, e1]
            rfl
          · simp (disch := omega) only [up_us, e1]
            refine T_over (u := u) (l := l) q.1 q.2 (by omega) x y ⟨?_, ?_, ?_, fun j p g => ?_⟩ w3 ?_ ?_ ?_ ?_ (fun k _ _ _ => ?_)
            · rw [us_eq rfl]
            · rw [oU, us_ne (by omega), us_ne (by omega), us_eq rfl]
            · rw [oL, us_ne (by omega), us_eq rfl]
            · rw [us_ne (by omega), us_ne (by omega), us_ne (by omega)]
            all_goals simp (disch := omega) only [up_o, up_us, us_ne, us_eq]
      · have hC2 : m_X11_over_0 u l d = th 0 d := by
          rw [hC]
          by_cases z1 : u = l
          · rw [if_pos z1]
          · rw [if_neg z1, if_neg (fun g => z ⟨z1, g⟩)]
        refine AG.ai v (AG.thr q 0 hC2 (fun d' q' h => ?_))
        rw [hM d' h, if_pos ⟨x, y⟩, if_neg z]
        exact c46 d' 2 (by omega)
    · rw [if_neg y, cl_th] at hC
      refine AG.ai v (AG.thr q 2 hC (fun d' q' h => ?_))
      rw [hM d' h, if_neg (fun g => y g.2)]
      exact c46 d' 1 (by omega)
  · rw [if_neg x, cl_th] at hC
    refine AG.ai v (AG.thr q 2 hC (fun d' q' h => ?_))
    rw [hM d' h, if_neg (fun g => x g.1)]
    exact c46 d' 1 (by omega)

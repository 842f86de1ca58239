/-! five lengths -/
abbrev L5 (lo a b c e g : Int) : Prop := (lo ≤ a ∧ a ≤ 99) ∧ (lo ≤ b ∧ b ≤ 99) ∧ (lo ≤ c ∧ c ≤ 99) ∧ (lo ≤ e ∧ e ≤ 99) ∧ lo ≤ g ∧ g ≤ 99
theorem q_len {lo a b c e g : Int} {d : D9} (hl : 0 ≤ lo ∧ lo ≤ 1) (ha : I32 a) (hb : I32 b) (hc : I32 c) (he : I32 e) (hg : I32 g) : m_X11_askLengths lo a b c e g d = if L5 lo a b c e g then rt 0 d else th 0 d := by
  unfold m_X11_askLengths
  rw [ask_i ha (by omega)]
  by_cases x1 : lo ≤ a ∧ a ≤ 99
  · rw [if_pos x1, cl_rt, ask_i hb (by omega)]
    by_cases x2 : lo ≤ b ∧ b ≤ 99
    · rw [if_pos x2, cl_rt, ask_i hc (by omega)]
      by_cases x3 : lo ≤ c ∧ c ≤ 99
      · rw [if_pos x3, cl_rt, ask_i he (by omega)]
        by_cases x4 : lo ≤ e ∧ e ≤ 99
        · rw [if_pos x4, cl_rt, ask_i hg (by omega)]
          by_cases x5 : lo ≤ g ∧ g ≤ 99
          · rw [if_pos x5, cl_rt, if_pos (show L5 lo a b c e g from ⟨x1, x2, x3, x4, x5⟩)]
          · rw [if_neg x5, cl_th, if_neg (fun h : L5 lo a b c e g => x5 h.2.2.2.2)]
        · rw [if_neg x4, cl_th, if_neg (fun h : L5 lo a b c e g => x4 h.2.2.2.1)]
      · rw [if_neg x3, cl_th, if_neg (fun h : L5 lo a b c e g => x3 h.2.2.1)]
    · rw [if_neg x2, cl_th, if_neg (fun h : L5 lo a b c e g => x2 h.2.1)]
  · rw [if_neg x1, cl_th, if_neg (fun h : L5 lo a b c e g => x1 h.1)]
theorem p_len {lo a b c e g : Int} {d : D9} (hl : 0 ≤ lo ∧ lo ≤ 1) (ha : I32 a) (hb : I32 b) (hc : I32 c) (he : I32 e) (hg : I32 g) : m_X12_areLengths lo a b c e g d = rt (bi (decide (L5 lo a b c e g))) d := by
  unfold m_X12_areLengths
  rw [w32_id ha, w32_id hb, w32_id hc, w32_id he, w32_id hg, w32_id (a := lo) (by omega), within_i ha (by omega), cl_rt, w32_bi]
  by_cases x1 : lo ≤ a ∧ a ≤ 99
  · rw [dec_t x1, bi_t, if_neg ne10, within_i hb (by omega), cl_rt, w32_bi]
    by_cases x2 : lo ≤ b ∧ b ≤ 99
    · rw [dec_t x2, bi_t, if_neg ne10, within_i hc (by omega), cl_rt, w32_bi]
      by_cases x3 : lo ≤ c ∧ c ≤ 99
      · rw [dec_t x3, bi_t, if_neg ne10, within_i he (by omega), cl_rt, w32_bi]
        by_cases x4 : lo ≤ e ∧ e ≤ 99
        · rw [dec_t x4, bi_t, if_neg ne10, within_i hg (by omega), cl_rt, w32_bi]
          by_cases x5 : lo ≤ g ∧ g ≤ 99
          · rw [dec_t x5, bi_t, if_neg ne10, dec_t (show L5 lo a b c e g from ⟨x1, x2, x3, x4, x5⟩)]; rfl
          · rw [dec_f x5, bi_f, if_pos rfl, dec_f (fun h : L5 lo a b c e g => x5 h.2.2.2.2)]; rfl
        · rw [dec_f x4, bi_f, if_pos rfl, dec_f (fun h : L5 lo a b c e g => x4 h.2.2.2.1)]; rfl
      · rw [dec_f x3, bi_f, if_pos rfl, dec_f (fun h : L5 lo a b c e g => x3 h.2.2.1)]; rfl
    · rw [dec_f x2, bi_f, if_pos rfl, dec_f (fun h : L5 lo a b c e g => x2 h.2.1)]; rfl
  · rw [dec_f x1, bi_f, if_pos rfl, dec_f (fun h : L5 lo a b c e g => x1 h.1)]; rfl
/-! fingers -/
theorem TK_fin {t t' : Nat → Int} {p a b c e g : Int} (k : TK t) (hp : 0 ≤ p ∧ p < t 0) (l : L5 0 a b c e g) (e0 : pt t' p 3 = a) (e1 : pt t' p 4 = b) (e2 : pt t' p 5 = c) (e3 : pt t' p 6 = e) (e4 : pt t' p 7 = g) (hf : ∀ j : Nat, (j < 19 + 8 * p ∨ 24 + 8 * p ≤ j) → t' j = t j) : TK t' := by
  have n := TKn k
  unfold T7n at n
  obtain ⟨l0, l1, l2, l3, l4⟩ := l
  have hA : ∀ lo hi, 256 ≤ lo ∨ hi ≤ 16 → AGR t t' lo hi := fun lo hi h j x y => hf j (by omega)
  refine ⟨T7n_c (hA _ _ (by omega)) (TKn k), T7l_c (hf 4 (by omega)) (hA _ _ (by omega)) (TKl k), ?_, T7o_c (hf 0 (by omega)) (hf 2 (by omega)) (hA _ _ (by omega)) (by omega) (TKo k), T7s_c (by rw [hf 0 (by omega)]; omega) (hf 1 (by omega)) (by omega) (hA _ _ (by omega)) (TKs k), T7h_c (hf 3 (by omega)) (by omega) (hA _ _ (by omega)) (TKh k), T7y_c (hf 5 (by omega)) (hA _ _ (by omega)) (TKy k), T7w_c (hA _ _ (by omega)) (TKw k), T7r_c (hA _ _ (by omega)) (TKr k)⟩
  intro i x y
  rw [hf 0 (by omega)] at y
  obtain ⟨x0, x1, x2, x3⟩ := TKp k i x y
  have hpt : ∀ w, 0 ≤ w → w < 8 → (i ≠ p ∨ w < 3) → pt t' i w = pt t i w := fun w u v z => hf _ (by omega)
  rw [hpt 0 (by omega) (by omega) (by omega), hpt 1 (by omega) (by omega) (by omega), hpt 2 (by omega) (by omega) (by omega)]
  refine ⟨x0, x1, x2, fun f u v => ?_⟩
  by_cases z : i = p
  · subst z
    obtain rfl | rfl | rfl | rfl | rfl : f = 0 ∨ f = 1 ∨ f = 2 ∨ f = 3 ∨ f = 4 := by omega
    · rw [show (3 : Int) + 0 = 3 from rfl, e0]; exact l0
    · rw [show (3 : Int) + 1 = 4 from rfl, e1]; exact l1
    · rw [show (3 : Int) + 2 = 5 from rfl, e2]; exact l2
    · rw [show (3 : Int) + 3 = 6 from rfl, e3]; exact l3
    · rw [show (3 : Int) + 4 = 7 from rfl, e4]; exact l4
  · rw [hpt _ (by omega) (by omega) (by omega)]; exact x3 f u v
theorem RW_fin {t t' : Nat → Int} {d d1 : D9} {p a b c e g : Int} (k : TK t) (r : RW d t) (hp : 0 ≤ p ∧ p < t 0) (e0 : pt t' p 3 = a) (e1 : pt t' p 4 = b) (e2 : pt t' p 5 = c) (e3 : pt t' p 6 = e) (e4 : pt t' p 7 = g) (hf : ∀ j : Nat, (j < 19 + 8 * p ∨ 24 + 8 * p ≤ j) → t' j = t j)
    (c0 : d1 6 (p * 5 + 0).toNat = a) (c1 : d1 6 (p * 5 + 1).toNat = b) (c2 : d1 6 (p * 5 + 2).toNat = c) (c3 : d1 6 (p * 5 + 3).toNat = e) (c4 : d1 6 (p * 5 + 4).toNat = g) (c5 : ∀ j : Nat, (j < p * 5 ∨ p * 5 + 5 ≤ j) → d1 6 j = d 6 j) (c6 : ∀ k, k ≠ 6 → d1 k = d k) : RW d1 t' := by
  have n := TKn k
  unfold T7n at n
  have hA : ∀ lo hi, 256 ≤ lo ∨ hi ≤ 16 → AGR t t' lo hi := fun lo hi h j x y => hf j (by omega)
  have nl := (TKy k).1
  refine ⟨R7l_t (hf 4 (by omega)) (hA _ _ (by omega)) (R7l_c (RWl r) (c6 _ (by omega))), ?_, R7o_t (hf 2 (by omega)) (by omega) (hA _ _ (by omega)) (R7o_c (RWo r) (c6 _ (by omega)) (c6 _ (by omega))), R7s_t (hf 1 (by omega)) (by omega) (hA _ _ (by omega)) (hA _ _ (by omega)) (TKs k) (R7s_c (RWs r) (fun k x _ => c6 k (by omega))), R7h_t (hf 3 (by omega)) (by omega) (hA _ _ (by omega)) (R7h_c (RWh r) (c6 _ (by omega)) (c6 _ (by omega)) (c6 _ (by omega))), R7y_t (hf 5 (by omega)) (by omega) (hA _ _ (by omega)) (R7y_c (RWy r) (fun k x _ => c6 k (by omega))), R7w_t (hA _ _ (by omega)) (R7w_c (RWw r) (c6 _ (by omega)) (c6 _ (by omega))), R7r_t (hA _ _ (by omega)) (TKr k) (R7r_c (RWr r) (fun k x _ => c6 k (by omega)))⟩
  obtain ⟨r0, r1, r2, r3⟩ := RWp r
  refine ⟨by rw [c6 2 (by omega), hf 0 (by omega), r0], by rw [c6 2 (by omega), hf 2 (by omega), r1], ?_, ?_⟩
  · intro i x y
    rw [hf 0 (by omega)] at y
    obtain ⟨x0, x1, x2, x3⟩ := r2 i x y
    have hpt : ∀ w, 0 ≤ w → w < 8 → (i ≠ p ∨ w < 3) → pt t' i w = pt t i w := fun w u v z => hf _ (by omega)
    rw [hpt 0 (by omega) (by omega) (by omega), hpt 1 (by omega) (by omega) (by omega), hpt 2 (by omega) (by omega) (by omega), c6 3 (by omega), c6 4 (by omega), c6 5 (by omega)]
    refine ⟨x0, x1, x2, fun f u v => ?_⟩
    by_cases z : i = p
    · subst z
      obtain rfl | rfl | rfl | rfl | rfl : f = 0 ∨ f = 1 ∨ f = 2 ∨ f = 3 ∨ f = 4 := by omega
      · rw [show (3 : Int) + 0 = 3 from rfl, e0]; exact c0
      · rw [show (3 : Int) + 1 = 4 from rfl, e1]; exact c1
      · rw [show (3 : Int) + 2 = 5 from rfl, e2]; exact c2
      · rw [show (3 : Int) + 3 = 6 from rfl, e3]; exact c3
      · rw [show (3 : Int) + 4 = 7 from rfl, e4]; exact c4
    · rw [hpt _ (by omega) (by omega) (by omega), c5 _ (by omega)]; exact x3 f u v
  · intro i x y f u v
    rw [hf 0 (by omega)] at x
    rw [c5 _ (by omega)]
    exact r3 i x y f u v
theorem o_fingers {p a b c e g : Int} {d : D9} (v : INV d) (hp : I32 p) (ha : I32 a) (hb : I32 b) (hc : I32 c) (he : I32 e) (hg : I32 g) : AI d (m_X11_fingers_0 p a b c e g d) (m_X12_fingers_174 p a b c e g) f1 := by
  have q := v.1
  have n := TKn q.1
  have n0 := n.1
  have hC := m_X11_fingers_0.eq_1 p a b c e g d
  rw [q_askHand q.1 q.2 hp] at hC
  have hM : ∀ d', d' 175 = d 175 → m_X12_fingers_174 p a b c e g d' = if hfa (d 175) p ≠ 0 then m_X12_fingers_174_c36 p a b c e g (up d' 174 3 (hfa (d 175) p)) else cl (m_X12_areLengths 0 a b c e g (up d' 174 3 (hfa (d 175) p))) (fun r4 d5 => if w32 r4 ≠ 0 then m_X12_fingers_174_c36 p a b c e g d5 else pf d5 174 3 3 (fun d6 => m_X12_fingers_174_c36 p a b c e g d6)) := fun d' h => by
    unfold m_X12_fingers_174
    rw [p_handFault q.1 h hp, cl_rt, pf_v, m3w, w32_id (by have := hfa_rng (d 175) p; omega)]
  by_cases x : 0 ≤ p ∧ p < d 175 0
  · rw [if_pos x] at hC
    by_cases y : pt (d 175) p 0 = 0
    · rw [if_pos y, cl_rt, q_len (by omega) ha hb hc he hg] at hC
      rw [hfa_0 ⟨x, y⟩] at hM
      by_cases l : L5 0 a b c e g
      · rw [if_pos l, cl_rt, m_X11_putFive_6, w32_id (by omega), if_neg (by omega), w32_id (by omega), if_pos (by rw [w32_id (by omega)]; omega), sd_in (by omega), sd_in (by omega), sd_in (by omega), sd_in (by omega), sd_in (by omega), cl_rt] at hC
        refine AI.up v 0 hC (fun k _ => by simp (disch := omega) only [up_o]) (fun d' h => ?_)
        have e1 := (m3 d' 0).1.trans h
        refine ⟨up (up (up (up (up (up d' 174 3 0) 175 (16 + 8 * p + 3).toNat a) 175 (16 + 8 * p + 3 + 1).toNat b) 175 (16 + 8 * p + 3 + 2).toNat c) 175 (16 + 8 * p + 3 + 3).toNat e) 175 (16 + 8 * p + 3 + 4).toNat g, ?_, M7.u (M7.u (M7.u (M7.u (M7.u (M7.u3 (M7.rf d')))))), ?_, by simp (disch := omega) only [up_o, up_us, us_eq]⟩
        · rw [hM d' h, if_neg (by omega), p_len (by omega) ha hb hc he hg, cl_rt, dec_t l, bi_t, t1_0, if_pos ne10, m_X12_fingers_174_c36, m3w, t0_0, if_pos (Int.le_refl _), lt_v, sd_in (by omega), sd_in (by omega), sd_in (by omega), sd_in (by omega), sd_in (by omega)]
        · generalize hz : (up (up (up (up (up (up d' 174 3 0) 175 (16 + 8 * p + 3).toNat a) 175 (16 + 8 * p + 3 + 1).toNat b) 175 (16 + 8 * p + 3 + 2).toNat c) 175 (16 + 8 * p + 3 + 3).toNat e) 175 (16 + 8 * p + 3 + 4).toNat g : D9) 175 = t'
          have ht : ∀ j, t' j = (up (up (up (up (up (up d' 174 3 0) 175 (16 + 8 * p + 3).toNat a) 175 (16 + 8 * p + 3 + 1).toNat b) 175 (16 + 8 * p + 3 + 2).toNat c) 175 (16 + 8 * p + 3 + 3).toNat e) 175 (16 + 8 * p + 3 + 4).toNat g : D9) 175 j := fun j => by rw [hz]
          simp only [up_us, e1] at ht
          have k0 : pt t' p 3 = a := by rw [pt, ht]; simp (disch := omega) only [us_ne, us_eq]
          have k1 : pt t' p 4 = b := by rw [pt, ht]; simp (disch := omega) only [us_ne, us_eq]
          have k2 : pt t' p 5 = c := by rw [pt, ht]; simp (disch := omega) only [us_ne, us_eq]
          have k3 : pt t' p 6 = e := by rw [pt, ht]; simp (disch := omega) only [us_ne, us_eq]
          have k4 : pt t' p 7 = g := by rw [pt, ht]; simp (disch := omega) only [us_ne, us_eq]
          have kf : ∀ j : Nat, (j < 19 + 8 * p ∨ 24 + 8 * p ≤ j) → t' j = d 175 j := fun j w => by rw [ht]; simp (disch := omega) only [us_ne]
          refine ⟨TK_fin q.1 x l k0 k1 k2 k3 k4 kf, RW_fin q.1 q.2 x k0 k1 k2 k3 k4 kf ?_ ?_ ?_ ?_ ?_ (fun j _ => ?_) (fun k _ => ?_)⟩
          all_goals simp (disch := omega) only [up_o, up_us, us_ne, us_eq]
      · rw [if_neg l, cl_th] at hC
        refine AG.ai v (AG.thr q 0 hC (fun d' q' h => ?_))
        rw [hM d' h, if_neg (by omega), p_len (by omega) ha hb hc he hg, cl_rt, dec_f l, bi_f, t0_0, if_neg (by omega), pf_v, m_X12_fingers_174_c36, m3w, if_neg (by decide)]
        exact ⟨0, _, rfl, (MS.u3 d' 0).tr (MS.u3 _ 3), m3w _ _⟩
    · rw [if_neg y, cl_th] at hC
      refine AG.ai v (AG.thr q 1 hC (fun d' q' h => ?_))
      rw [hM d' h, hfa_2 x y, if_pos (by omega), m_X12_fingers_174_c36, m3w, if_neg (by decide)]
      exact ⟨0, _, rfl, MS.u3 d' 2, m3w _ _⟩
  · rw [if_neg x, cl_th] at hC
    refine AG.ai v (AG.thr q 2 hC (fun d' q' h => ?_))
    rw [hM d' h, hfa_1 x, if_pos (by omega), m_X12_fingers_174_c36, m3w, if_neg (by decide)]
    exact ⟨0, _, rfl, MS.u3 d' 1, m3w _ _⟩

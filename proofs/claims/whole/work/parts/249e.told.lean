/-! a told hand -/
theorem TK_told {t t' : Nat → Int} {s a b c e g : Int} (k : TK t) (hn : t 3 < 40) (hs : 0 ≤ s ∧ s ≤ 3) (l : L5 1 a b c e g) (h3 : t' 3 = t 3 + 1) (e0 : hd t' (t 3) 0 = s) (e1 : hd t' (t 3) 1 = a) (e2 : hd t' (t 3) 2 = b) (e3 : hd t' (t 3) 3 = c) (e4 : hd t' (t 3) 4 = e) (e5 : hd t' (t 3) 5 = g) (hf : ∀ j : Nat, j ≠ 3 → (j < 846 + 6 * t 3 ∨ 852 + 6 * t 3 ≤ j) → t' j = t j) : TK t' := by
  have n := TKn k
  unfold T7n at n
  obtain ⟨l0, l1, l2, l3, l4⟩ := l
  have hA : ∀ lo hi, 4 ≤ lo ∧ hi ≤ 846 ∨ 1086 ≤ lo → AGR t t' lo hi := fun lo hi h j x y => hf j (by omega) (by omega)
  have hN : ∀ j : Nat, j ≠ 3 → j < 16 → t' j = t j := fun j x y => hf j x (by omega)
  refine ⟨?_, T7l_c (hN 4 (by omega) (by omega)) (hA _ _ (by omega)) (TKl k), T7p_c (hN 0 (by omega) (by omega)) (hA _ _ (by omega)) (by omega) (TKp k), T7o_c (hN 0 (by omega) (by omega)) (hN 2 (by omega) (by omega)) (hA _ _ (by omega)) (by omega) (TKo k), T7s_c (by rw [hN 0 (by omega) (by omega)]; omega) (hN 1 (by omega) (by omega)) (by omega) (hA _ _ (by omega)) (TKs k), ?_, T7y_c (hN 5 (by omega) (by omega)) (hA _ _ (by omega)) (TKy k), T7w_c (hA _ _ (by omega)) (TKw k), T7r_c (hA _ _ (by omega)) (TKr k)⟩
  · unfold T7n
    rw [h3, hN 1 (by omega) (by omega), hN 2 (by omega) (by omega), hN 0 (by omega) (by omega)]
    omega
  · intro i x y
    by_cases z : i = t 3
    · subst z
      rw [e0]
      refine ⟨hs, fun f u v => ?_⟩
      obtain rfl | rfl | rfl | rfl | rfl : f = 0 ∨ f = 1 ∨ f = 2 ∨ f = 3 ∨ f = 4 := by omega
      · rw [show (1 : Int) + 0 = 1 from rfl, e1]; exact l0
      · rw [show (1 : Int) + 1 = 2 from rfl, e2]; exact l1
      · rw [show (1 : Int) + 2 = 3 from rfl, e3]; exact l2
      · rw [show (1 : Int) + 3 = 4 from rfl, e4]; exact l3
      · rw [show (1 : Int) + 4 = 5 from rfl, e5]; exact l4
    · have hpt : ∀ w, 0 ≤ w → w < 6 → hd t' i w = hd t i w := fun w u v => hf _ (by omega) (by omega)
      obtain ⟨x0, x1⟩ := TKh k i x (by omega)
      rw [hpt 0 (by omega) (by omega)]
      exact ⟨x0, fun f u v => by rw [hpt _ (by omega) (by omega)]; exact x1 f u v⟩
theorem RW_told {t t' : Nat → Int} {d d1 : D9} {s a b c e g : Int} (k : TK t) (r : RW d t) (hn : t 3 < 40) (h3 : t' 3 = t 3 + 1) (e0 : hd t' (t 3) 0 = s) (e1 : hd t' (t 3) 1 = a) (e2 : hd t' (t 3) 2 = b) (e3 : hd t' (t 3) 3 = c) (e4 : hd t' (t 3) 4 = e) (e5 : hd t' (t 3) 5 = g) (hf : ∀ j : Nat, j ≠ 3 → (j < 846 + 6 * t 3 ∨ 852 + 6 * t 3 ≤ j) → t' j = t j)
    (m0 : d1 33 0 = t 3 + 1) (m1 : d1 34 = us (d 34) (t 3).toNat s) (c0 : d1 35 (t 3 * 5 + 0).toNat = a) (c1 : d1 35 (t 3 * 5 + 1).toNat = b) (c2 : d1 35 (t 3 * 5 + 2).toNat = c) (c3 : d1 35 (t 3 * 5 + 3).toNat = e) (c4 : d1 35 (t 3 * 5 + 4).toNat = g) (c5 : ∀ j : Nat, (j < t 3 * 5 ∨ t 3 * 5 + 5 ≤ j) → d1 35 j = d 35 j) (c6 : ∀ k, k < 33 ∨ 35 < k → d1 k = d k) : RW d1 t' := by
  have n := TKn k
  unfold T7n at n
  have hA : ∀ lo hi, 4 ≤ lo ∧ hi ≤ 846 ∨ 1086 ≤ lo → AGR t t' lo hi := fun lo hi h j x y => hf j (by omega) (by omega)
  have hN : ∀ j : Nat, j ≠ 3 → j < 16 → t' j = t j := fun j x y => hf j x (by omega)
  have nl := (TKy k).1
  refine ⟨R7l_t (hN 4 (by omega) (by omega)) (hA _ _ (by omega)) (R7l_c (RWl r) (c6 _ (by omega))), R7p_t (hN 0 (by omega) (by omega)) (hN 2 (by omega) (by omega)) (by omega) (hA _ _ (by omega)) (R7p_c (RWp r) (c6 _ (by omega)) (c6 _ (by omega)) (c6 _ (by omega)) (c6 _ (by omega)) (c6 _ (by omega))), R7o_t (hN 2 (by omega) (by omega)) (by omega) (hA _ _ (by omega)) (R7o_c (RWo r) (c6 _ (by omega)) (c6 _ (by omega))), R7s_t (hN 1 (by omega) (by omega)) (by omega) (hA _ _ (by omega)) (hA _ _ (by omega)) (TKs k) (R7s_c (RWs r) (fun k x _ => c6 k (by omega))), ?_, R7y_t (hN 5 (by omega) (by omega)) (by omega) (hA _ _ (by omega)) (R7y_c (RWy r) (fun k x _ => c6 k (by omega))), R7w_t (hA _ _ (by omega)) (R7w_c (RWw r) (c6 _ (by omega)) (c6 _ (by omega))), R7r_t (hA _ _ (by omega)) (TKr k) (R7r_c (RWr r) (fun k x _ => c6 k (by omega)))⟩
  obtain ⟨r0, r1⟩ := RWh r
  refine ⟨by rw [m0, h3], ?_⟩
  intro i x y
  rw [m1]
  by_cases z : i = t 3
  · subst z
    rw [us_eq rfl, e0]
    refine ⟨rfl, fun f u v => ?_⟩
    obtain rfl | rfl | rfl | rfl | rfl : f = 0 ∨ f = 1 ∨ f = 2 ∨ f = 3 ∨ f = 4 := by omega
    · rw [show (1 : Int) + 0 = 1 from rfl, e1]; exact c0
    · rw [show (1 : Int) + 1 = 2 from rfl, e2]; exact c1
    · rw [show (1 : Int) + 2 = 3 from rfl, e3]; exact c2
    · rw [show (1 : Int) + 3 = 4 from rfl, e4]; exact c3
    · rw [show (1 : Int) + 4 = 5 from rfl, e5]; exact c4
  · have hpt : ∀ w, 0 ≤ w → w < 6 → hd t' i w = hd t i w := fun w u v => hf _ (by omega) (by omega)
    obtain ⟨x0, x1⟩ := r1 i x (by omega)
    rw [hpt 0 (by omega) (by omega), us_ne (by omega)]
    exact ⟨x0, fun f u v => by rw [hpt _ (by omega) (by omega), c5 _ (by omega)]; exact x1 f u v⟩
theorem o_told {s a b c e g : Int} {d : D9} (v : INV d) (hs : I32 s) (ha : I32 a) (hb : I32 b) (hc : I32 c) (he : I32 e) (hg : I32 g) : AI d (m_X11_told_0 s a b c e g d) (m_X12_told_174 s a b c e g) fA := by
  have q := v.1
  have n3 := (TKn q.1).2.2.2
  have r0 := (RWh q.2).1
  have hC := m_X11_told_0.eq_1 s a b c e g d
  rw [ask_i hs (by omega)] at hC
  by_cases x : 0 ≤ s ∧ s ≤ 3
  · rw [if_pos x, cl_rt, q_len (by omega) ha hb hc he hg] at hC
    by_cases l : L5 1 a b c e g
    · rw [if_pos l, cl_rt, r0, w32_id (by omega)] at hC
      by_cases y : d 175 3 < 40
      · rw [if_pos (show d 175 3 < w32 40 from y), sd_in (by omega)] at hC
        simp (disch := omega) only [up_o, r0] at hC
        rw [m_X11_putFive_35, w32_id (by omega), if_neg (by omega), w32_id (by omega), if_pos (by rw [w32_id (by omega)]; omega), sd_in (by omega), sd_in (by omega), sd_in (by omega), sd_in (by omega), sd_in (by omega), cl_rt, pf_v] at hC
        simp (disch := omega) only [up_o, up_us, us_eq, r0] at hC
        refine AI.up v (d 175 3 + 1) hC (fun k _ => by simp (disch := omega) only [up_o]) (fun d' h => ?_)
        have e1 := (m3 d' 0).1.trans h
        refine ⟨up (up (up (up (up (up (up (up d' 174 3 0) 175 (846 + 6 * d 175 3).toNat s) 175 (846 + 6 * d 175 3 + 1).toNat a) 175 (846 + 6 * d 175 3 + 2).toNat b) 175 (846 + 6 * d 175 3 + 3).toNat c) 175 (846 + 6 * d 175 3 + 4).toNat e) 175 (846 + 6 * d 175 3 + 5).toNat g) 175 3 (d 175 3 + 1), ?_, M7.u (M7.u (M7.u (M7.u (M7.u (M7.u (M7.u (M7.u3 (M7.rf d')))))))), ?_, by simp (disch := omega) only [up_o, up_us, us_eq]⟩
        · unfold m_X12_told_174
          rw [pf_v, w32_id hs, within_i hs (by omega), cl_rt, w32_bi, dec_t x, bi_t, if_neg ne10, p_len (by omega) ha hb hc he hg, cl_rt, dec_t l, bi_t, t1_0, if_pos ne10, ld_in (by omega), show ((3 : Int)).toNat = 3 from rfl, e1, w32_id (by omega), if_pos (show d 175 3 ≠ w32 40 from by rw [w32_id (by omega)]; omega), ld_in (by omega), show ((3 : Int)).toNat = 3 from rfl, e1, lt_v, sd_in (by omega), sd_in (by omega), sd_in (by omega), sd_in (by omega), sd_in (by omega), sd_in (by omega), ld_in (by omega), sd_in (by omega), ld_in (by omega), show ((3 : Int)).toNat = 3 from rfl]
          simp (disch := omega) only [up_us, us_ne, us_eq, e1]
        · generalize hz : (up (up (up (up (up (up (up (up d' 174 3 0) 175 (846 + 6 * d 175 3).toNat s) 175 (846 + 6 * d 175 3 + 1).toNat a) 175 (846 + 6 * d 175 3 + 2).toNat b) 175 (846 + 6 * d 175 3 + 3).toNat c) 175 (846 + 6 * d 175 3 + 4).toNat e) 175 (846 + 6 * d 175 3 + 5).toNat g) 175 3 (d 175 3 + 1) : D9) 175 = t'
          have ht : ∀ j, t' j = (up (up (up (up (up (up (up (up d' 174 3 0) 175 (846 + 6 * d 175 3).toNat s) 175 (846 + 6 * d 175 3 + 1).toNat a) 175 (846 + 6 * d 175 3 + 2).toNat b) 175 (846 + 6 * d 175 3 + 3).toNat c) 175 (846 + 6 * d 175 3 + 4).toNat e) 175 (846 + 6 * d 175 3 + 5).toNat g) 175 3 (d 175 3 + 1) : D9) 175 j := fun j => by rw [hz]
          simp only [up_us, e1] at ht
          have h3 : t' 3 = d 175 3 + 1 := by rw [ht, us_eq rfl]
          have k0 : hd t' (d 175 3) 0 = s := by rw [hd, ht]; simp (disch := omega) only [us_ne, us_eq]
          have k1 : hd t' (d 175 3) 1 = a := by rw [hd, ht]; simp (disch := omega) only [us_ne, us_eq]
          have k2 : hd t' (d 175 3) 2 = b := by rw [hd, ht]; simp (disch := omega) only [us_ne, us_eq]
          have k3 : hd t' (d 175 3) 3 = c := by rw [hd, ht]; simp (disch := omega) only [us_ne, us_eq]
          have k4 : hd t' (d 175 3) 4 = e := by rw [hd, ht]; simp (disch := omega) only [us_ne, us_eq]
          have k5 : hd t' (d 175 3) 5 = g := by rw [hd, ht]; simp (disch := omega) only [us_ne, us_eq]
          have kf : ∀ j : Nat, j ≠ 3 → (j < 846 + 6 * d 175 3 ∨ 852 + 6 * d 175 3 ≤ j) → t' j = d 175 j := fun j u w => by rw [ht]; simp (disch := omega) only [us_ne]
          refine ⟨TK_told q.1 y x l h3 k0 k1 k2 k3 k4 k5 kf, RW_told q.1 q.2 y h3 k0 k1 k2 k3 k4 k5 kf ?_ ?_ ?_ ?_ ?_ ?_ ?_ (fun j _ => ?_) (fun k _ => ?_)⟩
          all_goals simp (disch := omega) only [up_o, up_us, us_ne, us_eq]
      · have y' : d 175 3 = 40 := by omega
        rw [if_neg (show ¬ d 175 3 < w32 40 from y)] at hC
        refine AG.ai v (AG.ret q (-1) hC (fun d' q' h => ?_))
        have e1 := (m3 d' 0).1.trans h
        refine ⟨up d' 174 3 0, ?_, MS.u3 d' 0, up_same _ _ _ _⟩
        unfold m_X12_told_174
        rw [pf_v, w32_id hs, within_i hs (by omega), cl_rt, w32_bi, dec_t x, bi_t, if_neg ne10, p_len (by omega) ha hb hc he hg, cl_rt, dec_t l, bi_t, t1_0, if_pos ne10, ld_in (by omega), show ((3 : Int)).toNat = 3 from rfl, e1, y', if_neg (by omega)]
    · rw [if_neg l, cl_th] at hC
      refine AG.ai v (AG.thr q 0 hC (fun d' q' h => ?_))
      unfold m_X12_told_174 m_X12_told_174_c32
      rw [pf_v, w32_id hs, within_i hs (by omega), cl_rt, w32_bi, dec_t x, bi_t, if_neg ne10, p_len (by omega) ha hb hc he hg, cl_rt, dec_f l, bi_f, t0_0, if_neg (by omega), p_fails, cl_rt]
      exact thr1 d' 1
  · rw [if_neg x, cl_th] at hC
    refine AG.ai v (AG.thr q 0 hC (fun d' q' h => ?_))
    unfold m_X12_told_174 m_X12_told_174_c32
    rw [pf_v, w32_id hs, within_i hs (by omega), cl_rt, w32_bi, dec_f x, bi_f, if_pos rfl, p_fails, cl_rt]
    exact thr1 d' 1

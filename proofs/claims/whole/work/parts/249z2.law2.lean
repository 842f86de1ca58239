/-! law -/
theorem TK_law {t t' : Nat → Int} (k : TK t) (l : T7l t') (hf : ∀ j : Nat, j ≠ 4 → (j < 6 ∨ 12 < j) → t' j = t j) : TK t' := by
  have n := TKn k
  unfold T7n at n
  have hA : ∀ lo hi, 13 ≤ lo → AGR t t' lo hi := fun lo hi h j x y => hf j (by omega) (by omega)
  exact ⟨T7n_c (fun j x y => hf j (by omega) (by omega)) (TKn k), l, T7p_c (hf 0 (by omega) (by omega)) (hA _ _ (by omega)) (by omega) (TKp k), T7o_c (hf 0 (by omega) (by omega)) (hf 2 (by omega) (by omega)) (hA _ _ (by omega)) (by omega) (TKo k), T7s_c (by rw [hf 0 (by omega) (by omega)]; omega) (hf 1 (by omega) (by omega)) (by omega) (hA _ _ (by omega)) (TKs k), T7h_c (hf 3 (by omega) (by omega)) (by omega) (hA _ _ (by omega)) (TKh k), T7y_c (hf 5 (by omega) (by omega)) (hA _ _ (by omega)) (TKy k), T7w_c (hA _ _ (by omega)) (TKw k), T7r_c (hA _ _ (by omega)) (TKr k)⟩
theorem RW_law {t t' : Nat → Int} {d d1 : D9} (k : TK t) (r : RW d t) (hf : ∀ j : Nat, j ≠ 4 → (j < 6 ∨ 12 < j) → t' j = t j) (hd : ∀ k, k < 9 ∨ 22 < k → k ≤ 37 → d1 k = d k) (l : R7l d1 t') (s : R7s d1 t') : RW d1 t' := by
  have n := TKn k
  unfold T7n at n
  have nl := (TKy k).1
  have hA : ∀ lo hi, 13 ≤ lo → AGR t t' lo hi := fun lo hi h j x y => hf j (by omega) (by omega)
  exact ⟨l, R7p_t (hf 0 (by omega) (by omega)) (hf 2 (by omega) (by omega)) (by omega) (hA _ _ (by omega)) (R7p_c (RWp r) (hd _ (by omega) (by omega)) (hd _ (by omega) (by omega)) (hd _ (by omega) (by omega)) (hd _ (by omega) (by omega)) (hd _ (by omega) (by omega))), R7o_t (hf 2 (by omega) (by omega)) (by omega) (hA _ _ (by omega)) (R7o_c (RWo r) (hd _ (by omega) (by omega)) (hd _ (by omega) (by omega))), s, R7h_t (hf 3 (by omega) (by omega)) (by omega) (hA _ _ (by omega)) (R7h_c (RWh r) (hd _ (by omega) (by omega)) (hd _ (by omega) (by omega)) (hd _ (by omega) (by omega))), R7y_t (hf 5 (by omega) (by omega)) (by omega) (hA _ _ (by omega)) (R7y_c (RWy r) (fun k x y => hd k (by omega) (by omega))), R7w_t (hA _ _ (by omega)) (R7w_c (RWw r) (hd _ (by omega) (by omega)) (hd _ (by omega) (by omega))), R7r_t (hA _ _ (by omega)) (TKr k) (R7r_c (RWr r) (fun k x y => hd k (by omega) (by omega)))⟩
theorem q_alike {d : D9} (h1 : ∀ j : Nat, j < 8 → -1000 ≤ d 40 j ∧ d 40 j ≤ 100000) (h2 : ∀ j : Nat, j < 8 → -1000 ≤ d 22 j ∧ d 22 j ≤ 100000) : ∃ b : Bool, m_X2_clocksLike_40_22 d = rt (bi b) d ∧ (b = true → ∀ j : Nat, 1 ≤ j → j ≤ 5 → d 40 j = d 22 j) := by
  unfold m_X2_clocksLike_40_22
  rw [wi (h1 1 (by omega)), wi (h2 1 (by omega)), wi (h1 2 (by omega)), wi (h2 2 (by omega)), wi (h1 3 (by omega)), wi (h2 3 (by omega)), wi (h1 4 (by omega)), wi (h2 4 (by omega)), wi (h1 5 (by omega)), wi (h2 5 (by omega))]
  by_cases c1 : d 40 1 = d 22 1
  · rw [if_neg (fun g => g c1)]
    by_cases c2 : d 40 2 = d 22 2
    · rw [if_neg (fun g => g c2)]
      by_cases c3 : d 40 3 = d 22 3
      · rw [if_neg (fun g => g c3)]
        by_cases c4 : d 40 4 = d 22 4
        · rw [if_neg (fun g => g c4)]
          by_cases c5 : d 40 5 = d 22 5
          · rw [if_neg (fun g => g c5)]
            refine ⟨true, rfl, fun _ j a b => ?_⟩
            obtain rfl | rfl | rfl | rfl | rfl : j = 1 ∨ j = 2 ∨ j = 3 ∨ j = 4 ∨ j = 5 := by omega
            all_goals assumption
          · rw [if_pos c5]; exact ⟨false, rfl, fun g => by cases g⟩
        · rw [if_pos c4]; exact ⟨false, rfl, fun g => by cases g⟩
      · rw [if_pos c3]; exact ⟨false, rfl, fun g => by cases g⟩
    · rw [if_pos c2]; exact ⟨false, rfl, fun g => by cases g⟩
  · rw [if_pos c1]; exact ⟨false, rfl, fun g => by cases g⟩
theorem q_lawCopy (d : D9) : ∃ d1, m_X2_copyFrom_22_40 d = rt 0 d1 ∧ (∀ k, k ≠ 22 → d1 k = d k) ∧ ∀ j : Nat, j < 8 → d1 22 j = d 40 j := by
  unfold m_X2_copyFrom_22_40
  simp only [pf_v]
  refine ⟨_, rfl, fun k a => by simp (disch := omega) only [up_o], fun j a => ?_⟩
  obtain rfl | rfl | rfl | rfl | rfl | rfl | rfl | rfl : j = 0 ∨ j = 1 ∨ j = 2 ∨ j = 3 ∨ j = 4 ∨ j = 5 ∨ j = 6 ∨ j = 7 := by omega
  all_goals simp (disch := omega) only [up_o, up_us, us_ne, us_eq]
theorem j_law {d e : D9} {p : Int} (j : JR d e) (hp : 0 ≤ p ∧ p ≤ e 174 7) : ∃ x d1 e1, m_X11_law_0 p d = rt x d1 ∧ m_X12_law_174 p e = rt x e1 ∧ JP d e d1 e1 := by
  obtain ⟨jT, jR, ⟨j1, j2, j3⟩, j4, j5⟩ := id j
  have hI : I32 p := by unfold I32; omega
  -- begin
  obtain ⟨d1, e1, a1, a2, a3, a4, a5, a6, a7, a8⟩ := r_begin (d := d) (e := up e 174 3 0) (p := p) (by unfold TPE; rw [up_o (by decide)]; exact j5) (by omega)
  -- the plain law
  obtain ⟨d2, b1, b2, b3, b4⟩ : ∃ d2, m_X2_reset_40 d1 = rt 0 d2 ∧ (∀ k, k ≠ 40 → d2 k = d1 k) ∧ d2 40 0 = 0 ∧ (d2 40 1 = 10 ∧ d2 40 2 = 20 ∧ d2 40 3 = 60 ∧ d2 40 4 = 50 ∧ d2 40 5 = 5 ∧ d2 40 6 = 10 ∧ d2 40 7 = 6) := by
    unfold m_X2_reset_40
    simp only [pf_v]
    refine ⟨_, rfl, fun k a => by simp (disch := omega) only [up_o], ?_, ?_, ?_, ?_, ?_, ?_, ?_, ?_⟩
    all_goals simp (disch := omega) only [up_us, us_ne, us_eq]
  obtain ⟨e2, c1, c2, c3⟩ : ∃ e2, m_X12_plainLaw_174 e1 = rt 0 e2 ∧ (∀ k, k ≠ 179 → e2 k = e1 k) ∧ (e2 179 0 = 10 ∧ e2 179 1 = 20 ∧ e2 179 2 = 60 ∧ e2 179 3 = 50 ∧ e2 179 4 = 5 ∧ e2 179 5 = 10 ∧ e2 179 6 = 6) := by
    unfold m_X12_plainLaw_174
    rw [sd_in (by omega), sd_in (by omega), sd_in (by omega), sd_in (by omega), sd_in (by omega), sd_in (by omega), sd_in (by omega)]
    refine ⟨_, rfl, fun k a => by simp (disch := omega) only [up_o], ?_, ?_, ?_, ?_, ?_, ?_, ?_⟩
    all_goals simp (disch := omega) only [up_us, us_ne, us_eq]
  have lw : LWR d2 e2 := by
    obtain ⟨x1, x2, x3, x4, x5, x6, x7⟩ := b4
    obtain ⟨y1, y2, y3, y4, y5, y6, y7⟩ := c3
    intro i hi
    obtain rfl | rfl | rfl | rfl | rfl | rfl | rfl : i = 0 ∨ i = 1 ∨ i = 2 ∨ i = 3 ∨ i = 4 ∨ i = 5 ∨ i = 6 := by omega
    · rw [x1, y1]; decide
    · rw [x2, y2]; decide
    · rw [x3, y3]; decide
    · rw [x4, y4]; decide
    · rw [x5, y5]; decide
    · rw [x6, y6]; decide
    · rw [x7, y7]; decide
  have ok2 : OK d2 e2 := OK_c a3 (b2 51 (by decide)) (b2 52 (by decide)) (fun i _ => by rw [c2 174 (by decide)]) (c2 178 (by decide))
  obtain ⟨d3, e3, k, f1, f2, f3, f4, f5, f6⟩ := r_lawLoop 13 FU FU 0 d2 e2 (by decide) (by decide) (by decide) (by decide) (Or.inl ok2) (fun g => by omega) lw b3
  -- frames
  have gd : ∀ k, k < 40 ∨ 51 < k → d3 k = d k := fun k a => by rw [f3.1 k a, b2 k (by omega), a4 k (by omega)]
  have g1 : d3 51 1 = 0 := by rw [f3.2 1 (by omega), b2 51 (by omega), a5]
  have ge : ∀ k, k ≠ 174 → k < 179 ∨ 181 < k → e3 k = e k := fun k a b => by rw [f4.1 k a b, c2 k (by omega), a6 k a, up_o a]
  have g7 : e3 174 7 = 0 := by rw [f4.2 7 (by omega) (by omega) (by omega), c2 174 (by omega), a8]
  have g0 : ∀ j, j < 7 ∨ 19 < j → e3 174 j = up e 174 3 0 174 j := fun j a => by rw [f4.2 j (by omega) (by omega) (by omega), c2 174 (by omega), a7 j (by omega)]
  have g20 : e3 174 20 = e 174 20 ∧ e3 174 21 = e 174 21 := by
    rw [g0 20 (by omega), g0 21 (by omega), up_us, us_ne (by omega), us_ne (by omega)]; exact ⟨rfl, rfl⟩
  have g3 : e3 174 3 = 0 := by rw [g0 3 (by omega), m3w]
  have hC : m_X11_law_0 p d = cl (m_X8_failed_51 d3) (fun r7 d8 => if w32 r7 = 0 then cl (m_X2_clocksLike_40_22 d8) (fun r9 d10 => cl (m_X2_copyFrom_22_40 d10) (fun r11 d12 => if w32 r9 ≠ 0 then rt (d12 22 0) d12 else cl (m_X6_clockAll_9_22 d12) (fun r13 d14 => rt (d14 22 0) d14))) else rt ((-10) - (d8 51 2)) d8) := by
    unfold m_X11_law_0 m_X2_readFrom_40_51 m_X2_readFrom_40_51_c6
    rw [j1, ask_i hI (by omega), if_pos hp, cl_rt, a1, cl_rt, b1, cl_rt, f1, cl_rt]
  have hM : m_X12_law_174 p e = m_X12_law_174_c61 k e3 := by
    unfold m_X12_law_174 m_X12_law_174_c36
    rw [pf_v, w32_id hI, show up e 174 3 0 174 7 = e 174 7 from by rw [up_us, us_ne (by decide)], wi (x := e 174 7) (by omega), within_i hI (by omega), cl_rt, w32_bi, dec_t hp, bi_t, if_pos ne10, a2, cl_rt, c1, cl_rt, f2]
  rcases f5 with o | b
  · obtain ⟨o1, o2, o3⟩ := f6 o
    obtain ⟨e4, h1, h2, h3⟩ := p_lawCopy (k := k) (e := e3) o1
    obtain ⟨d4, i1, i2, i3⟩ := q_lawCopy d3
    have t4 : e3 175 = e 175 := ge 175 (by omega) (by omega)
    have he2 : ∀ k', k' ≠ 175 → up e4 175 4 k k' = e3 k' := fun k' a => by rw [up_o a]; exact h2 k' a
    generalize ht : up e4 175 4 k 175 = t'
    have hf : ∀ j : Nat, j ≠ 4 → (j < 6 ∨ 12 < j) → t' j = e 175 j := fun j a b => by
      rw [← ht, up_us, us_ne a, h3, if_neg (by omega), t4]
    have ht4 : t' 4 = k := by rw [← ht, up_us, us_eq rfl]
    have hti : ∀ i : Nat, i < 7 → t' (6 + i) = e3 179 i := fun i a => by
      rw [← ht, up_us, us_ne (by omega), h3, if_pos (by omega)]
      show e3 179 (((6 + i : Nat) : Int) - 6).toNat = _
      congr 1; omega
    have l0 := o3 0 (by omega); have l1 := o3 1 (by omega); have l2 := o3 2 (by omega); have l3 := o3 3 (by omega); have l4 := o3 4 (by omega); have l5 := o3 5 (by omega); have l6 := o3 6 (by omega)
    have s0 := hti 0 (by omega); have s1 := hti 1 (by omega); have s2 := hti 2 (by omega); have s3 := hti 3 (by omega); have s4 := hti 4 (by omega); have s5 := hti 5 (by omega); have s6 := hti 6 (by omega)
    simp only [Nat.reduceAdd] at l0 l1 l2 l3 l4 l5 l6 s0 s1 s2 s3 s4 s5 s6
    simp only [lwb, hgb] at l0 l1 l2 l3 l4 l5 l6
    simp at l0 l1 l2 l3 l4 l5 l6
    have tl : T7l t' := by
      unfold T7l
      rw [ht4, s0, s1, s2, s3, s4, s5, s6]
      omega
    have kT : TK t' := TK_law jT tl hf
    have rl : R7l d4 t' := by
      unfold R7l
      rw [ht4, s0, s1, s2, s3, s4, s5, s6, i3 0 (by omega), i3 1 (by omega), i3 2 (by omega), i3 3 (by omega), i3 4 (by omega), i3 5 (by omega), i3 6 (by omega), i3 7 (by omega)]
      exact ⟨o2, l0.1, l1.1, l2.1, l3.1, l4.1, l5.1, l6.1⟩
    have n := TKn jT
    unfold T7n at n
    have d22 := RWl jR
    have dl := TKl jT
    unfold R7l at d22
    unfold T7l at dl
    have r22 : ∀ j : Nat, j < 8 → -1000 ≤ d3 22 j ∧ d3 22 j ≤ 100000 := fun j a => by
      rw [gd 22 (by omega)]
      obtain rfl | rfl | rfl | rfl | rfl | rfl | rfl | rfl : j = 0 ∨ j = 1 ∨ j = 2 ∨ j = 3 ∨ j = 4 ∨ j = 5 ∨ j = 6 ∨ j = 7 := by omega
      all_goals omega
    have r40 : ∀ j : Nat, j < 8 → -1000 ≤ d3 40 j ∧ d3 40 j ≤ 100000 := fun j a => by
      obtain rfl | rfl | rfl | rfl | rfl | rfl | rfl | rfl : j = 0 ∨ j = 1 ∨ j = 2 ∨ j = 3 ∨ j = 4 ∨ j = 5 ∨ j = 6 ∨ j = 7 := by omega
      all_goals omega
    obtain ⟨al, q1, q2⟩ := q_alike r40 r22
    have sA : ∀ s, 0 ≤ s → s < e 175 1 → ∀ w, 0 ≤ w → w < 17 → sk t' s w = sk (e 175) s w := fun s a b w u v => hf _ (by omega) (by omega)
    have hs9 : R7s d4 (e 175) := R7s_c (RWs jR) (fun k a b => by rw [i2 k (by omega), gd k (by omega)])
    have hMM : m_X12_law_174 p e = rt k (up (up (up e4 175 4 k) 174 15 (up e4 175 4 k 174 13)) 174 16 (if up e4 175 4 k 174 13 = 0 then -1 else up e4 175 4 k 174 14)) := by
      have z13 : up e4 175 4 k 174 13 = 0 := by rw [he2 174 (by decide)]; exact o.2.2
      rw [hM]
      unfold m_X12_law_174_c61
      rw [o.2.2, if_neg (by decide), h1]
      unfold m_X12_law_174_c104
      rw [p_ends (by omega), cl_rt, if_pos z13]
    have hCC : m_X11_law_0 p d = if w32 (bi al) ≠ 0 then rt (d4 22 0) d4 else cl (m_X6_clockAll_9_22 d4) (fun r13 d14 => rt (d14 22 0) d14) := by
      rw [hC]
      unfold m_X8_failed_51
      rw [o.2.1, if_pos (show w32 0 = 0 from rfl), cl_rt, if_pos (by decide), q1, cl_rt, i1, cl_rt]
    have v22 : d4 22 0 = k := by rw [i3 0 (by omega), o2]
    cases hal : al with
    | true =>
      have rwd : RW d4 t' := by
        have al' := q2 hal
        refine RW_law jT jR hf (fun k a b => by rw [i2 k (by omega), gd k (by omega)]) rl ⟨by rw [hs9.1, hf 1 (by omega) (by omega)], fun s a b => ?_⟩
        rw [hf 1 (by omega) (by omega)] at b
        have a1' := al' 1 (by omega) (by omega); have a2' := al' 2 (by omega) (by omega); have a3' := al' 3 (by omega) (by omega); have a4' := al' 4 (by omega) (by omega); have a5' := al' 5 (by omega) (by omega)
        rw [gd 22 (by omega)] at a1' a2' a3' a4' a5'
        exact RS_t ⟨⟨by omega, by omega, by omega, by omega, by omega⟩, sA s a b⟩ (TKs jT s a b).2.2.2.2.1 (hs9.2 s a b)
      refine ⟨k, d4, _, by rw [hCC, hal, w32_bt, if_pos ne10, v22], hMM, j_good j gd g1 ge g7 g20 g3 o (fun k a => i2 k (by omega)) he2 (by rw [ht]; exact kT) (by rw [ht]; exact rwd)⟩
    | false =>
      obtain ⟨d5, w1, w2, w3⟩ := q_clockAll (t := t') (d := d4) tl (TKs kT) (by rw [hf 1 (by omega) (by omega)]; omega) rl ⟨by rw [hs9.1, hf 1 (by omega) (by omega)], fun s a b => by
        rw [hf 1 (by omega) (by omega)] at b
        exact RA7_t (sA s a b) (TKs jT s a b).2.2.2.2.1 (hs9.2 s a b).1⟩
      have w4 : ∀ k, k ≠ 15 → k ≠ 16 → k ≠ 20 → k ≠ 21 → d5 k = d4 k := fun k a b c e => by
        funext j; exact w3 k j (by omega)
      have rwd : RW d5 t' := RW_law jT jR hf (fun k a b => by rw [w4 k (by omega) (by omega) (by omega) (by omega), i2 k (by omega), gd k (by omega)]) (R7l_c rl (w4 22 (by decide) (by decide) (by decide) (by decide))) w2
      refine ⟨k, d5, _, by rw [hCC, hal, w32_bf, if_neg (by decide), w1, cl_rt, w4 22 (by decide) (by decide) (by decide) (by decide), v22], hMM, j_good j gd g1 ge g7 g20 g3 o (fun k a => by rw [w4 k (by omega) (by omega) (by omega) (by omega), i2 k (by omega)]) he2 (by rw [ht]; exact kT) (by rw [ht]; exact rwd)⟩
  · refine ⟨-10 - d3 51 2, d3, _, ?_, ?_, j_fault j gd g1 ge g7 g20 g3 b⟩
    · rw [hC]
      unfold m_X8_failed_51
      rw [if_neg b.c, cl_rt, if_neg (by decide)]
    · rw [hM]
      unfold m_X12_law_174_c61 m_X12_law_174_c104
      have := b.2.1
      rw [if_pos b.m, p_ends (by omega), cl_rt, if_neg (show ¬ e3 174 13 = 0 by omega), b.1]
theorem o_law {p : Int} {d : D9} (v : INV d) (hp : I32 p) : AI d (m_X11_law_0 p d) (m_X12_law_174 p) fA := by
  obtain ⟨⟨j1, _, _⟩, j4, _⟩ := v.2.2.1
  by_cases x : 0 ≤ p ∧ p ≤ d 174 7
  · refine AI.j v (fun e j => ?_)
    have := j.2.2.1.1
    exact j_law j (by omega)
  · refine Or.inr ⟨0, d, ⟨?_, by decide⟩, fun d' h => ?_⟩
    · unfold m_X11_law_0
      rw [j1, ask_i hp (by omega), if_neg x, cl_th]
    · refine ⟨0, _, ?_, (h.sm.tr ((MS.u3 d' 0).tr (MS.u3 _ 1)).1).inv v, ((MS.u3 d' 0).tr (MS.u3 _ 1)).2, up_same _ _ _ _⟩
      unfold m_X12_law_174
      rw [pf_v, w32_id hp, show up d' 174 3 0 174 7 = d 174 7 from by rw [up_us, us_ne (by decide), h 174 (by decide)], wi (x := d 174 7) (by omega), within_i hp (by omega), cl_rt, w32_bi, dec_f x, bi_f, if_neg (by decide), p_fails, cl_rt]

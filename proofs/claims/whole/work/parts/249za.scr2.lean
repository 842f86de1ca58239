/-! scrapers -/
theorem TK_scr {t t' : Nat → Int} (k : TK t) (l : T7r t') (hf : ∀ j : Nat, j < 1144 → t' j = t j) : TK t' := by
  have n := TKn k
  unfold T7n at n
  have hA : ∀ lo hi, hi ≤ 1144 → AGR t t' lo hi := fun lo hi h j x y => hf j (by omega)
  exact ⟨T7n_c (hA _ _ (by omega)) (TKn k), T7l_c (hf 4 (by omega)) (hA _ _ (by omega)) (TKl k), T7p_c (hf 0 (by omega)) (hA _ _ (by omega)) (by omega) (TKp k), T7o_c (hf 0 (by omega)) (hf 2 (by omega)) (hA _ _ (by omega)) (by omega) (TKo k), T7s_c (by rw [hf 0 (by omega)]; omega) (hf 1 (by omega)) (by omega) (hA _ _ (by omega)) (TKs k), T7h_c (hf 3 (by omega)) (by omega) (hA _ _ (by omega)) (TKh k), T7y_c (hf 5 (by omega)) (hA _ _ (by omega)) (TKy k), T7w_c (hA _ _ (by omega)) (TKw k), l⟩
theorem RW_scr {t t' : Nat → Int} {d d1 : D9} (k : TK t) (r : RW d t) (hf : ∀ j : Nat, j < 1144 → t' j = t j) (hd : ∀ k, k < 28 ∨ 32 < k → k ≤ 37 → d1 k = d k) (l : R7r d1 t') : RW d1 t' := by
  have n := TKn k
  unfold T7n at n
  have nl := (TKy k).1
  have hA : ∀ lo hi, hi ≤ 1144 → AGR t t' lo hi := fun lo hi h j x y => hf j (by omega)
  exact ⟨R7l_t (hf 4 (by omega)) (hA _ _ (by omega)) (R7l_c (RWl r) (hd _ (by omega) (by omega))), R7p_t (hf 0 (by omega)) (hf 2 (by omega)) (by omega) (hA _ _ (by omega)) (R7p_c (RWp r) (hd _ (by omega) (by omega)) (hd _ (by omega) (by omega)) (hd _ (by omega) (by omega)) (hd _ (by omega) (by omega)) (hd _ (by omega) (by omega))), R7o_t (hf 2 (by omega)) (by omega) (hA _ _ (by omega)) (R7o_c (RWo r) (hd _ (by omega) (by omega)) (hd _ (by omega) (by omega))), R7s_t (hf 1 (by omega)) (by omega) (hA _ _ (by omega)) (hA _ _ (by omega)) (TKs k) (R7s_c (RWs r) (fun k x y => hd k (by omega) (by omega))), R7h_t (hf 3 (by omega)) (by omega) (hA _ _ (by omega)) (R7h_c (RWh r) (hd _ (by omega) (by omega)) (hd _ (by omega) (by omega)) (hd _ (by omega) (by omega))), R7y_t (hf 5 (by omega)) (by omega) (hA _ _ (by omega)) (R7y_c (RWy r) (fun k x y => hd k (by omega) (by omega))), R7w_t (hA _ _ (by omega)) (R7w_c (RWw r) (hd _ (by omega) (by omega)) (hd _ (by omega) (by omega))), l⟩
theorem p_scrCopy {n : Int} {e : D9} (hn : e 174 18 = n) (hk : 0 ≤ n ∧ n ≤ 460) : ∃ e1, m_X12_scrapers_174_c77 0 e = m_X12_scrapers_174_c107 e1 ∧ CPY e e1 175 1144 (fun i => e 181 i.toNat) n := by
  have z := fix_fu (z := fun _ _ => none) (B := fun k => b_X12_scrapers_174_c77 k) (fun kk i (s : D9) => kk i s) 0 n (fun i s => up s 175 (1144 + i).toNat (e 181 i.toNat)) (fun i s => 0 ≤ i ∧ CPY e s 175 1144 (fun i => e 181 i.toNat) i) (fun s => m_X12_scrapers_174_c107 s) e (by omega) ⟨by omega, CPY.z _ _ _ _⟩ ?_ ?_
  · refine ⟨_, z.2, ?_⟩
    have := z.1.2
    rw [show (n - 0).toNat = (n - 0).toNat from rfl] at this
    exact this
  · intro kk s hI
    simp only [b_X12_scrapers_174_c77]
    rw [hI.2.1 174 (by decide), hn, if_pos (Int.le_refl _)]
  · intro kk i s hi hI
    refine ⟨⟨by omega, hI.2.st (by omega)⟩, ?_⟩
    simp only [b_X12_scrapers_174_c77]
    rw [hI.2.1 174 (by decide), hn, w32_id (by omega), w32_id (by omega), if_neg (by omega), ld_in (by omega), sd_in (by omega), hI.2.1 181 (by omega)]
theorem q_scrCopy (d : D9) : ∃ d1, m_X4_copyFrom_28_46 d = rt 0 d1 ∧ (∀ k, k < 28 ∨ 32 < k → d1 k = d k) ∧ d1 28 0 = d 46 0 ∧ (∀ j : Nat, j < 12 → d1 29 j = d 47 j ∧ d1 30 j = d 48 j ∧ d1 31 j = d 49 j) ∧ ∀ j : Nat, j < 400 → d1 32 j = d 50 j := by
  unfold m_X4_copyFrom_28_46
  rw [pf_v, pf_v, m_X11_copyRow_47_29, cp_in (n := 12) (m := 12) rfl (by decide), cl_rt, m_X11_copyRow_48_30, cp_in (n := 12) (m := 12) rfl (by decide), cl_rt, m_X11_copyRow_49_31, cp_in (n := 12) (m := 12) rfl (by decide), cl_rt, m_X11_copyRow_50_32, cp_in (n := 400) (m := 400) rfl (by decide), cl_rt]
  refine ⟨_, rfl, fun k a => ?_, ?_, fun j a => ⟨?_, ?_, ?_⟩, fun j a => ?_⟩
  · rw [cpy_k (by omega), cpy_k (by omega), cpy_k (by omega), cpy_k (by omega), up_o (by omega), up_o (by omega)]
  · rw [cpy_k (by omega), cpy_k (by omega), cpy_k (by omega), cpy_k (by omega), up_us, us_ne (by omega), up_us, us_eq rfl]
  · rw [cpy_k (by omega), cpy_k (by omega), cpy_k (by omega), cpy_b a, up_o (by omega), up_o (by omega)]
  · rw [cpy_k (by omega), cpy_k (by omega), cpy_b a, cpy_k (by omega), up_o (by omega), up_o (by omega)]
  · rw [cpy_k (by omega), cpy_b a, cpy_k (by omega), cpy_k (by omega), up_o (by omega), up_o (by omega)]
  · rw [cpy_b a, cpy_k (by omega), cpy_k (by omega), cpy_k (by omega), up_o (by omega), up_o (by omega)]
theorem rp_rq {t u : Nat → Int} {T : Int} (h : ∀ j : Nat, (j : Int) < T → t (1144 + j) = u j) : ∀ r : Nat, (∀ q : Nat, q < r → 1 ≤ rq u q ∧ 0 ≤ u (rq u q + 1).toNat ∧ rq u (q + 1) ≤ T) → rp t r = 1144 + rq u r
  | 0, _ => rfl
  | r + 1, g => by
    have ih := rp_rq h r (fun q hq => g q (by omega))
    have b := g r (by omega)
    have b' := b
    rw [rq_s] at b'
    have e1 : rp t (r + 1) = rp t r + 2 + t (rp t r + 1).toNat := rfl
    rw [e1, rq_s, ih, show (1144 + rq u r + 1).toNat = 1144 + (rq u r + 1).toNat by omega, h _ (by omega)]
    omega
theorem j_scrapers {d e : D9} {p : Int} (j : JR d e) (hp : 0 ≤ p ∧ p ≤ e 174 7) : ∃ x d1 e1, m_X11_scrapers_0 p d = rt x d1 ∧ m_X12_scrapers_174 p e = rt x e1 ∧ JP d e d1 e1 := by
  obtain ⟨jT, jR, ⟨j1, j2, j3⟩, j4, j5⟩ := id j
  have hI : I32 p := by unfold I32; omega
  obtain ⟨d1, e1, a1, a2, a3, a4, a5, a6, a7, a8⟩ := r_begin (d := d) (e := up e 174 3 0) (p := p) (by unfold TPE; rw [up_o (by decide)]; exact j5) (by omega)
  generalize hD : up (up d1 46 0 0) 46 1 0 = D
  generalize hE : up (up (up e1 174 19 0) 181 0 0) 174 18 1 = E
  have hd2 : ∀ k, k ≠ 46 → D k = d1 k := fun k a => by rw [← hD, up_o a, up_o a]
  have he2 : ∀ k, k ≠ 174 → k ≠ 181 → E k = e1 k := fun k a b => by rw [← hE, up_o a, up_o b, up_o a]
  have he3 : ∀ j, j ≠ 18 → j ≠ 19 → E 174 j = e1 174 j := fun j a b => by rw [← hE, up_us, us_ne a, up_o (by decide), up_us, us_ne b]
  have ok2 : OK D E := OK_c a3 (hd2 51 (by decide)) (hd2 52 (by decide)) (fun i _ => he3 i (by omega) (by omega)) (he2 178 (by decide) (by decide))
  have x46 : D 46 1 = 0 := by rw [← hD, up_us, us_eq rfl]
  have y46 : D 46 0 = 0 := by rw [← hD, up_us, us_ne (by decide), up_us, us_eq rfl]
  have x18 : E 174 18 = 1 := by rw [← hE, up_us, us_eq rfl]
  have x19 : E 174 19 = 0 := by rw [← hE, up_us, us_ne (by decide), up_o (by decide), up_us, us_eq rfl]
  have x81 : E 181 0 = 0 := by rw [← hE, up_o (by decide), up_us, us_eq rfl]
  have si0 : SI D E 0 := ⟨by rw [x46]; have := ok2.s; omega, by rw [x46, x18]; rfl, x19, x81, by rw [x18]; rfl, fun r hr => by omega⟩
  obtain ⟨d3, e3, f1, f2, f3, f4, f5, f6⟩ := r_scrLoop 13 FU FU 0 D E (by decide) (by decide) (by decide) (by decide) (Or.inl ok2) (fun g => by omega) (fun _ => ⟨si0, y46⟩)
  have gd : ∀ k, k < 40 ∨ 51 < k → d3 k = d k := fun k a => by rw [f3.1 k a, hd2 k (by omega), a4 k (by omega)]
  have g1 : d3 51 1 = 0 := by rw [f3.2 1 (by omega), hd2 51 (by omega), a5]
  have ge : ∀ k, k ≠ 174 → k < 179 ∨ 181 < k → e3 k = e k := fun k a b => by rw [f4.1 k a b, he2 k a (by omega), a6 k a, up_o a]
  have g7 : e3 174 7 = 0 := by rw [f4.2 7 (by omega) (by omega) (by omega), he3 7 (by omega) (by omega), a8]
  have g0 : ∀ j, j < 7 ∨ 19 < j → e3 174 j = up e 174 3 0 174 j := fun j a => by rw [f4.2 j (by omega) (by omega) (by omega), he3 j (by omega) (by omega), a7 j (by omega)]
  have g20 : e3 174 20 = e 174 20 ∧ e3 174 21 = e 174 21 := by
    rw [g0 20 (by omega), g0 21 (by omega), up_us, us_ne (by omega), us_ne (by omega)]; exact ⟨rfl, rfl⟩
  have g3 : e3 174 3 = 0 := by rw [g0 3 (by omega), m3w]
  have hC : m_X11_scrapers_0 p d = cl (m_X8_failed_51 d3) (fun r7 d8 => if w32 r7 = 0 then cl (m_X4_copyFrom_28_46 d8) (fun r9 d10 => rt (d10 28 0) d10) else rt ((-10) - (d8 51 2)) d8) := by
    unfold m_X11_scrapers_0 m_X4_readFrom_46_51 m_X4_readFrom_46_51_c12
    rw [j1, ask_i hI (by omega), if_pos hp, cl_rt, a1, cl_rt, pf_v, pf_v, hD, f1, cl_rt]
  have hM : m_X12_scrapers_174 p e = m_X12_scrapers_174_c68 e3 := by
    unfold m_X12_scrapers_174 m_X12_scrapers_174_c47
    rw [pf_v, w32_id hI, show up e 174 3 0 174 7 = e 174 7 from by rw [up_us, us_ne (by decide)], wi (x := e 174 7) (by omega), within_i hI (by omega), cl_rt, w32_bi, dec_t hp, bi_t, if_pos ne10, a2, cl_rt, pf_v, sd_in (by omega), pf_v, Int.toNat_zero, hE, f2]
  rcases f5 with o | b
  · obtain ⟨k, o1, o2, s1, s2, s3, s4, s5, s6⟩ := f6 o
    have os := o.s
    generalize hT : e3 174 18 = T at s2 s5
    obtain ⟨e4, h1, h2, h3⟩ := p_scrCopy hT (by omega)
    obtain ⟨d4, i1, i2, i3, i4, i5⟩ := q_scrCopy d3
    have t4 : e3 175 = e 175 := ge 175 (by omega) (by omega)
    generalize ht : e4 175 = t'
    have hf : ∀ j : Nat, j < 1144 → t' j = e 175 j := fun j a => by rw [← ht, h3, if_neg (by omega), t4]
    have hu : ∀ j : Nat, (j : Int) < T → t' (1144 + j) = e3 181 j := fun j a => by
      rw [← ht, h3, if_pos (by omega)]
      show e3 181 _ = _
      congr 1; omega
    have hb : ∀ q : Nat, (q : Int) < k → 1 ≤ rq (e3 181) q ∧ 0 ≤ e3 181 (rq (e3 181) q + 1).toNat ∧ rq (e3 181) (q + 1) ≤ T := fun q hq => by
      have := (s6 q hq).1
      rw [hT] at this
      exact this
    have hrp : ∀ r : Nat, (r : Int) ≤ k → rp t' r = 1144 + rq (e3 181) r := fun r hr => rp_rq hu r (fun q hq => hb q (by omega))
    have t44 : t' 1144 = k := by rw [show (1144 : Nat) = 1144 + 0 from rfl, hu 0 (by omega), s4]
    have tr : T7r t' := by
      refine ⟨by rw [t44]; exact o1, fun r hr => ?_⟩
      rw [t44] at hr
      obtain ⟨b1, b2, b3, b4, b5⟩ := s6 r hr
      have bb := hb r hr
      have bb' := bb
      rw [rq_s] at bb'
      rw [hrp r (by omega), hrp (r + 1) (by omega)]
      rw [show (1144 + rq (e3 181) r).toNat = 1144 + (rq (e3 181) r).toNat by omega, show (1144 + rq (e3 181) r + 1).toNat = 1144 + (rq (e3 181) r + 1).toNat by omega, hu _ (by omega), hu _ (by omega)]
      refine ⟨by omega, b2, bb.2.1, by omega, PG7_c (fun i u v => ?_) b3⟩
      rw [show (1144 + rq (e3 181) r + 2 + i).toNat = 1144 + (rq (e3 181) r + 2 + i).toNat by omega, hu _ (by omega)]
    have rr : R7r d4 t' := by
      refine ⟨by rw [i3, t44, o2], fun r hr => ?_⟩
      rw [t44] at hr
      obtain ⟨b1, b2, b3, b4, b5⟩ := s6 r hr
      have bb := hb r hr
      have bb' := bb
      rw [rq_s] at bb'
      obtain ⟨x1, x2, x3⟩ := i4 r (by omega)
      rw [hrp r (by omega), show (1144 + rq (e3 181) r).toNat = 1144 + (rq (e3 181) r).toNat by omega, show (1144 + rq (e3 181) r + 1).toNat = 1144 + (rq (e3 181) r + 1).toNat by omega, hu _ (by omega), hu _ (by omega), x1, x2, x3]
      refine ⟨b4.1, b4.2.1, b4.2.2.1, by omega, fun i u v => ?_⟩
      rw [show (1144 + rq (e3 181) r + 2 + i).toNat = 1144 + (rq (e3 181) r + 2 + i).toNat by omega, hu _ (by omega), i5 _ (by omega)]
      exact b5 i u v
    have kT : TK t' := TK_scr jT tr hf
    have rwd : RW d4 t' := RW_scr jT jR hf (fun k a b => by rw [i2 k (by omega), gd k (by omega)]) rr
    have z13 : e4 174 13 = 0 := by rw [h2 174 (by decide)]; exact o.2.2
    refine ⟨k, d4, _, ?_, ?_, j_good (e2 := e4) j gd g1 ge g7 g20 g3 o (fun k a => i2 k (by omega)) (fun k' a => h2 k' a) (by rw [ht]; exact kT) (by rw [ht]; exact rwd)⟩
    · rw [hC]
      unfold m_X8_failed_51
      rw [o.2.1, if_pos (show w32 0 = 0 from rfl), cl_rt, if_pos (by decide), i1, cl_rt, i3, o2]
    · rw [hM]
      unfold m_X12_scrapers_174_c68
      rw [o.2.2, if_neg (by decide), h1]
      unfold m_X12_scrapers_174_c107
      rw [ld_in (by omega), Int.toNat_zero, h2 181 (by decide), s4, p_ends (by omega), cl_rt, if_pos z13]
  · have b2 := b.2.1
    refine ⟨-10 - d3 51 2, d3, _, ?_, ?_, j_fault j gd g1 ge g7 g20 g3 b⟩
    · rw [hC]
      unfold m_X8_failed_51
      rw [if_neg b.c, cl_rt, if_neg (by decide)]
    · rw [hM]
      unfold m_X12_scrapers_174_c68 m_X12_scrapers_174_c107
      rw [if_pos b.m, ld_in (by omega), p_ends (by omega), cl_rt, if_neg (show ¬ e3 174 13 = 0 by omega), b.1]
theorem o_scrapers {p : Int} {d : D9} (v : INV d) (hp : I32 p) : AI d (m_X11_scrapers_0 p d) (m_X12_scrapers_174 p) fA := by
  obtain ⟨⟨j1, _, _⟩, j4, _⟩ := v.2.2.1
  by_cases x : 0 ≤ p ∧ p ≤ d 174 7
  · refine AI.j v (fun e j => ?_)
    have := j.2.2.1.1
    exact j_scrapers j (by omega)
  · refine Or.inr ⟨0, d, ⟨?_, by decide⟩, fun d' h => ?_⟩
    · unfold m_X11_scrapers_0
      rw [j1, ask_i hp (by omega), if_neg x, cl_th]
    · refine ⟨0, _, ?_, (h.sm.tr ((MS.u3 d' 0).tr (MS.u3 _ 1)).1).inv v, ((MS.u3 d' 0).tr (MS.u3 _ 1)).2, up_same _ _ _ _⟩
      unfold m_X12_scrapers_174
      rw [pf_v, w32_id hp, show up d' 174 3 0 174 7 = d 174 7 from by rw [up_us, us_ne (by decide), h 174 (by decide)], wi (x := d 174 7) (by omega), within_i hp (by omega), cl_rt, w32_bi, dec_f x, bi_f, if_neg (by decide), p_fails, cl_rt]

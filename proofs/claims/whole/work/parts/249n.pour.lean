/-! layers from a tray -/
theorem JL {s p M : Int} {D : Nat → Int} (hp : 0 ≤ p ∧ p ≤ 3) (hM : 0 ≤ M ∧ M ≤ 13) (hD : ∀ j, 0 ≤ j → j < 3 * M → C5 (D (p * 40 + j).toNat)) : ∀ (m f1 f2 : Nat) (i : Int) (d e : D9), m < f1 → m < f2 → i + m = M → 0 ≤ i → TK (e 175) → RW d (e 175) → 0 ≤ s ∧ s < e 175 1 → sk (e 175) s 4 + m ≤ 4 → d 57 = D → (∀ j, 0 ≤ j → j < 3 * M → e 193 (40 * p + j).toNat = D (p * 40 + j).toNat) →
    ∃ d1 e1, fix9 (fun _ _ _ _ _ _ => none) (fun k => b_X11_pour_0_c92 k) f1 s p (3 * M) M (3 * i) d = rt M d1 ∧ fix9 (fun _ _ _ _ _ => none) (fun k => b_X12_pour_174_c158 k) f2 s M (40 * p) i e = rt M e1 ∧ (∀ k, k < 9 ∨ 21 < k → d1 k = d k) ∧ (∀ k, k ≠ 175 → e1 k = e k) ∧ TK (e1 175) ∧ RW d1 (e1 175)
  | 0, f1 + 1, f2 + 1, i, d, e, _, _, hi, h0, kt, rw', _, _, _, _ => by
    refine ⟨d, e, ?_, ?_, fun _ _ => rfl, fun _ _ => rfl, kt, rw'⟩
    · rw [fx5, b_X11_pour_0_c92, w32_id (by omega), w32_id (by omega), if_pos (by omega)]
    · rw [fx4, b_X12_pour_174_c158, w32_id (by omega), w32_id (by omega), if_pos (by omega)]
  | m + 1, f1 + 1, f2 + 1, i, d, e, g1, g2, hi, h0, kt, rw', hs, hL, h57, h193 => by
    have n := TKn kt
    unfold T7n at n
    obtain ⟨e1, x1, x2, x3⟩ := p_addLayer (d := e) (a := D (p * 40 + 3 * i).toNat) (b := D (p * 40 + (3 * i + 1)).toNat) (e := D (p * 40 + (3 * i + 2)).toNat) kt rfl hs (by omega)
    obtain ⟨d1, y1, y2, y3, y4⟩ := T_layer kt rw' hs (by omega) (hD (3 * i) (by omega) (by omega)) (hD (3 * i + 1) (by omega) (by omega)) (hD (3 * i + 2) (by omega) (by omega)) x3
    have hs1 : e1 175 1 = e 175 1 := x3.2.2.2.2 1 (by omega) (by have := (TKs kt s hs.1 hs.2).2.2.2.2.1; omega)
    obtain ⟨d2, e2, z1, z2, z3, z4, z5, z6⟩ := JL hp hM hD m f1 f2 (i + 1) d1 e1 (by omega) (by omega) (by omega) (by omega) y3 y4 (by rw [hs1]; exact hs) (by rw [x3.1]; omega) (by rw [y2 57 (by omega)]; exact h57) (fun j u v => by rw [x2 193 (by omega)]; exact h193 j u v)
    refine ⟨d2, e2, ?_, ?_, fun k u => (z3 k u).trans (y2 k u), fun k u => (z4 k u).trans (x2 k u), z5, z6⟩
    · rw [fx5, b_X11_pour_0_c92, w32_id (by omega), w32_id (by omega), if_neg (by omega), m_X9_numberAt_54, ld_in (by omega), cl_rt, m_X9_numberAt_54, ld_in (by omega), cl_rt, m_X9_numberAt_54, ld_in (by omega), cl_rt, h57, y1, cl_rt, show 3 * i + 3 = 3 * (i + 1) by omega, z1]
    · rw [fx4, b_X12_pour_174_c158, w32_id (by omega), w32_id (by omega), if_neg (by omega), ld_in (by omega), ld_in (by omega), ld_in (by omega), h193 (3 * i) (by omega) (by omega), show 40 * p + 3 * i + 1 = 40 * p + (3 * i + 1) by omega, show 40 * p + 3 * i + 2 = 40 * p + (3 * i + 2) by omega, h193 (3 * i + 1) (by omega) (by omega), h193 (3 * i + 2) (by omega) (by omega), x1, cl_rt, z2]
  | _, 0, _, _, _, _, hf, _, _, _, _, _, _, _, _, _ => absurd hf (Nat.not_lt_zero _)
  | _, _, 0, _, _, _, _, hf, _, _, _, _, _, _, _, _ => absurd hf (Nat.not_lt_zero _)
theorem ex_3 {P : Int → Bool} : ∀ {m : Nat} {i : Int}, ex (fun i => P (3 * i) || (P (3 * i + 1) || P (3 * i + 2))) m i = ex P (3 * m) (3 * i)
  | 0, _ => rfl
  | m + 1, i => by
    rw [show 3 * (m + 1) = 3 * m + 1 + 1 + 1 by omega]
    simp only [ex]
    rw [ex_3 (m := m), show 3 * (i + 1) = 3 * i + 1 + 1 + 1 by omega, show 3 * i + 1 + 1 = 3 * i + 2 by omega, Bool.or_assoc, Bool.or_assoc]
theorem p_c77 {s p M : Int} {d e : D9} (hp : 0 ≤ p ∧ p ≤ 3) (hM : 0 ≤ M ∧ M ≤ 13) (t : TY d) (h193 : e 193 = d 193) : m_X12_pour_174_c77 s M (40 * p) 0 e = if ex (bad d p 0 9999) (3 * M).toNat 0 = true then rt 0 (up e 174 3 4) else cl (m_X12_ofSkin_174 s 4 e) (fun r1 d2 => if w32 (r1 + M) ≤ w32 4 then m_X12_pour_174_c158 s M (40 * p) 0 d2 else rt (-1) d2) := by
  have z := fix_xu (z := fun _ _ _ _ _ => none) (B := fun k => b_X12_pour_174_c77 k) (fun k i => k s M (40 * p) i e) 0 M (fun i => bad d p 0 9999 (3 * i) || (bad d p 0 9999 (3 * i + 1) || bad d p 0 9999 (3 * i + 2))) (rt 0 (up e 174 3 4)) (cl (m_X12_ofSkin_174 s 4 e) (fun r1 d2 => if w32 (r1 + M) ≤ w32 4 then m_X12_pour_174_c158 s M (40 * p) 0 d2 else rt (-1) d2)) (by omega) ?_ ?_
  · rw [ex_3, show 3 * (M - 0).toNat = (3 * M).toNat by omega] at z
    exact z
  · intro k
    simp only [b_X12_pour_174_c77]
    rw [if_pos (Int.le_refl _)]
  · intro k i h0 hi
    have r0 := t.2 (p * 40 + 3 * i).toNat (by omega)
    have r1 := t.2 (p * 40 + (3 * i + 1)).toNat (by omega)
    have r2 := t.2 (p * 40 + (3 * i + 2)).toNat (by omega)
    simp only [b_X12_pour_174_c77]
    rw [w32_id (by omega), w32_id (by omega), if_neg (by omega), ld_in (by omega), ld_in (by omega), ld_in (by omega), h193, show 40 * p + 3 * i + 1 = p * 40 + (3 * i + 1) by omega, show 40 * p + 3 * i + 2 = p * 40 + (3 * i + 2) by omega, show 40 * p + 3 * i = p * 40 + 3 * i by omega, ← r0.1, ← r1.1, ← r2.1, p_areCounts (by omega) (by omega) (by omega), cl_rt, w32_bi]
    unfold bad
    generalize d 57 (p * 40 + 3 * i).toNat = A
    generalize d 57 (p * 40 + (3 * i + 1)).toNat = B
    generalize d 57 (p * 40 + (3 * i + 2)).toNat = C
    by_cases a : 0 ≤ A ∧ A ≤ 9999
    · by_cases b : 0 ≤ B ∧ B ≤ 9999
      · by_cases c : 0 ≤ C ∧ C ≤ 9999
        · rw [dec_t (show (0 ≤ A ∧ A ≤ 9999) ∧ (0 ≤ B ∧ B ≤ 9999) ∧ 0 ≤ C ∧ C ≤ 9999 from ⟨a, b, c⟩), bi_t, if_pos ne10, dec_f (fun g => g a), dec_f (fun g => g b), dec_f (fun g => g c), if_neg (by decide)]
        · rw [dec_f (show ¬ ((0 ≤ A ∧ A ≤ 9999) ∧ (0 ≤ B ∧ B ≤ 9999) ∧ 0 ≤ C ∧ C ≤ 9999) from fun g => c g.2.2), bi_f, if_neg (show ¬ (0 : Int) ≠ 0 by omega), dec_t c, Bool.or_true, Bool.or_true, if_pos rfl]; rfl
      · rw [dec_f (show ¬ ((0 ≤ A ∧ A ≤ 9999) ∧ (0 ≤ B ∧ B ≤ 9999) ∧ 0 ≤ C ∧ C ≤ 9999) from fun g => b g.2.1), bi_f, if_neg (show ¬ (0 : Int) ≠ 0 by omega), dec_t b, Bool.true_or, Bool.or_true, if_pos rfl]; rfl
    · rw [dec_f (show ¬ ((0 ≤ A ∧ A ≤ 9999) ∧ (0 ≤ B ∧ B ≤ 9999) ∧ 0 ≤ C ∧ C ≤ 9999) from fun g => a g.1), bi_f, if_neg (show ¬ (0 : Int) ≠ 0 by omega), dec_t a, Bool.true_or, if_pos rfl]; rfl
theorem o_pour {s p : Int} {d : D9} (v : INV d) (hs : I32 s) (hp : I32 p) : AI d (m_X11_pour_0 s p d) (m_X12_pour_174 s p) fP := by
  have q := v.1
  have t := v.2.2.2.2
  have n := TKn q.1
  unfold T7n at n
  have hC := m_X11_pour_0.eq_1 s p d
  rw [q_askSkin hs (RWs q.2).1 (by omega)] at hC
  by_cases x : 0 ≤ s ∧ s < d 175 1
  · rw [if_pos x, cl_rt, q_askFilled hp t] at hC
    have k4 := (TKs q.1 s x.1 x.2).2.2.2.2.1
    have r4 := ((RWs q.2).2 s x.1 x.2).1.2.2.2.2.1
    by_cases a : 0 ≤ p ∧ p ≤ 3
    · rw [if_pos a] at hC
      rcases t.1 p.toNat (by omega) with ⟨b, c⟩ | ⟨b, c, c1, c2⟩
      · rw [if_pos b, cl_th] at hC
        refine AG.ai v (Or.inr ⟨1, d, ⟨hC, by decide⟩, SM.rf d, fun d' sm => ?_⟩)
        have e1 := (m3 d' 0).1.trans sm.t
        unfold m_X12_pour_174
        rw [pf_v, isSkin_t q.1 e1 hs, cl_rt, dec_t x, bi_t, t1_0, if_neg ne10, p_isTray hp, cl_rt, dec_t a, bi_t, t1_0, if_pos ne10, ld_in (by omega), up_o (by omega), sm.1 191 (by unfold SCR; omega), c, if_neg (by omega), p_fails, cl_rt]
        exact thr1 d' 2
      · have hR : rem9 (d 56 p.toNat) 3 = d 56 p.toNat % 3 := by rw [rem9_in (by omega), Int.tmod_eq_emod_of_nonneg (by omega)]
        have hQ : div9 (d 56 p.toNat) 3 = d 56 p.toNat / 3 := by rw [div9_in (by omega), tdiv_pos (by omega)]
        rw [if_neg (by omega), cl_rt, ld_in (by omega), hR, w32_id (by omega), hQ] at hC
        have hM : ∀ d' : D9, d' 175 = d 175 → d' 191 = d 191 → d' 192 = d 192 → m_X12_pour_174 s p d' = if d 56 p.toNat % 3 = 0 then m_X12_pour_174_c77 s (d 56 p.toNat / 3) (40 * p) 0 (up d' 174 3 0) else rt 0 (up (up d' 174 3 0) 174 3 3) := fun d' s0 s1 s2 => by
          have e1 := (m3 d' 0).1.trans s0
          unfold m_X12_pour_174
          rw [pf_v, isSkin_t q.1 e1 hs, cl_rt, dec_t x, bi_t, t1_0, if_neg ne10, p_isTray hp, cl_rt, dec_t a, bi_t, t1_0, if_pos ne10, ld_in (by omega), up_o (by omega), s1, w32_id (by omega), if_pos (show d 191 p.toNat ≠ w32 (-1) by rw [w32_id (by omega)]; omega), ld_in (by omega), up_o (by omega), s2, c, hR, w32_id (by omega), ld_in (by omega), up_o (by omega), s2, c, hQ, lt_v, lt_v, p_fails, cl_rt]
        by_cases y : d 56 p.toNat % 3 = 0
        · rw [if_pos y, q_allW a t b (by unfold I32; omega) (by unfold I32; omega)] at hC
          have e3 : 3 * (d 56 p.toNat / 3) = d 56 p.toNat := by omega
          cases hx : ex (bad d p 0 9999) (d 56 p.toNat).toNat 0
          · have hD : ∀ j, 0 ≤ j → j < 3 * (d 56 p.toNat / 3) → C5 (d 57 (p * 40 + j).toNat) := fun j u w => by
              have := ex_false.mp hx j u (by omega)
              unfold bad at this
              unfold C5
              exact Classical.byContradiction fun g => by rw [dec_t g] at this; exact absurd this (by decide)
            rw [hx, if_neg (by decide), cl_rt, t1_0, if_pos ne10, lt_v, ld_in (by omega), r4, w32_id (by omega), w32_id (a := 4) (by omega)] at hC
            by_cases z : sk (d 175) s 4 + d 56 p.toNat / 3 ≤ 4
            · rw [if_pos z] at hC
              have run : ∀ e : D9, e 175 = d 175 → e 193 = d 193 → ∃ d1 e1, m_X11_pour_0_c92 s p (3 * (d 56 p.toNat / 3)) (d 56 p.toNat / 3) 0 d = rt (d 56 p.toNat / 3) d1 ∧ m_X12_pour_174_c158 s (d 56 p.toNat / 3) (40 * p) 0 e = rt (d 56 p.toNat / 3) e1 ∧ (∀ k, k < 9 ∨ 21 < k → d1 k = d k) ∧ (∀ k, k ≠ 175 → e1 k = e k) ∧ TK (e1 175) ∧ RW d1 (e1 175) := fun e h1 h2 =>
                JL (M := d 56 p.toNat / 3) (D := d 57) a (by omega) hD (d 56 p.toNat / 3).toNat FU FU 0 d e (by unfold FU; omega) (by unfold FU; omega) (by omega) (by omega) (by rw [h1]; exact q.1) (by rw [h1]; exact q.2) (by rw [h1]; exact x) (by rw [h1]; omega) rfl (fun j u w => by rw [h2, (t.2 _ (by omega)).1, show 40 * p + j = p * 40 + j by omega])
              obtain ⟨d1, _, y1, _, y3, _, _, _⟩ := run d rfl rfl
              rw [e3] at y1
              refine Or.inl ⟨_, d1, hC.trans y1, fun d' h => ?_⟩
              have g2 : ∀ k, k < 9 ∨ 21 < k → k ≠ 194 → d' k = d k := fun k u w => (h k w).trans (y3 k u)
              have e1 := (m3 d' 0).1.trans (g2 175 (by omega) (by omega))
              obtain ⟨d1', f1', w1, w2, w3, w4, w5, w6⟩ := run (up d' 174 3 0) e1 (by rw [up_o (by omega), g2 193 (by omega) (by omega)])
              rw [e3, y1] at w1
              have ee := (rt_inj w1).2
              subst ee
              have m7 : M7 d' f1' := ⟨fun k u w => by rw [w4 k u, up_o w], fun j u => by rw [w4 174 (by omega), up_us, us_ne u]⟩
              refine ⟨f1', ?_, ⟨⟨w5, RW_c w6 (fun k u w => by rw [m7.1 k (by omega) (by omega), h k (by omega)])⟩, (((WM.of fun k u w => y3 k (by omega)).tr h.sm.wm).tr m7.wm).iv v.2⟩, m7.1 194 (by omega) (by omega), by rw [w4 174 (by omega), m3w]⟩
              rw [hM d' (g2 175 (by omega) (by omega)) (g2 191 (by omega) (by omega)) (g2 192 (by omega) (by omega)), if_pos y, p_c77 a (by omega) t (by rw [up_o (by omega), g2 193 (by omega) (by omega)]), e3, hx, if_neg (by decide), sk_of e1 (by omega), cl_rt, w32_id (by omega), w32_id (a := 4) (by omega), if_pos z, w2]
            · rw [if_neg z] at hC
              refine AG.ai v (Or.inl ⟨-1, d, hC, SM.rf d, fun d' sm => ⟨up d' 174 3 0, ?_, MS.u3 d' 0, m3w _ _⟩⟩)
              have e1 := (m3 d' 0).1.trans sm.t
              rw [hM d' sm.t (sm.1 191 (by unfold SCR; omega)) (sm.1 192 (by unfold SCR; omega)), if_pos y, p_c77 a (by omega) t (by rw [up_o (by omega)]; exact sm.1 193 (by unfold SCR; omega)), e3, hx, if_neg (by decide), sk_of e1 (by omega), cl_rt, w32_id (by omega), w32_id (a := 4) (by omega), if_neg z]
          · rw [hx, if_pos rfl, cl_rt, t0_0, if_neg (by omega)] at hC
            refine AG.ai v (Or.inr ⟨0, d, ⟨hC, by decide⟩, SM.rf d, fun d' sm => ?_⟩)
            rw [hM d' sm.t (sm.1 191 (by unfold SCR; omega)) (sm.1 192 (by unfold SCR; omega)), if_pos y, p_c77 a (by omega) t (by rw [up_o (by omega)]; exact sm.1 193 (by unfold SCR; omega)), e3, hx, if_pos rfl]
            exact thr1 d' 4
        · rw [if_neg y] at hC
          refine AG.ai v (Or.inr ⟨3, d, ⟨hC, by decide⟩, SM.rf d, fun d' sm => ?_⟩)
          rw [hM d' sm.t (sm.1 191 (by unfold SCR; omega)) (sm.1 192 (by unfold SCR; omega)), if_neg y]
          exact thr1 d' 3
    · rw [if_neg a, cl_th] at hC
      refine AG.ai v (Or.inr ⟨2, d, ⟨hC, by decide⟩, SM.rf d, fun d' sm => ?_⟩)
      have e1 := (m3 d' 0).1.trans sm.t
      unfold m_X12_pour_174 m_X12_pour_174_c20
      rw [pf_v, isSkin_t q.1 e1 hs, cl_rt, dec_t x, bi_t, t1_0, if_neg ne10, p_isTray hp, cl_rt, dec_f a, bi_f, t0_0, if_neg (show ¬ (0 : Int) ≠ 0 by omega), p_fails, cl_rt]
      exact thr1 d' 1
  · rw [if_neg x, cl_th] at hC
    refine AG.ai v (Or.inr ⟨2, d, ⟨hC, by decide⟩, SM.rf d, fun d' sm => ?_⟩)
    have e1 := (m3 d' 0).1.trans sm.t
    unfold m_X12_pour_174 m_X12_pour_174_c20
    rw [pf_v, isSkin_t q.1 e1 hs, cl_rt, dec_f x, bi_f, t0_0, if_pos rfl, p_fails, cl_rt]
    exact thr1 d' 1

/-! bent -/
theorem AFref {d' : D9} {x : Option R9} {v b : Int} (hv : 1 ≤ v ∧ v ≤ 3) (hx : x = rt b (up d' 174 3 v)) : ∃ b' d2, x = rt b' d2 ∧ MS d' d2 ∧ d2 174 3 = v := ref3 hv hx
theorem o_bent {p f : Int} {d : D9} (q : Q7 d) (hp : I32 p) (hf : I32 f) : AF d (m_X11_bent_0 p f d) (m_X12_bent_174 p f) f1 := by
  have n0 := (TKn q.1).1
  have ha := q_askHand q.1 q.2 hp
  by_cases hc : 0 ≤ p ∧ p < d 175 0
  · by_cases hk : pt (d 175) p 0 = 0
    · by_cases hD : 0 ≤ f ∧ f ≤ 4
      · have a1 := (TKp q.1 p hc.1 hc.2).2.2.2 f hD.1 (by omega)
        have a2 := due_rng q.1 (p := p) hD
        by_cases hs : 2 * pt (d 175) p (3 + f) < due7 (d 175) p f
        · have hpart : 0 ≤ 10 * pt (d 175) p (3 + f) / due7 (d 175) p f ∧ 10 * pt (d 175) p (3 + f) / due7 (d 175) p f < 5 := by
            have h1 : 0 ≤ 10 * pt (d 175) p (3 + f) / due7 (d 175) p f := Int.ediv_nonneg (by omega) (by omega)
            have h2 : 10 * pt (d 175) p (3 + f) / due7 (d 175) p f < 5 := Int.ediv_lt_of_lt_mul (by omega) (by omega)
            omega
          have w1 := TKw q.1 (10 * pt (d 175) p (3 + f) / due7 (d 175) p f) hpart.1 (by omega)
          have w2 := TKw q.1 (5 + 10 * pt (d 175) p (3 + f) / due7 (d 175) p f) (by omega) (by omega)
          rw [show 1134 + (5 + 10 * pt (d 175) p (3 + f) / due7 (d 175) p f) = 1139 + 10 * pt (d 175) p (3 + f) / due7 (d 175) p f by omega] at w2
          have rw1 := RWw q.2 (10 * pt (d 175) p (3 + f) / due7 (d 175) p f) hpart.1 hpart.2
          have hcls : m_X11_bent_0 p f d = cl (cl (m_X0_put_53 (d 175 (1134 + 10 * pt (d 175) p (3 + f) / due7 (d 175) p f).toNat) (d 175 (1134 + 10 * pt (d 175) p (3 + f) / due7 (d 175) p f).toNat + d 175 (1139 + 10 * pt (d 175) p (3 + f) / due7 (d 175) p f).toNat) d) (fun r10 d11 => rt (r10 % 2) d11)) (fun r5 d6 => rt (r5 % 2) d6) := by
            unfold m_X11_bent_0 m_X10_bentInto_1_53
            rw [ha, if_pos hc, if_pos hk, cl_rt, ask_i hf (by omega), if_pos hD, cl_rt, q_due q.1 q.2 hc hD, cl_rt, w32_id (by omega), if_neg (by omega), q_stump q.1 q.2 hc hD, cl_rt, w32_bi, show stm (d 175) p f = true from dec_t hs, bi_t, if_pos ne10, ld_in (by omega), ((RWp q.2).2.2.1 p hc.1 hc.2).2.2.2 f hD.1 (by omega), dv_in (by omega), lt_v, div9_in (by omega), tdiv_pos (by omega)]
            rw [w32_id (by omega), if_neg (by omega), w32_id (by omega), if_pos hpart.2, ld_in (by omega), ld_in (by omega), rw1.1, rw1.2, w32_id (by omega), w32_id (by omega)]
          have hmod : ∀ d' : D9, d' 175 = d 175 → m_X12_bent_174 p f d' = if d 175 (1134 + 10 * pt (d 175) p (3 + f) / due7 (d 175) p f).toNat + d 175 (1139 + 10 * pt (d 175) p (3 + f) / due7 (d 175) p f).toNat ≠ 0 then cl (m_X12_fraction_174 (d 175 (1134 + 10 * pt (d 175) p (3 + f) / due7 (d 175) p f).toNat) (d 175 (1134 + 10 * pt (d 175) p (3 + f) / due7 (d 175) p f).toNat + d 175 (1139 + 10 * pt (d 175) p (3 + f) / due7 (d 175) p f).toNat) (up d' 174 3 0)) (fun r16 d17 => rt (r16 % 2) d17) else cl (m_X12_nothing_174 (up d' 174 3 0)) (fun r18 d19 => rt (r18 % 2) d19) := by
            intro d' e
            have e1 := (m3 d' 0).1.trans e
            unfold m_X12_bent_174
            rw [p_fingerFault q.1 e hp hf (by omega), hfa_0 ⟨hc, hk⟩, if_pos rfl, if_pos hD, cl_rt, pf_v, m3w, t0_0, if_pos (by omega), p_stump q.1 e1 hc hD, cl_rt, w32_bi, show stm (d 175) p f = true from dec_t hs, bi_t, if_pos ne10, fin_of e1 (by omega), cl_rt, p_due q.1 e1 hc hD, cl_rt, dv_in (by omega), lt_v, div9_in (by omega), tdiv_pos (by omega), ld_in (by omega), e1, lt_v, ld_in (by omega), e1, lt_v, w32_id (by omega), w32_id (by omega), w64_id (by omega), w64_id (by omega)]
          generalize d 175 (1134 + 10 * pt (d 175) p (3 + f) / due7 (d 175) p f).toNat = A at w1 hcls hmod
          generalize d 175 (1139 + 10 * pt (d 175) p (3 + f) / due7 (d 175) p f).toNat = B at w2 hcls hmod
          by_cases hz : A + B = 0
          · refine AF.mk q 0 0 0 ?_ (fun d' q' e => ⟨up d' 174 3 0, ?_, MS.u3 d' 0, m3w d' 0⟩)
            · rw [hcls, q_put0 hz, cl_rt, cl_rt]; rfl
            · rw [hmod d' e, if_neg (by omega), p_nothing, cl_rt]; rfl
          · refine AF.mk q 1 (fU A (A + B)) (fL A (A + B)) ?_ (fun d' q' e => ⟨up d' 174 3 0, ?_, MS.u3 d' 0, m3w d' 0⟩)
            · rw [hcls, q_put (by omega) (by omega), cl_rt, cl_rt]; rfl
            · rw [hmod d' e, if_pos hz, p_frac (by omega) (by omega), cl_rt]; rfl
        · refine AF.mk q 0 0 0 ?_ (fun d' q' e => ⟨up d' 174 3 0, ?_, MS.u3 d' 0, m3w d' 0⟩)
          · unfold m_X11_bent_0 m_X10_bentInto_1_53 m_X10_bentInto_1_53_c24
            rw [ha, if_pos hc, if_pos hk, cl_rt, ask_i hf (by omega), if_pos hD, cl_rt, q_due q.1 q.2 hc hD, cl_rt, w32_id (by omega), q_drop, cl_rt, q_stump q.1 q.2 hc hD, cl_rt, w32_bi, show stm (d 175) p f = false from dec_f hs, bi_f, if_neg (show ¬ (0 : Int) ≠ 0 by omega)]
            split <;> rfl
          · have e1 := (m3 d' 0).1.trans e
            unfold m_X12_bent_174
            rw [p_fingerFault q.1 e hp hf (by omega), hfa_0 ⟨hc, hk⟩, if_pos rfl, if_pos hD, cl_rt, pf_v, m3w, t0_0, if_pos (by omega), p_stump q.1 e1 hc hD, cl_rt, w32_bi, show stm (d 175) p f = false from dec_f hs, bi_f, if_neg (show ¬ (0 : Int) ≠ 0 by omega), p_nothing, cl_rt]
            rfl
      · refine AF.thr q 0 ?_ (fun d' q' e => ?_)
        · unfold m_X11_bent_0
          rw [ha, if_pos hc, if_pos hk, cl_rt, ask_i hf (by omega), if_neg hD, cl_th]
        · unfold m_X12_bent_174
          rw [p_fingerFault q.1 e hp hf (by omega), hfa_0 ⟨hc, hk⟩, if_pos rfl, if_neg hD, cl_rt, pf_v, m3w, if_neg (by decide)]
          exact ref3 (v := 3) (by omega) rfl
    · refine AF.thr q 1 ?_ (fun d' q' e => ?_)
      · unfold m_X11_bent_0
        rw [ha, if_pos hc, if_neg hk, cl_th]
      · unfold m_X12_bent_174
        rw [p_fingerFault q.1 e hp hf (by omega), hfa_2 hc hk, if_neg (by omega), cl_rt, pf_v, m3w, if_neg (by decide)]
        exact ref3 (v := 2) (by omega) rfl
  · refine AF.thr q 2 ?_ (fun d' q' e => ?_)
    · unfold m_X11_bent_0
      rw [ha, if_neg hc, cl_th]
    · unfold m_X12_bent_174
      rw [p_fingerFault q.1 e hp hf (by omega), hfa_1 hc, if_neg (by omega), cl_rt, pf_v, m3w, if_neg (by decide)]
      exact ref3 (v := 1) (by omega) rfl
/-! ringed -/
def sg3 (x y : Int) : Int := if y < x then 1 else if x < y then -1 else 0
theorem q_cmp {x y : Int} {d : D9} (hx : 0 ≤ x ∧ x ≤ 1000) (hy : 0 ≤ y ∧ y ≤ 1000) : m_J6_compare_7cf53 x y d = rt (sg3 x y) d := by
  unfold m_J6_compare_7cf53 sg3
  rw [w32_id (by omega), w32_id (by omega)]
  by_cases a : y ≤ x
  · rw [if_pos a]
    by_cases b : x = y
    · rw [if_neg (by omega), if_neg (by omega), if_neg (by omega)]
    · rw [if_pos b, if_pos (by omega)]
  · rw [if_neg a, if_neg (by omega), if_pos (by omega)]
theorem p_sgn {x y : Int} {d : D9} (hx : 0 ≤ x ∧ x ≤ 1000) (hy : 0 ≤ y ∧ y ≤ 1000) : m_X12_sign (x - y) d = rt (sg3 x y) d := by
  unfold m_X12_sign sg3
  rw [w32_id (by omega)]
  by_cases a : x - y ≤ 0
  · rw [if_pos a, if_neg (show ¬ y < x by omega)]
    by_cases b : 0 ≤ x - y
    · rw [if_pos b, if_neg (by omega)]
    · rw [if_neg b, if_pos (by omega)]
  · rw [if_neg a, if_pos (by omega)]
theorem sg3_rng (x y : Int) : -1 ≤ sg3 x y ∧ sg3 x y ≤ 1 := by
  unfold sg3; split
  · omega
  · split <;> omega
def rgS (t : Nat → Int) (p s h c : Int) : Int := c + bi (decide (hd t h 0 = s ∧ sg3 (hd t h 4) (hd t h 2) = sg3 (pt t p 6) (pt t p 4)))
def rgF (t : Nat → Int) (p s : Int) (n : Nat) : Int := fo (rgS t p s) n 0 0
theorem rgF_le (t : Nat → Int) (p s : Int) : ∀ n : Nat, 0 ≤ rgF t p s n ∧ rgF t p s n ≤ cM t s n
  | 0 => ⟨Int.le_refl _, Int.le_refl _⟩
  | n + 1 => by
    have ih := rgF_le t p s n
    rw [cM_s]
    have e : rgF t p s (n + 1) = rgF t p s n + bi (decide (hd t n 0 = s ∧ sg3 (hd t n 4) (hd t n 2) = sg3 (pt t p 6) (pt t p 4))) := by
      unfold rgF; rw [fo_last, Int.zero_add]; rfl
    rw [e]
    by_cases a : hd t n 0 = s
    · rw [dec_t a]
      have := bi_rng (decide (hd t n 0 = s ∧ sg3 (hd t n 4) (hd t n 2) = sg3 (pt t p 6) (pt t p 4)))
      rw [bi_t]; omega
    · rw [dec_f a, dec_f (fun h => a h.1), bi_f]; omega
theorem o_ringed {p s : Int} {d : D9} (q : Q7 d) (hp : I32 p) (hs : I32 s) : AF d (m_X11_ringed_0 p s d) (m_X12_ringed_174 p s) f1 := by
  obtain ⟨n0, n1, n2, n3⟩ := TKn q.1
  have ha := q_askHand q.1 q.2 hp
  by_cases hc : 0 ≤ p ∧ p < d 175 0
  · by_cases hk : pt (d 175) p 0 = 0
    · by_cases hD : 0 ≤ s ∧ s ≤ 3
      · have a1 := (TKp q.1 p hc.1 hc.2).2.2.2 1 (by omega) (by omega)
        have a3 := (TKp q.1 p hc.1 hc.2).2.2.2 3 (by omega) (by omega)
        rw [show (3 : Int) + 1 = 4 from rfl] at a1
        rw [show (3 : Int) + 3 = 6 from rfl] at a3
        have r1 := ((RWp q.2).2.2.1 p hc.1 hc.2).2.2.2 1 (by omega) (by omega)
        have r3 := ((RWp q.2).2.2.1 p hc.1 hc.2).2.2.2 3 (by omega) (by omega)
        rw [show (3 : Int) + 1 = 4 from rfl] at r1
        rw [show (3 : Int) + 3 = 6 from rfl] at r3
        have g0 := sg3_rng (pt (d 175) p 6) (pt (d 175) p 4)
        have cm := cM_rng (d 175) s (d 175 3).toNat
        have rg := rgF_le (d 175) p s (d 175 3).toNat
        have fH : ∀ h, 0 ≤ h → h < d 175 3 → (0 ≤ hd (d 175) h 0 ∧ hd (d 175) h 0 ≤ 3) ∧ (0 ≤ hd (d 175) h 4 ∧ hd (d 175) h 4 ≤ 99) ∧ (0 ≤ hd (d 175) h 2 ∧ hd (d 175) h 2 ≤ 99) := by
          intro h h0 h1
          have z := TKh q.1 h h0 h1
          have z3 := z.2 3 (by omega) (by omega)
          have z1 := z.2 1 (by omega) (by omega)
          rw [show (1 : Int) + 3 = 4 from rfl] at z3
          rw [show (1 : Int) + 1 = 2 from rfl] at z1
          exact ⟨z.1, by omega, by omega⟩
        -- the model's loop
        have hmod : ∀ d' : D9, d' 175 = d 175 → m_X12_ringed_174 p s d' = if cM (d 175) s (d 175 3).toNat = 0 ∨ pt (d 175) p 4 = 0 ∨ pt (d 175) p 6 = 0 then cl (m_X12_nothing_174 (up d' 174 3 0)) (fun r1 d2 => rt (r1 % 2) d2) else cl (m_X12_fraction_174 (rgF (d 175) p s (d 175 3).toNat) (cM (d 175) s (d 175 3).toNat) (up d' 174 3 0)) (fun r6 d7 => rt (r6 % 2) d7) := by
          intro d' e
          have e1 := (m3 d' 0).1.trans e
          unfold m_X12_ringed_174
          rw [p_sortFault q.1 e hp hs, hfa_0 ⟨hc, hk⟩, if_pos rfl, if_pos hD, cl_rt, pf_v, m3w, t0_0, if_pos (by omega)]
          have z := (fix_fu (z := fun _ _ _ _ _ _ => none) (B := fun k => b_X12_ringed_174_c27 k) (fun k h (c : Int × Int) => k p s c.1 c.2 h (up d' 174 3 0)) 0 (d 175 3) (fun h c => (c.1 + bi (decide (hd (d 175) h 0 = s)), rgS (d 175) p s h c.2)) (fun h c => 0 ≤ h ∧ 0 ≤ c.1 ∧ c.1 ≤ h) (fun c => if c.1 = 0 ∨ pt (d 175) p 4 = 0 ∨ pt (d 175) p 6 = 0 then cl (m_X12_nothing_174 (up d' 174 3 0)) (fun r1 d2 => rt (r1 % 2) d2) else cl (m_X12_fraction_174 c.2 c.1 (up d' 174 3 0)) (fun r6 d7 => rt (r6 % 2) d7)) (0, 0) (by omega) (by omega) ?_ ?_).2
          · rw [Int.sub_zero] at z
            have pr : ∀ (m : Nat) (i : Int) (c : Int × Int), fo (fun h (c : Int × Int) => (c.1 + bi (decide (hd (d 175) h 0 = s)), rgS (d 175) p s h c.2)) m i c = (fo (fun h c => c + bi (decide (hd (d 175) h 0 = s))) m i c.1, fo (rgS (d 175) p s) m i c.2) := by
              intro m
              induction m with
              | zero => intro i c; rfl
              | succ m ih => intro i c; exact ih (i + 1) _
            rw [pr] at z
            exact z
          · intro k' c hI
            simp only [b_X12_ringed_174_c27]
            rw [ld_in (by omega), show ((3 : Int).toNat) = 3 from rfl, e1, if_pos (Int.le_refl _), w64_id (by omega), w64_id (by omega), m_X12_ringed_174_c133, fin_of e1 (by omega), cl_rt, fin_of e1 (by omega), cl_rt, show (3 : Int) + 1 = 4 from rfl, show (3 : Int) + 3 = 6 from rfl, w32_id (by omega), w32_id (by omega)]
            by_cases x1 : c.1 = 0
            · rw [if_pos x1, if_pos (Or.inl x1)]
            · rw [if_neg x1]
              by_cases x2 : pt (d 175) p 4 = 0
              · rw [if_pos x2, if_pos (Or.inr (Or.inl x2))]; rfl
              · rw [if_neg x2]
                by_cases x3 : pt (d 175) p 6 = 0
                · rw [if_neg (by omega), if_pos (Or.inr (Or.inr x3))]; rfl
                · rw [if_pos x3, if_neg (by omega)]
          · intro k' h c hlt hI
            obtain ⟨f0, f4, f2⟩ := fH h hI.1 hlt
            have g1 := sg3_rng (hd (d 175) h 4) (hd (d 175) h 2)
            have b0 := bi_rng (decide (hd (d 175) h 0 = s))
            refine ⟨by dsimp only; omega, ?_⟩
            simp only [b_X12_ringed_174_c27]
            rw [ld_in (by omega), show ((3 : Int).toNat) = 3 from rfl, e1, w32_id (by omega), w32_id (by omega), if_neg (by omega), hd_of e1 (by omega), cl_rt, w32_id (by omega), w32_id (by omega), lt_v, hd_of e1 (by omega), cl_rt, hd_of e1 (by omega), cl_rt, p_sgn (by omega) (by omega), cl_rt, fin_of e1 (by omega), cl_rt, fin_of e1 (by omega), cl_rt, show (3 : Int) + 1 = 4 from rfl, show (3 : Int) + 3 = 6 from rfl, p_sgn (by omega) (by omega), cl_rt, w32_id (by omega), w32_id (by omega), lt_v, lt_v]
            unfold rgS
            by_cases x1 : hd (d 175) h 0 = s
            · rw [if_pos x1]
              by_cases x2 : sg3 (hd (d 175) h 4) (hd (d 175) h 2) = sg3 (pt (d 175) p 6) (pt (d 175) p 4)
              · simp [x1, x2, bi]
              · simp [x1, x2, bi]
            · simp [x1, bi]
        have hcls : pt (d 175) p 4 ≠ 0 → pt (d 175) p 6 ≠ 0 → m_X11_ringed_0 p s d = cl (cl (m_X0_put_53 (rgF (d 175) p s (d 175 3).toNat) (cM (d 175) s (d 175 3).toNat) d) (fun r3 d4 => rt (r3 % 2) d4)) (fun r5 d6 => rt (r5 % 2) d6) := by
          intro x4 x6
          unfold m_X11_ringed_0 m_X10_ringedInto_1_53
          rw [ha, if_pos hc, if_pos hk, cl_rt, ask_i hs (by omega), if_pos hD, cl_rt, ld_in (by omega), r1, ld_in (by omega), r3, w32_id (by omega), w32_id (by omega), if_neg x4, if_pos x6, q_cmp (by omega) (by omega), cl_rt]
          have z := (fix_fu (z := fun _ _ _ _ _ => none) (B := fun k => b_X10_ringedInto_1_53_c60 k) (fun k h c => k s (sg3 (pt (d 175) p 6) (pt (d 175) p 4)) c h d) 0 (d 175 3) (rgS (d 175) p s) (fun h c => 0 ≤ h ∧ 0 ≤ c ∧ c ≤ h) (fun c => cl (m_X0_put_53 c (cM (d 175) s (d 175 3).toNat) d) (fun r3 d4 => rt (r3 % 2) d4)) 0 (by omega) (by omega) ?_ ?_).2
          · rw [Int.sub_zero] at z
            rw [show m_X10_ringedInto_1_53_c60 s (sg3 (pt (d 175) p 6) (pt (d 175) p 4)) 0 0 d = _ from z]
            rfl
          · intro k' c hI
            simp only [b_X10_ringedInto_1_53_c60]
            rw [(RWh q.2).1, if_pos (Int.le_refl _), q_ofSort q.1 q.2 hD, cl_rt, w32_id (by omega), w32_id (by omega)]
          · intro k' h c hlt hI
            obtain ⟨f0, f4, f2⟩ := fH h hI.1 hlt
            have g1 := sg3_rng (hd (d 175) h 4) (hd (d 175) h 2)
            have h3 := ((RWh q.2).2 h hI.1 hlt).2 3 (by omega) (by omega)
            have h1 := ((RWh q.2).2 h hI.1 hlt).2 1 (by omega) (by omega)
            rw [show (1 : Int) + 3 = 4 from rfl] at h3
            rw [show (1 : Int) + 1 = 2 from rfl] at h1
            have b0 := bi_rng (decide (hd (d 175) h 0 = s ∧ sg3 (hd (d 175) h 4) (hd (d 175) h 2) = sg3 (pt (d 175) p 6) (pt (d 175) p 4)))
            refine ⟨by unfold rgS; omega, ?_⟩
            simp only [b_X10_ringedInto_1_53_c60]
            rw [(RWh q.2).1, w32_id (by omega), w32_id (by omega), if_neg (by omega), ld_in (by omega), ((RWh q.2).2 h hI.1 hlt).1, w32_id (by omega), w32_id (by omega), m_X1_ringStands_33, ld_in (by omega), ld_in (by omega), h3, h1, q_cmp (by omega) (by omega), cl_rt, cl_rt, w32_id (by omega), w32_id (by omega)]
            unfold rgS
            by_cases x1 : hd (d 175) h 0 = s
            · rw [if_neg (by omega)]
              by_cases x2 : sg3 (hd (d 175) h 4) (hd (d 175) h 2) = sg3 (pt (d 175) p 6) (pt (d 175) p 4)
              · simp [x1, x2, bi]
              · simp [x1, x2, bi]
            · simp [x1, bi]
        by_cases x4 : pt (d 175) p 4 = 0 ∨ pt (d 175) p 6 = 0
        · refine AF.mk q 0 0 0 ?_ (fun d' q' e => ⟨up d' 174 3 0, ?_, MS.u3 d' 0, m3w d' 0⟩)
          · unfold m_X11_ringed_0 m_X10_ringedInto_1_53 m_X10_ringedInto_1_53_c40
            rw [ha, if_pos hc, if_pos hk, cl_rt, ask_i hs (by omega), if_pos hD, cl_rt, ld_in (by omega), r1, ld_in (by omega), r3, w32_id (by omega), w32_id (by omega), q_drop, cl_rt]
            by_cases y4 : pt (d 175) p 4 = 0
            · rw [if_pos y4]; rfl
            · rw [if_neg y4, if_neg (by omega)]; rfl
          · rw [hmod d' e, if_pos (by omega), p_nothing, cl_rt]; rfl
        · by_cases x5 : cM (d 175) s (d 175 3).toNat = 0
          · refine AF.mk q 0 0 0 ?_ (fun d' q' e => ⟨up d' 174 3 0, ?_, MS.u3 d' 0, m3w d' 0⟩)
            · rw [hcls (by omega) (by omega), q_put0 x5, cl_rt, cl_rt]; rfl
            · rw [hmod d' e, if_pos (Or.inl x5), p_nothing, cl_rt]; rfl
          · refine AF.mk q 1 (fU (rgF (d 175) p s (d 175 3).toNat) (cM (d 175) s (d 175 3).toNat)) (fL (rgF (d 175) p s (d 175 3).toNat) (cM (d 175) s (d 175 3).toNat)) ?_ (fun d' q' e => ⟨up d' 174 3 0, ?_, MS.u3 d' 0, m3w d' 0⟩)
            · rw [hcls (by omega) (by omega), q_put (by omega) (by omega), cl_rt, cl_rt]; rfl
            · rw [hmod d' e, if_neg (by omega), p_frac (by omega) (by omega), cl_rt]; rfl
      · refine AF.thr q 0 ?_ (fun d' q' e => ?_)
        · unfold m_X11_ringed_0
          rw [ha, if_pos hc, if_pos hk, cl_rt, ask_i hs (by omega), if_neg hD, cl_th]
        · unfold m_X12_ringed_174
          rw [p_sortFault q.1 e hp hs, hfa_0 ⟨hc, hk⟩, if_pos rfl, if_neg hD, cl_rt, pf_v, m3w, if_neg (by decide)]
          exact ref3 (v := 3) (by omega) rfl
    · refine AF.thr q 1 ?_ (fun d' q' e => ?_)
      · unfold m_X11_ringed_0
        rw [ha, if_pos hc, if_neg hk, cl_th]
      · unfold m_X12_ringed_174
        rw [p_sortFault q.1 e hp hs, hfa_2 hc hk, if_neg (by omega), cl_rt, pf_v, m3w, if_neg (by decide)]
        exact ref3 (v := 2) (by omega) rfl
  · refine AF.thr q 2 ?_ (fun d' q' e => ?_)
    · unfold m_X11_ringed_0
      rw [ha, if_neg hc, cl_th]
    · unfold m_X12_ringed_174
      rw [p_sortFault q.1 e hp hs, hfa_1 hc, if_neg (by omega), cl_rt, pf_v, m3w, if_neg (by decide)]
      exact ref3 (v := 1) (by omega) rfl

/-! a fact of a test -/
def rpk9 (v2 v3 : Int) (d : D9) : Option R9 := cl (m_X4_keepStep_46 v2 v3 d) (fun r1 d2 => rt 0 d2)
def rpf9 (d : D9) : Option R9 := cl (m_X8_wordAmong_51 16 23 d) (fun r1 d2 => if w32 r1 ≠ w32 16 then if w32 r1 ≠ w32 17 then rpk9 r1 0 d2 else cl (m_X8_number_51 0 5 d2) (fun r3 d4 => rpk9 r1 r3 d4) else cl (m_X8_number_51 1 99 d2) (fun r5 d6 => rpk9 r1 r5 d6))
def rf28 (kF : Int → D9 → Option R9) (v2 v3 : Int) (d : D9) : Option R9 := if w32 v2 < w32 8 then cl (m_X8_advance_51 d) (fun r1 d2 => if w32 v3 = 0 then cl (m_X4_readTest_46_51 kF (v2 + 1) d2) (fun r3 d4 => cl (m_X8_needSign_51 41 d4) (fun r5 d6 => rt 0 d6)) else cl (kF (v2 + 1) d2) (fun r7 d8 => cl (m_X4_keepStep_46 15 0 d8) (fun r9 d10 => rt 0 d10))) else cl (m_X8_fail_51 5 d) (fun r11 d12 => rt 0 d12)
theorem rf_25 (kF : Int → D9 → Option R9) (p r : Int) (d : D9) : m_X4_readFact_46_51_c25 kF p r 1 d = rf28 kF p r d := by
  unfold m_X4_readFact_46_51_c25 m_X4_readFact_46_51_c46 rf28
  rw [if_neg (show ¬ w32 1 = 0 by decide)]
  by_cases hp : w32 p < w32 8
  · rw [if_pos hp, if_pos hp]
    by_cases hr : w32 r = 0
    · simp only [if_pos hr]
      rw [if_neg (show ¬ w32 1 = 0 by decide)]
    · simp only [if_neg hr]
  · rw [if_neg hp, if_neg hp]
theorem rf_eq (kF : Int → D9 → Option R9) (p : Int) (d : D9) : b_X4_readFact_46_51 kF p d = cl (m_X8_isWord_51 15 d) (fun r1 d2 => if w32 r1 ≠ 0 then rf28 kF p r1 d2 else cl (m_X8_isSign_51 40 d2) (fun r3 d4 => if w32 r3 ≠ 0 then rf28 kF p r1 d4 else rpf9 d4)) := by
  unfold b_X4_readFact_46_51
  congr 1
  funext r1 d2
  by_cases h : w32 r1 ≠ 0
  · rw [if_pos h, if_pos h, rf_25]
  · have hr : w32 r1 = 0 := by omega
    rw [if_neg h, if_neg h]
    congr 1
    funext r3 d4
    by_cases h3 : w32 r3 = 0
    · rw [if_pos h3, if_neg (fun g => g h3)]
      unfold m_X4_readFact_46_51_c25 m_X4_readFact_46_51_c46
      rw [if_pos (show w32 0 = 0 from rfl), if_pos hr, if_pos (show w32 0 = 0 from rfl)]
      rfl
    · rw [if_neg h3, if_pos h3, rf_25]
theorem zf_m {e : D9} {f : Nat} (h : w32 (e 174 13) ≠ 0) : fix9 (fun _ => none) (fun k => b_X12_readFact_174 k) (f + 1) e = rt 0 e := by
  rw [fx0, b_X12_readFact_174, if_neg h]
theorem zt_m {F : D9 → Option R9} {e : D9} (hF : F e = rt 0 e) (h : w32 (e 174 13) ≠ 0) : m_X12_readTest_174 F e = rt 0 e := by
  have hp : m_X12_readPart_174 F e = rt 0 e := by
    unfold m_X12_readPart_174 m_X12_readPart_174_c4 FU
    rw [hF, cl_rt, fx0, b_X12_readPart_174_c4, zs_38 h, cl_rt, if_pos (show w32 0 = 0 from rfl)]
  unfold m_X12_readTest_174 m_X12_readTest_174_c4 FU
  rw [hp, cl_rt, fx0, b_X12_readTest_174_c4, zs_39 h, cl_rt, if_pos (show w32 0 = 0 from rfl)]
theorem z_plain {d : D9} (h : w32 (d 51 2) ≠ 0) (u : 0 ≤ d 46 1 ∧ d 46 1 ≤ 400) : ∃ d1, rpf9 d = rt 0 d1 ∧ (∀ k, k ≠ 46 → k ≠ 50 → d1 k = d k) ∧ d1 46 0 = d 46 0 ∧ 0 ≤ d1 46 1 ∧ d1 46 1 ≤ 400 := by
  obtain ⟨d1, a1, a2⟩ := q_keepAny (w := -1) (n := 0) u
  refine ⟨d1, ?_, a2⟩
  unfold rpf9 rpk9
  rw [z_wordAmong h, cl_rt, if_pos (by decide), if_pos (by decide), a1, cl_rt]
theorem zf_c {d : D9} {f : Nat} {p : Int} (h : w32 (d 51 2) ≠ 0) (u : 0 ≤ d 46 1 ∧ d 46 1 ≤ 400) : ∃ d1, fix9 (fun _ _ => none) (fun k => b_X4_readFact_46_51 k) (f + 1) p d = rt 0 d1 ∧ (∀ k, k ≠ 46 → k ≠ 50 → d1 k = d k) ∧ d1 46 0 = d 46 0 ∧ 0 ≤ d1 46 1 ∧ d1 46 1 ≤ 400 := by
  obtain ⟨d1, a1, a2⟩ := z_plain h u
  refine ⟨d1, ?_, a2⟩
  rw [fx1, rf_eq, z_isWord h, cl_rt, if_neg (by decide), z_isSign h, cl_rt, if_neg (by decide), a1]
theorem OK_19 {d e : D9} {x : Int} (h : OK d e) : OK d (up e 174 19 x) := OK_c h rfl rfl (fun j a => by rw [up_us, us_ne (by omega)]) (up_o (by decide))
theorem BD_19 {d e : D9} {x : Int} (h : BD d e) : BD d (up e 174 19 x) := BD_c h rfl (fun j a => by rw [up_us, us_ne (by omega)])
theorem PRE_19 {d e : D9} {x : Int} (h : PRE d e) (o : OK d e) : PRE d (up e 174 19 x) := ⟨Or.inl (OK_19 o), h.2.1, fun _ => by rw [up_us, us_ne (by decide)]; exact h.2.2 o⟩
/-- plain facts -/
theorem r_plain {H : Int} {d e : D9} {kF : D9 → Option R9} (o : OK d e) (p : PRE d e) (hH : 0 ≤ H) : ∃ d1 e1, rpf9 d = rt 0 d1 ∧ m_X12_readFact_174_c208 kF (if d 51 7 = 2 ∧ d 51 8 = 16 then 100 else if d 51 7 = 2 ∧ d 51 8 = 17 then 300 else if d 51 7 = 2 ∧ d 51 8 = 18 then 1 else if d 51 7 = 2 ∧ d 51 8 = 19 then 2 else if d 51 7 = 2 ∧ d 51 8 = 23 then 3 else if d 51 7 = 2 ∧ d 51 8 = 20 then 4 else if d 51 7 = 2 ∧ d 51 8 = 21 then 5 else if d 51 7 = 2 ∧ d 51 8 = 22 then 6 else 0) e = rt 0 e1 ∧ XR H d e d1 e1 := by
  have wa := q_wordAmong (a := 16) (b := 23) o (by omega) (by omega)
  by_cases c : fits9 d 16 23
  · have c' := c
    obtain ⟨c1, c2, c3⟩ := c'
    obtain ⟨d1, e1, a1, a2, a3, a4⟩ := r_adv o (by omega)
    have hC : rpf9 d = if d 51 8 = 16 then cl (m_X8_number_51 1 99 d1) (fun r5 d6 => m_X4_keepStep_46 (d 51 8) r5 d6) else if d 51 8 = 17 then cl (m_X8_number_51 0 5 d1) (fun r5 d6 => m_X4_keepStep_46 (d 51 8) r5 d6) else m_X4_keepStep_46 (d 51 8) 0 d1 := by
      unfold rpf9 rpk9
      rw [wa.1 c, a1, cl_rt, cl_rt, wi (x := d 51 8) (by omega), wi (x := 16) (by omega), wi (x := 17) (by omega)]
      have k0 : ∀ (w n : Int) (d : D9), cl (m_X4_keepStep_46 w n d) (fun r1 d2 => rt 0 d2) = m_X4_keepStep_46 w n d := fun w n d => by
        unfold m_X4_keepStep_46 sd
        by_cases q : w32 400 ≤ w32 (d 46 1)
        · rw [if_pos q, cl_rt]
        · rw [if_neg q]
          by_cases q2 : 0 ≤ w32 (d 46 1) ∧ w32 (d 46 1) < (400 : Nat)
          · rw [if_pos q2]; rfl
          · rw [if_neg q2]; rfl
      simp only [k0]
      by_cases q : d 51 8 = 16
      · rw [if_neg (fun g => g q), if_pos q]
      · rw [if_pos q, if_neg q]
        by_cases q2 : d 51 8 = 17
        · rw [if_neg (fun g => g q2), if_pos q2]
        · rw [if_pos q2, if_neg q2]
    have c208 : ∀ s : Int, 1 ≤ s ∧ s ≤ 300 → m_X12_readFact_174_c208 kF s e = if s = 100 then cl (m_X12_number_174 1 99 e1) (fun r6 d7 => cl (m_X12_puts_174 (s + r6) d7) (fun r1 d2 => rt 0 d2)) else if s = 300 then cl (m_X12_number_174 0 5 e1) (fun r3 d4 => cl (m_X12_puts_174 (s + r3) d4) (fun r1 d2 => rt 0 d2)) else cl (m_X12_puts_174 s e1) (fun r1 d2 => rt 0 d2) := fun s hs => by
      unfold m_X12_readFact_174_c208 m_X12_readFact_174_c218 m_X12_readFact_174_c265
      rw [wi (x := s) (by omega), if_pos (by omega), o.2.2, if_pos (show w32 0 = 0 from rfl), a2, cl_rt, wi (x := 100) (by omega), wi (x := 300) (by omega)]
      by_cases q : s = 100
      · rw [if_neg (fun g => g q), if_pos q]; simp only [lt_v]
      · rw [if_pos q, if_neg q]
        by_cases q2 : s = 300
        · rw [if_neg (fun g => g q2), if_pos q2]; simp only [lt_v]
        · rw [if_pos q2, if_neg q2]
    have single : ∀ s : Int, 1 ≤ s ∧ s ≤ 6 → d 51 8 ≠ 16 → d 51 8 ≠ 17 → d 51 8 * 1000 + 0 = stp s → ∃ d1 e1, rpf9 d = rt 0 d1 ∧ m_X12_readFact_174_c208 kF s e = rt 0 e1 ∧ XR H d e d1 e1 := fun s h1 h2 h3 h4 => by
      obtain ⟨d2, e2, b1, b2, b3⟩ := XR.sgn (H := H) (w := d 51 8) (n := 0) (s := s) a3 (by omega) p hH (fun _ => ⟨Or.inl (by omega), by omega, h4⟩)
      exact ⟨d2, e2, by rw [hC, if_neg h2, if_neg h3, b1], by rw [c208 s (by omega), if_neg (by omega), if_neg (by omega), b2, cl_rt], b3⟩
    rcases (by omega : d 51 8 = 16 ∨ d 51 8 = 17 ∨ d 51 8 = 18 ∨ d 51 8 = 19 ∨ d 51 8 = 20 ∨ d 51 8 = 21 ∨ d 51 8 = 22 ∨ d 51 8 = 23) with g | g | g | g | g | g | g | g
    · rw [if_pos ⟨c1, g⟩]
      obtain ⟨v, d2, e2, b1, b2, b3, b4⟩ := r_num (lo := 1) (hi := 99) a3.2.2.1 (by omega)
      obtain ⟨d3, e3, f1, f2, f3⟩ := XR.sgn (H := H) (w := d 51 8) (n := v) (s := 100 + v) (a3.tr b3) (by omega) p hH (fun _ => ⟨Or.inr (Or.inl (by omega)), by omega, by
        unfold stp
        rw [if_neg (by omega), if_neg (by omega), if_neg (by omega), if_neg (by omega), if_neg (by omega), if_neg (by omega), if_neg (by omega), if_neg (by omega), if_neg (by omega), if_neg (by omega)]; omega⟩)
      exact ⟨d3, e3, by rw [hC, if_pos g, b1, cl_rt, f1], by rw [c208 100 (by omega), if_pos rfl, b2, cl_rt, f2, cl_rt], f3⟩
    · rw [if_neg (by omega), if_pos ⟨c1, g⟩]
      obtain ⟨v, d2, e2, b1, b2, b3, b4⟩ := r_num (lo := 0) (hi := 5) a3.2.2.1 (by omega)
      obtain ⟨d3, e3, f1, f2, f3⟩ := XR.sgn (H := H) (w := d 51 8) (n := v) (s := 300 + v) (a3.tr b3) (by omega) p hH (fun _ => ⟨Or.inr (Or.inr (by omega)), by omega, by
        unfold stp
        rw [if_neg (by omega), if_neg (by omega), if_neg (by omega), if_neg (by omega), if_neg (by omega), if_neg (by omega), if_neg (by omega), if_neg (by omega), if_neg (by omega), if_pos (by omega)]; omega⟩)
      exact ⟨d3, e3, by rw [hC, if_neg (by omega), if_pos g, b1, cl_rt, f1], by rw [c208 300 (by omega), if_neg (by omega), if_pos rfl, b2, cl_rt, f2, cl_rt], f3⟩
    · rw [if_neg (by omega), if_neg (by omega), if_pos ⟨c1, g⟩]
      exact single 1 (by omega) (by omega) (by omega) (by rw [g]; decide)
    · rw [if_neg (by omega), if_neg (by omega), if_neg (by omega), if_pos ⟨c1, g⟩]
      exact single 2 (by omega) (by omega) (by omega) (by rw [g]; decide)
    · rw [if_neg (by omega), if_neg (by omega), if_neg (by omega), if_neg (by omega), if_neg (by omega), if_pos ⟨c1, g⟩]
      exact single 4 (by omega) (by omega) (by omega) (by rw [g]; decide)
    · rw [if_neg (by omega), if_neg (by omega), if_neg (by omega), if_neg (by omega), if_neg (by omega), if_neg (by omega), if_pos ⟨c1, g⟩]
      exact single 5 (by omega) (by omega) (by omega) (by rw [g]; decide)
    · rw [if_neg (by omega), if_neg (by omega), if_neg (by omega), if_neg (by omega), if_neg (by omega), if_neg (by omega), if_neg (by omega), if_pos ⟨c1, g⟩]
      exact single 6 (by omega) (by omega) (by omega) (by rw [g]; decide)
    · rw [if_neg (by omega), if_neg (by omega), if_neg (by omega), if_neg (by omega), if_pos ⟨c1, g⟩]
      exact single 3 (by omega) (by omega) (by omega) (by rw [g]; decide)
  · obtain ⟨d1, e1, a1, a2, a3, a4, a5⟩ := r_refuse o
    have nf : ∀ k : Int, 16 ≤ k ∧ k ≤ 23 → ¬ (d 51 7 = 2 ∧ d 51 8 = k) := fun k hk g => c ⟨g.1, by omega, by omega⟩
    rw [if_neg (nf 16 (by omega)), if_neg (nf 17 (by omega)), if_neg (nf 18 (by omega)), if_neg (nf 19 (by omega)), if_neg (nf 23 (by omega)), if_neg (nf 20 (by omega)), if_neg (nf 21 (by omega)), if_neg (nf 22 (by omega))]
    obtain ⟨d2, b1, b2, b3, b4⟩ := q_keepAny (d := d1) (w := -1) (n := 0) (by rw [a3.1 46 (by decide)]; exact p.2.1)
    refine ⟨d2, e1, ?_, ?_, XR.bad (a3.z.ka b2 b3) a4.y (BD_c a5 (b2 51 (by decide) (by decide)) (fun _ _ => rfl)) b4⟩
    · unfold rpf9 rpk9
      rw [wa.2 c, a1, cl_rt, cl_rt, if_pos (by decide), if_pos (by decide), b1, cl_rt]
    · unfold m_X12_readFact_174_c208 m_X12_readFact_174_c218
      rw [if_neg (by decide), a2, cl_rt, if_neg a5.m]
theorem p_deeper {d e : D9} {p : Int} (o : OK d e) (h19 : e 174 19 = p) (hp : 0 ≤ p ∧ p ≤ 8) (h7 : d 51 7 ≠ 1) (h70 : d 51 7 ≠ 0) : (p < 8 → ∃ d1 e1, m_X8_advance_51 d = rt 0 d1 ∧ m_X12_deeper_174 e = rt 0 e1 ∧ NX 1 d (up e 174 19 (p + 1)) d1 e1 ∧ OK d1 e1) ∧ (p = 8 → ∃ d1 e1, m_X8_fail_51 5 d = rt 0 d1 ∧ m_X12_deeper_174 e = rt 0 (up e1 174 19 9) ∧ FT d d1 ∧ FM e e1 ∧ BD d1 e1 ∧ e1 174 19 = 8) := by
  unfold m_X12_deeper_174 m_X12_deeper_174_c14
  rw [h19, wi (x := p) (by omega), wi (x := 8) (by omega)]
  constructor
  · intro c
    obtain ⟨d1, e1, a1, a2, a3, a4⟩ := r_adv (OK_19 (x := p + 1) o) h7
    refine ⟨d1, e1, a1, ?_, a3, a4⟩
    rw [if_pos (by omega), pf_v, up_us, us_ne (by decide), o.2.2, if_neg (by decide), a2, cl_rt]
  · intro c
    obtain ⟨d1, e1, a1, a2, a3, a4, a5⟩ := r_fail o (k := 5) (by omega) h70
    have h8 : e1 174 19 = 8 := by rw [a4.2 19 (by omega), h19, c]
    refine ⟨d1, e1, a1, ?_, a3, a4, a5, h8⟩
    rw [if_neg (fun g => g c), a2, cl_rt, pf_v, up_us, us_ne (by decide), if_pos a5.m, h8]
    rfl
theorem r_fact : ∀ (n f f' : Nat) (p : Int) (d e : D9), n < f → n + 1 < f' → p + n = 8 → 0 ≤ p → PRE d e → (OK d e → e 174 19 = p) → ∃ d1 e1, fix9 (fun _ _ => none) (fun k => b_X4_readFact_46_51 k) f p d = rt 0 d1 ∧ fix9 (fun _ => none) (fun k => b_X12_readFact_174 k) f' e = rt 0 e1 ∧ XR (17 - 2 * p) d e d1 e1
  | n, f + 1, f' + 1, p, d, e, hf, hf', hn, hp, pr, h19 => by
    obtain ⟨f', rfl⟩ : ∃ g, f' = g + 1 := ⟨f' - 1, by omega⟩
    rcases pr.1 with o | b
    · have t := o.t
      rw [fx1, rf_eq, q_isWord o (by omega), cl_rt, w32_bi, q_isSgn o (by omega), cl_rt, w32_bi, fx0, b_X12_readFact_174, o.2.2, if_pos (show w32 0 = 0 from rfl), is_30 o, cl_rt, w32_bi]
      have o19 := h19 o
      have ih : ∀ q : Int, q = p + 1 → p < 8 → ∀ d e, PRE d e → (OK d e → e 174 19 = q) → ∃ d1 e1, fix9 (fun _ _ => none) (fun k => b_X4_readFact_46_51 k) f q d = rt 0 d1 ∧ fix9 (fun _ => none) (fun k => b_X12_readFact_174 k) (f' + 1) e = rt 0 e1 ∧ XR (15 - 2 * p) d e d1 e1 := fun q hq hp8 d e pp hh => by
        obtain ⟨n, rfl⟩ : ∃ n', n = n' + 1 := ⟨n - 1, by omega⟩
        subst hq
        obtain ⟨d1, e1, a1, a2, a3⟩ := r_fact n f (f' + 1) (p + 1) d e (by omega) (by omega) (by omega) (by omega) pp hh
        exact ⟨d1, e1, a1, a2, by rw [show 15 - 2 * p = 17 - 2 * (p + 1) by omega]; exact a3⟩
      by_cases c : d 51 7 = 2 ∧ d 51 8 = 15
      · rw [dec_t c, bi_t, if_pos ne10, if_neg ne10]
        unfold rf28
        have dp := p_deeper o o19 (by omega) (by omega) (by omega)
        by_cases p8 : p < 8
        · obtain ⟨d1, e1, a1, a2, a3, a4⟩ := dp.1 p8
          have pe := PRE_19 (x := p + 1) pr o
          obtain ⟨d2, e2, b1, b2, b3⟩ := ih (p + 1) rfl p8 d1 e1 (a3.pre (by omega) pe) (fun _ => by rw [a3.2.1.2 19 (by omega), up_us, us_eq rfl])
          have e219 : d2 51 2 = 0 → e2 174 19 = p + 1 := fun g => by
            rw [(b3.2.2.2.2 g).2.1.2, a3.2.1.2 19 (by omega), up_us, us_eq rfl]
          obtain ⟨d3, e3, g1, g2, g3⟩ := XR.neg a3 pe b3 (by omega)
          have hput : m_X12_puts_174 7 (up e2 174 19 (e2 174 19 - 1)) = rt 0 (up e3 174 19 (e2 174 19 - 1)) := by
            rcases b3.2.2.1 with oo | bb
            · have pp := (b3.pre (a3.pre (by omega) pe)).2.2 oo
              have os := oo.s
              rw [p_puts oo.2.2 (by omega)] at g2
              obtain ⟨_, g2'⟩ := rt_inj g2
              rw [← g2', p_puts (by rw [up_us, us_ne (by decide)]; exact oo.2.2) (by rw [up_us, us_ne (by decide)]; omega)]
              congr 1
              funext k' j'
              rw [up_us, us_ne (by decide)]
              simp only [up_get]
              by_cases x1 : k' = 174 ∧ j' = 18
              · rw [if_pos x1, if_neg (by omega), if_pos x1]
              · rw [if_neg x1]
                by_cases x2 : k' = 181 ∧ j' = (e2 174 18).toNat
                · rw [if_pos x2, if_neg (by omega), if_neg x1, if_pos x2]
                · rw [if_neg x2]
                  by_cases x3 : k' = 174 ∧ j' = 19
                  · rw [if_pos x3, if_pos x3]
                  · rw [if_neg x3, if_neg x3, if_neg x1, if_neg x2]
            · rw [z_puts bb.m] at g2
              obtain ⟨_, g2'⟩ := rt_inj g2
              rw [← g2', z_puts (by rw [up_us, us_ne (by decide)]; exact bb.m)]
          have x := XR.op (y := e2 174 19 - 1) g3 (fun g => by
            have o3 := g3.2.2.2.2 g
            have hh : d2 51 2 = 0 := by
              rcases b3.2.2.1 with oo | bb
              · exact oo.2.1
              · exfalso
                obtain ⟨d5, u1, u2, u3, u4⟩ := q_keepAny (w := 15) (n := 0) b3.2.2.2.1
                have := (rt_inj (u1.symm.trans g1)).2
                subst this
                rw [u2 51 (by decide) (by decide)] at g
                have := bb.1; have := bb.2.1; omega
            rw [e219 hh, o19]; omega)
          refine ⟨d3, up e3 174 19 (e2 174 19 - 1), ?_, ?_, x.le (by omega)⟩
          · rw [wi (x := p) (by omega), wi (x := 8) (by omega), if_pos p8, a1, cl_rt, if_neg (by decide), b1, cl_rt, g1, cl_rt]
          · rw [a2, cl_rt, b2, cl_rt, pf_v, hput, cl_rt]
        · obtain ⟨d1, e1, a1, a2, a3, a4, a5, a6⟩ := dp.2 (by omega)
          have b9 : w32 (up e1 174 19 9 174 13) ≠ 0 := by rw [up_us, us_ne (by decide)]; exact a5.m
          refine ⟨d1, up (up e1 174 19 9) 174 19 (9 - 1), ?_, ?_, XR.bad a3.z a4.y.u19.u19 (BD_19 (BD_19 a5)) (by rw [a3.1 46 (by decide)]; exact pr.2.1)⟩
          · rw [wi (x := p) (by omega), wi (x := 8) (by omega), if_neg p8, a1, cl_rt]
          · rw [a2, cl_rt, zf_m b9, cl_rt, pf_v, show up e1 174 19 9 174 19 = 9 from up_same _ _ _ _, z_puts (by rw [up_us, us_ne (by decide)]; exact b9), cl_rt]
      · rw [dec_f c, bi_f, if_neg (by decide), if_pos rfl, wi (x := e 174 11) (by omega), wi (x := 5) (by omega)]
        by_cases c40 : d 51 7 = 40
        · rw [dec_t c40, bi_t, if_pos ne10, if_neg (by omega)]
          unfold rf28
          have dp := p_deeper o o19 (by omega) (by omega) (by omega)
          by_cases p8 : p < 8
          · obtain ⟨d1, e1, a1, a2, a3, a4⟩ := dp.1 p8
            have pe := PRE_19 (x := p + 1) pr o
            obtain ⟨d2, e2, b1, b2, b3⟩ := r_test (p := p + 1) (H := 15 - 2 * p) (by omega) (ih (p + 1) rfl p8) (a3.pre (by omega) pe) (fun _ => by rw [a3.2.1.2 19 (by omega), up_us, us_eq rfl])
            have e219 : d2 51 2 = 0 → e2 174 19 = p + 1 := fun g => by
              rw [(b3.2.2.2.2 g).2.1.2, a3.2.1.2 19 (by omega), up_us, us_eq rfl]
            have y := XR.aft a3 (by omega) b3
            rw [wi (x := p) (by omega), wi (x := 8) (by omega), if_pos p8, a1, cl_rt, if_pos (show w32 0 = 0 from rfl), b1, cl_rt, a2, cl_rt, b2, cl_rt]
            unfold m_X12_readFact_174_c72
            rcases b3.2.2.1 with oo | bb
            · have tt := oo.t
              rw [q_needSign oo (by omega), wi (x := e2 174 11) (by omega), wi (x := 6) (by omega)]
              by_cases q : d2 51 7 = 41
              · obtain ⟨d3, e3, g1, g2, g3, g4⟩ := r_adv oo (by omega)
                refine ⟨d3, up e3 174 19 (e3 174 19 - 1), ?_, ?_, (XR.op (y.fwd g3 (by omega)) (fun _ => ?_)).le (by omega)⟩
                · rw [if_pos q, g1, cl_rt, cl_rt]
                · rw [if_pos (by omega), oo.2.2, if_neg (by decide), g2, cl_rt, pf_v]
                · rw [g3.2.1.2 19 (by omega), e219 oo.2.1, o19]; omega
              · obtain ⟨d3, e3, g1, g2, g3, g4, g5⟩ := r_refuse oo
                refine ⟨d3, up e3 174 19 (e3 174 19 - 1), ?_, ?_, (XR.op (y.fwd (NX.bad (c := 0) g3 g4 g5) (by omega)) (fun g => ?_)).le (by omega)⟩
                · rw [if_neg q, g1, cl_rt, cl_rt]
                · rw [if_neg (by omega), g2, cl_rt, if_pos g5.m, pf_v]
                · have := g5.1; have := g5.2.1; omega
            · rw [z_needSign bb.c, cl_rt, z_blames bb.m, cl_rt, if_pos bb.m, pf_v, ite_self]
              refine ⟨d2, _, rfl, rfl, (XR.op y (fun g => ?_)).le (by omega)⟩
              have := bb.1; have := bb.2.1; omega
          · obtain ⟨d1, e1, a1, a2, a3, a4, a5, a6⟩ := dp.2 (by omega)
            have b9 : w32 (up e1 174 19 9 174 13) ≠ 0 := by rw [up_us, us_ne (by decide)]; exact a5.m
            refine ⟨d1, up (up e1 174 19 9) 174 19 (9 - 1), ?_, ?_, XR.bad a3.z a4.y.u19.u19 (BD_19 (BD_19 a5)) (by rw [a3.1 46 (by decide)]; exact pr.2.1)⟩
            · rw [wi (x := p) (by omega), wi (x := 8) (by omega), if_neg p8, a1, cl_rt]
            · rw [a2, cl_rt, zt_m (zf_m b9) b9, cl_rt, z_blames b9, cl_rt]
              unfold m_X12_readFact_174_c72
              rw [if_pos b9, pf_v, show up e1 174 19 9 174 19 = 9 from up_same _ _ _ _, ite_self]
        · rw [dec_f c40, bi_f, if_neg (by decide), if_pos (by omega)]
          obtain ⟨d1, e1, a1, a2, a3⟩ := r_plain (H := 17 - 2 * p) (kF := fix9 (fun _ => none) (fun k => b_X12_readFact_174 k) (f' + 1)) o pr (by omega)
          refine ⟨d1, e1, a1, ?_, a3⟩
          rw [← a2, is_31 o, cl_rt, is_32 o, cl_rt, is_33 o, cl_rt, is_34 o, cl_rt, is_22 o, cl_rt, is_35 o, cl_rt, is_36 o, cl_rt, is_37 o, cl_rt]
          simp only [w32_bi]
          by_cases c0 : d 51 7 = 2 ∧ d 51 8 = 16
          · rw [dec_t c0, bi_t, if_neg ne10, if_pos c0]
          · rw [dec_f c0, bi_f, if_pos rfl, if_neg c0]
            by_cases c1 : d 51 7 = 2 ∧ d 51 8 = 17
            · rw [dec_t c1, bi_t, if_neg ne10, if_pos c1]
            · rw [dec_f c1, bi_f, if_pos rfl, if_neg c1]
              by_cases c2 : d 51 7 = 2 ∧ d 51 8 = 18
              · rw [dec_t c2, bi_t, if_neg ne10, if_pos c2]
              · rw [dec_f c2, bi_f, if_pos rfl, if_neg c2]
                by_cases c3 : d 51 7 = 2 ∧ d 51 8 = 19
                · rw [dec_t c3, bi_t, if_neg ne10, if_pos c3]
                · rw [dec_f c3, bi_f, if_pos rfl, if_neg c3]
                  by_cases c4 : d 51 7 = 2 ∧ d 51 8 = 23
                  · rw [dec_t c4, bi_t, if_neg ne10, if_pos c4]
                  · rw [dec_f c4, bi_f, if_pos rfl, if_neg c4]
                    by_cases c5 : d 51 7 = 2 ∧ d 51 8 = 20
                    · rw [dec_t c5, bi_t, if_neg ne10, if_pos c5]
                    · rw [dec_f c5, bi_f, if_pos rfl, if_neg c5]
                      by_cases c6 : d 51 7 = 2 ∧ d 51 8 = 21
                      · rw [dec_t c6, bi_t, if_neg ne10, if_pos c6]
                      · rw [dec_f c6, bi_f, if_pos rfl, if_neg c6]
                        by_cases c7 : d 51 7 = 2 ∧ d 51 8 = 22
                        · rw [dec_t c7, bi_t, if_neg ne10, if_pos c7]
                        · rw [dec_f c7, bi_f, if_pos rfl, if_neg c7]
    · obtain ⟨d1, a1, a2, a3, a4⟩ := zf_c (f := f) (p := p) b.c pr.2.1
      exact ⟨d1, e, a1, zf_m b.m, XR.bad ((FZ.rf d).ka a2 a3) (FY.rf e) (BD_c b (a2 51 (by decide) (by decide)) (fun _ _ => rfl)) a4⟩
  | _, 0, _, _, _, _, hf, _, _, _, _, _ => absurd hf (Nat.not_lt_zero _)
  | _, _, 0, _, _, _, _, hf, _, _, _, _ => absurd hf (Nat.not_lt_zero _)

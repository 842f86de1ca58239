/-! rules -/
theorem FZ.hc {d d1 : D9} (h : FZ d d1) : HC d d1 := ⟨fun k a => h.1 k (by omega) (by omega) (by omega), h.2.2⟩
theorem FY.hm {d d1 : D9} (h : FY d d1) : HM d d1 := ⟨fun k a b => h.1 k a (by omega), h.2⟩
def rq (u : Nat → Int) : Nat → Int
  | 0 => 1
  | r + 1 => rq u r + 2 + u (rq u r + 1).toNat
theorem rq_s (u : Nat → Int) (r : Nat) : rq u (r + 1) = rq u r + 2 + u (rq u r + 1).toNat := rfl
def RUL (d e : D9) (r : Nat) : Prop := (1 ≤ rq (e 181) r ∧ 0 ≤ e 181 (rq (e 181) r + 1).toNat ∧ rq (e 181) (r + 1) ≤ e 174 18) ∧ (0 ≤ e 181 (rq (e 181) r).toNat ∧ e 181 (rq (e 181) r).toNat ≤ 2) ∧ PG7 (fun i => e 181 (rq (e 181) r + 2 + i).toNat) (e 181 (rq (e 181) r + 1).toNat) ∧ (d 47 r = e 181 (rq (e 181) r).toNat ∧ d 49 r = d 48 r + e 181 (rq (e 181) r + 1).toNat ∧ 0 ≤ d 48 r ∧ d 49 r ≤ d 46 1) ∧ ∀ i, 0 ≤ i → i < e 181 (rq (e 181) r + 1).toNat → d 50 (d 48 r + i).toNat = stp (e 181 (rq (e 181) r + 2 + i).toNat)
def RUR (d e : D9) (l : Int) : Prop := rq (e 181) l.toNat = e 174 18 ∧ ∀ r : Nat, (r : Int) < l → RUL d e r
theorem rq_c {u u' : Nat → Int} {T : Int} (h : ∀ j : Nat, 1 ≤ j → (j : Int) < T → u' j = u j) : ∀ (r : Nat), (∀ q : Nat, q < r → 1 ≤ rq u q ∧ 0 ≤ u (rq u q + 1).toNat ∧ rq u (q + 1) ≤ T) → rq u' r = rq u r
  | 0, _ => rfl
  | r + 1, g => by
    have ih := rq_c h r (fun q hq => g q (by omega))
    have b := g r (by omega)
    rw [rq_s] at b
    rw [rq_s, rq_s, ih, h _ (by omega) (by omega)]
theorem RUL_c {d e d' e' : D9} {l : Int} (rr : RUR d e l) (h : ∀ j : Nat, 1 ≤ j → (j : Int) < e 174 18 → e' 181 j = e 181 j) (h18 : e 174 18 ≤ e' 174 18) (h47 : ∀ r : Nat, (r : Int) < l → d' 47 r = d 47 r ∧ d' 48 r = d 48 r ∧ d' 49 r = d 49 r) (h46 : d 46 1 ≤ d' 46 1) (h50 : ∀ j : Nat, (j : Int) < d 46 1 → d' 50 j = d 50 j) {r : Nat} (hr : (r : Int) < l) : RUL d' e' r ∧ rq (e' 181) (r + 1) = rq (e 181) (r + 1) := by
  have g : ∀ q : Nat, (q : Int) < l → 1 ≤ rq (e 181) q ∧ 0 ≤ e 181 (rq (e 181) q + 1).toNat ∧ rq (e 181) (q + 1) ≤ e 174 18 := fun q hq => (rr.2 q hq).1
  have e0 : rq (e' 181) r = rq (e 181) r := rq_c h r (fun q hq => g q (by omega))
  have e1 : rq (e' 181) (r + 1) = rq (e 181) (r + 1) := rq_c h (r + 1) (fun q hq => g q (by omega))
  refine ⟨?_, e1⟩
  obtain ⟨a1, a2, a3, a4, a5⟩ := rr.2 r hr
  have a1' := a1
  rw [rq_s] at a1'
  obtain ⟨b1, b2, b3⟩ := h47 r hr
  unfold RUL
  rw [e1, e0, h _ (by omega) (by omega), h (rq (e 181) r).toNat (by omega) (by omega), b1, b2, b3]
  refine ⟨⟨a1.1, a1.2.1, by omega⟩, a2, PG7_c (fun i u v => h _ (by omega) (by omega)) a3, ⟨a4.1, a4.2.1, a4.2.2.1, by omega⟩, fun i u v => ?_⟩
  rw [h _ (by omega) (by omega), h50 _ (by omega)]
  exact a5 i u v
def SI (d e : D9) (l : Int) : Prop := (0 ≤ d 46 1 ∧ d 46 1 ≤ d 51 6) ∧ e 174 18 = 1 + 2 * l + d 46 1 ∧ e 174 19 = 0 ∧ e 181 0 = l ∧ RUR d e l
theorem SI.nx {c : Int} {d e d1 e1 : D9} {l : Int} (s : SI d e l) (x : NX c d e d1 e1) (hc : 0 ≤ c) (g : d1 51 2 = 0) : SI d1 e1 l := by
  have q := x.2.2.2 g
  have e46 : d1 46 = d 46 := x.1.1 46 (by decide)
  have e81 : e1 181 = e 181 := x.2.1.1 181 (by decide)
  have e18 : e1 174 18 = e 174 18 := x.2.1.2 18 (by omega)
  obtain ⟨s1, s2, s3, s4, s5⟩ := s
  refine ⟨by rw [e46]; omega, by rw [e46, e18]; exact s2, by rw [x.2.1.2 19 (by omega)]; exact s3, by rw [e81]; exact s4, ?_⟩
  unfold RUR RUL
  rw [e81, e18, e46, x.1.1 47 (by decide), x.1.1 48 (by decide), x.1.1 49 (by decide), x.1.1 50 (by decide)]
  exact s5
def rTail (d2 : D9) : Option R9 := cl (m_X12_isWord_174_s26 d2) (fun r3 d4 => if w32 r3 = 0 then cl (m_X12_isWord_174_s27 d4) (fun r5 d6 => if w32 r5 = 0 then cl (m_X12_isWord_174_s28 d6) (fun r7 d8 => if w32 r7 = 0 then m_X12_readRule_174_c89 (-1) d8 else m_X12_readRule_174_c89 2 d8) else m_X12_readRule_174_c89 1 d6) else m_X12_readRule_174_c89 0 d4)
theorem p_rTail {d e : D9} (h : OK d e) : rTail e = m_X12_readRule_174_c89 (if d 51 7 = 2 ∧ d 51 8 = 10 then 0 else if d 51 7 = 2 ∧ d 51 8 = 11 then 1 else if d 51 7 = 2 ∧ d 51 8 = 12 then 2 else -1) e := by
  unfold rTail
  rw [is_26 h, cl_rt, is_27 h, cl_rt, is_28 h, cl_rt]
  simp only [w32_bi]
  by_cases c0 : d 51 7 = 2 ∧ d 51 8 = 10
  · rw [dec_t c0, bi_t, if_neg ne10, if_pos c0]
  · rw [dec_f c0, bi_f, if_pos rfl, if_neg c0]
    by_cases c1 : d 51 7 = 2 ∧ d 51 8 = 11
    · rw [dec_t c1, bi_t, if_neg ne10, if_pos c1]
    · rw [dec_f c1, bi_f, if_pos rfl, if_neg c1]
      by_cases c2 : d 51 7 = 2 ∧ d 51 8 = 12
      · rw [dec_t c2, bi_t, if_neg ne10, if_pos c2]
      · rw [dec_f c2, bi_f, if_pos rfl, if_neg c2]
/-- the rest of a rule, from 'if' on -/
theorem r_rest {d e : D9} {l T U : Int} (o : OK d e) (hl : 0 ≤ l ∧ l < 12) (hU : d 46 1 = U) (hT : e 174 18 = T + 2) (hU2 : 0 ≤ U ∧ U ≤ d 51 6) (hT2 : T = 1 + 2 * l + U) (h19 : e 174 19 = 0) :
    ∃ d1 e1, cl (m_X8_takeWord_51 9 d) (fun r5 d6 => if w32 r5 = 0 then m_X4_readRule_46_51_c42 l d6 else cl (m_X4_readTest_46_51R 0 d6) (fun r7 d8 => m_X4_readRule_46_51_c42 l d8)) = rt 0 d1 ∧ cl (m_X12_isWord_174_s29 e) (fun r8 d9 => if w32 r8 = 0 then m_X12_readRule_174_c145 (T + 1) d9 else cl (m_X12_next_174 d9) (fun r10 d11 => cl (m_X12_readTest_174R d11) (fun r12 d13 => m_X12_readRule_174_c145 (T + 1) d13))) = rt 0 e1 ∧ HC d d1 ∧ HM e e1 ∧ LV d1 e1 ∧ (0 ≤ d1 46 1 ∧ d1 46 1 ≤ 400) ∧ (OK d1 e1 → d1 46 0 = d 46 0 ∧ (∀ r : Nat, (r : Int) < l → d1 47 r = d 47 r ∧ d1 48 r = d 48 r ∧ d1 49 r = d 49 r) ∧ (d1 47 l.toNat = d 47 l.toNat ∧ d1 48 l.toNat = d 48 l.toNat ∧ d1 49 l.toNat = d1 46 1) ∧ (U ≤ d1 46 1 ∧ d1 46 1 ≤ d1 51 6) ∧ e1 174 18 = T + 2 + (d1 46 1 - U) ∧ e1 174 19 = 0 ∧ e1 181 0 = e 181 0 + 1 ∧ (∀ j : Nat, 1 ≤ j → (j : Int) ≤ T → e1 181 j = e 181 j) ∧ e1 181 (T + 1).toNat = d1 46 1 - U ∧ (∀ j : Nat, (j : Int) < U → d1 50 j = d 50 j) ∧ PG7 (fun i => e1 181 (T + 2 + i).toNat) (d1 46 1 - U) ∧ ∀ i : Int, 0 ≤ i → i < d1 46 1 - U → d1 50 (U + i).toNat = stp (e1 181 (T + 2 + i).toNat)) := by
  -- what the test leaves
  obtain ⟨d4, e4, a1, a2, a3, a4, a5, a6, a7⟩ : ∃ d4 e4, cl (m_X8_takeWord_51 9 d) (fun r5 d6 => if w32 r5 = 0 then m_X4_readRule_46_51_c42 l d6 else cl (m_X4_readTest_46_51R 0 d6) (fun r7 d8 => m_X4_readRule_46_51_c42 l d8)) = m_X4_readRule_46_51_c42 l d4 ∧ cl (m_X12_isWord_174_s29 e) (fun r8 d9 => if w32 r8 = 0 then m_X12_readRule_174_c145 (T + 1) d9 else cl (m_X12_next_174 d9) (fun r10 d11 => cl (m_X12_readTest_174R d11) (fun r12 d13 => m_X12_readRule_174_c145 (T + 1) d13))) = m_X12_readRule_174_c145 (T + 1) e4 ∧ FZ d d4 ∧ FY e e4 ∧ LV d4 e4 ∧ (0 ≤ d4 46 1 ∧ d4 46 1 ≤ 400) ∧ (OK d4 e4 → (U ≤ d4 46 1 ∧ d4 46 1 ≤ d4 51 6) ∧ e4 174 18 = T + 2 + (d4 46 1 - U) ∧ e4 174 19 = 0 ∧ (∀ j : Nat, (j : Int) < T + 2 → e4 181 j = e 181 j) ∧ (∀ j : Nat, (j : Int) < U → d4 50 j = d 50 j) ∧ PG7 (fun i => e4 181 (T + 2 + i).toNat) (d4 46 1 - U) ∧ ∀ i : Int, 0 ≤ i → i < d4 46 1 - U → d4 50 (U + i).toNat = stp (e4 181 (T + 2 + i).toNat)) := by
    rw [is_29 o, cl_rt, w32_bi, q_takeWord o (by omega)]
    have os := o.s
    by_cases c : d 51 7 = 2 ∧ d 51 8 = 9
    · obtain ⟨d1, e1, a1, a2, a3, a4⟩ := r_adv o (by omega)
      have e46 : d1 46 = d 46 := a3.1.1 46 (by decide)
      have e18 : e1 174 18 = e 174 18 := a3.2.1.2 18 (by omega)
      have q := (a3.2.2.2 a4.2.1).2
      have pre : PRE d1 e1 := ⟨Or.inl a4, by rw [e46]; omega, fun _ => by rw [e46, e18]; omega⟩
      obtain ⟨d2, e2, b1, b2, b3⟩ := r_test (H := 17) (p := 0) (F := m_X4_readFact_46_51) (F' := m_X12_readFact_174) (by omega) (fun d e pp hh => r_fact 8 12 12 0 d e (by omega) (by omega) (by omega) (by omega) pp hh) pre (fun _ => by rw [a3.2.1.2 19 (by omega)]; exact h19)
      have y := XR.aft a3 (by omega) b3
      refine ⟨d2, e2, ?_, ?_, y.1, y.2.1, y.2.2.1, y.2.2.2.1, fun oo => ?_⟩
      · unfold m_X4_readTest_46_51R
        rw [if_pos c, a1, cl_rt, cl_rt, if_neg (by decide), b1, cl_rt]
      · unfold m_X12_readTest_174R
        rw [dec_t c, bi_t, if_neg ne10, a2, cl_rt, b2, cl_rt]
      · obtain ⟨_, ⟨g1, g2⟩, g3, g4, g5, g6, g7⟩ := y.2.2.2.2 oo.2.1
        have n := g5.2.2
        rw [hU, hT] at g1
        rw [hU] at g3 g7 n
        rw [hT] at g4
        rw [hU, hT] at g5 g6
        refine ⟨by omega, g1, by rw [g2]; exact h19, g4, g3, ⟨g5.1, fun _ => g5.2.1⟩, g6⟩
    · refine ⟨d, e, ?_, ?_, FZ.rf d, FY.rf e, Or.inl o, by omega, fun oo => ⟨by omega, by omega, h19, fun _ _ => rfl, fun _ _ => rfl, ⟨fun i u v => by omega, fun v => by omega⟩, fun i u v => by omega⟩⟩
      · rw [if_neg c, cl_rt, if_pos (show w32 0 = 0 from rfl)]
      · rw [dec_f c, bi_f, if_pos rfl]
  rw [a1, a2]
  have lv5 : LV (up d4 49 l.toNat (d4 46 1)) e4 := a5.uc (by omega)
  obtain ⟨d6, e6, b1, b2, b3⟩ := r_stop lv5
  have hc5 : HC d (up d4 49 l.toNat (d4 46 1)) := a3.hc.u (by omega)
  have e46 : d6 46 = d4 46 := by rw [b3.1.1 46 (by decide), up_o (by decide)]
  have hC : m_X4_readRule_46_51_c42 l d4 = rt 0 d6 := by
    unfold m_X4_readRule_46_51_c42
    rw [sd_in (by omega), b1, cl_rt]
  rcases b3.2.2.1 with oo | bb
  · have q := b3.2.2.2 oo.2.1
    rw [up_o (by decide)] at q
    have o4 : OK d4 e4 := a5.ok q.1
    have os := o4.s
    obtain ⟨c1, c2, c3, c4, c5, c6, c7⟩ := a7 o4
    have e18 : e6 174 18 = T + 2 + (d4 46 1 - U) := (b3.2.1.2 18 (by omega)).trans c2
    have e81 : e6 181 = e4 181 := b3.2.1.1 181 (by decide)
    have hM : m_X12_readRule_174_c145 (T + 1) e4 = rt 0 (up (up e6 181 (T + 1).toNat (d4 46 1 - U)) 181 0 (e 181 0 + 1)) := by
      unfold m_X12_readRule_174_c145
      rw [b2, cl_rt, oo.2.2, if_pos (show w32 0 = 0 from rfl), e18, sd_in (by omega), ld_in (by omega), sd_in (by omega), up_us, us_ne (by omega), e81, Int.toNat_zero, c4 0 (by omega), show T + 2 + (d4 46 1 - U) - (T + 1) - 1 = d4 46 1 - U by omega]
    have x81 : ∀ j : Nat, (up (up e6 181 (T + 1).toNat (d4 46 1 - U)) 181 0 (e 181 0 + 1)) 181 j = us (us (e4 181) (T + 1).toNat (d4 46 1 - U)) 0 (e 181 0 + 1) j := fun j => by simp only [up_us, e81]
    have x74 : ∀ j, (up (up e6 181 (T + 1).toNat (d4 46 1 - U)) 181 0 (e 181 0 + 1)) 174 j = e6 174 j := fun j => by rw [up_o (by decide), up_o (by decide)]
    refine ⟨d6, _, hC, hM, hc5.tr b3.1.hc, ((a4.hm.tr b3.2.1.hm).u (by omega)).u (by omega), LV.um (LV.um (show LV d6 e6 from Or.inl oo) (by omega)) (by omega), by rw [e46]; exact a6, fun _ => ?_⟩
    have f49 : d6 49 = us (d4 49) l.toNat (d4 46 1) := by rw [b3.1.1 49 (by decide), up_us]
    have f47 : d6 47 = d 47 := by rw [b3.1.1 47 (by decide), up_o (by decide), a3.1 47 (by decide) (by decide) (by decide)]
    have f48 : d6 48 = d 48 := by rw [b3.1.1 48 (by decide), up_o (by decide), a3.1 48 (by decide) (by decide) (by decide)]
    have f50 : d6 50 = d4 50 := by rw [b3.1.1 50 (by decide), up_o (by decide)]
    have g49 : d4 49 = d 49 := a3.1 49 (by decide) (by decide) (by decide)
    rw [e46, f47, f48, f49, f50, x74, x74, x81]
    refine ⟨a3.2.1, fun r hr => ⟨rfl, rfl, by rw [us_ne (by omega), g49]⟩, ⟨rfl, rfl, us_eq rfl⟩, by omega, e18, by rw [b3.2.1.2 19 (by omega)]; exact c3, us_eq rfl, fun j u v => by rw [x81, us_ne (by omega), us_ne (by omega)]; exact c4 j (by omega), by rw [x81, us_ne (by omega), us_eq rfl], c5, PG7_c (fun i u v => by rw [x81, us_ne (by omega), us_ne (by omega)]) c6, fun i u v => by rw [x81, us_ne (by omega), us_ne (by omega)]; exact c7 i u v⟩
  · have hM : m_X12_readRule_174_c145 (T + 1) e4 = rt 0 e6 := by
      unfold m_X12_readRule_174_c145
      rw [b2, cl_rt, if_neg bb.m]
    exact ⟨d6, e6, hC, hM, hc5.tr b3.1.hc, a4.hm.tr b3.2.1.hm, Or.inr bb, by rw [e46]; exact a6, fun oo => by have := oo.2.1; have := bb.1; have := bb.2.1; omega⟩

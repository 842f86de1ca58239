theorem XR.fwd {c H : Int} {d e d1 e1 d2 e2 : D9} (y : XR H d e d1 e1) (x : NX c d1 e1 d2 e2) (hc : 0 ≤ c) : XR H d e d2 e2 := by
  refine ⟨y.1.tr x.1.z, y.2.1.tr x.2.1.y, x.2.2.1, by rw [x.1.1 46 (by decide)]; exact y.2.2.2.1, fun g => ?_⟩
  have q := x.2.2.2 g
  obtain ⟨a, b1, b2, b3, b4, b5, b6⟩ := y.2.2.2.2 q.1
  have e46 : d2 46 = d1 46 := x.1.1 46 (by decide)
  have e50 : d2 50 = d1 50 := x.1.1 50 (by decide)
  have e181 : e2 181 = e1 181 := x.2.1.1 181 (by decide)
  have e18 : e2 174 18 = e1 174 18 := x.2.1.2 18 (by omega)
  have e19 : e2 174 19 = e1 174 19 := x.2.1.2 19 (by omega)
  refine ⟨a, ?_⟩
  unfold AP
  rw [e46, e50, e181, e18, e19]
  exact ⟨b1, b2, b3, b4, b5, by omega⟩
theorem XR.op {H x y : Int} {d e d2 e2 : D9} (h : XR H d (up e 174 19 x) d2 e2) (hy : d2 51 2 = 0 → y = e 174 19) : XR H d e d2 (up e2 174 19 y) := by
  obtain ⟨h1, h2, h3, h4, h5⟩ := h
  refine ⟨h1, ⟨fun k a b => ?_, fun j a b c => ?_⟩, LV_c h3 rfl rfl (fun j a => by rw [up_us, us_ne (by omega)]) (up_o (by decide)), h4, fun g => ?_⟩
  · rw [up_o a, h2.1 k a b, up_o a]
  · rw [up_us, us_ne c, h2.2 j a b c, up_us, us_ne c]
  · obtain ⟨a, b1, b2, b3, b4, b5, b6⟩ := h5 g
    refine ⟨a, ?_⟩
    have e18 : up e 174 19 x 174 18 = e 174 18 := by rw [up_us, us_ne (by decide)]
    have e18' : up e2 174 19 y 174 18 = e2 174 18 := by rw [up_us, us_ne (by decide)]
    have e81 : up e 174 19 x 181 = e 181 := up_o (by decide)
    have e81' : up e2 174 19 y 181 = e2 181 := up_o (by decide)
    rw [e18] at b1 b3 b4 b5
    rw [e81] at b3
    unfold AP
    rw [e18', e81']
    exact ⟨⟨b1.1, by rw [up_us, us_eq rfl]; exact hy g⟩, b2, b3, b4, b5, b6⟩
/-- a plain fact -/
theorem XR.sgn {c H w n s : Int} {d e d1 e1 : D9} (x : NX c d e d1 e1) (hc : 1 ≤ c) (p : PRE d e) (hH : 0 ≤ H) (hs : d1 51 2 = 0 → sgn7 s ∧ ¬ (7 ≤ s ∧ s ≤ 9) ∧ w * 1000 + n = stp s) : ∃ d2 e2, m_X4_keepStep_46 w n d1 = rt 0 d2 ∧ m_X12_puts_174 s e1 = rt 0 e2 ∧ XR H d e d2 e2 := by
  have e46 : d1 46 = d 46 := x.1.1 46 (by decide)
  have p1 := x.pre (by omega) p
  rcases x.2.2.1 with o | b
  · have q := x.2.2.2 o.2.1
    have z := p.2.2 (p.1.ok q.1)
    have os := o.s
    have pp := p.2.1
    obtain ⟨s1, s2, s3⟩ := hs o.2.1
    have e18 : e1 174 18 = e 174 18 := x.2.1.2 18 (by omega)
    have h46 : d1 46 1 = d 46 1 := by rw [e46]
    refine ⟨_, _, q_keep (by omega), p_puts o.2.2 (by omega), x.1.z.u50, x.2.1.y.u, LV_c (Or.inl o) (by rw [up_o (by decide), up_o (by decide)]) (by rw [up_o (by decide), up_o (by decide)]) (fun j a => by rw [up_us, us_ne (by omega), up_o (by decide)]) (by rw [up_o (by decide), up_o (by decide)]), ?_, fun _ => ⟨q.1, ?_⟩⟩
    · rw [up_us, us_eq rfl]; omega
    · have v46 : up (up d1 50 (d1 46 1).toNat (w * 1000 + n)) 46 1 (d1 46 1 + 1) 46 1 = d 46 1 + 1 := by rw [up_us, us_eq rfl, h46]
      have v50 : up (up d1 50 (d1 46 1).toNat (w * 1000 + n)) 46 1 (d1 46 1 + 1) 50 = us (d 50) (d 46 1).toNat (stp s) := by rw [up_o (by decide), up_us, x.1.1 50 (by decide), h46, s3]
      have v51 : up (up d1 50 (d1 46 1).toNat (w * 1000 + n)) 46 1 (d1 46 1 + 1) 51 6 = d1 51 6 := by rw [up_o (by decide), up_o (by decide)]
      have w18 : up (up e1 181 (e1 174 18).toNat s) 174 18 (e1 174 18 + 1) 174 18 = e 174 18 + 1 := by rw [up_us, us_eq rfl, e18]
      have w19 : up (up e1 181 (e1 174 18).toNat s) 174 18 (e1 174 18 + 1) 174 19 = e 174 19 := by rw [up_us, us_ne (by decide), up_o (by decide)]; exact x.2.1.2 19 (by omega)
      have w81 : up (up e1 181 (e1 174 18).toNat s) 174 18 (e1 174 18 + 1) 181 = us (e 181) (e 174 18).toNat s := by rw [up_o (by decide), up_us, x.2.1.1 181 (by decide), e18]
      unfold AP
      rw [v46, v50, v51, w18, w19, w81, show d 46 1 + 1 - d 46 1 = 1 by omega]
      have sg0 : us (e 181) (e 174 18).toNat s (e 174 18 + 0).toNat = s := us_eq (by omega)
      refine ⟨⟨rfl, rfl⟩, fun j a => us_ne (by omega), fun j a => us_ne (by omega), PB.one H hH (by simp only [sg0]; exact s1) (by simp only [sg0]; exact s2), fun i a b => ?_, by omega⟩
      obtain rfl : i = 0 := by omega
      rw [us_eq (by omega), us_eq (by omega)]
  · obtain ⟨d2, a1, a2, a3, a4⟩ := q_keepAny (w := w) (n := n) p1.2.1
    exact ⟨d2, e1, a1, z_puts b.m, XR.bad (x.1.z.ka a2 a3) x.2.1.y (BD_c b (a2 51 (by decide) (by decide)) (fun _ _ => rfl)) a4⟩
/-- not -/
theorem XR.neg {H : Int} {d e d1 e1 d2 e2 : D9} (x : NX 1 d e d1 e1) (p : PRE d e) (y : XR H d1 e1 d2 e2) (hH : 1 ≤ H) : ∃ d3 e3, m_X4_keepStep_46 15 0 d2 = rt 0 d3 ∧ m_X12_puts_174 7 e2 = rt 0 e3 ∧ XR H d e d3 e3 := by
  have p1 := x.pre (by omega) p
  have p2 := y.pre p1
  have w := XR.aft x (by omega) y
  rcases y.2.2.1 with o | b
  · have os := o.s
    have z2 := p2.2.2 o
    obtain ⟨q1, a1, a2, a3, a4, a5, a6⟩ := w.2.2.2.2 o.2.1
    have q := x.2.2.2 (y.2.2.2.2 o.2.1).1
    have ay := (y.2.2.2.2 o.2.1).2.2.2.2.2.2
    have e46 : d1 46 = d 46 := x.1.1 46 (by decide)
    rw [e46] at ay
    have n1 := a4.2.2
    have z0 := p.2.2 (p.1.ok q1)
    have p0 := p.2.1
    refine ⟨_, _, q_keep (by omega), p_puts o.2.2 (by omega), w.1.u50, w.2.1.u, LV_c (Or.inl o) (by rw [up_o (by decide), up_o (by decide)]) (by rw [up_o (by decide), up_o (by decide)]) (fun j a => by rw [up_us, us_ne (by omega), up_o (by decide)]) (by rw [up_o (by decide), up_o (by decide)]), ?_, fun _ => ⟨q1, ?_⟩⟩
    · rw [up_us, us_eq rfl]; omega
    · have v46 : up (up d2 50 (d2 46 1).toNat (15 * 1000 + 0)) 46 1 (d2 46 1 + 1) 46 1 = d2 46 1 + 1 := by rw [up_us, us_eq rfl]
      have v50 : up (up d2 50 (d2 46 1).toNat (15 * 1000 + 0)) 46 1 (d2 46 1 + 1) 50 = us (d2 50) (d2 46 1).toNat 15000 := by rw [up_o (by decide), up_us]; rfl
      have v51 : up (up d2 50 (d2 46 1).toNat (15 * 1000 + 0)) 46 1 (d2 46 1 + 1) 51 6 = d2 51 6 := by rw [up_o (by decide), up_o (by decide)]
      have w18 : up (up e2 181 (e2 174 18).toNat 7) 174 18 (e2 174 18 + 1) 174 18 = e2 174 18 + 1 := by rw [up_us, us_eq rfl]
      have w19 : up (up e2 181 (e2 174 18).toNat 7) 174 18 (e2 174 18 + 1) 174 19 = e2 174 19 := by rw [up_us, us_ne (by decide), up_o (by decide)]
      have w81 : up (up e2 181 (e2 174 18).toNat 7) 174 18 (e2 174 18 + 1) 181 = us (e2 181) (e2 174 18).toNat 7 := by rw [up_o (by decide), up_us]
      unfold AP
      rw [v46, v50, v51, w18, w19, w81, show d2 46 1 + 1 - d 46 1 = (d2 46 1 - d 46 1) + 1 by omega]
      refine ⟨⟨by omega, a1.2⟩, fun j a => by rw [us_ne (by omega)]; exact a2 j a, fun j a => by rw [us_ne (by omega)]; exact a3 j a, PB.nt (PB_c a4 (fun i u v => us_ne (by omega))) hH (us_eq (by omega)), fun i u v => ?_, by omega⟩
      by_cases c : i = d2 46 1 - d 46 1
      · rw [us_eq (by omega), us_eq (by omega)]; rfl
      · rw [us_ne (by omega), us_ne (by omega)]; exact a5 i u (by omega)
  · obtain ⟨d3, a1, a2, a3, a4⟩ := q_keepAny (w := 15) (n := 0) p2.2.1
    exact ⟨d3, e2, a1, z_puts b.m, XR.bad (w.1.ka a2 a3) w.2.1 (BD_c b (a2 51 (by decide) (by decide)) (fun _ _ => rfl)) a4⟩
/-- and, or -/
theorem XR.cat {H w s : Int} {d0 e0 d e d1 e1 d2 e2 : D9} (p0 : PRE d0 e0) (z : XR (H + 1) d0 e0 d e) (x : NX 1 d e d1 e1) (y : XR H d1 e1 d2 e2) (hH : 1 ≤ H) (hs : s = 8 ∨ s = 9) (hw : w * 1000 + 0 = stp s) : ∃ d3 e3, m_X4_keepStep_46 w 0 d2 = rt 0 d3 ∧ m_X12_puts_174 s e2 = rt 0 e3 ∧ XR (H + 1) d0 e0 d3 e3 ∧ (d3 51 2 = 0 → d2 51 2 = 0 ∧ d3 51 6 = d2 51 6) := by
  have p := z.pre p0
  have p1 := x.pre (by omega) p
  have p2 := y.pre p1
  have yy := XR.aft x (by omega) y
  rcases y.2.2.1 with o | b
  · have os := o.s
    have z2 := p2.2.2 o
    obtain ⟨q1, a1, a2, a3, a4, a5, a6⟩ := yy.2.2.2.2 o.2.1
    obtain ⟨r1, b1, b2, b3, b4, b5, b6⟩ := z.2.2.2.2 q1
    have q := x.2.2.2 (y.2.2.2.2 o.2.1).1
    have ay := (y.2.2.2.2 o.2.1).2.2.2.2.2.2
    have e46 : d1 46 = d 46 := x.1.1 46 (by decide)
    rw [e46] at ay
    have n1 := a4.2.2
    have n2 := b4.2.2
    have z0 := p.2.2 (p.1.ok q1)
    have pp := p.2.1
    have p0' := p0.2.1
    have z00 := p0.2.2 (p0.1.ok r1)
    refine ⟨_, _, q_keep (by omega), p_puts o.2.2 (by omega), ⟨(z.1.tr yy.1).u50, (z.2.1.tr yy.2.1).u, LV_c (Or.inl o) (by rw [up_o (by decide), up_o (by decide)]) (by rw [up_o (by decide), up_o (by decide)]) (fun j a => by rw [up_us, us_ne (by omega), up_o (by decide)]) (by rw [up_o (by decide), up_o (by decide)]), ?_, fun _ => ⟨r1, ?_⟩⟩, fun _ => ⟨o.2.1, by rw [up_o (by decide), up_o (by decide)]⟩⟩
    · rw [up_us, us_eq rfl]; omega
    · have v46 : up (up d2 50 (d2 46 1).toNat (w * 1000 + 0)) 46 1 (d2 46 1 + 1) 46 1 = d2 46 1 + 1 := by rw [up_us, us_eq rfl]
      have v50 : up (up d2 50 (d2 46 1).toNat (w * 1000 + 0)) 46 1 (d2 46 1 + 1) 50 = us (d2 50) (d2 46 1).toNat (stp s) := by rw [up_o (by decide), up_us, hw]
      have v51 : up (up d2 50 (d2 46 1).toNat (w * 1000 + 0)) 46 1 (d2 46 1 + 1) 51 6 = d2 51 6 := by rw [up_o (by decide), up_o (by decide)]
      have w18 : up (up e2 181 (e2 174 18).toNat s) 174 18 (e2 174 18 + 1) 174 18 = e2 174 18 + 1 := by rw [up_us, us_eq rfl]
      have w19 : up (up e2 181 (e2 174 18).toNat s) 174 18 (e2 174 18 + 1) 174 19 = e2 174 19 := by rw [up_us, us_ne (by decide), up_o (by decide)]
      have w81 : up (up e2 181 (e2 174 18).toNat s) 174 18 (e2 174 18 + 1) 181 = us (e2 181) (e2 174 18).toNat s := by rw [up_o (by decide), up_us]
      unfold AP
      rw [v46, v50, v51, w18, w19, w81, show d2 46 1 + 1 - d0 46 1 = (d 46 1 - d0 46 1) + (d2 46 1 - d 46 1) + 1 by omega]
      refine ⟨⟨by omega, by omega⟩, fun j a => by rw [us_ne (by omega), a2 j (by omega)]; exact b2 j a, fun j a => by rw [us_ne (by omega), a3 j (by omega)]; exact b3 j a, PB.cat (PB_c b4 (fun i u v => ?_)) (PB_c a4 (fun i u v => ?_)) hH ?_, fun i u v => ?_, by omega⟩
      · rw [us_ne (by omega), a3 _ (by omega)]
      · rw [us_ne (by omega), show e0 174 18 + (d 46 1 - d0 46 1 + i) = e 174 18 + i by omega]
      · rw [us_eq (by omega)]; exact hs
      · by_cases c : i = (d 46 1 - d0 46 1) + (d2 46 1 - d 46 1)
        · rw [us_eq (by omega), us_eq (by omega)]
        · rw [us_ne (by omega), us_ne (by omega)]
          by_cases c2 : i < d 46 1 - d0 46 1
          · rw [a2 _ (by omega), a3 _ (by omega)]; exact b5 i u c2
          · have := a5 (i - (d 46 1 - d0 46 1)) (by omega) (by omega)
            rw [show d 46 1 + (i - (d 46 1 - d0 46 1)) = d0 46 1 + i by omega, show e 174 18 + (i - (d 46 1 - d0 46 1)) = e0 174 18 + i by omega] at this
            exact this
  · obtain ⟨d3, a1, a2, a3, a4⟩ := q_keepAny (w := w) (n := 0) p2.2.1
    refine ⟨d3, e2, a1, z_puts b.m, XR.bad ((z.1.tr yy.1).ka a2 a3) (z.2.1.tr yy.2.1) (BD_c b (a2 51 (by decide) (by decide)) (fun _ _ => rfl)) a4, fun g => ?_⟩
    rw [a2 51 (by decide) (by decide)] at g
    have := b.1; have := b.2.1; omega
def bL (w : Int) (F : Int → D9 → Option R9) (k : Int → Int → D9 → Option R9) (v2 v3 : Int) (d : D9) : Option R9 := if w32 400 ≤ w32 v3 then rt 0 d else cl (m_X8_takeWord_51 w d) (fun r1 d2 => if w32 r1 = 0 then rt 0 d2 else cl (F v2 d2) (fun r3 d4 => cl (m_X4_keepStep_46 w 0 d4) (fun r5 d6 => k v2 (v3 + 1) d6)))
def bM (isW F : D9 → Option R9) (s : Int) (k : D9 → Option R9) (d : D9) : Option R9 := cl (isW d) (fun r1 d2 => if w32 r1 = 0 then rt 0 d2 else cl (m_X12_next_174 d2) (fun r3 d4 => cl (F d4) (fun r5 d6 => cl (m_X12_puts_174 s d6) (fun r7 d8 => k d8))))
theorem r_seqL {H w s p : Int} {F : Int → D9 → Option R9} {F' isW : D9 → Option R9} {d0 e0 : D9} (hH : 1 ≤ H) (hs : s = 8 ∨ s = 9) (hw : w * 1000 + 0 = stp s) (hw2 : 0 ≤ w ∧ w ≤ 100)
    (i1 : ∀ d e, OK d e → isW e = rt (bi (decide (d 51 7 = 2 ∧ d 51 8 = w))) e) (i2 : ∀ e, w32 (e 174 13) ≠ 0 → isW e = rt 0 e)
    (hF : ∀ d e, PRE d e → (OK d e → e 174 19 = p) → ∃ d1 e1, F p d = rt 0 d1 ∧ F' e = rt 0 e1 ∧ XR H d e d1 e1) (p0 : PRE d0 e0) (h0 : d0 51 2 = 0 → e0 174 19 = p) : ∀ (m f f' : Nat) (i : Int) (d e : D9), m < f → m < f' → XR (H + 1) d0 e0 d e → (OK d e → 0 ≤ i ∧ i ≤ d 51 6 ∧ 400 ≤ d 51 6 + m) → ∃ d1 e1, fix9 (fun _ _ _ => none) (fun k => bL w F k) f p i d = rt 0 d1 ∧ fix9 (fun _ => none) (fun k => bM isW F' s k) f' e = rt 0 e1 ∧ XR (H + 1) d0 e0 d1 e1
  | m, f + 1, f' + 1, i, d, e, hf, hf', x, hi => by
    rw [fx2, fx0, bL, bM]
    rcases x.2.2.1 with o | b
    · have z := hi o
      have os := o.s
      rw [i1 d e o, cl_rt, w32_bi, q_takeWord o hw2]
      by_cases c : d 51 7 = 2 ∧ d 51 8 = w
      · have s1 := o.s1 (by omega)
        obtain ⟨d1, e1, a1, a2, a3, a4⟩ := r_adv o (by omega)
        have pd := x.pre p0
        have ap := x.2.2.2.2 o.2.1
        obtain ⟨d2, e2, b1, b2, b3⟩ := hF d1 e1 (a3.pre (by omega) pd) (fun _ => by rw [a3.2.1.2 19 (by omega), ap.2.1.2]; exact h0 ap.1)
        obtain ⟨d3, e3, c1, c2, c3, c4⟩ := XR.cat (w := w) (s := s) p0 x a3 b3 hH hs hw
        obtain ⟨m, rfl⟩ : ∃ m', m = m' + 1 := ⟨m - 1, by omega⟩
        obtain ⟨d4, e4, g1, g2, g3⟩ := r_seqL hH hs hw hw2 i1 i2 hF p0 h0 m f f' (i + 1) d3 e3 (by omega) (by omega) c3 (fun o3 => by
          obtain ⟨y1, y2⟩ := c4 o3.2.1
          have y3 := b3.2.2.2.2 y1
          have y4 := (a3.2.2.2 y3.1).2
          have y5 := y3.2.2.2.2.2.2
          have y6 := y3.2.2.2.2.1.2.2
          omega)
        refine ⟨d4, e4, ?_, ?_, g3⟩
        · rw [wi (x := 400) (by omega), wi (x := i) (by omega), if_neg (by omega), if_pos c, a1, cl_rt, cl_rt, if_neg (by decide), b1, cl_rt, c1, cl_rt, g1]
        · rw [dec_t c, bi_t, if_neg ne10, a2, cl_rt, b2, cl_rt, c2, cl_rt, g2]
      · rw [if_neg c, cl_rt, if_pos (show w32 0 = 0 from rfl), ite_self, dec_f c, bi_f, if_pos rfl]
        exact ⟨d, e, rfl, rfl, x⟩
    · rw [i2 e b.m, cl_rt, z_takeWord b.c, cl_rt, if_pos (show w32 0 = 0 from rfl), if_pos (show w32 0 = 0 from rfl), ite_self]
      exact ⟨d, e, rfl, rfl, x⟩
  | _, 0, _, _, _, _, hf, _, _, _ => absurd hf (Nat.not_lt_zero _)
  | _, _, 0, _, _, _, _, hf, _, _ => absurd hf (Nat.not_lt_zero _)
theorem r_seq {H w s p : Int} {F : Int → D9 → Option R9} {F' isW : D9 → Option R9} {d e : D9} (hH : 1 ≤ H) (hs : s = 8 ∨ s = 9) (hw : w * 1000 + 0 = stp s) (hw2 : 0 ≤ w ∧ w ≤ 100)
    (i1 : ∀ d e, OK d e → isW e = rt (bi (decide (d 51 7 = 2 ∧ d 51 8 = w))) e) (i2 : ∀ e, w32 (e 174 13) ≠ 0 → isW e = rt 0 e)
    (hF : ∀ d e, PRE d e → (OK d e → e 174 19 = p) → ∃ d1 e1, F p d = rt 0 d1 ∧ F' e = rt 0 e1 ∧ XR H d e d1 e1) (p0 : PRE d e) (h0 : OK d e → e 174 19 = p) : ∃ d1 e1, cl (F p d) (fun r1 d2 => fix9 (fun _ _ _ => none) (fun k => bL w F k) FU p 0 d2) = rt 0 d1 ∧ cl (F' e) (fun r1 d2 => fix9 (fun _ => none) (fun k => bM isW F' s k) FU d2) = rt 0 e1 ∧ XR (H + 1) d e d1 e1 := by
  obtain ⟨d1, e1, a1, a2, a3⟩ := hF d e p0 h0
  obtain ⟨d2, e2, b1, b2, b3⟩ := r_seqL hH hs hw hw2 i1 i2 hF p0 (fun g => h0 (p0.1.ok g)) 400 FU FU 0 d1 e1 (by decide) (by decide) (a3.le (by omega)) (fun o => by have := o.s; omega)
  exact ⟨d2, e2, by rw [a1, cl_rt, b1], by rw [a2, cl_rt, b2], b3⟩
theorem r_part {H p : Int} {F : Int → D9 → Option R9} {F' : D9 → Option R9} {d e : D9} (hH : 1 ≤ H) (hF : ∀ d e, PRE d e → (OK d e → e 174 19 = p) → ∃ d1 e1, F p d = rt 0 d1 ∧ F' e = rt 0 e1 ∧ XR H d e d1 e1) (p0 : PRE d e) (h0 : OK d e → e 174 19 = p) : ∃ d1 e1, m_X4_readPart_46_51 F p d = rt 0 d1 ∧ m_X12_readPart_174 F' e = rt 0 e1 ∧ XR (H + 1) d e d1 e1 :=
  r_seq (w := 14) (s := 8) (isW := m_X12_isWord_174_s38) hH (Or.inl rfl) (by decide) (by omega) (fun d e o => is_38 o) (fun e h => zs_38 h) hF p0 h0
theorem r_test {H p : Int} {F : Int → D9 → Option R9} {F' : D9 → Option R9} {d e : D9} (hH : 1 ≤ H) (hF : ∀ d e, PRE d e → (OK d e → e 174 19 = p) → ∃ d1 e1, F p d = rt 0 d1 ∧ F' e = rt 0 e1 ∧ XR H d e d1 e1) (p0 : PRE d e) (h0 : OK d e → e 174 19 = p) : ∃ d1 e1, m_X4_readTest_46_51 F p d = rt 0 d1 ∧ m_X12_readTest_174 F' e = rt 0 e1 ∧ XR (H + 1 + 1) d e d1 e1 :=
  r_seq (H := H + 1) (w := 13) (s := 9) (F := m_X4_readPart_46_51 F) (F' := m_X12_readPart_174 F') (isW := m_X12_isWord_174_s39) (by omega) (Or.inr rfl) (by decide) (by omega) (fun d e o => is_39 o) (fun e h => zs_39 h) (fun d e pp hh => r_part hH hF pp hh) p0 h0

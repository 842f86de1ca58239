/-! reading a law -/
def lwb (i : Nat) : Int := if i = 0 ∨ i = 5 then 1 else 0
def hgb (i : Nat) : Int := if i = 3 then 999 else if i = 4 ∨ i = 6 then 50 else 99
def LWR (d e : D9) : Prop := ∀ i : Nat, i < 7 → d 40 (i + 1) = e 179 i ∧ lwb i ≤ e 179 i ∧ e 179 i ≤ hgb i
theorem LWR.w {d e : D9} {i : Nat} {v : Int} (h : LWR d e) (hv : lwb i ≤ v ∧ v ≤ hgb i) : LWR (up d 40 (i + 1) v) (up e 179 i v) := by
  intro j hj
  rw [up_us, up_us]
  by_cases c : j = i
  · subst c; rw [us_eq rfl, us_eq rfl]; exact ⟨rfl, hv⟩
  · rw [us_ne (by omega), us_ne c]; exact h j hj
theorem LWR_c {d e d' e' : D9} (h : LWR d e) (h1 : ∀ i : Nat, i < 7 → d' 40 (i + 1) = d 40 (i + 1)) (h2 : e' 179 = e 179) : LWR d' e' := fun i hi => by rw [h1 i hi, h2]; exact h i hi
theorem NX.lr {c : Int} {d e d1 e1 : D9} (x : NX c d e d1 e1) (h : LWR d e) : LWR d1 e1 := LWR_c h (fun i _ => by rw [x.1.1 40 (by decide)]) (x.2.1.1 179 (by decide))
/-- a line of one number -/
theorem r_law1 {d e : D9} {lo hi w : Int} {i : Nat} (h : LV d e) (lr : LWR d e) (hi7 : i < 7) (hw : w = i + 6) (hw7 : w ≠ 7) (hlo : lo = lwb i) (hhi : hi = hgb i) : ∃ d1 e1, cl (cl (m_X8_number_51 lo hi d) (fun r2 d3 => pf d3 40 (i + 1) r2 (fun d4 => rt 0 d4))) (fun _ d6 => m_X8_needSign_51 59 d6) = rt 0 d1 ∧ m_X12_lawLine_174_c171 w hi lo e = rt 0 e1 ∧ HC d d1 ∧ HM e e1 ∧ LV d1 e1 ∧ LWR d1 e1 := by
  have hb : 0 ≤ lo ∧ lo ≤ hi ∧ hi ≤ 999 := by
    rw [hlo, hhi]; unfold lwb hgb
    rcases (by omega : i = 0 ∨ i = 1 ∨ i = 2 ∨ i = 3 ∨ i = 4 ∨ i = 5 ∨ i = 6) with rfl | rfl | rfl | rfl | rfl | rfl | rfl <;> decide
  obtain ⟨v, d1, e1, a1, a2, a3, a4⟩ := r_num h hb
  have lv : LV (up d1 40 (i + 1) v) (up e1 179 i v) := a3.2.2.1.u (by omega) (by omega)
  obtain ⟨d2, e2, b1, b2, b3⟩ := r_stop lv
  refine ⟨d2, e2, ?_, ?_, (a3.1.hc.u (by omega)).tr b3.1.hc, (a3.2.1.hm.u (by omega)).tr b3.2.1.hm, b3.2.2.1, b3.lr ((a3.lr lr).w (by omega))⟩
  · rw [a1, cl_rt, pf_v, cl_rt, b1]
  · unfold m_X12_lawLine_174_c171 m_X12_lawLine_174_c210
    rw [a2, cl_rt, sd_in (by omega), wi (x := w) (by omega), wi (x := 7) (by omega), if_pos hw7, show (w - 6).toNat = i by omega, b2, cl_rt]
theorem r_law2 {d e : D9} (h : LV d e) (lr : LWR d e) : ∃ d1 e1, cl (cl (m_X8_number_51 0 99 d) (fun r6 d7 => pf d7 40 2 r6 (fun d8 => cl (m_X8_needWord_51 6 d8) (fun r9 d10 => cl (m_X8_number_51 (d10 40 2) 99 d10) (fun r11 d12 => pf d12 40 3 r11 (fun d13 => rt 0 d13)))))) (fun _ d6 => m_X8_needSign_51 59 d6) = rt 0 d1 ∧ m_X12_lawLine_174_c171 7 99 0 e = rt 0 e1 ∧ HC d d1 ∧ HM e e1 ∧ LV d1 e1 ∧ LWR d1 e1 := by
  obtain ⟨v, d1, e1, a1, a2, a3, a4⟩ := r_num (lo := 0) (hi := 99) h (by omega)
  have lv : LV (up d1 40 2 v) (up e1 179 1 v) := a3.2.2.1.u (by omega) (by omega)
  obtain ⟨d2, e2, b1, b2, b3⟩ := r_need6 lv
  have e2v : d2 40 2 = v := by rw [b3.1.1 40 (by decide), up_us, us_eq rfl]
  obtain ⟨u, d3, e3, c1, c2, c3, c4⟩ := r_num (lo := v) (hi := 99) b3.2.2.1 (by omega)
  have lv3 : LV (up d3 40 3 u) (up e3 179 2 u) := c3.2.2.1.u (by omega) (by omega)
  obtain ⟨d4, e4, f1, f2, f3⟩ := r_stop lv3
  refine ⟨d4, e4, ?_, ?_, (((a3.1.hc.u (by omega)).tr b3.1.hc).tr (c3.1.hc.u (by omega))).tr f3.1.hc, (((a3.2.1.hm.u (by omega)).tr b3.2.1.hm).tr (c3.2.1.hm.u (by omega))).tr f3.2.1.hm, f3.2.2.1, f3.lr ((c3.lr (b3.lr ((a3.lr lr).w (i := 1) (by unfold lwb hgb; simp; omega)))).w (i := 2) (by unfold lwb hgb; simp; omega))⟩
  · rw [a1, cl_rt, pf_v, b1, cl_rt, e2v, c1, cl_rt, pf_v, cl_rt, f1]
  · unfold m_X12_lawLine_174_c171 m_X12_lawLine_174_c210
    rw [a2, cl_rt, sd_in (by omega), if_neg (by decide), show ((7 : Int) - 6).toNat = 1 from rfl, b2, cl_rt, c2, cl_rt, sd_in (by omega), show (2 : Int).toNat = 2 from rfl, f2, cl_rt]
theorem z_c110 {e : D9} {w : Int} (h : w32 (e 174 13) ≠ 0) : m_X12_lawLine_174_c110 w e = rt 0 e := by
  unfold m_X12_lawLine_174_c110; rw [if_neg h]
theorem q_readLine {d : D9} {w : Int} (hw : -1 ≤ w ∧ w ≤ 5) : m_X2_readLine_40_51 w d = if w = 0 then cl (m_X8_number_51 1 99 d) (fun r2 d3 => pf d3 40 1 r2 (fun d4 => rt 0 d4)) else if w = 1 then cl (m_X8_number_51 0 99 d) (fun r6 d7 => pf d7 40 2 r6 (fun d8 => cl (m_X8_needWord_51 6 d8) (fun r9 d10 => cl (m_X8_number_51 (d10 40 2) 99 d10) (fun r11 d12 => pf d12 40 3 r11 (fun d13 => rt 0 d13))))) else if w = 2 then cl (m_X8_number_51 0 999 d) (fun r15 d16 => pf d16 40 4 r15 (fun d17 => rt 0 d17)) else if w = 3 then cl (m_X8_number_51 0 50 d) (fun r19 d20 => pf d20 40 5 r19 (fun d21 => rt 0 d21)) else if w = 4 then cl (m_X8_number_51 1 99 d) (fun r23 d24 => pf d24 40 6 r23 (fun d25 => rt 0 d25)) else if w = 5 then cl (m_X8_number_51 0 50 d) (fun r27 d28 => pf d28 40 7 r27 (fun d29 => rt 0 d29)) else rt 0 d := by
  unfold m_X2_readLine_40_51
  rw [wi (x := w) (by omega)]
theorem p_lawWhich {d e : D9} {l : Int} (h : OK d e) : m_X12_lawLine_174 l e = m_X12_lawLine_174_c85 l (if d 51 7 = 2 ∧ d 51 8 = 0 then 6 else if d 51 7 = 2 ∧ d 51 8 = 1 then 7 else if d 51 7 = 2 ∧ d 51 8 = 2 then 9 else if d 51 7 = 2 ∧ d 51 8 = 3 then 10 else if d 51 7 = 2 ∧ d 51 8 = 4 then 11 else if d 51 7 = 2 ∧ d 51 8 = 5 then 12 else -1) e := by
  unfold m_X12_lawLine_174
  rw [is_15 h, cl_rt, is_16 h, cl_rt, is_17 h, cl_rt, is_18 h, cl_rt, is_19 h, cl_rt, is_20 h, cl_rt]
  simp only [w32_bi]
  by_cases c0 : d 51 7 = 2 ∧ d 51 8 = 0
  · rw [dec_t c0, bi_t, if_neg ne10, if_pos c0]
  · rw [dec_f c0, bi_f, if_pos rfl, if_neg c0]
    by_cases c1 : d 51 7 = 2 ∧ d 51 8 = 1
    · rw [dec_t c1, bi_t, if_neg ne10, if_pos c1]
    · rw [dec_f c1, bi_f, if_pos rfl, if_neg c1]
      by_cases c2 : d 51 7 = 2 ∧ d 51 8 = 2
      · rw [dec_t c2, bi_t, if_neg ne10, if_pos c2]
      · rw [dec_f c2, bi_f, if_pos rfl, if_neg c2]
        by_cases c3 : d 51 7 = 2 ∧ d 51 8 = 3
        · rw [dec_t c3, bi_t, if_neg ne10, if_pos c3]
        · rw [dec_f c3, bi_f, if_pos rfl, if_neg c3]
          by_cases c4 : d 51 7 = 2 ∧ d 51 8 = 4
          · rw [dec_t c4, bi_t, if_neg ne10, if_pos c4]
          · rw [dec_f c4, bi_f, if_pos rfl, if_neg c4]
            by_cases c5 : d 51 7 = 2 ∧ d 51 8 = 5
            · rw [dec_t c5, bi_t, if_neg ne10, if_pos c5]
            · rw [dec_f c5, bi_f, if_pos rfl, if_neg c5]
theorem r_lawLine {d e : D9} {l : Int} (h : OK d e) (lr : LWR d e) (hl : 0 ≤ l ∧ l ≤ 12) : ∃ d1 e1, cl (m_X8_firstWord_51 0 5 l d) (fun r3 d4 => cl (m_X2_readLine_40_51 r3 d4) (fun r5 d6 => m_X8_needSign_51 59 d6)) = rt 0 d1 ∧ m_X12_lawLine_174 l e = rt 0 e1 ∧ HC d d1 ∧ HM e e1 ∧ LV d1 e1 ∧ (l = 12 → BD d1 e1) ∧ LWR d1 e1 := by
  have fw := q_firstWord (a := 0) (b := 5) h (by omega) (by omega) hl
  rw [p_lawWhich h]
  by_cases c : fits9 d 0 5
  · have c' := c
    obtain ⟨c1, c2, c3⟩ := c'
    rw [fw.1 c]
    by_cases cl12 : l < 12
    · obtain ⟨d1, e1, a1, a2, a3, a4⟩ := r_adv h (by omega)
      have lr1 := a3.lr lr
      rw [if_pos cl12, a1, cl_rt, cl_rt]
      have c85 : ∀ w : Int, 6 ≤ w ∧ w ≤ 12 → m_X12_lawLine_174_c85 l w e = if w = 6 then m_X12_lawLine_174_c140 w 1 e1 else if w ≠ 11 then m_X12_lawLine_174_c140 w 0 e1 else m_X12_lawLine_174_c140 w 1 e1 := fun w hw => by
        unfold m_X12_lawLine_174_c85 m_X12_lawLine_174_c110
        rw [wi (x := w) (by omega), wi (x := -1) (by omega), if_pos (by omega), wi (x := l) (by omega), wi (x := 12) (by omega), if_pos (by omega), h.2.2, if_pos (show w32 0 = 0 from rfl), a2, cl_rt, wi (x := 6) (by omega), wi (x := 11) (by omega)]
      have c140 : ∀ w s : Int, 6 ≤ w ∧ w ≤ 12 → m_X12_lawLine_174_c140 w s e1 = m_X12_lawLine_174_c171 w (if w = 9 then 999 else if w = 10 ∨ w = 12 then 50 else 99) s e1 := fun w s hw => by
        unfold m_X12_lawLine_174_c140
        rw [wi (x := w) (by omega), wi (x := 9) (by omega), wi (x := 10) (by omega), wi (x := 12) (by omega)]
        by_cases w9 : w = 9
        · rw [if_neg (fun g => g w9), if_pos w9]
        · rw [if_pos w9, if_neg w9]
          by_cases w10 : w = 10
          · rw [if_pos w10, if_pos (Or.inl w10)]
          · rw [if_neg w10]
            by_cases w12 : w = 12
            · rw [if_neg (fun g => g w12), if_pos (Or.inr w12)]
            · rw [if_pos w12, if_neg (by omega)]
      have fin : ∀ X Y, (∃ d2 e2, X = rt 0 d2 ∧ Y = rt 0 e2 ∧ HC d1 d2 ∧ HM e1 e2 ∧ LV d2 e2 ∧ LWR d2 e2) → ∃ d2 e2, X = rt 0 d2 ∧ Y = rt 0 e2 ∧ HC d d2 ∧ HM e e2 ∧ LV d2 e2 ∧ (l = 12 → BD d2 e2) ∧ LWR d2 e2 := by
        rintro X Y ⟨d2, e2, b1, b2, b3, b4, b5, b6⟩
        exact ⟨d2, e2, b1, b2, a3.1.hc.tr b3, a3.2.1.hm.tr b4, b5, fun g => by omega, b6⟩
      rw [q_readLine (by omega)]
      rcases (by omega : d 51 8 = 0 ∨ d 51 8 = 1 ∨ d 51 8 = 2 ∨ d 51 8 = 3 ∨ d 51 8 = 4 ∨ d 51 8 = 5) with g | g | g | g | g | g
      · rw [if_pos g, if_pos ⟨c1, g⟩, c85 6 (by omega), if_pos rfl, c140 6 1 (by omega), if_neg (by decide), if_neg (by decide)]
        exact fin _ _ (r_law1 (i := 0) a3.2.2.1 lr1 (by omega) (by decide) (by decide) (by decide) (by decide))
      · rw [if_neg (by omega), if_pos g, if_neg (by omega), if_pos ⟨c1, g⟩, c85 7 (by omega), if_neg (by decide), if_pos (by decide), c140 7 0 (by omega), if_neg (by decide), if_neg (by decide)]
        exact fin _ _ (r_law2 a3.2.2.1 lr1)
      · rw [if_neg (by omega), if_neg (by omega), if_pos g, if_neg (by omega), if_neg (by omega), if_pos ⟨c1, g⟩, c85 9 (by omega), if_neg (by decide), if_pos (by decide), c140 9 0 (by omega), if_pos rfl]
        exact fin _ _ (r_law1 (i := 3) a3.2.2.1 lr1 (by omega) (by decide) (by decide) (by decide) (by decide))
      · rw [if_neg (by omega), if_neg (by omega), if_neg (by omega), if_pos g, if_neg (by omega), if_neg (by omega), if_neg (by omega), if_pos ⟨c1, g⟩, c85 10 (by omega), if_neg (by decide), if_pos (by decide), c140 10 0 (by omega), if_neg (by decide), if_pos (by decide)]
        exact fin _ _ (r_law1 (i := 4) a3.2.2.1 lr1 (by omega) (by decide) (by decide) (by decide) (by decide))
      · rw [if_neg (by omega), if_neg (by omega), if_neg (by omega), if_neg (by omega), if_pos g, if_neg (by omega), if_neg (by omega), if_neg (by omega), if_neg (by omega), if_pos ⟨c1, g⟩, c85 11 (by omega), if_neg (by decide), if_neg (by decide), c140 11 1 (by omega), if_neg (by decide), if_neg (by decide)]
        exact fin _ _ (r_law1 (i := 5) a3.2.2.1 lr1 (by omega) (by decide) (by decide) (by decide) (by decide))
      · rw [if_neg (by omega), if_neg (by omega), if_neg (by omega), if_neg (by omega), if_neg (by omega), if_pos g, if_neg (by omega), if_neg (by omega), if_neg (by omega), if_neg (by omega), if_neg (by omega), if_pos ⟨c1, g⟩, c85 12 (by omega), if_neg (by decide), if_pos (by decide), c140 12 0 (by omega), if_neg (by decide), if_pos (by decide)]
        exact fin _ _ (r_law1 (i := 6) a3.2.2.1 lr1 (by omega) (by decide) (by decide) (by decide) (by decide))
    · obtain ⟨d1, e1, a1, a2, a3, a4, a5⟩ := r_fail h (k := 4) (by omega) (by omega)
      rw [if_neg cl12, a1, cl_rt, cl_rt, q_readLine (by omega), if_neg (by decide), if_neg (by decide), if_neg (by decide), if_neg (by decide), if_neg (by decide), if_neg (by decide), cl_rt, z_needSign a5.c]
      have c85 : ∀ w : Int, 6 ≤ w ∧ w ≤ 12 → m_X12_lawLine_174_c85 l w e = rt 0 e1 := fun w hw => by
        unfold m_X12_lawLine_174_c85
        rw [wi (x := w) (by omega), wi (x := -1) (by omega), if_pos (by omega), wi (x := l) (by omega), wi (x := 12) (by omega), if_neg (by omega), a2, cl_rt, z_c110 a5.m]
      refine ⟨d1, e1, rfl, c85 _ ?_, a3.hc, a4.hm, Or.inr a5, fun _ => a5, LWR_c lr (fun i _ => by rw [a3.1 40 (by decide)]) (a4.1 179 (by decide))⟩
      rcases (by omega : d 51 8 = 0 ∨ d 51 8 = 1 ∨ d 51 8 = 2 ∨ d 51 8 = 3 ∨ d 51 8 = 4 ∨ d 51 8 = 5) with g | g | g | g | g | g <;> rw [c1, g] <;> decide
  · obtain ⟨d1, e1, a1, a2, a3, a4, a5⟩ := r_refuse h
    have nf : ∀ k : Int, 0 ≤ k ∧ k ≤ 5 → ¬ (d 51 7 = 2 ∧ d 51 8 = k) := fun k hk g => c ⟨g.1, by omega, by omega⟩
    rw [fw.2 c, a1, cl_rt, cl_rt, q_readLine (by omega), if_neg (by decide), if_neg (by decide), if_neg (by decide), if_neg (by decide), if_neg (by decide), if_neg (by decide), cl_rt, z_needSign a5.c, if_neg (nf 0 (by omega)), if_neg (nf 1 (by omega)), if_neg (nf 2 (by omega)), if_neg (nf 3 (by omega)), if_neg (nf 4 (by omega)), if_neg (nf 5 (by omega))]
    refine ⟨d1, e1, rfl, ?_, a3.hc, a4.hm, Or.inr a5, fun _ => a5, LWR_c lr (fun i _ => by rw [a3.1 40 (by decide)]) (a4.1 179 (by decide))⟩
    unfold m_X12_lawLine_174_c85
    rw [if_neg (by decide), a2, cl_rt, z_c110 a5.m]
theorem q_goesOn {d e : D9} (h : OK d e) : m_X8_goesOn_51 d = rt (bi (decide (d 51 7 ≠ 1))) d := by
  have t := h.t
  unfold m_X8_goesOn_51
  rw [h.2.1, if_neg (show ¬ w32 0 ≠ 0 by decide), wi (x := d 51 7) (by omega), wi (x := 1) (by omega)]
  by_cases c : d 51 7 = 1
  · rw [if_pos c, dec_f (fun g => g c)]; rfl
  · rw [if_neg c, dec_t c]; rfl
theorem z_goesOn {d : D9} (h : w32 (d 51 2) ≠ 0) : m_X8_goesOn_51 d = rt 0 d := by
  unfold m_X8_goesOn_51; rw [if_pos h]; rfl
theorem r_lawLoop : ∀ (m f f' : Nat) (l : Int) (d e : D9), m < f → m < f' → l + m = 13 → 0 ≤ l → LV d e → (l = 13 → BD d e) → LWR d e → d 40 0 = l → ∃ d1 e1 k, fix9 (fun _ _ => none) (fun k => b_X2_readFrom_40_51_c6 k) f l d = rt 0 d1 ∧ fix9 (fun _ _ => none) (fun k => b_X12_law_174_c36 k) f' l e = m_X12_law_174_c61 k e1 ∧ HC d d1 ∧ HM e e1 ∧ LV d1 e1 ∧ (OK d1 e1 → (0 ≤ k ∧ k ≤ 12) ∧ d1 40 0 = k ∧ LWR d1 e1)
  | m, f + 1, f' + 1, l, d, e, hf, hf', hm, h0, h, h13, lr, h40 => by
    rw [fx1, fx1, b_X2_readFrom_40_51_c6, b_X12_law_174_c36]
    rcases h with h | h
    · have t := h.t
      have l12 : l ≤ 12 := by
        by_cases c : l = 13
        · have q := h13 c
          have := q.1
          have := q.2.1
          have := h.2.1
          omega
        · omega
      obtain ⟨m, rfl⟩ : ∃ m', m = m' + 1 := ⟨m - 1, by omega⟩
      rw [wi (x := 12) (by omega), wi (x := l) (by omega), if_neg (by omega), q_goesOn h, cl_rt, w32_bi, h.2.2, if_neg (show ¬ w32 0 ≠ 0 by decide), wi (x := e 174 11) (by omega)]
      by_cases c : d 51 7 = 1
      · rw [dec_f (fun g => g c), bi_f, if_pos rfl, if_pos (by omega)]
        exact ⟨d, e, l, rfl, rfl, HC.rf d, HM.rf e, Or.inl h, fun _ => ⟨by omega, h40, lr⟩⟩
      · rw [dec_t c, bi_t, if_neg ne10, if_neg (by omega)]
        obtain ⟨d1, e1, a1, a2, a3, a4, a5, a6, a7⟩ := r_lawLine (l := l) h lr (by omega)
        have lv2 : LV (up d1 40 0 (l + 1)) e1 := a5.uc (by omega)
        obtain ⟨d2, e2, k, b1, b2, b3, b4, b5, b6⟩ := r_lawLoop m f f' (l + 1) (up d1 40 0 (l + 1)) e1 (by omega) (by omega) (by omega) (by omega) lv2 (fun g => BD_c (a6 (by omega)) (up_o (by decide)) (fun _ _ => rfl)) (LWR_c a7 (fun i _ => by rw [up_us, us_ne (by omega)]) rfl) (by rw [up_us, us_eq rfl])
        refine ⟨d2, e2, k, ?_, ?_, (a3.u (by omega)).tr b3, a4.tr b4, b5, b6⟩
        · revert a1
          cases hx : m_X8_firstWord_51 0 5 l d with
          | none => intro a1; cases a1
          | some r =>
            obtain ⟨x, d3⟩ := r
            cases x with
            | inr y => intro a1; cases a1
            | inl y =>
              show cl (m_X2_readLine_40_51 y d3) (fun r5 d6 => m_X8_needSign_51 59 d6) = rt 0 d1 → cl (m_X2_readLine_40_51 y d3) _ = _
              cases hy : m_X2_readLine_40_51 y d3 with
              | none => intro a1; cases a1
              | some r =>
                obtain ⟨x, d4⟩ := r
                cases x with
                | inr y => intro a1; cases a1
                | inl y =>
                  intro a1
                  have a1' : m_X8_needSign_51 59 d4 = rt 0 d1 := a1
                  show cl (m_X8_needSign_51 59 d4) _ = _
                  rw [a1', cl_rt, pf_v]
                  exact b1
        · rw [a2, cl_rt]
          exact b2
    · rw [z_goesOn h.c, cl_rt, if_pos (show w32 0 = 0 from rfl), ite_self, if_pos h.m]
      exact ⟨d, e, l, rfl, rfl, HC.rf d, HM.rf e, Or.inr h, fun g => by have := g.2.1; have := h.1; have := h.2.1; omega⟩
  | _, 0, _, _, _, _, hf, _, _, _, _, _, _, _ => absurd hf (Nat.not_lt_zero _)
  | _, _, 0, _, _, _, _, hf, _, _, _, _, _, _ => absurd hf (Nat.not_lt_zero _)

/-! reading stories -/
def S1 (d e : D9) (i : Nat) : Prop := (d 42 i = 23 + e 180 (4 * i) ∧ d 43 i = e 180 (4 * i + 1) ∧ d 44 i = e 180 (4 * i + 2) ∧ d 45 i = e 180 (4 * i + 3)) ∧ (0 ≤ e 180 (4 * i) ∧ e 180 (4 * i) ≤ 1) ∧ (0 ≤ e 180 (4 * i + 1) ∧ e 180 (4 * i + 1) ≤ 9) ∧ (e 180 (4 * i) = 1 → e 180 (4 * i + 1) ≤ 5) ∧ (0 ≤ e 180 (4 * i + 2) ∧ e 180 (4 * i + 2) ≤ 400) ∧ (0 ≤ e 180 (4 * i + 3) ∧ e 180 (4 * i + 3) ≤ 400)
def SYR (d e : D9) (l : Int) : Prop := ∀ i : Nat, (i : Int) < l → S1 d e i
theorem S1_c {d e d' e' : D9} {i : Nat} (h : S1 d e i) (h1 : d' 42 i = d 42 i) (h2 : d' 43 i = d 43 i) (h3 : d' 44 i = d 44 i) (h4 : d' 45 i = d 45 i) (h5 : ∀ j : Nat, 4 * i ≤ j → j < 4 * i + 4 → e' 180 j = e 180 j) : S1 d' e' i := by
  unfold S1
  rw [h1, h2, h3, h4, h5 (4 * i) (by omega) (by omega), h5 (4 * i + 1) (by omega) (by omega), h5 (4 * i + 2) (by omega) (by omega), h5 (4 * i + 3) (by omega) (by omega)]
  exact h
theorem r_story {d e : D9} {l w s : Int} (h : LV d e) (hl : 0 ≤ l ∧ l < 12) (hw : s = 0 ∨ s = 1) (hws : w = 23 + s) : ∃ d1 e1, m_X7_readLine_41_51 w l d = rt 0 d1 ∧ m_X12_storyLine_174_c76 l s (if s = 0 then 9 else 5) 0 e = rt 0 e1 ∧ HC d d1 ∧ HM e e1 ∧ LV d1 e1 ∧ S1 d1 e1 l.toNat ∧ (∀ i : Nat, i ≠ l.toNat → d1 42 i = d 42 i ∧ d1 43 i = d 43 i ∧ d1 44 i = d 44 i ∧ d1 45 i = d 45 i) ∧ d1 41 = d 41 ∧ (∀ j : Nat, (j < 4 * l.toNat ∨ 4 * l.toNat + 4 ≤ j) → e1 180 j = e 180 j) := by
  have h1 : LV (up d 42 l.toNat w) e := h.uc (by omega)
  obtain ⟨r1, d2, e2, a1, a2, a3, a4⟩ := r_num (lo := 0) (hi := if s = 0 then 9 else 5) h1 (by rcases hw with rfl | rfl <;> decide)
  have h2 : LV (up d2 43 l.toNat r1) e2 := a3.2.2.1.uc (by omega)
  obtain ⟨d3, e3, b1, b2, b3⟩ := r_need7 h2
  obtain ⟨r5, d4, e4, c1, c2, c3, c4⟩ := r_num (lo := 0) (hi := 400) b3.2.2.1 (by omega)
  have h4 : LV (up d4 44 l.toNat r5) e4 := c3.2.2.1.uc (by omega)
  obtain ⟨d5, e5, f1, f2, f3⟩ := r_need6 h4
  have v44 : d5 44 l.toNat = r5 := by rw [f3.1.1 44 (by decide), up_us, us_eq rfl]
  obtain ⟨r9, d6, e6, g1, g2, g3, g4⟩ := r_num (lo := r5) (hi := 400) f3.2.2.1 (by omega)
  have h6 : LV (up d6 45 l.toNat r9) e6 := g3.2.2.1.uc (by omega)
  obtain ⟨d7, e7, i1, i2, i3⟩ := r_stop h6
  have x42 : d7 42 = us (d 42) l.toNat w := by rw [i3.1.1 42 (by decide), up_o (by decide), g3.1.1 42 (by decide), f3.1.1 42 (by decide), up_o (by decide), c3.1.1 42 (by decide), b3.1.1 42 (by decide), up_o (by decide), a3.1.1 42 (by decide), up_us]
  have x43 : d7 43 = us (d 43) l.toNat r1 := by rw [i3.1.1 43 (by decide), up_o (by decide), g3.1.1 43 (by decide), f3.1.1 43 (by decide), up_o (by decide), c3.1.1 43 (by decide), b3.1.1 43 (by decide), up_us, a3.1.1 43 (by decide), up_o (by decide)]
  have x44 : d7 44 = us (d 44) l.toNat r5 := by rw [i3.1.1 44 (by decide), up_o (by decide), g3.1.1 44 (by decide), f3.1.1 44 (by decide), up_us, c3.1.1 44 (by decide), b3.1.1 44 (by decide), up_o (by decide), a3.1.1 44 (by decide), up_o (by decide)]
  have x45 : d7 45 = us (d 45) l.toNat r9 := by rw [i3.1.1 45 (by decide), up_us, g3.1.1 45 (by decide), f3.1.1 45 (by decide), up_o (by decide), c3.1.1 45 (by decide), b3.1.1 45 (by decide), up_o (by decide), a3.1.1 45 (by decide), up_o (by decide)]
  have x41 : d7 41 = d 41 := by rw [i3.1.1 41 (by decide), up_o (by decide), g3.1.1 41 (by decide), f3.1.1 41 (by decide), up_o (by decide), c3.1.1 41 (by decide), b3.1.1 41 (by decide), up_o (by decide), a3.1.1 41 (by decide), up_o (by decide)]
  have x180 : e7 180 = e 180 := by rw [i3.2.1.1 180 (by decide), g3.2.1.1 180 (by decide), f3.2.1.1 180 (by decide), c3.2.1.1 180 (by decide), b3.2.1.1 180 (by decide), a3.2.1.1 180 (by decide)]
  have hC : m_X7_readLine_41_51 w l d = rt 0 d7 := by
    unfold m_X7_readLine_41_51 m_X7_readLine_41_51_c27
    rw [sd_in (by omega)]
    rcases hw with rfl | rfl
    · rw [show w = 23 by omega, if_neg (by decide)]
      rw [show w = 23 by omega, if_pos rfl] at a1
      rw [show (10 : Int) - 1 = 9 from rfl, a1, cl_rt, sd_in (by omega), b1, cl_rt, c1, cl_rt, sd_in (by omega), f1, cl_rt, ld_in (by omega), v44, g1, cl_rt, sd_in (by omega), i1, cl_rt]
    · rw [show w = 24 by omega, if_pos (by decide)]
      rw [show w = 24 by omega, if_neg (by decide)] at a1
      rw [show (6 : Int) - 1 = 5 from rfl, a1, cl_rt, sd_in (by omega), b1, cl_rt, c1, cl_rt, sd_in (by omega), f1, cl_rt, ld_in (by omega), v44, g1, cl_rt, sd_in (by omega), i1, cl_rt]
  have hM : m_X12_storyLine_174_c76 l s (if s = 0 then 9 else 5) 0 e = rt 0 (up (up (up (up e7 180 (4 * l).toNat s) 180 (4 * l + 1).toNat r1) 180 (4 * l + 2).toNat r5) 180 (4 * l + 3).toNat r9) := by
    unfold m_X12_storyLine_174_c76
    rw [a2, cl_rt, b2, cl_rt, c2, cl_rt, f2, cl_rt, g2, cl_rt, i2, cl_rt, sd_in (by omega), sd_in (by omega), sd_in (by omega), sd_in (by omega)]
  have y : ∀ j : Nat, (up (up (up (up e7 180 (4 * l).toNat s) 180 (4 * l + 1).toNat r1) 180 (4 * l + 2).toNat r5) 180 (4 * l + 3).toNat r9) 180 j = us (us (us (us (e 180) (4 * l).toNat s) (4 * l + 1).toNat r1) (4 * l + 2).toNat r5) (4 * l + 3).toNat r9 j := fun j => by
    simp only [up_us, x180]
  refine ⟨d7, _, hC, hM, ?_, ?_, ?_, ?_, ?_, x41, ?_⟩
  · exact ((((((((HC.rf d).u (by omega)).tr a3.1.hc).u (by omega)).tr b3.1.hc).tr c3.1.hc).u (by omega)).tr f3.1.hc).tr ((g3.1.hc.u (by omega)).tr i3.1.hc)
  · exact ((((((((((a3.2.1.hm).tr b3.2.1.hm).tr c3.2.1.hm).tr f3.2.1.hm).tr g3.2.1.hm).tr i3.2.1.hm).u (by omega)).u (by omega)).u (by omega)).u (by omega))
  · exact (((i3.2.2.1.um (by omega)).um (by omega)).um (by omega)).um (by omega)
  · unfold S1
    rw [x42, x43, x44, x45, us_eq rfl, us_eq rfl, us_eq rfl, us_eq rfl, y, y, y, y]
    simp (disch := omega) only [us_ne, us_eq]
    refine ⟨⟨hws, trivial, trivial, trivial⟩, by omega, ?_, ?_, by omega, by omega⟩
    · rcases hw with rfl | rfl <;> simp at a4 <;> omega
    · intro q; subst q; simp at a4; omega
  · intro i a
    rw [x42, x43, x44, x45, us_ne a, us_ne a, us_ne a, us_ne a]
    exact ⟨rfl, rfl, rfl, rfl⟩
  · intro j a
    rw [y]
    simp (disch := omega) only [us_ne]
theorem z_c52 {e : D9} {l w : Int} (h : w32 (e 174 13) ≠ 0) : m_X12_storyLine_174_c52 l w e = rt 0 e := by
  unfold m_X12_storyLine_174_c52; rw [if_neg h]
theorem p_storyWhich {d e : D9} {l : Int} (h : OK d e) : m_X12_storyLine_174 l e = m_X12_storyLine_174_c27 l (if d 51 7 = 2 ∧ d 51 8 = 23 then 0 else if d 51 7 = 2 ∧ d 51 8 = 24 then 1 else -1) e := by
  unfold m_X12_storyLine_174
  rw [is_22 h, cl_rt, is_23 h, cl_rt]
  simp only [w32_bi]
  by_cases c0 : d 51 7 = 2 ∧ d 51 8 = 23
  · rw [dec_t c0, bi_t, if_neg ne10, if_pos c0]
  · rw [dec_f c0, bi_f, if_pos rfl, if_neg c0]
    by_cases c1 : d 51 7 = 2 ∧ d 51 8 = 24
    · rw [dec_t c1, bi_t, if_neg ne10, if_pos c1]
    · rw [dec_f c1, bi_f, if_pos rfl, if_neg c1]
theorem r_storyLoop : ∀ (m f f' : Nat) (l : Int) (d e : D9), m < f → m < f' → l + m = 13 → 0 ≤ l → LV d e → (l = 13 → BD d e) → (OK d e → SYR d e l ∧ d 41 0 = l) → ∃ d1 e1 k, fix9 (fun _ _ => none) (fun k => b_X7_readFrom_41_51_c7 k) f l d = rt 0 d1 ∧ fix9 (fun _ _ => none) (fun k => b_X12_stories_174_c32 k) f' l e = m_X12_stories_174_c57 k e1 ∧ HC d d1 ∧ HM e e1 ∧ LV d1 e1 ∧ (OK d1 e1 → (0 ≤ k ∧ k ≤ 12) ∧ d1 41 0 = k ∧ SYR d1 e1 k)
  | m, f + 1, f' + 1, l, d, e, hf, hf', hm, h0, h, h13, sr => by
    rw [fx1, fx1, b_X7_readFrom_41_51_c7, b_X12_stories_174_c32]
    rcases h with h | h
    · have t := h.t
      obtain ⟨sr, h41⟩ := sr h
      have l12 : l ≤ 12 := by
        by_cases c : l = 13
        · have q := h13 c
          have := q.1
          have := q.2.1
          have := h.2.1
          omega
        · omega
      obtain ⟨m, rfl⟩ : ∃ m', m = m' + 1 := ⟨m - 1, by omega⟩
      rw [wi (x := 12) (by omega), wi (x := l) (by omega), if_neg (by omega), q_goesOn h, cl_rt, w32_bi, h.2.2, if_neg (show ¬ w32 0 ≠ 0 by decide), wi (x := e 174 11) (by omega)]
      by_cases c : d 51 7 = 1
      · rw [dec_f (fun g => g c), bi_f, if_pos rfl, if_pos (by omega)]
        exact ⟨d, e, l, rfl, rfl, HC.rf d, HM.rf e, Or.inl h, fun _ => ⟨by omega, h41, sr⟩⟩
      · rw [dec_t c, bi_t, if_neg ne10, if_neg (by omega), p_storyWhich h]
        have fw := q_firstWord (a := 23) (b := 24) h (by omega) (by omega) (show 0 ≤ l ∧ l ≤ 12 by omega)
        have hbad : ∀ d1 e1, FT d d1 → FM e e1 → BD d1 e1 → ∃ d2 e2 k, fix9 (fun _ _ => none) (fun k => b_X7_readFrom_41_51_c7 k) f (l + 1) d1 = rt 0 d2 ∧ fix9 (fun _ _ => none) (fun k => b_X12_stories_174_c32 k) f' (l + 1) e1 = m_X12_stories_174_c57 k e2 ∧ HC d d2 ∧ HM e e2 ∧ LV d2 e2 ∧ (OK d2 e2 → (0 ≤ k ∧ k ≤ 12) ∧ d2 41 0 = k ∧ SYR d2 e2 k) := fun d1 e1 x y z => by
          obtain ⟨d2, e2, k, b1, b2, b3, b4, b5, b6⟩ := r_storyLoop m f f' (l + 1) d1 e1 (by omega) (by omega) (by omega) (by omega) (Or.inr z) (fun _ => z) (fun g => by have := g.2.1; have := z.1; have := z.2.1; omega)
          exact ⟨d2, e2, k, b1, b2, x.hc.tr b3, y.hm.tr b4, b5, b6⟩
        by_cases cf : fits9 d 23 24
        · have cf' := cf
          obtain ⟨c1, c2, c3⟩ := cf'
          have hS : (if d 51 7 = 2 ∧ d 51 8 = 23 then 0 else if d 51 7 = 2 ∧ d 51 8 = 24 then 1 else -1) = d 51 8 - 23 := by
            by_cases q : d 51 8 = 23
            · rw [if_pos ⟨c1, q⟩]; omega
            · rw [if_neg (fun g => q g.2), if_pos ⟨c1, by omega⟩]; omega
          rw [fw.1 cf, hS]
          by_cases cl12 : l < 12
          · obtain ⟨d1, e1, a1, a2, a3, a4⟩ := r_adv h (by omega)
            obtain ⟨d2, e2, b1, b2, b3, b4, b5, b6, b7, b8, b9⟩ := r_story (d := d1) (e := e1) (l := l) (w := d 51 8) (s := d 51 8 - 23) a3.2.2.1 (by omega) (by omega) (by omega)
            have lv3 : LV (up d2 41 0 (l + 1)) e2 := b5.uc (by omega)
            have sr3 : SYR (up d2 41 0 (l + 1)) e2 (l + 1) := fun i hi => by
              by_cases q : i = l.toNat
              · subst q
                exact S1_c b6 (by rw [up_o (by decide)]) (by rw [up_o (by decide)]) (by rw [up_o (by decide)]) (by rw [up_o (by decide)]) (fun _ _ _ => rfl)
              · obtain ⟨y1, y2, y3, y4⟩ := b7 i q
                refine S1_c (sr i (by omega)) ?_ ?_ ?_ ?_ (fun j u v => ?_)
                · rw [up_o (by decide), y1, a3.1.1 42 (by decide)]
                · rw [up_o (by decide), y2, a3.1.1 43 (by decide)]
                · rw [up_o (by decide), y3, a3.1.1 44 (by decide)]
                · rw [up_o (by decide), y4, a3.1.1 45 (by decide)]
                · rw [b9 j (by omega), a3.2.1.1 180 (by decide)]
            obtain ⟨d3, e3, k, g1, g2, g3, g4, g5, g6⟩ := r_storyLoop m f f' (l + 1) (up d2 41 0 (l + 1)) e2 (by omega) (by omega) (by omega) (by omega) lv3 (fun g => by omega) (fun _ => ⟨sr3, by rw [up_us, us_eq rfl]⟩)
            refine ⟨d3, e3, k, ?_, ?_, (a3.1.hc.tr (b3.u (by omega))).tr g3, (a3.2.1.hm.tr b4).tr g4, g5, g6⟩
            · rw [if_pos cl12, a1, cl_rt, cl_rt, wi (x := d 51 8) (by omega), wi (x := -1) (by omega), if_neg (by omega), if_neg (by omega), b1, cl_rt, pf_v]
              exact g1
            · unfold m_X12_storyLine_174_c27 m_X12_storyLine_174_c52
              rw [wi (x := d 51 8 - 23) (by omega), wi (x := -1) (by omega), if_pos (by omega), wi (x := l) (by omega), wi (x := 12) (by omega), if_pos (by omega), h.2.2, if_pos (show w32 0 = 0 from rfl), a2, cl_rt]
              by_cases q : d 51 8 - 23 = 0
              · rw [if_neg (fun g => g q)]
                rw [if_pos q] at b2
                rw [b2, cl_rt]
                exact g2
              · rw [if_pos q]
                rw [if_neg q] at b2
                rw [b2, cl_rt]
                exact g2
          · obtain ⟨d1, e1, a1, a2, a3, a4, a5⟩ := r_fail h (k := 4) (by omega) (by omega)
            rw [if_neg cl12, a1, cl_rt, cl_rt, if_pos (show w32 (-1) = w32 (-1) from rfl)]
            unfold m_X12_storyLine_174_c27
            rw [wi (x := d 51 8 - 23) (by omega), wi (x := -1) (by omega), if_pos (by omega), wi (x := l) (by omega), wi (x := 12) (by omega), if_neg (by omega), a2, cl_rt, z_c52 a5.m, cl_rt]
            exact hbad d1 e1 a3 a4 a5
        · obtain ⟨d1, e1, a1, a2, a3, a4, a5⟩ := r_refuse h
          have nf : ∀ k : Int, 23 ≤ k ∧ k ≤ 24 → ¬ (d 51 7 = 2 ∧ d 51 8 = k) := fun k hk g => cf ⟨g.1, by omega, by omega⟩
          rw [fw.2 cf, a1, cl_rt, cl_rt, if_pos (show w32 (-1) = w32 (-1) from rfl), if_neg (nf 23 (by omega)), if_neg (nf 24 (by omega))]
          unfold m_X12_storyLine_174_c27
          rw [if_neg (by decide), a2, cl_rt, z_c52 a5.m, cl_rt]
          exact hbad d1 e1 a3 a4 a5
    · rw [z_goesOn h.c, cl_rt, if_pos (show w32 0 = 0 from rfl), ite_self, if_pos h.m]
      exact ⟨d, e, l, rfl, rfl, HC.rf d, HM.rf e, Or.inr h, fun g => by have := g.2.1; have := h.1; have := h.2.1; omega⟩
  | _, 0, _, _, _, _, hf, _, _, _, _, _, _ => absurd hf (Nat.not_lt_zero _)
  | _, _, 0, _, _, _, _, hf, _, _, _, _, _ => absurd hf (Nat.not_lt_zero _)

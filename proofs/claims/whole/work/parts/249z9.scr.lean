theorem up_o2 {d : D9} {k j k' j' : Nat} {v : Int} (h : k' ≠ k) : up d k j v k' j' = d k' j' := by rw [up_o h]
theorem r_rule {d e : D9} {l : Int} (o : OK d e) (hl : 0 ≤ l ∧ l < 12) (si : SI d e l) : ∃ d1 e1, m_X4_readRule_46_51 l d = rt 0 d1 ∧ rTail e = rt 0 e1 ∧ HC d d1 ∧ HM e e1 ∧ LV d1 e1 ∧ (OK d1 e1 → SI (up d1 46 0 (l + 1)) e1 (l + 1)) := by
  obtain ⟨s1, s2, s3, s4, s5⟩ := si
  have os := o.s
  have wa := q_wordAmong (a := 10) (b := 12) o (by omega) (by omega)
  rw [p_rTail o]
  unfold m_X4_readRule_46_51
  by_cases c : fits9 d 10 12
  · have c' := c
    obtain ⟨c1, c2, c3⟩ := c'
    obtain ⟨d1, e1, a1, a2, a3, a4⟩ := r_adv o (by omega)
    have q := (a3.2.2.2 a4.2.1).2
    have e46 : d1 46 = d 46 := a3.1.1 46 (by decide)
    have e18 : e1 174 18 = e 174 18 := a3.2.1.2 18 (by omega)
    have e19 : e1 174 19 = e 174 19 := a3.2.1.2 19 (by omega)
    have e81 : e1 181 = e 181 := a3.2.1.1 181 (by decide)
    have hlies : (if d 51 7 = 2 ∧ d 51 8 = 10 then 0 else if d 51 7 = 2 ∧ d 51 8 = 11 then 1 else if d 51 7 = 2 ∧ d 51 8 = 12 then 2 else -1) = d 51 8 - 10 := by
      rcases (by omega : d 51 8 = 10 ∨ d 51 8 = 11 ∨ d 51 8 = 12) with g | g | g
      · rw [if_pos ⟨c1, g⟩]; omega
      · rw [if_neg (by omega), if_pos ⟨c1, g⟩]; omega
      · rw [if_neg (by omega), if_neg (by omega), if_pos ⟨c1, g⟩]; omega
    generalize hL : d 51 8 - 10 = L at hlies
    generalize hT : e 174 18 = T at s2 e18
    generalize hU : d 46 1 = U at s1 s2
    have h46 : d1 46 1 = U := by rw [e46]; exact hU
    -- class and model before 'if'
    generalize hD : up (up d1 47 l.toNat L) 48 l.toNat U = D
    generalize hE : up (up (up (up e1 181 T.toNat L) 174 18 (T + 1)) 181 (T + 1).toNat 0) 174 18 (T + 1 + 1) = E
    have D46 : D 46 = d 46 := by rw [← hD, up_o (by decide), up_o (by decide), e46]
    have D47 : D 47 = us (d 47) l.toNat L := by rw [← hD, up_o (by decide), up_us, a3.1.1 47 (by decide)]
    have D48 : D 48 = us (d 48) l.toNat U := by rw [← hD, up_us, up_o (by decide), a3.1.1 48 (by decide)]
    have D49 : D 49 = d 49 := by rw [← hD, up_o (by decide), up_o (by decide), a3.1.1 49 (by decide)]
    have D50 : D 50 = d 50 := by rw [← hD, up_o (by decide), up_o (by decide), a3.1.1 50 (by decide)]
    have D51 : D 51 = d1 51 := by rw [← hD, up_o (by decide), up_o (by decide)]
    have E18 : E 174 18 = T + 2 := by rw [← hE, up_us, us_eq rfl]; omega
    have E19 : E 174 19 = 0 := by rw [← hE, up_us, us_ne (by decide), up_o (by decide), up_us, us_ne (by decide), up_o (by decide), e19]; exact s3
    have E81 : E 181 = us (us (e 181) T.toNat L) (T + 1).toNat 0 := by rw [← hE, up_o (by decide), up_us, up_o (by decide), up_us, e81]
    have ED : ∀ j, j < 18 → E 174 j = e1 174 j := fun j a => by rw [← hE, up_us, us_ne (by omega), up_o (by decide), up_us, us_ne (by omega), up_o (by decide)]
    have oDE : OK D E := OK_c a4 D51 (by rw [← hD, up_o (by decide), up_o (by decide)]) ED (by rw [← hE, up_o (by decide), up_o (by decide), up_o (by decide), up_o (by decide)])
    have hcD : HC d D := by rw [← hD]; exact (a3.1.hc.u (by omega)).u (by omega)
    have hmE : HM e E := by rw [← hE]; exact (((a3.2.1.hm.u (by omega)).u2 (Or.inl rfl)).u (by omega)).u2 (Or.inl rfl)
    obtain ⟨d2, e2, b1, b2, b3, b4, b5, b6, b7⟩ := r_rest (l := l) (T := T) (U := U) oDE hl (by rw [D46]; exact hU) E18 (by rw [D51]; omega) s2 E19
    refine ⟨d2, e2, ?_, ?_, hcD.tr b3, hmE.tr b4, b5, fun oo => ?_⟩
    · rw [wa.1 c, a1, cl_rt, cl_rt, sd_in (by omega), sd_in (by omega), hL, up_o2 (by decide), h46, hD]
      exact b1
    · rw [hlies]
      unfold m_X12_readRule_174_c89 m_X12_readRule_174_c100
      rw [wi (x := L) (by omega), wi (x := -1) (by omega), if_pos (by omega), o.2.2, if_pos (show w32 0 = 0 from rfl), a2, cl_rt, p_puts a4.2.2 (by omega), cl_rt, lt_v, e18, show up (up e1 181 T.toNat L) 174 18 (T + 1) 174 18 = T + 1 from up_same _ _ _ _, p_puts (by rw [up_us, us_ne (by decide), up_o (by decide)]; exact a4.2.2) (by rw [up_us, us_eq rfl]; omega), cl_rt, show up (up e1 181 T.toNat L) 174 18 (T + 1) 174 18 = T + 1 from up_same _ _ _ _, hE]
      exact b2
    · obtain ⟨g1, g2, ⟨g3a, g3b, g3c⟩, g4, g5, g6, g7, g8, g9, g10, g11, g12⟩ := b7 oo
      rw [D47, us_eq rfl] at g3a
      rw [D48, us_eq rfl] at g3b
      have z46 : up d2 46 0 (l + 1) 46 1 = d2 46 1 := by rw [up_us, us_ne (by decide)]
      have zk : ∀ k, k ≠ 46 → up d2 46 0 (l + 1) k = d2 k := fun k a => up_o a
      have u0 : ∀ j : Nat, 1 ≤ j → (j : Int) < T → e2 181 j = e 181 j := fun j u v => by rw [g8 j u (by omega), E81, us_ne (by omega), us_ne (by omega)]
      have uT : e2 181 T.toNat = L := by rw [g8 _ (by omega) (by omega), E81, us_ne (by omega), us_eq rfl]
      have rr : RUR d e l := s5
      have rql : rq (e 181) l.toNat = T := by rw [rr.1, hT]
      have old : ∀ r : Nat, (r : Int) < l → RUL (up d2 46 0 (l + 1)) e2 r ∧ rq (e2 181) (r + 1) = rq (e 181) (r + 1) := fun r hr => RUL_c rr (by rw [hT]; exact u0) (by rw [hT, g5]; omega) (fun r hr => by
        obtain ⟨y1, y2, y3⟩ := g2 r hr
        rw [zk 47 (by decide), zk 48 (by decide), zk 49 (by decide), y1, y2, y3, D47, D48, D49, us_ne (by omega), us_ne (by omega)]
        exact ⟨rfl, rfl, rfl⟩) (by rw [z46, hU]; exact g4.1) (fun j hj => by rw [zk 50 (by decide), g10 j (by omega), D50]) hr
      have rqn : rq (e2 181) l.toNat = T := by
        rw [rq_c (T := T) u0 l.toNat (fun q hq => by have := (rr.2 q (by omega)).1; rw [hT] at this; exact this), rql]
      have rqn1 : rq (e2 181) (l.toNat + 1) = T + 2 + (d2 46 1 - U) := by rw [rq_s, rqn, g9]
      refine ⟨by rw [z46, zk 51 (by decide)]; omega, by rw [z46, g5]; omega, g6, ?_, ?_, fun r hr => ?_⟩
      · rw [g7, E81, us_ne (by omega), us_ne (by omega), s4]
      · rw [show (l + 1).toNat = l.toNat + 1 by omega, rqn1, g5]
      · by_cases cr : (r : Int) < l
        · exact (old r cr).1
        · obtain rfl : r = l.toNat := by omega
          unfold RUL
          rw [rqn1, rqn, g9, uT, z46, zk 47 (by decide), zk 48 (by decide), zk 49 (by decide), zk 50 (by decide), g3a, g3b, g3c]
          exact ⟨⟨by omega, by omega, by omega⟩, by omega, g11, ⟨rfl, by omega, by omega, by omega⟩, g12⟩
  · obtain ⟨d1, e1, a1, a2, a3, a4, a5⟩ := r_refuse o
    have nf : ∀ k : Int, 10 ≤ k ∧ k ≤ 12 → ¬ (d 51 7 = 2 ∧ d 51 8 = k) := fun k hk g => c ⟨g.1, by omega, by omega⟩
    rw [wa.2 c, a1, cl_rt, cl_rt, sd_in (by omega), sd_in (by omega), if_neg (nf 10 (by omega)), if_neg (nf 11 (by omega)), if_neg (nf 12 (by omega))]
    have bc : w32 (up (up d1 47 l.toNat (-1 - 10)) 48 l.toNat (up d1 47 l.toNat (-1 - 10) 46 1) 51 2) ≠ 0 := by rw [up_o (by decide), up_o (by decide)]; exact a5.c
    rw [z_takeWord bc, cl_rt, if_pos (show w32 0 = 0 from rfl)]
    unfold m_X4_readRule_46_51_c42
    rw [sd_in (by omega), z_needSign (by rw [up_o (by decide)]; exact bc), cl_rt]
    unfold m_X12_readRule_174_c89 m_X12_readRule_174_c100
    rw [if_neg (by decide), a2, cl_rt, if_neg a5.m]
    refine ⟨_, e1, rfl, rfl, ((a3.hc.u (by omega)).u (by omega)).u (by omega), a4.hm, Or.inr (BD_c a5 (by rw [up_o (by decide), up_o (by decide), up_o (by decide)]) (fun _ _ => rfl)), fun oo => ?_⟩
    have := oo.2.1
    rw [up_o (by decide), up_o (by decide), up_o (by decide)] at this
    have := a5.1; have := a5.2.1; omega
theorem z_c34 {e : D9} (h : w32 (e 174 13) ≠ 0) : m_X12_readRule_174_c34 e = rt 0 e := by
  unfold m_X12_readRule_174_c34; rw [if_neg h]
theorem p_c34 {e e1 : D9} (h : e 174 13 = 0) (a : m_X12_next_174 e = rt 0 e1) : m_X12_readRule_174_c34 e = rTail e1 := by
  unfold m_X12_readRule_174_c34; rw [h, if_pos (show w32 0 = 0 from rfl), a, cl_rt]; rfl
theorem r_scrLoop : ∀ (m f f' : Nat) (l : Int) (d e : D9), m < f → m < f' → l + m = 13 → 0 ≤ l → LV d e → (l = 13 → BD d e) → (OK d e → SI d e l ∧ d 46 0 = l) → ∃ d1 e1, fix9 (fun _ _ => none) (fun k => b_X4_readFrom_46_51_c12 k) f l d = rt 0 d1 ∧ fix9 (fun _ => none) (fun k => b_X12_scrapers_174_c47 k) f' e = m_X12_scrapers_174_c68 e1 ∧ HC d d1 ∧ HM e e1 ∧ LV d1 e1 ∧ (OK d1 e1 → ∃ k : Int, (0 ≤ k ∧ k ≤ 12) ∧ d1 46 0 = k ∧ SI d1 e1 k)
  | m, f + 1, f' + 1, l, d, e, hf, hf', hm, h0, h, h13, sr => by
    rw [fx1, fx0, b_X4_readFrom_46_51_c12, b_X12_scrapers_174_c47]
    rcases h with h | h
    · have t := h.t
      obtain ⟨si, h46⟩ := sr h
      have l12 : l ≤ 12 := by
        by_cases c : l = 13
        · have q := h13 c
          have := q.1
          have := q.2.1
          have := h.2.1
          omega
        · omega
      obtain ⟨m, rfl⟩ : ∃ m', m = m' + 1 := ⟨m - 1, by omega⟩
      rw [wi (x := 12) (by omega), wi (x := l) (by omega), if_neg (by omega), q_goesOn h, cl_rt, w32_bi, h.2.2, if_neg (show ¬ w32 0 ≠ 0 by decide), wi (x := e 174 11) (by omega)]
      by_cases c : d 51 7 = 1
      · rw [dec_f (fun g => g c), bi_f, if_pos rfl, if_pos (by omega)]
        exact ⟨d, e, rfl, rfl, HC.rf d, HM.rf e, Or.inl h, fun _ => ⟨l, by omega, h46, si⟩⟩
      · rw [dec_t c, bi_t, if_neg ne10, if_neg (by omega)]
        have fw := q_firstWord (a := 8) (b := 8) h (by omega) (by omega) (show 0 ≤ l ∧ l ≤ 12 by omega)
        have hbad : ∀ d1 e1, FT d d1 → FM e e1 → BD d1 e1 → ∃ d2 e2, fix9 (fun _ _ => none) (fun k => b_X4_readFrom_46_51_c12 k) f (l + 1) d1 = rt 0 d2 ∧ fix9 (fun _ => none) (fun k => b_X12_scrapers_174_c47 k) f' e1 = m_X12_scrapers_174_c68 e2 ∧ HC d d2 ∧ HM e e2 ∧ LV d2 e2 ∧ (OK d2 e2 → ∃ k : Int, (0 ≤ k ∧ k ≤ 12) ∧ d2 46 0 = k ∧ SI d2 e2 k) := fun d1 e1 x y z => by
          obtain ⟨d2, e2, b1, b2, b3, b4, b5, b6⟩ := r_scrLoop m f f' (l + 1) d1 e1 (by omega) (by omega) (by omega) (by omega) (Or.inr z) (fun _ => z) (fun g => by have := g.2.1; have := z.1; have := z.2.1; omega)
          exact ⟨d2, e2, b1, b2, x.hc.tr b3, y.hm.tr b4, b5, b6⟩
        unfold m_X12_readRule_174
        rw [is_25 h, cl_rt, w32_bi]
        by_cases cf : fits9 d 8 8
        · have cf' := cf
          obtain ⟨c1, c2, c3⟩ := cf'
          have c8 : d 51 7 = 2 ∧ d 51 8 = 8 := ⟨c1, by omega⟩
          rw [fw.1 cf, dec_t c8, bi_t, if_pos ne10, ld_in (by omega), Int.toNat_zero, si.2.2.2.1, wi (x := l) (by omega), wi (x := 12) (by omega)]
          by_cases cl12 : l < 12
          · obtain ⟨d1, e1, a1, a2, a3, a4⟩ := r_adv h (by omega)
            obtain ⟨d2, e2, b1, b2, b3, b4, b5, b6⟩ := r_rule a4 (by omega) (si.nx a3 (by omega) a4.2.1)
            have lv3 : LV (up d2 46 0 (l + 1)) e2 := b5.uc (by omega)
            obtain ⟨d3, e3, g1, g2, g3, g4, g5, g6⟩ := r_scrLoop m f f' (l + 1) (up d2 46 0 (l + 1)) e2 (by omega) (by omega) (by omega) (by omega) lv3 (fun g => by omega) (fun oo => ⟨b6 (OK_c oo (by rw [up_o (by decide)]) (by rw [up_o (by decide)]) (fun _ _ => rfl) rfl), by rw [up_us, us_eq rfl]⟩)
            refine ⟨d3, e3, ?_, ?_, (a3.1.hc.tr (b3.u (by omega))).tr g3, (a3.2.1.hm.tr b4).tr g4, g5, g6⟩
            · rw [if_pos cl12, a1, cl_rt, cl_rt, c8.2, if_neg (by decide), if_neg (by omega), b1, cl_rt, pf_v]
              exact g1
            · rw [if_pos (by omega), p_c34 h.2.2 a2, b2, cl_rt]
              exact g2
          · obtain ⟨d1, e1, a1, a2, a3, a4, a5⟩ := r_fail h (k := 4) (by omega) (by omega)
            rw [if_neg cl12, a1, cl_rt, cl_rt, if_pos (show w32 (-1) = w32 (-1) from rfl), if_neg (by omega), a2, cl_rt, z_c34 a5.m, cl_rt]
            exact hbad d1 e1 a3 a4 a5
        · obtain ⟨d1, e1, a1, a2, a3, a4, a5⟩ := r_refuse h
          rw [fw.2 cf, a1, cl_rt, cl_rt, if_pos (show w32 (-1) = w32 (-1) from rfl), dec_f (fun g => cf ⟨g.1, by omega, by omega⟩), bi_f, if_neg (by omega), a2, cl_rt, z_c34 a5.m, cl_rt]
          exact hbad d1 e1 a3 a4 a5
    · rw [z_goesOn h.c, cl_rt, if_pos (show w32 0 = 0 from rfl), ite_self, if_pos h.m]
      exact ⟨d, e, rfl, rfl, HC.rf d, HM.rf e, Or.inr h, fun g => by have := g.2.1; have := h.1; have := h.2.1; omega⟩
  | _, 0, _, _, _, _, hf, _, _, _, _, _, _ => absurd hf (Nat.not_lt_zero _)
  | _, _, 0, _, _, _, _, hf, _, _, _, _, _ => absurd hf (Nat.not_lt_zero _)

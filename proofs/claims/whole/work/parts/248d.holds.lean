/-! whether a rule's test holds -/
def rsg (t : Nat → Int) (r : Nat) (i : Int) : Int := t (rp t r + 2 + i).toNat
def rN (t : Nat → Int) (r : Nat) : Int := t (rp t r + 1).toNat
noncomputable def hlr (t : Nat → Int) (U : Int → Bool) (r : Nat) (s : Int) : Bool := hol (fct t U s) (rsg t r) (rN t r)
theorem rp_lo {t : Nat → Int} (k : T7r t) : ∀ r : Nat, (r : Int) ≤ t 1144 → 1145 ≤ rp t r
  | 0, _ => by simp [rp]
  | r + 1, h => by
    have ih := rp_lo k r (by omega)
    have := (k.2 r (by omega)).2.2.1
    simp only [rp]; omega
theorem hol_end {fc : Int → Bool} {sg : Int → Int} {N : Int} (h : PG7 sg N) (hN : 0 < N) : ∃ b, stk fc sg N.toNat = [b] ∧ hol fc sg N = b := by
  have l := stk_len (fc := fc) h N.toNat (by omega)
  rw [h.2 hN] at l
  unfold hol
  rw [dec_f (by omega), Bool.false_or]
  generalize stk fc sg N.toNat = st at l ⊢
  match st, l with
  | [], l => simp at l
  | [b], _ => exact ⟨b, rfl, rfl⟩
  | _ :: _ :: _, l => simp at l; omega
theorem st7 (fc : Int → Bool) (b : Bool) (u : List Bool) : stS fc 7 (b :: u) = (!b) :: u := rfl
theorem st8 (fc : Int → Bool) (b a : Bool) (u : List Bool) : stS fc 8 (b :: a :: u) = (a && b) :: u := rfl
theorem stq9 (fc : Int → Bool) (b a : Bool) (u : List Bool) : stS fc 9 (b :: a :: u) = (a || b) :: u := rfl
theorem enc_c (b : Bool) (u : List Bool) : enc (b :: u) = 2 * enc u + bi b := rfl
theorem enc_and {b : Bool} {u : List Bool} (h : enc (b :: u) < 2097152) : and9 (enc (b :: u)) 1 = bi b := by
  have r := enc_rng (b :: u)
  have hb := bi_rng b
  rw [and1 (by omega), enc_c]; omega
theorem enc_shr {b : Bool} {u : List Bool} (h : enc (b :: u) < 2097152) : shr9 (enc (b :: u)) 1 = enc u := by
  have r := enc_rng (b :: u)
  have hb := bi_rng b
  rw [shr1 (by omega), enc_c]; omega
theorem enc_xor {b : Bool} {u : List Bool} (h : enc (b :: u) < 2097152) : xor9 (enc (b :: u)) 1 = enc ((!b) :: u) := by
  have r := enc_rng u
  have hb := bi_rng b
  rw [enc_c] at h ⊢
  rw [xor1 (by omega), enc_c]
theorem enc_am {b : Bool} {u : List Bool} (h : enc (b :: u) < 2097152) : and9 (enc (b :: u)) (-2) = enc (false :: u) := by
  have r := enc_rng u
  have hb := bi_rng b
  rw [enc_c] at h ⊢
  rw [andm2 (by omega), enc_c, bi_f, Int.add_zero]
theorem enc_or {b c : Bool} {u : List Bool} (h : enc (b :: u) < 2097152) : or9 (enc (b :: u)) (bi c) = enc ((b || c) :: u) := by
  have r := enc_rng u
  have hb := bi_rng b
  rw [enc_c] at h ⊢
  rw [or_t (by omega), enc_c]
theorem tdivp {x : Int} (h : 0 ≤ x) : x.tdiv 1000 = x / 1000 := tdiv_pos h
theorem q_holds_l {s : Int} {d : D9} {t : Nat → Int} {U : Int → Bool} (k : TK t) (w : RW d t) (R : SR d t U) (hs : 0 ≤ s ∧ s < t 1) (r : Nat) (hr : (r : Int) < t 1144) : ∀ (m f : Nat) (i : Nat), m < f → (i : Int) + m = rN t r → fix9 (fun _ _ _ _ _ => none) (fun k => b_X5_holds_58_1_c18 k) f r s (enc (stk (fct t U s) (rsg t r) i)) (d 30 r + i) d = rt (bi (hlr t U r s)) d
  | 0, f + 1, i, _, he => by
    obtain ⟨y0, yr⟩ := TKr k
    obtain ⟨a1, a2, a3, a4, a5⟩ := yr r hr
    obtain ⟨b0, b1, b2, b3, b4⟩ := (RWr w).2 r hr
    have eN : rN t r = t (rp t r + 1).toNat := rfl
    rw [fx4, b_X5_holds_58_1_c18, ld_in (by omega), Int.toNat_natCast, b1, if_pos (by rw [show d 30 r + t (rp t r + 1).toNat = d 30 r + (i : Int) by omega]; exact Int.le_refl _)]
    by_cases z : rN t r = 0
    · have ei : i = 0 := by omega
      subst ei
      have eh : hlr t U r s = true := by unfold hlr hol; rw [dec_t z, Bool.true_or]
      have e1 : and9 (enc (stk (fct t U s) (rsg t r) 0)) 1 = 1 := by
        show and9 1 1 = 1
        decide
      rw [eh, e1, if_neg (by simp)]; rfl
    · obtain ⟨b, c1, c2⟩ := hol_end (fc := fct t U s) a5 (by omega)
      have ei : i = (rN t r).toNat := by omega
      subst ei
      have eh : hlr t U r s = b := c2
      have ec : stk (fct t U s) (rsg t r) (rN t r).toNat = [b] := c1
      rw [ec, eh, enc_and (by cases b <;> decide), w32_bi, t1_0]
      cases b <;> rfl
  | m + 1, f + 1, i, hf, he => by
    obtain ⟨y0, yr⟩ := TKr k
    obtain ⟨a1, a2, a3, a4, a5⟩ := yr r hr
    obtain ⟨b0, b1, b2, b3, b4⟩ := (RWr w).2 r hr
    have eN : rN t r = t (rp t r + 1).toNat := rfl
    obtain ⟨s7, sn, sb, s0, s19⟩ := a5.1 i (by omega) (by omega)
    rw [Int.toNat_natCast] at sn sb s0 s19
    have hl := stk_len (fc := fct t U s) a5 i (by omega)
    have es : d 32 (d 30 r + (i : Int)).toNat = stp (rsg t r i) := b4 i (by omega) (by omega)
    have sr := stp_rng (x := rsg t r i) s7
    have ih := q_holds_l k w R hs r hr m f (i + 1) (by omega) (by omega)
    rw [show ((i + 1 : Nat) : Int) = (i : Int) + 1 by omega, ← Int.add_assoc] at ih
    have ek : stk (fct t U s) (rsg t r) (i + 1) = stS (fct t U s) (rsg t r i) (stk (fct t U s) (rsg t r) i) := rfl
    rw [ek] at ih
    rw [fx4, b_X5_holds_58_1_c18, ld_in (by omega), Int.toNat_natCast, b1, w32_id (by omega), w32_id (by omega), if_neg (by omega), ld_in (by omega), es, lt_v, lt_v, div9_in (by omega), tdivp (by omega), ld_in (by omega), es, rem9_in (by omega), Int.tmod_eq_emod_of_nonneg (by omega)]
    have hl' : ((stk (fct t U s) (rsg t r) i).length : Int) = hg (rsg t r) i := hl
    have hsg : (fun i => t (rp t r + 2 + i).toNat) (i : Int) = rsg t r i := rfl
    have hhg : hg (fun i => t (rp t r + 2 + i).toNat) i = hg (rsg t r) i := rfl
    rw [hhg] at sn sb s0 s19
    rw [hsg] at s7 sn sb
    have ebd := enc_bd (st := stk (fct t U s) (rsg t r) i) (by omega)
    generalize hst : stk (fct t U s) (rsg t r) i = st at ih hl' ebd ⊢
    generalize hx : rsg t r (i : Int) = x at ih s7 sn sb sr ⊢
    by_cases x7 : x = 7
    · subst x7
      rw [show stp 7 / 1000 = 15 by decide, if_neg (by decide), lt_v]
      match st, hl', ebd with
      | [], hl', _ => simp at hl'; have := sn rfl; omega
      | b :: u, hl', ebd =>
        rw [enc_xor ebd.2]
        rw [st7] at ih
        exact ih
    · by_cases x8 : x = 8
      · subst x8
        rw [show stp 8 / 1000 = 14 by decide, if_pos (by decide), if_neg (by decide)]
        match st, hl', ebd with
        | [], hl', _ => simp at hl'; have := sb (Or.inl rfl); omega
        | [b], hl', _ => simp at hl'; have := sb (Or.inl rfl); omega
        | b :: a :: u, hl', ebd =>
          have eu := enc_rng (a :: u)
          have hb := bi_rng b
          have e5 : enc (a :: u) < 2097152 := by rw [enc_c] at ebd; omega
          rw [enc_and ebd.2, enc_shr ebd.2, w32_bi, t1_0, lt_v, lt_v, enc_am e5]
          rw [st8] at ih
          cases b
          · rw [bi_f, if_pos (by omega)]
            rw [Bool.and_false] at ih
            exact ih
          · rw [bi_t, if_neg (by omega)]
            rw [Bool.and_true] at ih
            exact ih
      · by_cases x9 : x = 9
        · subst x9
          rw [show stp 9 / 1000 = 13 by decide, if_pos (by decide), if_pos (by decide), if_neg (by decide)]
          match st, hl', ebd with
          | [], hl', _ => simp at hl'; have := sb (Or.inr rfl); omega
          | [b], hl', _ => simp at hl'; have := sb (Or.inr rfl); omega
          | b :: a :: u, hl', ebd =>
            have eu := enc_rng (a :: u)
            have hb := bi_rng b
            have e5 : enc (a :: u) < 2097152 := by rw [enc_c] at ebd; omega
            rw [enc_and ebd.2, enc_shr ebd.2, lt_v, enc_or e5]
            rw [stq9] at ih
            exact ih
        · have eS : stS (fct t U s) x st = fct t U s x :: st := by unfold stS; rw [if_neg x7, if_neg x8, if_neg x9]
          rw [eS] at ih
          simp only [enc] at ih
          have hw : stp x / 1000 ≠ 15 ∧ stp x / 1000 ≠ 14 ∧ stp x / 1000 ≠ 13 := by
            rcases sgn_c s7 x7 x8 x9 with c | c | c
            · rcases c with rfl | rfl | rfl | rfl | rfl | rfl <;> decide
            · rw [stp_100 c]; omega
            · rw [stp_300 c]; omega
          rw [w32_id (by omega), w32_id (by omega), if_pos hw.1, w32_id (by omega), if_pos hw.2.1, w32_id (by omega), if_pos hw.2.2, q_fact k w R hs s7 x7 x8 x9, cl_rt, w32_bi, lt_v, lt_v]
          have sh : shl9 (enc st) 1 = 2 * enc st := by unfold shl9; rw [show sh9 1 = 1 from rfl]; omega
          have o0 := orb (v := 2 * enc st) (b := false) (by omega) (by omega)
          have o1 := orb (v := 2 * enc st) (b := true) (by omega) (by omega)
          rw [bi_f] at o0
          rw [bi_t] at o1
          rw [sh, o0, o1]
          cases hf : fct t U s x
          · rw [hf, bi_f] at ih
            rw [bi_f, if_pos rfl]; exact ih
          · rw [hf, bi_t] at ih
            rw [bi_t, if_neg ne10]; exact ih
  | _, 0, _, hf, _ => absurd hf (Nat.not_lt_zero _)
theorem q_holds {s : Int} {d : D9} {t : Nat → Int} {U : Int → Bool} (k : TK t) (w : RW d t) (R : SR d t U) (hs : 0 ≤ s ∧ s < t 1) (r : Nat) (hr : (r : Int) < t 1144) : m_X5_holds_58_1 r s d = rt (bi (hlr t U r s)) d := by
  obtain ⟨y0, yr⟩ := TKr k
  obtain ⟨a1, a2, a3, a4, a5⟩ := yr r hr
  obtain ⟨b0, b1, b2, b3, b4⟩ := (RWr w).2 r hr
  have eN : rN t r = t (rp t r + 1).toNat := rfl
  unfold m_X5_holds_58_1
  rw [ld_in (by omega), Int.toNat_natCast]
  have := q_holds_l k w R hs r hr (rN t r).toNat FU 0 (by unfold FU; omega) (by omega)
  rw [show d 30 r + ((0 : Nat) : Int) = d 30 r by omega] at this
  exact this
theorem p_so_l {s : Int} {t : Nat → Int} {U : Int → Bool} {d0 : D9} (L : LR d0 t) (hI : IN d0 U) (hs : 0 ≤ s ∧ s < t 1) (r : Nat) (hr : (r : Int) < t 1144) : ∀ (m f : Nat) (i : Nat) (d : D9), m < f → (i : Int) + m = rN t r → (∀ k, k ≠ 189 → d k = d0 k) → PI d (stk (fct t U s) (rsg t r) i) → ∃ d', fix9 (fun _ _ _ _ _ _ => none) (fun k => b_X12_isSo_174_c6 k) f (rp t r + 2) (rN t r) s (stk (fct t U s) (rsg t r) i).length (rp t r + 2 + i) d = rt (bi (hlr t U r s)) d' ∧ ∀ k, k ≠ 189 → d' k = d0 k
  | 0, f + 1, i, d, _, he, hF, hP => by
    have k := L.2.1
    obtain ⟨y0, yr⟩ := TKr k
    obtain ⟨a1, a2, a3, a4, a5⟩ := yr r hr
    refine ⟨d, ?_, hF⟩
    rw [fx5, b_X12_isSo_174_c6, if_pos (by rw [show rN t r = (i : Int) by omega]; exact Int.le_refl _)]
    have eN : rN t r = t (rp t r + 1).toNat := rfl
    have e4 : rp t (r + 1) = rp t r + 2 + t (rp t r + 1).toNat := rfl
    rw [w32_id (by omega)]
    by_cases z : rN t r = 0
    · have eh : hlr t U r s = true := by unfold hlr hol; rw [dec_t z, Bool.true_or]
      rw [if_pos z, eh]; rfl
    · obtain ⟨b, c1, c2⟩ := hol_end (fc := fct t U s) a5 (by omega)
      have ei : i = (rN t r).toNat := by omega
      subst ei
      have eh : hlr t U r s = b := c2
      have ec : stk (fct t U s) (rsg t r) (rN t r).toNat = [b] := c1
      rw [ec] at hP
      have hb : d 189 0 = bi b := hP.1
      rw [if_neg z, ld_in (by omega), Int.toNat_zero, hb, w32_bi, eh]
      cases b <;> rfl
  | m + 1, f + 1, i, d, hf, he, hF, hP => by
    have k := L.2.1
    have n1 := (TKn k).2.1
    obtain ⟨y0, yr⟩ := TKr k
    obtain ⟨a1, a2, a3, a4, a5⟩ := yr r hr
    have eN : rN t r = t (rp t r + 1).toNat := rfl
    have e4 : rp t (r + 1) = rp t r + 2 + t (rp t r + 1).toNat := rfl
    have e : d 175 = t := (hF 175 (by decide)).trans L.1
    have Ld : LR d t := LR_sm L (hF 175 (by decide)) (hF 182 (by decide))
    have Id : IN d U := fun s a b => by rw [hF 188 (by decide)]; exact hI s a b
    obtain ⟨s7, sn, sb, s0, s19⟩ := a5.1 i (by omega) (by omega)
    rw [Int.toNat_natCast] at sn sb s0 s19
    have hl := stk_len (fc := fct t U s) a5 i (by omega)
    have hl' : ((stk (fct t U s) (rsg t r) i).length : Int) = hg (rsg t r) i := hl
    have hsg : (fun i => t (rp t r + 2 + i).toNat) (i : Int) = rsg t r i := rfl
    have hhg : hg (fun i => t (rp t r + 2 + i).toNat) i = hg (rsg t r) i := rfl
    rw [hhg] at sn sb s0 s19
    rw [hsg] at s7 sn sb
    have ih := fun (d1 : D9) (h1 : ∀ k, k ≠ 189 → d1 k = d0 k) (h2 : PI d1 (stS (fct t U s) (rsg t r i) (stk (fct t U s) (rsg t r) i))) => p_so_l L hI hs r hr m f (i + 1) d1 (by omega) (by omega) h1 h2
    rw [show stk (fct t U s) (rsg t r) (i + 1) = stS (fct t U s) (rsg t r i) (stk (fct t U s) (rsg t r) i) from rfl, show ((i + 1 : Nat) : Int) = (i : Int) + 1 by omega, ← Int.add_assoc] at ih
    have er : d 175 (rp t r + 2 + (i : Int)).toNat = rsg t r i := by rw [e]; rfl
    have sr : 1 ≤ rsg t r i ∧ rsg t r i ≤ 305 := by unfold sgn7 at s7; omega
    rw [fx5, b_X12_isSo_174_c6, w32_id (by omega), w32_id (by omega), if_neg (by omega), ld_in (by omega), er, w32_id (by omega), w32_id (by omega), w32_id (by omega), w32_id (by omega)]
    generalize hst : stk (fct t U s) (rsg t r) i = st at ih hl' hP ⊢
    generalize hx : rsg t r (i : Int) = x at ih s7 sn sb sr ⊢
    have up189 : ∀ (j : Nat) (v : Int), ∀ k, k ≠ 189 → (up d 189 j v) k = d0 k := fun j v k hk => (up_k hk).trans (hF k hk)
    by_cases x7 : x = 7
    · subst x7
      rw [if_neg (by omega)]
      match st, hl', hP with
      | [], hl', _ => simp at hl'; have := sn rfl; omega
      | b :: u, hl', ⟨h1, h2⟩ =>
        simp only [List.length_cons] at hl' ⊢
        have e1 : ((u.length + 1 : Nat) : Int) - 1 = (u.length : Int) := by omega
        rw [e1, ld_in (by omega), Int.toNat_natCast, h1, w32_bi, sd_in (by omega), sd_in (by omega), Int.toNat_natCast]
        have z := ih (up d 189 u.length (bi (!b))) (up189 _ _) (by rw [st7]; exact ⟨up_same _ _ _ _, PI_up (Nat.le_refl _) h2⟩)
        rw [st7] at z
        simp only [List.length_cons] at z
        cases b
        · rw [bi_f, if_neg (by omega)]; exact z
        · rw [bi_t, if_pos ne10]; exact z
    · rw [if_pos x7]
      by_cases x89 : x = 8 ∨ x = 9
      · have c73 : ∃ d', m_X12_isSo_174_c73 (fix9 (fun _ _ _ _ _ _ => none) (fun k => b_X12_isSo_174_c6 k) f) (rp t r + 2) (rN t r) s st.length (rp t r + 2 + (i : Int)) x d = rt (bi (hlr t U r s)) d' ∧ ∀ k, k ≠ 189 → d' k = d0 k := by
          match st, hl', hP with
          | [], hl', _ => simp at hl'; have := sb x89; omega
          | [b], hl', _ => simp at hl'; have := sb x89; omega
          | b :: a :: u, hl', ⟨h1, h2, h3⟩ =>
            simp only [List.length_cons] at hl' h1 ⊢
            have e1 : ((u.length + 1 + 1 : Nat) : Int) + -1 - 1 = (u.length : Int) := by omega
            have e2 : ((u.length + 1 + 1 : Nat) : Int) + -1 = ((u.length + 1 : Nat) : Int) := by omega
            unfold m_X12_isSo_174_c73
            rw [e1, e2, w32_id (by omega), w32_id (by omega), ld_in (by omega), Int.toNat_natCast, h2, w32_bi, ld_in (by omega), Int.toNat_natCast, h1, w32_bi, sd_in (by omega), sd_in (by omega), Int.toNat_natCast]
            by_cases x8 : x = 8
            · subst x8
              have z := ih (up d 189 u.length (bi (a && b))) (up189 _ _) (by
                rw [st8]
                exact ⟨up_same _ _ _ _, PI_up (Nat.le_refl _) h3⟩)
              rw [st8] at z
              simp only [List.length_cons] at z
              rw [if_neg (by omega), ld_in (by omega), Int.toNat_natCast, h2, w32_bi]
              cases a
              · rw [Bool.false_and, bi_f] at z
                rw [bi_f, if_pos rfl]; exact z
              · rw [Bool.true_and] at z
                rw [bi_t, if_neg ne10]
                cases b
                · rw [bi_f] at z
                  rw [bi_f, if_pos rfl]; exact z
                · rw [bi_t] at z
                  rw [bi_t, if_neg ne10]; exact z
            · have x9 : x = 9 := by omega
              subst x9
              have z := ih (up d 189 u.length (bi (a || b))) (up189 _ _) (by
                rw [stq9]
                exact ⟨up_same _ _ _ _, PI_up (Nat.le_refl _) h3⟩)
              rw [stq9] at z
              simp only [List.length_cons] at z
              rw [if_pos (by omega)]
              cases a
              · rw [Bool.false_or] at z
                rw [bi_f, if_neg (show ¬ (0 : Int) ≠ 0 by omega)]
                cases b
                · rw [bi_f] at z
                  rw [bi_f, if_pos rfl]; exact z
                · rw [bi_t] at z
                  rw [bi_t, if_neg ne10]; exact z
              · rw [Bool.true_or, bi_t] at z
                rw [bi_t, if_pos ne10]; exact z
        by_cases x8 : x = 8
        · rw [if_pos x8]; exact c73
        · rw [if_neg x8, if_neg (by omega)]; exact c73
      · rw [if_neg (by omega), if_pos (by omega), p_fact Ld Id hs s7 x7 (by omega) (by omega), cl_rt, sd_in (by omega), Int.toNat_natCast, bi_m]
        have eS : stS (fct t U s) x st = fct t U s x :: st := by unfold stS; rw [if_neg x7, if_neg (by omega), if_neg (by omega)]
        rw [eS] at ih
        have z := ih (up d 189 st.length (bi (fct t U s x))) (up189 _ _) ⟨up_same _ _ _ _, PI_up (Nat.le_refl _) hP⟩
        simp only [List.length_cons] at z
        rw [show ((st.length + 1 : Nat) : Int) = (st.length : Int) + 1 by omega] at z
        exact z
  | _, 0, _, _, hf, _, _, _ => absurd hf (Nat.not_lt_zero _)
theorem p_so {s : Int} {t : Nat → Int} {U : Int → Bool} {d : D9} (L : LR d t) (hI : IN d U) (hs : 0 ≤ s ∧ s < t 1) (r : Nat) (hr : (r : Int) < t 1144) : ∃ d', m_X12_isSo_174 (rp t r + 2) (rN t r) s d = rt (bi (hlr t U r s)) d' ∧ ∀ k, k ≠ 189 → d' k = d k := by
  obtain ⟨y0, yr⟩ := TKr L.2.1
  obtain ⟨a1, a2, a3, a4, a5⟩ := yr r hr
  have eN : rN t r = t (rp t r + 1).toNat := rfl
  have e4 : rp t (r + 1) = rp t r + 2 + t (rp t r + 1).toNat := rfl
  obtain ⟨d', b1, b2⟩ := p_so_l L hI hs r hr (rN t r).toNat FU 0 d (by unfold FU; omega) (by omega) (fun _ _ => rfl) trivial
  refine ⟨d', ?_, b2⟩
  rw [show rp t r + 2 + ((0 : Nat) : Int) = rp t r + 2 by omega] at b1
  exact b1

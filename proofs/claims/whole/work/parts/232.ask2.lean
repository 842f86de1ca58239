/-! the model when its table is laid -/
def LR (d : D9) (t : Nat → Int) : Prop := d 175 = t ∧ TK t ∧ MA d (t 0) (abv t)
theorem LR_bnd {d : D9} {t : Nat → Int} (h : LR d t) {p m w : Int} (hp : 0 ≤ p ∧ p < t 0) (hw : -1 ≤ w ∧ w ≤ 30) (hm : m = 0 ∨ m = 1) : m_X12_boundOf_174 p m w d = rt (bnd t p (decide (m = 1)) w) d := by
  obtain ⟨rfl, k, M⟩ := h
  exact p_boundOf (TKn k) (TKl k) (TKs k) M hp hw hm
theorem LR_b0 {d : D9} {t : Nat → Int} (h : LR d t) {p w : Int} (hp : 0 ≤ p ∧ p < t 0) (hw : -1 ≤ w ∧ w ≤ 30) : m_X12_boundOf_174 p 0 w d = rt (bnd t p false w) d := LR_bnd h hp hw (Or.inl rfl)
theorem LR_b1 {d : D9} {t : Nat → Int} (h : LR d t) {p w : Int} (hp : 0 ≤ p ∧ p < t 0) (hw : -1 ≤ w ∧ w ≤ 30) : m_X12_boundOf_174 p 1 w d = rt (bnd t p true w) d := LR_bnd h hp hw (Or.inr rfl)
theorem lr3 {d' : D9} {t : Nat → Int} (k : TK t) (e : d' 175 = t) : ∃ d2, m_X12_layReach_174 (up d' 174 3 0) = rt 0 d2 ∧ MS d' d2 ∧ d2 174 3 = 0 ∧ LR d2 t := by
  obtain ⟨e1, e3⟩ := m3 d' 0
  rw [e] at e1
  obtain ⟨d2, a1, a2, a3⟩ := p_layReach (d := up d' 174 3 0) (by rw [e1]; exact TKn k) (by rw [e1]; exact TKo k)
  have e2 : d2 175 = t := (a2 175 (by decide)).trans e1
  refine ⟨d2, a1, (MS.u3 d' 0).tr (MS.k7 a2), by rw [a2 174 (by decide)]; exact e3, e2, k, ?_⟩
  rw [← e1]; exact a3
theorem LR_abv {d : D9} {t : Nat → Int} (h : LR d t) {u l : Int} (hu : 0 ≤ u ∧ u < t 0) (hl : 0 ≤ l ∧ l < t 0) : m_X12_isAbove_174 u l d = rt (bi (abv t u l)) d :=
  p_isAbove h.2.2 (by have := (TKn h.2.1).1; omega) hu hl
/-! clash -/
def clF (P : Int → Bool) (i : Int) : Nat → Int → Int → Int
  | 0, _, c => if i = -1 then c else -1
  | m + 1, p, c => if P p = true then (if c = i then p else clF P i m (p + 1) (c + 1)) else clF P i m (p + 1) c
noncomputable def cla (t : Nat → Int) (p : Int) : Bool := decide (bnd t p true (-1) < bnd t p false (-1))
theorem q_clash_l {i : Int} {d : D9} {t : Nat → Int} (k : TK t) (r : RW d t) (hi : I32 i) : ∀ (m f : Nat) (p c : Int), m < f → 0 ≤ p → p + m = t 0 → 0 ≤ c → c ≤ p → fix9 (fun _ _ _ _ => none) (fun k => b_X11_clash_0_c4 k) f i c p d = rt (clF (cla t) i m p c) d
  | 0, f + 1, p, c, _, h0, he, h1, h2 => by
    rw [fx3, b_X11_clash_0_c4, (RWp r).1, if_pos (by rw [show t 0 = p by omega]; exact Int.le_refl _)]
    rw [w32_id hi, w32_id (by omega)]
    simp only [clF]
    by_cases e : i = -1
    · rw [if_neg (by omega), if_pos e]
    · rw [if_pos e, if_neg e]
  | m + 1, f + 1, p, c, hf, h0, he, h1, h2 => by
    have n0 := (TKn k).1
    have r1 := bnd_rng t p false (-1)
    have r2 := bnd_rng t p true (-1)
    rw [fx3, b_X11_clash_0_c4, (RWp r).1, w32_id (by omega), w32_id (by omega), if_neg (by omega), m_X10_isClash_1, q_leastOf (TKn k) (TKo k) (TKs k) (RWo r) (RWs r) (by omega), cl_rt, q_mostOf (TKn k) (TKo k) (TKs k) (RWo r) (RWs r) (by omega), cl_rt, w32_id (by omega), w32_id (by omega)]
    simp only [clF]
    by_cases e : bnd t p true (-1) < bnd t p false (-1)
    · rw [if_neg (by omega), cl_rt, if_neg (by decide), w32_id (by omega), w32_id hi, if_pos (show cla t p = true from dec_t e)]
      by_cases e2 : c = i
      · rw [if_neg (by omega), if_pos e2]
      · rw [if_pos e2, q_clash_l k r hi m f (p + 1) (c + 1) (by omega) (by omega) (by omega) (by omega) (by omega), if_neg e2]
    · rw [if_pos (by omega), cl_rt, if_pos (by decide), if_neg (show ¬ cla t p = true by rw [show cla t p = false from dec_f e]; simp), q_clash_l k r hi m f (p + 1) c (by omega) (by omega) (by omega) (by omega) (by omega)]
  | _, 0, _, _, hf, _, _, _, _ => absurd hf (Nat.not_lt_zero _)
theorem p_clash_l {i : Int} {d : D9} {t : Nat → Int} (L : LR d t) (hi : I32 i) : ∀ (m f : Nat) (p c : Int), m < f → 0 ≤ p → p + m = t 0 → 0 ≤ c → c ≤ p → fix9 (fun _ _ _ _ => none) (fun k => b_X12_clash_174_c13 k) f i c p d = rt (clF (cla t) i m p c) d
  | 0, f + 1, p, c, _, h0, he, h1, h2 => by
    rw [fx3, b_X12_clash_174_c13, ld_in (by omega), Int.toNat_zero, L.1, if_pos (by rw [show t 0 = p by omega]; exact Int.le_refl _)]
    rw [w32_id hi, w32_id (by omega)]
    simp only [clF]
    by_cases e : i = -1
    · rw [if_neg (by omega), if_pos e]
    · rw [if_pos e, if_neg e]
  | m + 1, f + 1, p, c, hf, h0, he, h1, h2 => by
    have n0 := (TKn L.2.1).1
    have r1 := bnd_rng t p false (-1)
    have r2 := bnd_rng t p true (-1)
    rw [fx3, b_X12_clash_174_c13, ld_in (by omega), Int.toNat_zero, L.1, w32_id (by omega), w32_id (by omega), if_neg (by omega), m_X12_isClash_174, LR_b0 L (by omega) (by omega), cl_rt, LR_b1 L (by omega) (by omega), cl_rt, w32_id (by omega), w32_id (by omega)]
    simp only [clF]
    by_cases e : bnd t p true (-1) < bnd t p false (-1)
    · rw [if_neg (by omega), cl_rt, if_pos (by decide), w32_id (by omega), w32_id hi, if_pos (show cla t p = true from dec_t e)]
      by_cases e2 : c = i
      · rw [if_neg (by omega), if_pos e2]
      · rw [if_pos e2, p_clash_l L hi m f (p + 1) (c + 1) (by omega) (by omega) (by omega) (by omega) (by omega), if_neg e2]
    · rw [if_pos (by omega), cl_rt, if_neg (by decide), if_neg (show ¬ cla t p = true by rw [show cla t p = false from dec_f e]; simp), p_clash_l L hi m f (p + 1) c (by omega) (by omega) (by omega) (by omega) (by omega)]
  | _, 0, _, _, hf, _, _, _, _ => absurd hf (Nat.not_lt_zero _)
theorem o_clash {i : Int} {d : D9} (q : Q7 d) (hi : I32 i) : AG d (m_X11_clash_0 i d) (m_X12_clash_174 i) fZ := by
  have n0 := (TKn q.1).1
  refine AG.ret q (clF (cla (d 175)) i (d 175 0).toNat 0 0) ?_ (fun d' q' e => ?_)
  · exact q_clash_l q.1 q.2 hi (d 175 0).toNat FU 0 0 (by unfold FU; omega) (by omega) (by omega) (by omega) (by omega)
  · obtain ⟨d2, a1, a2, a3, a4⟩ := lr3 q.1 e
    refine ⟨d2, ?_, a2, a3⟩
    unfold m_X12_clash_174
    rw [pf_v, a1, cl_rt]
    exact p_clash_l a4 hi (d 175 0).toNat FU 0 0 (by unfold FU; omega) (by omega) (by omega) (by omega) (by omega)
/-! ring, above -/
theorem o_ring {p : Int} {d : D9} (q : Q7 d) (hp : I32 p) : AG d (m_X11_ring_0 p d) (m_X12_ring_174 p) fB := by
  have n0 := (TKn q.1).1
  have ha := q_askPaint (d := d) hp (RWp q.2).1 n0
  by_cases hc : 0 ≤ p ∧ p < d 175 0
  · refine AG.ret q (bi (abv (d 175) p p)) ?_ (fun d' q' e => ?_)
    · obtain ⟨r, h1, h2, h3⟩ := q_above (TKn q.1) (TKo q.1) (RWo q.2) (p := p) (by omega)
      unfold m_X11_ring_0 m_X10_isRing_1
      rw [ha, if_pos hc, cl_rt, h2, cl_rt, q_isIn (by omega), cl_rt, cl_rt, bi_m, bi_m, h3 p (by omega) (by omega)]
    · obtain ⟨d2, a1, a2, a3, a4⟩ := lr3 q.1 e
      refine ⟨d2, ?_, a2, a3⟩
      unfold m_X12_ring_174 m_X12_ring_174_c14
      rw [p_isPaint hp (by rw [e]; exact n0), cl_rt, e, dec_t hc, bi_t, t1_0, if_neg ne10, pf_v, (m3 d' 0).2, t0_0, if_pos (by omega), a1, cl_rt, LR_abv a4 hc hc, cl_rt, bi_m]
  · refine AG.thr q 2 ?_ (fun d' q' e => ?_)
    · unfold m_X11_ring_0
      rw [ha, if_neg hc, cl_th]
    · unfold m_X12_ring_174 m_X12_ring_174_c14
      rw [p_isPaint hp (by rw [e]; exact n0), cl_rt, e, dec_f hc, bi_f, t0_0, if_pos rfl, pf_v, (m3 d' 1).2, t1_0, if_neg (by omega)]
      exact ⟨_, _, rfl, MS.u3 d' 1, (m3 d' 1).2⟩
theorem o_above {u l : Int} {d : D9} (q : Q7 d) (hu : I32 u) (hl : I32 l) : AG d (m_X11_above_0 u l d) (m_X12_above_174 u l) fB := by
  have n0 := (TKn q.1).1
  have ha := q_askPaint (d := d) hu (RWp q.2).1 n0
  have hb := q_askPaint (d := d) hl (RWp q.2).1 n0
  by_cases hc : 0 ≤ u ∧ u < d 175 0
  · by_cases hd : 0 ≤ l ∧ l < d 175 0
    · refine AG.ret q (bi (abv (d 175) u l)) ?_ (fun d' q' e => ?_)
      · obtain ⟨r, h1, h2, h3⟩ := q_above (TKn q.1) (TKo q.1) (RWo q.2) (p := l) (by omega)
        unfold m_X11_above_0
        rw [ha, if_pos hc, cl_rt, hb, if_pos hd, cl_rt, h2, cl_rt, q_isIn (by omega), cl_rt, bi_m, h3 u (by omega) (by omega)]
      · obtain ⟨d2, a1, a2, a3, a4⟩ := lr3 q.1 e
        refine ⟨d2, ?_, a2, a3⟩
        unfold m_X12_above_174 m_X12_above_174_c22
        rw [p_isPaint hu (by rw [e]; exact n0), cl_rt, e, dec_t hc, bi_t, t1_0, if_neg ne10, p_isPaint hl (by rw [e]; exact n0), cl_rt, e, dec_t hd, bi_t, t1_0, if_neg ne10, pf_v, (m3 d' 0).2, t0_0, if_pos (by omega), a1, cl_rt, LR_abv a4 hc hd, cl_rt, bi_m]
    · refine AG.thr q 2 ?_ (fun d' q' e => ?_)
      · unfold m_X11_above_0
        rw [ha, if_pos hc, cl_rt, hb, if_neg hd, cl_th]
      · unfold m_X12_above_174 m_X12_above_174_c22
        rw [p_isPaint hu (by rw [e]; exact n0), cl_rt, e, dec_t hc, bi_t, t1_0, if_neg ne10, p_isPaint hl (by rw [e]; exact n0), cl_rt, e, dec_f hd, bi_f, t0_0, if_pos rfl, pf_v, (m3 d' 1).2, t1_0, if_neg (by omega)]
        exact ⟨_, _, rfl, MS.u3 d' 1, (m3 d' 1).2⟩
  · refine AG.thr q 2 ?_ (fun d' q' e => ?_)
    · unfold m_X11_above_0
      rw [ha, if_neg hc, cl_th]
    · unfold m_X12_above_174 m_X12_above_174_c22
      rw [p_isPaint hu (by rw [e]; exact n0), cl_rt, e, dec_f hc, bi_f, t0_0, if_pos rfl, pf_v, (m3 d' 1).2, t1_0, if_neg (by omega)]
      exact ⟨_, _, rfl, MS.u3 d' 1, (m3 d' 1).2⟩
/-! rests -/
noncomputable def rss (t : Nat → Int) (p s n : Int) : Int := if bnd t p false s ≠ bnd t p false (-1) ∨ bnd t p true s ≠ bnd t p true (-1) then n + 1 else n
theorem o_rests {p : Int} {d : D9} (q : Q7 d) (hp : I32 p) : AG d (m_X11_rests_0 p d) (m_X12_rests_174 p) fB := by
  obtain ⟨n0, n1, n2, n3⟩ := TKn q.1
  have ha := q_askPaint (d := d) hp (RWp q.2).1 n0
  by_cases hc : 0 ≤ p ∧ p < d 175 0
  · have b1 := bnd_rng (d 175) p false (-1)
    have b2 := bnd_rng (d 175) p true (-1)
    refine AG.ret q (fo (rss (d 175) p) (d 175 1).toNat 0 0) ?_ (fun d' q' e => ?_)
    · obtain ⟨r, h1, h2, h3⟩ := q_withAbove (TKn q.1) (TKo q.1) (RWo q.2) (p := p) (by omega)
      obtain ⟨r', h1', h2', h3'⟩ := q_withBelow (TKn q.1) (TKo q.1) (RWo q.2) (p := p) (by omega)
      unfold m_X11_rests_0 m_X10_restsOf_1
      rw [ha, if_pos hc, cl_rt, h2, cl_rt, h2', cl_rt, q_leastSaid (TKn q.1) (TKs q.1) (RWs q.2) (by omega) h1 h3, cl_rt, q_mostSaid (TKn q.1) (TKs q.1) (RWs q.2) (by omega) h1' h3', cl_rt]
      have z := (fix_fu (z := fun _ _ _ _ _ _ _ => none) (B := fun k => b_X10_restsOf_1_c46 k) (fun k s n => k r r' (bnd (d 175) p false (-1)) (bnd (d 175) p true (-1)) n s d) 0 (d 175 1) (rss (d 175) p) (fun s n => 0 ≤ s ∧ 0 ≤ n ∧ n ≤ s) (fun n => rt n d) 0 (by omega) (by omega) ?_ ?_).2
      · rw [Int.sub_zero] at z
        rw [show m_X10_restsOf_1_c46 r r' (bnd (d 175) p false (-1)) (bnd (d 175) p true (-1)) 0 0 d = _ from z, cl_rt]
      · intro k n hI
        simp only [b_X10_restsOf_1_c46]
        rw [(RWs q.2).1, if_pos (Int.le_refl _)]
      · intro k s n hlt hI
        have c1 := bnd_rng (d 175) p false s
        have c2 := bnd_rng (d 175) p true s
        refine ⟨by unfold rss; split <;> omega, ?_⟩
        simp only [b_X10_restsOf_1_c46]
        rw [(RWs q.2).1, w32_id (by omega), w32_id (by omega), if_neg (by omega), q_leastSaid (TKn q.1) (TKs q.1) (RWs q.2) (by omega) h1 h3, cl_rt, q_mostSaid (TKn q.1) (TKs q.1) (RWs q.2) (by omega) h1' h3', cl_rt, w32_id (by omega), w32_id (by omega), w32_id (by omega), w32_id (by omega)]
        unfold rss
        by_cases x1 : bnd (d 175) p false s = bnd (d 175) p false (-1)
        · by_cases x2 : bnd (d 175) p true s = bnd (d 175) p true (-1)
          · simp [x1, x2]
          · simp [x1, x2]
        · simp [x1]
    · obtain ⟨d2, a1, a2, a3, a4⟩ := lr3 q.1 e
      refine ⟨d2, ?_, a2, a3⟩
      unfold m_X12_rests_174
      rw [pf_v, p_isPaint hp (by rw [(m3 d' 0).1, e]; exact n0), cl_rt, (m3 d' 0).1, e, dec_t hc, bi_t, t1_0, if_pos ne10, a1, cl_rt, LR_b0 a4 hc (by omega), cl_rt, LR_b1 a4 hc (by omega), cl_rt]
      have z := (fix_fu (z := fun _ _ _ _ _ _ => none) (B := fun k => b_X12_rests_174_c45 k) (fun k s n => k p (bnd (d 175) p false (-1)) (bnd (d 175) p true (-1)) n s d2) 0 (d 175 1) (rss (d 175) p) (fun s n => 0 ≤ s ∧ 0 ≤ n ∧ n ≤ s) (fun n => rt n d2) 0 (by omega) (by omega) ?_ ?_).2
      · rw [Int.sub_zero] at z
        exact z
      · intro k n hI
        simp only [b_X12_rests_174_c45]
        rw [ld_in (by omega), Int.toNat_one, a4.1, if_pos (Int.le_refl _)]
      · intro k s n hlt hI
        have c1 := bnd_rng (d 175) p false s
        have c2 := bnd_rng (d 175) p true s
        refine ⟨by unfold rss; split <;> omega, ?_⟩
        simp only [b_X12_rests_174_c45]
        rw [ld_in (by omega), Int.toNat_one, a4.1, w32_id (by omega), w32_id (by omega), if_neg (by omega), LR_b0 a4 hc (by omega), cl_rt, LR_b1 a4 hc (by omega), cl_rt, w32_id (by omega), w32_id (by omega), w32_id (by omega), w32_id (by omega), lt_v, lt_v, Int.add_zero]
        unfold rss
        by_cases x1 : bnd (d 175) p false s = bnd (d 175) p false (-1)
        · by_cases x2 : bnd (d 175) p true s = bnd (d 175) p true (-1)
          · simp [x1, x2]
          · simp [x1, x2]
        · simp [x1]
  · refine AG.thr q 2 ?_ (fun d' q' e => ?_)
    · unfold m_X11_rests_0
      rw [ha, if_neg hc, cl_th]
    · unfold m_X12_rests_174
      rw [pf_v, p_isPaint hp (by rw [(m3 d' 0).1, e]; exact n0), cl_rt, (m3 d' 0).1, e, dec_f hc, bi_f, t0_0, if_neg (by omega), p_fails, cl_rt]
      exact thr1 d' 1

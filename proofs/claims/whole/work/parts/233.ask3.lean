/-! age, sort, says, span -/
theorem i32_c {n : Int} (h : -2147483648 ≤ n ∧ n ≤ 2147483647) : I32 n := h
theorem within_i {v lo hi : Int} {d : D9} (h : I32 v) (h2 : (-100 ≤ lo ∧ lo ≤ 100000) ∧ -100 ≤ hi ∧ hi ≤ 100000) : m_X12_within v lo hi d = rt (bi (decide (lo ≤ v ∧ v ≤ hi))) d := by
  unfold I32 at h
  exact p_within ⟨by omega, by unfold I32; omega, by unfold I32; omega⟩
theorem p_areCounts {a b c : Int} {d : D9} (ha : -9223372036854775808 ≤ a ∧ a ≤ 9223372036854775807) (hb : -9223372036854775808 ≤ b ∧ b ≤ 9223372036854775807) (hc : -9223372036854775808 ≤ c ∧ c ≤ 9223372036854775807) : m_X12_areCounts a b c d = rt (bi (decide ((0 ≤ a ∧ a ≤ 9999) ∧ (0 ≤ b ∧ b ≤ 9999) ∧ 0 ≤ c ∧ c ≤ 9999))) d := by
  unfold m_X12_areCounts
  rw [p_within ⟨ha, by unfold I32; omega, by unfold I32; omega⟩, cl_rt, w32_bi, p_within ⟨hb, by unfold I32; omega, by unfold I32; omega⟩, cl_rt, w32_bi, p_within ⟨hc, by unfold I32; omega, by unfold I32; omega⟩, cl_rt, w32_bi]
  by_cases x : 0 ≤ a ∧ a ≤ 9999 <;> by_cases y : 0 ≤ b ∧ b ≤ 9999 <;> by_cases z : 0 ≤ c ∧ c ≤ 9999 <;> simp [x, y, z, bi]
theorem areCounts_i {a b c : Int} {d : D9} (ha : I32 a) (hb : I32 b) (hc : I32 c) : m_X12_areCounts (w32 a) (w32 b) (w32 c) d = rt (bi (decide ((0 ≤ a ∧ a ≤ 9999) ∧ (0 ≤ b ∧ b ≤ 9999) ∧ 0 ≤ c ∧ c ≤ 9999))) d := by
  rw [w32_id ha, w32_id hb, w32_id hc]
  unfold I32 at ha hb hc
  exact p_areCounts (by omega) (by omega) (by omega)
theorem isShare_i {s : Int} {d : D9} (h : I32 s) : m_X12_isShare s d = rt (bi (decide (0 ≤ s ∧ s ≤ 99))) d := by
  unfold m_X12_isShare
  rw [w32_id h, within_i h (by omega), cl_rt, bi_m]
theorem ask_i {v lo hi : Int} {d : D9} (h : I32 v) (h2 : (-100 ≤ lo ∧ lo ≤ 100000) ∧ -100 ≤ hi ∧ hi ≤ 100000) : m_X11_askWithin v lo hi d = if lo ≤ v ∧ v ≤ hi then rt 0 d else th 0 d :=
  q_askWithin ⟨h, by unfold I32; omega, by unfold I32; omega⟩
theorem o_age {a b e s : Int} {d : D9} (q : Q7 d) (ha : I32 a) (hb : I32 b) (he : I32 e) (hs : I32 s) : AG d (m_X11_age_0 a b e s d) (m_X12_age_174 a b e s) fA := by
  have hl := TKl q.1
  have rl := RWl q.2
  have thr : ∀ d' : D9, ¬ (((0 ≤ a ∧ a ≤ 9999) ∧ (0 ≤ b ∧ b ≤ 9999) ∧ 0 ≤ e ∧ e ≤ 9999) ∧ 0 ≤ s ∧ s ≤ 99) → ∃ b' d2, m_X12_age_174 a b e s d' = rt b' d2 ∧ MS d' d2 ∧ d2 174 3 = fA 0 := by
    intro d' h
    unfold m_X12_age_174 m_X12_age_174_c37
    rw [pf_v, areCounts_i ha hb he, cl_rt, w32_bi, isShare_i hs, cl_rt, w32_bi, p_fails, cl_rt]
    by_cases x : ((0 ≤ a ∧ a ≤ 9999) ∧ (0 ≤ b ∧ b ≤ 9999) ∧ 0 ≤ e ∧ e ≤ 9999)
    · by_cases y : 0 ≤ s ∧ s ≤ 99
      · exact absurd ⟨x, y⟩ h
      · rw [dec_t x, dec_f y, bi_t, bi_f, if_neg ne10, if_pos rfl]; exact thr1 d' 1
    · rw [dec_f x, bi_f, if_pos rfl]; exact thr1 d' 1
  by_cases h1 : 0 ≤ a ∧ a ≤ 9999
  · by_cases h2 : 0 ≤ b ∧ b ≤ 9999
    · by_cases h3 : 0 ≤ e ∧ e ≤ 9999
      · by_cases h4 : 0 ≤ s ∧ s ≤ 99
        · refine AG.ret q (ck (d 175 6) b (1000 * a) 400 (10 * e * s)) ?_ (fun d' q' x => ?_)
          · unfold m_X11_age_0 m_X2_ageFor_22
            rw [ask_i ha (by omega), if_pos h1, cl_rt, ask_i hb (by omega), if_pos h2, cl_rt, ask_i he (by omega), if_pos h3, cl_rt, ask_i hs (by omega), if_pos h4, cl_rt, q_ageAt (by rw [rl.2.1]; have := hl.2.1; omega) h2 (by omega) h3 h4, cl_rt, cl_rt, rl.2.1]
          · refine ⟨up d' 174 3 0, ?_, MS.u3 d' 0, (m3 d' 0).2⟩
            unfold m_X12_age_174
            rw [pf_v, areCounts_i ha hb he, cl_rt, dec_t ⟨h1, h2, h3⟩, bi_t, t1_0, if_neg ne10, isShare_i hs, cl_rt, dec_t h4, bi_t, t1_0, if_neg ne10, p_clock (by rw [(m3 d' 0).1, x]; have := hl.2.1; omega) h2 (by omega) h3 h4, cl_rt, (m3 d' 0).1, x]
        · refine AG.thr q 0 ?_ (fun d' _ _ => thr d' (by omega))
          unfold m_X11_age_0
          rw [ask_i ha (by omega), if_pos h1, cl_rt, ask_i hb (by omega), if_pos h2, cl_rt, ask_i he (by omega), if_pos h3, cl_rt, ask_i hs (by omega), if_neg h4, cl_th]
      · refine AG.thr q 0 ?_ (fun d' _ _ => thr d' (by omega))
        unfold m_X11_age_0
        rw [ask_i ha (by omega), if_pos h1, cl_rt, ask_i hb (by omega), if_pos h2, cl_rt, ask_i he (by omega), if_neg h3, cl_th]
    · refine AG.thr q 0 ?_ (fun d' _ _ => thr d' (by omega))
      unfold m_X11_age_0
      rw [ask_i ha (by omega), if_pos h1, cl_rt, ask_i hb (by omega), if_neg h2, cl_th]
  · refine AG.thr q 0 ?_ (fun d' _ _ => thr d' (by omega))
    unfold m_X11_age_0
    rw [ask_i ha (by omega), if_neg h1, cl_th]
/-- the model's skins in a state that tells t -/
theorem sk_of {d : D9} {t : Nat → Int} (e : d 175 = t) {s w : Int} (h : (0 ≤ s ∧ s < 30) ∧ 0 ≤ w ∧ w < 17) : m_X12_ofSkin_174 s w d = rt (sk t s w) d := by rw [p_ofSkin h, e]
theorem isSkin_t {d : D9} {t : Nat → Int} (k : TK t) (e : d 175 = t) {s : Int} (h : I32 s) : m_X12_isSkin_174 s d = rt (bi (decide (0 ≤ s ∧ s < t 1))) d := by
  rw [p_isSkin h (by rw [e]; exact (TKn k).2.1), e]
theorem isPaint_t {d : D9} {t : Nat → Int} (k : TK t) (e : d 175 = t) {s : Int} (h : I32 s) : m_X12_isPaint_174 s d = rt (bi (decide (0 ≤ s ∧ s < t 0))) d := by
  rw [p_isPaint h (by rw [e]; exact (TKn k).1), e]
theorem srt_t {d : D9} {t : Nat → Int} (k : TK t) (e : d 175 = t) {s : Int} (h : 0 ≤ s ∧ s < t 1) : m_X12_sortOf_174 s d = rt (srt t s) d := by
  have n1 := (TKn k).2.1
  subst e; exact p_sortOf (TKl k) (by omega) (TKs k s h.1 h.2)
theorem sya_t {d : D9} {t : Nat → Int} (k : TK t) (e : d 175 = t) {s : Int} (h : 0 ≤ s ∧ s < t 1) : m_X12_saysOf_174 s d = rt (sya t s) d := by
  have n1 := (TKn k).2.1
  subst e; exact p_saysOf (TKl k) (by omega) (TKs k s h.1 h.2)
theorem tha_t {d : D9} {t : Nat → Int} (k : TK t) (e : d 175 = t) {s l : Int} (h : 0 ≤ s ∧ s < t 1) (hl : 0 ≤ l ∧ l < sk t s 4) : m_X12_isThinAt_174 s l d = rt (bi (tha t s l)) d := by
  have n1 := (TKn k).2.1
  subst e; exact p_isThinAt (TKl k) (by omega) (TKs k s h.1 h.2) hl
theorem spa_t {d : D9} {t : Nat → Int} (k : TK t) (e : d 175 = t) {s l m : Int} (h : 0 ≤ s ∧ s < t 1) (hl : 0 ≤ l ∧ l < sk t s 4) (hm : m = 0 ∨ m = 1) : m_X12_spanAt_174 s l m d = rt (spa t s l (decide (m = 1))) d := by
  have n1 := (TKn k).2.1
  subst e; exact p_spanAt (TKl k) (by omega) (TKs k s h.1 h.2) hl hm
theorem o_sort {s : Int} {d : D9} (q : Q7 d) (hs : I32 s) : AG d (m_X11_sort_0 s d) (m_X12_sort_174 s) fB := by
  have n1 := (TKn q.1).2.1
  have ha := q_askSkin (d := d) hs (RWs q.2).1 n1
  by_cases hc : 0 ≤ s ∧ s < d 175 1
  · refine AG.ret q (srt (d 175) s) ?_ (fun d' q' e => ?_)
    · unfold m_X11_sort_0
      rw [ha, if_pos hc, cl_rt, ld_in (by omega), ((RWs q.2).2 s hc.1 hc.2).2.2.1]
    · have e1 := (m3 d' 0).1.trans e
      refine ⟨up d' 174 3 0, ?_, MS.u3 d' 0, (m3 d' 0).2⟩
      unfold m_X12_sort_174
      rw [pf_v, isSkin_t q.1 e1 hs, cl_rt, dec_t hc, bi_t, t1_0, if_neg ne10, srt_t q.1 e1 hc, cl_rt]
  · refine AG.thr q 2 ?_ (fun d' q' e => ?_)
    · unfold m_X11_sort_0
      rw [ha, if_neg hc, cl_th]
    · have e1 := (m3 d' 0).1.trans e
      unfold m_X12_sort_174
      rw [pf_v, isSkin_t q.1 e1 hs, cl_rt, dec_f hc, bi_f, t0_0, if_pos rfl, p_fails, cl_rt]
      exact thr1 d' 1
theorem o_says {s : Int} {d : D9} (q : Q7 d) (hs : I32 s) : AG d (m_X11_says_0 s d) (m_X12_says_174 s) fB := by
  have n1 := (TKn q.1).2.1
  have ha := q_askSkin (d := d) hs (RWs q.2).1 n1
  by_cases hc : 0 ≤ s ∧ s < d 175 1
  · refine AG.ret q (sya (d 175) s) ?_ (fun d' q' e => ?_)
    · unfold m_X11_says_0
      rw [ha, if_pos hc, cl_rt, ld_in (by omega), ((RWs q.2).2 s hc.1 hc.2).2.2.2]
    · have e1 := (m3 d' 0).1.trans e
      refine ⟨up d' 174 3 0, ?_, MS.u3 d' 0, (m3 d' 0).2⟩
      unfold m_X12_says_174
      rw [pf_v, isSkin_t q.1 e1 hs, cl_rt, dec_t hc, bi_t, t1_0, if_neg ne10, sya_t q.1 e1 hc, cl_rt]
  · refine AG.thr q 2 ?_ (fun d' q' e => ?_)
    · unfold m_X11_says_0
      rw [ha, if_neg hc, cl_th]
    · have e1 := (m3 d' 0).1.trans e
      unfold m_X12_says_174
      rw [pf_v, isSkin_t q.1 e1 hs, cl_rt, dec_f hc, bi_f, t0_0, if_pos rfl, p_fails, cl_rt]
      exact thr1 d' 1
theorem o_span {s l m : Int} {d : D9} (q : Q7 d) (hs : I32 s) (hl : I32 l) (hm : m = 0 ∨ m = 1) : AG d (m_X11_span_0 s l m d) (m_X12_span_174 s l m) fB := by
  have n1 := (TKn q.1).2.1
  have ha := q_askSkin (d := d) hs (RWs q.2).1 n1
  by_cases hc : 0 ≤ s ∧ s < d 175 1
  · obtain ⟨rA, rC, _⟩ := (RWs q.2).2 s hc.1 hc.2
    have h4 := (TKs q.1 s hc.1 hc.2).2.2.2.2.1
    by_cases hd : 0 ≤ l ∧ l < sk (d 175) s 4
    · refine AG.ret q (lst (d 175) s l (decide (m = 1))) ?_ (fun d' q' e => ?_)
      · unfold m_X11_span_0
        rw [ha, if_pos hc, cl_rt, w32_id hl, if_neg (by omega), ld_in (by omega), rA.2.2.2.2.1, w32_id (by omega), if_pos (by omega), lt_v, ld_in (by omega), ld_in (by omega), (rC l hd.1 hd.2).1, (rC l hd.1 hd.2).2]
        rcases hm with rfl | rfl
        · rfl
        · rfl
      · have e1 := (m3 d' 0).1.trans e
        refine ⟨up d' 174 3 0, ?_, MS.u3 d' 0, (m3 d' 0).2⟩
        unfold m_X12_span_174
        rw [pf_v, isSkin_t q.1 e1 hs, cl_rt, dec_t hc, bi_t, t1_0, if_neg ne10, sk_of e1 (by omega), cl_rt, w32_id hl, w32_id (by omega), within_i hl (by omega), cl_rt, dec_t (show 0 ≤ l ∧ l ≤ sk (d 175) s 4 - 1 by omega), bi_t, t1_0, if_pos ne10, tha_t q.1 e1 hc hd, cl_rt, w32_bi, spa_t q.1 e1 hc hd hm, cl_rt]
        unfold lst
        cases tha (d 175) s l <;> simp [bi]
    · refine AG.thr q 2 ?_ (fun d' q' e => ?_)
      · unfold m_X11_span_0 m_X11_span_0_c29
        rw [ha, if_pos hc, cl_rt, w32_id hl, ld_in (by omega), rA.2.2.2.2.1, w32_id (by omega)]
        by_cases x : l < 0
        · rw [if_pos x]
        · rw [if_neg x, if_neg (by omega)]
      · have e1 := (m3 d' 0).1.trans e
        unfold m_X12_span_174 m_X12_span_174_c31
        rw [pf_v, isSkin_t q.1 e1 hs, cl_rt, dec_t hc, bi_t, t1_0, if_neg ne10, sk_of e1 (by omega), cl_rt, w32_id hl, w32_id (by omega), within_i hl (by omega), cl_rt, dec_f (show ¬ (0 ≤ l ∧ l ≤ sk (d 175) s 4 - 1) by omega), bi_f, t0_0, if_neg (by omega), p_fails, cl_rt]
        exact thr1 d' 1
  · refine AG.thr q 2 ?_ (fun d' q' e => ?_)
    · unfold m_X11_span_0
      rw [ha, if_neg hc, cl_th]
    · have e1 := (m3 d' 0).1.trans e
      unfold m_X12_span_174 m_X12_span_174_c31
      rw [pf_v, isSkin_t q.1 e1 hs, cl_rt, dec_f hc, bi_f, t0_0, if_pos rfl, p_fails, cl_rt]
      exact thr1 d' 1
/-! spread, first -/
theorem pt_of {d : D9} {t : Nat → Int} (e : d 175 = t) {p w : Int} (h : (0 ≤ p ∧ p < 30) ∧ 0 ≤ w ∧ w < 8) : m_X12_ofPaint_174 p w d = rt (pt t p w) d := by rw [p_ofPaint h, e]
def isg (t : Nat → Int) (p w : Int) : Bool := decide (pt t p 0 = 3 ∧ pt t p 2 = w)
theorem q_isSign {p w : Int} {d : D9} {t : Nat → Int} (k : TK t) (r : RW d t) (hp : 0 ≤ p ∧ p < t 0) (hw : 0 ≤ w ∧ w ≤ 9) : m_X3_isSign_2 p w d = rt (bi (isg t p w)) d := by
  have n0 := (TKn k).1
  obtain ⟨k0, k1, k2, _⟩ := TKp k p hp.1 hp.2
  obtain ⟨r0, r1, r2, _⟩ := (RWp r).2.2.1 p hp.1 hp.2
  unfold m_X3_isSign_2 isg
  rw [ld_in (by omega), r0, w32_id (by omega), w32_id (by omega), ld_in (by omega), r2, w32_id (by omega), w32_id (by omega)]
  by_cases x : pt t p 0 = 3 <;> by_cases y : pt t p 2 = w <;> simp [x, y, bi]
theorem p_isSign {p w : Int} {d : D9} {t : Nat → Int} (k : TK t) (e : d 175 = t) (hp : 0 ≤ p ∧ p < t 0) (hw : 0 ≤ w ∧ w ≤ 9) : m_X12_isSign_174 p w d = rt (bi (isg t p w)) d := by
  have n0 := (TKn k).1
  obtain ⟨k0, k1, k2, _⟩ := TKp k p hp.1 hp.2
  unfold m_X12_isSign_174 isg
  rw [pt_of e (by omega), cl_rt, w32_id (by omega), w32_id (by omega), pt_of e (by omega), cl_rt, w32_id (by omega), w32_id (by omega)]
  by_cases x : pt t p 0 = 3 <;> by_cases y : pt t p 2 = w <;> simp [x, y, bi]
def spd (t : Nat → Int) (w p v : Int) : Int := if isg t p w = true then or9 v (shl9 1 (pt t p 1)) else v
theorem o_spread {w : Int} {d : D9} (q : Q7 d) (hw : I32 w) : AG d (m_X11_spread_0 w d) (m_X12_spread_174 w) fA := by
  have n0 := (TKn q.1).1
  by_cases hc : 0 ≤ w ∧ w ≤ 9
  · refine AG.ret q (bc (fo (spd (d 175) w) (d 175 0).toNat 0 0)) ?_ (fun d' q' e => ?_)
    · unfold m_X11_spread_0
      rw [ask_i hw (by omega), if_pos hc, cl_rt]
      have z := (fix_fu (z := fun _ _ _ _ => none) (B := fun k => b_X11_spread_0_c11 k) (fun k p v => k w v p d) 0 (d 175 0) (spd (d 175) w) (fun p v => 0 ≤ p) (fun v => rt (bc v) d) 0 (by omega) (by omega) ?_ ?_).2
      · rw [Int.sub_zero] at z; exact z
      · intro k v hI
        simp only [b_X11_spread_0_c11]
        rw [(RWp q.2).1, if_pos (Int.le_refl _), q_bc, cl_rt]
      · intro k p v hlt hI
        refine ⟨by omega, ?_⟩
        simp only [b_X11_spread_0_c11]
        rw [(RWp q.2).1, w32_id (by omega), w32_id (by omega), if_neg (by omega), q_isSign q.1 q.2 ⟨hI, hlt⟩ hc, cl_rt, w32_bi, ld_in (by omega), ((RWp q.2).2.2.1 p hI hlt).2.1, lt_v]
        unfold spd
        cases isg (d 175) p w <;> simp [bi]
    · have e1 := (m3 d' 0).1.trans e
      refine ⟨up d' 174 3 0, ?_, MS.u3 d' 0, (m3 d' 0).2⟩
      unfold m_X12_spread_174
      rw [pf_v, w32_id hw, within_i hw (by omega), cl_rt, dec_t hc, bi_t, t1_0, if_pos ne10]
      have z := (fix_fu (z := fun _ _ _ _ => none) (B := fun k => b_X12_spread_174_c27 k) (fun k p v => k w v p (up d' 174 3 0)) 0 (d 175 0) (spd (d 175) w) (fun p v => 0 ≤ p) (fun v => rt (bc v) (up d' 174 3 0)) 0 (by omega) (by omega) ?_ ?_).2
      · rw [Int.sub_zero] at z; exact z
      · intro k v hI
        simp only [b_X12_spread_174_c27]
        rw [ld_in (by omega), Int.toNat_zero, e1, if_pos (Int.le_refl _), q_bc, cl_rt]
      · intro k p v hlt hI
        refine ⟨by omega, ?_⟩
        simp only [b_X12_spread_174_c27]
        rw [ld_in (by omega), Int.toNat_zero, e1, w32_id (by omega), w32_id (by omega), if_neg (by omega), p_isSign q.1 e1 ⟨hI, hlt⟩ hc, cl_rt, w32_bi, pt_of e1 (by omega), cl_rt, lt_v]
        unfold spd
        cases isg (d 175) p w <;> simp [bi]
  · refine AG.thr q 0 ?_ (fun d' q' e => ?_)
    · unfold m_X11_spread_0
      rw [ask_i hw (by omega), if_neg hc, cl_th]
    · unfold m_X12_spread_174
      rw [pf_v, w32_id hw, within_i hw (by omega), cl_rt, dec_f hc, bi_f, t0_0, if_neg (by omega), p_fails, cl_rt]
      exact thr1 d' 1
noncomputable def fst7 (t : Nat → Int) (w p b : Int) : Int := if isg t p w = true ∧ (b = -1 ∨ bnd t b false (-1) < bnd t p false (-1)) then p else b
theorem o_first {w : Int} {d : D9} (q : Q7 d) (hw : I32 w) : AG d (m_X11_first_0 w d) (m_X12_first_174 w) fA := by
  have n0 := (TKn q.1).1
  by_cases hc : 0 ≤ w ∧ w ≤ 9
  · refine AG.ret q (fo (fst7 (d 175) w) (d 175 0).toNat 0 (-1)) ?_ (fun d' q' e => ?_)
    · unfold m_X11_first_0
      rw [ask_i hw (by omega), if_pos hc, cl_rt]
      have z := (fix_fu (z := fun _ _ _ _ _ => none) (B := fun k => b_X11_first_0_c14 k) (fun k p b => k w b (if b = -1 then -1 else bnd (d 175) b false (-1)) p d) 0 (d 175 0) (fst7 (d 175) w) (fun p b => 0 ≤ p ∧ -1 ≤ b ∧ b < p) (fun v => rt v d) (-1) (by omega) (by omega) ?_ ?_).2
      · rw [Int.sub_zero] at z; exact z
      · intro k v hI
        simp only [b_X11_first_0_c14]
        rw [(RWp q.2).1, if_pos (Int.le_refl _)]
      · intro k p b hlt hI
        have r1 := bnd_rng (d 175) p false (-1)
        have r2 := bnd_rng (d 175) b false (-1)
        refine ⟨by unfold fst7; split <;> omega, ?_⟩
        simp only [b_X11_first_0_c14]
        rw [(RWp q.2).1, w32_id (by omega), w32_id (by omega), if_neg (by omega), q_isSign q.1 q.2 ⟨hI.1, hlt⟩ hc, cl_rt, w32_bi, q_leastOf (TKn q.1) (TKo q.1) (TKs q.1) (RWo q.2) (RWs q.2) (by omega), cl_rt, w32_id (by omega), w32_id (by split <;> omega)]
        unfold fst7
        cases hg : isg (d 175) p w
        · simp [bi]
        · by_cases x : b = -1
          · subst x
            have : ¬ bnd (d 175) p false (-1) ≤ -1 := by omega
            have y : ¬ p = -1 := by omega
            simp [bi, this, y]
          · by_cases y : bnd (d 175) b false (-1) < bnd (d 175) p false (-1)
            · have : ¬ bnd (d 175) p false (-1) ≤ bnd (d 175) b false (-1) := by omega
              have z : ¬ p = -1 := by omega
              simp [bi, x, y, this, z]
            · have : bnd (d 175) p false (-1) ≤ bnd (d 175) b false (-1) := by omega
              simp [bi, x, y, this]
    · obtain ⟨d2, a1, a2, a3, a4⟩ := lr3 q.1 e
      have e1 := (m3 d' 0).1.trans e
      refine ⟨d2, ?_, a2, a3⟩
      unfold m_X12_first_174
      rw [pf_v, w32_id hw, within_i hw (by omega), cl_rt, dec_t hc, bi_t, t1_0, if_pos ne10, a1, cl_rt]
      have z := (fix_fu (z := fun _ _ _ _ => none) (B := fun k => b_X12_first_174_c31 k) (fun k p b => k w b p d2) 0 (d 175 0) (fst7 (d 175) w) (fun p b => 0 ≤ p ∧ -1 ≤ b ∧ b < p) (fun v => rt v d2) (-1) (by omega) (by omega) ?_ ?_).2
      · rw [Int.sub_zero] at z; exact z
      · intro k v hI
        simp only [b_X12_first_174_c31]
        rw [ld_in (by omega), Int.toNat_zero, a4.1, if_pos (Int.le_refl _)]
      · intro k p b hlt hI
        have r1 := bnd_rng (d 175) p false (-1)
        have r2 := bnd_rng (d 175) b false (-1)
        refine ⟨by unfold fst7; split <;> omega, ?_⟩
        simp only [b_X12_first_174_c31]
        rw [ld_in (by omega), Int.toNat_zero, a4.1, w32_id (by omega), w32_id (by omega), if_neg (by omega), p_isSign q.1 a4.1 ⟨hI.1, hlt⟩ hc, cl_rt, w32_bi, w32_id (by omega), w32_id (by omega)]
        unfold fst7
        cases hg : isg (d 175) p w
        · simp [bi]
        · by_cases x : b = -1
          · subst x
            simp [bi]
          · rw [LR_b0 a4 (by omega) (by omega), cl_rt, LR_b0 a4 (by omega) (by omega), cl_rt, w32_id (by omega), w32_id (by omega)]
            by_cases y : bnd (d 175) b false (-1) < bnd (d 175) p false (-1)
            · have : ¬ bnd (d 175) p false (-1) ≤ bnd (d 175) b false (-1) := by omega
              simp [bi, x, y, this]
            · have : bnd (d 175) p false (-1) ≤ bnd (d 175) b false (-1) := by omega
              simp [bi, x, y, this]
  · refine AG.thr q 0 ?_ (fun d' q' e => ?_)
    · unfold m_X11_first_0
      rw [ask_i hw (by omega), if_neg hc, cl_th]
    · unfold m_X12_first_174
      rw [pf_v, w32_id hw, within_i hw (by omega), cl_rt, dec_f hc, bi_f, t0_0, if_neg (by omega), p_fails, cl_rt]
      exact thr1 d' 1

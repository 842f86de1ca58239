/-! of, count, fault, upper, lower -/
theorem o_of {p w : Int} {d : D9} (q : Q7 d) (hp : I32 p) (hw : I32 w) : AG d (m_X11_of_0 p w d) (m_X12_of_174 p w) fN := by
  obtain ⟨n0, n1, n2, n3⟩ := TKn q.1
  have ha := q_askPaint (d := d) hp (RWp q.2).1 n0
  by_cases hc : 0 ≤ p ∧ p < d 175 0
  · by_cases hD : 0 ≤ w ∧ w ≤ 8
    · obtain ⟨r0, r1, r2, r3⟩ := (RWp q.2).2.2.1 p hc.1 hc.2
      refine AG.ret q (if w = 8 then cto (d 175) p else pt (d 175) p w) ?_ (fun d' q' e => ?_)
      · unfold m_X11_of_0
        rw [ha, if_pos hc, cl_rt, ask_i hw (by omega), if_pos hD, cl_rt, w32_id hw, w32_id (by omega), w32_id (by omega), w32_id (by omega)]
        by_cases w0 : w = 0
        · rw [if_neg (by omega), if_neg (show ¬ w = 8 by omega), ld_in (by omega), r0, w0]
        · rw [if_pos w0]
          by_cases w1 : w = 1
          · rw [if_neg (by omega), if_neg (show ¬ w = 8 by omega), ld_in (by omega), r1, w1]
          · rw [if_pos w1]
            by_cases w2 : w = 2
            · rw [if_neg (by omega), if_neg (show ¬ w = 8 by omega), ld_in (by omega), r2, w2]
            · rw [if_pos w2]
              by_cases w8 : w = 8
              · rw [if_neg (by omega), if_pos w8, ld_in (by omega), q_bc, cl_rt, (RWo q.2).2.2 p hc.1 (by omega)]
              · have e5 := r3 (w - 3) (by omega) (by omega)
                rw [if_pos w8, if_neg w8, ld_in (by omega), show p * 5 + w - 3 = p * 5 + (w - 3) by omega, e5, show 3 + (w - 3) = w by omega]
      · have e1 := (m3 d' 0).1.trans e
        refine ⟨up d' 174 3 0, ?_, MS.u3 d' 0, (m3 d' 0).2⟩
        unfold m_X12_of_174
        rw [pf_v, isPaint_t q.1 e1 hp, cl_rt, dec_t hc, bi_t, t1_0, if_pos ne10, w32_id hw, within_i hw (by omega), cl_rt, dec_t hD, bi_t, t1_0, if_pos ne10, w32_id (by omega)]
        by_cases w8 : w = 8
        · rw [if_pos (by omega), if_pos w8]
          have z := (fix_fu (z := fun _ _ _ _ => none) (B := fun k => b_X12_of_174_c57 k) (fun k i c => k p c (256 + 2 * i) (up d' 174 3 0)) 0 (d 175 2) (fun k n => n + bi (decide (oL (d 175) k = p))) (fun i c => 0 ≤ i) (fun c => rt c (up d' 174 3 0)) 0 (by omega) (by omega) ?_ ?_).2
          · rw [Int.sub_zero] at z; exact z
          · intro k' c hI
            simp only [b_X12_of_174_c57]
            rw [ld_in (by omega), show ((2 : Int).toNat) = 2 from rfl, e1, if_pos (Int.le_refl _)]
          · intro k' i c hlt hI
            have oo := (TKo q.1 i hI hlt).2
            refine ⟨by omega, ?_⟩
            simp only [b_X12_of_174_c57]
            rw [ld_in (by omega), show ((2 : Int).toNat) = 2 from rfl, e1, w32_id (by omega), w32_id (by omega), if_neg (by omega), ld_in (by omega), e1, show d 175 (256 + 2 * i + 1).toNat = oL (d 175) i from rfl, w32_id (by omega), w32_id hp, lt_v, lt_v, show 256 + 2 * i + 2 = 256 + 2 * (i + 1) by omega]
            by_cases y : oL (d 175) i = p
            · rw [if_neg (by omega), dec_t y]; rfl
            · rw [if_pos y, dec_f y]; rfl
        · rw [if_neg (by omega), if_neg w8, pt_of e1 (by omega), cl_rt]
    · refine AG.thr q 0 ?_ (fun d' q' e => ?_)
      · unfold m_X11_of_0
        rw [ha, if_pos hc, cl_rt, ask_i hw (by omega), if_neg hD, cl_th]
      · have e1 := (m3 d' 0).1.trans e
        unfold m_X12_of_174
        rw [pf_v, isPaint_t q.1 e1 hp, cl_rt, dec_t hc, bi_t, t1_0, if_pos ne10, w32_id hw, within_i hw (by omega), cl_rt, dec_f hD, bi_f, t0_0, if_neg (by omega), p_fails, cl_rt]
        exact thr1 d' 2
  · refine AG.thr q 2 ?_ (fun d' q' e => ?_)
    · unfold m_X11_of_0
      rw [ha, if_neg hc, cl_th]
    · have e1 := (m3 d' 0).1.trans e
      unfold m_X12_of_174
      rw [pf_v, isPaint_t q.1 e1 hp, cl_rt, dec_f hc, bi_f, t0_0, if_neg (by omega), p_fails, cl_rt]
      exact thr1 d' 1
theorem o_count {w : Int} {d : D9} (q : Q7 d) (hw : I32 w) (h7 : d 51 1 = d 174 7) : AG d (m_X11_count_0 w d) (m_X12_count_174 w) fZ := by
  obtain ⟨n0, n1, n2, n3⟩ := TKn q.1
  have hw' := hw
  unfold I32 at hw'
  obtain ⟨l0, l1, l2, l3, l4, l5, l6, l7⟩ := RWl q.2
  have r0 := (RWp q.2).1
  have r2 := (RWp q.2).2.1
  have r1 := (RWs q.2).1
  have r3 := (RWh q.2).1
  have r5 := (RWy q.2).1
  have r14 := (RWr q.2).1
  by_cases hs : 100 ≤ w ∧ w < 100 + d 175 1
  · refine AG.ret q (sk (d 175) (w - 100) 4) ?_ (fun d' q' e => ?_)
    · unfold m_X11_count_0
      rw [w32_id hw, w32_id (by omega), if_neg (by omega), r1, w32_id (by omega), w32_id (by omega), if_neg (by omega), ld_in (by omega), ((RWs q.2).2 (w - 100) (by omega) (by omega)).1.2.2.2.2.1]
    · have e1 := (m3 d' 0).1.trans e
      refine ⟨up d' 174 3 0, ?_, MS.u3 d' 0, (m3 d' 0).2⟩
      unfold m_X12_count_174
      rw [pf_v, w32_id hw, within_i hw (by omega), cl_rt, dec_f (by omega), bi_f, t0_0, if_pos rfl, w32_id (by omega), if_pos (by omega), within_i hw (by omega), cl_rt, dec_f (by omega), bi_f, t0_0, if_pos rfl, w32_id (by omega), if_pos (by omega), isSkin_t q.1 e1 (by unfold I32; omega), cl_rt, dec_t (by omega), bi_t, t1_0, if_neg ne10, sk_of e1 (by omega), cl_rt]
  · by_cases h14 : 0 ≤ w ∧ w ≤ 14
    · have val : ∃ v, m_X11_count_0 w d = rt v d ∧ ∀ d', d' 175 = d 175 → d' 174 7 = d 174 7 → ∃ d2, m_X12_count_174 w d' = rt v d2 ∧ MS d' d2 ∧ d2 174 3 = 0 := by
        have cases' : w = 0 ∨ w = 1 ∨ w = 2 ∨ w = 3 ∨ w = 4 ∨ w = 5 ∨ w = 6 ∨ w = 7 ∨ w = 8 ∨ w = 9 ∨ w = 10 ∨ w = 11 ∨ w = 12 ∨ w = 13 ∨ w = 14 := by omega
        have md : ∀ d' : D9, d' 175 = d 175 → d' 174 7 = d 174 7 → m_X12_count_174 w d' = rt (if w ≤ 5 then d 175 w.toNat else if w = 6 then d 174 7 else if w ≤ 13 then d 175 (6 + w - 7).toNat else d 175 1144) (up d' 174 3 0) := by
          intro d' e e7
          have e1 := (m3 d' 0).1.trans e
          unfold m_X12_count_174
          rw [pf_v, w32_id hw, within_i hw (by omega), cl_rt, w32_bi, w32_id (by omega), within_i hw (by omega), cl_rt, w32_bi, w32_id (by omega)]
          by_cases x5 : w ≤ 5
          · rw [dec_t (by omega), bi_t, if_neg ne10, ld_in (by omega), e1, if_pos x5]
          · rw [dec_f (show ¬ (0 ≤ w ∧ w ≤ 5) by omega), bi_f, if_pos rfl, if_neg x5]
            by_cases x6 : w = 6
            · rw [if_neg (by omega), if_pos x6]
              show rt (d' 174 7) _ = _
              rw [e7]
            · rw [if_pos x6, if_neg x6]
              by_cases x13 : w ≤ 13
              · rw [dec_t (by omega), bi_t, if_neg ne10, ld_in (by omega), e1, if_pos x13]
              · rw [dec_f (show ¬ (7 ≤ w ∧ w ≤ 13) by omega), bi_f, if_pos rfl, if_neg (by omega), ld_in (by omega), e1, if_neg x13]
                rfl
        have fin : ∀ v, (if w ≤ 5 then d 175 w.toNat else if w = 6 then d 174 7 else if w ≤ 13 then d 175 (6 + w - 7).toNat else d 175 1144) = v → m_X11_count_0 w d = rt v d → ∃ v, m_X11_count_0 w d = rt v d ∧ ∀ d', d' 175 = d 175 → d' 174 7 = d 174 7 → ∃ d2, m_X12_count_174 w d' = rt v d2 ∧ MS d' d2 ∧ d2 174 3 = 0 := by
          intro v hv hc
          exact ⟨v, hc, fun d' a b => ⟨up d' 174 3 0, by rw [md d' a b, hv], MS.u3 d' 0, m3w d' 0⟩⟩
        rcases cases' with rfl | rfl | rfl | rfl | rfl | rfl | rfl | rfl | rfl | rfl | rfl | rfl | rfl | rfl | rfl
        · exact fin (d 2 0) r0.symm rfl
        · exact fin (d 9 0) r1.symm rfl
        · exact fin (d 2 1) r2.symm rfl
        · exact fin (d 33 0) r3.symm rfl
        · exact fin (d 22 0) l0.symm rfl
        · exact fin (d 23 0) r5.symm rfl
        · exact fin (d 51 1) h7.symm rfl
        · exact fin (d 22 1) l1.symm rfl
        · exact fin (d 22 2) l2.symm rfl
        · exact fin (d 22 3) l3.symm rfl
        · exact fin (d 22 4) l4.symm rfl
        · exact fin (d 22 5) l5.symm rfl
        · exact fin (d 22 6) l6.symm rfl
        · exact fin (d 22 7) l7.symm rfl
        · exact fin (d 28 0) r14.symm rfl
      obtain ⟨v, v1, v2⟩ := val
      exact Or.inl ⟨v, d, v1, SM.rf d, fun d' s => v2 d' s.t s.2.2.1⟩
    · refine AG.ret q (-1) ?_ (fun d' q' e => ?_)
      · unfold m_X11_count_0
        rw [w32_id hw, w32_id (by omega)]
        by_cases x : w < 100
        · rw [if_pos x, if_neg (by omega), if_neg (by omega), if_neg (by omega), if_neg (by omega), if_neg (by omega), if_neg (by omega), if_neg (by omega), if_neg (by omega), if_neg (by omega), if_neg (by omega), if_neg (by omega), if_neg (by omega), if_neg (by omega), if_neg (by omega), if_neg (by omega)]
        · rw [if_neg x, r1, w32_id (by omega), w32_id (by omega), if_pos (by omega)]
      · have e1 := (m3 d' 0).1.trans e
        refine ⟨up d' 174 3 0, ?_, MS.u3 d' 0, (m3 d' 0).2⟩
        have wr := w32_rng (w - 100)
        have sk0 : m_X12_isSkin_174 (w - 100) (up d' 174 3 0) = rt 0 (up d' 174 3 0) := by
          have eq : m_X12_isSkin_174 (w - 100) (up d' 174 3 0) = m_X12_isSkin_174 (w32 (w - 100)) (up d' 174 3 0) := by
            unfold m_X12_isSkin_174; rw [w32_w32]
          rw [eq, isSkin_t q.1 e1 wr, dec_f, bi_f]
          intro h
          by_cases y : -2147483648 ≤ w - 100
          · rw [w32_id (by omega)] at h; omega
          · have : w32 (w - 100) = w - 100 + 4294967296 := by unfold w32; rw [Int.bmod_def]; split <;> omega
            omega
        unfold m_X12_count_174
        rw [pf_v, w32_id hw, within_i hw (by omega), cl_rt, dec_f (by omega), bi_f, t0_0, if_pos rfl, w32_id (by omega), if_pos (by omega), within_i hw (by omega), cl_rt, dec_f (by omega), bi_f, t0_0, if_pos rfl, w32_id (by omega), if_pos (by omega), sk0, cl_rt, t0_0, if_pos rfl]
theorem o_fault {w : Int} {d : D9} (h2 : d 51 2 = d 174 15) (h3 : d 51 3 = d 174 16) : AG d (m_X11_fault_0 w d) (m_X12_fault_174 w) fZ := by
  refine Or.inl ⟨if w32 w = 0 then d 51 2 else if w32 w = 1 then d 51 3 else -1, d, ?_, SM.rf d, fun d' s => ⟨up d' 174 3 0, ?_, MS.u3 d' 0, m3w d' 0⟩⟩
  · unfold m_X11_fault_0
    rw [t1_0]
    by_cases x : w32 w = 0
    · rw [if_neg (by omega), if_pos x]
    · rw [if_pos x, if_neg x]
      by_cases y : w32 w = 1
      · rw [if_neg (by omega), if_pos y]
      · rw [if_pos y, if_neg y]
  · unfold m_X12_fault_174
    rw [pf_v, t1_0, show (up d' 174 3 0) 174 16 = d' 174 16 from rfl, show (up d' 174 3 0) 174 15 = d' 174 15 from rfl, s.2.2.2.1, s.2.2.2.2.1, h2, h3]
    by_cases x : w32 w = 0
    · rw [if_neg (by omega), if_pos x]
    · rw [if_pos x, if_neg x]
      by_cases y : w32 w = 1
      · rw [if_neg (by omega), if_pos y]
      · rw [if_pos y, if_neg y]
theorem o_upper {d : D9} (h : d 53 0 = d 174 20) : AG d (m_X11_upper_0 d) m_X12_upper_174 fZ :=
  Or.inl ⟨d 53 0, d, rfl, SM.rf d, fun d' s => ⟨up d' 174 3 0, by
    show rt (d' 174 20) _ = _
    rw [s.2.2.2.2.2.1, h], MS.u3 d' 0, m3w d' 0⟩⟩
theorem o_lower {d : D9} (h : d 53 1 = d 174 21) : AG d (m_X11_lower_0 d) m_X12_lower_174 fZ :=
  Or.inl ⟨d 53 1, d, rfl, SM.rf d, fun d' s => ⟨up d' 174 3 0, by
    show rt (d' 174 21) _ = _
    rw [s.2.2.2.2.2.2, h], MS.u3 d' 0, m3w d' 0⟩⟩

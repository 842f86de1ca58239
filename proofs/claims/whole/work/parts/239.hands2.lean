/-! calls on hands: the ways to refuse -/
theorem hfa_0 {t : Nat → Int} {p : Int} (h : (0 ≤ p ∧ p < t 0) ∧ pt t p 0 = 0) : hfa t p = 0 := by
  unfold hfa; rw [if_pos h.1, if_pos h.2]
theorem hfa_1 {t : Nat → Int} {p : Int} (h : ¬ (0 ≤ p ∧ p < t 0)) : hfa t p = 1 := by
  unfold hfa; rw [if_neg h]
theorem hfa_2 {t : Nat → Int} {p : Int} (h : 0 ≤ p ∧ p < t 0) (h2 : ¬ pt t p 0 = 0) : hfa t p = 2 := by
  unfold hfa; rw [if_pos h, if_neg h2]
theorem m3w (d : D9) (v : Int) : (up d 174 3 v) 174 3 = v := up_same _ _ _ _
/-- the model refuses: its fault is laid, nothing else is done -/
theorem ref3 {d' : D9} {x : Option R9} {v b : Int} (hv : 1 ≤ v ∧ v ≤ 3) (hx : x = rt b (up d' 174 3 v)) : ∃ b' d2, x = rt b' d2 ∧ MS d' d2 ∧ d2 174 3 = v := ⟨b, _, hx, MS.u3 d' v, m3w d' v⟩
/-! like -/
theorem o_like {p f : Int} {d : D9} (q : Q7 d) (hp : I32 p) (hf : I32 f) : AG d (m_X11_like_0 p f d) (m_X12_like_174 p f) f1 := by
  obtain ⟨n0, n1, n2, n3⟩ := TKn q.1
  have ha := q_askHand q.1 q.2 hp
  by_cases hc : 0 ≤ p ∧ p < d 175 0
  · by_cases hk : pt (d 175) p 0 = 0
    · by_cases hD : -1 ≤ f ∧ f ≤ 4
      · refine AG.ret q (cL (d 175) p f (-1) (d 175 3).toNat) ?_ (fun d' q' e => ?_)
        · unfold m_X11_like_0
          rw [ha, if_pos hc, if_pos hk, cl_rt, ask_i hf (by omega), if_pos hD, cl_rt, q_likesOf q.1 q.2 hc hD (by omega), cl_rt]
        · have e1 := (m3 d' 0).1.trans e
          refine ⟨up d' 174 3 0, ?_, MS.u3 d' 0, (m3 d' 0).2⟩
          unfold m_X12_like_174
          rw [p_fingerFault q.1 e hp hf (by omega), hfa_0 ⟨hc, hk⟩, if_pos rfl, if_pos hD, cl_rt, pf_v, m3w, t0_0, if_pos (by omega)]
          have z := (fix_fu (z := fun _ _ _ _ _ => none) (B := fun k => b_X12_like_174_c25 k) (fun k h c => k p f c h (up d' 174 3 0)) 0 (d 175 3) (fun h c => c + bi ((decide ((-1 : Int) = -1) || decide (hd (d 175) h 0 = -1)) && lik (d 175) h p f)) (fun h c => 0 ≤ h) (fun c => rt c (up d' 174 3 0)) 0 (by omega) (by omega) ?_ ?_).2
          · rw [Int.sub_zero] at z; exact z
          · intro k' c hI
            simp only [b_X12_like_174_c25]
            rw [ld_in (by omega), show ((3 : Int).toNat) = 3 from rfl, e1, if_pos (Int.le_refl _)]
          · intro k' h c hlt hI
            refine ⟨by omega, ?_⟩
            simp only [b_X12_like_174_c25]
            rw [ld_in (by omega), show ((3 : Int).toNat) = 3 from rfl, e1, w32_id (by omega), w32_id (by omega), if_neg (by omega), p_isLike q.1 e1 ⟨hI, hlt⟩ hc hD, cl_rt, w32_bi, lt_v, lt_v]
            cases lik (d 175) h p f <;> simp [bi]
      · refine AG.thr q 0 ?_ (fun d' q' e => ?_)
        · unfold m_X11_like_0
          rw [ha, if_pos hc, if_pos hk, cl_rt, ask_i hf (by omega), if_neg hD, cl_th]
        · unfold m_X12_like_174
          rw [p_fingerFault q.1 e hp hf (by omega), hfa_0 ⟨hc, hk⟩, if_pos rfl, if_neg hD, cl_rt, pf_v, m3w, if_neg (by decide)]
          exact ref3 (v := 3) (by omega) rfl
    · refine AG.thr q 1 ?_ (fun d' q' e => ?_)
      · unfold m_X11_like_0
        rw [ha, if_pos hc, if_neg hk, cl_th]
      · unfold m_X12_like_174
        rw [p_fingerFault q.1 e hp hf (by omega), hfa_2 hc hk, if_neg (by omega), cl_rt, pf_v, m3w, if_neg (by decide)]
        exact ref3 (v := 2) (by omega) rfl
  · refine AG.thr q 2 ?_ (fun d' q' e => ?_)
    · unfold m_X11_like_0
      rw [ha, if_neg hc, cl_th]
    · unfold m_X12_like_174
      rw [p_fingerFault q.1 e hp hf (by omega), hfa_1 hc, if_neg (by omega), cl_rt, pf_v, m3w, if_neg (by decide)]
      exact ref3 (v := 1) (by omega) rfl
/-! due, stumps -/
def duS (t : Nat → Int) (p f h : Int) (c : Int × Int) : Int × Int := if lik t h p f = true then (c.1 + hd t h (1 + f), c.2 + 1) else c
def duF (t : Nat → Int) (p f : Int) : Int × Int := fo (duS t p f) (t 3).toNat 0 (0, 0)
def due7 (t : Nat → Int) (p f : Int) : Int := if (duF t p f).2 = 0 then -1 else (duF t p f).1 / (duF t p f).2
theorem duF_rng {t : Nat → Int} (k : TK t) {p f : Int} (hf : 0 ≤ f ∧ f ≤ 4) : (0 ≤ (duF t p f).2 ∧ (duF t p f).2 ≤ 40) ∧ (duF t p f).2 ≤ (duF t p f).1 ∧ (duF t p f).1 ≤ 99 * (duF t p f).2 := by
  obtain ⟨n0, n1, n2, n3⟩ := TKn k
  have := fo_inv (g := duS t p f) (fun i c => (0 ≤ c.2 ∧ c.2 ≤ i) ∧ c.2 ≤ c.1 ∧ c.1 ≤ 99 * c.2) (t 3).toNat 0 (0, 0) (by omega) (fun j c h1 h2 h => by
    have a := (TKh k j h1 (by omega)).2 f hf.1 (by omega)
    unfold duS
    split
    · dsimp only; omega
    · omega)
  unfold duF; omega
theorem due_rng {t : Nat → Int} (k : TK t) {p f : Int} (hf : 0 ≤ f ∧ f ≤ 4) : due7 t p f = -1 ∨ (1 ≤ due7 t p f ∧ due7 t p f ≤ 99) := by
  have r := duF_rng k (p := p) hf
  unfold due7
  by_cases x : (duF t p f).2 = 0
  · rw [if_pos x]; omega
  · rw [if_neg x]
    right
    have h1 : 1 ≤ (duF t p f).1 / (duF t p f).2 := Int.le_ediv_of_mul_le (by omega) (by omega)
    have h2 : (duF t p f).1 / (duF t p f).2 < 100 := Int.ediv_lt_of_lt_mul (by omega) (by omega)
    omega
theorem q_due {p f : Int} {d : D9} {t : Nat → Int} (k : TK t) (r : RW d t) (hp : 0 ≤ p ∧ p < t 0) (hf : 0 ≤ f ∧ f ≤ 4) : m_X10_dueOf_1 p f d = rt (due7 t p f) d := by
  obtain ⟨n0, n1, n2, n3⟩ := TKn k
  have z := (fix_fu (z := fun _ _ _ _ _ _ => none) (B := fun k => b_X10_dueOf_1_c8 k) (fun k h (c : Int × Int) => k p f c.1 c.2 h d) 0 (t 3) (duS t p f) (fun h c => 0 ≤ h ∧ (0 ≤ c.2 ∧ c.2 ≤ h) ∧ c.2 ≤ c.1 ∧ c.1 ≤ 99 * c.2) (fun c => rt (if c.2 = 0 then -1 else c.1 / c.2) d) (0, 0) (by omega) (by omega) ?_ ?_).2
  · rw [Int.sub_zero] at z; exact z
  · intro k' c hI
    simp only [b_X10_dueOf_1_c8]
    rw [(RWh r).1, if_pos (Int.le_refl _), w32_id (by omega)]
    by_cases x : c.2 = 0
    · rw [if_pos (by omega), if_pos x]
    · rw [if_neg (by omega), if_neg x, dv_in (by omega), div9_in (by omega), tdiv_pos (by omega)]
  · intro k' h c hlt hI
    have a := (TKh k h hI.1 hlt).2 f hf.1 (by omega)
    refine ⟨by
      unfold duS
      split
      · dsimp only; omega
      · omega, ?_⟩
    simp only [b_X10_dueOf_1_c8]
    rw [(RWh r).1, w32_id (by omega), w32_id (by omega), if_neg (by omega), q_isLike k r ⟨hI.1, hlt⟩ hp (by omega), cl_rt, w32_bi, ld_in (by omega), ((RWh r).2 h hI.1 hlt).2 f hf.1 (by omega), lt_v]
    unfold duS
    cases lik t h p f <;> simp [bi]
theorem p_due {p f : Int} {d : D9} {t : Nat → Int} (k : TK t) (e : d 175 = t) (hp : 0 ≤ p ∧ p < t 0) (hf : 0 ≤ f ∧ f ≤ 4) : m_X12_dueOf_174 p f d = rt (due7 t p f) d := by
  obtain ⟨n0, n1, n2, n3⟩ := TKn k
  have z := (fix_fu (z := fun _ _ _ _ _ _ => none) (B := fun k => b_X12_dueOf_174_c8 k) (fun k h (c : Int × Int) => k p f c.2 c.1 h d) 0 (t 3) (duS t p f) (fun h c => 0 ≤ h ∧ (0 ≤ c.2 ∧ c.2 ≤ h) ∧ c.2 ≤ c.1 ∧ c.1 ≤ 99 * c.2) (fun c => rt (if c.2 = 0 then -1 else c.1 / c.2) d) (0, 0) (by omega) (by omega) ?_ ?_).2
  · rw [Int.sub_zero] at z; exact z
  · intro k' c hI
    simp only [b_X12_dueOf_174_c8]
    rw [ld_in (by omega), show ((3 : Int).toNat) = 3 from rfl, e, if_pos (Int.le_refl _), w32_id (by omega)]
    by_cases x : c.2 = 0
    · rw [if_neg (by omega), if_pos x]
    · rw [if_pos x, if_neg x, dv_in (by omega), div9_in (by omega), tdiv_pos (by omega)]
  · intro k' h c hlt hI
    have a := (TKh k h hI.1 hlt).2 f hf.1 (by omega)
    refine ⟨by
      unfold duS
      split
      · dsimp only; omega
      · omega, ?_⟩
    simp only [b_X12_dueOf_174_c8]
    rw [ld_in (by omega), show ((3 : Int).toNat) = 3 from rfl, e, w32_id (by omega), w32_id (by omega), if_neg (by omega), p_isLike k e ⟨hI.1, hlt⟩ hp (by omega), cl_rt, w32_bi, hd_of e (by omega), cl_rt, lt_v]
    unfold duS
    cases lik t h p f <;> simp [bi]
theorem o_due {p f : Int} {d : D9} (q : Q7 d) (hp : I32 p) (hf : I32 f) : AG d (m_X11_due_0 p f d) (m_X12_due_174 p f) f1 := by
  have ha := q_askHand q.1 q.2 hp
  by_cases hc : 0 ≤ p ∧ p < d 175 0
  · by_cases hk : pt (d 175) p 0 = 0
    · by_cases hd : 0 ≤ f ∧ f ≤ 4
      · refine AG.ret q (due7 (d 175) p f) ?_ (fun d' q' e => ?_)
        · unfold m_X11_due_0
          rw [ha, if_pos hc, if_pos hk, cl_rt, ask_i hf (by omega), if_pos hd, cl_rt, q_due q.1 q.2 hc hd, cl_rt]
        · have e1 := (m3 d' 0).1.trans e
          refine ⟨up d' 174 3 0, ?_, MS.u3 d' 0, (m3 d' 0).2⟩
          unfold m_X12_due_174
          rw [p_fingerFault q.1 e hp hf (by omega), hfa_0 ⟨hc, hk⟩, if_pos rfl, if_pos hd, cl_rt, pf_v, m3w, t0_0, if_pos (by omega), p_due q.1 e1 hc hd, cl_rt]
      · refine AG.thr q 0 ?_ (fun d' q' e => ?_)
        · unfold m_X11_due_0
          rw [ha, if_pos hc, if_pos hk, cl_rt, ask_i hf (by omega), if_neg hd, cl_th]
        · unfold m_X12_due_174
          rw [p_fingerFault q.1 e hp hf (by omega), hfa_0 ⟨hc, hk⟩, if_pos rfl, if_neg hd, cl_rt, pf_v, m3w, if_neg (by decide)]
          exact ref3 (v := 3) (by omega) rfl
    · refine AG.thr q 1 ?_ (fun d' q' e => ?_)
      · unfold m_X11_due_0
        rw [ha, if_pos hc, if_neg hk, cl_th]
      · unfold m_X12_due_174
        rw [p_fingerFault q.1 e hp hf (by omega), hfa_2 hc hk, if_neg (by omega), cl_rt, pf_v, m3w, if_neg (by decide)]
        exact ref3 (v := 2) (by omega) rfl
  · refine AG.thr q 2 ?_ (fun d' q' e => ?_)
    · unfold m_X11_due_0
      rw [ha, if_neg hc, cl_th]
    · unfold m_X12_due_174
      rw [p_fingerFault q.1 e hp hf (by omega), hfa_1 hc, if_neg (by omega), cl_rt, pf_v, m3w, if_neg (by decide)]
      exact ref3 (v := 1) (by omega) rfl
def stm (t : Nat → Int) (p f : Int) : Bool := decide (2 * pt t p (3 + f) < due7 t p f)
theorem q_stump {p f : Int} {d : D9} {t : Nat → Int} (k : TK t) (r : RW d t) (hp : 0 ≤ p ∧ p < t 0) (hf : 0 ≤ f ∧ f ≤ 4) : m_X10_isStump_1 p f (due7 t p f) d = rt (bi (stm t p f)) d := by
  have n0 := (TKn k).1
  have a1 := (TKp k p hp.1 hp.2).2.2.2 f hf.1 (by omega)
  have a2 := due_rng k (p := p) hf
  unfold m_X10_isStump_1 stm
  rw [ld_in (by omega), ((RWp r).2.2.1 p hp.1 hp.2).2.2.2 f hf.1 (by omega), w32_id (by omega), w32_id (by omega)]
  by_cases x : 2 * pt t p (3 + f) < due7 t p f
  · rw [if_neg (by omega), dec_t x]; rfl
  · rw [if_pos (by omega), dec_f x]; rfl
theorem p_stump {p f : Int} {d : D9} {t : Nat → Int} (k : TK t) (e : d 175 = t) (hp : 0 ≤ p ∧ p < t 0) (hf : 0 ≤ f ∧ f ≤ 4) : m_X12_isStump_174 p f d = rt (bi (stm t p f)) d := by
  have n0 := (TKn k).1
  have a1 := (TKp k p hp.1 hp.2).2.2.2 f hf.1 (by omega)
  have a2 := due_rng k (p := p) hf
  unfold m_X12_isStump_174 stm
  rw [fin_of e (by omega), cl_rt, p_due k e hp hf, cl_rt, w32_id (by omega), w32_id (by omega)]
  by_cases x : 2 * pt t p (3 + f) < due7 t p f
  · rw [if_neg (by omega), dec_t x]; rfl
  · rw [if_pos (by omega), dec_f x]; rfl
theorem or9_0 {x : Int} (h : 0 ≤ x ∧ x ≤ 2147483647) : or9 x 0 = x := by
  rw [or9_n (by omega)]; simp; omega
theorem o_stumps {p : Int} {d : D9} (q : Q7 d) (hp : I32 p) : AG d (m_X11_stumps_0 p d) (m_X12_stumps_174 p) fS := by
  have ha := q_askHand q.1 q.2 hp
  by_cases hc : 0 ≤ p ∧ p < d 175 0
  · by_cases hk : pt (d 175) p 0 = 0
    · have step : ∀ f v, 0 ≤ f → f < 5 → 0 ≤ v ∧ v < 1073741824 → 0 ≤ (if stm (d 175) p f = true then or9 v (shl9 1 f) else v) ∧ (if stm (d 175) p f = true then or9 v (shl9 1 f) else v) < 1073741824 := by
        intro f v h0 h5 hv
        have rk := shl9_rng (i := f) (by omega)
        split
        · exact or9_rng (by omega)
        · exact hv
      refine AG.ret q (fo (fun f v => if stm (d 175) p f = true then or9 v (shl9 1 f) else v) 5 0 0) ?_ (fun d' q' e => ?_)
      · unfold m_X11_stumps_0
        rw [ha, if_pos hc, if_pos hk, cl_rt]
        have z := (fix_fu (z := fun _ _ _ _ => none) (B := fun k => b_X11_stumps_0_c9 k) (fun k f v => k p v f d) 0 5 (fun f v => if stm (d 175) p f = true then or9 v (shl9 1 f) else v) (fun f v => 0 ≤ f ∧ 0 ≤ v ∧ v < 1073741824) (fun v => rt v d) 0 (by omega) (by omega) ?_ ?_).2
        · exact z
        · intro k' v hI
          simp only [b_X11_stumps_0_c9]
          rw [if_pos (Int.le_refl _)]
        · intro k' f v hlt hI
          refine ⟨⟨by omega, step f v hI.1 hlt hI.2⟩, ?_⟩
          simp only [b_X11_stumps_0_c9]
          rw [w32_id (by omega), w32_id (by omega), if_neg (by omega), q_due q.1 q.2 hc (by omega), cl_rt, q_stump q.1 q.2 hc (by omega), cl_rt, w32_bi, lt_v]
          cases stm (d 175) p f <;> simp [bi]
      · have e1 := (m3 d' 0).1.trans e
        refine ⟨up d' 174 3 0, ?_, MS.u3 d' 0, (m3 d' 0).2⟩
        unfold m_X12_stumps_174
        rw [p_handFault q.1 e hp, hfa_0 ⟨hc, hk⟩, cl_rt, pf_v, m3w, t0_0, if_pos (by omega)]
        have z := (fix_fu (z := fun _ _ _ _ => none) (B := fun k => b_X12_stumps_174_c22 k) (fun k f v => k p v f (up d' 174 3 0)) 0 5 (fun f v => if stm (d 175) p f = true then or9 v (shl9 1 f) else v) (fun f v => 0 ≤ f ∧ 0 ≤ v ∧ v < 1073741824) (fun v => rt v (up d' 174 3 0)) 0 (by omega) (by omega) ?_ ?_).2
        · exact z
        · intro k' v hI
          simp only [b_X12_stumps_174_c22]
          rw [if_pos (Int.le_refl _)]
        · intro k' f v hlt hI
          refine ⟨⟨by omega, step f v hI.1 hlt hI.2⟩, ?_⟩
          simp only [b_X12_stumps_174_c22]
          rw [w32_id (by omega), w32_id (by omega), if_neg (by omega), p_stump q.1 e1 hc (by omega), cl_rt, w32_bi, lt_v, lt_v, or9_0 (by omega)]
          cases stm (d 175) p f <;> simp [bi]
    · refine AG.thr q 1 ?_ (fun d' q' e => ?_)
      · unfold m_X11_stumps_0
        rw [ha, if_pos hc, if_neg hk, cl_th]
      · unfold m_X12_stumps_174
        rw [p_handFault q.1 e hp, hfa_2 hc hk, cl_rt, pf_v, m3w, if_neg (by decide)]
        exact ref3 (v := 2) (by omega) rfl
  · refine AG.thr q 2 ?_ (fun d' q' e => ?_)
    · unfold m_X11_stumps_0
      rw [ha, if_neg hc, cl_th]
    · unfold m_X12_stumps_174
      rw [p_handFault q.1 e hp, hfa_1 hc, cl_rt, pf_v, m3w, if_neg (by decide)]
      exact ref3 (v := 1) (by omega) rfl

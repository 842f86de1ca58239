/-! hands -/
theorem hd_of {d : D9} {t : Nat → Int} (e : d 175 = t) {h w : Int} (hh : (0 ≤ h ∧ h < 40) ∧ 0 ≤ w ∧ w < 6) : m_X12_ofHand_174 h w d = rt (hd t h w) d := by rw [p_ofHand hh, e]
theorem fin_of {d : D9} {t : Nat → Int} (e : d 175 = t) {p f : Int} (hh : (0 ≤ p ∧ p < 30) ∧ 0 ≤ f ∧ f < 5) : m_X12_finger_174 p f d = rt (pt t p (3 + f)) d := by
  unfold m_X12_finger_174; rw [pt_of e (by omega), cl_rt]
def unl (t : Nat → Int) (h p ex f : Int) : Bool := decide (f ≠ ex ∧ 0 < pt t p (3 + f) ∧ (t 12 < pt t p (3 + f) - hd t h (1 + f) ∨ t 12 < hd t h (1 + f) - pt t p (3 + f)))
def lik (t : Nat → Int) (h p e : Int) : Bool := !ex (unl t h p e) 5 0
theorem q_isLike {h p e : Int} {d : D9} {t : Nat → Int} (k : TK t) (r : RW d t) (hh : 0 ≤ h ∧ h < t 3) (hp : 0 ≤ p ∧ p < t 0) (he : -1 ≤ e ∧ e ≤ 4) : m_X10_isLike_1 h p e d = rt (bi (lik t h p e)) d := by
  obtain ⟨n0, n1, n2, n3⟩ := TKn k
  have h12 := (TKl k).2.2.2.2.2.2.2
  have z := fix_xu (z := fun _ _ _ _ _ => none) (B := fun k => b_X10_isLike_1_c3 k) (fun k f => k h p e f d) 0 5 (unl t h p e) (rt 0 d) (rt 1 d) (by omega) ?_ ?_
  · refine z.trans ?_
    rw [show ((5 : Int) - 0).toNat = 5 from rfl]
    unfold lik
    cases ex (unl t h p e) 5 0 <;> rfl
  · intro k'
    simp only [b_X10_isLike_1_c3]
    rw [if_pos (Int.le_refl _)]; rfl
  · intro k' f h0 hf
    have a1 := (TKp k p hp.1 hp.2).2.2.2 f h0 hf
    have a2 := (TKh k h hh.1 hh.2).2 f h0 hf
    simp only [b_X10_isLike_1_c3]
    rw [w32_id (by omega), w32_id (by omega), if_neg (by omega), ld_in (by omega), ((RWp r).2.2.1 p hp.1 hp.2).2.2.2 f h0 hf, ld_in (by omega), ((RWh r).2 h hh.1 hh.2).2 f h0 hf, lt_v, w32_id (by omega), w32_id (by omega), abs9_in (by omega), w32_id (by split <;> omega), (RWl r).2.2.2.2.2.2.2, w32_id (by omega)]
    unfold unl
    by_cases x : f = e
    · rw [if_pos x, if_neg (by simp [x])]
    · rw [if_neg x]
      by_cases y : pt t p (3 + f) ≤ 0
      · rw [if_pos y, if_neg (by simp; omega)]
      · rw [if_neg y]
        by_cases w : (if 0 ≤ pt t p (3 + f) - hd t h (1 + f) then pt t p (3 + f) - hd t h (1 + f) else -(pt t p (3 + f) - hd t h (1 + f))) ≤ t 12
        · rw [if_pos w, if_neg]
          simp only [decide_eq_true_eq]
          split at w <;> omega
        · rw [if_neg w, if_pos]
          · rfl
          · simp only [decide_eq_true_eq]
            split at w <;> omega
theorem p_like_l {h p e : Int} {d : D9} {t : Nat → Int} (k : TK t) (e1 : d 175 = t) (hh : 0 ≤ h ∧ h < t 3) (hp : 0 ≤ p ∧ p < t 0) (he : -1 ≤ e ∧ e ≤ 4) : ∀ (m F : Nat) (f : Int), m + 1 < F → f + m = 5 → 0 ≤ f → fix9 (fun _ _ _ _ _ _ => none) (fun k => b_X12_isLike_174_c6 k) F h p e 1 f d = rt (bi (!ex (unl t h p e) m f)) d
  | 0, F + 1, f, _, hf, h0 => by
    rw [fx5, b_X12_isLike_174_c6, if_pos (by rw [show f = 5 by omega]; exact Int.le_refl _)]
    rfl
  | m + 1, F + 2, f, hF, hf, h0 => by
    obtain ⟨n0, n1, n2, n3⟩ := TKn k
    have h12 := (TKl k).2.2.2.2.2.2.2
    have a1 := (TKp k p hp.1 hp.2).2.2.2 f h0 (by omega)
    have a2 := (TKh k h hh.1 hh.2).2 f h0 (by omega)
    have no : fix9 (fun _ _ _ _ _ _ => none) (fun k => b_X12_isLike_174_c6 k) (F + 1) h p e 0 (f + 1) d = rt 0 d := by
      rw [fx5, b_X12_isLike_174_c6, if_pos t0_0]
      split <;> rfl
    have ih := p_like_l k e1 hh hp he m (F + 1) (f + 1) (by omega) (by omega) (by omega)
    rw [fx5, b_X12_isLike_174_c6, w32_id (by omega), w32_id (by omega), if_neg (by omega), t1_0, if_neg ne10, w32_id (by omega), fin_of e1 (by omega), cl_rt, fin_of e1 (by omega), cl_rt, hd_of e1 (by omega), cl_rt, ld_in (by omega), show ((12 : Int).toNat) = 12 from rfl, e1, w32_id (by omega), w32_id (by omega), abs9_in (by omega), w32_id (by split <;> omega), no, ih]
    simp only [ex]
    unfold unl
    by_cases x : f = e
    · rw [if_pos x]; simp [x]
    · rw [if_neg x]
      by_cases y : pt t p (3 + f) = 0
      · rw [if_pos y]; simp [y]
      · rw [if_neg y]
        by_cases w : t 12 < (if 0 ≤ pt t p (3 + f) - hd t h (1 + f) then pt t p (3 + f) - hd t h (1 + f) else -(pt t p (3 + f) - hd t h (1 + f)))
        · rw [if_pos w, dec_t (by split at w <;> omega)]; rfl
        · rw [if_neg w, dec_f (by split at w <;> omega)]; rfl
  | _, 0, _, hF, _, _ => absurd hF (by omega)
  | _ + 1, 1, _, hF, _, _ => absurd hF (by omega)
theorem p_isLike {h p e : Int} {d : D9} {t : Nat → Int} (k : TK t) (e1 : d 175 = t) (hh : 0 ≤ h ∧ h < t 3) (hp : 0 ≤ p ∧ p < t 0) (he : -1 ≤ e ∧ e ≤ 4) : m_X12_isLike_174 h p e d = rt (bi (lik t h p e)) d := by
  unfold m_X12_isLike_174 m_X12_isLike_174_c6
  exact p_like_l k e1 hh hp he 5 FU 0 (by decide) (by omega) (by omega)
/-- how many of the first n hands are of a sort, and how many of them are like -/
def cM (t : Nat → Int) (s : Int) (n : Nat) : Int := fo (fun h c => c + bi (decide (hd t h 0 = s))) n 0 0
def cL (t : Nat → Int) (p e s : Int) (n : Nat) : Int := fo (fun h c => c + bi ((decide (s = -1) || decide (hd t h 0 = s)) && lik t h p e)) n 0 0
theorem cM_rng (t : Nat → Int) (s : Int) (n : Nat) : 0 ≤ cM t s n ∧ cM t s n ≤ n := by
  have := fo_inv (g := fun h c => c + bi (decide (hd t h 0 = s))) (fun i c => 0 ≤ c ∧ c ≤ i) n 0 0 (by omega) (fun j c _ _ h => by have := bi_rng (decide (hd t j 0 = s)); omega)
  unfold cM; omega
theorem cL_rng (t : Nat → Int) (p e s : Int) (n : Nat) : 0 ≤ cL t p e s n ∧ cL t p e s n ≤ n := by
  have := fo_inv (g := fun h c => c + bi ((decide (s = -1) || decide (hd t h 0 = s)) && lik t h p e)) (fun i c => 0 ≤ c ∧ c ≤ i) n 0 0 (by omega) (fun j c _ _ h => by have := bi_rng ((decide (s = -1) || decide (hd t j 0 = s)) && lik t j p e); omega)
  unfold cL; omega
theorem cM_s (t : Nat → Int) (s : Int) (n : Nat) : cM t s (n + 1) = cM t s n + bi (decide (hd t n 0 = s)) := by
  unfold cM; rw [fo_last, Int.zero_add]
theorem cL_s (t : Nat → Int) (p e s : Int) (n : Nat) : cL t p e s (n + 1) = cL t p e s n + bi ((decide (s = -1) || decide (hd t n 0 = s)) && lik t n p e) := by
  unfold cL; rw [fo_last, Int.zero_add]
theorem cL_le (t : Nat → Int) (p e s : Int) (hs : s ≠ -1) : ∀ n : Nat, cL t p e s n ≤ cM t s n
  | 0 => Int.le_refl _
  | n + 1 => by
    have ih := cL_le t p e s hs n
    rw [cM_s, cL_s, dec_f hs, Bool.false_or]
    cases decide (hd t n 0 = s) <;> cases lik t n p e <;> simp [bi] <;> omega
theorem q_likesOf {p e s : Int} {d : D9} {t : Nat → Int} (k : TK t) (r : RW d t) (hp : 0 ≤ p ∧ p < t 0) (he : -1 ≤ e ∧ e ≤ 4) (hs : -1 ≤ s ∧ s ≤ 3) : m_X10_likesOf_1 p e s d = rt (cL t p e s (t 3).toNat) d := by
  obtain ⟨n0, n1, n2, n3⟩ := TKn k
  have z := (fix_fu (z := fun _ _ _ _ _ _ => none) (B := fun k => b_X10_likesOf_1_c6 k) (fun k h c => k p e s c h d) 0 (t 3) (fun h c => c + bi ((decide (s = -1) || decide (hd t h 0 = s)) && lik t h p e)) (fun h c => 0 ≤ h) (fun c => rt c d) 0 (by omega) (by omega) ?_ ?_).2
  · rw [Int.sub_zero] at z; exact z
  · intro k' c hI
    simp only [b_X10_likesOf_1_c6]
    rw [(RWh r).1, if_pos (Int.le_refl _)]
  · intro k' h c hlt hI
    have a0 := (TKh k h hI hlt).1
    refine ⟨by omega, ?_⟩
    simp only [b_X10_likesOf_1_c6]
    rw [(RWh r).1, w32_id (by omega), w32_id (by omega), if_neg (by omega), w32_id (by omega), w32_id (by omega), ld_in (by omega), ((RWh r).2 h hI hlt).1, w32_id (by omega), m_X10_likesOf_1_c37, q_isLike k r ⟨hI, hlt⟩ hp he, cl_rt, w32_bi]
    by_cases x : s = -1
    · rw [if_pos x, dec_t x, Bool.true_or, Bool.true_and]
      cases lik t h p e <;> simp [bi]
    · rw [if_neg x, dec_f x, Bool.false_or]
      by_cases y : hd t h 0 = s
      · rw [if_neg (by omega), dec_t y, Bool.true_and]
        cases lik t h p e <;> simp [bi]
      · rw [if_pos y, dec_f y]; simp [bi]
theorem q_ofSort {s : Int} {d : D9} {t : Nat → Int} (k : TK t) (r : RW d t) (hs : 0 ≤ s ∧ s ≤ 3) : m_X1_ofSort_33 s d = rt (cM t s (t 3).toNat) d := by
  obtain ⟨n0, n1, n2, n3⟩ := TKn k
  have z := (fix_fu (z := fun _ _ _ _ => none) (B := fun k => b_X1_ofSort_33_c4 k) (fun k h c => k s c h d) 0 (t 3) (fun h c => c + bi (decide (hd t h 0 = s))) (fun h c => 0 ≤ h) (fun c => rt c d) 0 (by omega) (by omega) ?_ ?_).2
  · rw [Int.sub_zero] at z; exact z
  · intro k' c hI
    simp only [b_X1_ofSort_33_c4]
    rw [(RWh r).1, if_pos (Int.le_refl _)]
  · intro k' h c hlt hI
    have a0 := (TKh k h hI hlt).1
    refine ⟨by omega, ?_⟩
    simp only [b_X1_ofSort_33_c4]
    rw [(RWh r).1, w32_id (by omega), w32_id (by omega), if_neg (by omega), ld_in (by omega), ((RWh r).2 h hI hlt).1, w32_id (by omega), w32_id (by omega), lt_v, lt_v]
    by_cases y : hd t h 0 = s
    · rw [if_neg (by omega), dec_t y]; rfl
    · rw [if_pos y, dec_f y]; rfl
/-! what calls on hands ask -/
theorem q_askHand {p : Int} {d : D9} {t : Nat → Int} (k : TK t) (r : RW d t) (hp : I32 p) : m_X11_askHand_0 p d = if 0 ≤ p ∧ p < t 0 then (if pt t p 0 = 0 then rt 0 d else th 1 d) else th 2 d := by
  have n0 := (TKn k).1
  unfold m_X11_askHand_0
  rw [q_askPaint hp (RWp r).1 n0]
  by_cases x : 0 ≤ p ∧ p < t 0
  · have a := (TKp k p x.1 x.2).1
    rw [if_pos x, cl_rt, ld_in (by omega), ((RWp r).2.2.1 p x.1 x.2).1, w32_id (by omega), if_pos x]
  · rw [if_neg x, cl_th, if_neg x]
def hfa (t : Nat → Int) (p : Int) : Int := if 0 ≤ p ∧ p < t 0 then (if pt t p 0 = 0 then 0 else 2) else 1
theorem p_handFault {p : Int} {d : D9} {t : Nat → Int} (k : TK t) (e : d 175 = t) (hp : I32 p) : m_X12_handFault_174 p d = rt (hfa t p) d := by
  have n0 := (TKn k).1
  unfold m_X12_handFault_174 hfa
  rw [isPaint_t k e hp, cl_rt, w32_bi]
  by_cases x : 0 ≤ p ∧ p < t 0
  · have a := (TKp k p x.1 x.2).1
    rw [dec_t x, bi_t, if_pos ne10, pt_of e (by omega), cl_rt, w32_id (by omega), if_pos x]
    by_cases y : pt t p 0 = 0
    · rw [if_neg (by omega), if_pos y]
    · rw [if_pos y, if_neg y]
  · rw [dec_f x, bi_f, if_neg (by omega), if_neg x]
theorem hfa_rng (t : Nat → Int) (p : Int) : 0 ≤ hfa t p ∧ hfa t p ≤ 2 := by
  unfold hfa; split
  · split <;> omega
  · omega
theorem p_fingerFault {p f lo : Int} {d : D9} {t : Nat → Int} (k : TK t) (e : d 175 = t) (hp : I32 p) (hf : I32 f) (hlo : -1 ≤ lo ∧ lo ≤ 0) : m_X12_fingerFault_174 p f lo d = rt (if hfa t p = 0 then (if lo ≤ f ∧ f ≤ 4 then 0 else 3) else hfa t p) d := by
  have r := hfa_rng t p
  unfold m_X12_fingerFault_174
  rw [p_handFault k e hp, cl_rt, w32_id (by omega), p_handFault k e hp, cl_rt, w32_id hf, w32_id (by omega), within_i hf (by omega), cl_rt, w32_bi]
  by_cases x : hfa t p = 0
  · rw [if_pos (by omega), if_pos x]
    by_cases y : lo ≤ f ∧ f ≤ 4
    · rw [dec_t y, bi_t, if_neg ne10, if_pos y]
    · rw [dec_f y, bi_f, if_pos rfl, if_neg y]
  · rw [if_neg (by omega), if_neg x]
theorem p_sortFault {p f : Int} {d : D9} {t : Nat → Int} (k : TK t) (e : d 175 = t) (hp : I32 p) (hf : I32 f) : m_X12_sortFault_174 p f d = rt (if hfa t p = 0 then (if 0 ≤ f ∧ f ≤ 3 then 0 else 3) else hfa t p) d := by
  have r := hfa_rng t p
  unfold m_X12_sortFault_174
  rw [p_handFault k e hp, cl_rt, w32_id (by omega), p_handFault k e hp, cl_rt, w32_id hf, within_i hf (by omega), cl_rt, w32_bi]
  by_cases x : hfa t p = 0
  · rw [if_pos (by omega), if_pos x]
    by_cases y : 0 ≤ f ∧ f ≤ 3
    · rw [dec_t y, bi_t, if_neg ne10, if_pos y]
    · rw [dec_f y, bi_f, if_pos rfl, if_neg y]
  · rw [if_neg (by omega), if_neg x]

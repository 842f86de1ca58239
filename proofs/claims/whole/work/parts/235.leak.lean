/-! leaked, many, older -/
def wy (n : Int) : Int := fo (fun k w => w * k) (n - 1).toNat 2 1
theorem wy_v {n : Int} (h : 0 ≤ n ∧ n ≤ 4) : 1 ≤ wy n ∧ wy n ≤ 24 := by
  have : n = 0 ∨ n = 1 ∨ n = 2 ∨ n = 3 ∨ n = 4 := by omega
  rcases this with rfl | rfl | rfl | rfl | rfl <;> decide
def lkU (t : Nat → Int) (s : Int) : Int := if srt t s = 2 then 1 else t 11
def lkL (t : Nat → Int) (s : Int) : Int := if srt t s = 2 then 1 else t 11 + (100 - t 11) * wy (thk t s)
theorem lk_rng {t : Nat → Int} (k : TK t) {s : Int} (hs : 0 ≤ s ∧ s < t 1) : 1 ≤ lkU t s ∧ lkU t s ≤ 99 ∧ lkU t s ≤ lkL t s ∧ lkL t s ≤ 2500 := by
  have h11 := (TKl k).2.2.2.2.2.2.1
  have h4 := (TKs k s hs.1 hs.2).2.2.2.2.1
  have h5 := thk_rng (t := t) (s := s) h4.1
  have hw := wy_v (n := thk t s) (by omega)
  have m1 : (100 - t 11) * 1 ≤ (100 - t 11) * wy (thk t s) := Int.mul_le_mul_of_nonneg_left hw.1 (by omega)
  have m2 : (100 - t 11) * wy (thk t s) ≤ 99 * 24 := Int.mul_le_mul (by omega) hw.2 (by omega) (by omega)
  unfold lkU lkL
  split <;> omega
theorem q_ways {s : Int} {d : D9} {t : Nat → Int} (hs : 0 ≤ s ∧ s < 30) (h4 : 0 ≤ sk t s 4 ∧ sk t s 4 ≤ 4) (e4 : d 14 s.toNat = sk t s 4) (hC : RC7 d t s) : m_X6_waysToLie_9 s d = rt (wy (thk t s)) d := by
  have h5 := thk_rng (t := t) (s := s) h4.1
  unfold m_X6_waysToLie_9
  rw [q_thick hs h4 e4 hC, cl_rt]
  have z := (fix_fu (z := fun _ _ _ _ => none) (B := fun k => b_X6_waysToLie_9_c11 k) (fun k i w => k w (thk t s) i d) 2 (max (thk t s + 1) 2) (fun k w => w * k) (fun i w => 2 ≤ i) (fun w => rt w d) 1 (by omega) (by omega) ?_ ?_).2
  · refine z.trans ?_
    unfold wy
    rw [show (max (thk t s + 1) 2 - 2).toNat = (thk t s - 1).toNat by omega]
  · intro k w hI
    simp only [b_X6_waysToLie_9_c11]
    rw [w32_id (by omega), w32_id (by omega), if_pos (by omega)]
  · intro k i w hlt hI
    refine ⟨by omega, ?_⟩
    simp only [b_X6_waysToLie_9_c11]
    rw [w32_id (by omega), w32_id (by omega), if_neg (by omega), lt_v]
theorem q_leakU {s : Int} {d : D9} {t : Nat → Int} (k : TK t) (r : RW d t) (hs : 0 ≤ s ∧ s < t 1) : m_X10_leakUpper_1 s d = rt (lkU t s) d := by
  have n1 := (TKn k).2.1
  have h1 := srt_rng (t := t) (s := s) (TKs k s hs.1 hs.2).2.1
  unfold m_X10_leakUpper_1 lkU
  rw [ld_in (by omega), ((RWs r).2 s hs.1 hs.2).2.2.1, w32_id (by omega), w32_id (by omega), (RWl r).2.2.2.2.2.2.1]
  by_cases x : srt t s = 2 <;> simp [x]
theorem q_leakL {s : Int} {d : D9} {t : Nat → Int} (k : TK t) (r : RW d t) (hs : 0 ≤ s ∧ s < t 1) : m_X10_leakLower_1 s d = rt (lkL t s) d := by
  have n1 := (TKn k).2.1
  have hk := TKs k s hs.1 hs.2
  have h1 := srt_rng (t := t) (s := s) hk.2.1
  obtain ⟨rA, rC, rJ⟩ := (RWs r).2 s hs.1 hs.2
  unfold m_X10_leakLower_1 lkL
  rw [ld_in (by omega), rJ.1, w32_id (by omega), w32_id (by omega), (RWl r).2.2.2.2.2.2.1, q_ways (by omega) hk.2.2.2.2.1 rA.2.2.2.2.1 rC, cl_rt]
  by_cases x : srt t s = 2 <;> simp [x]
theorem thick_t {d : D9} {t : Nat → Int} (k : TK t) (e : d 175 = t) {s : Int} (h : 0 ≤ s ∧ s < t 1) : m_X12_thick_174 s d = rt (thk t s) d := by
  have n1 := (TKn k).2.1
  subst e; exact p_thick (TKl k) (by omega) (TKs k s h.1 h.2)
theorem srt_thk {t : Nat → Int} {s : Int} (h1 : 0 ≤ sk t s 1) (h : srt t s < 2) : thk t s = 0 := by
  unfold srt at h
  by_cases x : sk t s 4 = 0
  · unfold thk; rw [x]; rfl
  · rw [if_neg x] at h
    by_cases y : thk t s = 0
    · exact y
    · rw [if_neg y] at h
      exfalso
      split at h <;> omega
theorem p_layLeaked {s : Int} {d : D9} {t : Nat → Int} (k : TK t) (e : d 175 = t) (hs : 0 ≤ s ∧ s < t 1) : m_X12_layLeaked_174 s d = rt 0 (up (up d 174 22 (lkU t s)) 174 23 (lkL t s)) := by
  have n1 := (TKn k).2.1
  have h11 := (TKl k).2.2.2.2.2.2.1
  have hk := TKs k s hs.1 hs.2
  have h1 := srt_rng (t := t) (s := s) hk.2.1
  have h5 := thk_rng (t := t) (s := s) hk.2.2.2.2.1.1
  have h4 := hk.2.2.2.2.1
  unfold m_X12_layLeaked_174
  rw [srt_t k e hs, cl_rt]
  have c51 : ∀ w, m_X12_layLeaked_174_c51 (srt t s) w (lkU t s) d = rt 0 (up (up d 174 22 (lkU t s)) 174 23 (if srt t s < 2 then 100 else if srt t s = 2 then 1 else t 11 + (100 - t 11) * w)) := by
    intro w
    unfold m_X12_layLeaked_174_c51
    rw [pf_v, w32_id (by omega), w32_id (by omega), ld_in (by omega), ld_in (by omega), show ((11 : Int).toNat) = 11 from rfl, up_k (by decide), e, w32_id (by omega), pf_v, pf_v, pf_v]
    by_cases x : srt t s < 2
    · rw [if_neg (by omega), if_pos x]
    · rw [if_pos (by omega), if_neg x]
      by_cases y : srt t s = 2
      · rw [if_neg (by omega), if_pos y]
      · rw [if_pos y, if_neg y]
  have z := (fix_fu (z := fun _ _ _ _ _ => none) (B := fun k => b_X12_layLeaked_174_c11 k) (fun k i w => k s (srt t s) w i d) 2 (max (thk t s + 1) 2) (fun k w => w * k) (fun i w => 2 ≤ i) (fun w => m_X12_layLeaked_174_c51 (srt t s) w (lkU t s) d) 1 (by omega) (by omega) ?_ ?_).2
  · refine z.trans ?_
    rw [c51, show (max (thk t s + 1) 2 - 2).toNat = (thk t s - 1).toNat by omega]
    unfold lkL
    by_cases x : srt t s < 2
    · have e0 : t 11 + (100 - t 11) * wy 0 = 100 := by rw [show wy 0 = 1 from rfl]; omega
      rw [if_pos x, if_neg (by omega), srt_thk hk.2.1.1 x, e0]
    · rw [if_neg x]; rfl
  · intro k' w hI
    simp only [b_X12_layLeaked_174_c11]
    rw [thick_t k e hs, cl_rt, w32_id (by omega), w32_id (by omega), if_pos (by omega), w32_id (by omega), w32_id (by omega), ld_in (by omega), show ((11 : Int).toNat) = 11 from rfl, e, w32_id (by omega)]
    unfold lkU
    by_cases x : srt t s = 2 <;> simp [x]
  · intro k' i w hlt hI
    refine ⟨by omega, ?_⟩
    simp only [b_X12_layLeaked_174_c11]
    rw [thick_t k e hs, cl_rt, w32_id (by omega), w32_id (by omega), if_neg (by omega), lt_v]
theorem MS.u2 (d : D9) (u l : Int) : MS d (up (up d 174 22 u) 174 23 l) := (MS.w (by unfold SCR; omega) (by decide) (by omega) (by intro _; decide)).tr (MS.w (by unfold SCR; omega) (by decide) (by omega) (by intro _; decide))
theorem o_leaked {s : Int} {d : D9} (q : Q7 d) (hs : I32 s) : AF d (m_X11_leaked_0 s d) (fun d' => cl (m_X12_leaked_174 s d') (fun _ d2 => rt 0 d2)) fB := by
  have n1 := (TKn q.1).2.1
  have ha := q_askSkin (d := d) hs (RWs q.2).1 n1
  by_cases hc : 0 ≤ s ∧ s < d 175 1
  · have lk := lk_rng q.1 hc
    refine AF.mk q 0 (fU (lkU (d 175) s) (lkL (d 175) s)) (fL (lkU (d 175) s) (lkL (d 175) s)) ?_ (fun d' q' e => ?_)
    · unfold m_X11_leaked_0
      rw [ha, if_pos hc, cl_rt, q_leakU q.1 q.2 hc, cl_rt, q_leakL q.1 q.2 hc, cl_rt, w32_id (by omega), w32_id (by omega), q_put (by omega) (by omega), cl_rt]
    · have e1 := (m3 d' 0).1.trans e
      refine ⟨up (up (up d' 174 3 0) 174 22 (lkU (d 175) s)) 174 23 (lkL (d 175) s), ?_, (MS.u3 d' 0).tr (MS.u2 _ _ _), rfl⟩
      unfold m_X12_leaked_174 m_X12_leaked_174_c14
      rw [isSkin_t q.1 e hs, cl_rt, dec_t hc, bi_t, t1_0, if_neg ne10, pf_v, (m3 d' 0).2, t0_0, if_pos (by omega), p_layLeaked q.1 e1 hc, cl_rt]
      rw [show (up (up (up d' 174 3 0) 174 22 (lkU (d 175) s)) 174 23 (lkL (d 175) s)) 174 22 = lkU (d 175) s from rfl, show (up (up (up d' 174 3 0) 174 22 (lkU (d 175) s)) 174 23 (lkL (d 175) s)) 174 23 = lkL (d 175) s from rfl, p_frac (by omega) (by omega), cl_rt, cl_rt]
  · refine AF.thr q 2 ?_ (fun d' q' e => ?_)
    · unfold m_X11_leaked_0
      rw [ha, if_neg hc, cl_th]
    · unfold m_X12_leaked_174 m_X12_leaked_174_c14
      rw [isSkin_t q.1 e hs, cl_rt, dec_f hc, bi_f, t0_0, if_pos rfl, pf_v, (m3 d' 1).2, t1_0, if_neg (by omega), cl_rt]
      exact ⟨_, _, rfl, MS.u3 d' 1, (m3 d' 1).2⟩
/-! many -/
theorem mul_rng {a b A B : Int} (ha : 1 ≤ a ∧ a ≤ A) (hb : 1 ≤ b ∧ b ≤ B) : 1 ≤ a * b ∧ a * b ≤ A * B := by
  have h1 : 1 * 1 ≤ a * b := Int.mul_le_mul ha.1 hb.1 (by omega) (by omega)
  have h2 : a * b ≤ A * B := Int.mul_le_mul ha.2 hb.2 (by omega) (by omega)
  omega
def mny (t : Nat → Int) (_ : Int) (p : Int × Int) : Int × Int := (p.1 * (100 - t 11), p.2 * 100)
def MI (n i : Int) (p : Int × Int) : Prop := (0 ≤ i ∧ i ≤ n) ∧ 1 ≤ p.1 ∧ p.1 ≤ p.2 ∧ p.2 * 100 ^ (n - i).toNat ≤ 1000000000000000000
theorem MI_s {t : Nat → Int} (k : TK t) {n i : Int} {p : Int × Int} (h : MI n i p) (hi : i < n) : MI n (i + 1) (mny t i p) := by
  obtain ⟨h0, h1, h2, h3⟩ := h
  have h11 := (TKl k).2.2.2.2.2.2.1
  have a := mul_rng (a := p.1) (b := 100 - t 11) (A := p.2) (B := 100) ⟨h1, h2⟩ (by omega)
  refine ⟨by omega, a.1, a.2, ?_⟩
  show p.2 * 100 * 100 ^ (n - (i + 1)).toNat ≤ _
  rw [Int.mul_assoc]
  have e : (100 : Int) * 100 ^ (n - (i + 1)).toNat = 100 ^ (n - i).toNat := by
    rw [show (n - i).toNat = (n - (i + 1)).toNat + 1 by omega, Int.pow_succ, Int.mul_comm]
  rw [e]; exact h3
theorem MI_e {n i : Int} {p : Int × Int} (h : MI n i p) : 0 ≤ p.2 - p.1 ∧ p.2 - p.1 ≤ 1000000000000000000 ∧ 0 < p.2 ∧ p.2 ≤ 1000000000000000000 := by
  obtain ⟨h0, h1, h2, h3⟩ := h
  have : p.2 * 1 ≤ p.2 * 100 ^ (n - i).toNat := Int.mul_le_mul_of_nonneg_left (by
    have := Int.pow_pos (n := 100) (m := (n - i).toNat) (by omega)
    omega) (by omega)
  omega
theorem o_many {n : Int} {d : D9} (q : Q7 d) (hn : I32 n) : AF d (m_X11_many_0 n d) (fun d' => cl (m_X12_many_174 n d') (fun _ d2 => rt 0 d2)) fA := by
  have h11 := (TKl q.1).2.2.2.2.2.2.1
  by_cases hc : 1 ≤ n ∧ n ≤ 9
  · have I0 : MI n 0 (1, 1) := by
      refine ⟨by omega, by decide, by decide, ?_⟩
      have : n = 1 ∨ n = 2 ∨ n = 3 ∨ n = 4 ∨ n = 5 ∨ n = 6 ∨ n = 7 ∨ n = 8 ∨ n = 9 := by omega
      rcases this with rfl | rfl | rfl | rfl | rfl | rfl | rfl | rfl | rfl <;> decide
    have z1 := (fix_fu (z := fun _ _ _ _ _ => none) (B := fun k => b_X11_many_0_c15 k) (fun k i p => k n p.1 p.2 i d) 0 n (mny (d 175)) (MI n) (fun p => rt 0 (up (up d 53 0 (fU (p.2 - p.1) p.2)) 53 1 (fL (p.2 - p.1) p.2))) (1, 1) (by omega) I0 ?_ ?_).2
    · refine AF.mk q 0 (fU ((fo (mny (d 175)) n.toNat 0 (1, 1)).2 - (fo (mny (d 175)) n.toNat 0 (1, 1)).1) (fo (mny (d 175)) n.toNat 0 (1, 1)).2) (fL ((fo (mny (d 175)) n.toNat 0 (1, 1)).2 - (fo (mny (d 175)) n.toNat 0 (1, 1)).1) (fo (mny (d 175)) n.toNat 0 (1, 1)).2) ?_ (fun d' q' e => ?_)
      · unfold m_X11_many_0
        rw [ask_i hn (by omega), if_pos hc, cl_rt]
        rw [Int.sub_zero] at z1
        exact z1
      · have e1 := (m3 d' 0).1.trans e
        have z2 := (fix_fu (z := fun _ _ _ _ _ => none) (B := fun k => b_X12_many_174_c37 k) (fun k i p => k n p.1 p.2 i (up d' 174 3 0)) 0 n (mny (d 175)) (MI n) (fun p => rt 0 (up (up (up d' 174 3 0) 174 20 (fU (p.2 - p.1) p.2)) 174 21 (fL (p.2 - p.1) p.2))) (1, 1) (by omega) I0 ?_ ?_).2
        · refine ⟨up d' 174 3 0, ?_, MS.u3 d' 0, rfl⟩
          unfold m_X12_many_174 m_X12_many_174_c18
          rw [w32_id hn, within_i hn (by omega), cl_rt, dec_t hc, bi_t, t1_0, if_neg ne10, pf_v, (m3 d' 0).2, t0_0, if_pos (by omega)]
          rw [Int.sub_zero] at z2
          rw [show m_X12_many_174_c37 n 1 1 0 (up d' 174 3 0) = _ from z2, cl_rt]
        · intro k p hI
          have r := MI_e hI
          simp only [b_X12_many_174_c37]
          rw [if_pos (Int.le_refl _), p_frac (by omega) (by omega), cl_rt]
        · intro k i p hlt hI
          have hr := hI.1
          refine ⟨MI_s q.1 hI hlt, ?_⟩
          simp only [b_X12_many_174_c37]
          rw [w32_id (by omega), w32_id (by omega), if_neg (by omega), ld_in (by omega), show ((11 : Int).toNat) = 11 from rfl, e1, w32_id (by omega), lt_v, lt_v]
          rfl
    · intro k p hI
      have r := MI_e hI
      simp only [b_X11_many_0_c15]
      rw [if_pos (Int.le_refl _), q_put (by omega) (by omega), cl_rt]
    · intro k i p hlt hI
      have hr := hI.1
      refine ⟨MI_s q.1 hI hlt, ?_⟩
      simp only [b_X11_many_0_c15]
      rw [w32_id (by omega), w32_id (by omega), if_neg (by omega), (RWl q.2).2.2.2.2.2.2.1, w32_id (by omega), lt_v, lt_v]
      rfl
  · refine AF.thr q 0 ?_ (fun d' q' e => ?_)
    · unfold m_X11_many_0
      rw [ask_i hn (by omega), if_neg hc, cl_th]
    · unfold m_X12_many_174 m_X12_many_174_c18
      rw [w32_id hn, within_i hn (by omega), cl_rt, dec_f hc, bi_f, t0_0, if_pos rfl, pf_v, (m3 d' 1).2, t1_0, if_neg (by omega), cl_rt]
      exact ⟨_, _, rfl, MS.u3 d' 1, (m3 d' 1).2⟩

/-! facts of a skin -/
def SR (d : D9) (t : Nat → Int) (U : Int → Bool) : Prop := ((0 ≤ d 58 4 ∧ d 58 4 < 1073741824) ∧ ∀ p, 0 ≤ p → p < 30 → tb (d 58 4) p = rea t U p) ∧ (0 ≤ d 58 8 ∧ d 58 8 < 1073741824) ∧ ∀ p, 0 ≤ p → p < t 0 → tb (d 58 8) p = opn t p
theorem sgn_c {x : Int} (h : sgn7 x) (h7 : x ≠ 7) (h8 : x ≠ 8) (h9 : x ≠ 9) : (x = 1 ∨ x = 2 ∨ x = 3 ∨ x = 4 ∨ x = 5 ∨ x = 6) ∨ (101 ≤ x ∧ x ≤ 199) ∨ (300 ≤ x ∧ x ≤ 305) := by
  unfold sgn7 at h; omega
theorem stp_100 {x : Int} (h : 101 ≤ x ∧ x ≤ 199) : stp x = 16000 + (x - 100) := by
  unfold stp
  rw [if_neg (by omega), if_neg (by omega), if_neg (by omega), if_neg (by omega), if_neg (by omega), if_neg (by omega), if_neg (by omega), if_neg (by omega), if_neg (by omega), if_neg (by omega)]
theorem stp_300 {x : Int} (h : 300 ≤ x ∧ x ≤ 305) : stp x = 17000 + (x - 300) := by
  unfold stp
  rw [if_neg (by omega), if_neg (by omega), if_neg (by omega), if_neg (by omega), if_neg (by omega), if_neg (by omega), if_neg (by omega), if_neg (by omega), if_neg (by omega), if_pos (by omega)]
theorem stp_rng {x : Int} (h : sgn7 x) : 13000 ≤ stp x ∧ stp x < 24000 := by
  unfold sgn7 at h
  unfold stp
  repeat' split
  all_goals omega
theorem q_fact {s x : Int} {d : D9} {t : Nat → Int} {U : Int → Bool} (k : TK t) (r : RW d t) (R : SR d t U) (hs : 0 ≤ s ∧ s < t 1) (hx : sgn7 x) (h7 : x ≠ 7) (h8 : x ≠ 8) (h9 : x ≠ 9) : m_X5_isFact_58_1 (stp x / 1000) (stp x % 1000) s d = rt (bi (fct t U s x)) d := by
  obtain ⟨n0, n1, n2, n3⟩ := TKn k
  have hk := TKs k s hs.1 hs.2
  have h0 := hk.1
  have hg := hk.2.2.2.1
  obtain ⟨rA, _, _⟩ := (RWs r).2 s hs.1 hs.2
  have h12 : 0 ≤ d 12 s.toNat ∧ d 12 s.toNat < 30 := by
    rw [rA.2.2.1]
    by_cases y : sk t s 1 = 0
    · rw [if_pos y]; omega
    · have hp := hk.2.2.1 y
      rw [if_neg y]; omega
  rcases sgn_c hx h7 h8 h9 with c | c | c
  · unfold fct
    rw [if_neg (by omega), if_neg (by omega)]
    by_cases y : sk t s 1 = 0
    · rw [if_pos y]
      unfold m_X5_isFact_58_1
      rw [q_touches k r hs, cl_rt, ld_in (by omega), ld_in (by omega), w32_bi, dec_f (show ¬ sk t s 1 ≠ 0 from fun h => h y), bi_f]
      rcases c with rfl | rfl | rfl | rfl | rfl | rfl
      · rw [show stp 1 / 1000 = 18 by decide, if_neg (by decide), if_neg (by decide), if_pos (by decide), if_pos rfl]; rfl
      · rw [show stp 2 / 1000 = 19 by decide, if_neg (by decide), if_neg (by decide), if_neg (by decide), if_pos (by decide), if_pos rfl]; rfl
      · rw [show stp 3 / 1000 = 23 by decide, if_neg (by decide), if_neg (by decide), if_neg (by decide), if_neg (by decide), if_neg (by decide), if_neg (by decide), if_neg (by decide), if_pos (by decide), if_pos rfl]; rfl
      · rw [show stp 4 / 1000 = 20 by decide, if_neg (by decide), if_neg (by decide), if_neg (by decide), if_neg (by decide), if_pos (by decide), if_pos rfl]; rfl
      · rw [show stp 5 / 1000 = 21 by decide, if_neg (by decide), if_neg (by decide), if_neg (by decide), if_neg (by decide), if_neg (by decide), if_pos (by decide), if_pos rfl]; rfl
      · rw [show stp 6 / 1000 = 22 by decide, if_neg (by decide), if_neg (by decide), if_neg (by decide), if_neg (by decide), if_neg (by decide), if_neg (by decide), if_pos (by decide), if_pos rfl]; rfl
    · have hp := hk.2.2.1 y
      have kp := (TKp k (sk t s 2) hp.1 hp.2).1
      have e3 := ((RWp r).2.2.1 (sk t s 2) hp.1 hp.2).1
      have e12 : d 12 s.toNat = sk t s 2 := rA.2.2.1.trans (if_neg y)
      rw [if_neg y]
      unfold m_X5_isFact_58_1
      rw [q_touches k r hs, cl_rt, ld_in (by omega), e12, ld_in (by omega), e3, w32_bi, dec_t y, bi_t]
      rcases c with rfl | rfl | rfl | rfl | rfl | rfl
      · rw [show stp 1 / 1000 = 18 by decide, if_neg (by decide), if_neg (by decide), if_pos (by decide), if_neg ne10]
        show _ = rt (bi (decide (pt t (sk t s 2) 0 = 1 - 1))) d
        rw [w32_id (by omega)]
        by_cases z : pt t (sk t s 2) 0 = 0
        · rw [if_neg (by omega), dec_t (by omega)]; rfl
        · rw [if_pos z, dec_f (by omega)]; rfl
      · rw [show stp 2 / 1000 = 19 by decide, if_neg (by decide), if_neg (by decide), if_neg (by decide), if_pos (by decide), if_neg ne10]
        show _ = rt (bi (decide (pt t (sk t s 2) 0 = 2 - 1))) d
        rw [w32_id (by omega), t1_0]
        by_cases z : pt t (sk t s 2) 0 = 1
        · rw [if_neg (by omega), dec_t (by omega)]; rfl
        · rw [if_pos z, dec_f (by omega)]; rfl
      · rw [show stp 3 / 1000 = 23 by decide, if_neg (by decide), if_neg (by decide), if_neg (by decide), if_neg (by decide), if_neg (by decide), if_neg (by decide), if_neg (by decide), if_pos (by decide), if_neg ne10]
        show _ = rt (bi (decide (pt t (sk t s 2) 0 = 3 - 1))) d
        rw [w32_id (by omega), w32_id (by omega)]
        by_cases z : pt t (sk t s 2) 0 = 2
        · rw [if_neg (by omega), dec_t (by omega)]; rfl
        · rw [if_pos z, dec_f (by omega)]; rfl
      · rw [show stp 4 / 1000 = 20 by decide, if_neg (by decide), if_neg (by decide), if_neg (by decide), if_neg (by decide), if_pos (by decide), if_neg ne10]
        show _ = rt (bi (decide (pt t (sk t s 2) 0 = 4 - 1))) d
        rw [w32_id (by omega), w32_id (by omega)]
        by_cases z : pt t (sk t s 2) 0 = 3
        · rw [if_neg (by omega), dec_t (by omega)]; rfl
        · rw [if_pos z, dec_f (by omega)]; rfl
      · rw [show stp 5 / 1000 = 21 by decide, if_neg (by decide), if_neg (by decide), if_neg (by decide), if_neg (by decide), if_neg (by decide), if_pos (by decide), if_neg ne10]
        show _ = rt (bi (!rea t U (sk t s 2))) d
        rw [q_isIn (by have := R.1.1; omega), cl_rt, w32_bi, R.1.2 _ hp.1 (by omega)]
        cases rea t U (sk t s 2) <;> simp [bi]
      · rw [show stp 6 / 1000 = 22 by decide, if_neg (by decide), if_neg (by decide), if_neg (by decide), if_neg (by decide), if_neg (by decide), if_neg (by decide), if_pos (by decide), if_neg ne10]
        show _ = rt (bi (opn t (sk t s 2))) d
        rw [q_isIn (by have := R.2.1; omega), cl_rt, w32_bi, R.2.2 _ hp.1 hp.2]
        cases opn t (sk t s 2) <;> simp [bi]
  · rw [stp_100 c, show (16000 + (x - 100)) / 1000 = 16 by omega, show (16000 + (x - 100)) % 1000 = x - 100 by omega]
    unfold m_X5_isFact_58_1 fct
    rw [q_touches k r hs, cl_rt, ld_in (by omega), ld_in (by omega), if_pos (by decide), ld_in (by omega), rA.2.2.2.1, w32_id (by omega), w32_id (by omega), if_neg (show ¬ 300 ≤ x by omega), if_pos (show 100 ≤ x by omega)]
    by_cases y : sk t s 3 ≤ x - 100
    · rw [if_neg (by omega), dec_t y]; rfl
    · rw [if_pos (by omega), dec_f y]; rfl
  · rw [stp_300 c, show (17000 + (x - 300)) / 1000 = 17 by omega, show (17000 + (x - 300)) % 1000 = x - 300 by omega]
    unfold m_X5_isFact_58_1 fct
    rw [q_touches k r hs, cl_rt, ld_in (by omega), ld_in (by omega), if_neg (by decide), if_pos (by decide), ld_in (by omega), rA.1, w32_id (by omega), w32_id (by omega), if_pos (show 300 ≤ x by omega)]
    by_cases y : sk t s 0 = x - 300
    · rw [if_neg (by omega), dec_t y]; rfl
    · rw [if_pos y, dec_f y]; rfl
def IN (d : D9) (U : Int → Bool) : Prop := ∀ s : Int, 0 ≤ s → s < 30 → d 188 s.toNat = bi (U s)
theorem p_bare {p : Int} {d : D9} {t : Nat → Int} {U : Int → Bool} (k : TK t) (e : d 175 = t) (hI : IN d U) (hp : 0 ≤ p ∧ p < t 0) : m_X12_isBare_174 p d = rt (bi (!rea t U p)) d := by
  obtain ⟨n0, n1, n2, n3⟩ := TKn k
  have z := fix_xu (z := fun _ _ _ => none) (B := fun k => b_X12_isBare_174_c2 k) (fun k s => k p s d) 0 (t 1) (fun s => decide (sk t s 1 ≠ 0 ∧ sk t s 2 = p) && (decide (0 < sk t s 4) || U s)) (rt 0 d) (rt 1 d) (by omega) ?_ ?_
  · rw [Int.sub_zero] at z
    refine z.trans ?_
    unfold rea
    cases ex (fun s => decide (sk t s 1 ≠ 0 ∧ sk t s 2 = p) && (decide (0 < sk t s 4) || U s)) (t 1).toNat 0 <;> rfl
  · intro k'
    simp only [b_X12_isBare_174_c2]
    rw [ld_in (by omega), Int.toNat_one, e, if_pos (Int.le_refl _)]; rfl
  · intro k' s h0 hlt
    have hk := TKs k s h0 hlt
    have h1 := hk.2.1
    have h4 := hk.2.2.2.2.1
    simp only [b_X12_isBare_174_c2]
    rw [ld_in (by omega), Int.toNat_one, e, w32_id (by omega), w32_id (by omega), if_neg (by omega), sk_of e (by omega), cl_rt, w32_id (by omega)]
    by_cases x : sk t s 1 = 0
    · rw [if_pos (by omega), if_neg (by simp [x])]
    · have hp2 := hk.2.2.1 x
      rw [if_neg (by omega), sk_of e (by omega), cl_rt, w32_id (by omega), w32_id (by omega), sk_of e (by omega), cl_rt, w32_id (by omega), ld_in (by omega), hI s h0 (by omega), w32_bi]
      by_cases y : sk t s 2 = p
      · rw [if_neg (by omega)]
        by_cases w : 0 < sk t s 4
        · rw [if_pos w, if_pos (by simp [x, y, w])]; rfl
        · rw [if_neg w]
          cases hu : U s
          · rw [bi_f, if_pos rfl, if_neg (by simp; omega)]
          · rw [bi_t, if_neg ne10, if_pos (by simp [x, y])]; rfl
      · rw [if_pos y, if_neg (by simp [y])]
theorem p_fact {s x : Int} {d : D9} {t : Nat → Int} {U : Int → Bool} (L : LR d t) (hI : IN d U) (hs : 0 ≤ s ∧ s < t 1) (hx : sgn7 x) (h7 : x ≠ 7) (h8 : x ≠ 8) (h9 : x ≠ 9) : m_X12_isFact_174 x s d = rt (bi (fct t U s x)) d := by
  have k := L.2.1
  obtain ⟨n0, n1, n2, n3⟩ := TKn k
  have hk := TKs k s hs.1 hs.2
  have h0 := hk.1
  have h1 := hk.2.1
  have hg := hk.2.2.2.1
  have c := sgn_c hx h7 h8 h9
  unfold m_X12_isFact_174 fct
  rw [sk_of L.1 (by omega), cl_rt, sk_of L.1 (by omega), cl_rt, sk_of L.1 (by omega), cl_rt, sk_of L.1 (by omega), cl_rt]
  simp (disch := omega) only [w32_id]
  by_cases x3 : 300 ≤ x
  · rw [if_neg (by omega), if_pos x3]
    by_cases y : sk t s 0 = x - 300
    · rw [if_neg (by omega), dec_t y]; rfl
    · rw [if_pos y, dec_f y]; rfl
  · rw [if_pos (by omega), if_neg x3]
    by_cases x1 : 100 ≤ x
    · rw [if_neg (by omega), if_pos x1]
      by_cases y : sk t s 3 ≤ x - 100
      · rw [if_neg (by omega), dec_t y]; rfl
      · rw [if_pos (by omega), dec_f y]; rfl
    · rw [if_pos (by omega), if_neg x1]
      by_cases y : sk t s 1 = 0
      · rw [if_neg (by omega), if_pos y]; rfl
      · have hp := hk.2.2.1 y
        have kp := (TKp k (sk t s 2) hp.1 hp.2).1
        have b1 := bnd_rng t (sk t s 2) false (-1)
        have b2 := bnd_rng t (sk t s 2) true (-1)
        rw [if_pos y, if_neg y, p_bare k L.1 hI hp, cl_rt, bi_m, LR_b0 L hp (by omega), cl_rt, LR_b1 L hp (by omega), cl_rt, pt_of L.1 (by omega), cl_rt]
        simp (disch := omega) only [w32_id]
        by_cases x5 : x = 5
        · rw [if_neg (by omega), if_pos x5]
        · rw [if_pos x5, if_neg x5]
          by_cases x6 : x = 6
          · rw [if_neg (by omega), if_pos x6]
            unfold opn
            by_cases z1 : bnd t (sk t s 2) false (-1) = 0
            · rw [if_neg (by omega)]
              by_cases z2 : bnd t (sk t s 2) true (-1) = 400
              · rw [if_neg (by omega), dec_t ⟨z1, z2⟩]; rfl
              · rw [if_pos z2, dec_f (fun h => z2 h.2)]; rfl
            · rw [if_pos z1, dec_f (fun h => z1 h.1)]; rfl
          · rw [if_pos x6, if_neg x6]
            by_cases z : pt t (sk t s 2) 0 = x - 1
            · rw [if_neg (by omega), dec_t z]; rfl
            · rw [if_pos z, dec_f z]; rfl

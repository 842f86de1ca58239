/-! plan: the model's -/
def PC (d : D9) (t : Nat → Int) : Prop := d 175 = t ∧ d 174 31 = (chF t).1 ∧ ∀ i, 0 ≤ i → i < (chF t).1 → d 187 i.toNat = (chF t).2 i
theorem p_grains {t : Nat → Int} (k : TK t) {S : Int} {d : D9} (h : PC d t) (hS : 0 ≤ S ∧ S ≤ 4096) : m_X12_grainsOf_174 S d = rt (gs t S 0) d := by
  have n1 := (TKn k).2.1
  have c12 := (chF_ok k).1
  have z := (fix_fu (z := fun _ _ _ _ => none) (B := fun k => b_X12_grainsOf_174_c4 k) (fun k i v => k S v i d) 0 (chF t).1 (gsS t S) (fun i v => 0 ≤ i) (fun v => rt v d) 0 (by omega) (by omega) ?_ ?_).2
  · exact z
  · intro k' v hI
    simp only [b_X12_grainsOf_174_c4]
    rw [h.2.1, if_pos (Int.le_refl _)]
  · intro k' i v hlt hI
    have q := (chF_ok k).2 i hI hlt
    refine ⟨by omega, ?_⟩
    simp only [b_X12_grainsOf_174_c4]
    rw [h.2.1, w32_id (by omega), w32_id (by omega), if_neg (by omega), ld_in (by omega), h.2.2 i hI hlt, sk_of h.1 (by omega), cl_rt, lt_v, lt_v]
    unfold gsS
    cases hb : tb S i
    · rw [if_pos ((in_c (by omega)).mpr hb), if_neg (by simp)]
    · rw [if_neg (fun e => by rw [(in_c (by omega)).mp e] at hb; cases hb), if_pos rfl]
theorem p_cov {t : Nat → Int} (k : TK t) {S : Int} {d : D9} (h : PC d t) (hS : 0 ≤ S ∧ S ≤ 4096) : m_X12_coveredBy_174 S d = rt (cov t S) d := by
  obtain ⟨n0, n1, n2, n3⟩ := TKn k
  have c12 := (chF_ok k).1
  have z2 : m_X12_coveredBy_174_c51 S (dtd t) 0 d = rt (cov t S) d := by
    have z := (fix_fu (z := fun _ _ _ _ => none) (B := fun k => b_X12_coveredBy_174_c51 k) (fun k i v => k S v i d) 0 (chF t).1 (psS t S) (fun i v => 0 ≤ i) (fun v => rt (bc v) d) (dtd t) (by omega) (by omega) ?_ ?_).2
    · rw [Int.sub_zero] at z; exact z
    · intro k' v hI
      simp only [b_X12_coveredBy_174_c51]
      rw [h.2.1, if_pos (Int.le_refl _), q_bc, cl_rt]
    · intro k' i v hlt hI
      have q := (chF_ok k).2 i hI hlt
      refine ⟨by omega, ?_⟩
      simp only [b_X12_coveredBy_174_c51]
      rw [h.2.1, w32_id (by omega), w32_id (by omega), if_neg (by omega), ld_in (by omega), h.2.2 i hI hlt, sk_of h.1 (by omega), cl_rt, lt_v]
      unfold psS
      cases hb : tb S i
      · rw [if_pos ((in_c (by omega)).mpr hb), if_neg (by simp)]
      · rw [if_neg (fun e => by rw [(in_c (by omega)).mp e] at hb; cases hb), if_pos rfl]
  have z := (fix_fu (z := fun _ _ _ _ => none) (B := fun k => b_X12_coveredBy_174_c4 k) (fun k s v => k S v s d) 0 (t 1) (dtS t) (fun s v => 0 ≤ s) (fun v => m_X12_coveredBy_174_c51 S v 0 d) 0 (by omega) (by omega) ?_ ?_).2
  · rw [Int.sub_zero] at z
    exact z.trans z2
  · intro k' v hI
    simp only [b_X12_coveredBy_174_c4]
    rw [ld_in (by omega), Int.toNat_one, h.1, if_pos (Int.le_refl _)]
  · intro k' s v hlt h0
    have hk := TKs k s h0 hlt
    have h4 := hk.2.2.2.2.1
    have h1 := hk.2.1
    refine ⟨by omega, ?_⟩
    simp only [b_X12_coveredBy_174_c4]
    rw [ld_in (by omega), Int.toNat_one, h.1, w32_id (by omega), w32_id (by omega), if_neg (by omega), sk_of h.1 (by omega), cl_rt, w32_id (by omega), sk_of h.1 (by omega), cl_rt, w32_id (by omega), sk_of h.1 (by omega), cl_rt, lt_v]
    unfold dtS
    by_cases x : sk t s 1 = 0
    · rw [if_pos (by omega), if_neg (fun h => h.1 x)]
    · rw [if_neg (by omega)]
      by_cases y : 0 < sk t s 4
      · rw [if_neg (by omega), if_pos ⟨x, y⟩]
      · rw [if_pos (by omega), if_neg (fun h => y h.2)]
theorem p_skb {t : Nat → Int} (k : TK t) {b : Int} {d : D9} (h : PC d t) (hb : 0 ≤ b ∧ b ≤ 4096) : m_X12_plan_174_c145 b 0 0 d = rt (skb t b) d := by
  have c12 := (chF_ok k).1
  have z := (fix_fu (z := fun _ _ _ _ => none) (B := fun k => b_X12_plan_174_c145 k) (fun k i v => k b v i d) 0 (chF t).1 (skS t b) (fun i v => 0 ≤ i ∧ 0 ≤ v ∧ v < 1073741824) (fun v => rt v d) 0 (by omega) (by omega) ?_ ?_).2
  · rw [Int.sub_zero] at z; exact z
  · intro k' v hI
    simp only [b_X12_plan_174_c145]
    rw [h.2.1, if_pos (Int.le_refl _)]
  · intro k' i v hlt hI
    refine ⟨⟨by omega, skS_rng k ⟨hI.1, hlt⟩ hI.2⟩, ?_⟩
    simp only [b_X12_plan_174_c145]
    rw [h.2.1, w32_id (by omega), w32_id (by omega), if_neg (by omega), ld_in (by omega), h.2.2 i hI.1 hlt, lt_v, lt_v, or9_0 (by omega)]
    unfold skS
    cases hbb : tb b i
    · rw [if_pos ((in_c (by omega)).mpr hbb), if_neg (by simp)]
    · rw [if_neg (fun e => by rw [(in_c (by omega)).mp e] at hbb; cases hbb), if_pos rfl]
noncomputable def plA (t : Nat → Int) (g w : Int) : Int := if w = 0 then skb t (plF t g) else if w = 1 then cov t (plF t g) else gs t (plF t g) 0
theorem pl_12 {t : Nat → Int} (k : TK t) : 1 ≤ shl9 1 (chF t).1 ∧ shl9 1 (chF t).1 ≤ 4096 := by
  have c12 := (chF_ok k).1
  have rn := shl9_rng (i := (chF t).1) (by omega)
  refine ⟨by omega, ?_⟩
  rw [shl9_1 (by omega)]
  have : 2 ^ (chF t).1.toNat ≤ 2 ^ 12 := Nat.pow_le_pow_right (by omega) (by omega)
  omega
theorem p_plan_l {t : Nat → Int} (k : TK t) {g w : Int} {d : D9} (h : PC d t) (hg : 0 ≤ g ∧ g ≤ 999) (hw : 0 ≤ w ∧ w ≤ 2) : m_X12_plan_174_c44 g w 0 1 d = rt (plA t g w) d := by
  have c12 := (chF_ok k).1
  have r12 := pl_12 k
  have z := (fix_fu (z := fun _ _ _ _ _ => none) (B := fun k => b_X12_plan_174_c44 k) (fun k S b => k g w b S d) 1 (shl9 1 (chF t).1) (plS t g) (fun S b => 1 ≤ S ∧ 0 ≤ b ∧ b < S) (fun b => rt (if w = 0 then skb t b else if w = 1 then cov t b else gs t b 0) d) 0 (by omega) (by omega) ?_ ?_).2
  · exact z
  · intro k' b hI
    simp only [b_X12_plan_174_c44]
    rw [h.2.1, if_pos (Int.le_refl _), w32_id (by omega), w32_id (by omega), p_skb k h (by omega), p_grains k h (by omega), cl_rt, p_cov k h (by omega), cl_rt]
    by_cases x : w = 0
    · rw [if_pos (by omega), if_pos x]
    · rw [if_neg (by omega), if_neg x]
      by_cases y : w = 1
      · rw [if_neg (by omega), if_pos y]
      · rw [if_pos y, if_neg y]
  · intro k' S b hlt hI
    have cb := cov_rng t b
    have cs := cov_rng t S
    have gb := gs_rng k (S := b) (j := 0) ⟨by omega, c12.1⟩
    have gS := gs_rng k (S := S) (j := 0) ⟨by omega, c12.1⟩
    refine ⟨by unfold plS; split <;> omega, ?_⟩
    simp only [b_X12_plan_174_c44]
    rw [h.2.1, w32_id (by omega), w32_id (by omega), if_neg (by omega), p_grains k h (by omega), cl_rt, w32_id (by omega), w32_id (by omega), p_cov k h (by omega), cl_rt, p_cov k h (by omega), cl_rt, m_X12_plan_174_c85, m_X12_plan_174_c85, p_grains k h (by omega), cl_rt, w32_id (by omega), w32_id (by omega), w32_id (by omega), w32_id (by omega)]
    unfold plS
    by_cases x : gs t S 0 ≤ g
    · rw [if_pos x]
      by_cases y : cov t b < cov t S
      · rw [if_pos (by omega), if_pos ⟨x, Or.inl y⟩]
      · rw [if_neg (by omega)]
        by_cases u : cov t S = cov t b
        · rw [if_neg (by omega)]
          by_cases v : gs t S 0 < gs t b 0
          · rw [if_neg (by omega), if_pos ⟨x, Or.inr ⟨u, v⟩⟩]
          · rw [if_pos (by omega), if_neg (by rintro ⟨_, p | p⟩ <;> omega)]
        · rw [if_pos (by omega), if_neg (by rintro ⟨_, p | p⟩ <;> omega)]
    · rw [if_neg x, if_neg (by omega), if_pos (by omega), if_neg (fun p => x p.1)]
theorem p_plan {t : Nat → Int} (k : TK t) {g w : Int} {d : D9} (e : d 175 = t) (hg : 0 ≤ g ∧ g ≤ 999) (hw : 0 ≤ w ∧ w ≤ 2) : ∃ d2, m_X12_plan_174 g w d = rt (plA t g w) d2 ∧ MS d d2 ∧ d2 174 3 = 0 := by
  have e1 := (m3 d 0).1.trans e
  obtain ⟨d2, a1, a2, a3, a4⟩ := p_find k e1
  have h : PC d2 t := ⟨by rw [← e1]; funext j; exact a2 175 j (by omega), a3, a4⟩
  refine ⟨d2, ?_, (MS.u3 d 0).tr (MS.pj a2), (a2 174 3 (by omega)).trans (m3w d 0)⟩
  unfold m_X12_plan_174
  rw [pf_v, w32_id (by omega), within_i (by unfold I32; omega) (by omega), cl_rt, dec_t hg, bi_t, t1_0, if_neg ne10, w32_id (by omega), within_i (by unfold I32; omega) (by omega), cl_rt, dec_t hw, bi_t, t1_0, if_pos ne10, a1, cl_rt, p_plan_l k h hg hw]
theorem AG.ret1 {d : D9} {c : Option R9} {m : D9 → Option R9} {f : Nat → Int} (q : Q7 d) (v : Int) {d1 : D9} (hc : c = rt v d1) (hs : SM d d1) (hm : ∀ d', Q7 d' → d' 175 = d 175 → ∃ d2, m d' = rt v d2 ∧ MS d' d2 ∧ d2 174 3 = 0) : AG d c m f :=
  Or.inl ⟨v, d1, hc, hs, fun d' s => hm d' (s.q q) s.t⟩
theorem o_plan {g w : Int} {d : D9} (q : Q7 d) (hg : I32 g) (hw : I32 w) : AG d (m_X11_plan_0 g w d) (m_X12_plan_174 g w) fA := by
  have thr : ∀ d' : D9, ¬ ((0 ≤ g ∧ g ≤ 999) ∧ 0 ≤ w ∧ w ≤ 2) → ∃ b' d2, m_X12_plan_174 g w d' = rt b' d2 ∧ MS d' d2 ∧ d2 174 3 = fA 0 := by
    intro d' h
    unfold m_X12_plan_174 m_X12_plan_174_c29
    rw [pf_v, w32_id hg, within_i hg (by omega), cl_rt, w32_bi, w32_id hw, within_i hw (by omega), cl_rt, w32_bi, p_fails, cl_rt]
    by_cases x : 0 ≤ g ∧ g ≤ 999
    · by_cases y : 0 ≤ w ∧ w ≤ 2
      · exact absurd ⟨x, y⟩ h
      · rw [dec_t x, dec_f y, bi_t, bi_f, if_neg ne10, if_neg (by omega)]; exact thr1 d' 1
    · rw [dec_f x, bi_f, if_pos rfl]; exact thr1 d' 1
  by_cases x : 0 ≤ g ∧ g ≤ 999
  · by_cases y : 0 ≤ w ∧ w ≤ 2
    · obtain ⟨d1, a1, a2, a3, a4, a5⟩ := q_makePlan q.1 x q.2
      refine AG.ret1 q (plA (d 175) g w) (d1 := d1) ?_ a2.sm (fun d' q' e => p_plan q.1 e x y)
      unfold m_X11_plan_0 plA
      rw [ask_i hg (by omega), if_pos x, cl_rt, ask_i hw (by omega), if_pos y, cl_rt, a1, cl_rt, a3, a4, a5, w32_id hw, w32_id (by omega)]
      by_cases u : w = 0
      · rw [if_neg (by omega), if_pos u]
      · rw [if_pos u, if_neg u]
        by_cases v : w = 1
        · rw [if_neg (by omega), if_pos v]
        · rw [if_pos v, if_neg v]
    · refine AG.thr q 0 ?_ (fun d' _ _ => thr d' (fun h => y h.2))
      unfold m_X11_plan_0
      rw [ask_i hg (by omega), if_pos x, cl_rt, ask_i hw (by omega), if_neg y, cl_th]
  · refine AG.thr q 0 ?_ (fun d' _ _ => thr d' (fun h => x h.1))
    unfold m_X11_plan_0
    rw [ask_i hg (by omega), if_neg x, cl_th]

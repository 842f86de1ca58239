/-! drips made by draws -/
def drw (off a seed : Int) : Int := max9 0 (min9 9999 ((a - div9 (a * off) 100) + rem9 (ush9 (1103515245 * seed + 12345) 16) (2 * div9 (a * off) 100 + 1)))
theorem ush16 (x : Int) : 0 ≤ ush9 x 16 ∧ ush9 x 16 ≤ 65535 := by
  unfold ush9
  rw [show sh9 16 = 16 from rfl]
  have h := w32_rng x
  omega
theorem drw_e {off a : Int} (ha : 0 ≤ a ∧ a ≤ 9999) (ho : 0 ≤ off ∧ off ≤ 50) : 0 ≤ div9 (a * off) 100 ∧ div9 (a * off) 100 ≤ a := by
  have h1 := mb (x := a) (r := off) (A := 9999) (R := 50) (by omega) (by omega) (by omega) (by omega)
  have h2 : 0 ≤ a * off := Int.mul_nonneg ha.1 ho.1
  have h3 : a * off ≤ a * 100 := Int.mul_le_mul_of_nonneg_left (by omega) ha.1
  rw [div9_in (by omega), tdiv_pos h2]
  omega
theorem drw_r {off a seed : Int} (ha : 0 ≤ a ∧ a ≤ 9999) (ho : 0 ≤ off ∧ off ≤ 50) : (0 ≤ rem9 (ush9 (1103515245 * seed + 12345) 16) (2 * div9 (a * off) 100 + 1) ∧ rem9 (ush9 (1103515245 * seed + 12345) 16) (2 * div9 (a * off) 100 + 1) ≤ 2 * div9 (a * off) 100) ∧ 0 ≤ drw off a seed ∧ drw off a seed ≤ 9999 := by
  have e := drw_e ha ho
  have u := ush16 (1103515245 * seed + 12345)
  have k : 0 ≤ rem9 (ush9 (1103515245 * seed + 12345) 16) (2 * div9 (a * off) 100 + 1) ∧ rem9 (ush9 (1103515245 * seed + 12345) 16) (2 * div9 (a * off) 100 + 1) ≤ 2 * div9 (a * off) 100 := by
    rw [rem9_in (by omega)]
    generalize div9 (a * off) 100 = y at e
    generalize ush9 (1103515245 * seed + 12345) 16 = x at u
    rw [Int.tmod_eq_emod_of_nonneg (by omega)]
    have h1 := Int.emod_nonneg x (show 2 * y + 1 ≠ 0 by omega)
    have h2 := Int.emod_lt_of_pos x (show 0 < 2 * y + 1 by omega)
    omega
  refine ⟨k, ?_⟩
  unfold drw
  rw [min9_in (by omega), max9_in (by omega)]
  omega
theorem q_drawn {a seed : Int} {d : D9} {t : Nat → Int} (k : TK t) (r : R7l d t) (ha : 0 ≤ a ∧ a ≤ 9999) : m_X2_drawn_22 a seed d = rt (drw (t 10) a seed) d := by
  have h10 := (TKl k).2.2.2.2.2.1
  have e := drw_e ha h10
  unfold m_X2_drawn_22 m_X2_drawn_22_c44
  rw [lt_v, r.2.2.2.2.2.1, lt_v, lt_v, w32_id (by omega), if_neg (by omega), dv_in (by omega)]
  rfl
def grn (t : Nat → Int) (age b e s : Int) : Int := gn (t 6) b age.toNat (10 * e * s) / 1000
theorem grn_rng {t : Nat → Int} (k : TK t) {age b e s : Int} (hb : 0 ≤ b ∧ b ≤ 9999) (he : 0 ≤ e ∧ e ≤ 9999) (hs : 0 ≤ s ∧ s ≤ 99) : (0 ≤ gn (t 6) b age.toNat (10 * e * s) ∧ gn (t 6) b age.toNat (10 * e * s) ≤ 9999000) ∧ 0 ≤ grn t age b e s ∧ grn t age b e s ≤ 9999 := by
  have h6 := (TKl k).2.1
  have h1 := mb (x := 10 * e) (r := s) (A := 99990) (R := 99) (by omega) (by omega) (by omega) (by omega)
  have h2 : 0 ≤ 10 * e * s := Int.mul_nonneg (by omega) hs.1
  have g := gn_rng (r := t 6) (b := b) (by omega) age.toNat (10 * e * s)
  unfold grn
  omega
theorem p_drip_l {age b seed : Int} {t : Nat → Int} (k : TK t) (hb : 0 ≤ b ∧ b ≤ 9999) (hA : age ≤ 400) {d : D9} (e : d 175 = t) : ∀ (m f : Nat) (i g : Int), m < f → i + m = age → 0 ≤ i → 0 ≤ g ∧ g ≤ 9999000 →
    fix9 (fun _ _ _ _ _ _ => none) (fun k => b_X12_dripped_174_c15 k) f age b seed g i d = rt (drw (t 10) (gn (t 6) b m g / 1000) seed) (up d 174 24 (1103515245 * seed + 12345))
  | 0, f + 1, i, g, _, he, h0, hg => by
    have h10 := (TKl k).2.2.2.2.2.1
    have q1 := drw_e (a := g / 1000) (off := t 10) (by omega) h10
    rw [fx5, b_X12_dripped_174_c15, if_pos (by rw [show i = age by omega]; exact Int.le_refl _), lt_v, ld_in (by omega), show ((10 : Int).toNat) = 10 from rfl, e, lt_v, pf_v, divL_in (by omega), tdiv_pos (by omega), up_same, dv_in (by omega)]
    rfl
  | m + 1, f + 1, i, g, hf, he, h0, hg => by
    have h6 := (TKl k).2.1
    have gb := gr_bd (r := t 6) (g := g) (b := b) (by omega)
    rw [fx5, b_X12_dripped_174_c15, w32_id (by omega), w32_id (by omega), if_neg (by omega), p_growth (by rw [e]; omega) (by omega) hb, cl_rt, e, lt_v]
    exact p_drip_l k hb hA e m f (i + 1) _ (by omega) (by omega) (by omega) (by omega)
  | _, 0, _, _, hf, _, _, _ => absurd hf (Nat.not_lt_zero _)
theorem p_drip {age b c s seed : Int} {t : Nat → Int} (k : TK t) {d : D9} (e : d 175 = t) (hA : 0 ≤ age ∧ age ≤ 400) (hb : 0 ≤ b ∧ b ≤ 9999) (hc : 0 ≤ c ∧ c ≤ 9999) (hs : 0 ≤ s ∧ s ≤ 99) : m_X12_dripped_174 age b c s seed d = rt (drw (t 10) (grn t age b c s) seed) (up d 174 24 (1103515245 * seed + 12345)) := by
  have h1 := mb (x := 10 * c) (r := s) (A := 99990) (R := 99) (by omega) (by omega) (by omega) (by omega)
  have h2 : 0 ≤ 10 * c * s := Int.mul_nonneg (by omega) hs.1
  unfold m_X12_dripped_174
  rw [lt_v, w32_id (by omega), w32_id (by omega)]
  exact p_drip_l k hb hA.2 e age.toNat FU 0 (10 * c * s) (by unfold FU; omega) (by omega) (by omega) (by omega)
theorem isDrip_i {age b c s : Int} {d : D9} (hA : I32 age) (hb : I32 b) (hc : I32 c) (hs : I32 s) : m_X12_isDrip age b c s d = rt (bi (decide ((0 ≤ age ∧ age ≤ 400) ∧ (0 ≤ b ∧ b ≤ 9999) ∧ (0 ≤ c ∧ c ≤ 9999) ∧ 0 ≤ s ∧ s ≤ 99))) d := by
  unfold m_X12_isDrip
  have hA' := hA; have hb' := hb; have hc' := hc
  unfold I32 at hA' hb' hc'
  rw [w32_id hA, within_i hA (by omega), cl_rt, w32_bi, w32_id hb, w32_id hc, p_areCounts (by omega) (by omega) (by omega), cl_rt, w32_bi, isShare_i hs, cl_rt, w32_bi]
  by_cases x : 0 ≤ age ∧ age ≤ 400 <;> by_cases y : 0 ≤ b ∧ b ≤ 9999 <;> by_cases z : 0 ≤ c ∧ c ≤ 9999 <;> by_cases u : 0 ≤ s ∧ s ≤ 99 <;> simp [x, y, z, u, bi]
theorem askDrip_i {age b c s : Int} {d : D9} (hA : I32 age) (hb : I32 b) (hc : I32 c) (hs : I32 s) : m_X11_askDrip age b c s d = if (0 ≤ age ∧ age ≤ 400) ∧ (0 ≤ b ∧ b ≤ 9999) ∧ (0 ≤ c ∧ c ≤ 9999) ∧ 0 ≤ s ∧ s ≤ 99 then rt 0 d else th 0 d := by
  unfold m_X11_askDrip
  rw [ask_i hA (by omega)]
  by_cases x : 0 ≤ age ∧ age ≤ 400
  · rw [if_pos x, cl_rt, ask_i hb (by omega)]
    by_cases y : 0 ≤ b ∧ b ≤ 9999
    · rw [if_pos y, cl_rt, ask_i hc (by omega)]
      by_cases z : 0 ≤ c ∧ c ≤ 9999
      · rw [if_pos z, cl_rt, ask_i hs (by omega)]
        by_cases u : 0 ≤ s ∧ s ≤ 99
        · rw [if_pos u, cl_rt, if_pos ⟨x, y, z, u⟩]
        · rw [if_neg u, cl_th, if_neg (fun h => u h.2.2.2)]
      · rw [if_neg z, cl_th, if_neg (fun h => z h.2.2.1)]
    · rw [if_neg y, cl_th, if_neg (fun h => y h.2.1)]
  · rw [if_neg x, cl_th, if_neg (fun h => x h.1)]
/-- a trial's seed hits -/
def trh (t : Nat → Int) (age b c s seed : Int) : Bool := decide (spn t (drw (t 10) (grn t age b c s) seed) b c false ≤ age ∧ age ≤ spn t (drw (t 10) (grn t age b c s) seed) b c true)
theorem goal_mono {t : Nat → Int} (k : TK t) {a : Int} (ha : 0 ≤ a ∧ a ≤ 9999) : goal t a false ≤ goal t 9999 true := by
  have h10 := (TKl k).2.2.2.2.2.1
  unfold goal
  have h1 : a * (100 - t 10) ≤ 9999 * (100 + t 10) := Int.mul_le_mul (by omega) (by omega) (by omega) (by omega)
  simp only [Bool.false_eq_true, if_false, if_true]
  omega
theorem trh_q {t : Nat → Int} (k : TK t) {age b c a T B : Int} (hA : 0 ≤ age ∧ age ≤ 400) (ha : 0 ≤ a ∧ a ≤ 9999)
    (hT : T = if age = 400 then goal t 9999 true else gn (t 6) b age.toNat (10 * c * t 8)) (hB : B = if age = 0 then -1 else gn (t 6) b (age - 1).toNat (10 * c * t 7)) : (spn t a b c false ≤ age ∧ age ≤ spn t a b c true) ↔ (goal t a false ≤ T ∧ B < goal t a true) := by
  have h6 := (TKl k).2.1
  have g1 := goal_rng (m := true) (TKl k) ha
  have s0 := spn_rng t a b c false
  have s1 := spn_rng t a b c true
  have k1 : spn t a b c false ≤ age ↔ goal t a false ≤ T := by
    rw [hT]
    by_cases x : age = 400
    · rw [if_pos x]
      have := goal_mono k ha
      constructor
      · intro _; exact this
      · intro _; omega
    · rw [if_neg x]
      have := ck_le' (r := t 6) (b := b) (goal := goal t a false) (g := 10 * c * t 8) (by omega) (n := 400) (m := age.toNat) (by omega)
      unfold spn
      simp only [Bool.false_eq_true, if_false]
      rw [← this]
      omega
  have k2 : age ≤ spn t a b c true ↔ B < goal t a true := by
    rw [hB]
    by_cases x : age = 0
    · rw [if_pos x]
      constructor
      · intro _; omega
      · intro _; omega
    · rw [if_neg x]
      have := ck_le' (r := t 6) (b := b) (goal := goal t a true) (g := 10 * c * t 7) (by omega) (n := 400) (m := (age - 1).toNat) (by omega)
      unfold spn
      simp only [if_true]
      rw [show age ≤ ck (t 6) b (goal t a true) 400 (10 * c * t 7) ↔ ¬ ck (t 6) b (goal t a true) 400 (10 * c * t 7) ≤ ((age - 1).toNat : Int) by omega, this]
      omega
  rw [k1, k2]
theorem o_trial {age b c s n : Int} {d : D9} (q : Q7 d) (hA : I32 age) (hb : I32 b) (hc : I32 c) (hs : I32 s) (hn : I32 n) : AG d (m_X11_trial_0 age b c s n d) (m_X12_trial_174 age b c s n) fA := by
  obtain ⟨_, h6, h7, h8, h9, h10, h11, h12⟩ := TKl q.1
  have rl := RWl q.2
  have thr : ∀ d' : D9, ¬ (((0 ≤ age ∧ age ≤ 400) ∧ (0 ≤ b ∧ b ≤ 9999) ∧ (0 ≤ c ∧ c ≤ 9999) ∧ 0 ≤ s ∧ s ≤ 99) ∧ 1 ≤ n ∧ n ≤ 100) → ∃ b' d2, m_X12_trial_174 age b c s n d' = rt b' d2 ∧ MS d' d2 ∧ d2 174 3 = fA 0 := by
    intro d' h
    unfold m_X12_trial_174 m_X12_trial_174_c29
    rw [pf_v, isDrip_i hA hb hc hs, cl_rt, w32_bi, w32_id hn, within_i hn (by omega), cl_rt, w32_bi, p_fails, cl_rt]
    by_cases x : ((0 ≤ age ∧ age ≤ 400) ∧ (0 ≤ b ∧ b ≤ 9999) ∧ (0 ≤ c ∧ c ≤ 9999) ∧ 0 ≤ s ∧ s ≤ 99)
    · by_cases y : 1 ≤ n ∧ n ≤ 100
      · exact absurd ⟨x, y⟩ h
      · rw [dec_t x, dec_f y, bi_t, bi_f, if_neg ne10, if_neg (by omega)]; exact thr1 d' 1
    · rw [dec_f x, bi_f, if_pos rfl]; exact thr1 d' 1
  by_cases x : ((0 ≤ age ∧ age ≤ 400) ∧ (0 ≤ b ∧ b ≤ 9999) ∧ (0 ≤ c ∧ c ≤ 9999) ∧ 0 ≤ s ∧ s ≤ 99)
  · by_cases y : 1 ≤ n ∧ n ≤ 100
    · obtain ⟨xA, xb, xc, xs⟩ := id x
      have gr1 := grn_rng q.1 (age := age) xb xc xs
      have dr : ∀ seed, 0 ≤ drw (d 175 10) (grn (d 175) age b c s) seed ∧ drw (d 175 10) (grn (d 175) age b c s) seed ≤ 9999 := fun seed => (drw_r gr1.2 h10).2
      cases hthin : thn (d 175) b
      · refine AG.ret q (fo (fun seed v => v + bi (trh (d 175) age b c s seed)) n.toNat 1 0) ?_ (fun d' q' e => ?_)
        · have gT := grn_rng q.1 (age := age) (s := d 175 8) xb xc (by omega)
          have gB := grn_rng q.1 (age := age - 1) (s := d 175 7) xb xc (by omega)
          have gG := goal_rng (m := true) (TKl q.1) (a := 9999) (by omega)
          have loop : ∀ T B, T = (if age = 400 then goal (d 175) 9999 true else gn (d 175 6) b age.toNat (10 * c * d 175 8)) → B = (if age = 0 then -1 else gn (d 175 6) b (age - 1).toNat (10 * c * d 175 7)) → m_X11_trial_0_c116 n (grn (d 175) age b c s) T B 0 1 d = rt (fo (fun seed v => v + bi (trh (d 175) age b c s seed)) n.toNat 1 0) d := by
            intro T B hT hB
            have rT : -1 ≤ T ∧ T ≤ 20000000 := by rw [hT]; split <;> omega
            have rB : -1 ≤ B ∧ B ≤ 20000000 := by rw [hB]; split <;> omega
            have z := (fix_fu (z := fun _ _ _ _ _ _ _ => none) (B := fun k => b_X11_trial_0_c116 k) (fun k i v => k n (grn (d 175) age b c s) T B v i d) 1 (n + 1) (fun seed v => v + bi (trh (d 175) age b c s seed)) (fun i v => 1 ≤ i) (fun v => rt v d) 0 (by omega) (by omega) ?_ ?_).2
            · rw [show n + 1 - 1 = n by omega] at z; exact z
            · intro k v hI
              simp only [b_X11_trial_0_c116]
              rw [w32_id (by omega), w32_id (by omega), if_pos (by omega)]
            · intro k i v hlt hI
              have r0 := goal_rng (m := false) (TKl q.1) (dr i)
              have r1 := goal_rng (m := true) (TKl q.1) (dr i)
              refine ⟨by omega, ?_⟩
              simp only [b_X11_trial_0_c116]
              rw [w32_id (by omega), w32_id (by omega), if_neg (by omega), q_drawn q.1 rl gr1.2, cl_rt, q_goalBelow (TKl q.1) rl (dr i), cl_rt, q_goalAbove (TKl q.1) rl (dr i), cl_rt, w32_id (by omega), w32_id (by omega), w32_id (by omega), w32_id (by omega)]
              have key := trh_q q.1 (b := b) (c := c) xA (dr i) hT hB
              unfold trh
              by_cases y1 : goal (d 175) (drw (d 175 10) (grn (d 175) age b c s) i) false ≤ T
              · rw [if_neg (by omega)]
                by_cases y2 : B < goal (d 175) (drw (d 175 10) (grn (d 175) age b c s) i) true
                · rw [if_neg (by omega), dec_t (key.mpr ⟨y1, y2⟩), bi_t]
                · rw [if_pos (by omega), dec_f (fun h => y2 (key.mp h).2), bi_f, Int.add_zero]
              · rw [if_pos (by omega), dec_f (fun h => y1 (key.mp h).1), bi_f, Int.add_zero]
          unfold m_X11_trial_0
          rw [askDrip_i hA hb hc hs, if_pos x, cl_rt, ask_i hn (by omega), if_pos y, cl_rt, q_isThin (TKl q.1) rl xb, cl_rt, hthin, bi_f, t0_0, if_pos rfl, q_grown (by rw [rl.2.1]; omega) xb xA xc xs, cl_rt, rl.2.1, lt_v, div9_in (by omega), tdiv_pos (by omega), w32_id hA, w32_id (by omega), show gn (d 175 6) b age.toNat (10 * c * s) / 1000 = grn (d 175) age b c s from rfl]
          have fin : ∀ T, T = (if age = 400 then goal (d 175) 9999 true else gn (d 175 6) b age.toNat (10 * c * d 175 8)) → m_X11_trial_0_c83 age b c n (grn (d 175) age b c s) T d = rt (fo (fun seed v => v + bi (trh (d 175) age b c s seed)) n.toNat 1 0) d := by
            intro T hT
            unfold m_X11_trial_0_c83
            rw [w32_id hA, rl.2.2.1]
            by_cases w : age = 0
            · rw [if_neg (by omega), loop T (-1) hT (by rw [if_pos w])]
            · rw [if_pos w, q_grown (by rw [rl.2.1]; omega) xb (by omega) xc h7, cl_rt, rl.2.1, loop T _ hT (by rw [if_neg w])]
          by_cases w : age = 400
          · rw [if_neg (by omega), q_goalAbove (TKl q.1) rl (by omega), cl_rt, fin _ (by rw [if_pos w])]
          · rw [if_pos w, rl.2.2.2.1, q_grown (by rw [rl.2.1]; omega) xb xA xc h8, cl_rt, rl.2.1, fin _ (by rw [if_neg w])]
        · have e1 := (m3 d' 0).1.trans e
          have z := (fix_fu (z := fun _ _ _ _ _ _ _ _ => none) (B := fun k => b_X12_trial_174_c41 k) (fun k i (p : Int × D9) => k age b c s n p.1 i p.2) 1 (n + 1) (fun seed p => (p.1 + bi (trh (d 175) age b c s seed), up p.2 174 24 (1103515245 * seed + 12345))) (fun i p => 1 ≤ i ∧ p.2 175 = d 175 ∧ MS d' p.2 ∧ p.2 174 3 = 0) (fun p => rt p.1 p.2) (0, up d' 174 3 0) (by omega) ⟨by omega, e1, MS.u3 d' 0, rfl⟩ ?_ ?_)
          · rw [show n + 1 - 1 = n by omega] at z
            have fst : ∀ (m : Nat) (i : Int) (p : Int × D9), (fo (fun seed (p : Int × D9) => (p.1 + bi (trh (d 175) age b c s seed), up p.2 174 24 (1103515245 * seed + 12345))) m i p).1 = fo (fun seed v => v + bi (trh (d 175) age b c s seed)) m i p.1 := by
              intro m
              induction m with
              | zero => intro i p; rfl
              | succ m ih => intro i p; exact ih (i + 1) _
            refine ⟨_, ?_, z.1.2.2.1, z.1.2.2.2⟩
            unfold m_X12_trial_174
            rw [pf_v, isDrip_i hA hb hc hs, cl_rt, dec_t x, bi_t, t1_0, if_neg ne10, w32_id hn, within_i hn (by omega), cl_rt, dec_t y, bi_t, t1_0, if_pos ne10, ← fst n.toNat 1 (0, up d' 174 3 0)]
            exact z.2
          · intro k p hI
            simp only [b_X12_trial_174_c41]
            rw [w32_id (by omega), w32_id (by omega), if_pos (by omega)]
          · intro k i p hlt hI
            have dd : (up p.2 174 24 (1103515245 * i + 12345)) 175 = d 175 := (up_k (by decide)).trans hI.2.1
            have s0 := spn_rng (d 175) (drw (d 175 10) (grn (d 175) age b c s) i) b c false
            have s1 := spn_rng (d 175) (drw (d 175 10) (grn (d 175) age b c s) i) b c true
            refine ⟨⟨by omega, dd, hI.2.2.1.tr (MS.w (by unfold SCR; omega) (by decide) (by omega) (by intro _; decide)), hI.2.2.2⟩, ?_⟩
            simp only [b_X12_trial_174_c41]
            rw [w32_id (by omega), w32_id (by omega), if_neg (by omega), p_isThin (by rw [hI.2.1]; exact TKl q.1) xb, hI.2.1, hthin, cl_rt, bi_f, t0_0, if_neg (by omega), p_drip q.1 hI.2.1 xA xb xc xs, cl_rt, p_spanOf (by rw [dd]; exact TKl q.1) (dr i) xb xc (by omega), cl_rt, p_spanOf (by rw [dd]; exact TKl q.1) (dr i) xb xc (by omega), cl_rt, dd, w32_id hA, lt_v, lt_v, Int.add_zero]
            rw [show decide ((0 : Int) = 1) = false from rfl, show decide ((1 : Int) = 1) = true from rfl, w32_id (by omega), w32_id (by omega)]
            unfold trh
            by_cases y1 : spn (d 175) (drw (d 175 10) (grn (d 175) age b c s) i) b c false ≤ age
            · rw [if_neg (by omega)]
              by_cases y2 : age ≤ spn (d 175) (drw (d 175 10) (grn (d 175) age b c s) i) b c true
              · rw [if_neg (by omega), dec_t ⟨y1, y2⟩, bi_t]
              · rw [if_pos (by omega), dec_f (fun h => y2 h.2), bi_f, Int.add_zero]
            · rw [if_pos (by omega), dec_f (fun h => y1 h.1), bi_f, Int.add_zero]
      · refine AG.ret q 0 ?_ (fun d' q' e => ?_)
        · unfold m_X11_trial_0
          rw [askDrip_i hA hb hc hs, if_pos x, cl_rt, ask_i hn (by omega), if_pos y, cl_rt, q_isThin (TKl q.1) rl xb, cl_rt, hthin, bi_t, t1_0, if_neg ne10]
        · have e1 := (m3 d' 0).1.trans e
          refine ⟨up d' 174 3 0, ?_, MS.u3 d' 0, (m3 d' 0).2⟩
          unfold m_X12_trial_174 m_X12_trial_174_c41
          rw [pf_v, isDrip_i hA hb hc hs, cl_rt, dec_t x, bi_t, t1_0, if_neg ne10, w32_id hn, within_i hn (by omega), cl_rt, dec_t y, bi_t, t1_0, if_pos ne10, show FU = 999999 + 1 from rfl, fx7, b_X12_trial_174_c41, w32_id hn, t1_0, if_neg (by omega), p_isThin (by rw [e1]; exact TKl q.1) xb, e1, hthin, cl_rt, bi_t, t1_0, if_pos ne10]
    · refine AG.thr q 0 ?_ (fun d' _ _ => thr d' (fun h => y h.2))
      unfold m_X11_trial_0
      rw [askDrip_i hA hb hc hs, if_pos x, cl_rt, ask_i hn (by omega), if_neg y, cl_th]
  · refine AG.thr q 0 ?_ (fun d' _ _ => thr d' (fun h => x h.1))
    unfold m_X11_trial_0
    rw [askDrip_i hA hb hc hs, if_neg x, cl_th]

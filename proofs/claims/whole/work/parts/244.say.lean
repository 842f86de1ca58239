/-! alone, say -/
def onl (t : Nat → Int) (w x : Int) : Bool := !ex (fun k => (was t 1 k x) != decide (k = w)) 6 0
theorem p_only {w x : Int} {d : D9} {t : Nat → Int} (k : TK t) (e : d 175 = t) (hw : 0 ≤ w ∧ w ≤ 5) (hx : 0 ≤ x ∧ x ≤ 400) : m_X12_isOnly_174 w x d = rt (bi (onl t w x)) d := by
  have z := fix_xu (z := fun _ _ _ _ => none) (B := fun k => b_X12_isOnly_174_c2 k) (fun k i => k w x i d) 0 6 (fun k => (was t 1 k x) != decide (k = w)) (rt 0 d) (rt 1 d) (by omega) ?_ ?_
  · refine z.trans ?_
    rw [show ((6 : Int) - 0).toNat = 6 from rfl]
    unfold onl
    cases ex (fun k => (was t 1 k x) != decide (k = w)) 6 0 <;> rfl
  · intro k'
    simp only [b_X12_isOnly_174_c2]
    rw [if_pos (Int.le_refl _)]; rfl
  · intro k' i h0 hi
    simp only [b_X12_isOnly_174_c2]
    rw [w32_id (by omega), w32_id (by omega), if_neg (by omega), p_was k e (by omega) (by omega) hx, cl_rt, w32_id (by omega), m_X12_isOnly_174_c25, m_X12_isOnly_174_c25, w32_bi]
    by_cases y : i = w
    · rw [if_neg (by omega)]
      cases was t 1 i x <;> simp [y, bi, w32]
    · rw [if_pos y]
      cases was t 1 i x <;> simp [y, bi, w32]
noncomputable def alo (t : Nat → Int) (p w : Int) : Int := fo (fun x n => n + bi (tm t p x && onl t w x)) 401 0 0
theorem p_alone {p w : Int} {d : D9} {t : Nat → Int} (k : TK t) (e : d 175 = t) (hT : TM d t p) (hw : 0 ≤ w ∧ w ≤ 5) : m_X12_aloneIn_174 w d = rt (alo t p w) d := by
  have z := (fix_fu (z := fun _ _ _ _ => none) (B := fun k => b_X12_aloneIn_174_c4 k) (fun k x n => k w n x d) 0 401 (fun x n => n + bi (tm t p x && onl t w x)) (fun x n => 0 ≤ x) (fun n => rt n d) 0 (by omega) (by omega) ?_ ?_).2
  · rw [show ((401 : Int) - 0).toNat = 401 from rfl] at z
    unfold alo
    exact z
  · intro k' c hI
    simp only [b_X12_aloneIn_174_c4]
    rw [w32_id (by omega), w32_id (by omega), if_pos (by omega)]
  · intro k' x n hlt hI
    refine ⟨by omega, ?_⟩
    simp only [b_X12_aloneIn_174_c4]
    rw [w32_id (by omega), w32_id (by omega), if_neg (by omega), ld_in (by omega), hT x hI (by omega), w32_bi, p_only k e hw (by omega), cl_rt, w32_bi, lt_v, lt_v]
    cases tm t p x <;> cases onl t w x <;> simp [bi]
theorem onl_pps {t : Nat → Int} (k : TK t) {w x : Int} (hw : 0 ≤ w ∧ w ≤ 5) : onl t w x = decide (pps t x = shl9 1 w) := by
  obtain ⟨⟨h0, h1⟩, hb⟩ := pps_ok k x
  have rk := shl9_rng (i := w) (by omega)
  apply b_iff
  unfold onl
  rw [Bool.not_eq_true', ex_false, decide_eq_true_eq]
  constructor
  · intro h
    refine tb_ext ⟨h0, h1⟩ (by omega) (fun i a b => ?_)
    rw [hb i a b, tb_shl (by omega) a]
    by_cases hi : i < 6
    · have := h i a (by omega)
      have e : was t 1 i x = decide (i = w) := by simpa using this
      rw [e]
      exact decide_eq_decide.mpr ⟨fun h => h.symm, fun h => h.symm⟩
    · rw [was_6 k (by omega), dec_f (by omega)]
  · intro h j a b
    have := hb j a (by omega)
    rw [h, tb_shl (by omega) a] at this
    rw [← this]
    by_cases y : j = w
    · subst y; simp
    · have : ¬ w = j := fun h => y h.symm
      simp [y, this]
theorem o_alone {p w : Int} {d : D9} (q : Q7 d) (hp : I32 p) (hw : I32 w) : AG d (m_X11_alone_0 p w d) (m_X12_alone_174 p w) fN := by
  obtain ⟨n0, n1, n2, n3⟩ := TKn q.1
  have ha := q_askPaint (d := d) hp (RWp q.2).1 n0
  by_cases hc : 0 ≤ p ∧ p < d 175 0
  · by_cases hD : 0 ≤ w ∧ w ≤ 5
    · have r1 := bnd_rng (d 175) p false (-1)
      have r2 := bnd_rng (d 175) p true (-1)
      have rk := shl9_rng (i := w) (by omega)
      refine AG.ret q (alo (d 175) p w) ?_ (fun d' q' e => ?_)
      · unfold m_X11_alone_0 m_X10_aloneOf_1
        rw [ha, if_pos hc, cl_rt, ask_i hw (by omega), if_pos hD, cl_rt, q_mostOf (TKn q.1) (TKo q.1) (TKs q.1) (RWo q.2) (RWs q.2) (by omega), cl_rt, q_leastOf (TKn q.1) (TKo q.1) (TKs q.1) (RWo q.2) (RWs q.2) (by omega), cl_rt]
        have z := (fix_fu (z := fun _ _ _ _ _ _ => none) (B := fun k => b_X10_aloneOf_1_c16 k) (fun k x c => k p w (bnd (d 175) p true (-1)) c x d) (bnd (d 175) p false (-1)) (max (bnd (d 175) p true (-1) + 1) (bnd (d 175) p false (-1))) (fun x c => if liv (d 175) p x = true then c + bi (onl (d 175) w x) else c) (fun x c => bnd (d 175) p false (-1) ≤ x) (fun c => rt c d) 0 (by omega) (by omega) ?_ ?_).2
        · rw [← tm_win] at z
          have e2 : fo (fun x c => if tm (d 175) p x = true then c + bi (onl (d 175) w x) else c) 401 0 0 = alo (d 175) p w := by
            unfold alo
            refine fo_congr' _ _ _ (fun j c _ _ => ?_)
            cases tm (d 175) p j <;> simp [bi_f]
          rw [e2] at z
          rw [show m_X10_aloneOf_1_c16 p w (bnd (d 175) p true (-1)) 0 (bnd (d 175) p false (-1)) d = _ from z, cl_rt]
        · intro k' c hI
          simp only [b_X10_aloneOf_1_c16]
          rw [w32_id (by omega), w32_id (by omega), if_pos (by omega)]
        · intro k' x c hlt hI
          have pp := (pps_ok q.1 x).1
          refine ⟨by omega, ?_⟩
          simp only [b_X10_aloneOf_1_c16]
          rw [w32_id (by omega), w32_id (by omega), if_neg (by omega), q_lives q.1 q.2 hc (by omega), cl_rt, w32_bi, q_pps q.1 q.2 (by omega), cl_rt, w32_id (by omega), w32_id (by omega), onl_pps q.1 hD]
          cases liv (d 175) p x
          · simp [bi]
          · by_cases y : pps (d 175) x = shl9 1 w
            · simp [bi, y]
            · simp [bi, y]
      · have e1 := (m3 d' 0).1.trans e
        obtain ⟨d1, b1, b2, b3, b4, b5⟩ := p_layTimes q.1 e1 hc
        refine ⟨d1, ?_, (MS.u3 d' 0).tr b2, b3.trans (m3w d' 0)⟩
        unfold m_X12_alone_174
        rw [p_peopleFault q.1 e hp hw, if_pos hc, if_pos hD, cl_rt, pf_v, m3w, t0_0, if_pos (by omega), b1, cl_rt, p_alone q.1 b4.1 b5 hD, cl_rt]
    · refine AG.thr q 0 ?_ (fun d' q' e => ?_)
      · unfold m_X11_alone_0
        rw [ha, if_pos hc, cl_rt, ask_i hw (by omega), if_neg hD, cl_th]
      · unfold m_X12_alone_174
        rw [p_peopleFault q.1 e hp hw, if_pos hc, if_neg hD, cl_rt, pf_v, m3w, if_neg (by decide)]
        exact ref3 (v := 2) (by omega) rfl
  · refine AG.thr q 2 ?_ (fun d' q' e => ?_)
    · unfold m_X11_alone_0
      rw [ha, if_neg hc, cl_th]
    · unfold m_X12_alone_174
      rw [p_peopleFault q.1 e hp hw, if_neg hc, cl_rt, pf_v, m3w, if_neg (by decide)]
      exact ref3 (v := 1) (by omega) rfl
/-! say -/
def ltS (t : Nat → Int) (k v : Int) : Int := if st t k 0 = 1 then max v (st t k 3) else v
def lat (t : Nat → Int) : Int := fo (ltS t) (t 5).toNat 0 (-1)
theorem lat_rng {t : Nat → Int} (k : TK t) : -1 ≤ lat t ∧ lat t ≤ 400 := by
  obtain ⟨y5, yk⟩ := TKy k
  exact fo_inv (g := ltS t) (fun _ v => -1 ≤ v ∧ v ≤ 400) (t 5).toNat 0 (-1) (by omega) (fun j v h1 h2 h => by
    have := yk j h1 (by omega)
    unfold ltS; split <;> omega)
theorem q_oldest {d : D9} {t : Nat → Int} (k : TK t) (r : RW d t) : m_X7_oldestPeople_23 d = rt (lat t) d := by
  obtain ⟨y5, yk⟩ := TKy k
  have z := (fix_fu (z := fun _ _ _ => none) (B := fun k => b_X7_oldestPeople_23_c4 k) (fun k i v => k v i d) 0 (t 5) (ltS t) (fun i v => 0 ≤ i ∧ -1 ≤ v ∧ v ≤ 400) (fun v => rt v d) (-1) (by omega) (by omega) ?_ ?_).2
  · rw [Int.sub_zero] at z; exact z
  · intro k' v hI
    simp only [b_X7_oldestPeople_23_c4]
    rw [(RWy r).1, if_pos (Int.le_refl _)]
  · intro k' i v hi hI
    obtain ⟨a0, a1, a2, a3, a4⟩ := yk i hI.1 hi
    obtain ⟨r0, r1, r2, r3⟩ := (RWy r).2 i hI.1 hi
    refine ⟨by unfold ltS; split <;> omega, ?_⟩
    simp only [b_X7_oldestPeople_23_c4]
    rw [(RWy r).1, w32_id (by omega), w32_id (by omega), if_neg (by omega), ld_in (by omega), r0, w32_id (by omega), w32_id (by omega), ld_in (by omega), r3, lt_v, max9_in (by omega)]
    unfold ltS
    by_cases x1 : st t i 0 = 1
    · rw [if_neg (by omega), if_pos x1]
    · rw [if_pos (by omega), if_neg x1]
theorem p_latest {d : D9} {t : Nat → Int} (k : TK t) (e : d 175 = t) : m_X12_latest_174 d = rt (lat t) d := by
  obtain ⟨y5, yk⟩ := TKy k
  have z := (fix_fu (z := fun _ _ _ => none) (B := fun k => b_X12_latest_174_c6 k) (fun k i v => k v (1086 + 4 * i) d) 0 (t 5) (ltS t) (fun i v => 0 ≤ i ∧ -1 ≤ v ∧ v ≤ 400) (fun v => rt v d) (-1) (by omega) (by omega) ?_ ?_).2
  · rw [Int.sub_zero] at z; exact z
  · intro k' v hI
    simp only [b_X12_latest_174_c6]
    rw [ld_in (by omega), show ((5 : Int).toNat) = 5 from rfl, e, if_pos (Int.le_refl _)]
  · intro k' i v hi hI
    obtain ⟨a0, a1, a2, a3, a4⟩ := yk i hI.1 hi
    refine ⟨by unfold ltS; split <;> omega, ?_⟩
    simp only [b_X12_latest_174_c6]
    rw [ld_in (by omega), show ((5 : Int).toNat) = 5 from rfl, e, w32_id (by omega), w32_id (by omega), if_neg (by omega), ld_in (by omega), e, st_0 t i, ld_in (by omega), e, st_w t i 3, w32_id (by omega), w32_id (by omega), lt_v, max9_in (by omega), show 1086 + 4 * i + 4 = 1086 + 4 * (i + 1) by omega]
    unfold ltS
    by_cases x1 : st t i 0 = 1
    · rw [if_neg (by omega), if_pos x1]
    · rw [if_pos (by omega), if_neg x1]
/-- all times of the paint are of one people alone -/
noncomputable def one (t : Nat → Int) (p : Int) : Bool := ex (fun w => decide (0 < nT t p) && decide (alo t p w = nT t p)) 6 0
theorem cnt_all {P Q : Int → Bool} : ∀ (m : Nat) (i : Int), fo (fun x n => n + bi (P x && Q x)) m i 0 ≤ fo (fun x n => n + bi (P x)) m i 0 ∧ (fo (fun x n => n + bi (P x && Q x)) m i 0 = fo (fun x n => n + bi (P x)) m i 0 ↔ ∀ j, i ≤ j → j < i + m → P j = true → Q j = true)
  | 0, i => ⟨Int.le_refl _, ⟨fun _ j h1 h2 => by omega, fun _ => rfl⟩⟩
  | m + 1, i => by
    obtain ⟨h1, h2⟩ := cnt_all (P := P) (Q := Q) m (i + 1)
    simp only [fo]
    rw [fo_shift (fun x => bi (P x && Q x)) m (i + 1) (0 + bi (P i && Q i)), fo_shift (fun x => bi (P x)) m (i + 1) (0 + bi (P i))]
    have hb : bi (P i && Q i) ≤ bi (P i) := by cases P i <;> cases Q i <;> decide
    refine ⟨by omega, ?_⟩
    constructor
    · intro e j a b hp
      by_cases y : j = i
      · subst y
        rw [hp] at hb e
        cases hq : Q j with
        | true => rfl
        | false => rw [hq, show bi (true && false) = 0 from rfl, bi_t] at e; omega
      · exact h2.mp (by omega) j (by omega) (by omega) hp
    · intro h
      have e1 := h2.mpr (fun j a b hp => h j (by omega) (by omega) hp)
      have e2 : bi (P i && Q i) = bi (P i) := by
        cases hp : P i with
        | false => rfl
        | true => rw [h i (by omega) (by omega) hp]; rfl
      omega
theorem cnt_pos {P : Int → Bool} : ∀ (m : Nat) (i : Int), 0 ≤ fo (fun x n => n + bi (P x)) m i 0 ∧ (0 < fo (fun x n => n + bi (P x)) m i 0 ↔ ∃ j, i ≤ j ∧ j < i + m ∧ P j = true)
  | 0, i => ⟨Int.le_refl _, ⟨fun h => (Int.lt_irrefl 0 h).elim, fun ⟨j, a, b, _⟩ => by omega⟩⟩
  | m + 1, i => by
    obtain ⟨h1, h2⟩ := cnt_pos (P := P) m (i + 1)
    simp only [fo]
    rw [fo_shift (fun x => bi (P x)) m (i + 1) (0 + bi (P i))]
    have hb := bi_rng (P i)
    refine ⟨by omega, ?_⟩
    constructor
    · intro h
      by_cases y : P i = true
      · exact ⟨i, by omega, by omega, y⟩
      · rw [Bool.not_eq_true] at y
        rw [y, bi_f] at h
        obtain ⟨j, a, b, c⟩ := h2.mp (by omega)
        exact ⟨j, by omega, by omega, c⟩
    · rintro ⟨j, a, b, c⟩
      by_cases y : j = i
      · subst y; rw [c, bi_t]; omega
      · have := h2.mpr ⟨j, by omega, by omega, c⟩; omega
theorem one_iff (t : Nat → Int) (p : Int) : one t p = true ↔ (∃ x, 0 ≤ x ∧ x < 401 ∧ tm t p x = true) ∧ ∃ w, 0 ≤ w ∧ w ≤ 5 ∧ ∀ x, 0 ≤ x → x < 401 → tm t p x = true → onl t w x = true := by
  have hp := (cnt_pos (P := tm t p) 401 0).2
  rw [show (fo (fun x n => n + bi (tm t p x)) 401 0 0) = nT t p from rfl] at hp
  unfold one
  rw [ex_iff]
  constructor
  · rintro ⟨w, h0, h1, h2⟩
    simp only [Bool.and_eq_true, decide_eq_true_eq] at h2
    obtain ⟨x, a, b, c⟩ := hp.mp h2.1
    refine ⟨⟨x, a, by omega, c⟩, w, h0, by omega, ?_⟩
    have := (cnt_all (P := tm t p) (Q := onl t w) 401 0).2.mp h2.2
    intro x a b c
    exact this x a (by omega) c
  · rintro ⟨⟨x, a, b, c⟩, w, h0, h1, h2⟩
    refine ⟨w, h0, by omega, ?_⟩
    simp only [Bool.and_eq_true, decide_eq_true_eq]
    refine ⟨hp.mpr ⟨x, a, by omega, c⟩, ?_⟩
    exact (cnt_all (P := tm t p) (Q := onl t w) 401 0).2.mpr (fun j a b c => h2 j a (by omega) c)
theorem bc_1 : ∀ X, X < 64 → bc ((X : Nat) : Int) = 1 → ∃ k, k < 6 ∧ X = 2 ^ k := by
  intro X hX h
  rw [bc_nat X (by omega)] at h
  have key : ∀ X < 64, cnt X = 1 → X = 1 ∨ X = 2 ∨ X = 4 ∨ X = 8 ∨ X = 16 ∨ X = 32 := by decide +kernel
  rcases key X hX (by omega) with e | e | e | e | e | e
  · exact ⟨0, by omega, e⟩
  · exact ⟨1, by omega, e⟩
  · exact ⟨2, by omega, e⟩
  · exact ⟨3, by omega, e⟩
  · exact ⟨4, by omega, e⟩
  · exact ⟨5, by omega, e⟩
theorem bc_sh {w : Int} (hw : 0 ≤ w ∧ w ≤ 5) : bc (shl9 1 w) = 1 := by
  have := bc_or (x := 0) (u := w) (by omega) (by omega) (tb_0 w)
  rw [bc_0, or9_n (by have := shl9_rng (i := w) (by omega); omega)] at this
  have rk := shl9_rng (i := w) (by omega)
  simp at this
  rw [show ((max (shl9 1 w) 0 : Int)) = shl9 1 w by omega] at this
  exact this
theorem pps_1 {t : Nat → Int} (k : TK t) {x : Int} (h : bc (pps t x) = 1) : ∃ w, (0 ≤ w ∧ w ≤ 5) ∧ pps t x = shl9 1 w := by
  have r := (pps_ok k x).1
  have r2 := (bc_pps k x).2
  obtain ⟨X, hX⟩ := Int.eq_ofNat_of_zero_le r.1
  rw [hX] at h r2
  obtain ⟨w, hw, e⟩ := bc_1 X (by omega) h
  refine ⟨w, by omega, ?_⟩
  rw [hX, shl9_1 (by omega), e, Int.toNat_natCast]
def OO (o : Int) : Prop := o = 0 ∨ ∃ w, (0 ≤ w ∧ w ≤ 5) ∧ o = shl9 1 w
theorem OO.r {o : Int} (h : OO o) : 0 ≤ o ∧ o ≤ 1073741823 := by
  rcases h with rfl | ⟨w, hw, rfl⟩
  · omega
  · have := shl9_rng (i := w) (by omega); omega
/-- the class's loop over a window -/
theorem q_one_l {p : Int} {d : D9} (q : Q7 d) (hp : 0 ≤ p ∧ p < d 175 0) {M : Int} (hM : 0 ≤ M ∧ M ≤ 400) : ∀ (m f : Nat) (v : Int) (o : Int), m < f → 0 ≤ v → v + m = max (M + 1) v → v ≤ 401 → OO o →
    ∃ b, fix9 (fun _ _ _ _ _ => none) (fun k => b_X10_isOfOnePeople_1_c15 k) f p M o v d = rt (bi b) d ∧ (b = true ↔ ((o ≠ 0 ∨ ∃ x, v ≤ x ∧ x ≤ M ∧ liv (d 175) p x = true) ∧ ∃ w, (0 ≤ w ∧ w ≤ 5) ∧ (o ≠ 0 → o = shl9 1 w) ∧ ∀ x, v ≤ x → x ≤ M → liv (d 175) p x = true → pps (d 175) x = shl9 1 w))
  | 0, f + 1, v, o, _, h0, he, hv, ho => by
    have ro := ho.r
    refine ⟨decide (o ≠ 0), ?_, ?_⟩
    · rw [fx4, b_X10_isOfOnePeople_1_c15, w32_id (by omega), w32_id (by omega), if_pos (by omega), w32_id (by omega)]
      by_cases y : o = 0
      · rw [if_pos y]; simp [y, bi]
      · rw [if_neg y]; simp [y, bi]
    · rw [decide_eq_true_eq]
      constructor
      · intro h
        rcases ho with e | ⟨w, hw, e⟩
        · exact absurd e h
        · exact ⟨Or.inl h, w, hw, fun _ => e, fun x a b _ => by omega⟩
      · rintro ⟨h | ⟨x, a, b, _⟩, _⟩
        · exact h
        · omega
  | m + 1, f + 1, v, o, hf, h0, he, hv, ho => by
    have ro := ho.r
    have vv : v ≤ v := Int.le_refl v
    have vM : v ≤ M := by omega
    have pp := (pps_ok q.1 v).1
    have br := bc_rng (pps (d 175) v)
    have sh0 : ∀ w, 0 ≤ w ∧ w ≤ 5 → shl9 1 w ≠ 0 := fun w hw => by have := shl9_rng (i := w) (by omega); omega
    rw [fx4, b_X10_isOfOnePeople_1_c15, w32_id (by omega), w32_id (by omega), if_neg (by omega), q_lives q.1 q.2 hp (by omega), cl_rt, w32_bi, q_pps q.1 q.2 (by omega), cl_rt, q_bc, cl_rt, w32_id (by omega), t1_0, w32_id (a := o) (by omega), w32_id (by omega)]
    cases hl : liv (d 175) p v
    · rw [bi_f, if_pos rfl]
      obtain ⟨b, b1, b2⟩ := q_one_l q hp hM m f (v + 1) o (by omega) (by omega) (by omega) (by omega) ho
      refine ⟨b, b1, b2.trans ?_⟩
      constructor
      · rintro ⟨h1, w, hw, h2, h3⟩
        refine ⟨h1.imp id (fun ⟨x, a, b, c⟩ => ⟨x, by omega, b, c⟩), w, hw, h2, fun x a b c => ?_⟩
        by_cases y : x = v
        · subst y; rw [hl] at c; cases c
        · exact h3 x (by omega) b c
      · rintro ⟨h1, w, hw, h2, h3⟩
        refine ⟨h1.imp id (fun ⟨x, a, b, c⟩ => ⟨x, ?_, b, c⟩), w, hw, h2, fun x a b c => h3 x (by omega) b c⟩
        by_cases y : x = v
        · subst y; rw [hl] at c; cases c
        · omega
    · rw [bi_t, if_neg ne10]
      by_cases hbc : bc (pps (d 175) v) = 1
      · rw [if_neg (by omega)]
        obtain ⟨w, hw, ew⟩ := pps_1 q.1 hbc
        have go : (o = 0 ∨ pps (d 175) v = o) → ∃ b, fix9 (fun _ _ _ _ _ => none) (fun k => b_X10_isOfOnePeople_1_c15 k) f p M (pps (d 175) v) (v + 1) d = rt (bi b) d ∧ (b = true ↔ ((o ≠ 0 ∨ ∃ x, v ≤ x ∧ x ≤ M ∧ liv (d 175) p x = true) ∧ ∃ w, (0 ≤ w ∧ w ≤ 5) ∧ (o ≠ 0 → o = shl9 1 w) ∧ ∀ x, v ≤ x → x ≤ M → liv (d 175) p x = true → pps (d 175) x = shl9 1 w)) := by
          intro hoo
          obtain ⟨b, b1, b2⟩ := q_one_l q hp hM m f (v + 1) (pps (d 175) v) (by omega) (by omega) (by omega) (by omega) (Or.inr ⟨w, hw, ew⟩)
          refine ⟨b, b1, b2.trans ?_⟩
          constructor
          · rintro ⟨_, w', hw', h2, h3⟩
            have e' := h2 (by rw [ew]; exact sh0 w hw)
            refine ⟨Or.inr ⟨v, vv, vM, hl⟩, w', hw', fun h => ?_, fun x a b c => ?_⟩
            · rcases hoo with z | z
              · exact absurd z h
              · rw [← z]; exact e'
            · by_cases y : x = v
              · subst y; exact e'
              · exact h3 x (by omega) b c
          · rintro ⟨_, w', hw', h2, h3⟩
            exact ⟨Or.inl (by rw [ew]; exact sh0 w hw), w', hw', fun _ => h3 v vv vM hl, fun x a b c => h3 x (Int.le_trans (Int.le_of_lt (Int.lt_succ v)) a) b c⟩
        by_cases y : o = 0
        · rw [if_pos y]; exact go (Or.inl y)
        · rw [if_neg y]
          by_cases y2 : pps (d 175) v = o
          · rw [if_pos y2]; exact go (Or.inr y2)
          · rw [if_neg y2]
            refine ⟨false, rfl, ⟨fun h => (nomatch h), ?_⟩⟩
            rintro ⟨_, w', hw', h2, h3⟩
            exact absurd ((h3 v vv vM hl).trans (h2 y).symm) y2
      · rw [if_pos hbc]
        refine ⟨false, rfl, ⟨fun h => (nomatch h), ?_⟩⟩
        rintro ⟨_, w', hw', h2, h3⟩
        exact absurd (by rw [h3 v vv vM hl]; exact bc_sh hw') hbc
  | _, 0, _, _, hf, _, _, _, _ => absurd hf (Nat.not_lt_zero _)
theorem q_one {p : Int} {d : D9} (q : Q7 d) (hp : 0 ≤ p ∧ p < d 175 0) : m_X10_isOfOnePeople_1 p d = rt (bi (one (d 175) p)) d := by
  obtain ⟨n0, n1, n2, n3⟩ := TKn q.1
  have r1 := bnd_rng (d 175) p false (-1)
  have r2 := bnd_rng (d 175) p true (-1)
  unfold m_X10_isOfOnePeople_1
  rw [q_mostOf (TKn q.1) (TKo q.1) (TKs q.1) (RWo q.2) (RWs q.2) (by omega), cl_rt, q_leastOf (TKn q.1) (TKo q.1) (TKs q.1) (RWo q.2) (RWs q.2) (by omega), cl_rt]
  obtain ⟨b, b1, b2⟩ := q_one_l q hp r2 (max (bnd (d 175) p true (-1) + 1) (bnd (d 175) p false (-1)) - bnd (d 175) p false (-1)).toNat FU (bnd (d 175) p false (-1)) 0 (by unfold FU; omega) (by omega) (by omega) (by omega) (Or.inl rfl)
  refine Eq.trans (show m_X10_isOfOnePeople_1_c15 p (bnd (d 175) p true (-1)) 0 (bnd (d 175) p false (-1)) d = _ from b1) ?_
  have e : b = one (d 175) p := by
    apply b_iff
    rw [b2, one_iff]
    have tmx : ∀ x, tm (d 175) p x = true ↔ (bnd (d 175) p false (-1) ≤ x ∧ x ≤ bnd (d 175) p true (-1)) ∧ liv (d 175) p x = true := by
      intro x; unfold tm; rw [Bool.and_eq_true, decide_eq_true_eq]
    constructor
    · rintro ⟨h | ⟨x, a, b, c⟩, w, hw, _, h3⟩
      · exact absurd rfl h
      · refine ⟨⟨x, by omega, by omega, (tmx x).mpr ⟨⟨a, b⟩, c⟩⟩, w, hw.1, hw.2, fun x a b c => ?_⟩
        obtain ⟨⟨c1, c2⟩, c3⟩ := (tmx x).mp c
        rw [onl_pps q.1 hw]
        exact dec_t (h3 x c1 c2 c3)
    · rintro ⟨⟨x, a, b, c⟩, w, h0, h5, h3⟩
      obtain ⟨⟨c1, c2⟩, c3⟩ := (tmx x).mp c
      refine ⟨Or.inr ⟨x, c1, c2, c3⟩, w, ⟨h0, h5⟩, fun h => absurd rfl h, fun x a b c => ?_⟩
      have := h3 x (by omega) (by omega) ((tmx x).mpr ⟨⟨a, b⟩, c⟩)
      rw [onl_pps q.1 ⟨h0, h5⟩] at this
      exact of_decide_eq_true this
  rw [e]
theorem p_one_l {p L M : Int} {d : D9} {t : Nat → Int} (k : TK t) (e : d 175 = t) (hT : TM d t p) (hL : 0 ≤ L ∧ L ≤ 400) (hM : 0 ≤ M ∧ M ≤ 400) : m_X12_say_174_c98 L M (nT t p) 0 d = if one t p = true then rt 4 d else rt (if 0 < L then (if M < 400 then 5 else 6) else 7) d := by
  have nr := nT_rng t p
  have z := fix_xu (z := fun _ _ _ _ _ => none) (B := fun k => b_X12_say_174_c98 k) (fun k w => k L M (nT t p) w d) 0 6 (fun w => decide (0 < nT t p) && decide (alo t p w = nT t p)) (rt 4 d) (rt (if 0 < L then (if M < 400 then 5 else 6) else 7) d) (by omega) ?_ ?_
  · exact z
  · intro k'
    simp only [b_X12_say_174_c98]
    rw [if_pos (Int.le_refl _), w32_id (by omega), w32_id (by omega), w32_id (by omega)]
    by_cases x : 0 < L
    · rw [if_neg (by omega), if_pos x]
      by_cases y : M < 400
      · rw [if_neg (by omega), if_pos y]
      · rw [if_pos (by omega), if_neg y]
    · rw [if_pos (by omega), if_neg x]
  · intro k' w h0 hi
    have ar : 0 ≤ alo t p w ∧ alo t p w ≤ 401 := by
      have c := (cnt_all (P := tm t p) (Q := onl t w) 401 0).1
      have c2 := (cnt_pos (P := fun x => tm t p x && onl t w x) 401 0).1
      have e1 : alo t p w = fo (fun x n => n + bi (tm t p x && onl t w x)) 401 0 0 := by unfold alo; rfl
      have e2 : nT t p = fo (fun x n => n + bi (tm t p x)) 401 0 0 := by unfold nT; rfl
      omega
    simp only [b_X12_say_174_c98]
    rw [w32_id (by omega), w32_id (by omega), if_neg (by omega), w32_id (by omega), p_alone k e hT (by omega), cl_rt, w32_id (by omega)]
    by_cases x : 0 < nT t p
    · rw [if_neg (by omega)]
      by_cases y : alo t p w = nT t p
      · rw [if_neg (by omega), if_pos (by simp [x, y])]
      · rw [if_pos y, if_neg (by simp [y])]
    · rw [if_pos (by omega), if_neg (by simp [x])]
noncomputable def sy7 (t : Nat → Int) (p : Int) : Int := if abv t p p = true then 0 else if bnd t p true (-1) < bnd t p false (-1) then 1 else if bnd t p false (-1) = 0 ∧ bnd t p true (-1) = 400 then 2 else if lat t ≠ -1 ∧ lat t < bnd t p false (-1) then 3 else if one t p = true then 4 else if 0 < bnd t p false (-1) then (if bnd t p true (-1) < 400 then 5 else 6) else 7
theorem o_say {p : Int} {d : D9} (q : Q7 d) (hp : I32 p) : AG d (m_X11_say_0 p d) (m_X12_say_174 p) fB := by
  obtain ⟨n0, n1, n2, n3⟩ := TKn q.1
  have ha := q_askPaint (d := d) hp (RWp q.2).1 n0
  have lr := lat_rng q.1
  by_cases hc : 0 ≤ p ∧ p < d 175 0
  · have r1 := bnd_rng (d 175) p false (-1)
    have r2 := bnd_rng (d 175) p true (-1)
    have c65 : m_X10_sayOf_1_c65 p (bnd (d 175) p false (-1)) (bnd (d 175) p true (-1)) d = rt (if one (d 175) p = true then 4 else if 0 < bnd (d 175) p false (-1) then (if bnd (d 175) p true (-1) < 400 then 5 else 6) else 7) d := by
      unfold m_X10_sayOf_1_c65
      rw [q_one q hc, cl_rt, w32_bi, w32_id (by omega), w32_id (by omega), w32_id (by omega)]
      cases one (d 175) p
      · rw [bi_f, if_pos rfl, if_neg (show ¬ false = true by simp)]
        by_cases x : 0 < bnd (d 175) p false (-1)
        · rw [if_neg (by omega), if_pos x]
          by_cases y : bnd (d 175) p true (-1) < 400
          · rw [if_neg (by omega), if_pos y]
          · rw [if_pos (by omega), if_neg y]
        · rw [if_pos (by omega), if_neg x]
      · rw [bi_t, if_neg ne10, if_pos rfl]
    have c42 : m_X10_sayOf_1_c42 p (bnd (d 175) p false (-1)) (bnd (d 175) p true (-1)) d = rt (if lat (d 175) ≠ -1 ∧ lat (d 175) < bnd (d 175) p false (-1) then 3 else if one (d 175) p = true then 4 else if 0 < bnd (d 175) p false (-1) then (if bnd (d 175) p true (-1) < 400 then 5 else 6) else 7) d := by
      unfold m_X10_sayOf_1_c42
      rw [q_oldest q.1 q.2, cl_rt, w32_id (by omega), w32_id (by omega), w32_id (by omega), c65]
      by_cases x : lat (d 175) = -1
      · rw [if_pos x, if_neg (show ¬ (lat (d 175) ≠ -1 ∧ lat (d 175) < bnd (d 175) p false (-1)) by omega)]
      · rw [if_neg x]
        by_cases y : lat (d 175) < bnd (d 175) p false (-1)
        · rw [if_neg (show ¬ bnd (d 175) p false (-1) ≤ lat (d 175) by omega), if_pos (show lat (d 175) ≠ -1 ∧ lat (d 175) < bnd (d 175) p false (-1) from ⟨x, y⟩)]
        · rw [if_pos (show bnd (d 175) p false (-1) ≤ lat (d 175) by omega), if_neg (show ¬ (lat (d 175) ≠ -1 ∧ lat (d 175) < bnd (d 175) p false (-1)) from fun h => y h.2)]
    refine AG.ret q (sy7 (d 175) p) ?_ (fun d' q' e => ?_)
    · obtain ⟨r, h1, h2, h3⟩ := q_above (TKn q.1) (TKo q.1) (RWo q.2) (p := p) (by omega)
      unfold m_X11_say_0 m_X10_sayOf_1 m_X10_isRing_1
      rw [ha, if_pos hc, cl_rt, q_leastOf (TKn q.1) (TKo q.1) (TKs q.1) (RWo q.2) (RWs q.2) (by omega), cl_rt, q_mostOf (TKn q.1) (TKo q.1) (TKs q.1) (RWo q.2) (RWs q.2) (by omega), cl_rt, h2, cl_rt, q_isIn (by omega), cl_rt, bi_m, cl_rt, h3 p (by omega) (by omega), w32_bi, w32_id (by omega), w32_id (by omega), w32_id (by omega), c42]
      unfold sy7
      cases abv (d 175) p p
      · rw [bi_f, if_pos rfl, if_neg (show ¬ false = true by simp)]
        by_cases x : bnd (d 175) p true (-1) < bnd (d 175) p false (-1)
        · rw [if_neg (by omega), if_pos x, cl_rt]
        · rw [if_pos (by omega), if_neg x]
          by_cases y : bnd (d 175) p false (-1) = 0
          · rw [if_neg (by omega)]
            by_cases w : bnd (d 175) p true (-1) = 400
            · rw [if_neg (by omega), if_pos ⟨y, w⟩, cl_rt]
            · rw [if_pos w, if_neg (show ¬ (bnd (d 175) p false (-1) = 0 ∧ bnd (d 175) p true (-1) = 400) from fun h => w h.2), cl_rt]
          · rw [if_pos y, if_neg (show ¬ (bnd (d 175) p false (-1) = 0 ∧ bnd (d 175) p true (-1) = 400) from fun h => y h.1), cl_rt]
      · rw [bi_t, if_neg ne10, if_pos rfl, cl_rt]
    · have e1 := (m3 d' 0).1.trans e
      obtain ⟨d2, a1, a2, a3, a4⟩ := lr3 q.1 e
      obtain ⟨d1, b1, b2, b3, b4, b5⟩ := p_layTimes q.1 a4.1 hc
      have c88 : m_X12_say_174_c88 p (bnd (d 175) p false (-1)) (bnd (d 175) p true (-1)) d2 = rt (if one (d 175) p = true then 4 else if 0 < bnd (d 175) p false (-1) then (if bnd (d 175) p true (-1) < 400 then 5 else 6) else 7) d1 := by
        unfold m_X12_say_174_c88
        rw [b1, cl_rt, p_one_l q.1 b4.1 b5 r1 r2]
        split <;> rfl
      have c70 : ∃ d3, m_X12_say_174_c70 p (bnd (d 175) p false (-1)) (bnd (d 175) p true (-1)) d2 = rt (if lat (d 175) ≠ -1 ∧ lat (d 175) < bnd (d 175) p false (-1) then 3 else if one (d 175) p = true then 4 else if 0 < bnd (d 175) p false (-1) then (if bnd (d 175) p true (-1) < 400 then 5 else 6) else 7) d3 ∧ MS d' d3 ∧ d3 174 3 = 0 := by
        unfold m_X12_say_174_c70
        rw [p_latest q.1 a4.1, cl_rt, p_latest q.1 a4.1, cl_rt, w32_id (by omega), w32_id (by omega), w32_id (by omega), c88]
        by_cases x : lat (d 175) = -1
        · rw [if_pos x, if_neg (show ¬ (lat (d 175) ≠ -1 ∧ lat (d 175) < bnd (d 175) p false (-1)) by omega)]; exact ⟨d1, rfl, a2.tr b2, b3.trans a3⟩
        · rw [if_neg x]
          by_cases y : lat (d 175) < bnd (d 175) p false (-1)
          · rw [if_neg (show ¬ bnd (d 175) p false (-1) ≤ lat (d 175) by omega), if_pos (show lat (d 175) ≠ -1 ∧ lat (d 175) < bnd (d 175) p false (-1) from ⟨x, y⟩)]; exact ⟨d2, rfl, a2, a3⟩
          · rw [if_pos (show bnd (d 175) p false (-1) ≤ lat (d 175) by omega), if_neg (show ¬ (lat (d 175) ≠ -1 ∧ lat (d 175) < bnd (d 175) p false (-1)) from fun h => y h.2)]; exact ⟨d1, rfl, a2.tr b2, b3.trans a3⟩
      unfold m_X12_say_174
      rw [pf_v, isPaint_t q.1 e1 hp, cl_rt, dec_t hc, bi_t, t1_0, if_pos ne10, a1, cl_rt, LR_b0 a4 hc (by omega), cl_rt, LR_b1 a4 hc (by omega), cl_rt, LR_abv a4 hc hc, cl_rt, w32_bi, w32_id (by omega), w32_id (by omega), w32_id (by omega)]
      unfold sy7
      cases abv (d 175) p p
      · rw [bi_f, if_pos rfl, if_neg (show ¬ false = true by simp)]
        by_cases x : bnd (d 175) p true (-1) < bnd (d 175) p false (-1)
        · rw [if_neg (by omega), if_pos x]; exact ⟨d2, rfl, a2, a3⟩
        · rw [if_pos (by omega), if_neg x]
          by_cases y : bnd (d 175) p false (-1) = 0
          · rw [if_neg (by omega)]
            by_cases w : bnd (d 175) p true (-1) = 400
            · rw [if_neg (by omega), if_pos ⟨y, w⟩]; exact ⟨d2, rfl, a2, a3⟩
            · rw [if_pos w, if_neg (fun h => w h.2)]; exact c70
          · rw [if_pos y, if_neg (fun h => y h.1)]; exact c70
      · rw [bi_t, if_neg ne10, if_pos rfl]; exact ⟨d2, rfl, a2, a3⟩
  · refine AG.thr q 2 ?_ (fun d' q' e => ?_)
    · unfold m_X11_say_0
      rw [ha, if_neg hc, cl_th]
    · have e1 := (m3 d' 0).1.trans e
      unfold m_X12_say_174
      rw [pf_v, isPaint_t q.1 e1 hp, cl_rt, dec_f hc, bi_f, t0_0, if_neg (by omega), p_fails, cl_rt]
      exact thr1 d' 1

/-! the model's row -/
def cU (U : Int → Bool) : Int := fo (fun s n => n + bi (true && U s)) 30 0 0
theorem cU_s {U : Int → Bool} {s : Int} (hs : 0 ≤ s ∧ s < 30) (h : U s = false) : cU (fun x => U x || decide (s = x)) = cU U + 1 := by
  have key : ∀ (m : Nat) (i : Int), fo (fun x n => n + bi (true && (U x || decide (s = x)))) m i 0 = fo (fun x n => n + bi (true && U x)) m i 0 + (if i ≤ s ∧ s < i + m then 1 else 0) := by
    intro m
    induction m with
    | zero => intro i; simp [fo]
    | succ m ih =>
      intro i
      simp only [fo]
      rw [fo_shift (fun x => bi (true && (U x || decide (s = x)))) m (i + 1), fo_shift (fun x => bi (true && U x)) m (i + 1), ih (i + 1)]
      by_cases y : s = i
      · subst y
        rw [h, if_neg (by omega), if_pos (by omega), dec_t rfl]
        simp [bi]; omega
      · rw [dec_f y, Bool.or_false]
        by_cases z : i ≤ s ∧ s < i + ((m + 1 : Nat) : Int)
        · rw [if_pos (by omega), if_pos z]; omega
        · rw [if_neg (by omega), if_neg z]; omega
  have := key 30 0
  rw [if_pos (by omega)] at this
  exact this
theorem cU_30 {U : Int → Bool} (h : 30 ≤ cU U) : ∀ s, 0 ≤ s → s < 30 → U s = true := by
  have c := cnt_all (P := fun _ => true) (Q := U) 30 0
  have e : fo (fun (x : Int) n => n + bi ((fun _ => true) x)) 30 0 0 = 30 := by decide
  rw [e] at c
  have := c.2.mp (by unfold cU at h; have := c.1; omega)
  intro s a b
  exact this s a (by omega) rfl
def SQ (d d0 : D9) : Prop := ∀ k j, ¬ (k = 188 ∨ k = 189 ∨ k = 190 ∨ k = 174 ∧ j = 35) → d k j = d0 k j
theorem SQ.tr {a b c : D9} (h : SQ b a) (g : SQ c b) : SQ c a := fun k j hk => (g k j hk).trans (h k j hk)
theorem SQ.sv {d d0 : D9} (h : SV d d0) : SQ d d0 := fun k j hk => by rw [h k (by omega)]
theorem SQ.ms {d d0 : D9} (h : SQ d d0) : MS d0 d :=
  ⟨⟨fun k hk => by funext j; exact h k j (by rintro (rfl | rfl | rfl | ⟨rfl, _⟩) <;> exact hk (by unfold SCR; omega)), ⟨h _ _ (by omega), h _ _ (by omega), h _ _ (by omega)⟩, h _ _ (by omega), h _ _ (by omega), h _ _ (by omega), h _ _ (by omega), h _ _ (by omega)⟩, by funext j; exact h _ _ (by omega)⟩
theorem SQ.lr {d d0 : D9} {t : Nat → Int} (h : SQ d d0) (L : LR d0 t) : LR d t := LR_sm L (by funext j; exact h _ _ (by omega)) (by funext j; exact h _ _ (by omega))
def RM (d : D9) (U : Int → Bool) (c : Int) (w : Int → Int) : Prop := IN d U ∧ d 174 35 = c ∧ ∀ i, 0 ≤ i → i < c → d 190 i.toNat = w i
theorem RM.sv {d d' : D9} {U : Int → Bool} {c : Int} {w : Int → Int} (h : RM d U c w) (v : SV d' d) : RM d' U c w :=
  ⟨fun s a b => by rw [v 188 (by decide)]; exact h.1 s a b, by rw [v 174 (by decide)]; exact h.2.1, fun i a b => by rw [v 190 (by decide)]; exact h.2.2 i a b⟩
theorem p_row_l {t : Nat → Int} (k : TK t) : ∀ (n f : Nat) (U : Int → Bool) (l c : Int) (w : Int → Int) (d : D9), n < f → c + n = 30 → 0 ≤ c → cU U = c → LR d t → RM d U c w → 0 ≤ l ∧ l ≤ 999 →
    ∃ d', fix9 (fun _ _ _ => none) (fun k => b_X12_layFollowed_174_c38 k) f l (nx t U l) d = rt 0 d' ∧ SQ d' d ∧ RM d' (fw t n U l c w).1 (fw t n U l c w).2.1 (fw t n U l c w).2.2
  | n, f + 1, U, l, c, w, d, hf, he, h0, hcu, L, R, hl => by
    obtain ⟨n0, n1, n2, n3⟩ := TKn k
    obtain ⟨o1, o2⟩ := nx_ok n1.1 U l
    by_cases x : nx t U l = -1
    · have ef : fw t n U l c w = (U, c, w) := by
        cases n with
        | zero => rfl
        | succ n => simp only [fw, if_pos x]
      rw [ef]
      refine ⟨d, ?_, fun _ _ _ => rfl, R⟩
      rw [fx2, b_X12_layFollowed_174_c38, x, if_pos rfl]
    · have ho := o2 x
      match n, hf, he with
      | 0, hf, he =>
        exfalso
        have := cU_30 (U := U) (by omega) (nx t U l) (by omega) (by omega)
        rw [ho.1] at this; cases this
      | n + 1, hf, he =>
        have hg := (TKs k (nx t U l) (by omega) (by omega)).2.2.2.1
        simp only [fw, if_neg x]
        rw [fx2, b_X12_layFollowed_174_c38, w32_id (by omega), w32_id (by omega), if_neg x, sd_in (by omega), up_k (show (174 : Nat) ≠ 188 by decide), R.2.1, sd_in (by omega), pf_v, up_k (show (174 : Nat) ≠ 190 by decide), up_k (show (174 : Nat) ≠ 188 by decide), R.2.1]
        generalize hd3 : up (up (up d 188 (nx t U l).toNat (1 % 2)) 190 c.toNat (nx t U l)) 174 35 (c + 1) = d3
        have g3 : ∀ k j, d3 k j = if k = 174 ∧ j = 35 then c + 1 else if k = 190 ∧ j = c.toNat then nx t U l else if k = 188 ∧ j = (nx t U l).toNat then 1 else d k j := fun k j => by rw [← hd3]; rfl
        have S3 : SQ d3 d := fun k j hk => by rw [g3, if_neg (by omega), if_neg (by omega), if_neg (by omega)]
        have L3 := S3.lr L
        have R3 : RM d3 (fun s => U s || decide (nx t U l = s)) (c + 1) (fun i => if i = c then nx t U l else w i) := by
          refine ⟨fun s a b => ?_, by rw [g3]; rfl, fun i a b => ?_⟩
          · rw [g3, if_neg (by omega), if_neg (by omega)]
            by_cases y : nx t U l = s
            · subst y; simp [bi]
            · have : ¬ s.toNat = (nx t U l).toNat := by omega
              simp only [this, and_false, if_false, dec_f y, Bool.or_false]
              exact R.1 s a b
          · rw [g3, if_neg (by omega)]
            by_cases y : i = c
            · subst y; simp
            · have : ¬ i.toNat = c.toNat := by omega
              simp only [this, and_false, if_false, y]
              rw [if_neg (by omega)]
              exact R.2.2 i a (by omega)
        obtain ⟨d4, v1, v2⟩ := p_nx (left := l - sk t (nx t U l) 3) L3 R3.1 (by omega)
        rw [sk_of L3.1 (by omega), cl_rt, lt_v, v2, cl_rt]
        obtain ⟨d', b1, b2, b3⟩ := p_row_l k n f (fun s => U s || decide (nx t U l = s)) (l - sk t (nx t U l) 3) (c + 1) (fun i => if i = c then nx t U l else w i) d4 (by omega) (by omega) (by omega) (by rw [cU_s (by omega) ho.1, hcu]) ((SQ.sv v1).lr L3) (R3.sv v1) (by omega)
        exact ⟨d', b1, (S3.tr (SQ.sv v1)).tr b2, b3⟩
  | _, 0, _, _, _, _, _, hf, _, _, _, _, _, _ => absurd hf (Nat.not_lt_zero _)
theorem p_row_0 {t : Nat → Int} {g : Int} {d0 : D9} : ∀ (m f : Nat) (i : Int) (d : D9), m < f → i + m = 30 → 0 ≤ i → (∀ k, k ≠ 188 → d k = d0 k) → (∀ s : Int, 0 ≤ s → s < i → d 188 s.toNat = 0) → ∃ d1, fix9 (fun _ _ _ => none) (fun k => b_X12_layFollowed_174_c6 k) f g i d = cl (m_X12_nextBy_174 g (up d1 174 35 0)) (fun r2 d3 => m_X12_layFollowed_174_c38 g r2 d3) ∧ (∀ k, k ≠ 188 → d1 k = d0 k) ∧ ∀ s : Int, 0 ≤ s → s < 30 → d1 188 s.toNat = 0
  | 0, f + 1, i, d, _, he, h0, hF, hz => by
    refine ⟨d, ?_, hF, fun s a b => hz s a (by omega)⟩
    rw [fx2, b_X12_layFollowed_174_c6, if_pos (by rw [show i = 30 by omega]; exact Int.le_refl _), pf_v]
  | m + 1, f + 1, i, d, hf, he, h0, hF, hz => by
    obtain ⟨d1, a1, a2, a3⟩ := p_row_0 (t := t) (g := g) (d0 := d0) m f (i + 1) (up d 188 i.toNat 0) (by omega) (by omega) (by omega) (fun k hk => (up_k hk).trans (hF k hk)) (fun s a b => by
      by_cases y : s = i
      · subst y; rw [up_same]
      · rw [up_j (by omega)]; exact hz s a (by omega))
    refine ⟨d1, ?_, a2, a3⟩
    rw [fx2, b_X12_layFollowed_174_c6, w32_id (by omega), w32_id (by omega), if_neg (by omega), sd_in (by omega)]
    exact a1
  | _, 0, _, _, hf, _, _, _, _ => absurd hf (Nat.not_lt_zero _)
theorem p_followed {t : Nat → Int} (k : TK t) {g : Int} (hg : 0 ≤ g ∧ g ≤ 999) {d : D9} (e : d 175 = t) : ∃ d', m_X12_layFollowed_174 g d = rt 0 d' ∧ MS d d' ∧ d' 174 3 = d 174 3 ∧ LR d' t ∧ RM d' (fwR t g).1 (fwR t g).2.1 (fwR t g).2.2 := by
  obtain ⟨d2, a1, a2, a3, a4⟩ := lrN k e
  obtain ⟨d3, b1, b2, b3⟩ := p_row_0 (t := t) (g := g) (d0 := d2) 30 FU 0 d2 (by decide) (by omega) (by omega) (fun _ _ => rfl) (fun s a b => by omega)
  have S4 : SQ (up d3 174 35 0) d2 := fun k j hk => by rw [up_get, if_neg (by omega), b2 k (by omega)]
  have L4 := S4.lr a4
  have R4 : RM (up d3 174 35 0) (fun _ => false) 0 (fun _ => 0) := ⟨fun s a b => by rw [up_k (by decide)]; exact b3 s a b, up_same _ _ _ _, fun i a b => by omega⟩
  obtain ⟨d5, v1, v2⟩ := p_nx (left := g) L4 R4.1 (by omega)
  obtain ⟨d', c1, c2, c3⟩ := p_row_l k 30 FU (fun _ => false) g 0 (fun _ => 0) d5 (by decide) (by omega) (by omega) (by decide) ((SQ.sv v1).lr L4) (R4.sv v1) hg
  have S5 := (S4.tr (SQ.sv v1)).tr c2
  refine ⟨d', ?_, a2.tr S5.ms, by rw [S5 174 3 (by omega)]; exact a3, S5.lr a4, c3⟩
  unfold m_X12_layFollowed_174
  rw [a1, cl_rt]
  rw [show m_X12_layFollowed_174_c6 g 0 d2 = _ from b1, v2, cl_rt]
  exact c1
theorem o_follow {g i : Int} {d : D9} (q : Q7 d) (hg : I32 g) (hi : I32 i) : AG d (m_X11_follow_0 g i d) (m_X12_follow_174 g i) fA := by
  by_cases x : 0 ≤ g ∧ g ≤ 999
  · obtain ⟨d1, a1, a2, a3, a4⟩ := q_makeRow q.1 x q.2
    have fr := fw_rng (t := d 175) 30 (fun _ => false) g 0 (fun _ => 0)
    rw [show fw (d 175) 30 (fun _ => false) g 0 (fun _ => 0) = fwR (d 175) g from rfl] at fr
    refine AG.ret1 q (if i = -1 then (fwR (d 175) g).2.1 else if 0 ≤ i ∧ i < (fwR (d 175) g).2.1 then (fwR (d 175) g).2.2 i else -1) (d1 := d1) ?_ a2.f5.sm (fun d' q' e => ?_)
    · unfold m_X11_follow_0
      rw [ask_i hg (by omega), if_pos x, cl_rt, a1, cl_rt, w32_id hi, w32_id (by omega), a4.1, w32_id (by omega)]
      by_cases y : i = -1
      · rw [if_neg (by omega), if_pos y]
      · rw [if_pos y, if_neg y]
        by_cases z : 0 ≤ i ∧ i < (fwR (d 175) g).2.1
        · rw [if_neg (by omega), if_neg (by omega), if_pos z, ld_in (by omega), a4.2 i z.1 z.2]
        · rw [if_neg z]
          by_cases w : i < 0
          · rw [if_pos w]
          · rw [if_neg w, if_pos (by omega)]
    · have e1 := (m3 d' 0).1.trans e
      obtain ⟨d2, b1, b2, b3, b4, b5⟩ := p_followed q.1 x e1
      refine ⟨d2, ?_, (MS.u3 d' 0).tr b2, b3.trans (m3w d' 0)⟩
      unfold m_X12_follow_174
      rw [pf_v, w32_id hg, within_i hg (by omega), cl_rt, dec_t x, bi_t, t1_0, if_pos ne10, b1, cl_rt, w32_id hi, w32_id (by omega), b5.2.1, w32_id (by omega), within_i hi (by omega), cl_rt, w32_bi]
      by_cases y : i = -1
      · rw [if_neg (by omega), if_pos y]
      · rw [if_pos y, if_neg y]
        by_cases z : 0 ≤ i ∧ i < (fwR (d 175) g).2.1
        · rw [dec_t (by omega), bi_t, if_neg ne10, if_pos z, ld_in (by omega), b5.2.2 i z.1 z.2]
        · rw [dec_f (by omega), bi_f, if_pos rfl, if_neg z]
  · refine AG.thr q 0 ?_ (fun d' q' e => ?_)
    · unfold m_X11_follow_0
      rw [ask_i hg (by omega), if_neg x, cl_th]
    · unfold m_X12_follow_174
      rw [pf_v, w32_id hg, within_i hg (by omega), cl_rt, dec_f x, bi_f, t0_0, if_neg (by omega), p_fails, cl_rt]
      exact thr1 d' 1
def bhS (t : Nat → Int) (U : Int → Bool) (s v : Int) : Int := if sk t s 1 ≠ 0 ∧ (0 < sk t s 4 ∨ U s = true) then or9 v (shl9 1 (sk t s 2)) else v
theorem bh_ok {t : Nat → Int} (k : TK t) (U : Int → Bool) : (0 ≤ fo (bhS t U) (t 1).toNat 0 0 ∧ fo (bhS t U) (t 1).toNat 0 0 < 1073741824) ∧ ∀ p, 0 ≤ p → p < 30 → tb (fo (bhS t U) (t 1).toNat 0 0) p = rea t U p := by
  have n0 := (TKn k).1
  have n1 := (TKn k).2.1
  have key : ∀ n : Nat, (n : Int) ≤ t 1 → (0 ≤ fo (bhS t U) n 0 0 ∧ fo (bhS t U) n 0 0 < 1073741824) ∧ ∀ p, 0 ≤ p → p < 30 → tb (fo (bhS t U) n 0 0) p = ex (fun s => decide (sk t s 1 ≠ 0 ∧ sk t s 2 = p) && (decide (0 < sk t s 4) || U s)) n 0 := by
    intro n
    induction n with
    | zero => intro _; exact ⟨⟨Int.le_refl 0, (by decide : (0 : Int) < 1073741824)⟩, fun p _ _ => tb_0 p⟩
    | succ n ih =>
      intro hn
      obtain ⟨i1, i2⟩ := ih (by omega)
      rw [fo_last, Int.zero_add]
      generalize fo (bhS t U) n 0 0 = v at i1 i2 ⊢
      unfold bhS
      by_cases x : sk t n 1 ≠ 0 ∧ (0 < sk t n 4 ∨ U n = true)
      · have hp := (TKs k n (by omega) (by omega)).2.2.1 x.1
        have rk := shl9_rng (i := sk t n 2) (by omega)
        rw [if_pos x]
        refine ⟨or9_rng (by omega), fun p h0 h1 => ?_⟩
        rw [ex_last, Int.zero_add, ← i2 p h0 h1, tb_or (by omega), tb_shl (by omega) h0]
        have e : (decide (0 < sk t n 4) || U n) = true := by simpa using x.2
        rw [e, Bool.and_true]
        congr 1
        exact decide_eq_decide.mpr ⟨fun h => ⟨x.1, h⟩, fun h => h.2⟩
      · rw [if_neg x]
        refine ⟨i1, fun p h0 h1 => ?_⟩
        rw [ex_last, Int.zero_add, ← i2 p h0 h1]
        have : (decide (sk t n 1 ≠ 0 ∧ sk t n 2 = p) && (decide (0 < sk t n 4) || U n)) = false := by
          by_cases y : sk t n 1 = 0
          · rw [dec_f (fun h => h.1 y)]; rfl
          · have : (decide (0 < sk t n 4) || U n) = false := by
              cases hz : (decide (0 < sk t n 4) || U n) with
              | false => rfl
              | true => exact absurd ⟨y, by simpa using hz⟩ x
            rw [this, Bool.and_false]
        rw [this, Bool.or_false]
  exact key (t 1).toNat (by omega)
theorem o_behind {g : Int} {d : D9} (q : Q7 d) (hg : I32 g) : AG d (m_X11_behind_0 g d) (m_X12_behind_174 g) fA := by
  obtain ⟨n0, n1, n2, n3⟩ := TKn q.1
  by_cases x : 0 ≤ g ∧ g ≤ 999
  · obtain ⟨d0, z1, z2, z3, z4, z5⟩ := q_makePlan q.1 x q.2
    obtain ⟨d1, a1, a2, a3, a4⟩ := q_makeRow q.1 x (z2.rw q.2)
    obtain ⟨bh1, bh2⟩ := bh_ok q.1 (fwR (d 175) g).1
    have e4 : d1 58 4 = fo (bhS (d 175) (fwR (d 175) g).1) (d 175 1).toNat 0 0 := tb_ext a3.1 bh1 (fun p a b => by rw [a3.2 p a b, bh2 p a b])
    refine AG.ret1 q (cov (d 175) (plF (d 175) g) - bc (fo (bhS (d 175) (fwR (d 175) g).1) (d 175 1).toNat 0 0)) (d1 := d1) ?_ (z2.tr a2.f5).sm (fun d' q' e => ?_)
    · unfold m_X11_behind_0
      rw [ask_i hg (by omega), if_pos x, cl_rt, z1, cl_rt, a1, cl_rt, q_bc, cl_rt, e4, a2.2.2.1, z4]
    · have e1 := (m3 d' 0).1.trans e
      obtain ⟨d2, b1, b2, b3, b4, b5⟩ := p_followed q.1 x e1
      obtain ⟨d3, c1, c2, c3⟩ := p_plan q.1 (g := g) (w := 1) b4.1 x (by omega)
      refine ⟨d3, ?_, ((MS.u3 d' 0).tr b2).tr c2, c3⟩
      unfold m_X12_behind_174
      rw [pf_v, w32_id hg, within_i hg (by omega), cl_rt, dec_t x, bi_t, t1_0, if_pos ne10, b1, cl_rt]
      have z := (fix_fu (z := fun _ _ _ _ => none) (B := fun k => b_X12_behind_174_c32 k) (fun k s v => k g v s d2) 0 (d 175 1) (bhS (d 175) (fwR (d 175) g).1) (fun s v => 0 ≤ s) (fun v => rt (cov (d 175) (plF (d 175) g) - bc v) d3) 0 (by omega) (by omega) ?_ ?_).2
      · rw [Int.sub_zero] at z; exact z
      · intro k' v hI
        simp only [b_X12_behind_174_c32]
        rw [ld_in (by omega), Int.toNat_one, b4.1, if_pos (Int.le_refl _), c1, cl_rt, q_bc, cl_rt]
        rfl
      · intro k' s v hlt h0
        have hk := TKs q.1 s h0 hlt
        have h1 := hk.2.1
        have h4 := hk.2.2.2.2.1
        refine ⟨by omega, ?_⟩
        simp only [b_X12_behind_174_c32, m_X12_behind_174_c69]
        rw [ld_in (by omega), Int.toNat_one, b4.1, w32_id (by omega), w32_id (by omega), if_neg (by omega), sk_of b4.1 (by omega), cl_rt, w32_id (by omega), sk_of b4.1 (by omega), cl_rt, w32_id (by omega), sk_of b4.1 (by omega), cl_rt, lt_v, ld_in (by omega), b5.1 s h0 (by omega), w32_bi]
        unfold bhS
        by_cases u : sk (d 175) s 1 = 0
        · rw [if_pos (by omega), if_neg (fun h => h.1 u)]
        · rw [if_neg (by omega)]
          by_cases w : 0 < sk (d 175) s 4
          · rw [if_pos w, if_pos ⟨u, Or.inl w⟩]
          · rw [if_neg w]
            cases hu : (fwR (d 175) g).1 s
            · rw [bi_f, if_pos rfl, if_neg (by rintro ⟨_, h | h⟩
                                               · exact w h
                                               · cases h)]
            · rw [bi_t, if_neg ne10, if_pos ⟨u, Or.inr rfl⟩]
  · refine AG.thr q 0 ?_ (fun d' q' e => ?_)
    · unfold m_X11_behind_0
      rw [ask_i hg (by omega), if_neg x, cl_th]
    · unfold m_X12_behind_174
      rw [pf_v, w32_id hg, within_i hg (by omega), cl_rt, dec_f x, bi_f, t0_0, if_neg (by omega), p_fails, cl_rt]
      exact thr1 d' 1

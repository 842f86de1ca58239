/-! when -/
noncomputable def tm (t : Nat → Int) (p x : Int) : Bool := decide (bnd t p false (-1) ≤ x ∧ x ≤ bnd t p true (-1)) && liv t p x
noncomputable def nT (t : Nat → Int) (p : Int) : Int := fo (fun x n => n + bi (tm t p x)) 401 0 0
/-- a fold over the paint's times is a fold over its window -/
theorem tm_win {σ : Type} {t : Nat → Int} {p : Int} {g : Int → σ → σ} (s : σ) : fo (fun x s => if tm t p x = true then g x s else s) 401 0 s = fo (fun x s => if liv t p x = true then g x s else s) (max (bnd t p true (-1) + 1) (bnd t p false (-1)) - bnd t p false (-1)).toNat (bnd t p false (-1)) s := by
  have r1 := bnd_rng t p false (-1)
  have r2 := bnd_rng t p true (-1)
  rw [fo_win (n := 401) (lo := bnd t p false (-1)) (hi := max (bnd t p true (-1) + 1) (bnd t p false (-1))) (by omega) s (fun j s h1 h2 h3 => by
    have : tm t p j = false := by unfold tm; rw [dec_f (by omega)]; rfl
    rw [this]; rfl)]
  refine fo_congr' _ _ _ (fun j s h1 h2 => ?_)
  have : tm t p j = liv t p j := by unfold tm; rw [dec_t (by omega)]; rfl
  rw [this]
def TM (d : D9) (t : Nat → Int) (p : Int) : Prop := ∀ x : Int, 0 ≤ x → x < 401 → d 186 x.toNat = bi (tm t p x)
theorem p_times_l {p : Int} {t : Nat → Int} (hp : 0 ≤ p ∧ p < t 0) {d0 : D9} (L : LR d0 t) : ∀ (m f : Nat) (n : Nat) (d : D9), m < f → n + m = 401 → (∀ k, k ≠ 186 → d k = d0 k) → (∀ x : Int, 0 ≤ x → x < n → d 186 x.toNat = bi (tm t p x)) → ∃ d1, fix9 (fun _ _ _ _ _ _ => none) (fun k => b_X12_layTimes_174_c26 k) f p (bnd t p false (-1)) (bnd t p true (-1)) (fo (fun x n => n + bi (tm t p x)) n 0 0) n d = rt (nT t p) d1 ∧ (∀ k, k ≠ 186 → d1 k = d0 k) ∧ TM d1 t p
  | 0, f + 1, n, d, _, he, hF, hz => by
    refine ⟨d, ?_, hF, fun x a b => hz x a (by omega)⟩
    rw [fx5, b_X12_layTimes_174_c26, w32_id (by omega), w32_id (by omega), if_pos (by omega)]
    have : n = 401 := by omega
    subst this; rfl
  | m + 1, f + 1, n, d, hf, he, hF, hz => by
    have k := L.2.1
    obtain ⟨n0, n1, n2, n3⟩ := TKn k
    obtain ⟨k0, k1, k2, _⟩ := TKp k p hp.1 hp.2
    have r1 := bnd_rng t p false (-1)
    have r2 := bnd_rng t p true (-1)
    have e : d 175 = t := (hF 175 (by decide)).trans L.1
    have c83 : ∀ b : Bool, m_X12_layTimes_174_c83 (fix9 (fun _ _ _ _ _ _ => none) (fun k => b_X12_layTimes_174_c26 k) f) p (bnd t p false (-1)) (bnd t p true (-1)) (fo (fun x n => n + bi (tm t p x)) n 0 0) n (bi b) n d = fix9 (fun _ _ _ _ _ _ => none) (fun k => b_X12_layTimes_174_c26 k) f p (bnd t p false (-1)) (bnd t p true (-1)) (fo (fun x n => n + bi (tm t p x)) n 0 0 + bi b) (n + 1) (up d 186 n (bi b)) := by
      intro b
      unfold m_X12_layTimes_174_c83
      rw [sd_in (by omega), ld_in (by omega), up_same, bi_m, w32_bi, lt_v, lt_v, Int.toNat_natCast]
      cases b <;> simp [bi]
    have c0 := c83 false
    have c1 := c83 true
    rw [bi_f] at c0
    rw [bi_t] at c1
    have body : b_X12_layTimes_174_c26 (fix9 (fun _ _ _ _ _ _ => none) (fun k => b_X12_layTimes_174_c26 k) f) p (bnd t p false (-1)) (bnd t p true (-1)) (fo (fun x n => n + bi (tm t p x)) n 0 0) n d = fix9 (fun _ _ _ _ _ _ => none) (fun k => b_X12_layTimes_174_c26 k) f p (bnd t p false (-1)) (bnd t p true (-1)) (fo (fun x n => n + bi (tm t p x)) n 0 0 + bi (tm t p n)) (n + 1) (up d 186 n (bi (tm t p n))) := by
      rw [b_X12_layTimes_174_c26, w32_id (by omega), w32_id (by omega), if_neg (by omega), w32_id (by omega), w32_id (by omega), pt_of e (by omega), cl_rt, w32_id (by omega), w32_id (by omega), pt_of e (by omega), cl_rt, p_was k e (by omega) k2 (by omega), cl_rt, w32_bi, c0, c1]
      by_cases x1 : (n : Int) < bnd t p false (-1)
      · have h : tm t p n = false := by unfold tm; rw [dec_f (by omega)]; rfl
        rw [if_pos x1, h, bi_f]
      · rw [if_neg x1]
        by_cases x2 : bnd t p true (-1) < (n : Int)
        · have h : tm t p n = false := by unfold tm; rw [dec_f (by omega)]; rfl
          rw [if_pos x2, h, bi_f]
        · rw [if_neg x2]
          have h : tm t p n = liv t p n := by unfold tm; rw [dec_t (by omega), Bool.true_and]
          by_cases x3 : pt t p 0 = 2
          · have h2 : liv t p n = was t 0 (pt t p 2) n := by unfold liv; rw [dec_f (by omega), Bool.false_or]
            rw [if_neg (by omega), h, h2]
            cases was t 0 (pt t p 2) n
            · rw [bi_f, if_pos rfl]
            · rw [bi_t, if_neg ne10]
          · have h2 : liv t p n = true := by unfold liv; rw [dec_t x3, Bool.true_or]
            rw [if_pos x3, h, h2, bi_t]
    obtain ⟨d1, a1, a2, a3⟩ := p_times_l hp L m f (n + 1) (up d 186 n (bi (tm t p n))) (by omega) (by omega) (fun k hk => (up_k hk).trans (hF k hk)) (fun x a b => by
      by_cases y : x = n
      · subst y; rw [Int.toNat_natCast, up_same]
      · rw [up_j (by omega)]; exact hz x a (by omega))
    refine ⟨d1, ?_, a2, a3⟩
    rw [fx5, body]
    rw [fo_last, Int.zero_add, show ((n + 1 : Nat) : Int) = (n : Int) + 1 by omega] at a1
    exact a1
  | _, 0, _, _, hf, _, _, _ => absurd hf (Nat.not_lt_zero _)
theorem lrN {d' : D9} {t : Nat → Int} (k : TK t) (e : d' 175 = t) : ∃ d2, m_X12_layReach_174 d' = rt 0 d2 ∧ MS d' d2 ∧ d2 174 3 = d' 174 3 ∧ LR d2 t := by
  obtain ⟨d2, a1, a2, a3⟩ := p_layReach (d := d') (by rw [e]; exact TKn k) (by rw [e]; exact TKo k)
  have e2 : d2 175 = t := (a2 175 (by decide)).trans e
  refine ⟨d2, a1, MS.k7 a2, by rw [a2 174 (by decide)], e2, k, ?_⟩
  rw [← e]; exact a3
theorem p_layTimes {p : Int} {d : D9} {t : Nat → Int} (k : TK t) (e : d 175 = t) (hp : 0 ≤ p ∧ p < t 0) : ∃ d1, m_X12_layTimes_174 p d = rt (nT t p) d1 ∧ MS d d1 ∧ d1 174 3 = d 174 3 ∧ LR d1 t ∧ TM d1 t p := by
  obtain ⟨d2, a1, a2, a3, a4⟩ := lrN k e
  obtain ⟨d1, b1, b2, b3⟩ := p_times_l hp a4 401 FU 0 d2 (by decide) (by omega) (fun _ _ => rfl) (fun x a b => by omega)
  refine ⟨d1, ?_, a2.tr (MS.o1 (n := 186) (by omega) b2), by rw [b2 174 (by decide)]; exact a3, LR_sm a4 (b2 175 (by decide)) (b2 182 (by decide)), b3⟩
  unfold m_X12_layTimes_174
  rw [a1, cl_rt, LR_b0 a4 hp (by omega), cl_rt, LR_b1 a4 hp (by omega), cl_rt]
  exact b1
theorem nT_rng (t : Nat → Int) (p : Int) : 0 ≤ nT t p ∧ nT t p ≤ 401 := by
  have := fo_inv (g := fun x n => n + bi (tm t p x)) (fun i n => 0 ≤ n ∧ n ≤ i) 401 0 0 (by omega) (fun j n _ _ h => by have := bi_rng (tm t p j); omega)
  unfold nT; omega
/-! times -/
def tmS (x : Int) (c : Int × Int × Int) : Int × Int × Int := (c.1 + 1, (if c.2.1 = -1 then x else c.2.1), x)
noncomputable def tmF (t : Nat → Int) (p : Int) : Int × Int × Int := fo (fun x c => if tm t p x = true then tmS x c else c) 401 0 (0, -1, -1)
theorem tmF_1 (t : Nat → Int) (p : Int) : (tmF t p).1 = nT t p := by
  have key : ∀ (m : Nat) (i : Int) (c : Int × Int × Int), (fo (fun x c => if tm t p x = true then tmS x c else c) m i c).1 = fo (fun x n => n + bi (tm t p x)) m i c.1 := by
    intro m
    induction m with
    | zero => intro i c; rfl
    | succ m ih =>
      intro i c
      simp only [fo]
      rw [ih]
      congr 1
      cases tm t p i <;> simp [bi, tmS]
  exact key 401 0 (0, -1, -1)
theorem o_times {p w : Int} {d : D9} (q : Q7 d) (hp : I32 p) (hw : I32 w) : AG d (m_X11_times_0 p w d) (m_X12_times_174 p w) fN := by
  obtain ⟨n0, n1, n2, n3⟩ := TKn q.1
  have ha := q_askPaint (d := d) hp (RWp q.2).1 n0
  by_cases hc : 0 ≤ p ∧ p < d 175 0
  · by_cases hD : 0 ≤ w ∧ w ≤ 2
    · have r1 := bnd_rng (d 175) p false (-1)
      have r2 := bnd_rng (d 175) p true (-1)
      refine AG.ret q (if w = 0 then (tmF (d 175) p).1 else if w = 1 then (tmF (d 175) p).2.1 else (tmF (d 175) p).2.2) ?_ (fun d' q' e => ?_)
      · unfold m_X11_times_0 m_X10_timesOf_1
        rw [ha, if_pos hc, cl_rt, ask_i hw (by omega), if_pos hD, cl_rt, q_mostOf (TKn q.1) (TKo q.1) (TKs q.1) (RWo q.2) (RWs q.2) (by omega), cl_rt, q_leastOf (TKn q.1) (TKo q.1) (TKs q.1) (RWo q.2) (RWs q.2) (by omega), cl_rt]
        have z := (fix_fu (z := fun _ _ _ _ _ _ _ _ => none) (B := fun k => b_X10_timesOf_1_c22 k) (fun k x (c : Int × Int × Int) => k p w (bnd (d 175) p true (-1)) c.1 c.2.1 c.2.2 x d) (bnd (d 175) p false (-1)) (max (bnd (d 175) p true (-1) + 1) (bnd (d 175) p false (-1))) (fun x c => if liv (d 175) p x = true then tmS x c else c) (fun x c => bnd (d 175) p false (-1) ≤ x ∧ -1 ≤ c.2.1 ∧ c.2.1 < max x 1) (fun c => rt (if w = 0 then c.1 else if w = 1 then c.2.1 else c.2.2) d) (0, -1, -1) (by omega) (by dsimp only; omega) ?_ ?_).2
        · rw [← tm_win] at z
          unfold tmF
          rw [show m_X10_timesOf_1_c22 p w (bnd (d 175) p true (-1)) 0 (-1) (-1) (bnd (d 175) p false (-1)) d = _ from z, cl_rt]
        · intro k' c hI
          simp only [b_X10_timesOf_1_c22]
          rw [w32_id (by omega), w32_id (by omega), if_pos (by omega), w32_id hw, w32_id (by omega)]
          by_cases x : w = 0
          · rw [if_neg (by omega), if_pos x]
          · rw [if_pos x, if_neg x]
            by_cases y : w = 1
            · rw [if_neg (by omega), if_pos y]
            · rw [if_pos y, if_neg y]
        · intro k' x c hlt hI
          refine ⟨by
            split
            · unfold tmS; dsimp only; split <;> omega
            · omega, ?_⟩
          simp only [b_X10_timesOf_1_c22]
          rw [w32_id (by omega), w32_id (by omega), if_neg (by omega), q_lives q.1 q.2 hc (by omega), cl_rt, w32_bi, w32_id (by omega), w32_id (by omega)]
          cases liv (d 175) p x
          · simp [bi]
          · by_cases y : c.2.1 = -1
            · simp [bi, tmS, y]
            · simp [bi, tmS, y]
      · have e1 := (m3 d' 0).1.trans e
        obtain ⟨d1, b1, b2, b3, b4, b5⟩ := p_layTimes q.1 e1 hc
        refine ⟨d1, ?_, (MS.u3 d' 0).tr b2, b3.trans (m3w d' 0)⟩
        unfold m_X12_times_174
        rw [pf_v, isPaint_t q.1 e1 hp, cl_rt, dec_t hc, bi_t, t1_0, if_pos ne10, w32_id hw, within_i hw (by omega), cl_rt, dec_t hD, bi_t, t1_0, if_pos ne10, b1, cl_rt, tmF_1]
        by_cases x : w = 0
        · rw [if_neg (by omega), if_pos x]
        · rw [if_pos x, if_neg x]
          have z := (fix_fu (z := fun _ _ _ _ _ => none) (B := fun k => b_X12_times_174_c58 k) (fun k x (c : Int × Int × Int) => k w c.2.1 c.2.2 x d1) 0 401 (fun x c => if tm (d 175) p x = true then tmS x c else c) (fun x c => 0 ≤ x ∧ -1 ≤ c.2.1 ∧ c.2.1 < max x 1) (fun c => rt (if w = 1 then c.2.1 else c.2.2) d1) (0, -1, -1) (by omega) (by dsimp only; omega) ?_ ?_).2
          · rw [show ((401 : Int) - 0).toNat = 401 from rfl] at z
            unfold tmF
            exact z
          · intro k' c hI
            simp only [b_X12_times_174_c58]
            rw [w32_id (by omega), w32_id (by omega), if_pos (by omega), w32_id hw, w32_id (by omega)]
            by_cases y : w = 1
            · rw [if_neg (by omega), if_pos y]
            · rw [if_pos y, if_neg y]
          · intro k' x c hlt hI
            refine ⟨by
              split
              · unfold tmS; dsimp only; split <;> omega
              · omega, ?_⟩
            simp only [b_X12_times_174_c58]
            rw [w32_id (by omega), w32_id (by omega), if_neg (by omega), ld_in (by omega), b5 x hI.1 (by omega), w32_bi, w32_id (by omega), w32_id (by omega)]
            cases tm (d 175) p x
            · simp [bi]
            · by_cases y : c.2.1 = -1
              · simp [bi, tmS, y]
              · simp [bi, tmS, y]
    · refine AG.thr q 0 ?_ (fun d' q' e => ?_)
      · unfold m_X11_times_0
        rw [ha, if_pos hc, cl_rt, ask_i hw (by omega), if_neg hD, cl_th]
      · have e1 := (m3 d' 0).1.trans e
        unfold m_X12_times_174
        rw [pf_v, isPaint_t q.1 e1 hp, cl_rt, dec_t hc, bi_t, t1_0, if_pos ne10, w32_id hw, within_i hw (by omega), cl_rt, dec_f hD, bi_f, t0_0, if_neg (by omega), p_fails, cl_rt]
        exact thr1 d' 2
  · refine AG.thr q 2 ?_ (fun d' q' e => ?_)
    · unfold m_X11_times_0
      rw [ha, if_neg hc, cl_th]
    · have e1 := (m3 d' 0).1.trans e
      unfold m_X12_times_174
      rw [pf_v, isPaint_t q.1 e1 hp, cl_rt, dec_f hc, bi_f, t0_0, if_neg (by omega), p_fails, cl_rt]
      exact thr1 d' 1
/-! who -/
theorem p_peopleFault {p w : Int} {d : D9} {t : Nat → Int} (k : TK t) (e : d 175 = t) (hp : I32 p) (hw : I32 w) : m_X12_peopleFault_174 p w d = rt (if 0 ≤ p ∧ p < t 0 then (if 0 ≤ w ∧ w ≤ 5 then 0 else 2) else 1) d := by
  unfold m_X12_peopleFault_174
  rw [isPaint_t k e hp, cl_rt, w32_bi, w32_id hw, within_i hw (by omega), cl_rt, w32_bi]
  by_cases x : 0 ≤ p ∧ p < t 0
  · rw [dec_t x, bi_t, if_pos ne10, if_pos x]
    by_cases y : 0 ≤ w ∧ w ≤ 5
    · rw [dec_t y, bi_t, if_neg ne10, if_pos y]
    · rw [dec_f y, bi_f, if_pos rfl, if_neg y]
  · rw [dec_f x, bi_f, if_neg (by omega), if_neg x]
def whS (t : Nat → Int) (w x : Int) (c : Int × Int) : Int × Int := (c.1 + bi (was t 1 w x), c.2 + p6 t x)
noncomputable def whF (t : Nat → Int) (p w : Int) : Int × Int := fo (fun x c => if tm t p x = true then whS t w x c else c) 401 0 (0, 0)
theorem p6_rng (t : Nat → Int) (x : Int) : 0 ≤ p6 t x ∧ p6 t x ≤ 6 := by
  have := fo_inv (g := fun w c => c + bi (was t 1 w x)) (fun i c => 0 ≤ c ∧ c ≤ i) 6 0 0 (by omega) (fun j c _ _ h => by have := bi_rng (was t 1 j x); omega)
  unfold p6; omega
theorem was_p6 {t : Nat → Int} {w x : Int} (hw : 0 ≤ w ∧ w ≤ 5) : bi (was t 1 w x) ≤ p6 t x := by
  have b0 := bi_rng (was t 1 0 x)
  have b1 := bi_rng (was t 1 1 x)
  have b2 := bi_rng (was t 1 2 x)
  have b3 := bi_rng (was t 1 3 x)
  have b4 := bi_rng (was t 1 4 x)
  have b5 := bi_rng (was t 1 5 x)
  have e : p6 t x = 0 + bi (was t 1 0 x) + bi (was t 1 1 x) + bi (was t 1 2 x) + bi (was t 1 3 x) + bi (was t 1 4 x) + bi (was t 1 5 x) := rfl
  have : w = 0 ∨ w = 1 ∨ w = 2 ∨ w = 3 ∨ w = 4 ∨ w = 5 := by omega
  rcases this with rfl | rfl | rfl | rfl | rfl | rfl <;> omega
theorem whF_rng {t : Nat → Int} {p w : Int} (hw : 0 ≤ w ∧ w ≤ 5) : 0 ≤ (whF t p w).1 ∧ (whF t p w).1 ≤ (whF t p w).2 ∧ (whF t p w).2 ≤ 2406 := by
  have := fo_inv (g := fun x c => if tm t p x = true then whS t w x c else c) (fun i (c : Int × Int) => 0 ≤ c.1 ∧ c.1 ≤ c.2 ∧ c.2 ≤ 6 * i) 401 0 (0, 0) (by dsimp only; omega) (fun j c h1 _ h => by
    have b := bi_rng (was t 1 w j)
    have r := p6_rng t j
    have l := was_p6 (t := t) (x := j) hw
    split
    · unfold whS; dsimp only; omega
    · omega)
  unfold whF
  omega
def iwS (t : Nat → Int) (w x k : Int) (c : Int × Int) : Int × Int := if was t 1 k x = true then (c.1 + (if k = w then 1 else 0), c.2 + 1) else c
theorem iw_6 {t : Nat → Int} {w x : Int} (hw : 0 ≤ w ∧ w ≤ 5) (c : Int × Int) : fo (iwS t w x) 6 0 c = whS t w x c := by
  have key : ∀ (m : Nat) (i : Int) (c : Int × Int), fo (iwS t w x) m i c = (fo (fun k v => v + bi (was t 1 k x && decide (k = w))) m i c.1, fo (fun k v => v + bi (was t 1 k x)) m i c.2) := by
    intro m
    induction m with
    | zero => intro i c; rfl
    | succ m ih =>
      intro i c
      simp only [fo]
      rw [ih]
      unfold iwS
      cases was t 1 i x
      · simp [bi]
      · by_cases h : i = w
        · simp [bi, h]
        · simp [bi, h]
  rw [key, fo_shift (fun k => bi (was t 1 k x)) 6 0 c.2, fo_shift (fun k => bi (was t 1 k x && decide (k = w))) 6 0 c.1]
  have e1 : fo (fun k v => v + bi (was t 1 k x && decide (k = w))) 6 0 0 = bi (was t 1 w x) := by
    have : w = 0 ∨ w = 1 ∨ w = 2 ∨ w = 3 ∨ w = 4 ∨ w = 5 := by omega
    rcases this with rfl | rfl | rfl | rfl | rfl | rfl <;> simp [fo, bi_f]
  rw [e1]
  rfl
theorem p_who_in {w x : Int} {d : D9} {t : Nat → Int} (k : TK t) (e : d 175 = t) (hw : 0 ≤ w ∧ w ≤ 5) (hx : 0 ≤ x ∧ x ≤ 400) {b : Bool} (hb : d 186 x.toNat = bi b) (kc : Int → Int → Int → Int → D9 → Option R9) (c : Int × Int) : m_X12_who_174_c44 kc w c.1 c.2 x 0 d = kc w (if b = true then whS t w x c else c).1 (if b = true then whS t w x c else c).2 (x + 1) d := by
  cases b
  · unfold m_X12_who_174_c44
    rw [show FU = 999999 + 1 from rfl, fx5, b_X12_who_174_c44, if_neg (by decide), ld_in (by omega), hb, bi_f, if_pos t0_0]
    rfl
  · have z := (fix_fu (z := fun _ _ _ _ _ _ => none) (B := fun k => b_X12_who_174_c44 kc k) (fun k i (c : Int × Int) => k w c.1 c.2 x i d) 0 6 (iwS t w x) (fun i c => 0 ≤ i) (fun c => kc w c.1 c.2 (x + 1) d) c (by omega) (by omega) ?_ ?_).2
    · rw [show ((6 : Int) - 0).toNat = 6 from rfl, iw_6 hw] at z
      rw [if_pos rfl]
      exact z
    · intro k' c hI
      simp only [b_X12_who_174_c44]
      rw [if_pos (Int.le_refl _)]
    · intro k' i c hlt hI
      refine ⟨by omega, ?_⟩
      simp only [b_X12_who_174_c44]
      rw [w32_id (by omega), w32_id (by omega), if_neg (by omega), ld_in (by omega), hb, bi_t, t1_0, if_neg ne10, p_was k e (by omega) (by omega) hx, cl_rt, w32_bi, w32_id (by omega), lt_v, lt_v, lt_v]
      unfold iwS
      cases was t 1 i x
      · simp [bi]
      · by_cases h : i = w
        · simp [bi, h]
        · simp [bi, h]
theorem o_who {p w : Int} {d : D9} (q : Q7 d) (hp : I32 p) (hw : I32 w) : AF d (m_X11_who_0 p w d) (m_X12_who_174 p w) fN := by
  obtain ⟨n0, n1, n2, n3⟩ := TKn q.1
  have ha := q_askPaint (d := d) hp (RWp q.2).1 n0
  by_cases hc : 0 ≤ p ∧ p < d 175 0
  · by_cases hD : 0 ≤ w ∧ w ≤ 5
    · have r1 := bnd_rng (d 175) p false (-1)
      have r2 := bnd_rng (d 175) p true (-1)
      have wr := whF_rng (t := d 175) (p := p) hD
      have hcls : m_X11_who_0 p w d = cl (cl (m_X0_put_53 (whF (d 175) p w).1 (whF (d 175) p w).2 d) (fun r1 d2 => rt (r1 % 2) d2)) (fun r5 d6 => rt (r5 % 2) d6) := by
        unfold m_X11_who_0 m_X10_whoInto_1_53
        rw [ha, if_pos hc, cl_rt, ask_i hw (by omega), if_pos hD, cl_rt, q_mostOf (TKn q.1) (TKo q.1) (TKs q.1) (RWo q.2) (RWs q.2) (by omega), cl_rt, q_leastOf (TKn q.1) (TKo q.1) (TKs q.1) (RWo q.2) (RWs q.2) (by omega), cl_rt]
        have z := (fix_fu (z := fun _ _ _ _ _ _ _ => none) (B := fun k => b_X10_whoInto_1_53_c20 k) (fun k x (c : Int × Int) => k p w (bnd (d 175) p true (-1)) c.1 c.2 x d) (bnd (d 175) p false (-1)) (max (bnd (d 175) p true (-1) + 1) (bnd (d 175) p false (-1))) (fun x c => if liv (d 175) p x = true then whS (d 175) w x c else c) (fun x c => bnd (d 175) p false (-1) ≤ x ∧ 0 ≤ c.1 ∧ c.1 ≤ c.2 ∧ c.2 ≤ 6 * x) (fun c => cl (m_X0_put_53 c.1 c.2 d) (fun r1 d2 => rt (r1 % 2) d2)) (0, 0) (by omega) (by dsimp only; omega) ?_ ?_).2
        · rw [← tm_win] at z
          rw [show m_X10_whoInto_1_53_c20 p w (bnd (d 175) p true (-1)) 0 0 (bnd (d 175) p false (-1)) d = _ from z]
          rfl
        · intro k' c hI
          simp only [b_X10_whoInto_1_53_c20]
          rw [w32_id (by omega), w32_id (by omega), if_pos (by omega), w32_id (by omega), w32_id (by omega)]
        · intro k' x c hlt hI
          have b := bi_rng (was (d 175) 1 w x)
          have r := p6_rng (d 175) x
          have l := was_p6 (t := d 175) (x := x) hD
          have pp := pps_ok q.1 x
          refine ⟨by
            split
            · unfold whS; dsimp only; omega
            · omega, ?_⟩
          simp only [b_X10_whoInto_1_53_c20]
          rw [w32_id (by omega), w32_id (by omega), if_neg (by omega), q_lives q.1 q.2 hc (by omega), cl_rt, w32_bi, q_pps q.1 q.2 (by omega), cl_rt, q_bc, cl_rt, (bc_pps q.1 x).1, lt_v, q_isIn (by omega), cl_rt, w32_bi, pp.2 w (by omega) (by omega), lt_v, lt_v]
          unfold whS
          cases liv (d 175) p x
          · simp [bi]
          · cases was (d 175) 1 w x <;> simp [bi]
      have hmod : ∀ d' : D9, d' 175 = d 175 → ∃ d1, m_X12_who_174 p w d' = (if (whF (d 175) p w).2 ≠ 0 then cl (m_X12_fraction_174 (whF (d 175) p w).1 (whF (d 175) p w).2 d1) (fun r1 d2 => rt (r1 % 2) d2) else cl (m_X12_nothing_174 d1) (fun r3 d4 => rt (r3 % 2) d4)) ∧ MS d' d1 ∧ d1 174 3 = 0 := by
        intro d' e
        have e1 := (m3 d' 0).1.trans e
        obtain ⟨d1, b1, b2, b3, b4, b5⟩ := p_layTimes q.1 e1 hc
        refine ⟨d1, ?_, (MS.u3 d' 0).tr b2, b3.trans (m3w d' 0)⟩
        unfold m_X12_who_174
        rw [p_peopleFault q.1 e hp hw, if_pos hc, if_pos hD, cl_rt, pf_v, m3w, t0_0, if_pos (by omega), b1, cl_rt]
        have z := (fix_fu (z := fun _ _ _ _ _ => none) (B := fun k => b_X12_who_174_c33 k) (fun k x (c : Int × Int) => k w c.1 c.2 x d1) 0 401 (fun x c => if tm (d 175) p x = true then whS (d 175) w x c else c) (fun x c => 0 ≤ x ∧ 0 ≤ c.1 ∧ c.1 ≤ c.2 ∧ c.2 ≤ 6 * x) (fun c => if c.2 ≠ 0 then cl (m_X12_fraction_174 c.1 c.2 d1) (fun r1 d2 => rt (r1 % 2) d2) else cl (m_X12_nothing_174 d1) (fun r3 d4 => rt (r3 % 2) d4)) (0, 0) (by omega) (by dsimp only; omega) ?_ ?_).2
        · exact z
        · intro k' c hI
          simp only [b_X12_who_174_c33]
          rw [w32_id (by omega), w32_id (by omega), if_pos (by omega), w64_id (by omega), w64_id (by omega)]
        · intro k' x c hlt hI
          have b := bi_rng (was (d 175) 1 w x)
          have r := p6_rng (d 175) x
          have l := was_p6 (t := d 175) (x := x) hD
          refine ⟨by
            split
            · unfold whS; dsimp only; omega
            · omega, ?_⟩
          simp only [b_X12_who_174_c33]
          rw [w32_id (by omega), w32_id (by omega), if_neg (by omega), p_who_in q.1 b4.1 hD (by omega) (b5 x hI.1 hlt)]
      by_cases x : (whF (d 175) p w).2 = 0
      · refine AF.mk q 0 0 0 ?_ (fun d' q' e => ?_)
        · rw [hcls, q_put0 x, cl_rt, cl_rt]; rfl
        · obtain ⟨d1, z1, z2, z3⟩ := hmod d' e
          refine ⟨d1, ?_, z2, z3⟩
          rw [z1, if_neg (by omega), p_nothing, cl_rt]; rfl
      · refine AF.mk q 1 (fU (whF (d 175) p w).1 (whF (d 175) p w).2) (fL (whF (d 175) p w).1 (whF (d 175) p w).2) ?_ (fun d' q' e => ?_)
        · rw [hcls, q_put (by omega) (by omega), cl_rt, cl_rt]; rfl
        · obtain ⟨d1, z1, z2, z3⟩ := hmod d' e
          refine ⟨d1, ?_, z2, z3⟩
          rw [z1, if_pos x, p_frac (by omega) (by omega), cl_rt]; rfl
    · refine AF.thr q 0 ?_ (fun d' q' e => ?_)
      · unfold m_X11_who_0
        rw [ha, if_pos hc, cl_rt, ask_i hw (by omega), if_neg hD, cl_th]
      · unfold m_X12_who_174
        rw [p_peopleFault q.1 e hp hw, if_pos hc, if_neg hD, cl_rt, pf_v, m3w, if_neg (by decide)]
        exact ref3 (v := 2) (by omega) rfl
  · refine AF.thr q 2 ?_ (fun d' q' e => ?_)
    · unfold m_X11_who_0
      rw [ha, if_neg hc, cl_th]
    · unfold m_X12_who_174
      rw [p_peopleFault q.1 e hp hw, if_neg hc, cl_rt, pf_v, m3w, if_neg (by decide)]
      exact ref3 (v := 1) (by omega) rfl

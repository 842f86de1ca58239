/-! what holds between calls -/
def st (t : Nat → Int) (k w : Int) : Int := t (1086 + 4 * k + w).toNat
def T7p (t : Nat → Int) : Prop := ∀ p, 0 ≤ p → p < t 0 → (0 ≤ pt t p 0 ∧ pt t p 0 ≤ 3) ∧ (0 ≤ pt t p 1 ∧ pt t p 1 ≤ 5) ∧ (0 ≤ pt t p 2 ∧ pt t p 2 ≤ 9) ∧ ∀ f, 0 ≤ f → f < 5 → 0 ≤ pt t p (3 + f) ∧ pt t p (3 + f) ≤ 99
def T7h (t : Nat → Int) : Prop := ∀ h, 0 ≤ h → h < t 3 → (0 ≤ hd t h 0 ∧ hd t h 0 ≤ 3) ∧ ∀ f, 0 ≤ f → f < 5 → 1 ≤ hd t h (1 + f) ∧ hd t h (1 + f) ≤ 99
def T7y (t : Nat → Int) : Prop := (0 ≤ t 5 ∧ t 5 ≤ 12) ∧ ∀ k, 0 ≤ k → k < t 5 → (0 ≤ st t k 0 ∧ st t k 0 ≤ 1) ∧ (0 ≤ st t k 1 ∧ st t k 1 ≤ 9) ∧ (st t k 0 = 1 → st t k 1 ≤ 5) ∧ (0 ≤ st t k 2 ∧ st t k 2 ≤ 400) ∧ (0 ≤ st t k 3 ∧ st t k 3 ≤ 400)
def T7w (t : Nat → Int) : Prop := ∀ i : Int, 0 ≤ i → i < 10 → 0 ≤ t (1134 + i).toNat ∧ t (1134 + i).toNat ≤ 99
def sgn7 (x : Int) : Prop := (1 ≤ x ∧ x ≤ 9) ∨ (101 ≤ x ∧ x ≤ 199) ∨ (300 ≤ x ∧ x ≤ 305)
def stp (x : Int) : Int := if x = 1 then 18000 else if x = 2 then 19000 else if x = 3 then 23000 else if x = 4 then 20000 else if x = 5 then 21000 else if x = 6 then 22000 else if x = 7 then 15000 else if x = 8 then 14000 else if x = 9 then 13000 else if 300 ≤ x then 17000 + (x - 300) else 16000 + (x - 100)
def hg (sg : Int → Int) : Nat → Int
  | 0 => 0
  | n + 1 => if sg n = 7 then hg sg n else if sg n = 8 ∨ sg n = 9 then hg sg n - 1 else hg sg n + 1
def PG7 (sg : Int → Int) (n : Int) : Prop := (∀ i, 0 ≤ i → i < n → sgn7 (sg i) ∧ (sg i = 7 → 1 ≤ hg sg i.toNat) ∧ ((sg i = 8 ∨ sg i = 9) → 2 ≤ hg sg i.toNat) ∧ 0 ≤ hg sg i.toNat ∧ hg sg i.toNat ≤ 19) ∧ (0 < n → hg sg n.toNat = 1)
def rp (t : Nat → Int) : Nat → Int
  | 0 => 1145
  | r + 1 => rp t r + 2 + t (rp t r + 1).toNat
def T7r (t : Nat → Int) : Prop := (0 ≤ t 1144 ∧ t 1144 ≤ 12) ∧ ∀ r : Nat, (r : Int) < t 1144 → 1145 ≤ rp t r ∧ (0 ≤ t (rp t r).toNat ∧ t (rp t r).toNat ≤ 2) ∧ 0 ≤ t (rp t r + 1).toNat ∧ rp t (r + 1) ≤ 1604 ∧ PG7 (fun i => t (rp t r + 2 + i).toNat) (t (rp t r + 1).toNat)
def TK (t : Nat → Int) : Prop := T7n t ∧ T7l t ∧ T7p t ∧ T7o t ∧ T7s t ∧ T7h t ∧ T7y t ∧ T7w t ∧ T7r t
def R7p (c : D9) (t : Nat → Int) : Prop := c 2 0 = t 0 ∧ c 2 1 = t 2 ∧ (∀ p, 0 ≤ p → p < t 0 → c 3 p.toNat = pt t p 0 ∧ c 4 p.toNat = pt t p 1 ∧ c 5 p.toNat = pt t p 2 ∧ ∀ f, 0 ≤ f → f < 5 → c 6 (p * 5 + f).toNat = pt t p (3 + f)) ∧ ∀ p : Int, t 0 ≤ p → p < 30 → ∀ f, 0 ≤ f → f < 5 → c 6 (p * 5 + f).toNat = 0
def R7h (c : D9) (t : Nat → Int) : Prop := c 33 0 = t 3 ∧ ∀ h, 0 ≤ h → h < t 3 → c 34 h.toNat = hd t h 0 ∧ ∀ f, 0 ≤ f → f < 5 → c 35 (h * 5 + f).toNat = hd t h (1 + f)
def R7y (c : D9) (t : Nat → Int) : Prop := c 23 0 = t 5 ∧ ∀ k, 0 ≤ k → k < t 5 → c 24 k.toNat = 23 + st t k 0 ∧ c 25 k.toNat = st t k 1 ∧ c 26 k.toNat = st t k 2 ∧ c 27 k.toNat = st t k 3
def R7w (c : D9) (t : Nat → Int) : Prop := ∀ i : Int, 0 ≤ i → i < 5 → c 36 i.toNat = t (1134 + i).toNat ∧ c 37 i.toNat = t (1139 + i).toNat
def R7r (c : D9) (t : Nat → Int) : Prop := c 28 0 = t 1144 ∧ ∀ r : Nat, (r : Int) < t 1144 → c 29 r = t (rp t r).toNat ∧ c 31 r = c 30 r + t (rp t r + 1).toNat ∧ 0 ≤ c 30 r ∧ c 31 r ≤ 400 ∧ ∀ i, 0 ≤ i → i < t (rp t r + 1).toNat → c 32 (c 30 r + i).toNat = stp (t (rp t r + 2 + i).toNat)
def RW (c : D9) (t : Nat → Int) : Prop := R7l c t ∧ R7p c t ∧ R7o c t ∧ R7s c t ∧ R7h c t ∧ R7y c t ∧ R7w c t ∧ R7r c t
/-- the cells of which nothing is asked -/
def SCR (k : Nat) : Prop := k = 194 ∨ k = 174 ∨ k = 51 ∨ (40 ≤ k ∧ k ≤ 50) ∨ (58 ≤ k ∧ k ≤ 62) ∨ (179 ≤ k ∧ k ≤ 190)
def SM (d d' : D9) : Prop := (∀ k, ¬ SCR k → d' k = d k) ∧ (d' 51 1 = d 51 1 ∧ d' 51 2 = d 51 2 ∧ d' 51 3 = d 51 3) ∧ d' 174 7 = d 174 7 ∧ d' 174 15 = d 174 15 ∧ d' 174 16 = d 174 16 ∧ d' 174 20 = d 174 20 ∧ d' 174 21 = d 174 21
theorem SM.rf (d : D9) : SM d d := ⟨fun _ _ => rfl, ⟨rfl, rfl, rfl⟩, rfl, rfl, rfl, rfl, rfl⟩
theorem SM.tr {d d' d'' : D9} (a : SM d d') (b : SM d' d'') : SM d d'' :=
  ⟨fun k h => (b.1 k h).trans (a.1 k h), ⟨b.2.1.1.trans a.2.1.1, b.2.1.2.1.trans a.2.1.2.1, b.2.1.2.2.trans a.2.1.2.2⟩, b.2.2.1.trans a.2.2.1, b.2.2.2.1.trans a.2.2.2.1, b.2.2.2.2.1.trans a.2.2.2.2.1, b.2.2.2.2.2.1.trans a.2.2.2.2.2.1, b.2.2.2.2.2.2.trans a.2.2.2.2.2.2⟩
theorem SM.k7 {d d' : D9} (h : K7 d d') : SM d d' :=
  ⟨fun k hk => h k (by intro e; subst e; exact hk (by unfold SCR; omega)), ⟨by rw [h 51 (by decide)], by rw [h 51 (by decide)], by rw [h 51 (by decide)]⟩, by rw [h 174 (by decide)], by rw [h 174 (by decide)], by rw [h 174 (by decide)], by rw [h 174 (by decide)], by rw [h 174 (by decide)]⟩
/-- a write to a place of which nothing is asked -/
theorem SM.w {d : D9} {k j : Nat} {v : Int} (h : SCR k) (h1 : k = 51 → j ≠ 1 ∧ j ≠ 2 ∧ j ≠ 3) (h2 : k = 174 → j ≠ 7 ∧ j ≠ 15 ∧ j ≠ 16 ∧ j ≠ 20 ∧ j ≠ 21) : SM d (up d k j v) := by
  refine ⟨fun k' hk => up_k (by intro e; subst e; exact hk h), ⟨?_, ?_, ?_⟩, ?_, ?_, ?_, ?_, ?_⟩ <;> rw [up_get, if_neg] <;> rintro ⟨rfl, e⟩
  · exact (h1 rfl).1 e.symm
  · exact (h1 rfl).2.1 e.symm
  · exact (h1 rfl).2.2 e.symm
  · exact (h2 rfl).1 e.symm
  · exact (h2 rfl).2.1 e.symm
  · exact (h2 rfl).2.2.1 e.symm
  · exact (h2 rfl).2.2.2.1 e.symm
  · exact (h2 rfl).2.2.2.2 e.symm
theorem SM.u3 (d : D9) (v : Int) : SM d (up d 174 3 v) := SM.w (by unfold SCR; omega) (by omega) (by intro _; decide)
theorem SM.u194 (d : D9) (v : Int) : SM d (up d 194 0 v) := SM.w (by unfold SCR; omega) (by omega) (by omega)
theorem SM.t {d d' : D9} (h : SM d d') : d' 175 = d 175 := h.1 175 (by unfold SCR; omega)
theorem R7l_c {c c' : D9} {t : Nat → Int} (h : R7l c t) (e : c' 22 = c 22) : R7l c' t := by unfold R7l; rw [e]; exact h
theorem R7p_c {c c' : D9} {t : Nat → Int} (h : R7p c t) (e2 : c' 2 = c 2) (e3 : c' 3 = c 3) (e4 : c' 4 = c 4) (e5 : c' 5 = c 5) (e6 : c' 6 = c 6) : R7p c' t := by unfold R7p; rw [e2, e3, e4, e5, e6]; exact h
theorem R7o_c {c c' : D9} {t : Nat → Int} (h : R7o c t) (e7 : c' 7 = c 7) (e8 : c' 8 = c 8) : R7o c' t := by unfold R7o; rw [e7, e8]; exact h
theorem R7s_c {c c' : D9} {t : Nat → Int} (h : R7s c t) (e : ∀ k, 9 ≤ k → k ≤ 21 → c' k = c k) : R7s c' t := by
  refine ⟨by rw [e 9 (by omega) (by omega)]; exact h.1, fun s a b => ?_⟩
  obtain ⟨x, y, z⟩ := h.2 s a b
  exact ⟨RA7_fr x (fun k hk => by rw [e k (by omega) (by omega)]) (fun k l hk _ _ => by rw [e k (by omega) (by omega)]), RC7_fr y (fun k l hk _ _ => by rw [e k (by omega) (by omega)]), RJ7_fr z (fun k hk => by rw [e k (by omega) (by omega)])⟩
theorem R7h_c {c c' : D9} {t : Nat → Int} (h : R7h c t) (e3 : c' 33 = c 33) (e4 : c' 34 = c 34) (e5 : c' 35 = c 35) : R7h c' t := by unfold R7h; rw [e3, e4, e5]; exact h
theorem R7y_c {c c' : D9} {t : Nat → Int} (h : R7y c t) (e : ∀ k, 23 ≤ k → k ≤ 27 → c' k = c k) : R7y c' t := by unfold R7y; rw [e 23 (by omega) (by omega), e 24 (by omega) (by omega), e 25 (by omega) (by omega), e 26 (by omega) (by omega), e 27 (by omega) (by omega)]; exact h
theorem R7w_c {c c' : D9} {t : Nat → Int} (h : R7w c t) (e6 : c' 36 = c 36) (e7 : c' 37 = c 37) : R7w c' t := by unfold R7w; rw [e6, e7]; exact h
theorem R7r_c {c c' : D9} {t : Nat → Int} (h : R7r c t) (e : ∀ k, 28 ≤ k → k ≤ 32 → c' k = c k) : R7r c' t := by unfold R7r; rw [e 28 (by omega) (by omega), e 29 (by omega) (by omega), e 30 (by omega) (by omega), e 31 (by omega) (by omega), e 32 (by omega) (by omega)]; exact h
theorem RW_c {c c' : D9} {t : Nat → Int} (h : RW c t) (e : ∀ k, 1 ≤ k → k ≤ 37 → c' k = c k) : RW c' t := by
  obtain ⟨a, b, f, g, i, j, k, l⟩ := h
  exact ⟨R7l_c a (e _ (by omega) (by omega)), R7p_c b (e _ (by omega) (by omega)) (e _ (by omega) (by omega)) (e _ (by omega) (by omega)) (e _ (by omega) (by omega)) (e _ (by omega) (by omega)), R7o_c f (e _ (by omega) (by omega)) (e _ (by omega) (by omega)), R7s_c g (fun k _ _ => e k (by omega) (by omega)), R7h_c i (e _ (by omega) (by omega)) (e _ (by omega) (by omega)) (e _ (by omega) (by omega)), R7y_c j (fun k _ _ => e k (by omega) (by omega)), R7w_c k (e _ (by omega) (by omega)) (e _ (by omega) (by omega)), R7r_c l (fun k _ _ => e k (by omega) (by omega))⟩
/-- the wall of today, and what is told of it -/
def Q7 (d : D9) : Prop := TK (d 175) ∧ RW d (d 175)
theorem SM.q {d d' : D9} (h : SM d d') (q : Q7 d) : Q7 d' := by
  unfold Q7
  rw [h.t]
  exact ⟨q.1, RW_c q.2 (fun k a b => h.1 k (by unfold SCR; omega))⟩
/-! what calls ask of their arguments -/
def I32 (x : Int) : Prop := -2147483648 ≤ x ∧ x ≤ 2147483647
theorem q_askWithin {v lo hi : Int} {d : D9} (h : I32 v ∧ I32 lo ∧ I32 hi) : m_X11_askWithin v lo hi d = if lo ≤ v ∧ v ≤ hi then rt 0 d else th 0 d := by
  obtain ⟨h1, h2, h3⟩ := h
  unfold m_X11_askWithin m_X11_askWithin_c10
  rw [w32_id h1, w32_id h2, w32_id h3]
  by_cases a : v < lo
  · rw [if_pos a, if_neg (by omega)]
  · rw [if_neg a]
    by_cases b : v ≤ hi
    · rw [if_pos b, if_pos (by omega)]
    · rw [if_neg b, if_neg (by omega)]
theorem q_askPaint {p : Int} {d : D9} {n : Int} (h : I32 p) (e : d 2 0 = n) (hn : 0 ≤ n ∧ n ≤ 30) : m_X11_askPaint_0 p d = if 0 ≤ p ∧ p < n then rt 0 d else th 2 d := by
  unfold m_X11_askPaint_0 m_X11_askPaint_0_c18
  rw [e, w32_id h, w32_id (by omega)]
  by_cases a : p < 0
  · rw [if_pos a, if_neg (by omega)]
  · rw [if_neg a]
    by_cases b : p < n
    · rw [if_pos b, if_pos (by omega)]
    · rw [if_neg b, if_neg (by omega)]
theorem q_askSkin {p : Int} {d : D9} {n : Int} (h : I32 p) (e : d 9 0 = n) (hn : 0 ≤ n ∧ n ≤ 30) : m_X11_askSkin_0 p d = if 0 ≤ p ∧ p < n then rt 0 d else th 2 d := by
  unfold m_X11_askSkin_0 m_X11_askSkin_0_c18
  rw [e, w32_id h, w32_id (by omega)]
  by_cases a : p < 0
  · rw [if_pos a, if_neg (by omega)]
  · rw [if_neg a]
    by_cases b : p < n
    · rw [if_pos b, if_pos (by omega)]
    · rw [if_neg b, if_neg (by omega)]
theorem p_within {v lo hi : Int} {d : D9} (h : (-9223372036854775808 ≤ v ∧ v ≤ 9223372036854775807) ∧ I32 lo ∧ I32 hi) : m_X12_within v lo hi d = rt (bi (decide (lo ≤ v ∧ v ≤ hi))) d := by
  obtain ⟨h1, h2, h3⟩ := h
  unfold I32 at h2 h3
  unfold m_X12_within
  rw [w64_id h1, w64_id (by omega), w64_id (by omega)]
  by_cases a : v < lo
  · rw [if_pos a]; simp [show ¬ lo ≤ v by omega, bi]
  · rw [if_neg a]
    by_cases b : v ≤ hi
    · rw [if_neg (by omega)]; simp [show lo ≤ v by omega, b, bi]
    · rw [if_pos (by omega)]; simp [b, bi]
theorem p_isPaint {p : Int} {d : D9} (h : I32 p) (hn : 0 ≤ d 175 0 ∧ d 175 0 ≤ 30) : m_X12_isPaint_174 p d = rt (bi (decide (0 ≤ p ∧ p < d 175 0))) d := by
  unfold I32 at h
  unfold m_X12_isPaint_174
  rw [ld_in (by omega), Int.toNat_zero, w32_id h, w32_id (by omega), p_within ⟨by omega, by unfold I32; omega, by unfold I32; omega⟩, cl_rt, bi_m]
  congr 2
  exact decide_eq_decide.mpr (by omega)
theorem p_isSkin {p : Int} {d : D9} (h : I32 p) (hn : 0 ≤ d 175 1 ∧ d 175 1 ≤ 30) : m_X12_isSkin_174 p d = rt (bi (decide (0 ≤ p ∧ p < d 175 1))) d := by
  unfold I32 at h
  unfold m_X12_isSkin_174
  rw [ld_in (by omega), Int.toNat_one, w32_id h, w32_id (by omega), p_within ⟨by omega, by unfold I32; omega, by unfold I32; omega⟩, cl_rt, bi_m]
  congr 2
  exact decide_eq_decide.mpr (by omega)
theorem p_fails (k : Int) (d : D9) : m_X12_fails_174 k d = rt 0 (up d 174 3 k) := rfl

/-! all that holds between two calls of the law -/
def IM (d : D9) : Prop := ∀ i : Nat, i < 3 → d 39 i = d 177 i ∧ (d 177 i = 0 ∨ (d 177 i = 1 ∧ TK (fun j => d 176 (1604 * i + j)) ∧ RW (fun k => d (k + 62 + 37 * i)) (fun j => d 176 (1604 * i + j))))
def TX (d : D9) : Prop := (d 51 1 = d 174 7 ∧ d 51 2 = d 174 15 ∧ d 51 3 = d 174 16) ∧ (0 ≤ d 174 7 ∧ d 174 7 ≤ 400) ∧ ∀ j : Nat, j < 400 → d 52 j = d 178 j ∧ 0 ≤ d 178 j ∧ d 178 j ≤ 255
def FC (d : D9) : Prop := d 53 0 = d 174 20 ∧ d 53 1 = d 174 21
def TY (d : D9) : Prop := (∀ i : Nat, i < 4 → (d 56 i = -1 ∧ d 191 i = -1) ∨ ((0 ≤ d 56 i ∧ d 56 i ≤ 40) ∧ d 192 i = d 56 i ∧ (0 ≤ d 191 i ∧ d 191 i ≤ 3) ∧ d 55 i = d 191 i)) ∧ ∀ j : Nat, j < 160 → d 57 j = d 193 j ∧ -9223372036854775808 ≤ d 193 j ∧ d 193 j ≤ 9223372036854775807
def IV (d : D9) : Prop := IM d ∧ TX d ∧ FC d ∧ TY d
def INV (d : D9) : Prop := Q7 d ∧ IV d
theorem IM_c {d d' : D9} (h : IM d) (e : d' 39 = d 39) (e1 : d' 177 = d 177) (e2 : d' 176 = d 176) (e3 : ∀ k, 63 ≤ k → k ≤ 173 → d' k = d k) : IM d' := by
  intro i hi
  rw [e, e1, e2]
  obtain ⟨a, b⟩ := h i hi
  refine ⟨a, ?_⟩
  rcases b with b | ⟨b1, b2, b3⟩
  · exact Or.inl b
  · exact Or.inr ⟨b1, b2, RW_c b3 (fun k p r => e3 _ (by omega) (by omega))⟩
theorem TX_c {d d' : D9} (h : TX d) (e : d' 51 1 = d 51 1 ∧ d' 51 2 = d 51 2 ∧ d' 51 3 = d 51 3) (e1 : d' 174 7 = d 174 7) (e2 : d' 174 15 = d 174 15) (e3 : d' 174 16 = d 174 16) (e4 : d' 52 = d 52) (e5 : d' 178 = d 178) : TX d' := by
  obtain ⟨x, y, z⟩ := e
  unfold TX
  rw [x, y, z, e1, e2, e3, e4, e5]
  exact h
theorem TY_c {d d' : D9} (h : TY d) (e : ∀ k, 55 ≤ k → k ≤ 57 → d' k = d k) (e1 : ∀ k, 191 ≤ k → k ≤ 193 → d' k = d k) : TY d' := by
  unfold TY
  rw [e 55 (by omega) (by omega), e 56 (by omega) (by omega), e 57 (by omega) (by omega), e1 191 (by omega) (by omega), e1 192 (by omega) (by omega), e1 193 (by omega) (by omega)]
  exact h
/-- a way that may change the wall of today -/
def WM (d d' : D9) : Prop := (∀ k, ¬ SCR k → (k < 1 ∨ 37 < k) → k ≠ 175 → d' k = d k) ∧ (d' 51 1 = d 51 1 ∧ d' 51 2 = d 51 2 ∧ d' 51 3 = d 51 3) ∧ d' 174 7 = d 174 7 ∧ d' 174 15 = d 174 15 ∧ d' 174 16 = d 174 16 ∧ d' 174 20 = d 174 20 ∧ d' 174 21 = d 174 21
theorem SM.wm {d d' : D9} (h : SM d d') : WM d d' := ⟨fun k a _ _ => h.1 k a, h.2⟩
theorem WM.tr {d d' d'' : D9} (a : WM d d') (b : WM d' d'') : WM d d'' :=
  ⟨fun k h h1 h2 => (b.1 k h h1 h2).trans (a.1 k h h1 h2), ⟨b.2.1.1.trans a.2.1.1, b.2.1.2.1.trans a.2.1.2.1, b.2.1.2.2.trans a.2.1.2.2⟩, b.2.2.1.trans a.2.2.1, b.2.2.2.1.trans a.2.2.2.1, b.2.2.2.2.1.trans a.2.2.2.2.1, b.2.2.2.2.2.1.trans a.2.2.2.2.2.1, b.2.2.2.2.2.2.trans a.2.2.2.2.2.2⟩
theorem WM.rf (d : D9) : WM d d := (SM.rf d).wm
/-- only cells of the wall, or what is told, have changed -/
theorem WM.of {d d' : D9} (h : ∀ k, k < 1 ∨ 37 < k → k ≠ 175 → d' k = d k) : WM d d' := by
  refine ⟨fun k _ a b => h k a b, ?_⟩
  rw [h 51 (by omega) (by omega), h 174 (by omega) (by omega)]
  exact ⟨⟨rfl, rfl, rfl⟩, rfl, rfl, rfl, rfl, rfl⟩
theorem WM.w {d : D9} {k j : Nat} {v : Int} (h : (1 ≤ k ∧ k ≤ 37) ∨ k = 175) : WM d (up d k j v) := WM.of (fun k' a b => up_k (by omega))
theorem WM.iv {d d' : D9} (h : WM d d') (v : IV d) : IV d' := by
  obtain ⟨a, b, c, e⟩ := v
  have g : ∀ k, ¬ SCR k → (k < 1 ∨ 37 < k) → k ≠ 175 → d' k = d k := h.1
  have fc : FC d' := by
    unfold FC
    rw [h.2.2.2.2.2.1, h.2.2.2.2.2.2, g 53 (by unfold SCR; omega) (by omega) (by omega)]
    exact c
  refine ⟨IM_c a (g _ ?_ ?_ ?_) (g _ ?_ ?_ ?_) (g _ ?_ ?_ ?_) (fun k x y => g _ ?_ ?_ ?_), TX_c b h.2.1 h.2.2.1 h.2.2.2.1 h.2.2.2.2.1 (g _ ?_ ?_ ?_) (g _ ?_ ?_ ?_), fc, TY_c e (fun k x y => g _ ?_ ?_ ?_) (fun k x y => g _ ?_ ?_ ?_)⟩
  all_goals first | omega | (unfold SCR; omega)
theorem SM.inv {d d' : D9} (h : SM d d') (v : INV d) : INV d' := ⟨h.q v.1, h.wm.iv v.2⟩
/-- nothing but the answer's cell has changed -/
def X4 (d d' : D9) : Prop := ∀ k, k ≠ 194 → d' k = d k
theorem X4.sm {d d' : D9} (h : X4 d d') : SM d d' := by
  refine ⟨fun k a => h k (by intro e; subst e; exact a (by unfold SCR; omega)), ?_⟩
  rw [h 51 (by omega), h 174 (by omega)]
  exact ⟨⟨rfl, rfl, rfl⟩, rfl, rfl, rfl, rfl, rfl⟩
/-- class and model agree at a call, and what holds between calls holds after it -/
def AI (d : D9) (c : Option R9) (m : D9 → Option R9) (f : Nat → Int) : Prop :=
  (∃ v d1, c = rt v d1 ∧ ∀ d', X4 d1 d' → ∃ d2, m d' = rt v d2 ∧ INV d2 ∧ d2 194 = d' 194 ∧ d2 174 3 = 0) ∨
  (∃ e d1, (c = th e d1 ∧ f e ≠ 0) ∧ ∀ d', X4 d1 d' → ∃ b d2, m d' = rt b d2 ∧ INV d2 ∧ d2 194 = d' 194 ∧ d2 174 3 = f e)
theorem AG.ai {d : D9} {c : Option R9} {m : D9 → Option R9} {f : Nat → Int} (v : INV d) (h : AG d c m f) : AI d c m f := by
  rcases h with ⟨a, d1, e, s, g⟩ | ⟨a, d1, e, s, g⟩
  · refine Or.inl ⟨a, d1, e, fun d' x => ?_⟩
    have s' := s.tr x.sm
    obtain ⟨d2, y, z, w⟩ := g d' s'
    exact ⟨d2, y, (s'.tr z.1).inv v, z.2, w⟩
  · refine Or.inr ⟨a, d1, e, fun d' x => ?_⟩
    have s' := s.tr x.sm
    obtain ⟨b, d2, y, z, w⟩ := g d' s'
    exact ⟨b, d2, y, (s'.tr z.1).inv v, z.2, w⟩
theorem AF.ai {d : D9} {c : Option R9} {m : D9 → Option R9} {f : Nat → Int} (v : INV d) (h : AF d c m f) : AI d c m f := by
  rcases h with ⟨a, d1, e, s, g⟩ | ⟨a, d1, e, s, g⟩
  · refine Or.inl ⟨a, d1, e, fun d' x => ?_⟩
    have s' := s.tr x.sm.f
    obtain ⟨d2, y, z, w, w1, w2, w3, w4⟩ := g d' x.sm
    have s2 := s'.tr z
    refine ⟨d2, y, ⟨s2.q v.1, ?_⟩, w, w4⟩
    obtain ⟨i1, i2, i3, i4⟩ := v.2
    have gg : ∀ k, ¬ SCR k → k ≠ 53 → d2 k = d k := s2.1
    have fc : FC d2 := by
      unfold FC
      rw [w2, w3, w1, x 53 (by omega)]
      exact ⟨rfl, rfl⟩
    refine ⟨IM_c i1 (gg _ ?_ ?_) (gg _ ?_ ?_) (gg _ ?_ ?_) (fun k x y => gg _ ?_ ?_), TX_c i2 s2.2.1 s2.2.2.1 s2.2.2.2.1 s2.2.2.2.2 (gg _ ?_ ?_) (gg _ ?_ ?_), fc, TY_c i4 (fun k x y => gg _ ?_ ?_) (fun k x y => gg _ ?_ ?_)⟩
    all_goals first | omega | (unfold SCR; omega)
  · refine Or.inr ⟨a, d1, e, fun d' x => ?_⟩
    have s' := s.tr x.sm
    obtain ⟨b, d2, y, z, w⟩ := g d' s'
    exact ⟨b, d2, y, (s'.tr z.1).inv v, z.2, w⟩
/-- both changed the wall -/
theorem AI.mk {d d1 : D9} {c : Option R9} {m : D9 → Option R9} {f : Nat → Int} (q : INV d) (v : Int) (hc : c = rt v d1) (s : WM d d1) (e : d1 175 = d 175)
    (hm : ∀ d', d' 175 = d 175 → ∃ d2, m d' = rt v d2 ∧ WM d' d2 ∧ d2 194 = d' 194 ∧ (∀ k, 1 ≤ k → k ≤ 37 → d2 k = d' k) ∧ (TK (d2 175) ∧ RW d1 (d2 175)) ∧ d2 174 3 = 0) : AI d c m f := by
  refine Or.inl ⟨v, d1, hc, fun d' x => ?_⟩
  obtain ⟨d2, h1, h2, h3, h4, h5, h6⟩ := hm d' ((x 175 (by omega)).trans e)
  exact ⟨d2, h1, ⟨⟨h5.1, RW_c h5.2 (fun k a b => (h4 k a b).trans (x k (by omega)))⟩, ((s.tr x.sm.wm).tr h2).iv q.2⟩, h3, h6⟩

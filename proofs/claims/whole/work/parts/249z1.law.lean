/-! class and model side by side, over a text -/
def TXX (d e : D9) : Prop := (d 51 1 = e 174 7 ∧ d 51 2 = e 174 15 ∧ d 51 3 = e 174 16) ∧ (0 ≤ e 174 7 ∧ e 174 7 ≤ 400) ∧ ∀ j : Nat, j < 400 → d 52 j = e 178 j ∧ 0 ≤ e 178 j ∧ e 178 j ≤ 255
def JR (d e : D9) : Prop := TK (e 175) ∧ RW d (e 175) ∧ TXX d e
def JP (d e d1 e1 : D9) : Prop := JR d1 e1 ∧ (∀ k, k = 0 ∨ (37 < k ∧ k < 40) ∨ 51 < k → d1 k = d k) ∧ (∀ k, k ≠ 174 → k ≠ 175 → k < 179 ∨ 181 < k → e1 k = e k) ∧ (e1 174 20 = e 174 20 ∧ e1 174 21 = e 174 21) ∧ e1 174 3 = 0
theorem AI.j {d : D9} {c : Option R9} {m : D9 → Option R9} {f : Nat → Int} (v : INV d) (h : ∀ e, JR d e → ∃ x d1 e1, c = rt x d1 ∧ m e = rt x e1 ∧ JP d e d1 e1) : AI d c m f := by
  obtain ⟨x, d1, e1, a1, a2, a3⟩ := h d ⟨v.1.1, v.1.2, v.2.2.1⟩
  refine Or.inl ⟨x, d1, a1, fun d' hx => ?_⟩
  have g : ∀ k, k ≠ 194 → 51 < k → d' k = d k := fun k a b => (hx k a).trans (a3.2.1 k (by omega))
  obtain ⟨x', d1', e2, b1, b2, b3⟩ := h d' (by
    unfold JR TXX
    rw [g 174 (by omega) (by omega), g 175 (by omega) (by omega), g 178 (by omega) (by omega)]
    exact ⟨v.1.1, v.1.2, v.2.2.1⟩)
  obtain ⟨ex, ed⟩ := rt_inj (a1.symm.trans b1)
  subst ex ed
  obtain ⟨⟨k1, k2, k3⟩, f1, f2, f3, f4⟩ := b3
  have q : ∀ k, k ≠ 194 → k ≠ 174 → k ≠ 175 → k < 179 ∨ 181 < k → e2 k = d1 k := fun k a b c e => (f2 k b c e).trans (hx k a)
  have q2 : ∀ k, k ≠ 194 → k ≠ 174 → k ≠ 175 → (k < 179 ∨ 181 < k) → (k = 0 ∨ (37 < k ∧ k < 40) ∨ 51 < k) → e2 k = d k := fun k a b c e i => (q k a b c e).trans (f1 k i)
  obtain ⟨i1, i2, i3, i4⟩ := v.2
  refine ⟨e2, b2, ⟨⟨k1, RW_c k2 (fun k a b => q k (by omega) (by omega) (by omega) (by omega))⟩, IM_c i1 (q2 _ ?_ ?_ ?_ ?_ ?_) (q2 _ ?_ ?_ ?_ ?_ ?_) (q2 _ ?_ ?_ ?_ ?_ ?_) (fun k x y => q2 _ ?_ ?_ ?_ ?_ ?_), ?_, ?_, TY_c i4 (fun k x y => q2 _ ?_ ?_ ?_ ?_ ?_) (fun k x y => q2 _ ?_ ?_ ?_ ?_ ?_)⟩, f2 194 (by omega) (by omega) (by omega), f4⟩
  any_goals omega
  · unfold TX
    rw [q 51 (by omega) (by omega) (by omega) (by omega), q 52 (by omega) (by omega) (by omega) (by omega)]
    exact k3
  · unfold FC
    rw [q2 53 (by omega) (by omega) (by omega) (by omega) (by omega), f3.1, f3.2, g 174 (by omega) (by omega)]
    exact i3
theorem r_begin {d e : D9} {p : Int} (hT : TPE d 52 (e 178)) (hp : 0 ≤ p ∧ p ≤ 400) : ∃ d1 e1, m_X8_begin_51 p d = rt 0 d1 ∧ m_X12_starts_174 p e = rt 0 e1 ∧ OK d1 e1 ∧ (∀ k, k ≠ 51 → d1 k = d k) ∧ d1 51 1 = 0 ∧ (∀ k, k ≠ 174 → e1 k = e k) ∧ (∀ j, j < 7 ∨ 14 < j → e1 174 j = e 174 j) ∧ e1 174 7 = 0 := by
  unfold m_X8_begin_51 m_X12_starts_174
  rw [min9_in (by omega), show min p 400 = p by omega]
  simp only [pf_v]
  generalize hD : up (up (up (up (up d 51 4 p) 51 1 0) 51 5 0) 51 2 0) 51 3 (-1) = D
  generalize hE : up (up (up (up e 174 8 p) 174 7 0) 174 9 0) 174 13 0 = E
  have hd : ∀ k, k ≠ 51 → D k = d k := fun k a => by rw [← hD]; simp (disch := omega) only [up_o]
  have he : ∀ k, k ≠ 174 → E k = e k := fun k a => by rw [← hE]; simp (disch := omega) only [up_o]
  have e1 : D 51 1 = 0 := by rw [← hD]; simp (disch := omega) only [up_us, us_ne, us_eq]
  have e2 : D 51 2 = 0 := by rw [← hD]; simp (disch := omega) only [up_us, us_ne, us_eq]
  have e3 : D 51 3 = -1 := by rw [← hD]; simp (disch := omega) only [up_us, us_ne, us_eq]
  have e4 : D 51 4 = p := by rw [← hD]; simp (disch := omega) only [up_us, us_ne, us_eq]
  have e5 : D 51 5 = 0 := by rw [← hD]; simp (disch := omega) only [up_us, us_ne, us_eq]
  have m7 : E 174 7 = 0 := by rw [← hE]; simp (disch := omega) only [up_us, us_ne, us_eq]
  have m8 : E 174 8 = p := by rw [← hE]; simp (disch := omega) only [up_us, us_ne, us_eq]
  have m9 : E 174 9 = 0 := by rw [← hE]; simp (disch := omega) only [up_us, us_ne, us_eq]
  have m13 : E 174 13 = 0 := by rw [← hE]; simp (disch := omega) only [up_us, us_ne, us_eq]
  have mo : ∀ j, j < 7 ∨ 14 < j → E 174 j = e 174 j := fun j a => by rw [← hE]; simp (disch := omega) only [up_us, us_ne, us_eq]
  have tb : TB D E := ⟨by unfold TPE; rw [hd 52 (by decide), he 178 (by decide)]; exact hT, by rw [e4, m8], by omega, by omega⟩
  obtain ⟨d1, e1', a1, a2, a3, a4, a5, a6⟩ := r_next tb (by rw [e5, m9]) (by omega) (by omega)
  refine ⟨d1, e1', by rw [a1, cl_rt], by rw [a2, cl_rt], ⟨⟨a5, (a3.2 3 (by omega)).trans e3⟩, (a3.2 2 (by omega)).trans e2, (a4.2 13 (by omega)).trans m13⟩, fun k a => (a3.1 k a).trans (hd k a), (a3.2 1 (by omega)).trans e1, fun k a => (a4.1 k a).trans (he k a), fun j a => (a4.2 j (by omega)).trans (mo j a), (a4.2 7 (by omega)).trans m7⟩
theorem p_ends {e : D9} {k : Int} (hb : -1000 ≤ e 174 13 ∧ e 174 13 ≤ 1000) : m_X12_ends_174 k e = rt (if e 174 13 = 0 then k else -10 - e 174 13) (up (up e 174 15 (e 174 13)) 174 16 (if e 174 13 = 0 then -1 else e 174 14)) := by
  unfold m_X12_ends_174 m_X12_ends_174_c24
  rw [pf_v, pf_v, pf_v]
  simp (disch := omega) only [up_us, us_ne, us_eq]
  rw [wi (x := e 174 13) (by omega)]
  by_cases c : e 174 13 = 0
  · rw [if_neg (fun g => g c), if_neg (fun g => g c), if_pos c, if_pos c]
  · rw [if_pos c, if_pos c, if_neg c, if_neg c]
/-- a text has a fault: both leave all as it was -/
theorem j_fault {d e d1 e1 : D9} (j : JR d e) (hd : ∀ k, k < 40 ∨ 51 < k → d1 k = d k) (h1 : d1 51 1 = 0) (he : ∀ k, k ≠ 174 → k < 179 ∨ 181 < k → e1 k = e k) (h7 : e1 174 7 = 0) (h20 : e1 174 20 = e 174 20 ∧ e1 174 21 = e 174 21) (h3 : e1 174 3 = 0) (b : BD d1 e1) : JP d e d1 (up (up e1 174 15 (e1 174 13)) 174 16 (if e1 174 13 = 0 then -1 else e1 174 14)) := by
  obtain ⟨j1, j2, j3, j4, j5⟩ := j
  obtain ⟨b1, b2, b3⟩ := b
  rw [if_neg (by omega)]
  refine ⟨⟨?_, ?_, ⟨?_, ?_, ?_⟩, ?_, ?_⟩, fun k a => hd k (by omega), fun k a b c => ?_, ⟨?_, ?_⟩, ?_⟩
  · simp (disch := omega) only [up_o]; rw [he 175 (by omega) (by omega)]; exact j1
  · simp (disch := omega) only [up_o]; rw [he 175 (by omega) (by omega)]; exact RW_c j2 (fun k a b => hd k (by omega))
  · simp (disch := omega) only [up_us, us_ne, us_eq]; rw [h1, h7]
  · simp (disch := omega) only [up_us, us_ne, us_eq]; exact b1
  · simp (disch := omega) only [up_us, us_ne, us_eq]; exact b3
  · simp (disch := omega) only [up_us, us_ne, us_eq]; omega
  · simp (disch := omega) only [up_o]; rw [he 178 (by omega) (by omega), hd 52 (by omega)]; exact j5
  · simp (disch := omega) only [up_o]; exact he k a c
  · simp (disch := omega) only [up_us, us_ne, us_eq]; exact h20.1
  · simp (disch := omega) only [up_us, us_ne, us_eq]; exact h20.2
  · simp (disch := omega) only [up_us, us_ne, us_eq]; exact h3
/-- a text has none: class wall and what is told have changed alike -/
theorem j_good {d e d1 e1 d2 e2 : D9} (j : JR d e) (hd : ∀ k, k < 40 ∨ 51 < k → d1 k = d k) (h1 : d1 51 1 = 0) (he : ∀ k, k ≠ 174 → k < 179 ∨ 181 < k → e1 k = e k) (h7 : e1 174 7 = 0) (h20 : e1 174 20 = e 174 20 ∧ e1 174 21 = e 174 21) (h3 : e1 174 3 = 0) (o : OK d1 e1)
    (hd2 : ∀ k, k < 1 ∨ 37 < k → d2 k = d1 k) (he2 : ∀ k, k ≠ 175 → e2 k = e1 k) (hT : TK (e2 175)) (hR : RW d2 (e2 175)) : JP d e d2 (up (up e2 174 15 (e2 174 13)) 174 16 (if e2 174 13 = 0 then -1 else e2 174 14)) := by
  obtain ⟨j1, j2, j3, j4, j5⟩ := j
  have o13 : e2 174 13 = 0 := by rw [he2 174 (by decide)]; exact o.2.2
  rw [if_pos o13, o13]
  refine ⟨⟨?_, ?_, ⟨?_, ?_, ?_⟩, ?_, ?_⟩, fun k a => (hd2 k (by omega)).trans (hd k (by omega)), fun k a b c => ?_, ⟨?_, ?_⟩, ?_⟩
  · simp (disch := omega) only [up_o]; exact hT
  · simp (disch := omega) only [up_o]; exact hR
  · simp (disch := omega) only [up_us, us_ne, us_eq]; rw [hd2 51 (by omega), he2 174 (by omega), h1, h7]
  · simp (disch := omega) only [up_us, us_ne, us_eq]; rw [hd2 51 (by omega)]; exact o.2.1
  · simp (disch := omega) only [up_us, us_ne, us_eq]; rw [hd2 51 (by omega)]; exact o.1.2
  · simp (disch := omega) only [up_us, us_ne, us_eq]; rw [he2 174 (by omega)]; omega
  · simp (disch := omega) only [up_o]; rw [he2 178 (by omega), he 178 (by omega) (by omega), hd2 52 (by omega), hd 52 (by omega)]; exact j5
  · simp (disch := omega) only [up_o]; rw [he2 k b]; exact he k a c
  · simp (disch := omega) only [up_us, us_ne, us_eq]; rw [he2 174 (by omega)]; exact h20.1
  · simp (disch := omega) only [up_us, us_ne, us_eq]; rw [he2 174 (by omega)]; exact h20.2
  · simp (disch := omega) only [up_us, us_ne, us_eq]; rw [he2 174 (by omega)]; exact h3
theorem p_lawCopy {k : Int} {e : D9} (hk : 0 ≤ k ∧ k ≤ 12) : ∃ e1, m_X12_law_174_c70 k 0 e = m_X12_law_174_c104 k (up e1 175 4 k) ∧ CPY e e1 175 6 (fun i => e 179 i.toNat) 7 := by
  have z := fix_fu (z := fun _ _ _ => none) (B := fun k => b_X12_law_174_c70 k) (fun kk i (s : D9) => kk k i s) 0 7 (fun i s => up s 175 (6 + i).toNat (e 179 i.toNat)) (fun i s => 0 ≤ i ∧ CPY e s 175 6 (fun i => e 179 i.toNat) i) (fun s => m_X12_law_174_c104 k (up s 175 4 k)) e (by omega) ⟨by omega, CPY.z _ _ _ _⟩ ?_ ?_
  · exact ⟨_, z.2, z.1.2⟩
  · intro kk s hI
    simp only [b_X12_law_174_c70]
    rw [if_pos (Int.le_refl _), sd_in (by omega)]
    rfl
  · intro kk i s hi hI
    refine ⟨⟨by omega, hI.2.st (by omega)⟩, ?_⟩
    simp only [b_X12_law_174_c70]
    rw [w32_id (by omega), w32_id (by omega), if_neg (by omega), ld_in (by omega), sd_in (by omega), hI.2.1 179 (by omega)]

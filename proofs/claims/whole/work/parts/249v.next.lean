/-! class and model at the same token -/
def GT (d d1 : D9) : Prop := (∀ k, k ≠ 51 → d1 k = d k) ∧ ∀ j, j < 5 ∨ 8 < j → d1 51 j = d 51 j
def GM (e e1 : D9) : Prop := (∀ k, k ≠ 174 → e1 k = e k) ∧ ∀ j, j < 9 ∨ 12 < j → e1 174 j = e 174 j
theorem GT.rf (d : D9) : GT d d := ⟨fun _ _ => rfl, fun _ _ => rfl⟩
theorem GM.rf (d : D9) : GM d d := ⟨fun _ _ => rfl, fun _ _ => rfl⟩
theorem GT.u {d d1 : D9} {j : Nat} {v : Int} (h : GT d d1) (hj : 5 ≤ j ∧ j ≤ 8) : GT d (up d1 51 j v) := ⟨fun k a => by rw [up_o a]; exact h.1 k a, fun i a => by rw [up_us, us_ne (by omega)]; exact h.2 i a⟩
theorem GM.u {d d1 : D9} {j : Nat} {v : Int} (h : GM d d1) (hj : 9 ≤ j ∧ j ≤ 12) : GM d (up d1 174 j v) := ⟨fun k a => by rw [up_o a]; exact h.1 k a, fun i a => by rw [up_us, us_ne (by omega)]; exact h.2 i a⟩
def TR (d e : D9) : Prop := (d 51 7 = 1 ∧ e 174 11 = 0) ∨ (d 51 6 < d 51 5 ∧ ((d 51 7 = 2 ∧ e 174 11 = 1 ∧ d 51 8 = wxn (sub9 (e 178) (d 51 5 - d 51 6).toNat (d 51 6))) ∨ (d 51 7 = 3 ∧ e 174 11 = 2 ∧ d 51 8 = e 174 12 ∧ 0 ≤ e 174 12 ∧ e 174 12 ≤ 999) ∨ (d 51 7 = 0 ∧ e 174 11 = 4) ∨ (d 51 7 = 59 ∧ e 174 11 = 3) ∨ (d 51 7 = 40 ∧ e 174 11 = 5) ∨ (d 51 7 = 41 ∧ e 174 11 = 6)))
def TB (d e : D9) : Prop := TPE d 52 (e 178) ∧ d 51 4 = e 174 8 ∧ 0 ≤ e 174 8 ∧ e 174 8 ≤ 400
def PS (d e : D9) : Prop := TB d e ∧ (d 51 5 = e 174 9 ∧ d 51 6 = e 174 10 ∧ 0 ≤ d 51 6 ∧ d 51 6 ≤ d 51 5 ∧ d 51 5 ≤ d 51 4) ∧ TR d e
theorem TB.g {d e d1 e1 : D9} (h : TB d e) (g : GT d d1) (m : GM e e1) : TB d1 e1 := by
  unfold TB TPE
  rw [g.1 52 (by decide), m.1 178 (by decide), g.2 4 (by omega), m.2 8 (by omega)]
  exact h
theorem PS.mk {d e d1 e1 : D9} {s b a : Int} (h : TB d e) (ea : d 51 5 = a) (ha : 0 ≤ a) (g : GT d d1) (m : GM e e1) (f5 : d1 51 5 = b) (f9 : e1 174 9 = b) (f6 : d1 51 6 = s) (f10 : e1 174 10 = s) (hs : a ≤ s ∧ s ≤ b ∧ b ≤ e 174 8) (t : TR d1 e1) : GT d d1 ∧ GM e e1 ∧ PS d1 e1 ∧ a ≤ d1 51 6 := by
  refine ⟨g, m, ⟨h.g g m, ⟨by omega, by omega, by omega, by omega, ?_⟩, t⟩, by omega⟩
  rw [g.2 4 (by omega), h.2.1]; omega
theorem SC.pos {P : Int → Bool} {T : Nat → Int} {n a b : Int} (h : SC P T n a b) (ha : a < n) (hp : P (T a.toNat) = true) : a < b := by
  have h1 := h.1
  by_cases c : a = b
  · have := h.2.2 (by omega)
    rw [← c, hp] at this
    cases this
  · omega
theorem r_next {d e : D9} (h : TB d e) (h9 : d 51 5 = e 174 9) (h0 : 0 ≤ d 51 5) (hn : d 51 5 ≤ e 174 8) : ∃ d1 e1, m_X8_advance_51 d = rt 0 d1 ∧ m_X12_next_174 e = rt 0 e1 ∧ GT d d1 ∧ GM e e1 ∧ PS d1 e1 ∧ d 51 5 ≤ d1 51 6 := by
  obtain ⟨hT, e4, n0, n4⟩ := h
  have hTe : TPE e 178 (e 178) := fun j hj => ⟨rfl, (hT j hj).2⟩
  generalize hT' : e 178 = T at hT hTe
  generalize hn' : e 174 8 = n at e4 n0 n4 hn
  generalize ha' : d 51 5 = a at h9 h0 hn
  obtain ⟨s, hs⟩ := SC_ex blk T n (n - a).toNat a (by omega)
  have hs1 := hs.1
  have hB : TB d e := ⟨by rw [hT']; exact hT, by rw [hn']; exact e4, by omega, by omega⟩
  have hC : m_X8_advance_51 d = m_X8_advance_51_c60 (up d 51 6 s) := by
    unfold m_X8_advance_51
    rw [pf_v, ha']
    exact q_blank hT e4 n4 h0 hs
  have hM : m_X12_next_174 e = m_X12_next_174_c52 (up e 174 9 s) := by
    unfold m_X12_next_174
    rw [← p_blank hTe hn' n4 h0 hs, h9, up_self]
  rw [hC, hM]
  unfold m_X8_advance_51_c60 m_X12_next_174_c52
  rw [pf_v (up d 51 6 s), pf_v (up e 174 9 s), show up d 51 6 s 51 6 = s from up_same _ _ _ _, show up e 174 9 s 174 9 = s from up_same _ _ _ _]
  generalize hD : up (up d 51 6 s) 51 5 s = D
  generalize hE : up (up e 174 9 s) 174 10 s = E
  have gD : GT d D := by rw [← hD]; exact ((GT.rf d).u (by omega)).u (by omega)
  have gE : GM e E := by rw [← hE]; exact ((GM.rf e).u (by omega)).u (by omega)
  have D4 : D 51 4 = n := (gD.2 4 (by omega)).trans e4
  have D5 : D 51 5 = s := by rw [← hD]; simp (disch := omega) only [up_us, us_ne, us_eq]
  have D6 : D 51 6 = s := by rw [← hD]; simp (disch := omega) only [up_us, us_ne, us_eq]
  have E8 : E 174 8 = n := (gE.2 8 (by omega)).trans hn'
  have E9 : E 174 9 = s := by rw [← hE]; simp (disch := omega) only [up_us, us_ne, us_eq]
  have E10 : E 174 10 = s := by rw [← hE]; simp (disch := omega) only [up_us, us_ne, us_eq]
  have DT : TPE D 52 T := by unfold TPE; rw [gD.1 52 (by decide)]; exact hT
  have ET : TPE E 178 T := by unfold TPE; rw [gE.1 178 (by decide)]; exact hTe
  have ET' : E 178 = T := (gE.1 178 (by decide)).trans hT'
  have Dr : up D 51 5 s = D := by rw [← D5, up_self]
  have Er : up E 174 9 s = E := by rw [← E9, up_self]
  rw [D4, D6, E8, E9, wi (x := s) (by omega), wi (x := n) (by omega)]
  by_cases c : s < n
  · have t := hT s.toNat (by omega)
    rw [if_pos c, if_pos c, ld_in (by omega), ld_in (by omega), (DT s.toNat (by omega)).1, (ET s.toNat (by omega)).1, q_ltr t.2, p_ltr t.2, cl_rt, cl_rt]
    cases hl : ltr (T s.toNat) with
    | true =>
      rw [w32_bt, if_neg ne10, if_neg ne10]
      obtain ⟨b, hb⟩ := SC_ex ltr T n (n - s).toNat s (by omega)
      have hp := hb.pos c hl
      have hb1 := hb.1
      have h1 := q_letters DT D4 n4 (by omega) hb
      have h2 := p_letters ET E8 n4 (by omega) hb
      rw [Dr] at h1
      rw [Er] at h2
      rw [h1, h2]
      unfold m_X8_advance_51_c141
      rw [pf_v, q_wordNumber (d := up (up D 51 5 b) 51 7 2) (T := T) (s := s) (b := b) (n := n) (by unfold TPE; rw [up_o (by decide), up_o (by decide)]; exact DT) (by simp (disch := omega) only [up_us, us_ne, us_eq, D4]) (by simp (disch := omega) only [up_us, us_ne, us_eq]) (by simp (disch := omega) only [up_us, us_ne, us_eq, D6]) (by omega), cl_rt, pf_v]
      refine ⟨_, _, rfl, rfl, PS.mk hB ha' (by omega) (((gD.u (by omega)).u (by omega)).u (by omega)) ((gE.u (by omega)).u (by omega)) (s := s) (b := b) ?_ ?_ ?_ ?_ (by omega) (Or.inr ⟨?_, Or.inl ⟨?_, ?_, ?_⟩⟩)⟩
      all_goals simp (disch := omega) only [up_us, up_o, us_ne, us_eq, D6, E10, ET']
      omega
    | false =>
      rw [w32_bf, if_pos rfl, if_pos rfl, D6, ld_in (by omega), (DT s.toNat (by omega)).1, q_dgt t.2, p_dgt t.2, cl_rt, cl_rt]
      cases hd : dgt (T s.toNat) with
      | true =>
        rw [w32_bt, if_neg ne10, if_neg ne10]
        obtain ⟨b, hb⟩ := SC_ex dgt T n (n - s).toNat s (by omega)
        have hp := hb.pos c hd
        have hb1 := hb.1
        have h1 := q_digits DT D4 n4 (by omega) hb
        have h2 := p_digits ET E8 E10 n4 (by omega) hb
        rw [Dr] at h1
        rw [show up (up E 174 12 0) 174 9 s = up E 174 12 0 from by
          have : up E 174 12 0 174 9 = s := by rw [up_us, us_ne (by decide)]; exact E9
          rw [← this, up_self]] at h2
        have dec := fun z : Int => q_decimal (d := up (up D 51 5 b) 51 7 z) (T := T) (s := s) (b := b) (n := n) (by unfold TPE; rw [up_o (by decide), up_o (by decide)]; exact DT) (by simp (disch := omega) only [up_us, us_ne, us_eq]) (by simp (disch := omega) only [up_us, us_ne, us_eq, D6]) (by omega) (by omega) hb
        have h230 : ∀ z, m_X8_advance_51_c230 z (up D 51 5 b) = rt 0 (up (up (up D 51 5 b) 51 7 z) 51 8 (fo (dgv T s) (b - s).toNat s 0)) := fun z => by
          unfold m_X8_advance_51_c230
          rw [pf_v, (dec z).2, cl_rt, pf_v]
        have h211 : m_X8_advance_51_c211 (up D 51 5 b) = rt 0 (up (up (up D 51 5 b) 51 7 (if b - s ≤ 3 then 3 else 0)) 51 8 (fo (dgv T s) (b - s).toNat s 0)) := by
          unfold m_X8_advance_51_c211
          simp (disch := omega) only [up_us, us_ne, us_eq, D6]
          rw [wi (x := 3) (by omega), wi (x := b - s) (by omega), h230, h230]
          by_cases q : b - s ≤ 3
          · rw [if_neg (by omega), if_pos q]
          · rw [if_pos (by omega), if_neg q]
        have h0' := (dec 0).1
        rw [h1, h211, pf_v, h2]
        generalize hv : fo (dgv T s) (b - s).toNat s 0 = v at h0'
        refine ⟨_, _, rfl, rfl, PS.mk hB ha' (by omega) (((gD.u (by omega)).u (by omega)).u (by omega)) (((gE.u (by omega)).u (by omega)).u (by omega)) (s := s) (b := b) ?_ ?_ ?_ ?_ (by omega) (Or.inr ?_)⟩
        · simp (disch := omega) only [up_us, us_ne, us_eq]
        · simp (disch := omega) only [up_us, us_ne, us_eq]
        · simp (disch := omega) only [up_us, us_ne, us_eq, D6]
        · simp (disch := omega) only [up_us, us_ne, us_eq, E10]
        · simp (disch := omega) only [up_us, up_o, us_ne, us_eq, D6, E10]
          refine ⟨hp, ?_⟩
          by_cases q : b - s ≤ 3
          · rw [if_pos q, if_pos q]
            exact Or.inr (Or.inl ⟨rfl, rfl, trivial, h0'⟩)
          · rw [if_neg q, if_neg q]
            exact Or.inr (Or.inr (Or.inl ⟨rfl, rfl⟩))
      | false =>
        rw [w32_bf, if_pos rfl, if_pos rfl, D6, ld_in (by omega), (DT s.toNat (by omega)).1, pf_v, wi (x := T s.toNat) (by omega), wi (x := 59) (by omega), wi (x := 40) (by omega), wi (x := 41) (by omega)]
        simp only [pf_v]
        have fin : ∀ x y : Int, ((x = 0 ∧ y = 4) ∨ (x = 59 ∧ y = 3) ∨ (x = 40 ∧ y = 5) ∨ (x = 41 ∧ y = 6)) → ∃ d1 e1, rt 0 (up (up D 51 5 (D 51 5 + 1)) 51 7 x) = rt 0 d1 ∧ rt 0 (up (up E 174 11 y) 174 9 (up E 174 11 y 174 9 + 1)) = rt 0 e1 ∧ GT d d1 ∧ GM e e1 ∧ PS d1 e1 ∧ a ≤ d1 51 6 := fun x y hxy => by
          refine ⟨_, _, rfl, rfl, PS.mk hB ha' (by omega) ((gD.u (by omega)).u (by omega)) ((gE.u (by omega)).u (by omega)) (s := s) (b := s + 1) ?_ ?_ ?_ ?_ (by omega) (Or.inr ⟨?_, Or.inr (Or.inr ?_)⟩)⟩
          all_goals simp (disch := omega) only [up_us, us_ne, us_eq, D5, D6, E9, E10]
          · omega
          · exact hxy
        by_cases q1 : T s.toNat = 59
        · rw [if_pos q1, if_neg (fun g => g q1), q1]
          exact fin 59 3 (by omega)
        · rw [if_neg q1, if_pos q1]
          by_cases q2 : T s.toNat = 40
          · rw [if_pos q2, if_neg (fun g => g q2), q2]
            exact fin 40 5 (by omega)
          · rw [if_neg q2, if_pos q2]
            by_cases q3 : T s.toNat = 41
            · rw [if_neg (fun g => g q3), if_neg (fun g => g q3), q3]
              exact fin 41 6 (by omega)
            · rw [if_pos q3, if_pos q3]
              exact fin 0 4 (by omega)
  · rw [if_neg c, if_neg c, pf_v, pf_v]
    refine ⟨_, _, rfl, rfl, PS.mk hB ha' (by omega) (gD.u (by omega)) (gE.u (by omega)) (s := s) (b := s) ?_ ?_ ?_ ?_ (by omega) (Or.inl ⟨?_, ?_⟩)⟩
    all_goals simp (disch := omega) only [up_us, us_ne, us_eq, D5, D6, E9, E10]

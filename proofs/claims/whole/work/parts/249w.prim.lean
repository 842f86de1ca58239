/-! what both do at a token -/
def FT (d d1 : D9) : Prop := (∀ k, k ≠ 51 → d1 k = d k) ∧ ∀ j, j < 2 ∨ j = 4 ∨ 8 < j → d1 51 j = d 51 j
def FM (e e1 : D9) : Prop := (∀ k, k ≠ 174 → e1 k = e k) ∧ ∀ j, j < 9 ∨ 14 < j → e1 174 j = e 174 j
theorem FT.rf (d : D9) : FT d d := ⟨fun _ _ => rfl, fun _ _ => rfl⟩
theorem FM.rf (d : D9) : FM d d := ⟨fun _ _ => rfl, fun _ _ => rfl⟩
theorem FT.tr {a b c : D9} (x : FT a b) (y : FT b c) : FT a c := ⟨fun k h => (y.1 k h).trans (x.1 k h), fun j h => (y.2 j h).trans (x.2 j h)⟩
theorem FM.tr {a b c : D9} (x : FM a b) (y : FM b c) : FM a c := ⟨fun k h => (y.1 k h).trans (x.1 k h), fun j h => (y.2 j h).trans (x.2 j h)⟩
theorem GT.ft {d d1 : D9} (h : GT d d1) : FT d d1 := ⟨h.1, fun j a => h.2 j (by omega)⟩
theorem GM.fm {d d1 : D9} (h : GM d d1) : FM d d1 := ⟨h.1, fun j a => h.2 j (by omega)⟩
def OK (d e : D9) : Prop := (PS d e ∧ d 51 3 = -1) ∧ d 51 2 = 0 ∧ e 174 13 = 0
def BD (d e : D9) : Prop := d 51 2 = e 174 13 ∧ (1 ≤ e 174 13 ∧ e 174 13 ≤ 5) ∧ d 51 3 = e 174 14
def LV (d e : D9) : Prop := OK d e ∨ BD d e
def NX (c : Int) (d e d1 e1 : D9) : Prop := FT d d1 ∧ FM e e1 ∧ LV d1 e1 ∧ (d1 51 2 = 0 → d 51 2 = 0 ∧ d 51 6 + c ≤ d1 51 6)
theorem NX.tr {a b : Int} {d e d1 e1 d2 e2 : D9} (x : NX a d e d1 e1) (y : NX b d1 e1 d2 e2) : NX (a + b) d e d2 e2 :=
  ⟨x.1.tr y.1, x.2.1.tr y.2.1, y.2.2.1, fun h => by have p := y.2.2.2 h; have q := x.2.2.2 p.1; exact ⟨q.1, by omega⟩⟩
theorem NX.le {a b : Int} {d e d1 e1 : D9} (x : NX a d e d1 e1) (h : b ≤ a) : NX b d e d1 e1 :=
  ⟨x.1, x.2.1, x.2.2.1, fun g => ⟨(x.2.2.2 g).1, by have := (x.2.2.2 g).2; omega⟩⟩
theorem NX.bad {c : Int} {d e d1 e1 : D9} (x : FT d d1) (y : FM e e1) (h : BD d1 e1) : NX c d e d1 e1 :=
  ⟨x, y, Or.inr h, fun g => by have := h.1; have := h.2.1; omega⟩
theorem NX.bd {c : Int} {d e : D9} (h : BD d e) : NX c d e d e := NX.bad (FT.rf d) (FM.rf e) h
theorem NX.bok {c : Int} {d e d1 e1 : D9} (x : NX c d e d1 e1) (h : BD d e) : BD d1 e1 := by
  rcases x.2.2.1 with g | g
  · have := (x.2.2.2 g.2.1).1
    have := h.1
    have := h.2.1
    omega
  · exact g
theorem OK.t {d e : D9} (h : OK d e) : (0 ≤ d 51 7 ∧ d 51 7 ≤ 59) ∧ (0 ≤ e 174 11 ∧ e 174 11 ≤ 6) ∧ (d 51 7 = 0 ↔ e 174 11 = 4) ∧ (d 51 7 = 1 ↔ e 174 11 = 0) ∧ (d 51 7 = 2 ↔ e 174 11 = 1) ∧ (d 51 7 = 3 ↔ e 174 11 = 2) ∧ (d 51 7 = 59 ↔ e 174 11 = 3) ∧ (d 51 7 = 40 ↔ e 174 11 = 5) ∧ (d 51 7 = 41 ↔ e 174 11 = 6) := by
  have t := h.1.1.2.2
  rcases t with t | ⟨_, t | t | t | t | t | t⟩ <;> omega
theorem OK.w {d e : D9} (h : OK d e) (g : d 51 7 = 2) : d 51 8 = wxn (sub9 (e 178) (d 51 5 - d 51 6).toNat (d 51 6)) := by
  have t := h.1.1.2.2
  rcases t with t | ⟨_, t | t | t | t | t | t⟩ <;> first | exact t.2.2 | omega
theorem OK.wr {d e : D9} (h : OK d e) (g : d 51 7 = 2) : -1 ≤ d 51 8 ∧ d 51 8 ≤ 24 := by
  rw [h.w g]; exact wxn_rng _
theorem OK.n {d e : D9} (h : OK d e) (g : d 51 7 = 3) : d 51 8 = e 174 12 ∧ 0 ≤ e 174 12 ∧ e 174 12 ≤ 999 := by
  have t := h.1.1.2.2
  rcases t with t | ⟨_, t | t | t | t | t | t⟩ <;> first | exact t.2.2 | omega
theorem OK.p {d e : D9} (h : OK d e) (g : d 51 7 ≠ 1) : d 51 6 < d 51 5 := by
  have t := h.1.1.2.2
  rcases t with t | ⟨t, _⟩
  · omega
  · exact t
theorem r_adv {d e : D9} (h : OK d e) (h7 : d 51 7 ≠ 1) : ∃ d1 e1, m_X8_advance_51 d = rt 0 d1 ∧ m_X12_next_174 e = rt 0 e1 ∧ NX 1 d e d1 e1 ∧ OK d1 e1 := by
  obtain ⟨⟨⟨hB, ⟨p1, p2, p3, p4, p5⟩, _⟩, o3⟩, o1, o2⟩ := id h
  have hp := h.p h7
  obtain ⟨d1, e1, a1, a2, a3, a4, a5, a6⟩ := r_next hB p1 (by omega) (by have := hB.2.1; omega)
  have ho : OK d1 e1 := ⟨⟨a5, (a3.2 3 (by omega)).trans o3⟩, (a3.2 2 (by omega)).trans o1, (a4.2 13 (by omega)).trans o2⟩
  exact ⟨d1, e1, a1, a2, ⟨a3.ft, a4.fm, Or.inl ho, fun _ => ⟨o1, by omega⟩⟩, ho⟩
theorem bd_mk {d e : D9} {k : Int} (h : OK d e) (hk : 1 ≤ k ∧ k ≤ 5) : FT d (up (up d 51 2 k) 51 3 (d 51 6)) ∧ FM e (up (up e 174 13 k) 174 14 (e 174 10)) ∧ BD (up (up d 51 2 k) 51 3 (d 51 6)) (up (up e 174 13 k) 174 14 (e 174 10)) := by
  refine ⟨⟨fun k a => by rw [up_o a, up_o a], fun j a => by rw [up_us, us_ne (by omega), up_us, us_ne (by omega)]⟩, ⟨fun k a => by rw [up_o a, up_o a], fun j a => by rw [up_us, us_ne (by omega), up_us, us_ne (by omega)]⟩, ?_, ?_, ?_⟩
  · simp (disch := omega) only [up_us, us_ne, us_eq]
  · simp (disch := omega) only [up_us, us_ne, us_eq]; omega
  · simp (disch := omega) only [up_us, us_ne, us_eq]; exact h.1.1.2.1.2.1
theorem q_fail0 {d : D9} {k : Int} (h : d 51 2 = 0) : m_X8_fail_51 k d = rt 0 (up (up d 51 2 k) 51 3 (d 51 6)) := by
  unfold m_X8_fail_51
  rw [h, if_neg (by decide), pf_v, pf_v, up_us, us_ne (by decide)]
theorem p_blame0 {e : D9} {k : Int} (h : e 174 13 = 0) (h11 : 0 ≤ e 174 11 ∧ e 174 11 ≤ 6) : m_X12_blames_174 k e = rt 0 (up (up e 174 13 (if e 174 11 = 4 then 1 else k)) 174 14 (e 174 10)) := by
  unfold m_X12_blames_174
  rw [h, if_pos (by decide), wi (x := e 174 11) (by omega), wi (x := 4) (by omega)]
  by_cases c : e 174 11 = 4
  · rw [if_neg (fun g => g c), if_pos c, pf_v, pf_v, up_us, us_ne (by decide)]
  · rw [if_pos c, if_neg c, pf_v, pf_v, up_us, us_ne (by decide)]
theorem r_fail {d e : D9} {k : Int} (h : OK d e) (hk : 1 ≤ k ∧ k ≤ 5) (h7 : d 51 7 ≠ 0) : ∃ d1 e1, m_X8_fail_51 k d = rt 0 d1 ∧ m_X12_blames_174 k e = rt 0 e1 ∧ FT d d1 ∧ FM e e1 ∧ BD d1 e1 := by
  have t := h.t
  refine ⟨_, _, q_fail0 h.2.1, ?_, bd_mk h hk⟩
  rw [p_blame0 h.2.2 t.2.1, if_neg (by omega)]
theorem r_refuse {d e : D9} (h : OK d e) : ∃ d1 e1, m_X8_refuse_51 d = rt 0 d1 ∧ m_X12_blames_174 2 e = rt 0 e1 ∧ FT d d1 ∧ FM e e1 ∧ BD d1 e1 := by
  have t := h.t
  unfold m_X8_refuse_51 m_X8_refuse_51_c13
  rw [p_blame0 h.2.2 t.2.1, q_fail0 h.2.1, q_fail0 h.2.1, cl_rt, cl_rt, wi (x := d 51 7) (by omega)]
  by_cases c : d 51 7 = 0
  · rw [if_neg (fun g => g c), if_pos (by omega)]
    exact ⟨_, _, rfl, rfl, bd_mk h (by omega)⟩
  · rw [if_pos c, if_neg (by omega)]
    exact ⟨_, _, rfl, rfl, bd_mk h (by omega)⟩
/-! behind a fault -/
theorem BD.c {d e : D9} (h : BD d e) : w32 (d 51 2) ≠ 0 := by
  have := h.1; have := h.2.1
  rw [wi (by omega)]; omega
theorem BD.m {d e : D9} (h : BD d e) : w32 (e 174 13) ≠ 0 := by
  have := h.2.1
  rw [wi (by omega)]; omega
theorem z_fail {d : D9} {k : Int} (h : w32 (d 51 2) ≠ 0) : m_X8_fail_51 k d = rt 0 d := by
  unfold m_X8_fail_51; rw [if_pos h]
theorem z_refuse {d : D9} (h : w32 (d 51 2) ≠ 0) : m_X8_refuse_51 d = rt 0 d := by
  unfold m_X8_refuse_51 m_X8_refuse_51_c13
  rw [z_fail h, z_fail h, cl_rt, ite_self]
theorem z_isWord {d : D9} {k : Int} (h : w32 (d 51 2) ≠ 0) : m_X8_isWord_51 k d = rt 0 d := by
  unfold m_X8_isWord_51; rw [if_pos h]; rfl
theorem z_takeWord {d : D9} {k : Int} (h : w32 (d 51 2) ≠ 0) : m_X8_takeWord_51 k d = rt 0 d := by
  unfold m_X8_takeWord_51; rw [z_isWord h, cl_rt, if_pos (show w32 0 = 0 from rfl)]; rfl
theorem z_needWord {d : D9} {k : Int} (h : w32 (d 51 2) ≠ 0) : m_X8_needWord_51 k d = rt 0 d := by
  unfold m_X8_needWord_51; rw [z_takeWord h, cl_rt, if_neg (by decide), z_refuse h, cl_rt]
theorem z_isSign {d : D9} {k : Int} (h : w32 (d 51 2) ≠ 0) : m_X8_isSign_51 k d = rt 0 d := by
  unfold m_X8_isSign_51; rw [if_pos h]; rfl
theorem z_needSign {d : D9} {k : Int} (h : w32 (d 51 2) ≠ 0) : m_X8_needSign_51 k d = rt 0 d := by
  unfold m_X8_needSign_51; rw [z_isSign h, cl_rt, if_pos (show w32 0 = 0 from rfl), z_refuse h, cl_rt]
theorem z_wordAmong {d : D9} {a b : Int} (h : w32 (d 51 2) ≠ 0) : m_X8_wordAmong_51 a b d = rt (-1) d := by
  unfold m_X8_wordAmong_51 m_X8_wordAmong_51_c42; rw [if_pos h, z_refuse h, cl_rt]
theorem z_number {d : D9} {a b : Int} (h : w32 (d 51 2) ≠ 0) : m_X8_number_51 a b d = rt a d := by
  unfold m_X8_number_51; rw [if_neg h]
theorem z_blames {e : D9} {k : Int} (h : w32 (e 174 13) ≠ 0) : m_X12_blames_174 k e = rt 0 e := by
  unfold m_X12_blames_174; rw [if_neg h]
theorem z_stop {e : D9} (h : w32 (e 174 13) ≠ 0) : m_X12_stop_174 e = rt 0 e := by
  unfold m_X12_stop_174 m_X12_stop_174_c20; rw [if_pos h, if_pos h]
theorem z_puts {e : D9} {k : Int} (h : w32 (e 174 13) ≠ 0) : m_X12_puts_174 k e = rt 0 e := by
  unfold m_X12_puts_174; rw [if_neg h]
theorem z_num {e : D9} {a b : Int} (h : w32 (e 174 13) ≠ 0) (ha : I32 a) (hb : I32 b) : m_X12_number_174 a b e = rt a e := by
  have h3 : m_X12_number_174_c36 a e = rt a e := by
    unfold m_X12_number_174_c36 m_X12_number_174_c52
    rw [lt_v, if_pos h, if_pos h]
  have r := w32_rng (e 174 12)
  unfold m_X12_number_174
  rw [w32_id ha, w32_id hb, p_within ⟨by omega, ha, hb⟩, cl_rt, z_blames h, z_blames h, cl_rt, h3, ite_self, ite_self]
/-! numbers, stops, words -/
theorem r_num {d e : D9} {lo hi : Int} (h : LV d e) (hb : 0 ≤ lo ∧ lo ≤ hi ∧ hi ≤ 999) : ∃ v d1 e1, m_X8_number_51 lo hi d = rt v d1 ∧ m_X12_number_174 lo hi e = rt v e1 ∧ NX 1 d e d1 e1 ∧ lo ≤ v ∧ v ≤ hi := by
  rcases h with h | h
  · have t := h.t
    have c36b : ∀ {e1 : D9}, w32 (e1 174 13) ≠ 0 → m_X12_number_174_c36 lo e1 = rt lo e1 := fun g => by
      unfold m_X12_number_174_c36 m_X12_number_174_c52
      rw [lt_v, if_pos g, if_pos g]
    have hC : ∀ b c : Option R9, m_X8_number_51_c39 lo d = b → (cl (m_X8_refuse_51 d) (fun r4 d5 => rt lo d5)) = c → m_X8_number_51 lo hi d = if d 51 7 = 3 then (if lo ≤ d 51 8 ∧ d 51 8 ≤ hi then cl (m_X8_advance_51 d) (fun r2 d3 => rt (d 51 8) d3) else b) else c := fun b c hb' hc => by
      unfold m_X8_number_51
      rw [h.2.1, if_pos (show w32 0 = 0 from rfl), hb', hc, wi (x := d 51 7) (by omega), wi (x := 3) (by omega)]
      by_cases g : d 51 7 = 3
      · have n := h.n g
        rw [if_pos g, if_pos g, wi (x := d 51 8) (by omega), wi (x := lo) (by omega), wi (x := hi) (by omega), lt_v]
        by_cases q : d 51 8 < lo
        · rw [if_pos q, if_neg (by omega)]
        · rw [if_neg q]
          by_cases r : d 51 8 ≤ hi
          · rw [if_pos r, if_pos (by omega)]
          · rw [if_neg r, if_neg (by omega)]
      · rw [if_neg g, if_neg g]
    have hM : m_X12_number_174 lo hi e = if d 51 7 = 3 then (if lo ≤ d 51 8 ∧ d 51 8 ≤ hi then m_X12_number_174_c36 lo e else cl (m_X12_blames_174 3 e) (fun r3 d4 => m_X12_number_174_c36 lo d4)) else cl (m_X12_blames_174 2 e) (fun r5 d6 => m_X12_number_174_c36 lo d6) := by
      unfold m_X12_number_174
      rw [wi (x := e 174 11) (by omega), wi (x := 2) (by omega)]
      by_cases g : d 51 7 = 3
      · have n := h.n g
        rw [if_pos g, if_pos (by omega), wi (x := lo) (by omega), wi (x := hi) (by omega), wi (x := e 174 12) (by omega), within_i (by unfold I32; omega) (by omega), cl_rt, w32_bi, n.1]
        by_cases q : lo ≤ e 174 12 ∧ e 174 12 ≤ hi
        · rw [dec_t q, bi_t, if_pos ne10, if_pos q]
        · rw [dec_f q, bi_f, if_neg (by omega), if_neg q]
      · rw [if_neg g, if_neg (by omega)]
    by_cases c : d 51 7 = 3
    · have n := h.n c
      by_cases q : lo ≤ d 51 8 ∧ d 51 8 ≤ hi
      · obtain ⟨d1, e1, a1, a2, a3, a4⟩ := r_adv h (by omega)
        refine ⟨d 51 8, d1, e1, ?_, ?_, a3, q⟩
        · rw [hC _ _ rfl rfl, if_pos c, if_pos q, a1, cl_rt]
        · rw [hM, if_pos c, if_pos q]
          unfold m_X12_number_174_c36 m_X12_number_174_c52
          rw [lt_v, h.2.2, if_neg (by decide), a2, cl_rt, a4.2.2, if_neg (by decide), n.1]
      · obtain ⟨d1, e1, a1, a2, a3, a4, a5⟩ := r_fail h (k := 3) (by omega) (by omega)
        refine ⟨lo, d1, e1, ?_, ?_, NX.bad a3 a4 a5, by omega, by omega⟩
        · rw [hC _ _ rfl rfl, if_pos c, if_neg q]
          unfold m_X8_number_51_c39
          rw [a1, cl_rt]
        · rw [hM, if_pos c, if_neg q, a2, cl_rt, c36b a5.m]
    · obtain ⟨d1, e1, a1, a2, a3, a4, a5⟩ := r_refuse h
      refine ⟨lo, d1, e1, ?_, ?_, NX.bad a3 a4 a5, by omega, by omega⟩
      · rw [hC _ _ rfl rfl, if_neg c, a1, cl_rt]
      · rw [hM, if_neg c, a2, cl_rt, c36b a5.m]
  · exact ⟨lo, d, e, z_number h.c, z_num h.m (by unfold I32; omega) (by unfold I32; omega), NX.bd h, by omega, by omega⟩
theorem q_needSign {d e : D9} {k : Int} (h : OK d e) (hk : 0 ≤ k ∧ k ≤ 100) : m_X8_needSign_51 k d = if d 51 7 = k then cl (m_X8_advance_51 d) (fun r5 d6 => rt 0 d6) else cl (m_X8_refuse_51 d) (fun r3 d4 => rt 0 d4) := by
  have t := h.t
  unfold m_X8_needSign_51 m_X8_isSign_51
  rw [h.2.1, if_neg (show ¬ w32 0 ≠ 0 by decide), wi (x := d 51 7) (by omega), wi (x := k) (by omega)]
  by_cases c : d 51 7 = k
  · rw [if_neg (fun g => g c), cl_rt, if_neg (by decide), if_pos c]
  · rw [if_pos c, cl_rt, if_pos (by decide), if_neg c]
theorem r_stop {d e : D9} (h : LV d e) : ∃ d1 e1, m_X8_needSign_51 59 d = rt 0 d1 ∧ m_X12_stop_174 e = rt 0 e1 ∧ NX 1 d e d1 e1 := by
  rcases h with h | h
  · have t := h.t
    rw [q_needSign h (by omega)]
    unfold m_X12_stop_174 m_X12_stop_174_c20
    rw [h.2.2, wi (x := e 174 11) (by omega), wi (x := 3) (by omega)]
    by_cases c : d 51 7 = 59
    · obtain ⟨d1, e1, a1, a2, a3, a4⟩ := r_adv h (by omega)
      refine ⟨d1, e1, by rw [if_pos c, a1, cl_rt], ?_, a3⟩
      rw [if_neg (show ¬ w32 0 ≠ 0 by decide), if_pos (by omega), if_neg (show ¬ w32 0 ≠ 0 by decide), a2, cl_rt]
    · obtain ⟨d1, e1, a1, a2, a3, a4, a5⟩ := r_refuse h
      refine ⟨d1, e1, by rw [if_neg c, a1, cl_rt], ?_, NX.bad a3 a4 a5⟩
      rw [if_neg (show ¬ w32 0 ≠ 0 by decide), if_neg (by omega), a2, cl_rt, if_pos a5.m]
  · exact ⟨d, e, z_needSign h.c, z_stop h.m, NX.bd h⟩
def mW (x : Nat) (L : Int) (d : D9) : Option R9 := if w32 (d 174 13) ≠ 0 then fix9 (fun _ _ _ => none) (fun k => bW x L k) FU 0 0 d else if w32 (d 174 11) ≠ w32 1 then fix9 (fun _ _ _ => none) (fun k => bW x L k) FU 0 0 d else if w32 ((d 174 9) - (d 174 10)) ≠ w32 L then fix9 (fun _ _ _ => none) (fun k => bW x L k) FU 0 0 d else fix9 (fun _ _ _ => none) (fun k => bW x L k) FU 1 0 d
theorem sub9_len (T : Nat → Int) : ∀ (m : Nat) (i : Int), (sub9 T m i).length = m
  | 0, _ => rfl
  | m + 1, i => by rw [sub9_s, List.length_cons, sub9_len T m]
theorem z_mW {x : Nat} {L : Int} {e : D9} (h : w32 (e 174 13) ≠ 0) : mW x L e = rt 0 e := by
  unfold mW FU; rw [if_pos h, bW_0]
theorem mW_ok {x L i : Nat} {d e : D9} (hL : sl9 x = L) (hr : ∀ c ∈ sI x, 0 ≤ c ∧ c ≤ 255) (hw : WL[i]? = some (sI x)) (h4 : L ≤ 100) (h : OK d e) : mW x L e = rt (bi (decide (d 51 7 = 2 ∧ d 51 8 = i))) e := by
  have t := h.t
  obtain ⟨⟨⟨hB, ⟨p1, p2, p3, p4, p5⟩, _⟩, o3⟩, o1, o2⟩ := id h
  have hT : TPE e 178 (e 178) := fun j hj => ⟨rfl, (hB.1 j hj).2⟩
  have hll : (sI x).length = L := by unfold sI; rw [List.length_map]; exact hL
  have hb := hB.2
  have b0 : fix9 (fun _ _ _ => none) (fun k => bW x L k) FU 0 0 e = rt 0 e := by unfold FU; exact bW_0 _ _ _ _ _
  unfold mW
  rw [o2, if_neg (by decide), wi (x := e 174 11) (by omega), wi (x := 1) (by omega), b0]
  by_cases c : d 51 7 = 2
  · have hww := h.w c
    have hp := h.p (by omega)
    rw [if_neg (by omega), wi (x := e 174 9 - e 174 10) (by omega), wi (x := (L : Int)) (by omega)]
    by_cases g : e 174 9 - e 174 10 = L
    · rw [if_neg (fun q => q g)]
      have := bW_1 (s := e 174 10) hT rfl hL (by omega) hr (sI x) 0 FU rfl (by rw [hll]; omega) (by rw [hll]; unfold FU; omega)
      rw [show ((0 : Nat) : Int) = 0 from rfl] at this
      rw [this, hll, show e 174 10 + 0 = d 51 6 by omega]
      refine congrArg (fun b => rt (bi b) e) (decide_eq_decide.mpr ?_)
      rw [show (d 51 5 - d 51 6).toNat = L by omega] at hww
      rw [hww, wxn_at _ i _ hw]
      constructor
      · intro q; exact ⟨c, q⟩
      · intro q; exact q.2
    · rw [if_pos g, dec_f]
      · rfl
      · rintro ⟨_, q⟩
        rw [hww, wxn_at _ i _ hw] at q
        have q' := congrArg List.length q
        rw [sub9_len, hll] at q'
        omega
  · rw [if_pos (by omega), dec_f (fun g => c g.1)]
    rfl
theorem is_15 {d e : D9} (h : OK d e) : m_X12_isWord_174_s15 e = rt (bi (decide (d 51 7 = 2 ∧ d 51 8 = 0))) e := mW_ok (x := 15) (L := 4) (i := 0) (by decide +kernel) (by decide +kernel) (by decide +kernel) (by decide) h
theorem zs_15 {e : D9} (h : w32 (e 174 13) ≠ 0) : m_X12_isWord_174_s15 e = rt 0 e := z_mW (x := 15) (L := 4) h
theorem is_16 {d e : D9} (h : OK d e) : m_X12_isWord_174_s16 e = rt (bi (decide (d 51 7 = 2 ∧ d 51 8 = 1))) e := mW_ok (x := 16) (L := 4) (i := 1) (by decide +kernel) (by decide +kernel) (by decide +kernel) (by decide) h
theorem zs_16 {e : D9} (h : w32 (e 174 13) ≠ 0) : m_X12_isWord_174_s16 e = rt 0 e := z_mW (x := 16) (L := 4) h
theorem is_17 {d e : D9} (h : OK d e) : m_X12_isWord_174_s17 e = rt (bi (decide (d 51 7 = 2 ∧ d 51 8 = 2))) e := mW_ok (x := 17) (L := 4) (i := 2) (by decide +kernel) (by decide +kernel) (by decide +kernel) (by decide) h
theorem zs_17 {e : D9} (h : w32 (e 174 13) ≠ 0) : m_X12_isWord_174_s17 e = rt 0 e := z_mW (x := 17) (L := 4) h
theorem is_18 {d e : D9} (h : OK d e) : m_X12_isWord_174_s18 e = rt (bi (decide (d 51 7 = 2 ∧ d 51 8 = 3))) e := mW_ok (x := 18) (L := 3) (i := 3) (by decide +kernel) (by decide +kernel) (by decide +kernel) (by decide) h
theorem zs_18 {e : D9} (h : w32 (e 174 13) ≠ 0) : m_X12_isWord_174_s18 e = rt 0 e := z_mW (x := 18) (L := 3) h
theorem is_19 {d e : D9} (h : OK d e) : m_X12_isWord_174_s19 e = rt (bi (decide (d 51 7 = 2 ∧ d 51 8 = 4))) e := mW_ok (x := 19) (L := 4) (i := 4) (by decide +kernel) (by decide +kernel) (by decide +kernel) (by decide) h
theorem zs_19 {e : D9} (h : w32 (e 174 13) ≠ 0) : m_X12_isWord_174_s19 e = rt 0 e := z_mW (x := 19) (L := 4) h
theorem is_20 {d e : D9} (h : OK d e) : m_X12_isWord_174_s20 e = rt (bi (decide (d 51 7 = 2 ∧ d 51 8 = 5))) e := mW_ok (x := 20) (L := 4) (i := 5) (by decide +kernel) (by decide +kernel) (by decide +kernel) (by decide) h
theorem zs_20 {e : D9} (h : w32 (e 174 13) ≠ 0) : m_X12_isWord_174_s20 e = rt 0 e := z_mW (x := 20) (L := 4) h
theorem is_21 {d e : D9} (h : OK d e) : m_X12_isWord_174_s21 e = rt (bi (decide (d 51 7 = 2 ∧ d 51 8 = 6))) e := mW_ok (x := 21) (L := 2) (i := 6) (by decide +kernel) (by decide +kernel) (by decide +kernel) (by decide) h
theorem zs_21 {e : D9} (h : w32 (e 174 13) ≠ 0) : m_X12_isWord_174_s21 e = rt 0 e := z_mW (x := 21) (L := 2) h
theorem is_22 {d e : D9} (h : OK d e) : m_X12_isWord_174_s22 e = rt (bi (decide (d 51 7 = 2 ∧ d 51 8 = 23))) e := mW_ok (x := 22) (L := 5) (i := 23) (by decide +kernel) (by decide +kernel) (by decide +kernel) (by decide) h
theorem zs_22 {e : D9} (h : w32 (e 174 13) ≠ 0) : m_X12_isWord_174_s22 e = rt 0 e := z_mW (x := 22) (L := 5) h
theorem is_23 {d e : D9} (h : OK d e) : m_X12_isWord_174_s23 e = rt (bi (decide (d 51 7 = 2 ∧ d 51 8 = 24))) e := mW_ok (x := 23) (L := 6) (i := 24) (by decide +kernel) (by decide +kernel) (by decide +kernel) (by decide) h
theorem zs_23 {e : D9} (h : w32 (e 174 13) ≠ 0) : m_X12_isWord_174_s23 e = rt 0 e := z_mW (x := 23) (L := 6) h
theorem is_24 {d e : D9} (h : OK d e) : m_X12_isWord_174_s24 e = rt (bi (decide (d 51 7 = 2 ∧ d 51 8 = 7))) e := mW_ok (x := 24) (L := 2) (i := 7) (by decide +kernel) (by decide +kernel) (by decide +kernel) (by decide) h
theorem zs_24 {e : D9} (h : w32 (e 174 13) ≠ 0) : m_X12_isWord_174_s24 e = rt 0 e := z_mW (x := 24) (L := 2) h
theorem is_25 {d e : D9} (h : OK d e) : m_X12_isWord_174_s25 e = rt (bi (decide (d 51 7 = 2 ∧ d 51 8 = 8))) e := mW_ok (x := 25) (L := 6) (i := 8) (by decide +kernel) (by decide +kernel) (by decide +kernel) (by decide) h
theorem zs_25 {e : D9} (h : w32 (e 174 13) ≠ 0) : m_X12_isWord_174_s25 e = rt 0 e := z_mW (x := 25) (L := 6) h
theorem is_26 {d e : D9} (h : OK d e) : m_X12_isWord_174_s26 e = rt (bi (decide (d 51 7 = 2 ∧ d 51 8 = 10))) e := mW_ok (x := 26) (L := 6) (i := 10) (by decide +kernel) (by decide +kernel) (by decide +kernel) (by decide) h
theorem zs_26 {e : D9} (h : w32 (e 174 13) ≠ 0) : m_X12_isWord_174_s26 e = rt 0 e := z_mW (x := 26) (L := 6) h
theorem is_27 {d e : D9} (h : OK d e) : m_X12_isWord_174_s27 e = rt (bi (decide (d 51 7 = 2 ∧ d 51 8 = 11))) e := mW_ok (x := 27) (L := 4) (i := 11) (by decide +kernel) (by decide +kernel) (by decide +kernel) (by decide) h
theorem zs_27 {e : D9} (h : w32 (e 174 13) ≠ 0) : m_X12_isWord_174_s27 e = rt 0 e := z_mW (x := 27) (L := 4) h
theorem is_28 {d e : D9} (h : OK d e) : m_X12_isWord_174_s28 e = rt (bi (decide (d 51 7 = 2 ∧ d 51 8 = 12))) e := mW_ok (x := 28) (L := 5) (i := 12) (by decide +kernel) (by decide +kernel) (by decide +kernel) (by decide) h
theorem zs_28 {e : D9} (h : w32 (e 174 13) ≠ 0) : m_X12_isWord_174_s28 e = rt 0 e := z_mW (x := 28) (L := 5) h
theorem is_29 {d e : D9} (h : OK d e) : m_X12_isWord_174_s29 e = rt (bi (decide (d 51 7 = 2 ∧ d 51 8 = 9))) e := mW_ok (x := 29) (L := 2) (i := 9) (by decide +kernel) (by decide +kernel) (by decide +kernel) (by decide) h
theorem zs_29 {e : D9} (h : w32 (e 174 13) ≠ 0) : m_X12_isWord_174_s29 e = rt 0 e := z_mW (x := 29) (L := 2) h
theorem is_30 {d e : D9} (h : OK d e) : m_X12_isWord_174_s30 e = rt (bi (decide (d 51 7 = 2 ∧ d 51 8 = 15))) e := mW_ok (x := 30) (L := 3) (i := 15) (by decide +kernel) (by decide +kernel) (by decide +kernel) (by decide) h
theorem zs_30 {e : D9} (h : w32 (e 174 13) ≠ 0) : m_X12_isWord_174_s30 e = rt 0 e := z_mW (x := 30) (L := 3) h
theorem is_31 {d e : D9} (h : OK d e) : m_X12_isWord_174_s31 e = rt (bi (decide (d 51 7 = 2 ∧ d 51 8 = 16))) e := mW_ok (x := 31) (L := 5) (i := 16) (by decide +kernel) (by decide +kernel) (by decide +kernel) (by decide) h
theorem zs_31 {e : D9} (h : w32 (e 174 13) ≠ 0) : m_X12_isWord_174_s31 e = rt 0 e := z_mW (x := 31) (L := 5) h
theorem is_32 {d e : D9} (h : OK d e) : m_X12_isWord_174_s32 e = rt (bi (decide (d 51 7 = 2 ∧ d 51 8 = 17))) e := mW_ok (x := 32) (L := 4) (i := 17) (by decide +kernel) (by decide +kernel) (by decide +kernel) (by decide) h
theorem zs_32 {e : D9} (h : w32 (e 174 13) ≠ 0) : m_X12_isWord_174_s32 e = rt 0 e := z_mW (x := 32) (L := 4) h
theorem is_33 {d e : D9} (h : OK d e) : m_X12_isWord_174_s33 e = rt (bi (decide (d 51 7 = 2 ∧ d 51 8 = 18))) e := mW_ok (x := 33) (L := 4) (i := 18) (by decide +kernel) (by decide +kernel) (by decide +kernel) (by decide) h
theorem zs_33 {e : D9} (h : w32 (e 174 13) ≠ 0) : m_X12_isWord_174_s33 e = rt 0 e := z_mW (x := 33) (L := 4) h
theorem is_34 {d e : D9} (h : OK d e) : m_X12_isWord_174_s34 e = rt (bi (decide (d 51 7 = 2 ∧ d 51 8 = 19))) e := mW_ok (x := 34) (L := 4) (i := 19) (by decide +kernel) (by decide +kernel) (by decide +kernel) (by decide) h
theorem zs_34 {e : D9} (h : w32 (e 174 13) ≠ 0) : m_X12_isWord_174_s34 e = rt 0 e := z_mW (x := 34) (L := 4) h
theorem is_35 {d e : D9} (h : OK d e) : m_X12_isWord_174_s35 e = rt (bi (decide (d 51 7 = 2 ∧ d 51 8 = 20))) e := mW_ok (x := 35) (L := 4) (i := 20) (by decide +kernel) (by decide +kernel) (by decide +kernel) (by decide) h
theorem zs_35 {e : D9} (h : w32 (e 174 13) ≠ 0) : m_X12_isWord_174_s35 e = rt 0 e := z_mW (x := 35) (L := 4) h
theorem is_36 {d e : D9} (h : OK d e) : m_X12_isWord_174_s36 e = rt (bi (decide (d 51 7 = 2 ∧ d 51 8 = 21))) e := mW_ok (x := 36) (L := 4) (i := 21) (by decide +kernel) (by decide +kernel) (by decide +kernel) (by decide) h
theorem zs_36 {e : D9} (h : w32 (e 174 13) ≠ 0) : m_X12_isWord_174_s36 e = rt 0 e := z_mW (x := 36) (L := 4) h
theorem is_37 {d e : D9} (h : OK d e) : m_X12_isWord_174_s37 e = rt (bi (decide (d 51 7 = 2 ∧ d 51 8 = 22))) e := mW_ok (x := 37) (L := 4) (i := 22) (by decide +kernel) (by decide +kernel) (by decide +kernel) (by decide) h
theorem zs_37 {e : D9} (h : w32 (e 174 13) ≠ 0) : m_X12_isWord_174_s37 e = rt 0 e := z_mW (x := 37) (L := 4) h
theorem is_38 {d e : D9} (h : OK d e) : m_X12_isWord_174_s38 e = rt (bi (decide (d 51 7 = 2 ∧ d 51 8 = 14))) e := mW_ok (x := 38) (L := 3) (i := 14) (by decide +kernel) (by decide +kernel) (by decide +kernel) (by decide) h
theorem zs_38 {e : D9} (h : w32 (e 174 13) ≠ 0) : m_X12_isWord_174_s38 e = rt 0 e := z_mW (x := 38) (L := 3) h
theorem is_39 {d e : D9} (h : OK d e) : m_X12_isWord_174_s39 e = rt (bi (decide (d 51 7 = 2 ∧ d 51 8 = 13))) e := mW_ok (x := 39) (L := 2) (i := 13) (by decide +kernel) (by decide +kernel) (by decide +kernel) (by decide) h
theorem zs_39 {e : D9} (h : w32 (e 174 13) ≠ 0) : m_X12_isWord_174_s39 e = rt 0 e := z_mW (x := 39) (L := 2) h

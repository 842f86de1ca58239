/-! words in a place -/
def fits9 (d : D9) (a b : Int) : Prop := d 51 7 = 2 ∧ a ≤ d 51 8 ∧ d 51 8 ≤ b
theorem q_wordAmong {d e : D9} {a b : Int} (h : OK d e) (ha : 0 ≤ a ∧ a ≤ 100) (hb : 0 ≤ b ∧ b ≤ 100) : (fits9 d a b → m_X8_wordAmong_51 a b d = cl (m_X8_advance_51 d) (fun r2 d3 => rt (d 51 8) d3)) ∧ (¬ fits9 d a b → m_X8_wordAmong_51 a b d = cl (m_X8_refuse_51 d) (fun r1 d2 => rt (-1) d2)) := by
  have t := h.t
  have hh : m_X8_wordAmong_51 a b d = if d 51 7 ≠ 2 then m_X8_wordAmong_51_c42 d else if w32 (d 51 8) < a then m_X8_wordAmong_51_c42 d else if b < w32 (d 51 8) then m_X8_wordAmong_51_c42 d else cl (m_X8_advance_51 d) (fun r2 d3 => rt (d 51 8) d3) := by
    unfold m_X8_wordAmong_51
    rw [h.2.1, if_neg (show ¬ w32 0 ≠ 0 by decide), wi (x := d 51 7) (by omega), wi (x := 2) (by omega), wi (x := a) (by omega), wi (x := b) (by omega), lt_v]
  rw [hh]
  constructor
  · rintro ⟨g1, g2, g3⟩
    rw [if_neg (fun g => g g1), wi (x := d 51 8) (by omega), if_neg (by omega), if_neg (by omega)]
  · intro g
    by_cases c : d 51 7 = 2
    · have r := h.wr c
      rw [if_neg (fun g => g c), wi (x := d 51 8) (by omega)]
      by_cases g1 : d 51 8 < a
      · rw [if_pos g1]; rfl
      · rw [if_neg g1]
        by_cases g2 : b < d 51 8
        · rw [if_pos g2]; rfl
        · exact absurd ⟨c, by omega, by omega⟩ g
    · rw [if_pos c]; rfl
theorem q_firstWord {d e : D9} {a b l : Int} (h : OK d e) (ha : 0 ≤ a ∧ a ≤ 100) (hb : 0 ≤ b ∧ b ≤ 100) (hl : 0 ≤ l ∧ l ≤ 12) : (fits9 d a b → m_X8_firstWord_51 a b l d = if l < 12 then cl (m_X8_advance_51 d) (fun r2 d3 => rt (d 51 8) d3) else cl (m_X8_fail_51 4 d) (fun r1 d2 => rt (-1) d2)) ∧ (¬ fits9 d a b → m_X8_firstWord_51 a b l d = cl (m_X8_refuse_51 d) (fun r1 d2 => rt (-1) d2)) := by
  have t := h.t
  have w := q_wordAmong h ha hb
  have hh : m_X8_firstWord_51 a b l d = if d 51 7 ≠ 2 then m_X8_firstWord_51_c49 a b d else if w32 (d 51 8) < a then m_X8_firstWord_51_c49 a b d else if b < w32 (d 51 8) then m_X8_firstWord_51_c49 a b d else if l < 12 then m_X8_firstWord_51_c49 a b d else cl (m_X8_fail_51 4 d) (fun r1 d2 => rt (-1) d2) := by
    unfold m_X8_firstWord_51 m_X8_firstWord_51_c29
    rw [wi (x := d 51 7) (by omega), wi (x := 2) (by omega), wi (x := a) (by omega), wi (x := b) (by omega), wi (x := l) (by omega), wi (x := 12) (by omega), if_pos (show w32 0 = 0 from rfl), if_neg (show ¬ w32 1 = 0 by decide)]
  have c49 : m_X8_firstWord_51_c49 a b d = m_X8_wordAmong_51 a b d := by unfold m_X8_firstWord_51_c49; rw [cl_id]
  rw [hh, c49]
  constructor
  · intro g
    have g' := g
    obtain ⟨g1, g2, g3⟩ := g
    rw [if_neg (fun g => g g1), wi (x := d 51 8) (by omega), if_neg (by omega), if_neg (by omega), w.1 g']
  · intro g
    rw [← w.2 g]
    by_cases c : d 51 7 = 2
    · have r := h.wr c
      rw [if_neg (fun g => g c), wi (x := d 51 8) (by omega)]
      by_cases g1 : d 51 8 < a
      · rw [if_pos g1]
      · rw [if_neg g1]
        by_cases g2 : b < d 51 8
        · rw [if_pos g2]
        · exact absurd ⟨c, by omega, by omega⟩ g
    · rw [if_pos c]
theorem q_isWord {d e : D9} {k : Int} (h : OK d e) (hk : 0 ≤ k ∧ k ≤ 100) : m_X8_isWord_51 k d = rt (bi (decide (d 51 7 = 2 ∧ d 51 8 = k))) d := by
  have t := h.t
  unfold m_X8_isWord_51
  rw [h.2.1, if_neg (show ¬ w32 0 ≠ 0 by decide), wi (x := d 51 7) (by omega), wi (x := 2) (by omega), wi (x := k) (by omega)]
  by_cases c : d 51 7 = 2
  · have r := h.wr c
    rw [if_neg (fun g => g c), wi (x := d 51 8) (by omega)]
    by_cases g : d 51 8 = k
    · rw [if_neg (fun q => q g), dec_t ⟨c, g⟩]; rfl
    · rw [if_pos g, dec_f (fun q => g q.2)]; rfl
  · rw [if_pos c, dec_f (fun q => c q.1)]; rfl
theorem q_isSgn {d e : D9} {k : Int} (h : OK d e) (hk : 0 ≤ k ∧ k ≤ 100) : m_X8_isSign_51 k d = rt (bi (decide (d 51 7 = k))) d := by
  have t := h.t
  unfold m_X8_isSign_51
  rw [h.2.1, if_neg (show ¬ w32 0 ≠ 0 by decide), wi (x := d 51 7) (by omega), wi (x := k) (by omega)]
  by_cases c : d 51 7 = k
  · rw [if_neg (fun g => g c), dec_t c]; rfl
  · rw [if_pos c, dec_f c]; rfl
theorem q_takeWord {d e : D9} {k : Int} (h : OK d e) (hk : 0 ≤ k ∧ k ≤ 100) : m_X8_takeWord_51 k d = if d 51 7 = 2 ∧ d 51 8 = k then cl (m_X8_advance_51 d) (fun r3 d4 => rt 1 d4) else rt 0 d := by
  unfold m_X8_takeWord_51
  rw [q_isWord h hk, cl_rt, w32_bi]
  by_cases c : d 51 7 = 2 ∧ d 51 8 = k
  · rw [dec_t c, bi_t, if_neg ne10, if_pos c]; rfl
  · rw [dec_f c, bi_f, if_pos rfl, if_neg c]; rfl
theorem r_need6 {d e : D9} (h : LV d e) : ∃ d1 e1, m_X8_needWord_51 6 d = rt 0 d1 ∧ m_X12_word_174_s21 e = rt 0 e1 ∧ NX 1 d e d1 e1 := by
  rcases h with h | h
  · unfold m_X8_needWord_51 m_X12_word_174_s21 m_X12_word_174_s21_c13
    rw [q_takeWord h (by omega), is_21 h, cl_rt, w32_bi]
    by_cases c : d 51 7 = 2 ∧ d 51 8 = 6
    · obtain ⟨d1, e1, a1, a2, a3, a4⟩ := r_adv h (by omega)
      refine ⟨d1, e1, ?_, ?_, a3⟩
      · rw [if_pos c, a1, cl_rt, cl_rt, if_pos (by decide)]
      · rw [dec_t c, bi_t, if_pos ne10, h.2.2, if_neg (by decide), a2, cl_rt]
    · obtain ⟨d1, e1, a1, a2, a3, a4, a5⟩ := r_refuse h
      refine ⟨d1, e1, ?_, ?_, NX.bad a3 a4 a5⟩
      · rw [if_neg c, cl_rt, if_neg (by decide), a1, cl_rt]
      · rw [dec_f c, bi_f, if_neg (by omega), a2, cl_rt, if_pos a5.m]
  · refine ⟨d, e, z_needWord h.c, ?_, NX.bd h⟩
    unfold m_X12_word_174_s21 m_X12_word_174_s21_c13
    rw [zs_21 h.m, cl_rt, if_neg (by decide), z_blames h.m, cl_rt, if_pos h.m]
theorem r_need7 {d e : D9} (h : LV d e) : ∃ d1 e1, m_X8_needWord_51 7 d = rt 0 d1 ∧ m_X12_word_174_s24 e = rt 0 e1 ∧ NX 1 d e d1 e1 := by
  rcases h with h | h
  · unfold m_X8_needWord_51 m_X12_word_174_s24 m_X12_word_174_s24_c13
    rw [q_takeWord h (by omega), is_24 h, cl_rt, w32_bi]
    by_cases c : d 51 7 = 2 ∧ d 51 8 = 7
    · obtain ⟨d1, e1, a1, a2, a3, a4⟩ := r_adv h (by omega)
      refine ⟨d1, e1, ?_, ?_, a3⟩
      · rw [if_pos c, a1, cl_rt, cl_rt, if_pos (by decide)]
      · rw [dec_t c, bi_t, if_pos ne10, h.2.2, if_neg (by decide), a2, cl_rt]
    · obtain ⟨d1, e1, a1, a2, a3, a4, a5⟩ := r_refuse h
      refine ⟨d1, e1, ?_, ?_, NX.bad a3 a4 a5⟩
      · rw [if_neg c, cl_rt, if_neg (by decide), a1, cl_rt]
      · rw [dec_f c, bi_f, if_neg (by omega), a2, cl_rt, if_pos a5.m]
  · refine ⟨d, e, z_needWord h.c, ?_, NX.bd h⟩
    unfold m_X12_word_174_s24 m_X12_word_174_s24_c13
    rw [zs_24 h.m, cl_rt, if_neg (by decide), z_blames h.m, cl_rt, if_pos h.m]
/-! frames of the readers -/
def HC (d d1 : D9) : Prop := (∀ k, k < 40 ∨ 51 < k → d1 k = d k) ∧ ∀ j, j < 2 ∨ j = 4 ∨ 8 < j → d1 51 j = d 51 j
def HM (e e1 : D9) : Prop := (∀ k, k ≠ 174 → k < 179 ∨ 181 < k → e1 k = e k) ∧ ∀ j, (j < 9 ∨ 14 < j) → j ≠ 18 → j ≠ 19 → e1 174 j = e 174 j
theorem HC.rf (d : D9) : HC d d := ⟨fun _ _ => rfl, fun _ _ => rfl⟩
theorem HM.rf (d : D9) : HM d d := ⟨fun _ _ _ => rfl, fun _ _ _ _ => rfl⟩
theorem HC.tr {a b c : D9} (x : HC a b) (y : HC b c) : HC a c := ⟨fun k h => (y.1 k h).trans (x.1 k h), fun j h => (y.2 j h).trans (x.2 j h)⟩
theorem HM.tr {a b c : D9} (x : HM a b) (y : HM b c) : HM a c := ⟨fun k h g => (y.1 k h g).trans (x.1 k h g), fun j h g i => (y.2 j h g i).trans (x.2 j h g i)⟩
theorem FT.hc {d d1 : D9} (h : FT d d1) : HC d d1 := ⟨fun k a => h.1 k (by omega), h.2⟩
theorem FM.hm {d d1 : D9} (h : FM d d1) : HM d d1 := ⟨fun k a _ => h.1 k a, fun j a _ _ => h.2 j a⟩
theorem HC.u {d d1 : D9} {k j : Nat} {v : Int} (h : HC d d1) (hk : 40 ≤ k ∧ k ≤ 50) : HC d (up d1 k j v) := ⟨fun i a => by rw [up_o (by omega)]; exact h.1 i a, fun i a => by rw [up_o (by omega)]; exact h.2 i a⟩
theorem HM.u {d d1 : D9} {k j : Nat} {v : Int} (h : HM d d1) (hk : 179 ≤ k ∧ k ≤ 181) : HM d (up d1 k j v) := ⟨fun i a b => by rw [up_o (by omega)]; exact h.1 i a b, fun i a b c => by rw [up_o (by omega)]; exact h.2 i a b c⟩
theorem HM.u2 {d d1 : D9} {j : Nat} {v : Int} (h : HM d d1) (hj : j = 18 ∨ j = 19) : HM d (up d1 174 j v) := ⟨fun i a b => by rw [up_o a]; exact h.1 i a b, fun i a b c => by rw [up_us, us_ne (by omega)]; exact h.2 i a b c⟩
theorem PS_c {d e d' e' : D9} (h : PS d e) (h1 : d' 51 = d 51) (h2 : d' 52 = d 52) (h3 : ∀ j, j < 18 → e' 174 j = e 174 j) (h4 : e' 178 = e 178) : PS d' e' := by
  unfold PS TB TPE TR
  rw [h1, h2, h4, h3 8 (by omega), h3 9 (by omega), h3 10 (by omega), h3 11 (by omega), h3 12 (by omega)]
  exact h
theorem OK_c {d e d' e' : D9} (h : OK d e) (h1 : d' 51 = d 51) (h2 : d' 52 = d 52) (h3 : ∀ j, j < 18 → e' 174 j = e 174 j) (h4 : e' 178 = e 178) : OK d' e' := by
  refine ⟨⟨PS_c h.1.1 h1 h2 h3 h4, by rw [h1]; exact h.1.2⟩, by rw [h1]; exact h.2.1, by rw [h3 13 (by omega)]; exact h.2.2⟩
theorem BD_c {d e d' e' : D9} (h : BD d e) (h1 : d' 51 = d 51) (h3 : ∀ j, j < 18 → e' 174 j = e 174 j) : BD d' e' := by
  unfold BD
  rw [h1, h3 13 (by omega), h3 14 (by omega)]
  exact h
theorem LV_c {d e d' e' : D9} (h : LV d e) (h1 : d' 51 = d 51) (h2 : d' 52 = d 52) (h3 : ∀ j, j < 18 → e' 174 j = e 174 j) (h4 : e' 178 = e 178) : LV d' e' := by
  rcases h with h | h
  · exact Or.inl (OK_c h h1 h2 h3 h4)
  · exact Or.inr (BD_c h h1 h3)
theorem LV.u {d e : D9} {k j k' j' : Nat} {v w : Int} (h : LV d e) (hk : 40 ≤ k ∧ k ≤ 50) (hk' : 179 ≤ k' ∧ k' ≤ 181) : LV (up d k j v) (up e k' j' w) :=
  LV_c h (up_o (by omega)) (up_o (by omega)) (fun i _ => by rw [up_o (by omega)]) (up_o (by omega))
theorem LV.uc {d e : D9} {k j : Nat} {v : Int} (h : LV d e) (hk : 40 ≤ k ∧ k ≤ 50) : LV (up d k j v) e :=
  LV_c h (up_o (by omega)) (up_o (by omega)) (fun i _ => rfl) rfl
theorem LV.um {d e : D9} {k j : Nat} {v : Int} (h : LV d e) (hk : 179 ≤ k ∧ k ≤ 181) : LV d (up e k j v) :=
  LV_c h rfl rfl (fun i _ => by rw [up_o (by omega)]) (up_o (by omega))

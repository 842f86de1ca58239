/-! piles of a test -/
theorem hg_s (sg : Int → Int) (n : Nat) : hg sg (n + 1) = if sg n = 7 then hg sg n else if sg n = 8 ∨ sg n = 9 then hg sg n - 1 else hg sg n + 1 := rfl
theorem hg_add (sg : Int → Int) (n : Nat) : ∀ k : Nat, hg sg (n + k) = hg sg n + hg (fun i => sg (n + i)) k
  | 0 => by show hg sg n = hg sg n + 0; omega
  | k + 1 => by
    rw [show n + (k + 1) = (n + k) + 1 by omega, hg_s, hg_s, hg_add sg n k, show ((n + k : Nat) : Int) = (n : Int) + k by omega]
    by_cases a : sg ((n : Int) + k) = 7
    · rw [if_pos a, if_pos a]
    · rw [if_neg a, if_neg a]
      by_cases b : sg ((n : Int) + k) = 8 ∨ sg ((n : Int) + k) = 9
      · rw [if_pos b, if_pos b]; omega
      · rw [if_neg b, if_neg b]; omega
def PB (sg : Int → Int) (n H : Int) : Prop := (∀ i, 0 ≤ i → i < n → sgn7 (sg i) ∧ (sg i = 7 → 1 ≤ hg sg i.toNat) ∧ ((sg i = 8 ∨ sg i = 9) → 2 ≤ hg sg i.toNat) ∧ 0 ≤ hg sg i.toNat ∧ hg sg i.toNat ≤ H) ∧ hg sg n.toNat = 1 ∧ 1 ≤ n
theorem PB.le {sg : Int → Int} {n H H' : Int} (h : PB sg n H) (g : H ≤ H') : PB sg n H' :=
  ⟨fun i a b => by have := h.1 i a b; exact ⟨this.1, this.2.1, this.2.2.1, this.2.2.2.1, by omega⟩, h.2⟩
theorem PB_c {sg sg' : Int → Int} {n H : Int} (h : PB sg n H) (e : ∀ i : Int, 0 ≤ i → i < n → sg' i = sg i) : PB sg' n H := by
  refine ⟨fun i a b => ?_, ?_, h.2.2⟩
  · rw [e i a b, hg_c i.toNat (fun j c f => e j c (by omega))]; exact h.1 i a b
  · rw [hg_c n.toNat (fun j c f => e j c (by omega))]; exact h.2.1
theorem PB.one {sg : Int → Int} (H : Int) (hH : 0 ≤ H) (h : sgn7 (sg 0)) (h7 : ¬ (7 ≤ sg 0 ∧ sg 0 ≤ 9)) : PB sg 1 H := by
  refine ⟨fun i a b => ?_, ?_, by omega⟩
  · obtain rfl : i = 0 := by omega
    exact ⟨h, fun g => by omega, fun g => by omega, Int.le_refl _, hH⟩
  · show hg sg (0 + 1) = 1
    rw [hg_s, if_neg (show ¬ sg ((0 : Nat) : Int) = 7 from fun g => h7 (by have g' : sg 0 = 7 := g; omega)), if_neg (show ¬ (sg ((0 : Nat) : Int) = 8 ∨ sg ((0 : Nat) : Int) = 9) from fun g => h7 (by have g' : sg 0 = 8 ∨ sg 0 = 9 := g; omega))]
    rfl
theorem PB.nt {sg : Int → Int} {n H : Int} (h : PB sg n H) (hH : 1 ≤ H) (h7 : sg n = 7) : PB sg (n + 1) H := by
  obtain ⟨h1, h2, h3⟩ := h
  have en : ((n.toNat : Nat) : Int) = n := by omega
  refine ⟨fun i a b => ?_, ?_, by omega⟩
  · by_cases c : i = n
    · rw [c, h7, h2]
      exact ⟨Or.inl (by omega), fun _ => by omega, fun g => by omega, by omega, hH⟩
    · exact h1 i a (by omega)
  · rw [show (n + 1).toNat = n.toNat + 1 by omega, hg_s, en, if_pos h7, h2]
theorem PB.cat {sg : Int → Int} {n m H : Int} (h : PB sg n (H + 1)) (g : PB (fun i => sg (n + i)) m H) (hH : 1 ≤ H) (c : sg (n + m) = 8 ∨ sg (n + m) = 9) : PB sg (n + m + 1) (H + 1) := by
  obtain ⟨h1, h2, h3⟩ := h
  obtain ⟨g1, g2, g3⟩ := g
  have en : ((n.toNat : Nat) : Int) = n := by omega
  have e : ∀ k : Int, 0 ≤ k → hg sg (n + k).toNat = 1 + hg (fun i => sg (n + i)) k.toNat := fun k hk => by
    rw [show (n + k).toNat = n.toNat + k.toNat by omega, hg_add, h2, en]
  refine ⟨fun i a b => ?_, ?_, by omega⟩
  · by_cases x : i < n
    · exact h1 i a x
    · by_cases y : i = n + m
      · rw [y, e m (by omega), g2]
        exact ⟨Or.inl (by omega), fun q => by omega, fun _ => by omega, by omega, by omega⟩
      · have z := g1 (i - n) (by omega) (by omega)
        simp only [show n + (i - n) = i by omega] at z
        have e1 := e (i - n) (by omega)
        rw [show n + (i - n) = i by omega] at e1
        exact ⟨z.1, fun q => by have := z.2.1 q; omega, fun q => by have := z.2.2.1 q; omega, by omega, by omega⟩
  · rw [show (n + m + 1).toNat = (n + m).toNat + 1 by omega, hg_s, show (((n + m).toNat : Nat) : Int) = n + m by omega, if_neg (by omega), if_pos c, e m (by omega), g2]
    rfl
/-! a step is kept, a sign is put -/
theorem q_keep {d : D9} {w n : Int} (h : 0 ≤ d 46 1 ∧ d 46 1 < 400) : m_X4_keepStep_46 w n d = rt 0 (up (up d 50 (d 46 1).toNat (w * 1000 + n)) 46 1 (d 46 1 + 1)) := by
  unfold m_X4_keepStep_46
  rw [wi (x := 400) (by omega), wi (x := d 46 1) (by omega), if_neg (by omega), sd_in (by omega), pf_v, up_o (by decide)]
theorem q_keepAny {d : D9} {w n : Int} (h : 0 ≤ d 46 1 ∧ d 46 1 ≤ 400) : ∃ d1, m_X4_keepStep_46 w n d = rt 0 d1 ∧ (∀ k, k ≠ 46 → k ≠ 50 → d1 k = d k) ∧ d1 46 0 = d 46 0 ∧ 0 ≤ d1 46 1 ∧ d1 46 1 ≤ 400 := by
  by_cases c : d 46 1 < 400
  · refine ⟨_, q_keep (by omega), fun k a b => by rw [up_o a, up_o b], by rw [up_us, us_ne (by decide), up_o (by decide)], ?_, ?_⟩ <;> rw [up_us, us_eq rfl] <;> omega
  · refine ⟨d, ?_, fun _ _ _ => rfl, rfl, h⟩
    unfold m_X4_keepStep_46
    rw [wi (x := 400) (by omega), wi (x := d 46 1) (by omega), if_pos (by omega)]
theorem p_puts {e : D9} {s : Int} (h13 : e 174 13 = 0) (h : 0 ≤ e 174 18 ∧ e 174 18 < 460) : m_X12_puts_174 s e = rt 0 (up (up e 181 (e 174 18).toNat s) 174 18 (e 174 18 + 1)) := by
  unfold m_X12_puts_174
  rw [h13, if_pos (show w32 0 = 0 from rfl), sd_in (by omega), pf_v, up_o (by decide)]
def AP (H : Int) (d e d1 e1 : D9) : Prop := (e1 174 18 = e 174 18 + (d1 46 1 - d 46 1) ∧ e1 174 19 = e 174 19) ∧ (∀ j : Nat, (j : Int) < d 46 1 → d1 50 j = d 50 j) ∧ (∀ j : Nat, (j : Int) < e 174 18 → e1 181 j = e 181 j) ∧ PB (fun i => e1 181 (e 174 18 + i).toNat) (d1 46 1 - d 46 1) H ∧ (∀ i : Int, 0 ≤ i → i < d1 46 1 - d 46 1 → d1 50 (d 46 1 + i).toNat = stp (e1 181 (e 174 18 + i).toNat)) ∧ d1 46 1 + d 51 6 ≤ d 46 1 + d1 51 6
def FZ (d d1 : D9) : Prop := (∀ k, k ≠ 46 → k ≠ 50 → k ≠ 51 → d1 k = d k) ∧ d1 46 0 = d 46 0 ∧ ∀ j, j < 2 ∨ j = 4 ∨ 8 < j → d1 51 j = d 51 j
def FY (e e1 : D9) : Prop := (∀ k, k ≠ 174 → k ≠ 181 → e1 k = e k) ∧ ∀ j, (j < 9 ∨ 14 < j) → j ≠ 18 → j ≠ 19 → e1 174 j = e 174 j
theorem FZ.rf (d : D9) : FZ d d := ⟨fun _ _ _ _ => rfl, rfl, fun _ _ => rfl⟩
theorem FY.rf (d : D9) : FY d d := ⟨fun _ _ _ => rfl, fun _ _ _ _ => rfl⟩
theorem FZ.tr {a b c : D9} (x : FZ a b) (y : FZ b c) : FZ a c := ⟨fun k h g i => (y.1 k h g i).trans (x.1 k h g i), y.2.1.trans x.2.1, fun j h => (y.2.2 j h).trans (x.2.2 j h)⟩
theorem FY.tr {a b c : D9} (x : FY a b) (y : FY b c) : FY a c := ⟨fun k h g => (y.1 k h g).trans (x.1 k h g), fun j h g i => (y.2 j h g i).trans (x.2 j h g i)⟩
theorem FT.z {d d1 : D9} (h : FT d d1) : FZ d d1 := ⟨fun k _ _ a => h.1 k a, by rw [h.1 46 (by decide)], h.2⟩
theorem FM.y {d d1 : D9} (h : FM d d1) : FY d d1 := ⟨fun k a _ => h.1 k a, fun j a _ _ => h.2 j a⟩
theorem FZ.u50 {d d1 : D9} {j : Nat} {v w : Int} (h : FZ d d1) : FZ d (up (up d1 50 j v) 46 1 w) := ⟨fun k a b c => by rw [up_o a, up_o b]; exact h.1 k a b c, by rw [up_us, us_ne (by decide), up_o (by decide)]; exact h.2.1, fun i a => by rw [up_o (by decide), up_o (by decide)]; exact h.2.2 i a⟩
theorem FZ.ka {d d1 d2 : D9} (h : FZ d d1) (g : ∀ k, k ≠ 46 → k ≠ 50 → d2 k = d1 k) (g0 : d2 46 0 = d1 46 0) : FZ d d2 := ⟨fun k a b c => (g k a b).trans (h.1 k a b c), g0.trans h.2.1, fun i a => by rw [g 51 (by decide) (by decide)]; exact h.2.2 i a⟩
theorem FY.u {d d1 : D9} {j : Nat} {v w : Int} (h : FY d d1) : FY d (up (up d1 181 j v) 174 18 w) := ⟨fun k a b => by rw [up_o a, up_o b]; exact h.1 k a b, fun i a b c => by rw [up_us, us_ne b, up_o (by decide)]; exact h.2 i a b c⟩
theorem FY.u19 {d d1 : D9} {w : Int} (h : FY d d1) : FY d (up d1 174 19 w) := ⟨fun k a b => by rw [up_o a]; exact h.1 k a b, fun i a b c => by rw [up_us, us_ne c]; exact h.2 i a b c⟩
/-- the run from d, e to d1, e1 read a part of a test, of height H -/
def XR (H : Int) (d e d1 e1 : D9) : Prop := FZ d d1 ∧ FY e e1 ∧ LV d1 e1 ∧ (0 ≤ d1 46 1 ∧ d1 46 1 ≤ 400) ∧ (d1 51 2 = 0 → d 51 2 = 0 ∧ AP H d e d1 e1)
def PRE (d e : D9) : Prop := LV d e ∧ (0 ≤ d 46 1 ∧ d 46 1 ≤ 400) ∧ (OK d e → d 46 1 ≤ d 51 6 ∧ 1 ≤ e 174 18 ∧ e 174 18 ≤ 25 + d 46 1)
theorem OK.s {d e : D9} (h : OK d e) : 0 ≤ d 51 6 ∧ d 51 6 ≤ 400 := by
  obtain ⟨⟨⟨hB, ⟨p1, p2, p3, p4, p5⟩, _⟩, _⟩, _⟩ := h
  have := hB.2
  omega
theorem OK.s1 {d e : D9} (h : OK d e) (h7 : d 51 7 ≠ 1) : d 51 6 < 400 := by
  have := h.p h7
  obtain ⟨⟨⟨hB, ⟨p1, p2, p3, p4, p5⟩, _⟩, _⟩, _⟩ := h
  have := hB.2
  omega
theorem LV.ok {d e : D9} (h : LV d e) (g : d 51 2 = 0) : OK d e := by
  rcases h with h | h
  · exact h
  · have := h.1; have := h.2.1; omega
theorem XR.bad {H : Int} {d e d1 e1 : D9} (a : FZ d d1) (b : FY e e1) (c : BD d1 e1) (u : 0 ≤ d1 46 1 ∧ d1 46 1 ≤ 400) : XR H d e d1 e1 :=
  ⟨a, b, Or.inr c, u, fun g => by have := c.1; have := c.2.1; omega⟩
theorem XR.pre {H : Int} {d e d1 e1 : D9} (x : XR H d e d1 e1) (p : PRE d e) : PRE d1 e1 := by
  refine ⟨x.2.2.1, x.2.2.2.1, fun o => ?_⟩
  obtain ⟨a, ap⟩ := x.2.2.2.2 o.2.1
  have q := p.2.2 (p.1.ok a)
  have n := ap.2.2.2.1.2.2
  have := ap.1
  have := ap.2.2.2.2.2
  omega
/-- a step of the text -/
theorem NX.pre {c : Int} {d e d1 e1 : D9} (x : NX c d e d1 e1) (hc : 0 ≤ c) (p : PRE d e) : PRE d1 e1 := by
  refine ⟨x.2.2.1, by rw [x.1.1 46 (by decide)]; exact p.2.1, fun o => ?_⟩
  have a := x.2.2.2 o.2.1
  have q := p.2.2 (p.1.ok a.1)
  rw [x.1.1 46 (by decide), x.2.1.2 18 (by omega)]
  omega
/-- a part of a test behind a step of the text -/
theorem XR.aft {c H : Int} {d e d1 e1 d2 e2 : D9} (x : NX c d e d1 e1) (hc : 0 ≤ c) (y : XR H d1 e1 d2 e2) : XR H d e d2 e2 := by
  refine ⟨x.1.z.tr y.1, x.2.1.y.tr y.2.1, y.2.2.1, y.2.2.2.1, fun g => ?_⟩
  obtain ⟨a, b1, b2, b3, b4, b5, b6⟩ := y.2.2.2.2 g
  have q := x.2.2.2 a
  have e46 : d1 46 = d 46 := x.1.1 46 (by decide)
  have e50 : d1 50 = d 50 := x.1.1 50 (by decide)
  have e181 : e1 181 = e 181 := x.2.1.1 181 (by decide)
  have e18 : e1 174 18 = e 174 18 := x.2.1.2 18 (by omega)
  have e19 : e1 174 19 = e 174 19 := x.2.1.2 19 (by omega)
  rw [e46, e18, e19] at b1
  rw [e46, e50] at b2
  rw [e18, e181] at b3
  rw [e18, e46] at b4
  rw [e46, e18] at b5
  rw [e46] at b6
  exact ⟨q.1, b1, b2, b3, b4, b5, by omega⟩
theorem XR.le {H H' : Int} {d e d1 e1 : D9} (x : XR H d e d1 e1) (h : H ≤ H') : XR H' d e d1 e1 :=
  ⟨x.1, x.2.1, x.2.2.1, x.2.2.2.1, fun g => by obtain ⟨a, b1, b2, b3, b4, b5, b6⟩ := x.2.2.2.2 g; exact ⟨a, b1, b2, b3, b4.le h, b5, b6⟩⟩

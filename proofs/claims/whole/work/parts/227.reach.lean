/-! what lies above and below: the class looks through bits -/
def E7 (d : D9) (x y : Int) : Prop := (0 ≤ x ∧ x < 30) ∧ (0 ≤ y ∧ y < 30) ∧ tb (d 7 x.toNat) y = true
theorem q_reach7_l {p : Int} {d : D9} (hb : ∀ x : Int, 0 ≤ x → x < 30 → 0 ≤ d 7 x.toNat ∧ d 7 x.toNat < 1073741824) (hp : 0 ≤ p ∧ p < 30) : ∀ (m f : Nat) (i seen op : Int), m < f → i + m = 30 → 0 ≤ i → (0 ≤ seen ∧ seen < 1073741824) → (0 ≤ op ∧ op < 1073741824) → bc seen = i →
    (∀ y, 0 ≤ y → y < 30 → tb seen y = true → tb op y = false) → (∀ y, 0 ≤ y → y < 30 → (tb seen y = true ∨ tb op y = true) → Relation.TransGen (E7 d) p y) → (∀ x, 0 ≤ x → x < 30 → tb seen x = true → ∀ y, 0 ≤ y → y < 30 → tb (d 7 x.toNat) y = true → tb seen y = true ∨ tb op y = true) → (∀ y, 0 ≤ y → y < 30 → tb (d 7 p.toNat) y = true → tb seen y = true ∨ tb op y = true) →
    ∃ r, (0 ≤ r ∧ r < 1073741824) ∧ fix9 (fun _ _ _ _ => none) (fun k => b_X3_reach_2_7_c10 k) f seen op i d = rt r d ∧ ∀ y, 0 ≤ y → y < 30 → (tb r y = true ↔ Relation.TransGen (E7 d) p y)
  | m, f + 1, i, seen, op, hf, hi, h0, hs, ho, hbc, hd, hR, hC, hB => by
    by_cases hz : op = 0
    · refine ⟨seen, hs, ?_, fun y a b => ⟨fun h => hR y a b (Or.inl h), fun h => ?_⟩⟩
      · show b_X3_reach_2_7_c10 _ seen op i d = _
        rw [b_X3_reach_2_7_c10, hz, w32_id (a := 0) (by omega)]
        split
        · rfl
        · rfl
      · subst hz
        have key : ∀ y, Relation.TransGen (E7 d) p y → tb seen y = true := by
          intro y h
          induction h with
          | single h => rcases hB _ h.2.1.1 h.2.1.2 h.2.2 with q | q
                        · exact q
                        · rw [tb_0] at q; cases q
          | tail _ h ih => rcases hC _ h.1.1 h.1.2 ih _ h.2.1.1 h.2.1.2 h.2.2 with q | q
                           · exact q
                           · rw [tb_0] at q; cases q
        exact key y h
    · match m, hf, hi with
      | 0, hf, hi =>
        exfalso
        apply hz
        have hfull := bc_full hs (by omega)
        exact tb_zero ho (fun y a b => hd y a b (hfull y a b))
      | m + 1, hf, hi =>
        obtain ⟨k, hk, e1, e2, _⟩ := low_bit (x := op) (by omega)
        have rk := shl9_rng hk
        have hbk := hb k hk.1 hk.2
        have r1 := or9_rng (a := seen) (b := shl9 1 k) (by omega)
        have r2 := or9_rng (a := op) (b := d 7 k.toNat) (by omega)
        have r3 := sub_rng (x := or9 op (d 7 k.toNat)) (y := or9 seen (shl9 1 k)) (by omega) (by omega)
        have ebc : bc (shl9 1 k - 1) = k := by
          rw [shl9_1 (by omega)]
          have := bc_pow k.toNat (by omega)
          omega
        have t1 : ∀ y, 0 ≤ y → tb (or9 seen (shl9 1 k)) y = (tb seen y || decide (k = y)) := by
          intro y a; rw [tb_or (by omega), tb_shl hk a]
        have t2 : ∀ y, 0 ≤ y → y < 30 → tb (and9 (or9 op (d 7 k.toNat)) (xor9 (or9 seen (shl9 1 k)) (-1))) y = ((tb op y || tb (d 7 k.toNat) y) && !(tb seen y || decide (k = y))) := by
          intro y a b; rw [tb_sub (by omega) (by omega) (by omega), tb_or (by omega), t1 y a]
        have sk' : tb seen k = false := by
          cases hh : tb seen k with
          | false => rfl
          | true => rw [hd k hk.1 hk.2 hh] at e2; cases e2
        have Rk := hR k hk.1 hk.2 (Or.inr e2)
        obtain ⟨r, q1, q2, q3⟩ := q_reach7_l hb hp m f (i + 1) (or9 seen (shl9 1 k)) (and9 (or9 op (d 7 k.toNat)) (xor9 (or9 seen (shl9 1 k)) (-1))) (by omega) (by omega) (by omega) r1 (by omega)
          (by rw [bc_or hs hk sk', hbc])
          (by intro y a b h; rw [t2 y a b]; rw [t1 y a] at h; rw [h]; simp)
          (by
            intro y a b h
            rw [t1 y a, t2 y a b] at h
            by_cases hy : k = y
            · subst hy; exact Rk
            · cases h1 : tb seen y with
              | true => exact hR y a b (Or.inl h1)
              | false =>
                cases h2 : tb op y with
                | true => exact hR y a b (Or.inr h2)
                | false =>
                  rw [h1, h2] at h
                  simp [hy] at h
                  exact Rk.tail ⟨hk, ⟨a, b⟩, h⟩)
          (by
            intro x a b h y a' b' hxy
            rw [t1 x a] at h
            rw [t1 y a', t2 y a' b']
            by_cases hx : k = x
            · subst hx
              rw [hxy]
              cases tb seen y || decide (k = y) <;> simp
            · have hx' : tb seen x = true := by simpa [hx] using h
              rcases hC x a b hx' y a' b' hxy with q | q
              · rw [q]; simp
              · rw [q]; cases tb seen y || decide (k = y) <;> simp)
          (by
            intro y a b h
            rw [t1 y a, t2 y a b]
            rcases hB y a b h with q | q
            · rw [q]; simp
            · rw [q]; cases tb seen y || decide (k = y) <;> simp)
        refine ⟨r, q1, ?_, q3⟩
        show b_X3_reach_2_7_c10 _ seen op i d = _
        rw [b_X3_reach_2_7_c10, w32_id (by omega), w32_id (a := i) (by omega), if_neg (by omega), w32_id (a := op) (by omega), if_neg hz, lt_v, e1, q_bc, cl_rt, ebc, lt_v, w32_id (a := k) (by omega), if_neg (by omega), ld_in (by omega), lt_v]
        exact q2
  | _, 0, _, _, _, hf, _, _, _, _, _, _, _, _, _ => absurd hf (Nat.not_lt_zero _)
theorem q_reach7 {p : Int} {d : D9} (hb : ∀ x : Int, 0 ≤ x → x < 30 → 0 ≤ d 7 x.toNat ∧ d 7 x.toNat < 1073741824) (hp : 0 ≤ p ∧ p < 30) : ∃ r, (0 ≤ r ∧ r < 1073741824) ∧ m_X3_reach_2_7 p d = rt r d ∧ ∀ y, 0 ≤ y → y < 30 → (tb r y = true ↔ Relation.TransGen (E7 d) p y) := by
  unfold m_X3_reach_2_7
  rw [ld_in (by omega)]
  exact q_reach7_l hb hp 30 FU 0 0 (d 7 p.toNat) (by decide) (by omega) (by omega) (by omega) (hb p hp.1 hp.2) bc_0
    (fun y _ _ h => by rw [tb_0] at h; cases h)
    (fun y a b h => by
      rcases h with h | h
      · rw [tb_0] at h; cases h
      · exact .single ⟨hp, ⟨a, b⟩, h⟩)
    (fun x _ _ h => by rw [tb_0] at h; cases h)
    (fun y a b h => Or.inr h)
def E8 (d : D9) (x y : Int) : Prop := (0 ≤ x ∧ x < 30) ∧ (0 ≤ y ∧ y < 30) ∧ tb (d 8 x.toNat) y = true
theorem q_reach8_l {p : Int} {d : D9} (hb : ∀ x : Int, 0 ≤ x → x < 30 → 0 ≤ d 8 x.toNat ∧ d 8 x.toNat < 1073741824) (hp : 0 ≤ p ∧ p < 30) : ∀ (m f : Nat) (i seen op : Int), m < f → i + m = 30 → 0 ≤ i → (0 ≤ seen ∧ seen < 1073741824) → (0 ≤ op ∧ op < 1073741824) → bc seen = i →
    (∀ y, 0 ≤ y → y < 30 → tb seen y = true → tb op y = false) → (∀ y, 0 ≤ y → y < 30 → (tb seen y = true ∨ tb op y = true) → Relation.TransGen (E8 d) p y) → (∀ x, 0 ≤ x → x < 30 → tb seen x = true → ∀ y, 0 ≤ y → y < 30 → tb (d 8 x.toNat) y = true → tb seen y = true ∨ tb op y = true) → (∀ y, 0 ≤ y → y < 30 → tb (d 8 p.toNat) y = true → tb seen y = true ∨ tb op y = true) →
    ∃ r, (0 ≤ r ∧ r < 1073741824) ∧ fix9 (fun _ _ _ _ => none) (fun k => b_X3_reach_2_8_c10 k) f seen op i d = rt r d ∧ ∀ y, 0 ≤ y → y < 30 → (tb r y = true ↔ Relation.TransGen (E8 d) p y)
  | m, f + 1, i, seen, op, hf, hi, h0, hs, ho, hbc, hd, hR, hC, hB => by
    by_cases hz : op = 0
    · refine ⟨seen, hs, ?_, fun y a b => ⟨fun h => hR y a b (Or.inl h), fun h => ?_⟩⟩
      · show b_X3_reach_2_8_c10 _ seen op i d = _
        rw [b_X3_reach_2_8_c10, hz, w32_id (a := 0) (by omega)]
        split
        · rfl
        · rfl
      · subst hz
        have key : ∀ y, Relation.TransGen (E8 d) p y → tb seen y = true := by
          intro y h
          induction h with
          | single h => rcases hB _ h.2.1.1 h.2.1.2 h.2.2 with q | q
                        · exact q
                        · rw [tb_0] at q; cases q
          | tail _ h ih => rcases hC _ h.1.1 h.1.2 ih _ h.2.1.1 h.2.1.2 h.2.2 with q | q
                           · exact q
                           · rw [tb_0] at q; cases q
        exact key y h
    · match m, hf, hi with
      | 0, hf, hi =>
        exfalso
        apply hz
        have hfull := bc_full hs (by omega)
        exact tb_zero ho (fun y a b => hd y a b (hfull y a b))
      | m + 1, hf, hi =>
        obtain ⟨k, hk, e1, e2, _⟩ := low_bit (x := op) (by omega)
        have rk := shl9_rng hk
        have hbk := hb k hk.1 hk.2
        have r1 := or9_rng (a := seen) (b := shl9 1 k) (by omega)
        have r2 := or9_rng (a := op) (b := d 8 k.toNat) (by omega)
        have r3 := sub_rng (x := or9 op (d 8 k.toNat)) (y := or9 seen (shl9 1 k)) (by omega) (by omega)
        have ebc : bc (shl9 1 k - 1) = k := by
          rw [shl9_1 (by omega)]
          have := bc_pow k.toNat (by omega)
          omega
        have t1 : ∀ y, 0 ≤ y → tb (or9 seen (shl9 1 k)) y = (tb seen y || decide (k = y)) := by
          intro y a; rw [tb_or (by omega), tb_shl hk a]
        have t2 : ∀ y, 0 ≤ y → y < 30 → tb (and9 (or9 op (d 8 k.toNat)) (xor9 (or9 seen (shl9 1 k)) (-1))) y = ((tb op y || tb (d 8 k.toNat) y) && !(tb seen y || decide (k = y))) := by
          intro y a b; rw [tb_sub (by omega) (by omega) (by omega), tb_or (by omega), t1 y a]
        have sk' : tb seen k = false := by
          cases hh : tb seen k with
          | false => rfl
          | true => rw [hd k hk.1 hk.2 hh] at e2; cases e2
        have Rk := hR k hk.1 hk.2 (Or.inr e2)
        obtain ⟨r, q1, q2, q3⟩ := q_reach8_l hb hp m f (i + 1) (or9 seen (shl9 1 k)) (and9 (or9 op (d 8 k.toNat)) (xor9 (or9 seen (shl9 1 k)) (-1))) (by omega) (by omega) (by omega) r1 (by omega)
          (by rw [bc_or hs hk sk', hbc])
          (by intro y a b h; rw [t2 y a b]; rw [t1 y a] at h; rw [h]; simp)
          (by
            intro y a b h
            rw [t1 y a, t2 y a b] at h
            by_cases hy : k = y
            · subst hy; exact Rk
            · cases h1 : tb seen y with
              | true => exact hR y a b (Or.inl h1)
              | false =>
                cases h2 : tb op y with
                | true => exact hR y a b (Or.inr h2)
                | false =>
                  rw [h1, h2] at h
                  simp [hy] at h
                  exact Rk.tail ⟨hk, ⟨a, b⟩, h⟩)
          (by
            intro x a b h y a' b' hxy
            rw [t1 x a] at h
            rw [t1 y a', t2 y a' b']
            by_cases hx : k = x
            · subst hx
              rw [hxy]
              cases tb seen y || decide (k = y) <;> simp
            · have hx' : tb seen x = true := by simpa [hx] using h
              rcases hC x a b hx' y a' b' hxy with q | q
              · rw [q]; simp
              · rw [q]; cases tb seen y || decide (k = y) <;> simp)
          (by
            intro y a b h
            rw [t1 y a, t2 y a b]
            rcases hB y a b h with q | q
            · rw [q]; simp
            · rw [q]; cases tb seen y || decide (k = y) <;> simp)
        refine ⟨r, q1, ?_, q3⟩
        show b_X3_reach_2_8_c10 _ seen op i d = _
        rw [b_X3_reach_2_8_c10, w32_id (by omega), w32_id (a := i) (by omega), if_neg (by omega), w32_id (a := op) (by omega), if_neg hz, lt_v, e1, q_bc, cl_rt, ebc, lt_v, w32_id (a := k) (by omega), if_neg (by omega), ld_in (by omega), lt_v]
        exact q2
  | _, 0, _, _, _, hf, _, _, _, _, _, _, _, _, _ => absurd hf (Nat.not_lt_zero _)
theorem q_reach8 {p : Int} {d : D9} (hb : ∀ x : Int, 0 ≤ x → x < 30 → 0 ≤ d 8 x.toNat ∧ d 8 x.toNat < 1073741824) (hp : 0 ≤ p ∧ p < 30) : ∃ r, (0 ≤ r ∧ r < 1073741824) ∧ m_X3_reach_2_8 p d = rt r d ∧ ∀ y, 0 ≤ y → y < 30 → (tb r y = true ↔ Relation.TransGen (E8 d) p y) := by
  unfold m_X3_reach_2_8
  rw [ld_in (by omega)]
  exact q_reach8_l hb hp 30 FU 0 0 (d 8 p.toNat) (by decide) (by omega) (by omega) (by omega) (hb p hp.1 hp.2) bc_0
    (fun y _ _ h => by rw [tb_0] at h; cases h)
    (fun y a b h => by
      rcases h with h | h
      · rw [tb_0] at h; cases h
      · exact .single ⟨hp, ⟨a, b⟩, h⟩)
    (fun x _ _ h => by rw [tb_0] at h; cases h)
    (fun y a b h => Or.inr h)

/-! a new layer -/
theorem lst_c2 {t t' : Nat → Int} {s l : Int} {m : Bool} (h : t' 6 = t 6 ∧ t' 7 = t 7 ∧ t' 8 = t 8 ∧ t' 9 = t 9 ∧ t' 10 = t 10) (h0 : sk t' s (5 + 3 * l + 0) = sk t s (5 + 3 * l + 0)) (h1 : sk t' s (5 + 3 * l + 1) = sk t s (5 + 3 * l + 1)) (h2 : sk t' s (5 + 3 * l + 2) = sk t s (5 + 3 * l + 2)) : lst t' s l m = lst t s l m := by
  obtain ⟨x6, x7, x8, x9, x10⟩ := h
  unfold lst tha spa thn spn goal
  rw [h0, h1, h2, x6, x7, x8, x9, x10]
def nly (t t' : Nat → Int) (s a b e : Int) : Prop := sk t' s 4 = sk t s 4 + 1 ∧ sk t' s (5 + 3 * sk t s 4 + 0) = a ∧ sk t' s (5 + 3 * sk t s 4 + 1) = b ∧ sk t' s (5 + 3 * sk t s 4 + 2) = e ∧ ∀ j : Nat, (j : Int) ≠ 336 + 17 * s + 4 → ((j : Int) < 336 + 17 * s + 5 + 3 * sk t s 4 ∨ 336 + 17 * s + 8 + 3 * sk t s 4 ≤ j) → t' j = t j
def C5 (a : Int) : Prop := 0 ≤ a ∧ a ≤ 9999
theorem T_layer {t t' : Nat → Int} {d : D9} {s a b e : Int} (k : TK t) (r : RW d t) (hs : 0 ≤ s ∧ s < t 1) (hL : sk t s 4 < 4) (ha : C5 a) (hb : C5 b) (he : C5 e) (h : nly t t' s a b e) :
    ∃ d1, m_X6_addLayer_9_22 s a b e d = rt (sk t s 4 + 1) d1 ∧ (∀ k, k < 9 ∨ 21 < k → d1 k = d k) ∧ TK t' ∧ RW d1 t' := by
  have n := TKn k
  unfold T7n at n
  obtain ⟨e4, ea, eb, ee, hf⟩ := h
  have hS := TKs k s hs.1 hs.2
  obtain ⟨s0, s1, s2, s3, s4, s5⟩ := hS
  have hN : ∀ j : Nat, j < 336 → t' j = t j := fun j y => hf j (by omega) (by omega)
  have hO : ∀ s', 0 ≤ s' → s' < t 1 → s' ≠ s → ∀ w, 0 ≤ w → w < 17 → sk t' s' w = sk t s' w := fun s' x y z w u v => hf _ (by omega) (by omega)
  have hW : ∀ w, 0 ≤ w → w < 5 + 3 * sk t s 4 → w ≠ 4 → sk t' s w = sk t s w := fun w u v z => hf _ (by omega) (by omega)
  have hK : SK7 t' s := by
    unfold SK7
    rw [hW 0 (by omega) (by omega) (by omega), hW 1 (by omega) (by omega) (by omega), hW 2 (by omega) (by omega) (by omega), hW 3 (by omega) (by omega) (by omega), e4, hN 0 (by omega)]
    refine ⟨s0, s1, s2, s3, by omega, fun l u v w x y => ?_⟩
    by_cases z : l = sk t s 4
    · rw [z]
      obtain rfl | rfl | rfl : w = 0 ∨ w = 1 ∨ w = 2 := by omega
      · rw [ea]; exact ha
      · rw [eb]; exact hb
      · rw [ee]; exact he
    · rw [hW _ (by omega) (by omega) (by omega)]
      exact s5 l u (by omega) w x y
  have hT : T7s t' := fun s' x y => by
    rw [hN 1 (by omega)] at y
    by_cases z : s' = s
    · rw [z]; exact hK
    · exact SK7_c (by rw [hN 0 (by omega)]; omega) (hO s' x y z) (TKs k s' x y)
  have kT := TK_sk k (fun j x y => hf j (by omega) (by omega)) (by rw [hN 1 (by omega)]; omega) hT
  obtain ⟨⟨y0, y1, y2, y3, y4, y5⟩, z1, z2⟩ := (RWs r).2 s hs.1 hs.2
  have h5 : t' 6 = t 6 ∧ t' 7 = t 7 ∧ t' 8 = t 8 ∧ t' 9 = t 9 ∧ t' 10 = t 10 := ⟨hN 6 (by omega), hN 7 (by omega), hN 8 (by omega), hN 9 (by omega), hN 10 (by omega)⟩
  have eL : sk t' s 4 - 1 = sk t s 4 := by omega
  obtain ⟨d1, a1, a2, a3, a4, a5⟩ := q_addLayer (s := s) (a := a) (b := b) (e := e) (d := d) (t := t') (TKl kT) (R7l_t (hN 4 (by omega)) (fun j x y => hN j (by omega)) (RWl r)) (by omega) hK (by omega) (by rw [y4, eL]) (by rw [eL, ea]) (by rw [eL, eb]) (by rw [eL, ee]) (by rw [y0, hW 0 (by omega) (by omega) (by omega)]) (by rw [y1, hW 1 (by omega) (by omega) (by omega)]) (by rw [y2, hW 1 (by omega) (by omega) (by omega), hW 2 (by omega) (by omega) (by omega)]) (by rw [y3, hW 3 (by omega) (by omega) (by omega)])
    (fun l u v => by
      rw [eL] at v
      unfold RB7
      rw [hW _ (by omega) (by omega) (by omega), hW _ (by omega) (by omega) (by omega), hW _ (by omega) (by omega) (by omega)]
      exact y5 l u v)
    (fun l u v => by
      rw [eL] at v
      unfold RE7
      rw [lst_c2 h5 (hW _ (by omega) (by omega) (by omega)) (hW _ (by omega) (by omega) (by omega)) (hW _ (by omega) (by omega) (by omega)), lst_c2 h5 (hW _ (by omega) (by omega) (by omega)) (hW _ (by omega) (by omega) (by omega)) (hW _ (by omega) (by omega) (by omega))]
      exact z1 l u v)
  rw [e4] at a1
  have c6 : ∀ k, k < 14 ∨ 21 < k → d1 k = d k := fun k x => by
    funext j
    exact a5 k j (by omega)
  refine ⟨d1, a1, fun k x => c6 k (by omega), kT, RW_sk k r (fun j x y => hf j (by omega) (by omega)) (fun k x => c6 k (by omega)) ⟨by rw [c6 9 (by omega), hN 1 (by omega), (RWs r).1], fun s' x y => ?_⟩⟩
  rw [hN 1 (by omega)] at y
  by_cases z : s' = s
  · rw [z]; exact ⟨a2, a3, a4⟩
  · obtain ⟨w0, w1, w2⟩ := (RWs r).2 s' x y
    have q4 := (TKs k s' x y).2.2.2.2.1
    exact RS_t ⟨h5, hO s' x y z⟩ q4 ⟨RA7_fr w0 (fun k hk => a5 k _ (by omega)) (fun k l hk _ _ => a5 k _ (by omega)), RC7_fr w1 (fun k l hk _ _ => a5 k _ (by omega)), RJ7_fr w2 (fun k hk => a5 k _ (by omega))⟩
theorem p_addLayer {t : Nat → Int} {d : D9} {s a b e : Int} (k : TK t) (h : d 175 = t) (hs : 0 ≤ s ∧ s < t 1) (hL : sk t s 4 < 4) : ∃ d2, m_X12_addLayer_174 s a b e d = rt 0 d2 ∧ (∀ k, k ≠ 175 → d2 k = d k) ∧ nly t (d2 175) s a b e := by
  have n := TKn k
  unfold T7n at n
  obtain ⟨s0, s1, s2, s3, s4, s5⟩ := TKs k s hs.1 hs.2
  have x4 : t (336 + 17 * s + 4).toNat = sk t s 4 := rfl
  refine ⟨up (up (up (up d 175 (336 + 17 * s + 5 + 3 * sk t s 4).toNat a) 175 (336 + 17 * s + 5 + 3 * sk t s 4 + 1).toNat b) 175 (336 + 17 * s + 5 + 3 * sk t s 4 + 2).toNat e) 175 (336 + 17 * s + 4).toNat (sk t s 4 + 1), ?_, fun k x => by simp (disch := omega) only [up_o], ?_⟩
  · unfold m_X12_addLayer_174
    rw [lt_v, ld_in (by omega), h, x4, lt_v, sd_in (by omega), sd_in (by omega), sd_in (by omega), ld_in (by omega), sd_in (by omega)]
    simp (disch := omega) only [up_us, us_ne, us_eq, h, x4]
  · unfold nly
    simp only [up_us, h]
    refine ⟨?_, ?_, ?_, ?_, fun j x y => ?_⟩
    · rw [sk, us_eq rfl]
    · unfold sk at *
      simp (disch := omega) only [us_ne, us_eq]
    · unfold sk at *
      simp (disch := omega) only [us_ne, us_eq]
    · unfold sk at *
      simp (disch := omega) only [us_ne, us_eq]
    · simp (disch := omega) only [us_ne]

/-! the law's loop -/
theorem tc_rt (v : Int) (d : D9) (K : Int → D9 → Option R9) (H : Nat → D9 → Option R9) : tc9 (rt v d) K H = K v d := rfl
theorem tc_th (e : Nat) (d : D9) (K : Int → D9 → Option R9) (H : Nat → D9 → Option R9) : tc9 (th e d) K H = H e d := rfl
theorem cz_rt (v : Int) (d : D9) (K : Int → D9 → Option R9) : cz (rt v d) K = K v d := rfl
theorem p_thrown (d : D9) : m_X12_thrown_174 d = rt (d 174 3) d := rfl
theorem scr_in {xs : Nat → Int} {L : Nat} {j : Int} (h : 0 ≤ j ∧ j < L ∧ L ≤ 10000) (K : Int → Option R9) : scr xs L j K = K (xs j.toNat) := by
  unfold scr; rw [w32_id (by omega), if_pos ⟨h.1, h.2.1⟩]
theorem cl_inv {x : Option R9} {v : Int} {d : D9} (h : cl x (fun _ d2 => rt 0 d2) = rt v d) : ∃ b, x = rt b d := by
  rcases x with _ | ⟨y | y, z⟩
  · cases h
  · exact ⟨y, by rw [show (some (Sum.inl y, z) : Option R9) = rt y z from rfl, (rt_inj (show rt 0 z = rt v d from h)).2]⟩
  · cases h
def F4 (f : Nat → Int) : Prop := ∀ e, 0 ≤ f e ∧ f e ≤ 4
theorem la_int {d : D9} {c : Option R9} {m : D9 → Option R9} {f : Nat → Int} {Hh : Nat → D9 → Option R9} {kc : Int → D9 → Option R9} {v4 : Int} (h : AI d c m f) (hH : ∀ e d, f e ≠ 0 → Hh e d = rt (f e) d) (hf : F4 f) : ∃ d2, INV d2 ∧ cz (tc9 c (fun r1 d2 => sd d2 194 1 0 (w32 r1) (fun d3 => rt 0 d3)) Hh) (fun r4 d5 => cz (m d5) (fun r9 d10 => cz (m_X12_thrown_174 d10) (fun r11 d12 => if w32 r11 = w32 r4 then if w32 r4 ≠ 0 then kc (v4 + 7) d12 else ld d12 194 1 0 (fun t13 => if w64 t13 = w64 (w32 r9) then kc (v4 + 7) d12 else none) else none))) = kc (v4 + 7) d2 := by
  rcases h with ⟨v, d1, hc, g⟩ | ⟨e, d1, ⟨hc, he⟩, g⟩
  · have x : X4 d1 (up d1 194 0 (w32 v)) := fun k hk => up_o hk
    obtain ⟨d2, a1, a2, a3, a4⟩ := g _ x
    refine ⟨d2, a2, ?_⟩
    rw [hc, tc_rt, sd_in (by omega), Int.toNat_zero, cz_rt, a1, cz_rt, p_thrown, cz_rt, a4, if_pos rfl, if_neg (show ¬ w32 0 ≠ 0 by decide), ld_in (by omega), Int.toNat_zero, a3, up_same, if_pos rfl]
  · obtain ⟨b, d2, a1, a2, a3, a4⟩ := g d1 (fun _ _ => rfl)
    refine ⟨d2, a2, ?_⟩
    have := hf e
    rw [hc, tc_th, hH e d1 he, cz_rt, a1, cz_rt, p_thrown, cz_rt, a4, if_pos rfl, if_pos (by rw [wi (by omega)]; exact he)]
theorem la_long {d : D9} {c : Option R9} {m : D9 → Option R9} {f : Nat → Int} {Hh : Nat → D9 → Option R9} {kc : Int → D9 → Option R9} {v4 : Int} (h : AI d c m f) (hH : ∀ e d, f e ≠ 0 → Hh e d = rt (f e) d) (hf : F4 f) : ∃ d2, INV d2 ∧ cz (tc9 c (fun r1 d2 => sd d2 194 1 0 r1 (fun d3 => rt 0 d3)) Hh) (fun r4 d5 => cz (m d5) (fun r9 d10 => cz (m_X12_thrown_174 d10) (fun r11 d12 => if w32 r11 = w32 r4 then if w32 r4 ≠ 0 then kc (v4 + 7) d12 else ld d12 194 1 0 (fun t13 => if w64 t13 = w64 r9 then kc (v4 + 7) d12 else none) else none))) = kc (v4 + 7) d2 := by
  rcases h with ⟨v, d1, hc, g⟩ | ⟨e, d1, ⟨hc, he⟩, g⟩
  · have x : X4 d1 (up d1 194 0 v) := fun k hk => up_o hk
    obtain ⟨d2, a1, a2, a3, a4⟩ := g _ x
    refine ⟨d2, a2, ?_⟩
    rw [hc, tc_rt, sd_in (by omega), Int.toNat_zero, cz_rt, a1, cz_rt, p_thrown, cz_rt, a4, if_pos rfl, if_neg (show ¬ w32 0 ≠ 0 by decide), ld_in (by omega), Int.toNat_zero, a3, up_same, if_pos rfl]
  · obtain ⟨b, d2, a1, a2, a3, a4⟩ := g d1 (fun _ _ => rfl)
    refine ⟨d2, a2, ?_⟩
    have := hf e
    rw [hc, tc_th, hH e d1 he, cz_rt, a1, cz_rt, p_thrown, cz_rt, a4, if_pos rfl, if_pos (by rw [wi (by omega)]; exact he)]
theorem la_bool {d : D9} {c : Option R9} {m : D9 → Option R9} {f : Nat → Int} {Hh : Nat → D9 → Option R9} {kc : Int → D9 → Option R9} {v4 : Int} (h : AI d c m f) (hH : ∀ e d, f e ≠ 0 → Hh e d = rt (f e) d) (hf : F4 f) : ∃ d2, INV d2 ∧ cz (tc9 c (fun r1 d2 => if w32 r1 = 0 then sd d2 194 1 0 0 (fun d3 => rt 0 d3) else sd d2 194 1 0 1 (fun d4 => rt 0 d4)) Hh) (fun r3 d4 => cz (m d4) (fun r7 d8 => cz (m_X12_thrown_174 d8) (fun r9 d10 => if w32 r9 = w32 r3 then if w32 r3 ≠ 0 then kc (v4 + 7) d10 else ld d10 194 1 0 (fun t11 => if w32 r7 = 0 then if w64 t11 = w64 0 then kc (v4 + 7) d10 else none else if w64 t11 = w64 1 then kc (v4 + 7) d10 else none) else none))) = kc (v4 + 7) d2 := by
  rcases h with ⟨v, d1, hc, g⟩ | ⟨e, d1, ⟨hc, he⟩, g⟩
  · have fin : ∀ y : Int, (w32 v = 0 ∧ y = 0) ∨ (¬ w32 v = 0 ∧ y = 1) → ∃ d2, INV d2 ∧ cz (rt 0 (up d1 194 0 y)) (fun r3 d4 => cz (m d4) (fun r7 d8 => cz (m_X12_thrown_174 d8) (fun r9 d10 => if w32 r9 = w32 r3 then if w32 r3 ≠ 0 then kc (v4 + 7) d10 else ld d10 194 1 0 (fun t11 => if w32 r7 = 0 then if w64 t11 = w64 0 then kc (v4 + 7) d10 else none else if w64 t11 = w64 1 then kc (v4 + 7) d10 else none) else none))) = kc (v4 + 7) d2 := fun y hy => by
      have x : X4 d1 (up d1 194 0 y) := fun k hk => up_o hk
      obtain ⟨d2, a1, a2, a3, a4⟩ := g _ x
      refine ⟨d2, a2, ?_⟩
      rw [cz_rt, a1, cz_rt, p_thrown, cz_rt, a4, if_pos rfl, if_neg (show ¬ w32 0 ≠ 0 by decide), ld_in (by omega), Int.toNat_zero, a3, up_same]
      rcases hy with ⟨h1, h2⟩ | ⟨h1, h2⟩
      · rw [if_pos h1, h2, if_pos rfl]
      · rw [if_neg h1, h2, if_pos rfl]
    rw [hc, tc_rt]
    by_cases q : w32 v = 0
    · rw [if_pos q, sd_in (by omega), Int.toNat_zero]
      exact fin 0 (Or.inl ⟨q, rfl⟩)
    · rw [if_neg q, sd_in (by omega), Int.toNat_zero]
      exact fin 1 (Or.inr ⟨q, rfl⟩)
  · obtain ⟨b, d2, a1, a2, a3, a4⟩ := g d1 (fun _ _ => rfl)
    refine ⟨d2, a2, ?_⟩
    have := hf e
    rw [hc, tc_th, hH e d1 he, cz_rt, a1, cz_rt, p_thrown, cz_rt, a4, if_pos rfl, if_pos (by rw [wi (by omega)]; exact he)]
theorem la_void {d : D9} {c : Option R9} {m m0 : D9 → Option R9} {f : Nat → Int} {Hh : Nat → D9 → Option R9} {kc : Int → D9 → Option R9} {v4 : Int} (h : AI d c m f) (hm : ∀ d' v d2, m d' = rt v d2 → ∃ b, m0 d' = rt b d2) (hH : ∀ e d, f e ≠ 0 → Hh e d = rt (f e) d) : ∃ d2, INV d2 ∧ cz (tc9 c (fun r1 d2 => rt 0 d2) Hh) (fun r4 d5 => cz (m0 d5) (fun r9 d10 => cz (m_X12_thrown_174 d10) (fun r11 d12 => if w32 r11 = w32 r4 then kc (v4 + 7) d12 else none))) = kc (v4 + 7) d2 := by
  rcases h with ⟨v, d1, hc, g⟩ | ⟨e, d1, ⟨hc, he⟩, g⟩
  · obtain ⟨d2, a1, a2, a3, a4⟩ := g d1 (fun _ _ => rfl)
    obtain ⟨b, a1⟩ := hm _ _ _ a1
    refine ⟨d2, a2, ?_⟩
    rw [hc, tc_rt, cz_rt, a1, cz_rt, p_thrown, cz_rt, a4, if_pos rfl]
  · obtain ⟨b, d2, a1, a2, a3, a4⟩ := g d1 (fun _ _ => rfl)
    obtain ⟨b, a1⟩ := hm _ _ _ a1
    refine ⟨d2, a2, ?_⟩
    rw [hc, tc_th, hH e d1 he, cz_rt, a1, cz_rt, p_thrown, cz_rt, a4, if_pos rfl]
theorem la_dir {d : D9} {c : Option R9} {m : D9 → Option R9} {kc : Int → D9 → Option R9} {v4 : Int} (h : AI d c m fZ) : ∃ d2, INV d2 ∧ cz c (fun r2 d3 => cz (m d3) (fun r5 d6 => if w32 r2 = w32 r5 then kc (v4 + 7) d6 else none)) = kc (v4 + 7) d2 := by
  rcases h with ⟨v, d1, hc, g⟩ | ⟨e, d1, ⟨hc, he⟩, g⟩
  · obtain ⟨d2, a1, a2, a3, a4⟩ := g d1 (fun _ _ => rfl)
    refine ⟨d2, a2, ?_⟩
    rw [hc, cz_rt, a1, cz_rt, if_pos rfl]
  · exact absurd rfl he
theorem la_dirL {d : D9} {c : Option R9} {m : D9 → Option R9} {kc : Int → D9 → Option R9} {v4 : Int} (h : AI d c m fZ) : ∃ d2, INV d2 ∧ cz c (fun r2 d3 => cz (m d3) (fun r5 d6 => if w64 r2 = w64 r5 then kc (v4 + 7) d6 else none)) = kc (v4 + 7) d2 := by
  rcases h with ⟨v, d1, hc, g⟩ | ⟨e, d1, ⟨hc, he⟩, g⟩
  · obtain ⟨d2, a1, a2, a3, a4⟩ := g d1 (fun _ _ => rfl)
    refine ⟨d2, a2, ?_⟩
    rw [hc, cz_rt, a1, cz_rt, if_pos rfl]
  · exact absurd rfl he
theorem hh_A (e : Nat) (d : D9) (h : fA e ≠ 0) : (if e = 0 then rt 1 d else none) = rt (fA e) d := by
  unfold fA at *
  by_cases c0 : e = 0
  · subst c0; rfl
  rw [if_neg c0] at h
  exact absurd rfl h
theorem f4_A : F4 fA := fun e => by
  unfold fA
  split
  · decide
  decide
theorem hh_B (e : Nat) (d : D9) (h : fB e ≠ 0) : (if e = 2 then rt 1 d else none) = rt (fB e) d := by
  unfold fB at *
  by_cases c2 : e = 2
  · subst c2; rfl
  rw [if_neg c2] at h
  exact absurd rfl h
theorem f4_B : F4 fB := fun e => by
  unfold fB
  split
  · decide
  decide
theorem hh_N (e : Nat) (d : D9) (h : fN e ≠ 0) : (if e = 2 then rt 1 d else if e = 0 then rt 2 d else none) = rt (fN e) d := by
  unfold fN at *
  by_cases c2 : e = 2
  · subst c2; rfl
  by_cases c0 : e = 0
  · subst c0; rfl
  rw [if_neg c2, if_neg c0] at h
  exact absurd rfl h
theorem f4_N : F4 fN := fun e => by
  unfold fN
  split
  · decide
  split
  · decide
  decide
theorem hh_1 (e : Nat) (d : D9) (h : f1 e ≠ 0) : (if e = 2 then rt 1 d else if e = 1 then rt 2 d else if e = 0 then rt 3 d else none) = rt (f1 e) d := by
  unfold f1 at *
  by_cases c2 : e = 2
  · subst c2; rfl
  by_cases c1 : e = 1
  · subst c1; rfl
  by_cases c0 : e = 0
  · subst c0; rfl
  rw [if_neg c2, if_neg c1, if_neg c0] at h
  exact absurd rfl h
theorem f4_1 : F4 f1 := fun e => by
  unfold f1
  split
  · decide
  split
  · decide
  split
  · decide
  decide
theorem hh_S (e : Nat) (d : D9) (h : fS e ≠ 0) : (if e = 2 then rt 1 d else if e = 1 then rt 2 d else none) = rt (fS e) d := by
  unfold fS at *
  by_cases c2 : e = 2
  · subst c2; rfl
  by_cases c1 : e = 1
  · subst c1; rfl
  rw [if_neg c2, if_neg c1] at h
  exact absurd rfl h
theorem f4_S : F4 fS := fun e => by
  unfold fS
  split
  · decide
  split
  · decide
  decide
theorem hh_W (e : Nat) (d : D9) (h : fW e ≠ 0) : (if e = 2 then rt 1 d else if e = 1 then rt 2 d else if e = 3 then rt 3 d else none) = rt (fW e) d := by
  unfold fW at *
  by_cases c2 : e = 2
  · subst c2; rfl
  by_cases c1 : e = 1
  · subst c1; rfl
  by_cases c3 : e = 3
  · subst c3; rfl
  rw [if_neg c2, if_neg c1, if_neg c3] at h
  exact absurd rfl h
theorem f4_W : F4 fW := fun e => by
  unfold fW
  split
  · decide
  split
  · decide
  split
  · decide
  decide
theorem hh_P (e : Nat) (d : D9) (h : fP e ≠ 0) : (if e = 2 then rt 1 d else if e = 1 then rt 2 d else if e = 3 then rt 3 d else if e = 0 then rt 4 d else none) = rt (fP e) d := by
  unfold fP at *
  by_cases c2 : e = 2
  · subst c2; rfl
  by_cases c1 : e = 1
  · subst c1; rfl
  by_cases c3 : e = 3
  · subst c3; rfl
  by_cases c0 : e = 0
  · subst c0; rfl
  rw [if_neg c2, if_neg c1, if_neg c3, if_neg c0] at h
  exact absurd rfl h
theorem f4_P : F4 fP := fun e => by
  unfold fP
  split
  · decide
  split
  · decide
  split
  · decide
  split
  · decide
  decide
def SQ9 (xs : Nat → Int) (L : Nat) (v4 : Int) : Prop := (0 ≤ v4 ∧ v4 + 7 ≤ L ∧ L ≤ 3584) ∧ ∀ j, I32 (xs j)
theorem SQ9.r {xs : Nat → Int} {L : Nat} {v4 : Int} (h : SQ9 xs L v4) (i : Int) (hi : 0 ≤ i ∧ i ≤ 6) (K : Int → Option R9) : scr xs L (v4 + i) K = K (xs (v4 + i).toNat) := scr_in (by have := h.1; omega) K
theorem orL_I (a b : Int) : I64 (orL a b) := by
  unfold I64 orL
  have h1 := Int64.minValue_le_toInt (Int64.ofInt a ||| Int64.ofInt b)
  have h2 := Int64.toInt_le (Int64.ofInt a ||| Int64.ofInt b)
  exact ⟨h1, h2⟩
theorem lc_0 {xs : Nat → Int} {L : Nat} {kc : Int → D9 → Option R9} {v4 : Int} {d : D9} (v : INV d) (hs : SQ9 xs L v4) : ∃ d2, INV d2 ∧ m_L_case_0 xs L kc v4 d = kc (v4 + 7) d2 := by
  unfold m_L_case_0 m_L_paint
  simp only [hs.r 1 (by omega), hs.r 2 (by omega), hs.r 3 (by omega), hs.r 4 (by omega), hs.r 5 (by omega), hs.r 6 (by omega)]
  exact la_int (o_paint v (hs.2 _) (hs.2 _) (hs.2 _)) hh_A f4_A
theorem lc_1 {xs : Nat → Int} {L : Nat} {kc : Int → D9 → Option R9} {v4 : Int} {d : D9} (v : INV d) (hs : SQ9 xs L v4) : ∃ d2, INV d2 ∧ m_L_case_1 xs L kc v4 d = kc (v4 + 7) d2 := by
  unfold m_L_case_1 m_L_fingers
  simp only [hs.r 1 (by omega), hs.r 2 (by omega), hs.r 3 (by omega), hs.r 4 (by omega), hs.r 5 (by omega), hs.r 6 (by omega)]
  exact la_void (o_fingers v (hs.2 _) (hs.2 _) (hs.2 _) (hs.2 _) (hs.2 _) (hs.2 _)) (fun _ _ _ h => ⟨_, h⟩) hh_1
theorem lc_2 {xs : Nat → Int} {L : Nat} {kc : Int → D9 → Option R9} {v4 : Int} {d : D9} (v : INV d) (hs : SQ9 xs L v4) : ∃ d2, INV d2 ∧ m_L_case_2 xs L kc v4 d = kc (v4 + 7) d2 := by
  unfold m_L_case_2 m_L_over
  simp only [hs.r 1 (by omega), hs.r 2 (by omega), hs.r 3 (by omega), hs.r 4 (by omega), hs.r 5 (by omega), hs.r 6 (by omega)]
  exact la_bool (o_over v (hs.2 _) (hs.2 _)) hh_N f4_N
theorem lc_3 {xs : Nat → Int} {L : Nat} {kc : Int → D9 → Option R9} {v4 : Int} {d : D9} (v : INV d) (hs : SQ9 xs L v4) : ∃ d2, INV d2 ∧ m_L_case_3 xs L kc v4 d = kc (v4 + 7) d2 := by
  unfold m_L_case_3 m_L_skin
  simp only [hs.r 1 (by omega), hs.r 2 (by omega), hs.r 3 (by omega), hs.r 4 (by omega), hs.r 5 (by omega), hs.r 6 (by omega)]
  exact la_int (o_skin v (hs.2 _) (hs.2 _) (hs.2 _) (hs.2 _)) hh_N f4_N
theorem lc_4 {xs : Nat → Int} {L : Nat} {kc : Int → D9 → Option R9} {v4 : Int} {d : D9} (v : INV d) (hs : SQ9 xs L v4) : ∃ d2, INV d2 ∧ m_L_case_4 xs L kc v4 d = kc (v4 + 7) d2 := by
  unfold m_L_case_4 m_L_layer
  simp only [hs.r 1 (by omega), hs.r 2 (by omega), hs.r 3 (by omega), hs.r 4 (by omega), hs.r 5 (by omega), hs.r 6 (by omega)]
  exact la_int (o_layer v (hs.2 _) (hs.2 _) (hs.2 _) (hs.2 _)) hh_N f4_N
theorem lc_5 {xs : Nat → Int} {L : Nat} {kc : Int → D9 → Option R9} {v4 : Int} {d : D9} (v : INV d) (hs : SQ9 xs L v4) : ∃ d2, INV d2 ∧ m_L_case_5 xs L kc v4 d = kc (v4 + 7) d2 := by
  unfold m_L_case_5 m_L_of
  simp only [hs.r 1 (by omega), hs.r 2 (by omega), hs.r 3 (by omega), hs.r 4 (by omega), hs.r 5 (by omega), hs.r 6 (by omega)]
  exact la_int (AG.ai v (o_of v.1 (hs.2 _) (hs.2 _))) hh_N f4_N
theorem lc_6 {xs : Nat → Int} {L : Nat} {kc : Int → D9 → Option R9} {v4 : Int} {d : D9} (v : INV d) (hs : SQ9 xs L v4) : ∃ d2, INV d2 ∧ m_L_case_6 xs L kc v4 d = kc (v4 + 7) d2 := by
  unfold m_L_case_6
  simp only [hs.r 1 (by omega), hs.r 2 (by omega), hs.r 3 (by omega), hs.r 4 (by omega), hs.r 5 (by omega), hs.r 6 (by omega)]
  exact la_dir (o_feed v)
theorem lc_7 {xs : Nat → Int} {L : Nat} {kc : Int → D9 → Option R9} {v4 : Int} {d : D9} (v : INV d) (hs : SQ9 xs L v4) : ∃ d2, INV d2 ∧ m_L_case_7 xs L kc v4 d = kc (v4 + 7) d2 := by
  unfold m_L_case_7 m_L_law
  simp only [hs.r 1 (by omega), hs.r 2 (by omega), hs.r 3 (by omega), hs.r 4 (by omega), hs.r 5 (by omega), hs.r 6 (by omega)]
  exact la_int (o_law v (hs.2 _)) hh_A f4_A
theorem lc_8 {xs : Nat → Int} {L : Nat} {kc : Int → D9 → Option R9} {v4 : Int} {d : D9} (v : INV d) (hs : SQ9 xs L v4) : ∃ d2, INV d2 ∧ m_L_case_8 xs L kc v4 d = kc (v4 + 7) d2 := by
  unfold m_L_case_8 m_L_stories
  simp only [hs.r 1 (by omega), hs.r 2 (by omega), hs.r 3 (by omega), hs.r 4 (by omega), hs.r 5 (by omega), hs.r 6 (by omega)]
  exact la_int (o_stories v (hs.2 _)) hh_A f4_A
theorem lc_9 {xs : Nat → Int} {L : Nat} {kc : Int → D9 → Option R9} {v4 : Int} {d : D9} (v : INV d) (hs : SQ9 xs L v4) : ∃ d2, INV d2 ∧ m_L_case_9 xs L kc v4 d = kc (v4 + 7) d2 := by
  unfold m_L_case_9 m_L_scrapers
  simp only [hs.r 1 (by omega), hs.r 2 (by omega), hs.r 3 (by omega), hs.r 4 (by omega), hs.r 5 (by omega), hs.r 6 (by omega)]
  exact la_int (o_scrapers v (hs.2 _)) hh_A f4_A
theorem lc_10 {xs : Nat → Int} {L : Nat} {kc : Int → D9 → Option R9} {v4 : Int} {d : D9} (v : INV d) (hs : SQ9 xs L v4) : ∃ d2, INV d2 ∧ m_L_case_10 xs L kc v4 d = kc (v4 + 7) d2 := by
  unfold m_L_case_10
  simp only [hs.r 1 (by omega), hs.r 2 (by omega), hs.r 3 (by omega), hs.r 4 (by omega), hs.r 5 (by omega), hs.r 6 (by omega)]
  exact la_dir (AG.ai v (o_fault v.2.2.1.1.2.1 v.2.2.1.1.2.2))
theorem lc_11 {xs : Nat → Int} {L : Nat} {kc : Int → D9 → Option R9} {v4 : Int} {d : D9} (v : INV d) (hs : SQ9 xs L v4) : ∃ d2, INV d2 ∧ m_L_case_11 xs L kc v4 d = kc (v4 + 7) d2 := by
  unfold m_L_case_11 m_L_age
  simp only [hs.r 1 (by omega), hs.r 2 (by omega), hs.r 3 (by omega), hs.r 4 (by omega), hs.r 5 (by omega), hs.r 6 (by omega)]
  exact la_int (AG.ai v (o_age v.1 (hs.2 _) (hs.2 _) (hs.2 _) (hs.2 _))) hh_A f4_A
theorem lc_12 {xs : Nat → Int} {L : Nat} {kc : Int → D9 → Option R9} {v4 : Int} {d : D9} (v : INV d) (hs : SQ9 xs L v4) : ∃ d2, INV d2 ∧ m_L_case_12 xs L kc v4 d = kc (v4 + 7) d2 := by
  unfold m_L_case_12 m_L_span
  simp only [hs.r 1 (by omega), hs.r 2 (by omega), hs.r 3 (by omega), hs.r 4 (by omega), hs.r 5 (by omega), hs.r 6 (by omega)]
  by_cases c : w32 (xs (v4 + 3).toNat) = 0
  · simp only [c, if_true]
    exact la_int (AG.ai v (o_span v.1 (hs.2 _) (hs.2 _) (Or.inl rfl))) hh_B f4_B
  · simp only [c, if_false]
    exact la_int (AG.ai v (o_span v.1 (hs.2 _) (hs.2 _) (Or.inr rfl))) hh_B f4_B
theorem lc_13 {xs : Nat → Int} {L : Nat} {kc : Int → D9 → Option R9} {v4 : Int} {d : D9} (v : INV d) (hs : SQ9 xs L v4) : ∃ d2, INV d2 ∧ m_L_case_13 xs L kc v4 d = kc (v4 + 7) d2 := by
  unfold m_L_case_13 m_L_sort
  simp only [hs.r 1 (by omega), hs.r 2 (by omega), hs.r 3 (by omega), hs.r 4 (by omega), hs.r 5 (by omega), hs.r 6 (by omega)]
  exact la_int (AG.ai v (o_sort v.1 (hs.2 _))) hh_B f4_B
theorem lc_14 {xs : Nat → Int} {L : Nat} {kc : Int → D9 → Option R9} {v4 : Int} {d : D9} (v : INV d) (hs : SQ9 xs L v4) : ∃ d2, INV d2 ∧ m_L_case_14 xs L kc v4 d = kc (v4 + 7) d2 := by
  unfold m_L_case_14 m_L_says
  simp only [hs.r 1 (by omega), hs.r 2 (by omega), hs.r 3 (by omega), hs.r 4 (by omega), hs.r 5 (by omega), hs.r 6 (by omega)]
  exact la_int (AG.ai v (o_says v.1 (hs.2 _))) hh_B f4_B
theorem lc_15 {xs : Nat → Int} {L : Nat} {kc : Int → D9 → Option R9} {v4 : Int} {d : D9} (v : INV d) (hs : SQ9 xs L v4) : ∃ d2, INV d2 ∧ m_L_case_15 xs L kc v4 d = kc (v4 + 7) d2 := by
  unfold m_L_case_15 m_L_leaked
  simp only [hs.r 1 (by omega), hs.r 2 (by omega), hs.r 3 (by omega), hs.r 4 (by omega), hs.r 5 (by omega), hs.r 6 (by omega)]
  exact la_void (AF.ai v (o_leaked v.1 (hs.2 _))) (fun _ _ _ h => cl_inv h) hh_B
theorem lc_16 {xs : Nat → Int} {L : Nat} {kc : Int → D9 → Option R9} {v4 : Int} {d : D9} (v : INV d) (hs : SQ9 xs L v4) : ∃ d2, INV d2 ∧ m_L_case_16 xs L kc v4 d = kc (v4 + 7) d2 := by
  unfold m_L_case_16 m_L_drip
  simp only [hs.r 1 (by omega), hs.r 2 (by omega), hs.r 3 (by omega), hs.r 4 (by omega), hs.r 5 (by omega), hs.r 6 (by omega)]
  exact la_int (o_drip v (hs.2 _) (hs.2 _) (hs.2 _) (hs.2 _) (hs.2 _)) hh_N f4_N
theorem lc_17 {xs : Nat → Int} {L : Nat} {kc : Int → D9 → Option R9} {v4 : Int} {d : D9} (v : INV d) (hs : SQ9 xs L v4) : ∃ d2, INV d2 ∧ m_L_case_17 xs L kc v4 d = kc (v4 + 7) d2 := by
  unfold m_L_case_17 m_L_trial
  simp only [hs.r 1 (by omega), hs.r 2 (by omega), hs.r 3 (by omega), hs.r 4 (by omega), hs.r 5 (by omega), hs.r 6 (by omega)]
  exact la_int (AG.ai v (o_trial v.1 (hs.2 _) (hs.2 _) (hs.2 _) (hs.2 _) (hs.2 _))) hh_A f4_A
theorem lc_18 {xs : Nat → Int} {L : Nat} {kc : Int → D9 → Option R9} {v4 : Int} {d : D9} (v : INV d) (hs : SQ9 xs L v4) : ∃ d2, INV d2 ∧ m_L_case_18 xs L kc v4 d = kc (v4 + 7) d2 := by
  unfold m_L_case_18 m_L_bound
  simp only [hs.r 1 (by omega), hs.r 2 (by omega), hs.r 3 (by omega), hs.r 4 (by omega), hs.r 5 (by omega), hs.r 6 (by omega)]
  by_cases c : w32 (xs (v4 + 2).toNat) = 0
  · simp only [c, if_true]
    exact la_int (AG.ai v (o_bound v.1 (hs.2 _) (Or.inl rfl))) hh_B f4_B
  · simp only [c, if_false]
    exact la_int (AG.ai v (o_bound v.1 (hs.2 _) (Or.inr rfl))) hh_B f4_B
theorem lc_19 {xs : Nat → Int} {L : Nat} {kc : Int → D9 → Option R9} {v4 : Int} {d : D9} (v : INV d) (hs : SQ9 xs L v4) : ∃ d2, INV d2 ∧ m_L_case_19 xs L kc v4 d = kc (v4 + 7) d2 := by
  unfold m_L_case_19
  simp only [hs.r 1 (by omega), hs.r 2 (by omega), hs.r 3 (by omega), hs.r 4 (by omega), hs.r 5 (by omega), hs.r 6 (by omega)]
  exact la_dir (AG.ai v (o_clash v.1 (hs.2 _)))
theorem lc_20 {xs : Nat → Int} {L : Nat} {kc : Int → D9 → Option R9} {v4 : Int} {d : D9} (v : INV d) (hs : SQ9 xs L v4) : ∃ d2, INV d2 ∧ m_L_case_20 xs L kc v4 d = kc (v4 + 7) d2 := by
  unfold m_L_case_20 m_L_ring
  simp only [hs.r 1 (by omega), hs.r 2 (by omega), hs.r 3 (by omega), hs.r 4 (by omega), hs.r 5 (by omega), hs.r 6 (by omega)]
  exact la_bool (AG.ai v (o_ring v.1 (hs.2 _))) hh_B f4_B
theorem lc_21 {xs : Nat → Int} {L : Nat} {kc : Int → D9 → Option R9} {v4 : Int} {d : D9} (v : INV d) (hs : SQ9 xs L v4) : ∃ d2, INV d2 ∧ m_L_case_21 xs L kc v4 d = kc (v4 + 7) d2 := by
  unfold m_L_case_21 m_L_above
  simp only [hs.r 1 (by omega), hs.r 2 (by omega), hs.r 3 (by omega), hs.r 4 (by omega), hs.r 5 (by omega), hs.r 6 (by omega)]
  exact la_bool (AG.ai v (o_above v.1 (hs.2 _) (hs.2 _))) hh_B f4_B
theorem lc_22 {xs : Nat → Int} {L : Nat} {kc : Int → D9 → Option R9} {v4 : Int} {d : D9} (v : INV d) (hs : SQ9 xs L v4) : ∃ d2, INV d2 ∧ m_L_case_22 xs L kc v4 d = kc (v4 + 7) d2 := by
  unfold m_L_case_22 m_L_rests
  simp only [hs.r 1 (by omega), hs.r 2 (by omega), hs.r 3 (by omega), hs.r 4 (by omega), hs.r 5 (by omega), hs.r 6 (by omega)]
  exact la_int (AG.ai v (o_rests v.1 (hs.2 _))) hh_B f4_B
theorem lc_23 {xs : Nat → Int} {L : Nat} {kc : Int → D9 → Option R9} {v4 : Int} {d : D9} (v : INV d) (hs : SQ9 xs L v4) : ∃ d2, INV d2 ∧ m_L_case_23 xs L kc v4 d = kc (v4 + 7) d2 := by
  unfold m_L_case_23 m_L_older
  simp only [hs.r 1 (by omega), hs.r 2 (by omega), hs.r 3 (by omega), hs.r 4 (by omega), hs.r 5 (by omega), hs.r 6 (by omega)]
  exact la_void (AF.ai v (o_older v.1 (hs.2 _) (hs.2 _))) (fun _ _ _ h => cl_inv h) hh_N
theorem lc_24 {xs : Nat → Int} {L : Nat} {kc : Int → D9 → Option R9} {v4 : Int} {d : D9} (v : INV d) (hs : SQ9 xs L v4) : ∃ d2, INV d2 ∧ m_L_case_24 xs L kc v4 d = kc (v4 + 7) d2 := by
  unfold m_L_case_24 m_L_many
  simp only [hs.r 1 (by omega), hs.r 2 (by omega), hs.r 3 (by omega), hs.r 4 (by omega), hs.r 5 (by omega), hs.r 6 (by omega)]
  exact la_void (AF.ai v (o_many v.1 (hs.2 _))) (fun _ _ _ h => cl_inv h) hh_A
theorem lc_25 {xs : Nat → Int} {L : Nat} {kc : Int → D9 → Option R9} {v4 : Int} {d : D9} (v : INV d) (hs : SQ9 xs L v4) : ∃ d2, INV d2 ∧ m_L_case_25 xs L kc v4 d = kc (v4 + 7) d2 := by
  unfold m_L_case_25
  exact la_dirL (AG.ai v (o_upper v.2.2.2.1.1))
theorem lc_26 {xs : Nat → Int} {L : Nat} {kc : Int → D9 → Option R9} {v4 : Int} {d : D9} (v : INV d) (hs : SQ9 xs L v4) : ∃ d2, INV d2 ∧ m_L_case_26 xs L kc v4 d = kc (v4 + 7) d2 := by
  unfold m_L_case_26
  exact la_dirL (AG.ai v (o_lower v.2.2.2.1.2))
theorem lc_27 {xs : Nat → Int} {L : Nat} {kc : Int → D9 → Option R9} {v4 : Int} {d : D9} (v : INV d) (hs : SQ9 xs L v4) : ∃ d2, INV d2 ∧ m_L_case_27 xs L kc v4 d = kc (v4 + 7) d2 := by
  unfold m_L_case_27 m_L_told
  simp only [hs.r 1 (by omega), hs.r 2 (by omega), hs.r 3 (by omega), hs.r 4 (by omega), hs.r 5 (by omega), hs.r 6 (by omega)]
  exact la_int (o_told v (hs.2 _) (hs.2 _) (hs.2 _) (hs.2 _) (hs.2 _) (hs.2 _)) hh_A f4_A
theorem lc_28 {xs : Nat → Int} {L : Nat} {kc : Int → D9 → Option R9} {v4 : Int} {d : D9} (v : INV d) (hs : SQ9 xs L v4) : ∃ d2, INV d2 ∧ m_L_case_28 xs L kc v4 d = kc (v4 + 7) d2 := by
  unfold m_L_case_28 m_L_like
  simp only [hs.r 1 (by omega), hs.r 2 (by omega), hs.r 3 (by omega), hs.r 4 (by omega), hs.r 5 (by omega), hs.r 6 (by omega)]
  exact la_int (AG.ai v (o_like v.1 (hs.2 _) (hs.2 _))) hh_1 f4_1
theorem lc_29 {xs : Nat → Int} {L : Nat} {kc : Int → D9 → Option R9} {v4 : Int} {d : D9} (v : INV d) (hs : SQ9 xs L v4) : ∃ d2, INV d2 ∧ m_L_case_29 xs L kc v4 d = kc (v4 + 7) d2 := by
  unfold m_L_case_29 m_L_whose
  simp only [hs.r 1 (by omega), hs.r 2 (by omega), hs.r 3 (by omega), hs.r 4 (by omega), hs.r 5 (by omega), hs.r 6 (by omega)]
  exact la_bool (AF.ai v (o_whose v.1 (hs.2 _) (hs.2 _))) hh_1 f4_1
theorem lc_30 {xs : Nat → Int} {L : Nat} {kc : Int → D9 → Option R9} {v4 : Int} {d : D9} (v : INV d) (hs : SQ9 xs L v4) : ∃ d2, INV d2 ∧ m_L_case_30 xs L kc v4 d = kc (v4 + 7) d2 := by
  unfold m_L_case_30 m_L_ringed
  simp only [hs.r 1 (by omega), hs.r 2 (by omega), hs.r 3 (by omega), hs.r 4 (by omega), hs.r 5 (by omega), hs.r 6 (by omega)]
  exact la_bool (AF.ai v (o_ringed v.1 (hs.2 _) (hs.2 _))) hh_1 f4_1
theorem lc_31 {xs : Nat → Int} {L : Nat} {kc : Int → D9 → Option R9} {v4 : Int} {d : D9} (v : INV d) (hs : SQ9 xs L v4) : ∃ d2, INV d2 ∧ m_L_case_31 xs L kc v4 d = kc (v4 + 7) d2 := by
  unfold m_L_case_31 m_L_due
  simp only [hs.r 1 (by omega), hs.r 2 (by omega), hs.r 3 (by omega), hs.r 4 (by omega), hs.r 5 (by omega), hs.r 6 (by omega)]
  exact la_int (AG.ai v (o_due v.1 (hs.2 _) (hs.2 _))) hh_1 f4_1
theorem lc_32 {xs : Nat → Int} {L : Nat} {kc : Int → D9 → Option R9} {v4 : Int} {d : D9} (v : INV d) (hs : SQ9 xs L v4) : ∃ d2, INV d2 ∧ m_L_case_32 xs L kc v4 d = kc (v4 + 7) d2 := by
  unfold m_L_case_32 m_L_stumps
  simp only [hs.r 1 (by omega), hs.r 2 (by omega), hs.r 3 (by omega), hs.r 4 (by omega), hs.r 5 (by omega), hs.r 6 (by omega)]
  exact la_int (AG.ai v (o_stumps v.1 (hs.2 _))) hh_S f4_S
theorem lc_33 {xs : Nat → Int} {L : Nat} {kc : Int → D9 → Option R9} {v4 : Int} {d : D9} (v : INV d) (hs : SQ9 xs L v4) : ∃ d2, INV d2 ∧ m_L_case_33 xs L kc v4 d = kc (v4 + 7) d2 := by
  unfold m_L_case_33 m_L_bent
  simp only [hs.r 1 (by omega), hs.r 2 (by omega), hs.r 3 (by omega), hs.r 4 (by omega), hs.r 5 (by omega), hs.r 6 (by omega)]
  exact la_bool (AF.ai v (o_bent v.1 (hs.2 _) (hs.2 _))) hh_1 f4_1
theorem lc_34 {xs : Nat → Int} {L : Nat} {kc : Int → D9 → Option R9} {v4 : Int} {d : D9} (v : INV d) (hs : SQ9 xs L v4) : ∃ d2, INV d2 ∧ m_L_case_34 xs L kc v4 d = kc (v4 + 7) d2 := by
  unfold m_L_case_34 m_L_weights
  simp only [hs.r 1 (by omega), hs.r 2 (by omega), hs.r 3 (by omega), hs.r 4 (by omega), hs.r 5 (by omega), hs.r 6 (by omega)]
  by_cases c : w32 (xs (v4 + 1).toNat) = 0
  · simp only [c, if_true]
    exact la_bool (o_weights v (hs.2 _)) hh_S f4_S
  · simp only [c, if_false]
    exact la_bool (o_weights v (hs.2 _)) hh_S f4_S
theorem lc_35 {xs : Nat → Int} {L : Nat} {kc : Int → D9 → Option R9} {v4 : Int} {d : D9} (v : INV d) (hs : SQ9 xs L v4) : ∃ d2, INV d2 ∧ m_L_case_35 xs L kc v4 d = kc (v4 + 7) d2 := by
  unfold m_L_case_35 m_L_times
  simp only [hs.r 1 (by omega), hs.r 2 (by omega), hs.r 3 (by omega), hs.r 4 (by omega), hs.r 5 (by omega), hs.r 6 (by omega)]
  exact la_int (AG.ai v (o_times v.1 (hs.2 _) (hs.2 _))) hh_N f4_N
theorem lc_36 {xs : Nat → Int} {L : Nat} {kc : Int → D9 → Option R9} {v4 : Int} {d : D9} (v : INV d) (hs : SQ9 xs L v4) : ∃ d2, INV d2 ∧ m_L_case_36 xs L kc v4 d = kc (v4 + 7) d2 := by
  unfold m_L_case_36 m_L_who
  simp only [hs.r 1 (by omega), hs.r 2 (by omega), hs.r 3 (by omega), hs.r 4 (by omega), hs.r 5 (by omega), hs.r 6 (by omega)]
  exact la_bool (AF.ai v (o_who v.1 (hs.2 _) (hs.2 _))) hh_N f4_N
theorem lc_37 {xs : Nat → Int} {L : Nat} {kc : Int → D9 → Option R9} {v4 : Int} {d : D9} (v : INV d) (hs : SQ9 xs L v4) : ∃ d2, INV d2 ∧ m_L_case_37 xs L kc v4 d = kc (v4 + 7) d2 := by
  unfold m_L_case_37 m_L_alone
  simp only [hs.r 1 (by omega), hs.r 2 (by omega), hs.r 3 (by omega), hs.r 4 (by omega), hs.r 5 (by omega), hs.r 6 (by omega)]
  exact la_int (AG.ai v (o_alone v.1 (hs.2 _) (hs.2 _))) hh_N f4_N
theorem lc_38 {xs : Nat → Int} {L : Nat} {kc : Int → D9 → Option R9} {v4 : Int} {d : D9} (v : INV d) (hs : SQ9 xs L v4) : ∃ d2, INV d2 ∧ m_L_case_38 xs L kc v4 d = kc (v4 + 7) d2 := by
  unfold m_L_case_38 m_L_spread
  simp only [hs.r 1 (by omega), hs.r 2 (by omega), hs.r 3 (by omega), hs.r 4 (by omega), hs.r 5 (by omega), hs.r 6 (by omega)]
  exact la_int (AG.ai v (o_spread v.1 (hs.2 _))) hh_A f4_A
theorem lc_39 {xs : Nat → Int} {L : Nat} {kc : Int → D9 → Option R9} {v4 : Int} {d : D9} (v : INV d) (hs : SQ9 xs L v4) : ∃ d2, INV d2 ∧ m_L_case_39 xs L kc v4 d = kc (v4 + 7) d2 := by
  unfold m_L_case_39 m_L_first
  simp only [hs.r 1 (by omega), hs.r 2 (by omega), hs.r 3 (by omega), hs.r 4 (by omega), hs.r 5 (by omega), hs.r 6 (by omega)]
  exact la_int (AG.ai v (o_first v.1 (hs.2 _))) hh_A f4_A
theorem lc_40 {xs : Nat → Int} {L : Nat} {kc : Int → D9 → Option R9} {v4 : Int} {d : D9} (v : INV d) (hs : SQ9 xs L v4) : ∃ d2, INV d2 ∧ m_L_case_40 xs L kc v4 d = kc (v4 + 7) d2 := by
  unfold m_L_case_40 m_L_plan
  simp only [hs.r 1 (by omega), hs.r 2 (by omega), hs.r 3 (by omega), hs.r 4 (by omega), hs.r 5 (by omega), hs.r 6 (by omega)]
  exact la_int (AG.ai v (o_plan v.1 (hs.2 _) (hs.2 _))) hh_A f4_A
theorem lc_41 {xs : Nat → Int} {L : Nat} {kc : Int → D9 → Option R9} {v4 : Int} {d : D9} (v : INV d) (hs : SQ9 xs L v4) : ∃ d2, INV d2 ∧ m_L_case_41 xs L kc v4 d = kc (v4 + 7) d2 := by
  unfold m_L_case_41 m_L_follow
  simp only [hs.r 1 (by omega), hs.r 2 (by omega), hs.r 3 (by omega), hs.r 4 (by omega), hs.r 5 (by omega), hs.r 6 (by omega)]
  exact la_int (AG.ai v (o_follow v.1 (hs.2 _) (hs.2 _))) hh_A f4_A
theorem lc_42 {xs : Nat → Int} {L : Nat} {kc : Int → D9 → Option R9} {v4 : Int} {d : D9} (v : INV d) (hs : SQ9 xs L v4) : ∃ d2, INV d2 ∧ m_L_case_42 xs L kc v4 d = kc (v4 + 7) d2 := by
  unfold m_L_case_42 m_L_behind
  simp only [hs.r 1 (by omega), hs.r 2 (by omega), hs.r 3 (by omega), hs.r 4 (by omega), hs.r 5 (by omega), hs.r 6 (by omega)]
  exact la_int (AG.ai v (o_behind v.1 (hs.2 _))) hh_A f4_A
theorem lc_43 {xs : Nat → Int} {L : Nat} {kc : Int → D9 → Option R9} {v4 : Int} {d : D9} (v : INV d) (hs : SQ9 xs L v4) : ∃ d2, INV d2 ∧ m_L_case_43 xs L kc v4 d = kc (v4 + 7) d2 := by
  unfold m_L_case_43 m_L_say
  simp only [hs.r 1 (by omega), hs.r 2 (by omega), hs.r 3 (by omega), hs.r 4 (by omega), hs.r 5 (by omega), hs.r 6 (by omega)]
  exact la_int (AG.ai v (o_say v.1 (hs.2 _))) hh_B f4_B
theorem lc_44 {xs : Nat → Int} {L : Nat} {kc : Int → D9 → Option R9} {v4 : Int} {d : D9} (v : INV d) (hs : SQ9 xs L v4) : ∃ d2, INV d2 ∧ m_L_case_44 xs L kc v4 d = kc (v4 + 7) d2 := by
  unfold m_L_case_44 m_L_tray
  simp only [hs.r 1 (by omega), hs.r 2 (by omega), hs.r 3 (by omega), hs.r 4 (by omega), hs.r 5 (by omega), hs.r 6 (by omega)]
  exact la_void (o_tray v (hs.2 _) (hs.2 _) (hs.2 _)) (fun _ _ _ h => ⟨_, h⟩) hh_N
theorem lc_45 {xs : Nat → Int} {L : Nat} {kc : Int → D9 → Option R9} {v4 : Int} {d : D9} (v : INV d) (hs : SQ9 xs L v4) : ∃ d2, INV d2 ∧ m_L_case_45 xs L kc v4 d = kc (v4 + 7) d2 := by
  unfold m_L_case_45 m_L_write
  simp only [hs.r 1 (by omega), hs.r 2 (by omega), hs.r 3 (by omega), hs.r 4 (by omega), hs.r 5 (by omega), hs.r 6 (by omega)]
  exact la_long (o_write v (hs.2 _) (hs.2 _) (orL_I _ _)) hh_W f4_W
theorem lc_46 {xs : Nat → Int} {L : Nat} {kc : Int → D9 → Option R9} {v4 : Int} {d : D9} (v : INV d) (hs : SQ9 xs L v4) : ∃ d2, INV d2 ∧ m_L_case_46 xs L kc v4 d = kc (v4 + 7) d2 := by
  unfold m_L_case_46 m_L_pour
  simp only [hs.r 1 (by omega), hs.r 2 (by omega), hs.r 3 (by omega), hs.r 4 (by omega), hs.r 5 (by omega), hs.r 6 (by omega)]
  exact la_int (o_pour v (hs.2 _) (hs.2 _)) hh_P f4_P
theorem lc_47 {xs : Nat → Int} {L : Nat} {kc : Int → D9 → Option R9} {v4 : Int} {d : D9} (v : INV d) (hs : SQ9 xs L v4) : ∃ d2, INV d2 ∧ m_L_case_47 xs L kc v4 d = kc (v4 + 7) d2 := by
  unfold m_L_case_47 m_L_image
  simp only [hs.r 1 (by omega), hs.r 2 (by omega), hs.r 3 (by omega), hs.r 4 (by omega), hs.r 5 (by omega), hs.r 6 (by omega)]
  exact la_void (o_image v (hs.2 _)) (fun _ _ _ h => ⟨_, h⟩) hh_B
theorem lc_48 {xs : Nat → Int} {L : Nat} {kc : Int → D9 → Option R9} {v4 : Int} {d : D9} (v : INV d) (hs : SQ9 xs L v4) : ∃ d2, INV d2 ∧ m_L_case_48 xs L kc v4 d = kc (v4 + 7) d2 := by
  unfold m_L_case_48 m_L_restore
  simp only [hs.r 1 (by omega), hs.r 2 (by omega), hs.r 3 (by omega), hs.r 4 (by omega), hs.r 5 (by omega), hs.r 6 (by omega)]
  exact la_void (o_restore v (hs.2 _)) (fun _ _ _ h => ⟨_, h⟩) hh_S
theorem lc_49 {xs : Nat → Int} {L : Nat} {kc : Int → D9 → Option R9} {v4 : Int} {d : D9} (v : INV d) (hs : SQ9 xs L v4) : ∃ d2, INV d2 ∧ m_L_case_49 xs L kc v4 d = kc (v4 + 7) d2 := by
  unfold m_L_case_49
  simp only [hs.r 1 (by omega), hs.r 2 (by omega), hs.r 3 (by omega), hs.r 4 (by omega), hs.r 5 (by omega), hs.r 6 (by omega)]
  exact la_dir (AG.ai v (o_count v.1 (hs.2 _) v.2.2.1.1.1))
theorem lw_step {xs : Nat → Int} {L : Nat} {kc : Int → D9 → Option R9} {v4 : Int} {d : D9} (v : INV d) (hs : SQ9 xs L v4) : ∃ d2, INV d2 ∧ b_L_law xs L kc v4 d = kc (v4 + 7) d2 := by
  have h1 := hs.1
  unfold b_L_law
  rw [wi (x := (L : Int) - 7) (by omega), wi (x := v4) (by omega), if_neg (by omega), scr_in (by omega)]
  generalize w32 (and9 (xs v4.toNat) 63) = q
  by_cases c0 : q = 0
  · rw [if_pos c0]; exact lc_0 v hs
  rw [if_neg c0]
  by_cases c1 : q = 1
  · rw [if_pos c1]; exact lc_1 v hs
  rw [if_neg c1]
  by_cases c2 : q = 2
  · rw [if_pos c2]; exact lc_2 v hs
  rw [if_neg c2]
  by_cases c3 : q = 3
  · rw [if_pos c3]; exact lc_3 v hs
  rw [if_neg c3]
  by_cases c4 : q = 4
  · rw [if_pos c4]; exact lc_4 v hs
  rw [if_neg c4]
  by_cases c5 : q = 5
  · rw [if_pos c5]; exact lc_5 v hs
  rw [if_neg c5]
  by_cases c6 : q = 6
  · rw [if_pos c6]; exact lc_6 v hs
  rw [if_neg c6]
  by_cases c7 : q = 7
  · rw [if_pos c7]; exact lc_7 v hs
  rw [if_neg c7]
  by_cases c8 : q = 8
  · rw [if_pos c8]; exact lc_8 v hs
  rw [if_neg c8]
  by_cases c9 : q = 9
  · rw [if_pos c9]; exact lc_9 v hs
  rw [if_neg c9]
  by_cases c10 : q = 10
  · rw [if_pos c10]; exact lc_10 v hs
  rw [if_neg c10]
  by_cases c11 : q = 11
  · rw [if_pos c11]; exact lc_11 v hs
  rw [if_neg c11]
  by_cases c12 : q = 12
  · rw [if_pos c12]; exact lc_12 v hs
  rw [if_neg c12]
  by_cases c13 : q = 13
  · rw [if_pos c13]; exact lc_13 v hs
  rw [if_neg c13]
  by_cases c14 : q = 14
  · rw [if_pos c14]; exact lc_14 v hs
  rw [if_neg c14]
  by_cases c15 : q = 15
  · rw [if_pos c15]; exact lc_15 v hs
  rw [if_neg c15]
  by_cases c16 : q = 16
  · rw [if_pos c16]; exact lc_16 v hs
  rw [if_neg c16]
  by_cases c17 : q = 17
  · rw [if_pos c17]; exact lc_17 v hs
  rw [if_neg c17]
  by_cases c18 : q = 18
  · rw [if_pos c18]; exact lc_18 v hs
  rw [if_neg c18]
  by_cases c19 : q = 19
  · rw [if_pos c19]; exact lc_19 v hs
  rw [if_neg c19]
  by_cases c20 : q = 20
  · rw [if_pos c20]; exact lc_20 v hs
  rw [if_neg c20]
  by_cases c21 : q = 21
  · rw [if_pos c21]; exact lc_21 v hs
  rw [if_neg c21]
  by_cases c22 : q = 22
  · rw [if_pos c22]; exact lc_22 v hs
  rw [if_neg c22]
  by_cases c23 : q = 23
  · rw [if_pos c23]; exact lc_23 v hs
  rw [if_neg c23]
  by_cases c24 : q = 24
  · rw [if_pos c24]; exact lc_24 v hs
  rw [if_neg c24]
  by_cases c25 : q = 25
  · rw [if_pos c25]; exact lc_25 v hs
  rw [if_neg c25]
  by_cases c26 : q = 26
  · rw [if_pos c26]; exact lc_26 v hs
  rw [if_neg c26]
  by_cases c27 : q = 27
  · rw [if_pos c27]; exact lc_27 v hs
  rw [if_neg c27]
  by_cases c28 : q = 28
  · rw [if_pos c28]; exact lc_28 v hs
  rw [if_neg c28]
  by_cases c29 : q = 29
  · rw [if_pos c29]; exact lc_29 v hs
  rw [if_neg c29]
  by_cases c30 : q = 30
  · rw [if_pos c30]; exact lc_30 v hs
  rw [if_neg c30]
  by_cases c31 : q = 31
  · rw [if_pos c31]; exact lc_31 v hs
  rw [if_neg c31]
  by_cases c32 : q = 32
  · rw [if_pos c32]; exact lc_32 v hs
  rw [if_neg c32]
  by_cases c33 : q = 33
  · rw [if_pos c33]; exact lc_33 v hs
  rw [if_neg c33]
  by_cases c34 : q = 34
  · rw [if_pos c34]; exact lc_34 v hs
  rw [if_neg c34]
  by_cases c35 : q = 35
  · rw [if_pos c35]; exact lc_35 v hs
  rw [if_neg c35]
  by_cases c36 : q = 36
  · rw [if_pos c36]; exact lc_36 v hs
  rw [if_neg c36]
  by_cases c37 : q = 37
  · rw [if_pos c37]; exact lc_37 v hs
  rw [if_neg c37]
  by_cases c38 : q = 38
  · rw [if_pos c38]; exact lc_38 v hs
  rw [if_neg c38]
  by_cases c39 : q = 39
  · rw [if_pos c39]; exact lc_39 v hs
  rw [if_neg c39]
  by_cases c40 : q = 40
  · rw [if_pos c40]; exact lc_40 v hs
  rw [if_neg c40]
  by_cases c41 : q = 41
  · rw [if_pos c41]; exact lc_41 v hs
  rw [if_neg c41]
  by_cases c42 : q = 42
  · rw [if_pos c42]; exact lc_42 v hs
  rw [if_neg c42]
  by_cases c43 : q = 43
  · rw [if_pos c43]; exact lc_43 v hs
  rw [if_neg c43]
  by_cases c44 : q = 44
  · rw [if_pos c44]; exact lc_44 v hs
  rw [if_neg c44]
  by_cases c45 : q = 45
  · rw [if_pos c45]; exact lc_45 v hs
  rw [if_neg c45]
  by_cases c46 : q = 46
  · rw [if_pos c46]; exact lc_46 v hs
  rw [if_neg c46]
  by_cases c47 : q = 47
  · rw [if_pos c47]; exact lc_47 v hs
  rw [if_neg c47]
  by_cases c48 : q = 48
  · rw [if_pos c48]; exact lc_48 v hs
  rw [if_neg c48]
  by_cases c49 : q = 49
  · rw [if_pos c49]; exact lc_49 v hs
  rw [if_neg c49]
  exact ⟨d, v, rfl⟩
theorem lw_loop {xs : Nat → Int} {L : Nat} (hL : L ≤ 3584) (hx : ∀ j, I32 (xs j)) : ∀ (f : Nat) (v4 : Int) (d : D9), INV d → 0 ≤ v4 → v4 ≤ 4000 → (L : Int) < v4 + 7 * f → 1 ≤ f → ∃ r, mL9 xs L f v4 d = some r
  | 0, _, _, _, _, _, _, h1 => absurd h1 (by decide)
  | f + 1, v4, d, v, h0, h4, hf, _ => by
    show ∃ r, b_L_law xs L (mL9 xs L f) v4 d = some r
    by_cases c : v4 + 7 ≤ L
    · obtain ⟨d2, a1, a2⟩ := lw_step (kc := mL9 xs L f) v (show SQ9 xs L v4 from ⟨by omega, hx⟩)
      rw [a2]
      exact lw_loop hL hx f (v4 + 7) d2 a1 (by omega) (by omega) (by omega) (by omega)
    · unfold b_L_law
      rw [wi (x := (L : Int) - 7) (by omega), wi (x := v4) (by omega), if_pos (by omega)]
      exact ⟨_, rfl⟩

/-! a write, cell by cell -/
def us (t : Nat → Int) (j : Nat) (v : Int) : Nat → Int := fun i => if i = j then v else t i
theorem up_us (d : D9) (k j : Nat) (v : Int) : up d k j v k = us (d k) j v := by
  funext i; rw [up_get, us]; simp
theorem us_ne {t : Nat → Int} {i j : Nat} {v : Int} (h : i ≠ j) : us t j v i = t i := if_neg h
theorem us_eq {t : Nat → Int} {i j : Nat} {v : Int} (h : i = j) : us t j v i = v := if_pos h
theorem up_o {d : D9} {k j k' : Nat} {v : Int} (h : k' ≠ k) : up d k j v k' = d k' := up_k h
theorem p_paintTail {a : Int} {d : D9} (h : 16 ≤ a ∧ a ≤ 248) (hn : 0 ≤ d 175 0 ∧ d 175 0 ≤ 29) : m_X12_paint_174_c107 a 0 d = rt (d 175 0) (up (up (up (up (up (up d 175 (a + 3).toNat 0) 175 (a + 4).toNat 0) 175 (a + 5).toNat 0) 175 (a + 6).toNat 0) 175 (a + 7).toNat 0) 175 0 (d 175 0 + 1)) := by
  unfold m_X12_paint_174_c107 FU
  rw [fx2, b_X12_paint_174_c107, if_neg (by decide), sd_in (by omega)]
  rw [fx2, b_X12_paint_174_c107, if_neg (by decide), sd_in (by omega)]
  rw [fx2, b_X12_paint_174_c107, if_neg (by decide), sd_in (by omega)]
  rw [fx2, b_X12_paint_174_c107, if_neg (by decide), sd_in (by omega)]
  rw [fx2, b_X12_paint_174_c107, if_neg (by decide), sd_in (by omega)]
  rw [fx2, b_X12_paint_174_c107, if_pos (by decide), ld_in (by omega), sd_in (by omega), ld_in (by omega)]
  simp (disch := omega) only [up_us, us_ne, us_eq, Int.toNat_zero]
  have e : ∀ (x y : Int), x + 1 - 1 = x := by intros; omega
  rw [show a + 3 + 0 = a + 3 by omega, show a + 3 + (0 + 1) = a + 4 by omega, show a + 3 + (0 + 1 + 1) = a + 5 by omega, show a + 3 + (0 + 1 + 1 + 1) = a + 6 by omega, show a + 3 + (0 + 1 + 1 + 1 + 1) = a + 7 by omega, show d 175 0 + 1 - 1 = d 175 0 by omega]
theorem TK_paint {t t' : Nat → Int} {a b c : Int} (k : TK t) (hn : t 0 < 30) (ha : 0 ≤ a ∧ a ≤ 3) (hb : 0 ≤ b ∧ b ≤ 5) (hc : 0 ≤ c ∧ c ≤ 9) (h0 : t' 0 = t 0 + 1) (e0 : pt t' (t 0) 0 = a) (e1 : pt t' (t 0) 1 = b) (e2 : pt t' (t 0) 2 = c) (e3 : ∀ f, 0 ≤ f → f < 5 → pt t' (t 0) (3 + f) = 0) (hf : ∀ j : Nat, j ≠ 0 → (j < 16 + 8 * t 0 ∨ 24 + 8 * t 0 ≤ j) → t' j = t j) : TK t' := by
  have n := TKn k
  unfold T7n at n
  have hN : ∀ j : Nat, j ≠ 0 → j < 16 → t' j = t j := fun j x y => hf j x (by omega)
  have hA : ∀ lo hi, 256 ≤ lo → AGR t t' lo hi := fun lo hi h j x y => hf j (by omega) (by omega)
  refine ⟨?_, T7l_c (hN 4 (by omega) (by omega)) (fun j x y => hN j (by omega) (by omega)) (TKl k), ?_, ?_, T7s_c (by omega) (hN 1 (by omega) (by omega)) (by omega) (hA _ _ (by omega)) (TKs k), T7h_c (hN 3 (by omega) (by omega)) (by omega) (hA _ _ (by omega)) (TKh k), T7y_c (hN 5 (by omega) (by omega)) (hA _ _ (by omega)) (TKy k), T7w_c (hA _ _ (by omega)) (TKw k), T7r_c (hA _ _ (by omega)) (TKr k)⟩
  · unfold T7n
    rw [h0, hN 1 (by omega) (by omega), hN 2 (by omega) (by omega), hN 3 (by omega) (by omega)]
    omega
  · intro p x y
    by_cases hp : p = t 0
    · subst hp
      rw [e0, e1, e2]
      exact ⟨ha, hb, hc, fun f u v => by rw [e3 f u v]; omega⟩
    · have hpt : ∀ w, 0 ≤ w → w < 8 → pt t' p w = pt t p w := fun w u v => hf _ (by omega) (by omega)
      obtain ⟨x0, x1, x2, x3⟩ := TKp k p x (by omega)
      rw [hpt 0 (by omega) (by omega), hpt 1 (by omega) (by omega), hpt 2 (by omega) (by omega)]
      exact ⟨x0, x1, x2, fun f u v => by rw [hpt _ (by omega) (by omega)]; exact x3 f u v⟩
  · intro i x y
    rw [hN 2 (by omega) (by omega)] at y
    have := TKo k i x y
    rw [oU_c (hA _ _ (by omega)) (by omega), oL_c (hA _ _ (by omega)) (by omega), h0]
    omega
theorem RW_paint {t t' : Nat → Int} {d d1 : D9} {a b c : Int} (k : TK t) (r : RW d t) (hn : t 0 < 30) (h0 : t' 0 = t 0 + 1) (e0 : pt t' (t 0) 0 = a) (e1 : pt t' (t 0) 1 = b) (e2 : pt t' (t 0) 2 = c) (e3 : ∀ f, 0 ≤ f → f < 5 → pt t' (t 0) (3 + f) = 0) (hf : ∀ j : Nat, j ≠ 0 → (j < 16 + 8 * t 0 ∨ 24 + 8 * t 0 ≤ j) → t' j = t j)
    (c0 : d1 2 0 = t 0 + 1) (c1 : d1 2 1 = d 2 1) (c3 : d1 3 = us (d 3) (t 0).toNat a) (c4 : d1 4 = us (d 4) (t 0).toNat b) (c5 : d1 5 = us (d 5) (t 0).toNat c) (c6 : ∀ k, 6 ≤ k → d1 k = d k) : RW d1 t' := by
  have n := TKn k
  unfold T7n at n
  have hN : ∀ j : Nat, j ≠ 0 → j < 16 → t' j = t j := fun j x y => hf j x (by omega)
  have hA : ∀ lo hi, 256 ≤ lo → AGR t t' lo hi := fun lo hi h j x y => hf j (by omega) (by omega)
  have nl := (TKy k).1
  refine ⟨R7l_t (hN 4 (by omega) (by omega)) (fun j x y => hN j (by omega) (by omega)) (R7l_c (RWl r) (c6 _ (by omega))), ?_, R7o_t (hN 2 (by omega) (by omega)) (by omega) (hA _ _ (by omega)) (R7o_c (RWo r) (c6 _ (by omega)) (c6 _ (by omega))), R7s_t (hN 1 (by omega) (by omega)) (by omega) (fun j x y => hN j (by omega) (by omega)) (hA _ _ (by omega)) (TKs k) (R7s_c (RWs r) (fun k x _ => c6 k (by omega))), R7h_t (hN 3 (by omega) (by omega)) (by omega) (hA _ _ (by omega)) (R7h_c (RWh r) (c6 _ (by omega)) (c6 _ (by omega)) (c6 _ (by omega))), R7y_t (hN 5 (by omega) (by omega)) (by omega) (hA _ _ (by omega)) (R7y_c (RWy r) (fun k x _ => c6 k (by omega))), R7w_t (hA _ _ (by omega)) (R7w_c (RWw r) (c6 _ (by omega)) (c6 _ (by omega))), R7r_t (hA _ _ (by omega)) (TKr k) (R7r_c (RWr r) (fun k x _ => c6 k (by omega)))⟩
  obtain ⟨r0, r1, r2, r3⟩ := RWp r
  refine ⟨by rw [c0, h0], by rw [c1, hN 2 (by omega) (by omega), r1], ?_, ?_⟩
  · intro p x y
    rw [c3, c4, c5, c6 6 (by omega)]
    by_cases hp : p = t 0
    · subst hp
      rw [us_eq rfl, us_eq rfl, us_eq rfl, e0, e1, e2]
      exact ⟨rfl, rfl, rfl, fun f u v => by rw [e3 f u v]; exact r3 _ (by omega) (by omega) f u v⟩
    · have hpt : ∀ w, 0 ≤ w → w < 8 → pt t' p w = pt t p w := fun w u v => hf _ (by omega) (by omega)
      obtain ⟨x0, x1, x2, x3⟩ := r2 p x (by omega)
      rw [us_ne (by omega), us_ne (by omega), us_ne (by omega), hpt 0 (by omega) (by omega), hpt 1 (by omega) (by omega), hpt 2 (by omega) (by omega)]
      exact ⟨x0, x1, x2, fun f u v => by rw [hpt _ (by omega) (by omega)]; exact x3 f u v⟩
  · intro p x y f u v
    rw [c6 6 (by omega)]
    exact r3 p (by omega) y f u v
theorem cl_id (x : Option R9) : cl x (fun r d => rt r d) = x := by
  rcases x with _ | ⟨_ | _, _⟩ <;> rfl
theorem q_paint {a b c : Int} {d : D9} (ha : I32 a) (hb : I32 b) (hc : I32 c) : m_X11_paint_0 a b c d = if (0 ≤ a ∧ a ≤ 3) ∧ (0 ≤ b ∧ b ≤ 5) ∧ (0 ≤ c ∧ c ≤ 9) then m_X3_add_2 a b c d else th 0 d := by
  unfold m_X11_paint_0
  rw [ask_i ha (by omega)]
  by_cases x : 0 ≤ a ∧ a ≤ 3
  · rw [if_pos x, cl_rt, ask_i hb (by omega)]
    by_cases y : 0 ≤ b ∧ b ≤ 5
    · rw [if_pos y, cl_rt, ask_i hc (by omega)]
      by_cases z : 0 ≤ c ∧ c ≤ 9
      · rw [if_pos z, cl_rt, if_pos ⟨x, y, z⟩]
        rw [cl_id]
      · rw [if_neg z, cl_th, if_neg (by omega)]
    · rw [if_neg y, cl_th, if_neg (by omega)]
  · rw [if_neg x, cl_th, if_neg (by omega)]
theorem p_paint {a b c : Int} {d : D9} (ha : I32 a) (hb : I32 b) (hc : I32 c) : m_X12_paint_174 a b c d = if (0 ≤ a ∧ a ≤ 3) ∧ (0 ≤ b ∧ b ≤ 5) ∧ (0 ≤ c ∧ c ≤ 9) then ld (up d 174 3 0) 175 1604 0 (fun t8 => if w32 t8 ≠ w32 30 then ld (up d 174 3 0) 175 1604 0 (fun t9 => lt9v (16 + (8 * t9)) (fun a10 => sd (up d 174 3 0) 175 1604 (a10 + 0) a (fun d11 => sd d11 175 1604 (a10 + 1) b (fun d12 => sd d12 175 1604 (a10 + 2) c (fun d13 => m_X12_paint_174_c107  a10 0 d13))))) else rt (-1) (up d 174 3 0)) else rt 0 (up (up d 174 3 0) 174 3 1) := by
  unfold m_X12_paint_174 m_X12_paint_174_c41
  rw [pf_v, w32_id ha, w32_id hb, w32_id hc, within_i ha (by omega), cl_rt, w32_bi]
  by_cases x : 0 ≤ a ∧ a ≤ 3
  · rw [dec_t x, bi_t, if_neg ne10, within_i hb (by omega), cl_rt, w32_bi]
    by_cases y : 0 ≤ b ∧ b ≤ 5
    · rw [dec_t y, bi_t, if_neg ne10, within_i hc (by omega), cl_rt, w32_bi]
      by_cases z : 0 ≤ c ∧ c ≤ 9
      · rw [dec_t z, bi_t, if_pos ne10, if_pos (show (0 ≤ a ∧ a ≤ 3) ∧ (0 ≤ b ∧ b ≤ 5) ∧ (0 ≤ c ∧ c ≤ 9) from ⟨x, y, z⟩)]
      · rw [dec_f z, bi_f, if_neg (show ¬ (0 : Int) ≠ 0 by omega), if_neg (show ¬ ((0 ≤ a ∧ a ≤ 3) ∧ (0 ≤ b ∧ b ≤ 5) ∧ (0 ≤ c ∧ c ≤ 9)) by omega)]; rfl
    · rw [dec_f y, bi_f, if_pos rfl, if_neg (show ¬ ((0 ≤ a ∧ a ≤ 3) ∧ (0 ≤ b ∧ b ≤ 5) ∧ (0 ≤ c ∧ c ≤ 9)) by omega)]; rfl
  · rw [dec_f x, bi_f, if_pos rfl, if_neg (show ¬ ((0 ≤ a ∧ a ≤ 3) ∧ (0 ≤ b ∧ b ≤ 5) ∧ (0 ≤ c ∧ c ≤ 9)) by omega)]; rfl
/-- the model has changed what is told, and its field thrown -/
def M7 (d d2 : D9) : Prop := (∀ k, k ≠ 175 → k ≠ 174 → d2 k = d k) ∧ ∀ j, j ≠ 3 → d2 174 j = d 174 j
theorem M7.rf (d : D9) : M7 d d := ⟨fun _ _ _ => rfl, fun _ _ => rfl⟩
theorem M7.u3 {d d2 : D9} {x : Int} (h : M7 d d2) : M7 d (up d2 174 3 x) := ⟨fun k a b => by rw [up_o b]; exact h.1 k a b, fun j a => by rw [up_us, us_ne a]; exact h.2 j a⟩
theorem M7.u {d d2 : D9} {j : Nat} {x : Int} (h : M7 d d2) : M7 d (up d2 175 j x) := ⟨fun k a b => by rw [up_o a]; exact h.1 k a b, fun i a => by rw [up_o (by decide)]; exact h.2 i a⟩
theorem M7.wm {d d2 : D9} (h : M7 d d2) : WM d d2 := by
  refine ⟨fun k a _ b => h.1 k b (by intro e; subst e; exact a (by unfold SCR; omega)), ?_⟩
  rw [h.1 51 (by omega) (by omega), h.2 7 (by omega), h.2 15 (by omega), h.2 16 (by omega), h.2 20 (by omega), h.2 21 (by omega)]
  exact ⟨⟨rfl, rfl, rfl⟩, rfl, rfl, rfl, rfl, rfl⟩
theorem AI.up {d d1 : D9} {c : Option R9} {m : D9 → Option R9} {f : Nat → Int} (q : INV d) (v : Int) (hc : c = rt v d1) (s : ∀ k, k < 1 ∨ 37 < k → d1 k = d k)
    (hm : ∀ d', d' 175 = d 175 → ∃ d2, m d' = rt v d2 ∧ M7 d' d2 ∧ (TK (d2 175) ∧ RW d1 (d2 175)) ∧ d2 174 3 = 0) : AI d c m f := by
  refine AI.mk q v hc (WM.of fun k a _ => s k a) (s 175 (by omega)) (fun d' e => ?_)
  obtain ⟨d2, a, b, c, e⟩ := hm d' e
  exact ⟨d2, a, b.wm, b.1 194 (by omega) (by omega), fun k _ _ => b.1 k (by omega) (by omega), c, e⟩
theorem o_paint {a b c : Int} {d : D9} (v : INV d) (ha : I32 a) (hb : I32 b) (hc : I32 c) : AI d (m_X11_paint_0 a b c d) (m_X12_paint_174 a b c) fA := by
  have q := v.1
  have n := TKn q.1
  have n0 := n.1
  rw [q_paint ha hb hc]
  by_cases x : (0 ≤ a ∧ a ≤ 3) ∧ (0 ≤ b ∧ b ≤ 5) ∧ (0 ≤ c ∧ c ≤ 9)
  · rw [if_pos x]
    have r0 := (RWp q.2).1
    by_cases y : d 175 0 < 30
    · have hC : m_X3_add_2 a b c d = rt (d 175 0) (up (up (up (up d 3 (d 175 0).toNat a) 4 (d 175 0).toNat b) 5 (d 175 0).toNat c) 2 0 (d 175 0 + 1)) := by
        unfold m_X3_add_2
        rw [r0, w32_id (by omega), if_pos (by exact y), sd_in (by omega)]
        simp (disch := omega) only [up_o, r0]
        rw [sd_in (by omega)]
        simp (disch := omega) only [up_o, r0]
        rw [sd_in (by omega), pf_v]
        simp (disch := omega) only [up_o, up_us, us_eq, r0]
        rw [show d 175 0 + 1 - 1 = d 175 0 by omega]
      refine AI.up v (d 175 0) hC (fun k _ => by simp (disch := omega) only [up_o]) (fun d' e => ?_)
      have e1 := (m3 d' 0).1.trans e
      refine ⟨up (up (up (up (up (up (up (up (up (up d' 174 3 0) 175 (16 + 8 * d 175 0 + 0).toNat a) 175 (16 + 8 * d 175 0 + 1).toNat b) 175 (16 + 8 * d 175 0 + 2).toNat c) 175 (16 + 8 * d 175 0 + 3).toNat 0) 175 (16 + 8 * d 175 0 + 4).toNat 0) 175 (16 + 8 * d 175 0 + 5).toNat 0) 175 (16 + 8 * d 175 0 + 6).toNat 0) 175 (16 + 8 * d 175 0 + 7).toNat 0) 175 0 (d 175 0 + 1), ?_, M7.u (M7.u (M7.u (M7.u (M7.u (M7.u (M7.u (M7.u (M7.u (M7.u3 (M7.rf d')))))))))), ?_, by simp (disch := omega) only [up_o, up_us, us_eq]⟩
      · rw [p_paint ha hb hc, if_pos x, ld_in (by omega), Int.toNat_zero, e1, w32_id (by omega), if_pos (show d 175 0 ≠ w32 30 from by rw [w32_id (by omega)]; omega), ld_in (by omega), Int.toNat_zero, e1, lt_v, sd_in (by omega), sd_in (by omega), sd_in (by omega), p_paintTail (by omega) (by simp (disch := omega) only [up_us, us_ne, us_eq, e1]; omega)]
        simp (disch := omega) only [up_us, us_ne, us_eq, e1]
      · generalize hz : (up (up (up (up (up (up (up (up (up (up d' 174 3 0) 175 (16 + 8 * d 175 0 + 0).toNat a) 175 (16 + 8 * d 175 0 + 1).toNat b) 175 (16 + 8 * d 175 0 + 2).toNat c) 175 (16 + 8 * d 175 0 + 3).toNat 0) 175 (16 + 8 * d 175 0 + 4).toNat 0) 175 (16 + 8 * d 175 0 + 5).toNat 0) 175 (16 + 8 * d 175 0 + 6).toNat 0) 175 (16 + 8 * d 175 0 + 7).toNat 0) 175 0 (d 175 0 + 1) : D9) 175 = t'
        have ht : ∀ j, t' j = (up (up (up (up (up (up (up (up (up (up d' 174 3 0) 175 (16 + 8 * d 175 0 + 0).toNat a) 175 (16 + 8 * d 175 0 + 1).toNat b) 175 (16 + 8 * d 175 0 + 2).toNat c) 175 (16 + 8 * d 175 0 + 3).toNat 0) 175 (16 + 8 * d 175 0 + 4).toNat 0) 175 (16 + 8 * d 175 0 + 5).toNat 0) 175 (16 + 8 * d 175 0 + 6).toNat 0) 175 (16 + 8 * d 175 0 + 7).toNat 0) 175 0 (d 175 0 + 1) : D9) 175 j := fun j => by rw [hz]
        simp only [up_us, e1] at ht
        have h0 : t' 0 = d 175 0 + 1 := by rw [ht, us_eq rfl]
        have k0 : pt t' (d 175 0) 0 = a := by rw [pt, ht]; simp (disch := omega) only [us_ne, us_eq]
        have k1 : pt t' (d 175 0) 1 = b := by rw [pt, ht]; simp (disch := omega) only [us_ne, us_eq]
        have k2 : pt t' (d 175 0) 2 = c := by rw [pt, ht]; simp (disch := omega) only [us_ne, us_eq]
        have k3 : ∀ f, 0 ≤ f → f < 5 → pt t' (d 175 0) (3 + f) = 0 := fun f u w => by
          rw [pt, ht]
          obtain rfl | rfl | rfl | rfl | rfl : f = 0 ∨ f = 1 ∨ f = 2 ∨ f = 3 ∨ f = 4 := by omega
          all_goals simp (disch := omega) only [us_ne, us_eq]
        have kf : ∀ j : Nat, j ≠ 0 → (j < 16 + 8 * d 175 0 ∨ 24 + 8 * d 175 0 ≤ j) → t' j = d 175 j := fun j u w => by rw [ht]; simp (disch := omega) only [us_ne]
        refine ⟨TK_paint q.1 y x.1 x.2.1 x.2.2 h0 k0 k1 k2 k3 kf, RW_paint q.1 q.2 y h0 k0 k1 k2 k3 kf ?_ ?_ ?_ ?_ ?_ (fun k _ => ?_)⟩
        all_goals simp (disch := omega) only [up_o, up_us, us_ne, us_eq]
    · have y' : d 175 0 = 30 := by omega
      refine AG.ai v (AG.ret q (-1) ?_ (fun d' q' e => ?_))
      · unfold m_X3_add_2
        rw [r0, y', if_neg (by omega)]
      · have e1 := (m3 d' 0).1.trans e
        refine ⟨up d' 174 3 0, ?_, MS.u3 d' 0, up_same _ _ _ _⟩
        rw [p_paint ha hb hc, if_pos x, ld_in (by omega), Int.toNat_zero, e1, y', if_neg (by omega)]
  · refine AG.ai v (AG.thr q 0 (if_neg x) (fun d' q' e => ?_))
    rw [p_paint ha hb hc, if_neg x]
    exact thr1 d' 1

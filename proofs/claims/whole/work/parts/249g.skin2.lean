def SB (b : Int) : Prop := b = 1 ∨ b = 2
def SO (t : Nat → Int) (a b c e : Int) : Prop := (0 ≤ a ∧ a ≤ 5) ∧ (0 ≤ b ∧ b ≤ 2) ∧ (1 ≤ e ∧ e ≤ 99) ∧ (SB b → pt t c 1 = a)
def SN (t : Nat → Int) (b c : Int) : Prop := SB b ∧ ¬ (0 ≤ c ∧ c < t 0)
noncomputable def cif {α : Type} (P : Prop) (x y : α) : α := @ite α P (Classical.propDecidable P) x y
theorem cif_t {α : Type} {P : Prop} {x y : α} (h : P) : cif P x y = x := by unfold cif; rw [if_pos h]
theorem cif_f {α : Type} {P : Prop} {x y : α} (h : ¬ P) : cif P x y = y := by unfold cif; rw [if_neg h]
theorem q_skin27 {a b c e z : Int} {d : D9} {t : Nat → Int} (k : TK t) (r : RW d t) (ha : I32 a) (hb : I32 b) (hc : I32 c) (he : I32 e) (hz : z = 0 ∧ ¬ SB b ∨ z = 1 ∧ SB b) (hN : ¬ SN t b c) : m_X11_skin_0_c27 a b c e z d = cif (SO t a b c e) (m_X6_add_9 a b (if z = 0 then 0 else c) e d) (th 0 d) := by
  have n := TKn k
  unfold T7n at n
  have hzw : w32 z = z := w32_id (by rcases hz with hz | hz <;> omega)
  have hP : SB b → 0 ≤ c ∧ c < t 0 := fun h => Classical.byContradiction fun g => hN ⟨h, g⟩
  unfold m_X11_skin_0_c27
  rw [ask_i ha (by omega)]
  by_cases x : 0 ≤ a ∧ a ≤ 5
  · rw [if_pos x, cl_rt, ask_i hb (by omega)]
    by_cases y : 0 ≤ b ∧ b ≤ 2
    · rw [if_pos y, cl_rt, ask_i he (by omega)]
      by_cases w : 1 ≤ e ∧ e ≤ 99
      · rw [if_pos w, cl_rt, hzw]
        unfold m_X11_skin_0_c78 m_X11_skin_0_c97
        rw [hzw, cl_id, cl_id]
        rcases hz with ⟨rfl, hz⟩ | ⟨rfl, hz⟩
        · rw [if_pos rfl, if_pos rfl, if_pos rfl, cif_t ⟨x, y, w, fun h => absurd h hz⟩]
        · have hc2 := hP hz
          obtain ⟨_, x1, _⟩ := TKp k c hc2.1 hc2.2
          obtain ⟨_, y1, _⟩ := (RWp r).2.2.1 c hc2.1 hc2.2
          rw [if_neg ne10, ld_in (by omega), y1, w32_id (by omega), w32_id ha, if_neg ne10, if_neg ne10]
          by_cases u : pt t c 1 = a
          · rw [if_pos u, cif_t ⟨x, y, w, fun _ => u⟩]
          · rw [if_neg u, cif_f (fun h => u (h.2.2.2 hz))]
      · rw [if_neg w, cl_th, cif_f (fun h => w h.2.2.1)]
    · rw [if_neg y, cl_th, cif_f (fun h => y h.2.1)]
  · rw [if_neg x, cl_th, cif_f (fun h => x h.1)]
theorem q_skin {a b c e : Int} {d : D9} {t : Nat → Int} (k : TK t) (r : RW d t) (ha : I32 a) (hb : I32 b) (hc : I32 c) (he : I32 e) : m_X11_skin_0 a b c e d = cif (SN t b c) (th 2 d) (cif (SO t a b c e) (m_X6_add_9 a b (cif (SB b) c 0) e d) (th 0 d)) := by
  have n := TKn k
  unfold T7n at n
  have h1 : SB b → m_X11_skin_0 a b c e d = m_X11_skin_0_c15 a b c e 1 d := fun h => by
    unfold m_X11_skin_0
    rw [w32_id hb]
    rcases h with rfl | rfl
    · rw [if_pos (by decide)]
    · rw [if_neg (by decide), if_neg (by decide)]
  by_cases B : SB b
  · rw [h1 B]
    unfold m_X11_skin_0_c15
    rw [t1_0, if_neg ne10, q_askPaint hc (RWp r).1 n.1]
    by_cases p : 0 ≤ c ∧ c < t 0
    · have hN : ¬ SN t b c := fun h => h.2 p
      rw [if_pos p, cl_rt, q_skin27 k r ha hb hc he (Or.inr ⟨rfl, B⟩) hN, cif_f hN, cif_t B, if_neg ne10]
    · rw [if_neg p, cl_th, cif_t ⟨B, p⟩]
  · have hN : ¬ SN t b c := fun h => B h.1
    have : m_X11_skin_0 a b c e d = m_X11_skin_0_c15 a b c e 0 d := by
      unfold m_X11_skin_0
      rw [w32_id hb, if_neg (show ¬ b = w32 1 from fun h => B (Or.inl h)), if_pos (show b ≠ w32 2 from fun h => B (Or.inr h))]
    rw [this]
    unfold m_X11_skin_0_c15
    rw [t0_0, if_pos rfl, q_skin27 k r ha hb hc he (Or.inl ⟨rfl, B⟩) hN, cif_f hN, cif_f B, if_pos rfl]
theorem p_skin35 {a b c e z : Int} {d : D9} {t : Nat → Int} (k : TK t) (r : d 175 = t) (ha : I32 a) (hb : I32 b) (hc : I32 c) (he : I32 e) (hz : z = 0 ∧ ¬ SB b ∨ z = 1 ∧ SB b) (hN : ¬ SN t b c) : m_X12_skin_174_c35 a b c e z d = cif (SO t a b c e) (m_X12_skin_174_c93 a b c e d) (rt 0 (up d 174 3 2)) := by
  have n := TKn k
  unfold T7n at n
  have hzw : w32 z = z := w32_id (by rcases hz with hz | hz <;> omega)
  have hP : SB b → 0 ≤ c ∧ c < t 0 := fun h => Classical.byContradiction fun g => hN ⟨h, g⟩
  unfold m_X12_skin_174_c35 m_X12_skin_174_c87
  rw [w32_id ha, w32_id hb, w32_id he, hzw, within_i ha (by omega), cl_rt, w32_bi]
  by_cases x : 0 ≤ a ∧ a ≤ 5
  · rw [dec_t x, bi_t, if_neg ne10, within_i hb (by omega), cl_rt, w32_bi]
    by_cases y : 0 ≤ b ∧ b ≤ 2
    · rw [dec_t y, bi_t, if_neg ne10, within_i he (by omega), cl_rt, w32_bi]
      by_cases w : 1 ≤ e ∧ e ≤ 99
      · rw [dec_t w, bi_t, if_neg ne10]
        rcases hz with ⟨rfl, hz⟩ | ⟨rfl, hz⟩
        · rw [if_pos rfl, cif_t ⟨x, y, w, fun h => absurd h hz⟩]
        · have hc2 := hP hz
          obtain ⟨_, x1, _⟩ := TKp k c hc2.1 hc2.2
          rw [if_neg ne10, pt_of r (by omega), cl_rt, w32_id (by omega)]
          by_cases u : pt t c 1 = a
          · rw [if_pos u, cif_t ⟨x, y, w, fun _ => u⟩]
          · rw [if_neg u, cif_f (fun h => u (h.2.2.2 hz))]; rfl
      · rw [dec_f w, bi_f, if_pos rfl, cif_f (fun h => w h.2.2.1)]; rfl
    · rw [dec_f y, bi_f, if_pos rfl, cif_f (fun h => y h.2.1)]; rfl
  · rw [dec_f x, bi_f, if_pos rfl, cif_f (fun h => x h.1)]; rfl
theorem p_skin {a b c e : Int} {d : D9} {t : Nat → Int} (k : TK t) (r : d 175 = t) (ha : I32 a) (hb : I32 b) (hc : I32 c) (he : I32 e) : m_X12_skin_174 a b c e d = cif (SN t b c) (rt 0 (up (up d 174 3 0) 174 3 1)) (cif (SO t a b c e) (m_X12_skin_174_c93 a b c e (up d 174 3 0)) (rt 0 (up (up d 174 3 0) 174 3 2))) := by
  have n := TKn k
  unfold T7n at n
  have e1 := (m3 d 0).1.trans r
  unfold m_X12_skin_174
  rw [pf_v, w32_id hb, within_i hb (by omega), cl_rt, w32_bi]
  by_cases B : SB b
  · rw [dec_t (show 1 ≤ b ∧ b ≤ 2 by unfold SB at B; omega), bi_t, if_neg ne10, isPaint_t k e1 hc, cl_rt, w32_bi]
    by_cases p : 0 ≤ c ∧ c < t 0
    · have hN : ¬ SN t b c := fun h => h.2 p
      rw [dec_t p, bi_t, if_pos ne10, p_skin35 k e1 ha hb hc he (Or.inr ⟨rfl, B⟩) hN, cif_f hN]
    · rw [dec_f p, bi_f, if_neg (by omega), cif_t ⟨B, p⟩]; rfl
  · have hN : ¬ SN t b c := fun h => B h.1
    rw [dec_f (show ¬ (1 ≤ b ∧ b ≤ 2) by unfold SB at B; omega), bi_f, if_pos rfl, p_skin35 k e1 ha hb hc he (Or.inl ⟨rfl, B⟩) hN, cif_f hN]
theorem o_skin {a b c e : Int} {d : D9} (v : INV d) (ha : I32 a) (hb : I32 b) (hc : I32 c) (he : I32 e) : AI d (m_X11_skin_0 a b c e d) (m_X12_skin_174 a b c e) fN := by
  have q := v.1
  have n := TKn q.1
  unfold T7n at n
  have r0 := (RWs q.2).1
  have hC := q_skin q.1 q.2 ha hb hc he
  have hM := fun (d' : D9) (h : d' 175 = d 175) => p_skin q.1 h ha hb hc he
  by_cases x : SN (d 175) b c
  · rw [cif_t x] at hC
    refine AG.ai v (AG.thr q 2 hC (fun d' q' h => ?_))
    rw [hM d' h, cif_t x]
    exact thr1 d' 1
  · rw [cif_f x] at hC
    by_cases y : SO (d 175) a b c e
    · rw [cif_t y] at hC
      by_cases m : d 175 1 < 30
      · have hA : ∀ z, m_X6_add_9 a b z e d = rt (d 175 1) (up (up (up (up (up (up (up (up d 10 (d 175 1).toNat a) 11 (d 175 1).toNat b) 12 (d 175 1).toNat z) 13 (d 175 1).toNat e) 14 (d 175 1).toNat 0) 15 (d 175 1).toNat 0) 16 (d 175 1).toNat (-1)) 9 0 (d 175 1 + 1)) := fun z => by
          unfold m_X6_add_9
          rw [r0, w32_id (by omega), if_pos (show d 175 1 < w32 30 from m), sd_in (by omega)]
          simp (disch := omega) only [up_o, r0]
          rw [sd_in (by omega)]
          simp (disch := omega) only [up_o, r0]
          rw [sd_in (by omega)]
          simp (disch := omega) only [up_o, r0]
          rw [sd_in (by omega)]
          simp (disch := omega) only [up_o, r0]
          rw [sd_in (by omega)]
          simp (disch := omega) only [up_o, r0]
          rw [sd_in (by omega)]
          simp (disch := omega) only [up_o, r0]
          rw [sd_in (by omega), pf_v]
          simp (disch := omega) only [up_o, up_us, us_eq, r0]
          rw [show d 175 1 + 1 - 1 = d 175 1 by omega]
        have hB : cif (SB b) c 0 = if b = 0 then 0 else c := by
          have y1 := y.2.1
          by_cases w : b = 0
          · rw [if_pos w, cif_f (by unfold SB; omega)]
          · rw [if_neg w, cif_t (by unfold SB; omega)]
        have hP : b ≠ 0 → 0 ≤ c ∧ c < d 175 0 := fun w => Classical.byContradiction fun g => x ⟨by have y1 := y.2.1; unfold SB; omega, g⟩
        rw [hA, hB] at hC
        refine AI.up v (d 175 1) hC (fun k _ => by simp (disch := omega) only [up_o]) (fun d' h => ?_)
        have e1 := (m3 d' 0).1.trans h
        have y1 := y.2.1
        by_cases B : b = 0
        · refine ⟨up (up (up (up (up (up (up d' 174 3 0) 175 (336 + 17 * d 175 1 + 0).toNat a) 175 (336 + 17 * d 175 1 + 1).toNat b) 175 (336 + 17 * d 175 1 + 2).toNat (-1)) 175 (336 + 17 * d 175 1 + 3).toNat e) 175 (336 + 17 * d 175 1 + 4).toNat 0) 175 1 (d 175 1 + 1), ?_, M7.u (M7.u (M7.u (M7.u (M7.u (M7.u (M7.u3 (M7.rf d'))))))), ?_, by simp (disch := omega) only [up_o, up_us, us_eq]⟩
          · rw [hM d' h, cif_f x, cif_t y, m_X12_skin_174_c93, ld_in (by omega), Int.toNat_one, e1, w32_id (by omega), if_pos (show d 175 1 ≠ w32 30 from by rw [w32_id (by omega)]; omega), ld_in (by omega), Int.toNat_one, e1, lt_v, sd_in (by omega), sd_in (by omega), w32_id (by omega), if_neg (show ¬ b ≠ 0 by omega), m_X12_skin_174_c158, sd_in (by omega), sd_in (by omega), sd_in (by omega), ld_in (by omega), sd_in (by omega), ld_in (by omega), Int.toNat_one]
            simp (disch := omega) only [up_us, us_ne, us_eq, e1]
            rw [show d 175 1 + 1 - 1 = d 175 1 by omega]
          · generalize hz : (up (up (up (up (up (up (up d' 174 3 0) 175 (336 + 17 * d 175 1 + 0).toNat a) 175 (336 + 17 * d 175 1 + 1).toNat b) 175 (336 + 17 * d 175 1 + 2).toNat (-1)) 175 (336 + 17 * d 175 1 + 3).toNat e) 175 (336 + 17 * d 175 1 + 4).toNat 0) 175 1 (d 175 1 + 1) : D9) 175 = t'
            have ht : ∀ j, t' j = (up (up (up (up (up (up (up d' 174 3 0) 175 (336 + 17 * d 175 1 + 0).toNat a) 175 (336 + 17 * d 175 1 + 1).toNat b) 175 (336 + 17 * d 175 1 + 2).toNat (-1)) 175 (336 + 17 * d 175 1 + 3).toNat e) 175 (336 + 17 * d 175 1 + 4).toNat 0) 175 1 (d 175 1 + 1) : D9) 175 j := fun j => by rw [hz]
            simp only [up_us, e1] at ht
            have k0 : sk t' (d 175 1) 0 = a := by rw [sk, ht]; simp (disch := omega) only [us_ne, us_eq]
            have k1 : sk t' (d 175 1) 1 = b := by rw [sk, ht]; simp (disch := omega) only [us_ne, us_eq]
            have k2 : sk t' (d 175 1) 2 = (-1) := by rw [sk, ht]; simp (disch := omega) only [us_ne, us_eq]
            have k3 : sk t' (d 175 1) 3 = e := by rw [sk, ht]; simp (disch := omega) only [us_ne, us_eq]
            have k4 : sk t' (d 175 1) 4 = 0 := by rw [sk, ht]; simp (disch := omega) only [us_ne, us_eq]
            have kf : ∀ j : Nat, j ≠ 1 → (j < 336 + 17 * d 175 1 ∨ 341 + 17 * d 175 1 ≤ j) → t' j = d 175 j := fun j u w => by rw [ht]; simp (disch := omega) only [us_ne]
            refine T_skin (c := c) q.1 q.2 m y.1 y.2.1 hP y.2.2.1 ⟨by rw [ht, us_eq rfl], k0, k1, fun u => absurd B u, k3, k4, kf⟩ ?_ ?_ ?_ ?_ ?_ ?_ ?_ ?_ (fun k _ => ?_)
            all_goals simp (disch := omega) only [up_o, up_us, us_ne, us_eq]
        · refine ⟨up (up (up (up (up (up (up d' 174 3 0) 175 (336 + 17 * d 175 1 + 0).toNat a) 175 (336 + 17 * d 175 1 + 1).toNat b) 175 (336 + 17 * d 175 1 + 2).toNat c) 175 (336 + 17 * d 175 1 + 3).toNat e) 175 (336 + 17 * d 175 1 + 4).toNat 0) 175 1 (d 175 1 + 1), ?_, M7.u (M7.u (M7.u (M7.u (M7.u (M7.u (M7.u3 (M7.rf d'))))))), ?_, by simp (disch := omega) only [up_o, up_us, us_eq]⟩
          · rw [hM d' h, cif_f x, cif_t y, m_X12_skin_174_c93, ld_in (by omega), Int.toNat_one, e1, w32_id (by omega), if_pos (show d 175 1 ≠ w32 30 from by rw [w32_id (by omega)]; omega), ld_in (by omega), Int.toNat_one, e1, lt_v, sd_in (by omega), sd_in (by omega), w32_id (by omega), if_pos B, m_X12_skin_174_c158, sd_in (by omega), sd_in (by omega), sd_in (by omega), ld_in (by omega), sd_in (by omega), ld_in (by omega), Int.toNat_one]
            simp (disch := omega) only [up_us, us_ne, us_eq, e1]
            rw [show d 175 1 + 1 - 1 = d 175 1 by omega]
          · generalize hz : (up (up (up (up (up (up (up d' 174 3 0) 175 (336 + 17 * d 175 1 + 0).toNat a) 175 (336 + 17 * d 175 1 + 1).toNat b) 175 (336 + 17 * d 175 1 + 2).toNat c) 175 (336 + 17 * d 175 1 + 3).toNat e) 175 (336 + 17 * d 175 1 + 4).toNat 0) 175 1 (d 175 1 + 1) : D9) 175 = t'
            have ht : ∀ j, t' j = (up (up (up (up (up (up (up d' 174 3 0) 175 (336 + 17 * d 175 1 + 0).toNat a) 175 (336 + 17 * d 175 1 + 1).toNat b) 175 (336 + 17 * d 175 1 + 2).toNat c) 175 (336 + 17 * d 175 1 + 3).toNat e) 175 (336 + 17 * d 175 1 + 4).toNat 0) 175 1 (d 175 1 + 1) : D9) 175 j := fun j => by rw [hz]
            simp only [up_us, e1] at ht
            have k0 : sk t' (d 175 1) 0 = a := by rw [sk, ht]; simp (disch := omega) only [us_ne, us_eq]
            have k1 : sk t' (d 175 1) 1 = b := by rw [sk, ht]; simp (disch := omega) only [us_ne, us_eq]
            have k2 : sk t' (d 175 1) 2 = c := by rw [sk, ht]; simp (disch := omega) only [us_ne, us_eq]
            have k3 : sk t' (d 175 1) 3 = e := by rw [sk, ht]; simp (disch := omega) only [us_ne, us_eq]
            have k4 : sk t' (d 175 1) 4 = 0 := by rw [sk, ht]; simp (disch := omega) only [us_ne, us_eq]
            have kf : ∀ j : Nat, j ≠ 1 → (j < 336 + 17 * d 175 1 ∨ 341 + 17 * d 175 1 ≤ j) → t' j = d 175 j := fun j u w => by rw [ht]; simp (disch := omega) only [us_ne]
            refine T_skin (c := c) q.1 q.2 m y.1 y.2.1 hP y.2.2.1 ⟨by rw [ht, us_eq rfl], k0, k1, fun u => k2, k3, k4, kf⟩ ?_ ?_ ?_ ?_ ?_ ?_ ?_ ?_ (fun k _ => ?_)
            all_goals simp (disch := omega) only [up_o, up_us, us_ne, us_eq]
      · have m' : d 175 1 = 30 := by omega
        have hA : ∀ z, m_X6_add_9 a b z e d = rt (-1) d := fun z => by
          unfold m_X6_add_9
          rw [r0, m', if_neg (by omega)]
        rw [hA] at hC
        refine AG.ai v (AG.ret q (-1) hC (fun d' q' h => ?_))
        have e1 := (m3 d' 0).1.trans h
        refine ⟨up d' 174 3 0, ?_, MS.u3 d' 0, up_same _ _ _ _⟩
        rw [hM d' h, cif_f x, cif_t y, m_X12_skin_174_c93, ld_in (by omega), Int.toNat_one, e1, m', if_neg (by omega)]
    · rw [cif_f y] at hC
      refine AG.ai v (AG.thr q 0 hC (fun d' q' h => ?_))
      rw [hM d' h, cif_f x, cif_f y]
      exact thr1 d' 2

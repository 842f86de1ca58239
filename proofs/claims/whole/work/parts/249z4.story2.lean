/-! stories -/
theorem TK_story {t t' : Nat → Int} (k : TK t) (l : T7y t') (hf : ∀ j : Nat, j ≠ 5 → (j < 1086 ∨ 1134 ≤ j) → t' j = t j) : TK t' := by
  have n := TKn k
  unfold T7n at n
  have hA : ∀ lo hi, (6 ≤ lo ∧ hi ≤ 1086) ∨ 1134 ≤ lo ∨ hi ≤ 5 → AGR t t' lo hi := fun lo hi h j x y => hf j (by omega) (by omega)
  exact ⟨T7n_c (hA _ _ (by omega)) (TKn k), T7l_c (hf 4 (by omega) (by omega)) (hA _ _ (by omega)) (TKl k), T7p_c (hf 0 (by omega) (by omega)) (hA _ _ (by omega)) (by omega) (TKp k), T7o_c (hf 0 (by omega) (by omega)) (hf 2 (by omega) (by omega)) (hA _ _ (by omega)) (by omega) (TKo k), T7s_c (by rw [hf 0 (by omega) (by omega)]; omega) (hf 1 (by omega) (by omega)) (by omega) (hA _ _ (by omega)) (TKs k), T7h_c (hf 3 (by omega) (by omega)) (by omega) (hA _ _ (by omega)) (TKh k), l, T7w_c (hA _ _ (by omega)) (TKw k), T7r_c (hA _ _ (by omega)) (TKr k)⟩
theorem RW_story {t t' : Nat → Int} {d d1 : D9} (k : TK t) (r : RW d t) (hf : ∀ j : Nat, j ≠ 5 → (j < 1086 ∨ 1134 ≤ j) → t' j = t j) (hd : ∀ k, k < 23 ∨ 27 < k → k ≤ 37 → d1 k = d k) (l : R7y d1 t') : RW d1 t' := by
  have n := TKn k
  unfold T7n at n
  have hA : ∀ lo hi, (6 ≤ lo ∧ hi ≤ 1086) ∨ 1134 ≤ lo ∨ hi ≤ 5 → AGR t t' lo hi := fun lo hi h j x y => hf j (by omega) (by omega)
  exact ⟨R7l_t (hf 4 (by omega) (by omega)) (hA _ _ (by omega)) (R7l_c (RWl r) (hd _ (by omega) (by omega))), R7p_t (hf 0 (by omega) (by omega)) (hf 2 (by omega) (by omega)) (by omega) (hA _ _ (by omega)) (R7p_c (RWp r) (hd _ (by omega) (by omega)) (hd _ (by omega) (by omega)) (hd _ (by omega) (by omega)) (hd _ (by omega) (by omega)) (hd _ (by omega) (by omega))), R7o_t (hf 2 (by omega) (by omega)) (by omega) (hA _ _ (by omega)) (R7o_c (RWo r) (hd _ (by omega) (by omega)) (hd _ (by omega) (by omega))), R7s_t (hf 1 (by omega) (by omega)) (by omega) (hA _ _ (by omega)) (hA _ _ (by omega)) (TKs k) (R7s_c (RWs r) (fun k x y => hd k (by omega) (by omega))), R7h_t (hf 3 (by omega) (by omega)) (by omega) (hA _ _ (by omega)) (R7h_c (RWh r) (hd _ (by omega) (by omega)) (hd _ (by omega) (by omega)) (hd _ (by omega) (by omega))), l, R7w_t (hA _ _ (by omega)) (R7w_c (RWw r) (hd _ (by omega) (by omega)) (hd _ (by omega) (by omega))), R7r_t (hA _ _ (by omega)) (TKr k) (R7r_c (RWr r) (fun k x y => hd k (by omega) (by omega)))⟩
theorem p_storyCopy {k : Int} {e : D9} (hk : 0 ≤ k ∧ k ≤ 12) : ∃ e1, m_X12_stories_174_c66 k 0 e = m_X12_stories_174_c102 k (up e1 175 5 k) ∧ CPY e e1 175 1086 (fun i => e 180 i.toNat) (4 * k) := by
  have z := fix_fu (z := fun _ _ _ => none) (B := fun k => b_X12_stories_174_c66 k) (fun kk i (s : D9) => kk k i s) 0 (4 * k) (fun i s => up s 175 (1086 + i).toNat (e 180 i.toNat)) (fun i s => 0 ≤ i ∧ CPY e s 175 1086 (fun i => e 180 i.toNat) i) (fun s => m_X12_stories_174_c102 k (up s 175 5 k)) e (by omega) ⟨by omega, CPY.z _ _ _ _⟩ ?_ ?_
  · exact ⟨_, z.2, z.1.2⟩
  · intro kk s hI
    simp only [b_X12_stories_174_c66]
    rw [if_pos (Int.le_refl _), sd_in (by omega)]
    rfl
  · intro kk i s hi hI
    refine ⟨⟨by omega, hI.2.st (by omega)⟩, ?_⟩
    simp only [b_X12_stories_174_c66]
    rw [w32_id (by omega), w32_id (by omega), if_neg (by omega), ld_in (by omega), sd_in (by omega), hI.2.1 180 (by omega)]
theorem cpy_k {d : D9} {a b n k : Nat} (h : k ≠ b) : cpy d a b n k = d k := by
  funext j; unfold cpy; rw [if_neg (fun g => h g.1)]
theorem cpy_b {d : D9} {a b n j : Nat} (h : j < n) : cpy d a b n b j = d a j := by
  unfold cpy; rw [if_pos ⟨rfl, h⟩]
theorem q_storyCopy (d : D9) : ∃ d1, m_X7_copyFrom_23_41 d = rt 0 d1 ∧ (∀ k, k < 23 ∨ 27 < k → d1 k = d k) ∧ d1 23 0 = d 41 0 ∧ ∀ j : Nat, j < 12 → d1 24 j = d 42 j ∧ d1 25 j = d 43 j ∧ d1 26 j = d 44 j ∧ d1 27 j = d 45 j := by
  unfold m_X7_copyFrom_23_41
  rw [pf_v, m_X11_copyRow_42_24, cp_in (n := 12) (m := 12) rfl (by decide), cl_rt, m_X11_copyRow_43_25, cp_in (n := 12) (m := 12) rfl (by decide), cl_rt, m_X11_copyRow_44_26, cp_in (n := 12) (m := 12) rfl (by decide), cl_rt, m_X11_copyRow_45_27, cp_in (n := 12) (m := 12) rfl (by decide), cl_rt]
  refine ⟨_, rfl, fun k a => ?_, ?_, fun j a => ⟨?_, ?_, ?_, ?_⟩⟩
  · rw [cpy_k (by omega), cpy_k (by omega), cpy_k (by omega), cpy_k (by omega), up_o (by omega)]
  · rw [cpy_k (by omega), cpy_k (by omega), cpy_k (by omega), cpy_k (by omega), up_us, us_eq rfl]
  · rw [cpy_k (by omega), cpy_k (by omega), cpy_k (by omega), cpy_b a, up_o (by omega)]
  · rw [cpy_k (by omega), cpy_k (by omega), cpy_b a, cpy_k (by omega), up_o (by omega)]
  · rw [cpy_k (by omega), cpy_b a, cpy_k (by omega), cpy_k (by omega), up_o (by omega)]
  · rw [cpy_b a, cpy_k (by omega), cpy_k (by omega), cpy_k (by omega), up_o (by omega)]
theorem j_stories {d e : D9} {p : Int} (j : JR d e) (hp : 0 ≤ p ∧ p ≤ e 174 7) : ∃ x d1 e1, m_X11_stories_0 p d = rt x d1 ∧ m_X12_stories_174 p e = rt x e1 ∧ JP d e d1 e1 := by
  obtain ⟨jT, jR, ⟨j1, j2, j3⟩, j4, j5⟩ := id j
  have hI : I32 p := by unfold I32; omega
  obtain ⟨d1, e1, a1, a2, a3, a4, a5, a6, a7, a8⟩ := r_begin (d := d) (e := up e 174 3 0) (p := p) (by unfold TPE; rw [up_o (by decide)]; exact j5) (by omega)
  have ok2 : OK (up d1 41 0 0) e1 := OK_c a3 (up_o (by decide)) (up_o (by decide)) (fun i _ => rfl) rfl
  obtain ⟨d3, e3, k, f1, f2, f3, f4, f5, f6⟩ := r_storyLoop 13 FU FU 0 (up d1 41 0 0) e1 (by decide) (by decide) (by decide) (by decide) (Or.inl ok2) (fun g => by omega) (fun _ => ⟨fun i hi => by omega, by rw [up_us, us_eq rfl]⟩)
  have gd : ∀ k, k < 40 ∨ 51 < k → d3 k = d k := fun k a => by rw [f3.1 k a, up_o (by omega), a4 k (by omega)]
  have g1 : d3 51 1 = 0 := by rw [f3.2 1 (by omega), up_o (by omega), a5]
  have ge : ∀ k, k ≠ 174 → k < 179 ∨ 181 < k → e3 k = e k := fun k a b => by rw [f4.1 k a b, a6 k a, up_o a]
  have g7 : e3 174 7 = 0 := by rw [f4.2 7 (by omega) (by omega) (by omega), a8]
  have g0 : ∀ j, j < 7 ∨ 19 < j → e3 174 j = up e 174 3 0 174 j := fun j a => by rw [f4.2 j (by omega) (by omega) (by omega), a7 j (by omega)]
  have g20 : e3 174 20 = e 174 20 ∧ e3 174 21 = e 174 21 := by
    rw [g0 20 (by omega), g0 21 (by omega), up_us, us_ne (by omega), us_ne (by omega)]; exact ⟨rfl, rfl⟩
  have g3 : e3 174 3 = 0 := by rw [g0 3 (by omega), m3w]
  have hC : m_X11_stories_0 p d = cl (m_X8_failed_51 d3) (fun r7 d8 => if w32 r7 = 0 then cl (m_X7_copyFrom_23_41 d8) (fun r9 d10 => rt (d10 23 0) d10) else rt ((-10) - (d8 51 2)) d8) := by
    unfold m_X11_stories_0 m_X7_readFrom_41_51 m_X7_readFrom_41_51_c7
    rw [j1, ask_i hI (by omega), if_pos hp, cl_rt, a1, cl_rt, pf_v, f1, cl_rt]
  have hM : m_X12_stories_174 p e = m_X12_stories_174_c57 k e3 := by
    unfold m_X12_stories_174 m_X12_stories_174_c32
    rw [pf_v, w32_id hI, show up e 174 3 0 174 7 = e 174 7 from by rw [up_us, us_ne (by decide)], wi (x := e 174 7) (by omega), within_i hI (by omega), cl_rt, w32_bi, dec_t hp, bi_t, if_pos ne10, a2, cl_rt, f2]
  rcases f5 with o | b
  · obtain ⟨o1, o2, o3⟩ := f6 o
    obtain ⟨e4, h1, h2, h3⟩ := p_storyCopy (k := k) (e := e3) o1
    obtain ⟨d4, i1, i2, i3, i4⟩ := q_storyCopy d3
    have t4 : e3 175 = e 175 := ge 175 (by omega) (by omega)
    have he2 : ∀ k', k' ≠ 175 → up e4 175 5 k k' = e3 k' := fun k' a => by rw [up_o a]; exact h2 k' a
    generalize ht : up e4 175 5 k 175 = t'
    have hf : ∀ j : Nat, j ≠ 5 → (j < 1086 ∨ 1134 ≤ j) → t' j = e 175 j := fun j a b => by
      rw [← ht, up_us, us_ne a, h3, if_neg (by omega), t4]
    have ht5 : t' 5 = k := by rw [← ht, up_us, us_eq rfl]
    have hst : ∀ i : Int, 0 ≤ i → i < k → ∀ w : Nat, w < 4 → st t' i w = e3 180 (4 * i.toNat + w) := fun i u v w y => by
      rw [st, ← ht, up_us, us_ne (by omega), h3, if_pos (by omega)]
      show e3 180 _ = _
      congr 1; omega
    have hs1 : ∀ i : Int, 0 ≤ i → i < k → S1 d3 e3 i.toNat ∧ st t' i 0 = e3 180 (4 * i.toNat) ∧ st t' i 1 = e3 180 (4 * i.toNat + 1) ∧ st t' i 2 = e3 180 (4 * i.toNat + 2) ∧ st t' i 3 = e3 180 (4 * i.toNat + 3) := fun i u v =>
      ⟨o3 i.toNat (by omega), hst i u v 0 (by omega), hst i u v 1 (by omega), hst i u v 2 (by omega), hst i u v 3 (by omega)⟩
    have ty : T7y t' := by
      refine ⟨by rw [ht5]; exact o1, fun i u v => ?_⟩
      rw [ht5] at v
      obtain ⟨⟨_, s1, s2, s3, s4, s5⟩, y0, y1, y2, y3⟩ := hs1 i u v
      rw [y0, y1, y2, y3]
      exact ⟨s1, s2, s3, s4, s5⟩
    have ry : R7y d4 t' := by
      refine ⟨by rw [i3, ht5, o2], fun i u v => ?_⟩
      rw [ht5] at v
      obtain ⟨⟨⟨s1, s2, s3, s4⟩, _⟩, y0, y1, y2, y3⟩ := hs1 i u v
      obtain ⟨z0, z1, z2, z3⟩ := i4 i.toNat (by omega)
      rw [y0, y1, y2, y3, z0, z1, z2, z3]
      exact ⟨s1, s2, s3, s4⟩
    have kT : TK t' := TK_story jT ty hf
    have rwd : RW d4 t' := RW_story jT jR hf (fun k a b => by rw [i2 k (by omega), gd k (by omega)]) ry
    have z13 : up e4 175 5 k 174 13 = 0 := by rw [he2 174 (by decide)]; exact o.2.2
    refine ⟨k, d4, _, ?_, ?_, j_good (e2 := up e4 175 5 k) j gd g1 ge g7 g20 g3 o (fun k a => i2 k (by omega)) he2 (by rw [ht]; exact kT) (by rw [ht]; exact rwd)⟩
    · rw [hC]
      unfold m_X8_failed_51
      rw [o.2.1, if_pos (show w32 0 = 0 from rfl), cl_rt, if_pos (by decide), i1, cl_rt, i3, o2]
    · rw [hM]
      unfold m_X12_stories_174_c57
      rw [o.2.2, if_neg (by decide), h1]
      unfold m_X12_stories_174_c102
      rw [p_ends (by omega), cl_rt, if_pos z13]
  · refine ⟨-10 - d3 51 2, d3, _, ?_, ?_, j_fault j gd g1 ge g7 g20 g3 b⟩
    · rw [hC]
      unfold m_X8_failed_51
      rw [if_neg b.c, cl_rt, if_neg (by decide)]
    · rw [hM]
      unfold m_X12_stories_174_c57 m_X12_stories_174_c102
      have := b.2.1
      rw [if_pos b.m, p_ends (by omega), cl_rt, if_neg (show ¬ e3 174 13 = 0 by omega), b.1]
theorem o_stories {p : Int} {d : D9} (v : INV d) (hp : I32 p) : AI d (m_X11_stories_0 p d) (m_X12_stories_174 p) fA := by
  obtain ⟨⟨j1, _, _⟩, j4, _⟩ := v.2.2.1
  by_cases x : 0 ≤ p ∧ p ≤ d 174 7
  · refine AI.j v (fun e j => ?_)
    have := j.2.2.1.1
    exact j_stories j (by omega)
  · refine Or.inr ⟨0, d, ⟨?_, by decide⟩, fun d' h => ?_⟩
    · unfold m_X11_stories_0
      rw [j1, ask_i hp (by omega), if_neg x, cl_th]
    · refine ⟨0, _, ?_, (h.sm.tr ((MS.u3 d' 0).tr (MS.u3 _ 1)).1).inv v, ((MS.u3 d' 0).tr (MS.u3 _ 1)).2, up_same _ _ _ _⟩
      unfold m_X12_stories_174
      rw [pf_v, w32_id hp, show up d' 174 3 0 174 7 = d 174 7 from by rw [up_us, us_ne (by decide), h 174 (by decide)], wi (x := d 174 7) (by omega), within_i hp (by omega), cl_rt, w32_bi, dec_f x, bi_f, if_neg (by decide), p_fails, cl_rt]

/-! a write into a tray -/
def I64 (x : Int) : Prop := -9223372036854775808 ≤ x ∧ x ≤ 9223372036854775807
def wv (k x : Int) : Int := if k = 0 then Int.bmod x 256 else if k = 1 then Int.bmod x 65536 else if k = 2 then w32 x else x
theorem wv_rng {k x : Int} (hx : I64 x) : I64 (wv k x) := by
  unfold wv I64
  have := w32_rng x
  split
  · rw [Int.bmod_def]; split <;> omega
  · split
    · rw [Int.bmod_def]; split <;> omega
    · split
      · omega
      · exact hx
theorem wv_m {k x : Int} (hk : 0 ≤ k ∧ k ≤ 3) (hx : I64 x) : shrL (shlL x (64 - shl9 8 k)) (64 - shl9 8 k) = wv k x := by
  unfold I64 at hx
  obtain rfl | rfl | rfl | rfl : k = 0 ∨ k = 1 ∨ k = 2 ∨ k = 3 := by omega
  · rw [show (64 - shl9 8 0 : Int) = 56 from rfl, shrL, shlL, show sh6 56 = 56 from rfl, show wv 0 x = Int.bmod x 256 from rfl, w64, show (2 : Int) ^ 56 = 72057594037927936 from rfl, Int.bmod_def, Int.bmod_def]
    split <;> split <;> omega
  · rw [show (64 - shl9 8 1 : Int) = 48 from rfl, shrL, shlL, show sh6 48 = 48 from rfl, show wv 1 x = Int.bmod x 65536 from rfl, w64, show (2 : Int) ^ 48 = 281474976710656 from rfl, Int.bmod_def, Int.bmod_def]
    split <;> split <;> omega
  · rw [show (64 - shl9 8 2 : Int) = 32 from rfl, shrL, shlL, show sh6 32 = 32 from rfl, show wv 2 x = w32 x from rfl, w64, w32, show (2 : Int) ^ 32 = 4294967296 from rfl, Int.bmod_def, Int.bmod_def]
    split <;> split <;> omega
  · rw [show (64 - shl9 8 3 : Int) = 0 from rfl, shrL, shlL, show sh6 0 = 0 from rfl, show wv 3 x = x from rfl, show (2 : Int) ^ 0 = 1 from rfl, Int.mul_one, Int.ediv_one, w64_id hx]
theorem q_put5 {p i x : Int} {d : D9} (hp : 0 ≤ p ∧ p ≤ 3) (hi : 0 ≤ i ∧ i < 40) (hk : 0 ≤ d 55 p.toNat ∧ d 55 p.toNat ≤ 3) : m_X9_put_54 p i x d = rt (wv (d 55 p.toNat) x) (up d 57 (p * 40 + i).toNat (wv (d 55 p.toNat) x)) := by
  unfold m_X9_put_54 m_X9_put_54_c55
  simp (disch := omega) only [ld_in, sd_in, lt_v]
  have b1 : w32 (Int.bmod x 256) = Int.bmod x 256 := w32_id (by rw [Int.bmod_def]; split <;> omega)
  have b2 : w32 (Int.bmod x 65536) = Int.bmod x 65536 := w32_id (by rw [Int.bmod_def]; split <;> omega)
  rw [b1, b2, w32_id (a := d 55 p.toNat) (by omega), w32_id (a := 1) (by omega), w32_id (a := 2) (by omega)]
  unfold wv
  by_cases k0 : d 55 p.toNat = 0
  · rw [if_neg (by omega), if_pos k0]
  · rw [if_pos k0, if_neg k0]
    by_cases k1 : d 55 p.toNat = 1
    · rw [if_neg (by omega), if_pos k1]
    · rw [if_pos k1, if_neg k1]
      by_cases k2 : d 55 p.toNat = 2
      · rw [if_neg (by omega), if_pos k2]
      · rw [if_pos k2, if_neg k2]
theorem q_askFilled {p : Int} {d : D9} (hp : I32 p) (t : TY d) : m_X11_askFilledTray_0 p d = if 0 ≤ p ∧ p ≤ 3 then (if d 56 p.toNat = -1 then th 1 d else rt 0 d) else th 2 d := by
  unfold m_X11_askFilledTray_0
  rw [q_askTray hp]
  by_cases x : 0 ≤ p ∧ p ≤ 3
  · have r : -1 ≤ d 56 p.toNat ∧ d 56 p.toNat ≤ 40 := by
      rcases t.1 p.toNat (by omega) with ⟨a, b⟩ | ⟨a, b⟩ <;> omega
    rw [if_pos x, if_pos x, cl_rt, ld_in (by omega), w32_id (by omega), w32_id (by omega)]
    by_cases y : d 56 p.toNat = -1
    · rw [if_neg (by omega), if_pos y]
    · rw [if_pos y, if_neg y]
  · rw [if_neg x, if_neg x, cl_th]
def fW : Nat → Int := fun e => if e = 2 then 1 else if e = 1 then 2 else if e = 3 then 3 else 0
theorem o_write {p i x : Int} {d : D9} (v : INV d) (hp : I32 p) (hi : I32 i) (hx : I64 x) : AI d (m_X11_write_0 p i x d) (m_X12_write_174 p i x) fW := by
  have q := v.1
  have t := v.2.2.2.2
  have hC := m_X11_write_0.eq_1 p i x d
  rw [q_askFilled hp t] at hC
  have e3 : ∀ {d d' : D9} {k : Nat}, SM d d' → (191 ≤ k ∧ k ≤ 193) → (up d' 174 3 0) k = d k := fun s h => by
    rw [up_o (by omega)]; exact s.1 _ (by unfold SCR; omega)
  by_cases a : 0 ≤ p ∧ p ≤ 3
  · rw [if_pos a] at hC
    rcases t.1 p.toNat (by omega) with ⟨b, c⟩ | ⟨b, c, c1, c2⟩
    · rw [if_pos b, cl_th] at hC
      refine AG.ai v (Or.inr ⟨1, d, ⟨hC, by decide⟩, SM.rf d, fun d' s => ?_⟩)
      unfold m_X12_write_174
      rw [pf_v, p_isTray hp, cl_rt, dec_t a, bi_t, t1_0, if_pos ne10, ld_in (by omega), e3 s (by omega), c, if_neg (by omega), p_fails, cl_rt]
      exact ⟨_, _, rfl, (MS.u3 d' 0).tr (MS.u3 _ 2), m3w _ _⟩
    · rw [if_neg (by omega), cl_rt, w32_id hi] at hC
      by_cases y : 0 ≤ i ∧ i ≤ d 56 p.toNat - 1
      · rw [if_neg (show ¬ i < 0 by omega), ld_in (by omega), w32_id (by omega), if_pos (show i < d 56 p.toNat by omega), q_put5 a (by omega) (by omega), cl_rt, c2] at hC
        have wr := wv_rng (k := d 191 p.toNat) hx
        refine AI.ty v _ hC (fun k _ _ g => up_o g) (fun d' h => ?_)
        have e5 : ∀ {k : Nat}, (191 ≤ k ∧ k ≤ 193) → (up d' 174 3 0) k = d k := fun g => by
          rw [up_o (by omega), h _ (by omega), up_o (by omega)]
        refine ⟨up (up d' 174 3 0) 193 (40 * p + i).toNat (wv (d 191 p.toNat) x), ?_, fun k g1 g2 g3 g4 => by rw [up_o g4, up_o g1], fun j g => by rw [up_o (by omega), up_us, us_ne g], ?_, by rw [up_o (by omega), up_us, us_eq rfl]⟩
        · rw [m_X12_write_174, pf_v, p_isTray hp, cl_rt, dec_t a, bi_t, t1_0, if_pos ne10, ld_in (by omega), e5 (by omega), w32_id (by omega), if_pos (by rw [w32_id (by omega)]; omega), ld_in (by omega), e5 (by omega), c, w32_id hi, w32_id (a := d 56 p.toNat - 1) (by omega), within_i hi (by omega), cl_rt, w32_bi, dec_t y, bi_t, if_pos ne10, ld_in (by omega), e5 (by omega), lt_v, sd_in (by omega), ld_in (by omega), wv_m c1 hx, up_us, us_eq rfl]
        · have f : ∀ k, k ≠ 174 → k ≠ 193 → k ≠ 57 → k ≠ 194 → (up (up d' 174 3 0) 193 (40 * p + i).toNat (wv (d 191 p.toNat) x)) k = d k := fun k g1 g2 g3 g4 => by
            rw [up_o g2, up_o g1, h k g4, up_o g3]
          refine ⟨fun j g => ?_, fun j g => ?_⟩
          · rw [f 56 (by omega) (by omega) (by omega) (by omega), f 191 (by omega) (by omega) (by omega) (by omega), f 192 (by omega) (by omega) (by omega) (by omega), f 55 (by omega) (by omega) (by omega) (by omega)]
            exact t.1 j g
          · rw [up_us, e5 (by omega), up_o (show 57 ≠ 193 by omega), up_o (show 57 ≠ 174 by omega), h 57 (by omega), up_us]
            by_cases e : j = (40 * p + i).toNat
            · rw [us_eq e, us_eq (by omega)]; exact ⟨rfl, wr⟩
            · rw [us_ne e, us_ne (by omega)]; exact t.2 j g
      · have hC2 : m_X11_write_0 p i x d = th 3 d := by
          rw [hC, m_X11_write_0_c22]
          by_cases z : i < 0
          · rw [if_pos z]
          · rw [if_neg z, ld_in (by omega), w32_id (by omega), if_neg (show ¬ i < d 56 p.toNat by omega)]
        refine AG.ai v (Or.inr ⟨3, d, ⟨hC2, by decide⟩, SM.rf d, fun d' s => ?_⟩)
        rw [m_X12_write_174, pf_v, p_isTray hp, cl_rt, dec_t a, bi_t, t1_0, if_pos ne10, ld_in (by omega), e3 s (by omega), w32_id (by omega), if_pos (by rw [w32_id (by omega)]; omega), ld_in (by omega), e3 s (by omega), c, w32_id hi, w32_id (a := d 56 p.toNat - 1) (by omega), within_i hi (by omega), cl_rt, w32_bi, dec_f y, bi_f, if_neg (show ¬ (0 : Int) ≠ 0 by omega), p_fails, cl_rt]
        exact ⟨_, _, rfl, (MS.u3 d' 0).tr (MS.u3 _ 3), m3w _ _⟩
  · rw [if_neg a, cl_th] at hC
    refine AG.ai v (Or.inr ⟨2, d, ⟨hC, by decide⟩, SM.rf d, fun d' s => ?_⟩)
    unfold m_X12_write_174
    rw [pf_v, p_isTray hp, cl_rt, dec_f a, bi_f, t0_0, if_neg (by omega), p_fails, cl_rt]
    exact ⟨_, _, rfl, (MS.u3 d' 0).tr (MS.u3 _ 1), m3w _ _⟩

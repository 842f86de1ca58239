/-! what is told agrees on a range -/
def AGR (t t' : Nat → Int) (lo hi : Nat) : Prop := ∀ j, lo ≤ j → j < hi → t' j = t j
theorem AGR.sub {t t' : Nat → Int} {lo hi a b : Nat} (h : AGR t t' lo hi) (x : lo ≤ a) (y : b ≤ hi) : AGR t t' a b := fun j p q => h j (by omega) (by omega)
theorem pt_c {t t' : Nat → Int} (h : AGR t t' 16 256) {p w : Int} (hp : (0 ≤ p ∧ p < 30) ∧ 0 ≤ w ∧ w < 8) : pt t' p w = pt t p w := h _ (by omega) (by omega)
theorem sk_c {t t' : Nat → Int} (h : AGR t t' 336 846) {s w : Int} (hs : (0 ≤ s ∧ s < 30) ∧ 0 ≤ w ∧ w < 17) : sk t' s w = sk t s w := h _ (by omega) (by omega)
theorem hd_c {t t' : Nat → Int} (h : AGR t t' 846 1086) {s w : Int} (hs : (0 ≤ s ∧ s < 40) ∧ 0 ≤ w ∧ w < 6) : hd t' s w = hd t s w := h _ (by omega) (by omega)
theorem st_c {t t' : Nat → Int} (h : AGR t t' 1086 1134) {s w : Int} (hs : (0 ≤ s ∧ s < 12) ∧ 0 ≤ w ∧ w < 4) : st t' s w = st t s w := h _ (by omega) (by omega)
theorem oU_c {t t' : Nat → Int} (h : AGR t t' 256 336) {k : Int} (hk : 0 ≤ k ∧ k < 40) : oU t' k = oU t k := h _ (by omega) (by omega)
theorem oL_c {t t' : Nat → Int} (h : AGR t t' 256 336) {k : Int} (hk : 0 ≤ k ∧ k < 40) : oL t' k = oL t k := h _ (by omega) (by omega)
theorem T7n_c {t t' : Nat → Int} (h : AGR t t' 0 4) (x : T7n t) : T7n t' := by
  unfold T7n; rw [h 0 (by omega) (by omega), h 1 (by omega) (by omega), h 2 (by omega) (by omega), h 3 (by omega) (by omega)]; exact x
theorem T7l_c {t t' : Nat → Int} (h4 : t' 4 = t 4) (h : AGR t t' 6 13) (x : T7l t) : T7l t' := by
  unfold T7l; rw [h4, h 6 (by omega) (by omega), h 7 (by omega) (by omega), h 8 (by omega) (by omega), h 9 (by omega) (by omega), h 10 (by omega) (by omega), h 11 (by omega) (by omega), h 12 (by omega) (by omega)]; exact x
theorem T7p_c {t t' : Nat → Int} (h0 : t' 0 = t 0) (h : AGR t t' 16 256) (n : t 0 ≤ 30) (x : T7p t) : T7p t' := by
  intro p a b
  rw [h0] at b
  obtain ⟨x0, x1, x2, x3⟩ := x p a b
  refine ⟨?_, ?_, ?_, fun f y z => ?_⟩
  · rw [pt_c h (by omega)]; exact x0
  · rw [pt_c h (by omega)]; exact x1
  · rw [pt_c h (by omega)]; exact x2
  · rw [pt_c h (by omega)]; exact x3 f y z
theorem T7o_c {t t' : Nat → Int} (h0 : t' 0 = t 0) (h2 : t' 2 = t 2) (h : AGR t t' 256 336) (n : t 2 ≤ 40) (x : T7o t) : T7o t' := by
  intro k a b
  rw [h2] at b
  rw [oU_c h (by omega), oL_c h (by omega), h0]
  exact x k a b
theorem SK7_c {t t' : Nat → Int} {s : Int} (h0 : t 0 ≤ t' 0) (h : ∀ w, 0 ≤ w → w < 17 → sk t' s w = sk t s w) (x : SK7 t s) : SK7 t' s := by
  obtain ⟨x0, x1, x2, x3, x4, x5⟩ := x
  unfold SK7
  rw [h 0 (by omega) (by omega), h 1 (by omega) (by omega), h 2 (by omega) (by omega), h 3 (by omega) (by omega), h 4 (by omega) (by omega)]
  refine ⟨x0, x1, fun y => by have := x2 y; omega, x3, x4, fun l a b w c e => ?_⟩
  rw [h _ (by omega) (by omega)]
  exact x5 l a b w c e
theorem T7s_c {t t' : Nat → Int} (h0 : t 0 ≤ t' 0) (h1 : t' 1 = t 1) (n : t 1 ≤ 30) (h : AGR t t' 336 846) (x : T7s t) : T7s t' := fun s a b => by
  rw [h1] at b
  exact SK7_c h0 (fun w y z => sk_c h (by omega)) (x s a b)
theorem T7h_c {t t' : Nat → Int} (h3 : t' 3 = t 3) (n : t 3 ≤ 40) (h : AGR t t' 846 1086) (x : T7h t) : T7h t' := fun s a b => by
  rw [h3] at b
  obtain ⟨x0, x1⟩ := x s a b
  exact ⟨by rw [hd_c h (by omega)]; exact x0, fun f y z => by rw [hd_c h (by omega)]; exact x1 f y z⟩
theorem T7y_c {t t' : Nat → Int} (h5 : t' 5 = t 5) (h : AGR t t' 1086 1134) (x : T7y t) : T7y t' := by
  refine ⟨by rw [h5]; exact x.1, fun k a b => ?_⟩
  rw [h5] at b
  have n := x.1
  rw [st_c h (by omega), st_c h (by omega), st_c h (by omega), st_c h (by omega)]
  exact x.2 k a b
theorem T7w_c {t t' : Nat → Int} (h : AGR t t' 1134 1144) (x : T7w t) : T7w t' := fun i a b => by
  rw [h _ (by omega) (by omega)]; exact x i a b
theorem rp_c {t t' : Nat → Int} (h : AGR t t' 1144 1604) (x : T7r t) : ∀ r : Nat, (r : Int) ≤ t 1144 → rp t' r = rp t r
  | 0, _ => rfl
  | r + 1, hr => by
    have ih := rp_c h x r (by omega)
    obtain ⟨a1, a2, a3, a4, a5⟩ := x.2 r (by omega)
    have e4 : rp t (r + 1) = rp t r + 2 + t (rp t r + 1).toNat := rfl
    simp only [rp]
    rw [ih, h _ (by omega) (by omega)]
theorem hg_c {sg sg' : Int → Int} : ∀ (n : Nat), (∀ i : Int, 0 ≤ i → i < n → sg' i = sg i) → hg sg' n = hg sg n
  | 0, _ => rfl
  | n + 1, h => by
    simp only [hg]
    rw [h n (by omega) (by omega), hg_c n (fun i a b => h i a (by omega))]
theorem PG7_c {sg sg' : Int → Int} {n : Int} (h : ∀ i : Int, 0 ≤ i → i < n → sg' i = sg i) (x : PG7 sg n) : PG7 sg' n := by
  refine ⟨fun i a b => ?_, fun hn => ?_⟩
  · rw [h i a b, hg_c i.toNat (fun j c e => h j c (by omega))]; exact x.1 i a b
  · rw [hg_c n.toNat (fun j c e => h j c (by omega))]; exact x.2 hn
theorem T7r_c {t t' : Nat → Int} (h : AGR t t' 1144 1604) (x : T7r t) : T7r t' := by
  have h44 := h 1144 (by omega) (by omega)
  refine ⟨by rw [h44]; exact x.1, fun r hr => ?_⟩
  rw [h44] at hr
  obtain ⟨a1, a2, a3, a4, a5⟩ := x.2 r hr
  have e4 : rp t (r + 1) = rp t r + 2 + t (rp t r + 1).toNat := rfl
  have eN : t' (rp t r + 1).toNat = t (rp t r + 1).toNat := h _ (by omega) (by omega)
  rw [rp_c h x r (by omega), rp_c h x (r + 1) (by omega), eN, h _ (by omega) (by omega)]
  exact ⟨a1, a2, a3, a4, PG7_c (fun i a b => h _ (by omega) (by omega)) a5⟩
theorem R7l_t {c : D9} {t t' : Nat → Int} (h4 : t' 4 = t 4) (h : AGR t t' 6 13) (x : R7l c t) : R7l c t' := by
  unfold R7l; rw [h4, h 6 (by omega) (by omega), h 7 (by omega) (by omega), h 8 (by omega) (by omega), h 9 (by omega) (by omega), h 10 (by omega) (by omega), h 11 (by omega) (by omega), h 12 (by omega) (by omega)]; exact x
theorem R7p_t {c : D9} {t t' : Nat → Int} (h0 : t' 0 = t 0) (h2 : t' 2 = t 2) (n : t 0 ≤ 30) (h : AGR t t' 16 256) (x : R7p c t) : R7p c t' := by
  obtain ⟨x0, x2, xp, xz⟩ := x
  refine ⟨x0.trans h0.symm, x2.trans h2.symm, fun p a b => ?_, fun p a b => ?_⟩
  · rw [h0] at b
    obtain ⟨y0, y1, y2, y3⟩ := xp p a b
    refine ⟨?_, ?_, ?_, fun f u v => ?_⟩
    · rw [pt_c h (by omega)]; exact y0
    · rw [pt_c h (by omega)]; exact y1
    · rw [pt_c h (by omega)]; exact y2
    · rw [pt_c h (by omega)]; exact y3 f u v
  · rw [h0] at a; exact xz p a b
theorem ord_c {t t' : Nat → Int} (h2 : t' 2 = t 2) (n : t 2 ≤ 40) (h : AGR t t' 256 336) (u l : Int) : ord t' u l = ord t u l := by
  unfold ord
  rw [h2]
  exact ex_congr (fun k a b => by rw [oU_c h (by omega), oL_c h (by omega)])
theorem cto_c {t t' : Nat → Int} (h2 : t' 2 = t 2) (n : t 2 ≤ 40) (h : AGR t t' 256 336) (p : Int) : cto t' p = cto t p := by
  unfold cto
  rw [h2]
  exact fo_congr' _ _ _ (fun k v a b => by rw [oL_c h (by omega)])
theorem R7o_t {c : D9} {t t' : Nat → Int} (h2 : t' 2 = t 2) (n : t 2 ≤ 40) (h : AGR t t' 256 336) (x : R7o c t) : R7o c t' :=
  ⟨x.1, fun u l a b e f => by rw [ord_c h2 n h]; exact x.2.1 u l a b e f, fun p a b => by rw [cto_c h2 n h]; exact x.2.2 p a b⟩
theorem R7h_t {c : D9} {t t' : Nat → Int} (h3 : t' 3 = t 3) (n : t 3 ≤ 40) (h : AGR t t' 846 1086) (x : R7h c t) : R7h c t' := by
  refine ⟨x.1.trans h3.symm, fun s a b => ?_⟩
  rw [h3] at b
  obtain ⟨y0, y1⟩ := x.2 s a b
  exact ⟨by rw [hd_c h (by omega)]; exact y0, fun f u v => by rw [hd_c h (by omega)]; exact y1 f u v⟩
theorem R7y_t {c : D9} {t t' : Nat → Int} (h5 : t' 5 = t 5) (n : t 5 ≤ 12) (h : AGR t t' 1086 1134) (x : R7y c t) : R7y c t' := by
  refine ⟨x.1.trans h5.symm, fun k a b => ?_⟩
  rw [h5] at b
  rw [st_c h (by omega), st_c h (by omega), st_c h (by omega), st_c h (by omega)]
  exact x.2 k a b
theorem R7w_t {c : D9} {t t' : Nat → Int} (h : AGR t t' 1134 1144) (x : R7w c t) : R7w c t' := fun i a b => by
  rw [h _ (by omega) (by omega), h _ (by omega) (by omega)]; exact x i a b
theorem R7r_t {c : D9} {t t' : Nat → Int} (h : AGR t t' 1144 1604) (y : T7r t) (x : R7r c t) : R7r c t' := by
  have h44 := h 1144 (by omega) (by omega)
  refine ⟨x.1.trans h44.symm, fun r hr => ?_⟩
  rw [h44] at hr
  obtain ⟨a1, a2, a3, a4, a5⟩ := y.2 r hr
  have e4 : rp t (r + 1) = rp t r + 2 + t (rp t r + 1).toNat := rfl
  have eN : t' (rp t r + 1).toNat = t (rp t r + 1).toNat := h _ (by omega) (by omega)
  rw [rp_c h y r (by omega), eN, h (rp t r).toNat (by omega) (by omega)]
  obtain ⟨b0, b1, b2, b3, b4⟩ := x.2 r hr
  exact ⟨b0, b1, b2, b3, fun i u v => by rw [h (rp t r + 2 + i).toNat (by omega) (by omega)]; exact b4 i u v⟩
/-! a skin's answers depend on its own places and on the clock's law -/
def SKE (t t' : Nat → Int) (s : Int) : Prop := (t' 6 = t 6 ∧ t' 7 = t 7 ∧ t' 8 = t 8 ∧ t' 9 = t 9 ∧ t' 10 = t 10) ∧ ∀ w, 0 ≤ w → w < 17 → sk t' s w = sk t s w
theorem tha_c {t t' : Nat → Int} {s l : Int} (h : SKE t t' s) (hl : 0 ≤ l ∧ l < 4) : tha t' s l = tha t s l := by
  unfold tha thn; rw [h.1.2.2.2.1, h.2 _ (by omega) (by omega)]
theorem spa_c {t t' : Nat → Int} {s l : Int} {m : Bool} (h : SKE t t' s) (hl : 0 ≤ l ∧ l < 4) : spa t' s l m = spa t s l m := by
  unfold spa spn goal; rw [h.1.1, h.1.2.1, h.1.2.2.1, h.1.2.2.2.2, h.2 _ (by omega) (by omega), h.2 _ (by omega) (by omega), h.2 _ (by omega) (by omega)]
theorem lst_c {t t' : Nat → Int} {s l : Int} {m : Bool} (h : SKE t t' s) (hl : 0 ≤ l ∧ l < 4) : lst t' s l m = lst t s l m := by
  unfold lst; rw [tha_c h hl, spa_c h hl]
theorem srt_c {t t' : Nat → Int} {s : Int} (h : SKE t t' s) (h4 : 0 ≤ sk t s 4 ∧ sk t s 4 ≤ 4) : srt t' s = srt t s := by
  have e4 := h.2 4 (by omega) (by omega)
  have e1 := h.2 1 (by omega) (by omega)
  have et : thk t' s = thk t s := by
    unfold thk; rw [e4]
    exact fo_congr' _ _ _ (fun j v a b => by rw [tha_c h (by omega)])
  have er : trn t' s = trn t s := by
    unfold trn; rw [e4]
    refine ex_congr (fun i a b => ex_congr (fun j c e => ?_))
    rw [tha_c h (by omega), tha_c h (by omega), spa_c h (by omega), spa_c h (by omega)]
  unfold srt; rw [e4, e1, et, er]
theorem sya_c {t t' : Nat → Int} {s : Int} (h : SKE t t' s) (h4 : 0 ≤ sk t s 4 ∧ sk t s 4 ≤ 4) : sya t' s = sya t s := by
  have e4 := h.2 4 (by omega) (by omega)
  have eI : lsI t' s = lsI t s := by
    unfold lsI; rw [e4]
    exact fd_congr (fun j a b => by rw [tha_c h (by omega), spa_c h (by omega)])
  have eO : lsO t' s = lsO t s := by
    unfold lsO; rw [e4]
    exact fd_congr (fun j a b => by rw [tha_c h (by omega), spa_c h (by omega)])
  unfold sya; rw [srt_c h h4, eI, eO]
theorem RA7_t {c : D9} {t t' : Nat → Int} {s : Int} (h : ∀ w, 0 ≤ w → w < 17 → sk t' s w = sk t s w) (h4 : 0 ≤ sk t s 4 ∧ sk t s 4 ≤ 4) (x : RA7 c t s) : RA7 c t' s := by
  obtain ⟨x0, x1, x2, x3, x4, x5⟩ := x
  unfold RA7
  rw [h 0 (by omega) (by omega), h 1 (by omega) (by omega), h 2 (by omega) (by omega), h 3 (by omega) (by omega), h 4 (by omega) (by omega)]
  refine ⟨x0, x1, x2, x3, x4, fun l a b => ?_⟩
  obtain ⟨y0, y1, y2⟩ := x5 l a b
  unfold RB7
  rw [h _ (by omega) (by omega), h _ (by omega) (by omega), h _ (by omega) (by omega)]
  exact ⟨y0, y1, y2⟩
theorem RS_t {c : D9} {t t' : Nat → Int} {s : Int} (h : SKE t t' s) (h4 : 0 ≤ sk t s 4 ∧ sk t s 4 ≤ 4) (x : RA7 c t s ∧ RC7 c t s ∧ RJ7 c t s) : RA7 c t' s ∧ RC7 c t' s ∧ RJ7 c t' s := by
  refine ⟨RA7_t h.2 h4 x.1, fun l a b => ?_, ?_⟩
  · rw [h.2 4 (by omega) (by omega)] at b
    unfold RE7
    rw [lst_c h (by omega), lst_c h (by omega)]
    exact x.2.1 l a b
  · unfold RJ7
    rw [srt_c h h4, sya_c h h4]
    exact x.2.2
theorem R7s_t {c : D9} {t t' : Nat → Int} (h1 : t' 1 = t 1) (n : t 1 ≤ 30) (hl : AGR t t' 6 13) (h : AGR t t' 336 846) (y : T7s t) (x : R7s c t) : R7s c t' := by
  refine ⟨x.1.trans h1.symm, fun s a b => ?_⟩
  rw [h1] at b
  exact RS_t ⟨⟨hl 6 (by omega) (by omega), hl 7 (by omega) (by omega), hl 8 (by omega) (by omega), hl 9 (by omega) (by omega), hl 10 (by omega) (by omega)⟩, fun w u v => sk_c h (by omega)⟩ (y s a b).2.2.2.2.1 (x.2 s a b)

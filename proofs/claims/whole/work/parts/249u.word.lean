/-! words -/
def sub9 (T : Nat → Int) : Nat → Int → List Int
  | 0, _ => []
  | m + 1, i => T i.toNat :: sub9 T m (i + 1)
theorem sub9_s (T : Nat → Int) (m : Nat) (i : Int) : sub9 T (m + 1) i = T i.toNat :: sub9 T m (i + 1) := rfl
def wn (T : Nat → Int) (s b n : Int) : List Int → Int → Int → Int
  | [], _, _ => -1
  | c :: cs, w, l => if c = 32 then (if l = b then w else wn T s b n cs (w + 1) s) else wn T s b n cs w (if l < b ∧ T l.toNat = c then l + 1 else n + 1)
theorem wn_c (T : Nat → Int) (s b n c : Int) (cs : List Int) (w l : Int) : wn T s b n (c :: cs) w l = if c = 32 then (if l = b then w else wn T s b n cs (w + 1) s) else wn T s b n cs w (if l < b ∧ T l.toNat = c then l + 1 else n + 1) := rfl
def mt (T : Nat → Int) (b n : Int) : List Int → Int → Int
  | [], l => l
  | c :: cs, l => mt T b n cs (if l < b ∧ T l.toNat = c then l + 1 else n + 1)
theorem mt_c (T : Nat → Int) (b n c : Int) (cs : List Int) (l : Int) : mt T b n (c :: cs) l = mt T b n cs (if l < b ∧ T l.toNat = c then l + 1 else n + 1) := rfl
def fl : List (List Int) → List Int
  | [] => []
  | c :: cs => c ++ 32 :: fl cs
def wix : List (List Int) → Int → List Int → Int
  | [], _, _ => -1
  | c :: cs, w, x => if x = c then w else wix cs (w + 1) x
def WT : List Int := (st9 6).map Int32.toInt
def WL : List (List Int) := [[114, 97, 116, 101], [100, 105, 114, 116], [116, 104, 105, 110], [111, 102, 102], [108, 101, 97, 107], [110, 101, 97, 114], [116, 111], [105, 110], [115, 99, 114, 97, 112, 101], [105, 102], [98, 101, 115, 105, 100, 101], [111, 118, 101, 114], [117, 110, 100, 101, 114], [111, 114], [97, 110, 100], [110, 111, 116], [99, 104, 101, 97, 112], [99, 97, 118, 101], [104, 97, 110, 100], [100, 105, 115, 99], [115, 105, 103, 110], [98, 97, 114, 101], [111, 112, 101, 110], [98, 101, 97, 115, 116], [112, 101, 111, 112, 108, 101]]
theorem WT_fl : WT = fl WL := by decide +kernel
theorem WT_len : WT.length = 123 := by decide +kernel
theorem WT_rng : ∀ c ∈ WT, 0 ≤ c ∧ c ≤ 255 := by decide +kernel
theorem WL_32 : ∀ c ∈ WL, (32 : Int) ∉ c := by decide +kernel
theorem WL_nd : WL.Nodup := by decide +kernel
theorem mt_far (T : Nat → Int) {b n : Int} (h : b ≤ n) : ∀ cs : List Int, mt T b n cs (n + 1) = n + 1
  | [] => rfl
  | c :: cs => by
    unfold mt
    rw [if_neg (by omega)]
    exact mt_far T h cs
theorem mt_iff {T : Nat → Int} {b n : Int} (h : b ≤ n) : ∀ (cs : List Int) (l : Int), l ≤ b → (mt T b n cs l = b ↔ sub9 T (b - l).toNat l = cs)
  | [], l, hl => by
    unfold mt
    constructor
    · intro e; rw [e, show (b - b).toNat = 0 by omega]; rfl
    · intro e
      by_cases c : l = b
      · exact c
      · rw [show (b - l).toNat = (b - l - 1).toNat + 1 by omega] at e
        cases e
  | c :: cs, l, hl => by
    unfold mt
    by_cases a : l < b
    · rw [show (b - l).toNat = (b - (l + 1)).toNat + 1 by omega]
      rw [sub9_s]
      by_cases e : T l.toNat = c
      · rw [if_pos ⟨a, e⟩, mt_iff h cs (l + 1) (by omega), e]
        constructor
        · intro g; rw [g]
        · intro g; exact (List.cons.inj g).2
      · rw [if_neg (fun g => e g.2), mt_far T h]
        constructor
        · intro g; omega
        · intro g; exact absurd (List.cons.inj g).1 e
    · rw [if_neg (fun g => a g.1), mt_far T h, show (b - l).toNat = 0 by omega]
      constructor
      · intro g; omega
      · intro g; cases g
theorem wn_word (T : Nat → Int) (s b n : Int) (rest : List Int) (w : Int) : ∀ (cs : List Int) (l : Int), (32 : Int) ∉ cs → wn T s b n (cs ++ 32 :: rest) w l = if mt T b n cs l = b then w else wn T s b n rest (w + 1) s
  | [], l, _ => by
    show wn T s b n (32 :: rest) w l = _
    rw [wn_c, if_pos rfl]
    rfl
  | c :: cs, l, h => by
    show wn T s b n (c :: (cs ++ 32 :: rest)) w l = _
    rw [wn_c, mt_c, if_neg (fun e => h (by rw [e]; exact List.mem_cons_self)), wn_word T s b n rest w cs _ (fun e => h (List.mem_cons_of_mem _ e))]
theorem wn_fl {T : Nat → Int} {s b n : Int} (hs : s ≤ b) (hb : b ≤ n) : ∀ (L : List (List Int)) (w : Int), (∀ c ∈ L, (32 : Int) ∉ c) → wn T s b n (fl L) w s = wix L w (sub9 T (b - s).toNat s)
  | [], w, _ => rfl
  | c :: cs, w, h => by
    unfold fl wix
    rw [wn_word T s b n (fl cs) w c s (h c List.mem_cons_self), wn_fl hs hb cs (w + 1) (fun x hx => h x (List.mem_cons_of_mem _ hx))]
    by_cases e : sub9 T (b - s).toNat s = c
    · rw [if_pos ((mt_iff hb c s hs).mpr e), if_pos e]
    · rw [if_neg (fun g => e ((mt_iff hb c s hs).mp g)), if_neg e]
theorem wix_rng : ∀ (L : List (List Int)) (w : Int) (x : List Int), wix L w x = -1 ∨ (w ≤ wix L w x ∧ wix L w x < w + L.length)
  | [], w, x => Or.inl rfl
  | c :: cs, w, x => by
    unfold wix
    have hl : (c :: cs).length = cs.length + 1 := rfl
    by_cases e : x = c
    · rw [if_pos e]; right; omega
    · rw [if_neg e]
      rcases wix_rng cs (w + 1) x with g | g
      · exact Or.inl g
      · right; omega
theorem wix_get : ∀ (L : List (List Int)) (w : Int) (x : List Int) (i : Nat), 0 ≤ w → L.Nodup → (wix L w x = w + i ↔ L[i]? = some x)
  | [], w, x, i, hw, _ => by
    simp only [wix, List.getElem?_nil]
    constructor
    · intro g; omega
    · intro g; cases g
  | c :: cs, w, x, i, hw, nd => by
    have nd' := List.nodup_cons.mp nd
    unfold wix
    by_cases e : x = c
    · rw [if_pos e]
      cases i with
      | zero => simp [e]
      | succ i =>
        rw [List.getElem?_cons_succ]
        constructor
        · intro g; omega
        · intro g; exact absurd (List.mem_of_getElem? (e ▸ g)) nd'.1
    · rw [if_neg e]
      cases i with
      | zero =>
        rw [List.getElem?_cons_zero]
        constructor
        · intro g
          rcases wix_rng cs (w + 1) x with q | q <;> omega
        · intro g; exact absurd (Option.some.inj g).symm e
      | succ i =>
        rw [List.getElem?_cons_succ, ← wix_get cs (w + 1) x i (by omega) nd'.2]
        constructor <;> intro g <;> omega
def wxn (x : List Int) : Int := wix WL 0 x
theorem wxn_rng (x : List Int) : -1 ≤ wxn x ∧ wxn x ≤ 24 := by
  have h := wix_rng WL 0 x
  have hl : WL.length = 25 := rfl
  unfold wxn
  rcases h with h | h <;> omega
theorem wxn_at (x : List Int) (i : Nat) (y : List Int) (h : WL[i]? = some y) : (wxn x = i) ↔ x = y := by
  have := wix_get WL 0 x i (by omega) WL_nd
  rw [h] at this
  unfold wxn
  constructor
  · intro g; exact (Option.some.inj (this.mp (by omega))).symm
  · intro g
    have := this.mpr (by rw [g])
    omega
theorem WT_at {i : Nat} {c : Int} {cs : List Int} (h : WT.drop i = c :: cs) : sb9 6 i = c ∧ (0 ≤ c ∧ c ≤ 255) ∧ WT.drop (i + 1) = cs := by
  have h1 : WT[i]? = some c := by
    have := List.getElem?_drop (xs := WT) (i := i) (j := 0)
    rw [h] at this
    exact this.symm
  refine ⟨?_, WT_rng c (List.mem_of_getElem? h1), by rw [← List.tail_drop, h]; rfl⟩
  unfold WT at h1
  rw [List.getElem?_map] at h1
  unfold sb9
  rw [List.getD_eq_getElem?_getD]
  cases hx : (st9 6)[i]? with
  | none => rw [hx] at h1; cases h1
  | some y => rw [hx] at h1; exact Option.some.inj h1
theorem sl6 : sl9 6 = 123 := by decide +kernel
theorem q_wn {d : D9} {T : Nat → Int} {s b n : Int} (hT : TPE d 52 T) (e4 : d 51 4 = n) (e5 : d 51 5 = b) (e6 : d 51 6 = s) (hs : 0 ≤ s ∧ s ≤ b ∧ b ≤ n ∧ n ≤ 400) : ∀ (cs : List Int) (i f : Nat) (w l : Int), WT.drop i = cs → i + cs.length = 123 → cs.length < f → (0 ≤ l ∧ l ≤ n + 1) → fix9 (fun _ _ _ _ => none) (fun k => b_X8_wordNumber_51_c9 k) f w l i d = rt (wn T s b n cs w l) d
  | [], i, f + 1, w, l, _, hi, _, _ => by
    have : i = 123 := by simpa using hi
    subst this
    rw [fx3, b_X8_wordNumber_51_c9, if_pos (by decide)]
    rfl
  | c :: cs, i, f + 1, w, l, h, hi, hf, hl => by
    obtain ⟨h1, h2, h3⟩ := WT_at h
    have hi' : i + cs.length + 1 = 123 := by simpa [Nat.add_assoc] using hi
    have hf' : cs.length < f := by simpa using hf
    have ih := fun w l hl => q_wn hT e4 e5 e6 hs cs (i + 1) f w l h3 (by omega) hf' hl
    rw [fx3, b_X8_wordNumber_51_c9, wi (x := 123) (by omega), wi (x := (i : Int)) (by omega), if_neg (by omega), sch, wi (x := (i : Int)) (by omega), sl6, if_pos (by omega), Int.toNat_natCast, h1, wi (x := c) (by omega), wi (x := 32) (by omega), e4, e5, e6, wi (x := b) (by omega), wi (x := l) (by omega)]
    rw [show (i : Int) + 1 = ((i + 1 : Nat) : Int) by omega]
    unfold wn
    by_cases a : c = 32
    · rw [if_neg (fun g => g a), if_pos a]
      by_cases g : l = b
      · rw [if_neg (fun q => q g), if_pos g]
      · rw [if_pos g, if_neg g, lt_v]
        exact ih (w + 1) s (by omega)
    · rw [if_pos a, if_neg a]
      by_cases g : l < b
      · have t := hT l.toNat (by omega)
        rw [if_neg (by omega), ld_in (by omega), t.1, wi (x := T l.toNat) (by omega)]
        by_cases q : T l.toNat = c
        · rw [if_neg (fun r => r q), if_pos ⟨g, q⟩, lt_v]
          exact ih w (l + 1) (by omega)
        · rw [if_pos q, if_neg (fun r => q r.2), lt_v]
          exact ih w (n + 1) (by omega)
      · rw [if_pos (by omega), if_neg (fun r => g r.1), lt_v]
        exact ih w (n + 1) (by omega)
  | _, _, 0, _, _, _, _, hf, _ => absurd hf (Nat.not_lt_zero _)
theorem q_wordNumber {d : D9} {T : Nat → Int} {s b n : Int} (hT : TPE d 52 T) (e4 : d 51 4 = n) (e5 : d 51 5 = b) (e6 : d 51 6 = s) (hs : 0 ≤ s ∧ s ≤ b ∧ b ≤ n ∧ n ≤ 400) : m_X8_wordNumber_51 d = rt (wxn (sub9 T (b - s).toNat s)) d := by
  unfold m_X8_wordNumber_51 m_X8_wordNumber_51_c9 wxn
  rw [lt_v, e6, ← wn_fl (n := n) hs.2.1 hs.2.2.1 WL 0 WL_32, ← WT_fl]
  exact q_wn hT e4 e5 e6 hs WT 0 FU 0 s rfl (by rw [WT_len]) (by rw [WT_len]; decide) (by omega)
/-! the model's words -/
def bW (x : Nat) (L : Int) (k : Int → Int → D9 → Option R9) (v2 v3 : Int) (d : D9) : Option R9 := if w32 v2 = 0 then rt (v2 % 2) d else if w32 L ≤ w32 v3 then rt (v2 % 2) d else ld d 178 400 ((d 174 10) + v3) (fun t1 => sch x v3 (fun t2 => if w32 t1 ≠ w32 t2 then k 0 (v3 + 1) d else k 1 (v3 + 1) d))
def sI (x : Nat) : List Int := (st9 x).map Int32.toInt
theorem sI_at {x i : Nat} {c : Int} {cs : List Int} (h : (sI x).drop i = c :: cs) : sb9 x i = c ∧ (sI x).drop (i + 1) = cs := by
  have h1 : (sI x)[i]? = some c := by
    have := List.getElem?_drop (xs := sI x) (i := i) (j := 0)
    rw [h] at this
    exact this.symm
  refine ⟨?_, by rw [← List.tail_drop, h]; rfl⟩
  unfold sI at h1
  rw [List.getElem?_map] at h1
  unfold sb9
  rw [List.getD_eq_getElem?_getD]
  cases hx : (st9 x)[i]? with
  | none => rw [hx] at h1; cases h1
  | some y => rw [hx] at h1; exact Option.some.inj h1
theorem bW_0 (x : Nat) (L v3 : Int) (d : D9) (f : Nat) : fix9 (fun _ _ _ => none) (fun k => bW x L k) (f + 1) 0 v3 d = rt 0 d := by
  rw [fx2, bW, if_pos (show w32 0 = 0 from rfl)]; rfl
theorem bW_1 {x : Nat} {L : Nat} {d : D9} {T : Nat → Int} {s : Int} (hT : TPE d 178 T) (e : d 174 10 = s) (hL : sl9 x = L) (h1 : 0 ≤ s ∧ s + L ≤ 400) (hr : ∀ c ∈ sI x, 0 ≤ c ∧ c ≤ 255) : ∀ (cs : List Int) (i f : Nat), (sI x).drop i = cs → i + cs.length = L → cs.length + 1 < f → fix9 (fun _ _ _ => none) (fun k => bW x L k) f 1 i d = rt (bi (decide (sub9 T cs.length (s + i) = cs))) d
  | [], i, f + 1, _, hi, _ => by
    have : i = L := by simpa using hi
    subst this
    rw [fx2, bW, if_neg (by decide), if_pos (Int.le_refl _)]
    rfl
  | c :: cs, i, f + 1, h, hi, hf => by
    obtain ⟨h3, h4⟩ := sI_at h
    have hc : 0 ≤ c ∧ c ≤ 255 := hr c (List.mem_of_mem_drop (by rw [h]; exact List.mem_cons_self))
    have hi' : i + cs.length + 1 = L := by simpa [Nat.add_assoc] using hi
    have hf' : cs.length + 1 < f := by simpa using hf
    have t := hT (s + i).toNat (by omega)
    rw [fx2, bW, if_neg (by decide), wi (x := (L : Int)) (by omega), wi (x := (i : Int)) (by omega), if_neg (by omega), e, ld_in (by omega), t.1, sch, wi (x := (i : Int)) (by omega), hL, if_pos (by omega), Int.toNat_natCast, h3, wi (x := c) (by omega), wi (x := T (s + i).toNat) (by omega), show (i : Int) + 1 = ((i + 1 : Nat) : Int) by omega]
    show _ = rt (bi (decide (sub9 T (cs.length + 1) (s + i) = c :: cs))) d
    by_cases q : T (s + i).toNat = c
    · rw [if_neg (fun r => r q), bW_1 hT e hL h1 hr cs (i + 1) f h4 (by omega) hf']
      congr 2
      refine decide_eq_decide.mpr ?_
      rw [sub9_s, q, show s + ((i + 1 : Nat) : Int) = s + i + 1 by omega]
      constructor
      · intro g; rw [g]
      · intro g; exact (List.cons.inj g).2
    · obtain ⟨f', rfl⟩ : ∃ f', f = f' + 1 := ⟨f - 1, by omega⟩
      rw [if_pos q, bW_0, sub9_s, dec_f (fun g => q (List.cons.inj g).1)]
      rfl
  | _, _, 0, _, _, hf => absurd hf (Nat.not_lt_zero _)

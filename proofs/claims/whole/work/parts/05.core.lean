abbrev D9 : Type := Nat → Nat → Int
abbrev R9 : Type := (Int ⊕ Nat) × D9
def w32 (a : Int) : Int := a.bmod 4294967296
def w64 (a : Int) : Int := a.bmod 18446744073709551616
def i9 (a : Int) : Value := .int (Int32.ofInt a)
def l9 (a : Int) : Value := .long (Int64.ofInt a)
def up (d : D9) (k j : Nat) (v : Int) : D9 := fun k' j' => if k' = k ∧ j' = j then v else d k' j'
def ld (d : D9) (k n : Nat) (j : Int) (K : Int → Option R9) : Option R9 := if 0 ≤ w32 j ∧ w32 j < n then K (d k (w32 j).toNat) else none
def sd (d : D9) (k n : Nat) (j v : Int) (K : D9 → Option R9) : Option R9 := if 0 ≤ w32 j ∧ w32 j < n then K (up d k (w32 j).toNat v) else none
def cl (f : Option R9) (K : Int → D9 → Option R9) : Option R9 := match f with
  | some (.inl v, d) => K v d
  | some (.inr e, d) => some (.inr e, d)
  | none => none
def rt (v : Int) (d : D9) : Option R9 := some (.inl v, d)
def th (e : Nat) (d : D9) : Option R9 := some (.inr e, d)
/-! the world -/
abbrev G9 : Type := (Nat → Nat) × (Nat → ClassId) × (Nat → Nat → Nat) × (Nat → ClassId) × (Nat → Nat) × (Nat → Nat)
def rf (G : G9) (k : Nat) : Value := .ref (G.1 k)
def A9 (G : G9) : Nat → Prop := fun q => ∃ k, k < NC ∧ q = G.1 k
def fv (G : G9) (d : D9) (k c j : Nat) : Value := if c = 0 then i9 (d k j) else if c = 1 then l9 (d k j) else rf G (lr k j)
def fvs (G : G9) (d : D9) (k : Nat) (cs : List Nat) : List Value := cs.zipIdx.map (fun q => fv G d k q.1 q.2)
def cA (G : G9) : Nat → ClassId := G.2.2.2.1
def ent (G : G9) (d : D9) (k : Nat) : va_E :=
  if (lay k).1 = 0 then .inr ((lay k).2, fvs G d k (ftab (lay k).2))
  else if (lay k).1 = 1 then .inl (cA G 0, (lay k).2, .inl (fun j => Int32.ofInt (d k j)))
  else if (lay k).1 = 2 then .inl (cA G 1, (lay k).2, .inr (.inl (fun j => Int64.ofInt (d k j))))
  else if (lay k).1 = 3 then .inl (cA G 2, (lay k).2, .inl (fun j => Int32.ofInt (d k j)))
  else if (lay k).1 = 4 then .inl (cA G 3, (lay k).2, .inl (fun j => Int32.ofInt (d k j)))
  else .inl (cA G 4, (lay k).2, .inr (.inr (.inr (.inr (fun j => some (G.1 (lr k j)))))))
def wl (G : G9) (d : D9) : va_W := (List.range NC).map (fun k => (G.1 k, ent G d k))
def D9c (G : G9) : va_G := (G.2.1, G.2.2.1)
def HO (G : G9) (d : D9) (H : Heap) : Prop := va_P (D9c G) vwCl (wl G d) H
def tys9 (G : G9) : List (ClassId × FieldType) := [(cA G 0, .int), (cA G 1, .long), (cA G 2, .char), (cA G 3, .boolean), (cA G 4, .object "RedHands$Wall")]
theorem wl_at {G : G9} {d : D9} {k : Nat} (h : k < NC) : (wl G d)[k]? = some (G.1 k, ent G d k) := by
  simp [wl, h]
theorem wl_len (G : G9) (d : D9) : (wl G d).length = NC := by simp [wl]
theorem ent_obj {G : G9} {d : D9} {k ci : Nat} (h : lay k = (0, ci)) : ent G d k = .inr (ci, fvs G d k (ftab ci)) := by simp [ent, h]
theorem ent_i {G : G9} {d : D9} {k n : Nat} (h : lay k = (1, n)) : ent G d k = .inl (cA G 0, n, .inl (fun j => Int32.ofInt (d k j))) := by simp [ent, h]
theorem ent_l {G : G9} {d : D9} {k n : Nat} (h : lay k = (2, n)) : ent G d k = .inl (cA G 1, n, .inr (.inl (fun j => Int64.ofInt (d k j)))) := by simp [ent, h]
theorem ent_c {G : G9} {d : D9} {k n : Nat} (h : lay k = (3, n)) : ent G d k = .inl (cA G 2, n, .inl (fun j => Int32.ofInt (d k j))) := by simp [ent, h]
theorem ent_z {G : G9} {d : D9} {k n : Nat} (h : lay k = (4, n)) : ent G d k = .inl (cA G 3, n, .inl (fun j => Int32.ofInt (d k j))) := by simp [ent, h]
theorem ent_r {G : G9} {d : D9} {k n : Nat} (h : lay k = (5, n)) : ent G d k = .inl (cA G 4, n, .inr (.inr (.inr (.inr (fun j => some (G.1 (lr k j))))))) := by simp [ent, h]
theorem fvs_get {G : G9} {d : D9} {k j c : Nat} {cs : List Nat} (h : cs[j]? = some c) : (fvs G d k cs)[j]? = some (fv G d k c j) := by
  simp [fvs, List.getElem?_map, List.getElem?_zipIdx, h]
theorem fvs_len {G : G9} {d : D9} {k : Nat} {cs : List Nat} : (fvs G d k cs).length = cs.length := by simp [fvs]
theorem up_same (d : D9) (k j : Nat) (v : Int) : up d k j v k j = v := by simp [up]
theorem up_k {d : D9} {k j k' : Nat} {v : Int} (h : k' ≠ k) : up d k j v k' = d k' := by funext j'; simp [up, h]
theorem up_j {d : D9} {k j j' : Nat} {v : Int} (h : j' ≠ j) : up d k j v k j' = d k j' := by simp [up, h]
theorem ent_up {G : G9} {d : D9} {k j k' : Nat} {v : Int} (h : k' ≠ k) : ent G (up d k j v) k' = ent G d k' := by
  have e : up d k j v k' = d k' := up_k h
  have e2 : ∀ c j', fv G (up d k j v) k' c j' = fv G d k' c j' := fun c j' => by simp [fv, e]
  simp [ent, e, fvs, e2]
theorem wl_set {G : G9} {d : D9} {k j : Nat} {v : Int} {q : va_E} (hq : ent G (up d k j v) k = q) : (wl G d).set k (G.1 k, q) = wl G (up d k j v) := by
  apply List.ext_getElem?
  intro i
  rw [List.getElem?_set]
  by_cases hi : k = i
  · subst hi
    rw [if_pos rfl, wl_len]
    by_cases hl : k < NC
    · rw [if_pos hl, wl_at hl, hq]
    · rw [if_neg hl]
      symm
      rw [List.getElem?_eq_none]
      rw [wl_len]; omega
  · rw [if_neg hi]
    by_cases hl : i < NC
    · rw [wl_at hl, wl_at hl, ent_up (fun e => hi e.symm)]
    · rw [List.getElem?_eq_none (by rw [wl_len]; omega), List.getElem?_eq_none (by rw [wl_len]; omega)]
theorem fvs_set {G : G9} {d : D9} {k j c : Nat} {v : Int} {cs : List Nat} (h : cs[j]? = some c) (hc : c = 0 ∨ c = 1) : fvs G (up d k j v) k cs = (fvs G d k cs).set j (if c = 0 then i9 v else l9 v) := by
  apply List.ext_getElem?
  intro i
  rw [List.getElem?_set]
  by_cases hi : j = i
  · subst hi
    have hlt : j < cs.length := (List.getElem?_eq_some_iff.mp h).1
    rw [if_pos rfl, fvs_len, if_pos hlt, fvs_get h]
    rcases hc with rfl | rfl <;> simp [fv, up_same]
  · rw [if_neg hi]
    cases hcs : cs[i]? with
    | none =>
      rw [List.getElem?_eq_none, List.getElem?_eq_none]
      · rw [fvs_len]; exact List.getElem?_eq_none_iff.mp hcs
      · rw [fvs_len]; exact List.getElem?_eq_none_iff.mp hcs
    | some c' =>
      rw [fvs_get hcs, fvs_get hcs]
      simp [fv, up_j (fun e => hi e.symm)]
theorem upd_of {f : Nat → Int32} {d : D9} {k i : Nat} {v : Int} (hf : f = fun j => Int32.ofInt (d k j)) : upd f i (Int32.ofInt v) = fun j => Int32.ofInt (up d k i v k j) := by
  subst hf; funext j
  by_cases h : j = i
  · subst h; simp [upd, up_same]
  · simp [upd, h, up_j h]

/-! the words, the context, the judgement -/
def WG : List Cond := lw_tbl.filter goodWord
theorem wg_in {w : Cond} (h : w ∈ lw_tbl) (g : goodWord w = true) : w ∈ WG := List.mem_filter.mpr ⟨h, g⟩
theorem wg_good {big : List Cond} (hb : ∀ w ∈ WG, w ∈ big) : GoodIn big WG := fun w hw => ⟨hb w hw, good_of_word (List.mem_filter.mp hw).2⟩
def nest9 : List (String × Nat × MethodName) := [(RX1, 28, yX11_copyRow), (RX3, 37, yX11_copyRow), (RX3, 41, yX11_isIn), (RX4, 31, yX11_copyRow), (RX5, 74, yX11_isIn), (RX6, 52, yX11_copyRow), (RX6, 93, yX11_isIn), (RX7, 28, yX11_copyRow), (RX10, 100, yX11_isIn)]
def strs9 : List (String × Nat × String × List Int32) := [
(RX11, 451, "a number is out of its bounds", [97, 32, 110, 117, 109, 98, 101, 114, 32, 105, 115, 32, 111, 117, 116, 32, 111, 102, 32, 105, 116, 115, 32, 98, 111, 117, 110, 100, 115]),
  (RX11, 453, "no such paint", [110, 111, 32, 115, 117, 99, 104, 32, 112, 97, 105, 110, 116]),
  (RX11, 455, "it is no hand", [105, 116, 32, 105, 115, 32, 110, 111, 32, 104, 97, 110, 100]),
  (RX11, 111, "not two paints of one cave", [110, 111, 116, 32, 116, 119, 111, 32, 112, 97, 105, 110, 116, 115, 32, 111, 102, 32, 111, 110, 101, 32, 99, 97, 118, 101]),
  (RX11, 120, "the paint is of another cave", [116, 104, 101, 32, 112, 97, 105, 110, 116, 32, 105, 115, 32, 111, 102, 32, 97, 110, 111, 116, 104, 101, 114, 32, 99, 97, 118, 101]),
  (RX11, 457, "no such skin", [110, 111, 32, 115, 117, 99, 104, 32, 115, 107, 105, 110]),
  (RX8, 63, "rate dirt thin off leak near to in scrape if beside over under or and not cheap cave hand disc sign bare open beast people ", [114, 97, 116, 101, 32, 100, 105, 114, 116, 32, 116, 104, 105, 110, 32, 111, 102, 102, 32, 108, 101, 97, 107, 32, 110, 101, 97, 114, 32, 116, 111, 32, 105, 110, 32, 115, 99, 114, 97, 112, 101, 32, 105, 102, 32, 98, 101, 115, 105, 100, 101, 32, 111, 118, 101, 114, 32, 117, 110, 100, 101, 114, 32, 111, 114, 32, 97, 110, 100, 32, 110, 111, 116, 32, 99, 104, 101, 97, 112, 32, 99, 97, 118, 101, 32, 104, 97, 110, 100, 32, 100, 105, 115, 99, 32, 115, 105, 103, 110, 32, 98, 97, 114, 101, 32, 111, 112, 101, 110, 32, 98, 101, 97, 115, 116, 32, 112, 101, 111, 112, 108, 101, 32]),
  (RX11, 220, "no such layer", [110, 111, 32, 115, 117, 99, 104, 32, 108, 97, 121, 101, 114]),
  (RX11, 459, "no such tray", [110, 111, 32, 115, 117, 99, 104, 32, 116, 114, 97, 121]),
  (RX11, 461, "the tray is missing", [116, 104, 101, 32, 116, 114, 97, 121, 32, 105, 115, 32, 109, 105, 115, 115, 105, 110, 103]),
  (RX11, 412, "no such place", [110, 111, 32, 115, 117, 99, 104, 32, 112, 108, 97, 99, 101]),
  (RX11, 418, "the tray ends within a layer", [116, 104, 101, 32, 116, 114, 97, 121, 32, 101, 110, 100, 115, 32, 119, 105, 116, 104, 105, 110, 32, 97, 32, 108, 97, 121, 101, 114]),
  (RX11, 422, "a count", [97, 32, 99, 111, 117, 110, 116]),
  (RX11, 463, "no such image", [110, 111, 32, 115, 117, 99, 104, 32, 105, 109, 97, 103, 101]),
  (RX11, 432, "no such image was made", [110, 111, 32, 115, 117, 99, 104, 32, 105, 109, 97, 103, 101, 32, 119, 97, 115, 32, 109, 97, 100, 101]),
  (RX12, 190, "rate", [114, 97, 116, 101]),
  (RX12, 192, "dirt", [100, 105, 114, 116]),
  (RX12, 194, "thin", [116, 104, 105, 110]),
  (RX12, 196, "off", [111, 102, 102]),
  (RX12, 198, "leak", [108, 101, 97, 107]),
  (RX12, 200, "near", [110, 101, 97, 114]),
  (RX12, 205, "to", [116, 111]),
  (RX12, 223, "beast", [98, 101, 97, 115, 116]),
  (RX12, 225, "people", [112, 101, 111, 112, 108, 101]),
  (RX12, 227, "in", [105, 110]),
  (RX12, 273, "scrape", [115, 99, 114, 97, 112, 101]),
  (RX12, 275, "beside", [98, 101, 115, 105, 100, 101]),
  (RX12, 277, "over", [111, 118, 101, 114]),
  (RX12, 279, "under", [117, 110, 100, 101, 114]),
  (RX12, 281, "if", [105, 102]),
  (RX12, 238, "not", [110, 111, 116]),
  (RX12, 252, "cheap", [99, 104, 101, 97, 112]),
  (RX12, 254, "cave", [99, 97, 118, 101]),
  (RX12, 256, "hand", [104, 97, 110, 100]),
  (RX12, 258, "disc", [100, 105, 115, 99]),
  (RX12, 260, "sign", [115, 105, 103, 110]),
  (RX12, 262, "bare", [98, 97, 114, 101]),
  (RX12, 264, "open", [111, 112, 101, 110]),
  (RX12, 266, "and", [97, 110, 100]),
  (RX12, 271, "or", [111, 114])]
def bw9 (w : Cond) : Bool := match w with
  | .castable _ _ => true
  | .declares _ => true
  | _ => false
def BW9 : List Cond := lw_tbl.filter bw9
theorem bw9_go {w : Cond} {s U : State} (hb : bw9 w = true) (hW : s.WarmedH U.vm) (h : va_Nw w s) : va_Nw w U := by
  cases w <;> first | exact va_Nw.warmC hW h | exact va_Nw.warmD hW h | cases hb
theorem bw9_same {w : Cond} {s U : State} (hb : bw9 w = true) (hW : s.vm = U.vm) (h : va_Nw w s) : va_Nw w U := by
  cases w <;> first | exact va_Nw.same rfl hW h | cases hb
def sK (G : G9) : Nat → Nat := G.2.2.2.2.1
def sV (G : G9) : Nat → Nat := G.2.2.2.2.2
/-- what stands of the start at every call: the classes, the throws' statics, the links among nest mates, the texts -/
def EV (G : G9) (U : State) (H : Heap) : Prop := va_K (D9c G) vwCl (tys9 G) U ∧ vx_Zq Bundle.tN "UNASSIGNED_STACK" Bundle.steD (A9 G) U H ∧ vx_Zq Bundle.tN "SUPPRESSED_SENTINEL" Bundle.listD (A9 G) U H ∧ (∀ q ∈ nest9, va_Nw (.methodLinkNest q.1 q.2.1 q.2.2 RX11) U) ∧ (∀ w ∈ BW9, va_Nw w U) ∧
  (∀ (i : Nat) (q : String × Nat × String × List Int32), strs9[i]? = some q → vk_R q.1 q.2.1 q.2.2.1 (sK G i) U ∧ vk_S 1 [q.2.2.2.length] [q.2.2.2] (fun _ => sK G i) (fun _ => sV G i) (A9 G) U H) ∧ va_Z "java/lang/String" "COMPACT_STRINGS" "Z" (.int 1) (A9 G) U H ∧ va_Zq "jdk/internal/util/Preconditions" "SIOOBE_FORMATTER" "Ljava/util/function/BiFunction;" (A9 G) U H
theorem EV.go {G : G9} {s U : State} {H0 H : Heap} {locs : List Loc} (h : EV G s H0) (hS : va_S (A9 G) H0 H locs) (hW : s.WarmedH U.vm) : EV G U H :=
  ⟨va_K.moved hW.alike h.1, vx_Zq.moved hW.alike (vx_Zq.kept h.2.1 hS.2.1), vx_Zq.moved hW.alike (vx_Zq.kept h.2.2.1 hS.2.1), fun q hq => va_Nw.warmM hW (h.2.2.2.1 q hq), fun w hw => bw9_go (List.mem_filter.mp hw).2 hW (h.2.2.2.2.1 w hw), fun i q hq => ⟨vk_R.warm hW (h.2.2.2.2.2.1 i q hq).1, vk_S.moved hW.alike (vk_S.kept (h.2.2.2.2.2.1 i q hq).2 hS.2.1)⟩, va_Z.moved hW.alike (va_Z.kept h.2.2.2.2.2.2.1 hS.2.1), va_Zq.moved hW.alike (va_Zq.kept h.2.2.2.2.2.2.2 hS.2.1)⟩
theorem EV.same {G : G9} {s U : State} {H : Heap} (h : EV G s H) (hv : s.vm = U.vm) : EV G U H :=
  have al : s.vm.Alike U.vm := hv ▸ Vm.Alike.refl s.vm
  ⟨va_K.moved al h.1, vx_Zq.moved al h.2.1, vx_Zq.moved al h.2.2.1, fun q hq => va_Nw.same rfl hv (h.2.2.2.1 q hq), fun w hw => bw9_same (List.mem_filter.mp hw).2 hv (h.2.2.2.2.1 w hw), fun i q hq => ⟨vk_R.same hv.symm (h.2.2.2.2.2.1 i q hq).1, vk_S.moved al (h.2.2.2.2.2.1 i q hq).2⟩, va_Z.moved al h.2.2.2.2.2.2.1, va_Zq.moved al h.2.2.2.2.2.2.2⟩
abbrev X9 : Type := Program × Launch × Env × Room × State × MethodId × Array Value × List Frame × Method × Code × Nat × Nat × Nat × (R9 → State → Prop)
abbrev xP (X : X9) : Program := X.1
abbrev xL (X : X9) : Launch := X.2.1
abbrev xE (X : X9) : Env := X.2.2.1
abbrev xR (X : X9) : Room := X.2.2.2.1
abbrev xS (X : X9) : State := X.2.2.2.2.1
abbrev xM (X : X9) : MethodId := X.2.2.2.2.2.1
abbrev xA (X : X9) : Array Value := X.2.2.2.2.2.2.1
abbrev xB (X : X9) : List Frame := X.2.2.2.2.2.2.2.1
abbrev xT (X : X9) : Method := X.2.2.2.2.2.2.2.2.1
abbrev xC (X : X9) : Code := X.2.2.2.2.2.2.2.2.2.1
abbrev xK (X : X9) : Nat := X.2.2.2.2.2.2.2.2.2.2.1
abbrev xN (X : X9) : Nat := X.2.2.2.2.2.2.2.2.2.2.2.1
abbrev xV (X : X9) : Nat := X.2.2.2.2.2.2.2.2.2.2.2.2.1
abbrev xQ (X : X9) : R9 → State → Prop := X.2.2.2.2.2.2.2.2.2.2.2.2.2
/-- the answer as a value: 0 none, 1 an int, 2 a long -/
def rv9 (v : Nat) (a : Int) : Option Value := if v = 0 then none else if v = 1 then some (i9 a) else some (l9 a)
def ex9 (e : Nat) : String := if e = 0 then "java/lang/IllegalArgumentException" else if e = 1 then "java/lang/IllegalStateException" else if e = 2 then "java/util/NoSuchElementException" else "java/lang/IndexOutOfBoundsException"
def Qc9 (G : G9) (v : Nat) (r : R9) : Array Value → State → Outcome → State → Prop := fun _ st o t => (∃ (a : Int) (d : D9), r = (.inl a, d) ∧ o = .returned (rv9 v a) ∧ HO G d t.heap) ∧ va_F (A9 G) st t
def Xc9 (G : G9) (r : R9) : String → State → State → Prop := fun E st t => (∃ (e : Nat) (d : D9), r = (.inr e, d) ∧ E = ex9 e ∧ HO G d t.heap) ∧ va_F (A9 G) st t
def W9 (X : X9) (Q : State → Prop) (H : Heap) (locs : List Loc) (k n : Nat) (g : JFrame) : Prop := W (xP X) (xL X) (xE X) (xR X) (xS X) (xM X) (xA X) (xB X) (xT X) (xC X) H locs k n Q g
def Q9 (_ : G9) (X : X9) (r : R9) : State → Prop := xQ X r
def SS (G : G9) (X : X9) (nL k n pc : Nat) (ls : List (Nat × Value)) (st : List Value) (d : D9) (x : Option R9) : Prop :=
  ∀ r, x = some r → ∀ (H : Heap) (locs : List Loc) (la : Array Slot), HO G d H → va_S (A9 G) (xS X).heap H locs → lv_has la nL ls → W (xP X) (xL X) (xE X) (xR X) (xS X) (xM X) (xA X) (xB X) (xT X) (xC X) H locs k n (Q9 G X r) (F0 (xM X) pc la st)
abbrev Z9 : Type := Option FieldType × Nat × Nat × Nat × Nat × Nat
/-- a method's frame: what it answers (type, kind), what it makes (cells, slots), its room (frames, words) -/
def CZ (G : G9) (X : X9) (z : Z9) : Prop := (xT X).sig.returnType = z.1 ∧ xV X = z.2.1 ∧ xK X = z.2.2.1 ∧ xN X = z.2.2.2.1 ∧ xR X = { frames := z.2.2.2.2.1, cells := z.2.2.1, slots := z.2.2.2.1, locals := z.2.2.2.2.2 } ∧ (z.2.1 < 7 → ∀ r, xQ X r = vx_MQ (xB X) (Qc9 G (xV X) r) (Xc9 G r) (xA X) (xS X) (xK X) (xN X) (A9 G))
def CX (G : G9) (X : X9) (cc : ByteArray) (nL : Nat) (own : String) (tb : List ExceptionTableEntry) (z : Z9) : Prop :=
  (xP X).tables.exec = Jvm.exec ∧ (xC X).code = cc ∧ (xC X).maxLocals = nL ∧ (xS X).vm.findClass own = some (xM X).cls ∧ (∀ w ∈ WG, w.before (xA X) (xS X) = true) ∧ (xT X).locks = false ∧ (xC X).exceptionTable.toList = tb ∧ EV G (xS X) (xS X).heap ∧ (xL X).stackTraces = false ∧ va_D (A9 G) (wl G (fun _ _ => 0)) ∧ CZ G X z
theorem wl_D {G : G9} {d d' : D9} (h : va_D (A9 G) (wl G d)) : va_D (A9 G) (wl G d') := by
  have key : ∀ (k : Nat) (q : Nat × va_E), (wl G d')[k]? = some q → ∃ q', (wl G d)[k]? = some q' ∧ q'.1 = q.1 := by
    intro k q hq
    have hk : k < NC := by rw [← wl_len G d']; exact (List.getElem?_eq_some_iff.mp hq).1
    rw [wl_at hk] at hq
    cases hq
    exact ⟨_, wl_at hk, rfl⟩
  refine ⟨fun i j p q hp hq e => ?_, fun k q hq => ?_⟩
  · obtain ⟨p', h1, h2⟩ := key i p hp
    obtain ⟨q', h3, h4⟩ := key j q hq
    exact h.1 i j p' q' h1 h3 (by rw [h2, h4, e])
  · obtain ⟨q', h1, h2⟩ := key k q hq
    rw [← h2]; exact h.2 k q' h1
theorem CX.ev {G : G9} {X : X9} {cc : ByteArray} {nL : Nat} {own : String} {tb : List ExceptionTableEntry} {z : Z9} (C : CX G X cc nL own tb z) : EV G (xS X) (xS X).heap := C.2.2.2.2.2.2.2.1
theorem CX.ws {G : G9} {X : X9} {cc : ByteArray} {nL : Nat} {own : String} {tb : List ExceptionTableEntry} {z : Z9} (C : CX G X cc nL own tb z) : ∀ w ∈ WG, w.before (xA X) (xS X) = true := C.2.2.2.2.1
theorem CX.dd {G : G9} {X : X9} {cc : ByteArray} {nL : Nat} {own : String} {tb : List ExceptionTableEntry} {z : Z9} (C : CX G X cc nL own tb z) (d : D9) : va_D (A9 G) (wl G d) := wl_D C.2.2.2.2.2.2.2.2.2.1
theorem CX.z {G : G9} {X : X9} {cc : ByteArray} {nL : Nat} {own : String} {tb : List ExceptionTableEntry} {z : Z9} (C : CX G X cc nL own tb z) : CZ G X z := C.2.2.2.2.2.2.2.2.2.2
/-- a method's contract -/
def MT (G : G9) (l : Launch) (y : MethodName) (bytes : ByteArray) (maxL : Nat) (z : Z9) (av : List Value) (d : D9) (x : Option R9) : Prop := ∀ r, x = some r →
  vx_Met l y (.code y bytes maxL z.1 :: WG) { frames := z.2.2.2.2.1, cells := z.2.2.1, slots := z.2.2.2.1, locals := z.2.2.2.2.2 } (va_Pc av (fun U => EV G U U.heap ∧ HO G d U.heap)) (Qc9 G z.2.1 r) (Xc9 G r) z.2.2.1 z.2.2.2.1 (A9 G)

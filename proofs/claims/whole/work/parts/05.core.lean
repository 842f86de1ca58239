abbrev D9 : Type := Nat → Nat → Int
abbrev R9 : Type := (Int ⊕ Nat) × D9
def w32 (a : Int) : Int := a.bmod 4294967296
def w64 (a : Int) : Int := a.bmod 18446744073709551616
def i9 (a : Int) : Value := .int (Int32.ofInt a)
def l9 (a : Int) : Value := .long (Int64.ofInt a)
def up (d : D9) (k j : Nat) (v : Int) : D9 := fun k' j' => if k' = k ∧ j' = j then v else d k' j'
def ld (d : D9) (k n : Nat) (j : Int) (K : Int → Option R9) : Option R9 := if 0 ≤ w32 j ∧ w32 j < n then K (d k (w32 j).toNat) else none
def sd (d : D9) (k n : Nat) (j v : Int) (K : D9 → Option R9) : Option R9 := if 0 ≤ w32 j ∧ w32 j < n then K (up d k (w32 j).toNat v) else none
def cl (f : Option R9) (K : Int → D9 → Option R9) : Option R9 := match f with
  | some (.inl v, d) => K v d
  | some (.inr e, d) => some (.inr e, d)
  | none => none
def rt (v : Int) (d : D9) : Option R9 := some (.inl v, d)
def th (e : Nat) (d : D9) : Option R9 := some (.inr e, d)
/-! the world -/
abbrev G9 : Type := (Nat → Nat) × (Nat → ClassId) × (Nat → Nat → Nat) × (Nat → ClassId) × (Nat → Nat)
def rf (G : G9) (k : Nat) : Value := .ref (G.1 k)
def A9 (G : G9) : Nat → Prop := fun q => ∃ k, k < NC ∧ q = G.1 k
def fv (G : G9) (d : D9) (k c j : Nat) : Value := if c = 0 then i9 (d k j) else if c = 1 then l9 (d k j) else rf G (lr k j)
def fvs (G : G9) (d : D9) (k : Nat) (cs : List Nat) : List Value := cs.zipIdx.map (fun q => fv G d k q.1 q.2)
def cA (G : G9) : Nat → ClassId := G.2.2.2.1
def ent (G : G9) (d : D9) (k : Nat) : va_E :=
  if (lay k).1 = 0 then .inr ((lay k).2, fvs G d k (ftab (lay k).2))
  else if (lay k).1 = 1 then .inl (cA G 0, (lay k).2, .inl (fun j => Int32.ofInt (d k j)))
  else if (lay k).1 = 2 then .inl (cA G 1, (lay k).2, .inr (.inl (fun j => Int64.ofInt (d k j))))
  else if (lay k).1 = 3 then .inl (cA G 2, (lay k).2, .inl (fun j => Int32.ofInt (d k j)))
  else if (lay k).1 = 4 then .inl (cA G 3, (lay k).2, .inl (fun j => Int32.ofInt (d k j)))
  else .inl (cA G 4, (lay k).2, .inr (.inr (.inr (.inr (fun j => some (G.1 (lr k j)))))))
def wl (G : G9) (d : D9) : va_W := (List.range NC).map (fun k => (G.1 k, ent G d k))
def D9c (G : G9) : va_G := (G.2.1, G.2.2.1)
def HO (G : G9) (d : D9) (H : Heap) : Prop := va_P (D9c G) vwCl (wl G d) H
def tys9 (G : G9) : List (ClassId × FieldType) := [(cA G 0, .int), (cA G 1, .long), (cA G 2, .char), (cA G 3, .boolean), (cA G 4, .object "RedHands$Wall")]
theorem wl_at {G : G9} {d : D9} {k : Nat} (h : k < NC) : (wl G d)[k]? = some (G.1 k, ent G d k) := by
  simp [wl, h]
theorem wl_len (G : G9) (d : D9) : (wl G d).length = NC := by simp [wl]
theorem ent_obj {G : G9} {d : D9} {k ci : Nat} (h : lay k = (0, ci)) : ent G d k = .inr (ci, fvs G d k (ftab ci)) := by simp [ent, h]
theorem ent_i {G : G9} {d : D9} {k n : Nat} (h : lay k = (1, n)) : ent G d k = .inl (cA G 0, n, .inl (fun j => Int32.ofInt (d k j))) := by simp [ent, h]
theorem ent_l {G : G9} {d : D9} {k n : Nat} (h : lay k = (2, n)) : ent G d k = .inl (cA G 1, n, .inr (.inl (fun j => Int64.ofInt (d k j)))) := by simp [ent, h]
theorem ent_c {G : G9} {d : D9} {k n : Nat} (h : lay k = (3, n)) : ent G d k = .inl (cA G 2, n, .inl (fun j => Int32.ofInt (d k j))) := by simp [ent, h]
theorem ent_z {G : G9} {d : D9} {k n : Nat} (h : lay k = (4, n)) : ent G d k = .inl (cA G 3, n, .inl (fun j => Int32.ofInt (d k j))) := by simp [ent, h]
theorem ent_r {G : G9} {d : D9} {k n : Nat} (h : lay k = (5, n)) : ent G d k = .inl (cA G 4, n, .inr (.inr (.inr (.inr (fun j => some (G.1 (lr k j))))))) := by simp [ent, h]
theorem fvs_get {G : G9} {d : D9} {k j c : Nat} {cs : List Nat} (h : cs[j]? = some c) : (fvs G d k cs)[j]? = some (fv G d k c j) := by
  simp [fvs, List.getElem?_map, List.getElem?_zipIdx, h]
theorem fvs_len {G : G9} {d : D9} {k : Nat} {cs : List Nat} : (fvs G d k cs).length = cs.length := by simp [fvs]
theorem up_same (d : D9) (k j : Nat) (v : Int) : up d k j v k j = v := by simp [up]
theorem up_k {d : D9} {k j k' : Nat} {v : Int} (h : k' ≠ k) : up d k j v k' = d k' := by funext j'; simp [up, h]
theorem up_j {d : D9} {k j j' : Nat} {v : Int} (h : j' ≠ j) : up d k j v k j' = d k j' := by simp [up, h]
theorem ent_up {G : G9} {d : D9} {k j k' : Nat} {v : Int} (h : k' ≠ k) : ent G (up d k j v) k' = ent G d k' := by
  have e : up d k j v k' = d k' := up_k h
  have e2 : ∀ c j', fv G (up d k j v) k' c j' = fv G d k' c j' := fun c j' => by simp [fv, e]
  simp [ent, e, fvs, e2]
theorem wl_set {G : G9} {d : D9} {k j : Nat} {v : Int} {q : va_E} (hq : ent G (up d k j v) k = q) : (wl G d).set k (G.1 k, q) = wl G (up d k j v) := by
  apply List.ext_getElem?
  intro i
  rw [List.getElem?_set]
  by_cases hi : k = i
  · subst hi
    rw [if_pos rfl, wl_len]
    by_cases hl : k < NC
    · rw [if_pos hl, wl_at hl, hq]
    · rw [if_neg hl]
      symm
      rw [List.getElem?_eq_none]
      rw [wl_len]; omega
  · rw [if_neg hi]
    by_cases hl : i < NC
    · rw [wl_at hl, wl_at hl, ent_up (fun e => hi e.symm)]
    · rw [List.getElem?_eq_none (by rw [wl_len]; omega), List.getElem?_eq_none (by rw [wl_len]; omega)]
theorem fvs_set {G : G9} {d : D9} {k j c : Nat} {v : Int} {cs : List Nat} (h : cs[j]? = some c) (hc : c = 0 ∨ c = 1) : fvs G (up d k j v) k cs = (fvs G d k cs).set j (if c = 0 then i9 v else l9 v) := by
  apply List.ext_getElem?
  intro i
  rw [List.getElem?_set]
  by_cases hi : j = i
  · subst hi
    have hlt : j < cs.length := (List.getElem?_eq_some_iff.mp h).1
    rw [if_pos rfl, fvs_len, if_pos hlt, fvs_get h]
    rcases hc with rfl | rfl <;> simp [fv, up_same]
  · rw [if_neg hi]
    cases hcs : cs[i]? with
    | none =>
      rw [List.getElem?_eq_none, List.getElem?_eq_none]
      · rw [fvs_len]; exact List.getElem?_eq_none_iff.mp hcs
      · rw [fvs_len]; exact List.getElem?_eq_none_iff.mp hcs
    | some c' =>
      rw [fvs_get hcs, fvs_get hcs]
      simp [fv, up_j (fun e => hi e.symm)]
theorem upd_of {f : Nat → Int32} {d : D9} {k i : Nat} {v : Int} (hf : f = fun j => Int32.ofInt (d k j)) : upd f i (Int32.ofInt v) = fun j => Int32.ofInt (up d k i v k j) := by
  subst hf; funext j
  by_cases h : j = i
  · subst h; simp [upd, up_same]
  · simp [upd, h, up_j h]

/-! the words, the context, the judgement -/
def WG : List Cond := lw_tbl.filter goodWord
theorem wg_in {w : Cond} (h : w ∈ lw_tbl) (g : goodWord w = true) : w ∈ WG := List.mem_filter.mpr ⟨h, g⟩
theorem wg_good {big : List Cond} (hb : ∀ w ∈ WG, w ∈ big) : GoodIn big WG := fun w hw => ⟨hb w hw, good_of_word (List.mem_filter.mp hw).2⟩
def nest9 : List (String × Nat × MethodName) := [(RX1, 28, yX11_copyRow), (RX3, 37, yX11_copyRow), (RX3, 41, yX11_isIn), (RX4, 31, yX11_copyRow), (RX5, 74, yX11_isIn), (RX6, 52, yX11_copyRow), (RX6, 93, yX11_isIn), (RX7, 28, yX11_copyRow), (RX10, 100, yX11_isIn)]
/-- what stands of the start at every call: the classes, the throws' statics, the links among nest mates -/
def EV (G : G9) (U : State) (H : Heap) : Prop := va_K (D9c G) vwCl (tys9 G) U ∧ vx_Zq Bundle.tN "UNASSIGNED_STACK" Bundle.steD (A9 G) U H ∧ vx_Zq Bundle.tN "SUPPRESSED_SENTINEL" Bundle.listD (A9 G) U H ∧ (∀ q ∈ nest9, va_Nw (.methodLinkNest q.1 q.2.1 q.2.2 RX11) U)
theorem EV.go {G : G9} {s U : State} {H0 H : Heap} {locs : List Loc} (h : EV G s H0) (hS : va_S (A9 G) H0 H locs) (hW : s.WarmedH U.vm) : EV G U H :=
  ⟨va_K.moved hW.alike h.1, vx_Zq.moved hW.alike (vx_Zq.kept h.2.1 hS.2.1), vx_Zq.moved hW.alike (vx_Zq.kept h.2.2.1 hS.2.1), fun q hq => va_Nw.warmM hW (h.2.2.2 q hq)⟩
abbrev X9 : Type := Program × Launch × Env × Room × State × MethodId × Array Value × List Frame × Method × Code × Nat × Nat × Nat
abbrev xP (X : X9) : Program := X.1
abbrev xL (X : X9) : Launch := X.2.1
abbrev xE (X : X9) : Env := X.2.2.1
abbrev xR (X : X9) : Room := X.2.2.2.1
abbrev xS (X : X9) : State := X.2.2.2.2.1
abbrev xM (X : X9) : MethodId := X.2.2.2.2.2.1
abbrev xA (X : X9) : Array Value := X.2.2.2.2.2.2.1
abbrev xB (X : X9) : List Frame := X.2.2.2.2.2.2.2.1
abbrev xT (X : X9) : Method := X.2.2.2.2.2.2.2.2.1
abbrev xC (X : X9) : Code := X.2.2.2.2.2.2.2.2.2.1
abbrev xK (X : X9) : Nat := X.2.2.2.2.2.2.2.2.2.2.1
abbrev xN (X : X9) : Nat := X.2.2.2.2.2.2.2.2.2.2.2.1
abbrev xV (X : X9) : Nat := X.2.2.2.2.2.2.2.2.2.2.2.2
/-- the answer as a value: 0 none, 1 an int, 2 a long -/
def rv9 (v : Nat) (a : Int) : Option Value := if v = 0 then none else if v = 1 then some (i9 a) else some (l9 a)
def ex9 (e : Nat) : String := if e = 0 then "java/lang/IllegalArgumentException" else if e = 1 then "java/lang/IllegalStateException" else if e = 2 then "java/util/NoSuchElementException" else "java/lang/IndexOutOfBoundsException"
def Qc9 (G : G9) (v : Nat) (r : R9) : Array Value → State → Outcome → State → Prop := fun _ st o t => (∃ (a : Int) (d : D9), r = (.inl a, d) ∧ o = .returned (rv9 v a) ∧ HO G d t.heap) ∧ va_F (A9 G) st t
def Xc9 (G : G9) (r : R9) : String → State → State → Prop := fun E st t => (∃ (e : Nat) (d : D9), r = (.inr e, d) ∧ E = ex9 e ∧ HO G d t.heap) ∧ va_F (A9 G) st t
def W9 (X : X9) (Q : State → Prop) (H : Heap) (locs : List Loc) (k n : Nat) (g : JFrame) : Prop := W (xP X) (xL X) (xE X) (xR X) (xS X) (xM X) (xA X) (xB X) (xT X) (xC X) H locs k n Q g
def Q9 (G : G9) (X : X9) (r : R9) : State → Prop := vx_MQ (xB X) (Qc9 G (xV X) r) (Xc9 G r) (xA X) (xS X) (xK X) (xN X) (A9 G)
def SS (G : G9) (X : X9) (nL k n pc : Nat) (ls : List (Nat × Value)) (st : List Value) (d : D9) (x : Option R9) : Prop :=
  ∀ r, x = some r → ∀ (H : Heap) (locs : List Loc) (la : Array Slot), HO G d H → va_S (A9 G) (xS X).heap H locs → lv_has la nL ls → W (xP X) (xL X) (xE X) (xR X) (xS X) (xM X) (xA X) (xB X) (xT X) (xC X) H locs k n (Q9 G X r) (F0 (xM X) pc la st)
abbrev Z9 : Type := Option FieldType × Nat × Nat × Nat × Nat × Nat
/-- a method's frame: what it answers (type, kind), what it makes (cells, slots), its room (frames, words) -/
def CZ (X : X9) (z : Z9) : Prop := (xT X).sig.returnType = z.1 ∧ xV X = z.2.1 ∧ xK X = z.2.2.1 ∧ xN X = z.2.2.2.1 ∧ xR X = { frames := z.2.2.2.2.1, cells := z.2.2.1, slots := z.2.2.2.1, locals := z.2.2.2.2.2 }
def CX (G : G9) (X : X9) (cc : ByteArray) (nL : Nat) (own : String) (tb : List ExceptionTableEntry) (z : Z9) : Prop :=
  (xP X).tables.exec = Jvm.exec ∧ (xC X).code = cc ∧ (xC X).maxLocals = nL ∧ (xS X).vm.findClass own = some (xM X).cls ∧ (∀ w ∈ WG, w.before (xA X) (xS X) = true) ∧ (xT X).locks = false ∧ (xC X).exceptionTable.toList = tb ∧ EV G (xS X) (xS X).heap ∧ (xL X).stackTraces = false ∧ va_D (A9 G) (wl G (fun _ _ => 0)) ∧ CZ X z
theorem wl_D {G : G9} {d d' : D9} (h : va_D (A9 G) (wl G d)) : va_D (A9 G) (wl G d') := by
  have key : ∀ (k : Nat) (q : Nat × va_E), (wl G d')[k]? = some q → ∃ q', (wl G d)[k]? = some q' ∧ q'.1 = q.1 := by
    intro k q hq
    have hk : k < NC := by rw [← wl_len G d']; exact (List.getElem?_eq_some_iff.mp hq).1
    rw [wl_at hk] at hq
    cases hq
    exact ⟨_, wl_at hk, rfl⟩
  refine ⟨fun i j p q hp hq e => ?_, fun k q hq => ?_⟩
  · obtain ⟨p', h1, h2⟩ := key i p hp
    obtain ⟨q', h3, h4⟩ := key j q hq
    exact h.1 i j p' q' h1 h3 (by rw [h2, h4, e])
  · obtain ⟨q', h1, h2⟩ := key k q hq
    rw [← h2]; exact h.2 k q' h1
theorem CX.ev {G : G9} {X : X9} {cc : ByteArray} {nL : Nat} {own : String} {tb : List ExceptionTableEntry} {z : Z9} (C : CX G X cc nL own tb z) : EV G (xS X) (xS X).heap := C.2.2.2.2.2.2.2.1
theorem CX.ws {G : G9} {X : X9} {cc : ByteArray} {nL : Nat} {own : String} {tb : List ExceptionTableEntry} {z : Z9} (C : CX G X cc nL own tb z) : ∀ w ∈ WG, w.before (xA X) (xS X) = true := C.2.2.2.2.1
theorem CX.dd {G : G9} {X : X9} {cc : ByteArray} {nL : Nat} {own : String} {tb : List ExceptionTableEntry} {z : Z9} (C : CX G X cc nL own tb z) (d : D9) : va_D (A9 G) (wl G d) := wl_D C.2.2.2.2.2.2.2.2.2.1
theorem CX.z {G : G9} {X : X9} {cc : ByteArray} {nL : Nat} {own : String} {tb : List ExceptionTableEntry} {z : Z9} (C : CX G X cc nL own tb z) : CZ X z := C.2.2.2.2.2.2.2.2.2.2
/-- a method's contract -/
def MT (G : G9) (l : Launch) (y : MethodName) (bytes : ByteArray) (maxL : Nat) (z : Z9) (av : List Value) (d : D9) (x : Option R9) : Prop := ∀ r, x = some r →
  vx_Met l y (.code y bytes maxL z.1 :: WG) { frames := z.2.2.2.2.1, cells := z.2.2.1, slots := z.2.2.2.1, locals := z.2.2.2.2.2 } (va_Pc av (fun U => EV G U U.heap ∧ HO G d U.heap)) (Qc9 G z.2.1 r) (Xc9 G r) z.2.2.1 z.2.2.2.1 (A9 G)

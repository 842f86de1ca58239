/-! the makers: cells come one behind the other, G.1 k = B + k -/
def pfv (G : G9) (d : D9) (k a c j : Nat) : Value := if c = 0 then i9 (d k j) else if c = 1 then l9 (d k j) else if j < a then rf G (lr k j) else .null
def pfvs (G : G9) (d : D9) (k a : Nat) (cs : List Nat) : List Value := cs.zipIdx.map (fun q => pfv G d k a q.1 q.2)
/-- an object whose references ahead of a are set -/
def pent (G : G9) (d : D9) (k a : Nat) : va_E := .inr ((lay k).2, pfvs G d k a (ftab (lay k).2))
/-- the array of images, m of them set -/
def entM (G : G9) (d : D9) (m k : Nat) : va_E := if k = 38 then .inl (cA G 4, 3, .inr (.inr (.inr (.inr (fun j => if j < m then some (G.1 (lr 38 j)) else none))))) else ent G d k
def wseg (G : G9) (d : D9) (m lo n : Nat) : va_W := (List.range n).map (fun i => (G.1 (lo + i), entM G d m (lo + i)))
def wsE (G : G9) (d : D9) (m : Nat) (pre : List (Nat × Nat)) (lo n : Nat) : va_W := pre.map (fun q => (G.1 q.1, pent G d q.1 q.2)) ++ wseg G d m lo n
def nestC : List (String × Nat × MethodName) := [(RX11, 9, yX10_init), (RX11, 33, yX7_init), (RX11, 40, yX4_init), (RX11, 47, yX8_init), (RX11, 54, yX0_init), (RX11, 61, yX9_init), (RX11, 68, yX5_init), (RX10, 11, yX3_init), (RX10, 20, yX6_init), (RX10, 34, yX7_init), (RX10, 41, yX4_init), (RX10, 48, yX1_init)]
def EC (G : G9) (U : State) : Prop := va_K (D9c G) vwCl (tys9 G) U ∧ (∀ q ∈ nestC, va_Nw (.methodLinkNest q.1 q.2.1 q.2.2 RX11) U) ∧ va_AO "RedHands$Wall" U
theorem EC.go {G : G9} {s U : State} (h : EC G s) (hW : s.WarmedH U.vm) : EC G U := ⟨va_K.moved hW.alike h.1, fun q hq => va_Nw.warmM hW (h.2.1 q hq), h.2.2.moved hW.alike⟩
/-- what a maker's body has: the cells pre (being made) and lo .. lo + n, nothing below h0 changed -/
def SE (G : G9) (X : X9) (Q : State → Prop) (h0 nL k n pc : Nat) (ls : List (Nat × Value)) (st : List Value) (d : D9) (m : Nat) (pre : List (Nat × Nat)) (lo c : Nat) : Prop :=
  ∀ (H : Heap) (locs : List Loc) (la : Array Slot), va_P (D9c G) vwCl (wsE G d m pre lo c) H → H.size = G.1 (lo + c) → va_S (fun q => G.1 h0 ≤ q) (xS X).heap H locs → lv_has la nL ls → W (xP X) (xL X) (xE X) (xR X) (xS X) (xM X) (xA X) (xB X) (xT X) (xC X) H locs k n Q (F0 (xM X) pc la st)
/-- the context of a maker -/
def CE (G : G9) (X : X9) (cc : ByteArray) (nL : Nat) (own : String) (B : Nat) : Prop :=
  (xP X).tables.exec = Jvm.exec ∧ (xC X).code = cc ∧ (xC X).maxLocals = nL ∧ (xS X).vm.findClass own = some (xM X).cls ∧ (∀ w ∈ WG, w.before (xA X) (xS X) = true) ∧ (xT X).locks = false ∧ EC G (xS X) ∧ (∀ k, G.1 k = B + k)
theorem wsE_D {G : G9} {B : Nat} (hB : ∀ k, G.1 k = B + k) {d : D9} {m : Nat} {w a lo c : Nat} {A : Nat → Prop} (hA : ∀ q, G.1 w ≤ q → A q) (hlo : lo = w + 1) : va_D A (wsE G d m [(w, a)] lo c) := by
  have key : ∀ (i : Nat) (q : Nat × va_E), (wsE G d m [(w, a)] lo c)[i]? = some q → q.1 = B + (w + i) := by
    intro i q hq
    cases i with
    | zero => cases hq; exact hB w
    | succ i =>
      have hq' : (wseg G d m lo c)[i]? = some q := hq
      unfold wseg at hq'
      rw [List.getElem?_map] at hq'
      obtain ⟨j, hj, rfl⟩ := Option.map_eq_some_iff.mp hq'
      have : j = i := by
        obtain ⟨h1, h2⟩ := List.getElem?_eq_some_iff.mp hj
        simpa using h2.symm
      subst this
      show G.1 (lo + j) = _
      rw [hB]; omega
  refine ⟨fun i j p q hp hq e => ?_, fun k q hq => hA _ ?_⟩
  · have := key i p hp; have := key j q hq; omega
  · rw [key k q hq, hB]; omega
theorem wsE_D0 {G : G9} {B : Nat} (hB : ∀ k, G.1 k = B + k) {d : D9} {m lo c : Nat} {A : Nat → Prop} (hA : ∀ q, G.1 lo ≤ q → A q) : va_D A (wsE G d m [] lo c) := by
  have key : ∀ (i : Nat) (q : Nat × va_E), (wsE G d m [] lo c)[i]? = some q → q.1 = B + (lo + i) := by
    intro i q hq
    have hq' : (wseg G d m lo c)[i]? = some q := hq
    unfold wseg at hq'
    rw [List.getElem?_map] at hq'
    obtain ⟨j, hj, rfl⟩ := Option.map_eq_some_iff.mp hq'
    have : j = i := by
      obtain ⟨h1, h2⟩ := List.getElem?_eq_some_iff.mp hj
      simpa using h2.symm
    subst this
    show G.1 (lo + j) = _
    rw [hB]
  refine ⟨fun i j p q hp hq e => ?_, fun k q hq => hA _ ?_⟩
  · have := key i p hp; have := key j q hq; omega
  · rw [key k q hq, hB]; omega
section RE
variable {G : G9} {X : X9} {Q : State → Prop} {h0 nL k n pc : Nat} {ls : List (Nat × Value)} {st : List Value} {d : D9} {m : Nat} {pre : List (Nat × Nat)} {lo c : Nat} {cc : ByteArray} {own : String} {B : Nat}
theorem e_aload_n (C : CE G X cc nL own B) {q : Fin 4} {i a : Nat} (z : Nat) (hd : decode cc pc = .ok (.aload_n q, 1)) (hi : (q : Nat) = i) (hl : ls[z]? = some (i, rf G a)) (kk : SE G X Q h0 nL k n (pc + 1) ls (rf G a :: st) d m pre lo c) : SE G X Q h0 nL k n pc ls st d m pre lo c :=
  fun H locs la hP hz hS hL => lv_aload_n C.1 C.2.1 hd hi (lv_at hL z hl) (kk H locs la hP hz hS hL)
theorem e_iload_n (C : CE G X cc nL own B) {q : Fin 4} {i : Nat} {a : Int} (z : Nat) (hd : decode cc pc = .ok (.iload_n q, 1)) (hi : (q : Nat) = i) (hl : ls[z]? = some (i, i9 a)) (kk : SE G X Q h0 nL k n (pc + 1) ls (i9 a :: st) d m pre lo c) : SE G X Q h0 nL k n pc ls st d m pre lo c :=
  fun H locs la hP hz hS hL => lv_iload_n C.1 C.2.1 hd hi (lv_at hL z hl) (kk H locs la hP hz hS hL)
theorem e_istore_n (C : CE G X cc nL own B) {q : Fin 4} {i : Nat} {a : Int} (ls' : List (Nat × Value)) (hd : decode cc pc = .ok (.istore_n q, 1)) (hi : (q : Nat) = i) (hn : i < nL) (hl : (i, i9 a) :: ls.filter (fun q => !(q.1 == i) && !(q.1 + 1 == i && q.2.category == 2)) = ls') (kk : SE G X Q h0 nL k n (pc + 1) ls' st d m pre lo c) : SE G X Q h0 nL k n pc ls (i9 a :: st) d m pre lo c :=
  fun H locs la hP hz hS hL => lv_istore_n C.1 C.2.1 hd hi hL hn hl (fun la' hL' => kk H locs la' hP hz hS hL')
theorem e_istore (C : CE G X cc nL own B) {i : Nat} {a : Int} (ls' : List (Nat × Value)) (hd : decode cc pc = .ok (.istore i, 2)) (hn : i < nL) (hl : (i, i9 a) :: ls.filter (fun q => !(q.1 == i) && !(q.1 + 1 == i && q.2.category == 2)) = ls') (kk : SE G X Q h0 nL k n (pc + 2) ls' st d m pre lo c) : SE G X Q h0 nL k n pc ls (i9 a :: st) d m pre lo c :=
  fun H locs la hP hz hS hL => lv_istore C.1 C.2.1 hd hL hn hl (fun la' hL' => kk H locs la' hP hz hS hL')
theorem e_astore_n (C : CE G X cc nL own B) {q : Fin 4} {i : Nat} {a : Nat} (ls' : List (Nat × Value)) (hd : decode cc pc = .ok (.astore_n q, 1)) (hi : (q : Nat) = i) (hn : i < nL) (hl : (i, rf G a) :: ls.filter (fun q => !(q.1 == i) && !(q.1 + 1 == i && q.2.category == 2)) = ls') (kk : SE G X Q h0 nL k n (pc + 1) ls' st d m pre lo c) : SE G X Q h0 nL k n pc ls (rf G a :: st) d m pre lo c :=
  fun H locs la hP hz hS hL => lv_astore_n C.1 C.2.1 hd hi hL hn hl (fun la' hL' => kk H locs la' hP hz hS hL')
theorem e_iinc (C : CE G X cc nL own B) {i : Nat} {a b v : Int} (z : Nat) (ls' : List (Nat × Value)) (hd : decode cc pc = .ok (.iinc i b, 3)) (hz' : ls[z]? = some (i, i9 a)) (hv : a + b = v) (hn : i < nL) (hl : (i, i9 v) :: ls.filter (fun q => !(q.1 == i) && !(q.1 + 1 == i && q.2.category == 2)) = ls') (kk : SE G X Q h0 nL k n (pc + 3) ls' st d m pre lo c) : SE G X Q h0 nL k n pc ls st d m pre lo c :=
  fun H locs la hP hz hS hL => lv_iinc C.1 C.2.1 hd hL hz' (by rw [← hv]; exact (Int32.ofInt_add a b).symm) hn hl (fun la' hL' => kk H locs la' hP hz hS hL')
theorem e_iconst (C : CE G X cc nL own B) {a : Int} (hd : decode cc pc = .ok (.iconst a, 1)) (kk : SE G X Q h0 nL k n (pc + 1) ls (i9 a :: st) d m pre lo c) : SE G X Q h0 nL k n pc ls st d m pre lo c :=
  fun H locs la hP hz hS hL => lv_iconst C.1 C.2.1 hd rfl (kk H locs la hP hz hS hL)
theorem e_bipush (C : CE G X cc nL own B) {a : Int} (hd : decode cc pc = .ok (.bipush a, 2)) (hv : (Int8.ofInt a).toInt32 = Int32.ofInt a) (kk : SE G X Q h0 nL k n (pc + 2) ls (i9 a :: st) d m pre lo c) : SE G X Q h0 nL k n pc ls st d m pre lo c :=
  fun H locs la hP hz hS hL => lv_bipush C.1 C.2.1 hd hv (kk H locs la hP hz hS hL)
theorem e_sipush (C : CE G X cc nL own B) {a : Int} (hd : decode cc pc = .ok (.sipush a, 3)) (hv : (Int16.ofInt a).toInt32 = Int32.ofInt a) (kk : SE G X Q h0 nL k n (pc + 3) ls (i9 a :: st) d m pre lo c) : SE G X Q h0 nL k n pc ls st d m pre lo c :=
  fun H locs la hP hz hS hL => lv_sipush C.1 C.2.1 hd hv (kk H locs la hP hz hS hL)
theorem e_iadd (C : CE G X cc nL own B) {a b v : Int} (hd : decode cc pc = .ok (.iadd, 1)) (hv : a + b = v) (kk : SE G X Q h0 nL k n (pc + 1) ls (i9 v :: st) d m pre lo c) : SE G X Q h0 nL k n pc ls (i9 b :: i9 a :: st) d m pre lo c :=
  fun H locs la hP hz hS hL => by
    have kk := kk H locs la hP hz hS hL
    subst hv
    unfold i9 at kk
    rw [Int32.ofInt_add] at kk
    exact lv_iadd C.1 C.2.1 hd kk
theorem e_dup (C : CE G X cc nL own B) {va : Value} (hd : decode cc pc = .ok (.dup, 1)) (hv : va.category = 1) (kk : SE G X Q h0 nL k n (pc + 1) ls (va :: va :: st) d m pre lo c) : SE G X Q h0 nL k n pc ls (va :: st) d m pre lo c :=
  fun H locs la hP hz hS hL => lv_dup C.1 C.2.1 hd hv (kk H locs la hP hz hS hL)
theorem e_goto (C : CE G X cc nL own B) {off : Int} (tgt : Nat) (hd : decode cc pc = .ok (.goto off, 3)) (ht : (pc : Int) + off = (tgt : Int)) (kk : SE G X Q h0 nL k n tgt ls st d m pre lo c) : SE G X Q h0 nL k n pc ls st d m pre lo c :=
  fun H locs la hP hz hS hL => lv_goto C.1 C.2.1 hd ht (kk H locs la hP hz hS hL)
theorem e_icmp_geT (C : CE G X cc nL own B) {a b : Int} {off : Int} (tgt : Nat) (hd : decode cc pc = .ok (.if_icmp .ge off, 3)) (ht : (pc : Int) + off = (tgt : Int)) (hc : w32 b ≤ w32 a) (kk : SE G X Q h0 nL k n tgt ls st d m pre lo c) : SE G X Q h0 nL k n pc ls (i9 b :: i9 a :: st) d m pre lo c :=
  fun H locs la hP hz hS hL => lv_icmp_ge C.1 C.2.1 hd ht (fun _ => kk H locs la hP hz hS hL) (fun h => absurd ((le9 b a).mpr hc) h)
theorem e_icmp_geF (C : CE G X cc nL own B) {a b : Int} {off : Int} (tgt : Nat) (hd : decode cc pc = .ok (.if_icmp .ge off, 3)) (ht : (pc : Int) + off = (tgt : Int)) (hc : w32 a < w32 b) (kk : SE G X Q h0 nL k n (pc + 3) ls st d m pre lo c) : SE G X Q h0 nL k n pc ls (i9 b :: i9 a :: st) d m pre lo c :=
  fun H locs la hP hz hS hL => lv_icmp_ge C.1 C.2.1 hd ht (fun h => absurd ((le9 b a).mp h) (by omega)) (fun _ => kk H locs la hP hz hS hL)
end RE
theorem wseg_succ {G : G9} {d : D9} {m lo c : Nat} : wseg G d m lo (c + 1) = wseg G d m lo c ++ [(G.1 (lo + c), entM G d m (lo + c))] := by
  unfold wseg
  rw [List.range_succ, List.map_append]; rfl
theorem wsE_succ {G : G9} {d : D9} {m lo c : Nat} {pre : List (Nat × Nat)} : wsE G d m pre lo (c + 1) = wsE G d m pre lo c ++ [(G.1 (lo + c), entM G d m (lo + c))] := by
  unfold wsE
  rw [wseg_succ, List.append_assoc]
theorem vaP_one {D : va_G} {q : Nat × va_E} {H : Heap} (h : va_at D vwCl q H) : va_P D vwCl [q] H := fun k x hx => by
  have hz : k < 1 := (List.getElem?_eq_some_iff.mp hx).1
  rw [show k = 0 by omega] at hx
  cases hx; exact h
theorem pay9 {X : X9} {G : G9} {cc : ByteArray} {nL : Nat} {own : String} {B : Nat} (C : CE G X cc nL own B) : ∀ w ∈ WG, w.before (xA X) (xS X) = true := C.2.2.2.2.1
section VZ
variable {p : Program} {l : Launch} {e : Env} {R : Room} {s : State} {m : MethodId} {args : Array Value} {below : List Frame} {meth : Method} {c : Code} {H : Heap} {locs : List Loc} {cells slots : Nat} {Q : State → Prop}
variable {cc : ByteArray} {pc : Nat} {ls : Array Slot} {rest : List Value} {D : va_G} {cl : List vw_C} {A : Nat → Prop} {a : Nat} {tys : List (ClassId × FieldType)} {ws : va_W} {H0 : Heap}
/-- va_putF, and the heap is as long as before -/
theorem z_putF (hexec : p.tables.exec = Jvm.exec) (hb : c.code = cc) {own ref C : String} {T : u_T} {N ci index : Nat} {Ts : List Cond} (hts : ∀ w ∈ Ts, w.before args s = true) (hin : ∀ w ∈ u_ws C T N, w ∈ Ts) (ty0 : Nat → FieldType) (hty : ∀ k, k < N → parseFieldDescriptor (T k).2.2.1 = some (ty0 k)) (hnm : ∀ a, a < N → ∀ b, b < N → a ≠ b → (T a).2.1 ≠ (T b).2.1) (hown : s.vm.findClass own = some m.cls) (hK : va_K D cl tys s) (hP : va_P D cl ws H) (hD : va_D A ws) (hS0 : va_S A H0 H locs) (q0 : Nat) {fs : List Value} (he : ws[q0]? = some (a, .inr (ci, fs))) (hc : cl[ci]? = some (C, T, N)) (k : Nat) (hk : k < N) (hlink : (Cond.fieldLink own index ref (T k).2.1 (T k).2.2.1).before args s = true) (hsame : ∀ x, s.fieldFound? (T k).1 (T k).2.1 (T k).2.2.1 = some x → s.fieldFound? ref (T k).2.1 (T k).2.2.1 = some x) (hfin : (T k).2.2.2 = true) (hin2 : meth.name = "<init>") (hdecl : (T k).1 = own) {ty : FieldType} {v : Value} (hd : parseFieldDescriptor (T k).2.2.1 = some ty) (hn : narrow ty v = v) (hfit : fits ty v = true) (hl : k < fs.length)
    (hdg : decode cc pc = .ok (.putfield index, 3)) (kk : ∀ (H1 : Heap) (locs1 : List Loc), va_P D cl (ws.set q0 (a, .inr (ci, fs.set k v))) H1 → H1.size = H.size → va_S A H0 H1 locs1 → W p l e R s m args below meth c H1 locs1 cells slots Q (F0 m (pc + 3) ls rest)) : W p l e R s m args below meth c H locs cells slots Q (F0 m pc ls (v :: .ref a :: rest)) := by
  have hap := va_apart (own := own) hts hin ty0 hty hnm hK hc
  obtain ⟨r, h1, cell, q1, q2, q3, q4⟩ := hP q0 _ he
  have hr : r = (C, T, N) := Option.some.inj (h1.symm.trans hc)
  subst hr
  obtain ⟨hS, hfc, kC, hkC, hkind⟩ := hK.1 ci _ hc
  obtain ⟨cf, kf, fi, f, hi, hsl⟩ := hS k hk
  have hlay := hts _ (hin _ (u_in_lay hk))
  unfold u_lay at hlay
  rw [if_pos hfin] at hlay
  have hst := (u_facts hfc hkC (u_lays hts hin hk) hi).1
  have hcf : m.cls = cf := by
    obtain ⟨_, _, c', _, _, _, -, -, hf', -, -, -, hown2, -⟩ := Cond.laysFinal_spec hlay
    have e1 : c' = cf := by have := hi.symm.trans hf'; simp at this; exact this.1.symm
    rw [hdecl] at hown2
    rw [← e1]; exact Option.some.inj (hown.symm.trans hown2)
  have h6 := u_fits hfc hkC hkind (Or.inr hlay) hi hd hn hfit
  refine W.putFinK hexec hb hown hlink (hsame _ hi) hst hcf hin2 (by rw [q2]; exact h6) q1 q3 (by rw [hsl]; exact k2_hasslot (q4 k hk)) rfl rfl hdg fun H' e1 e2 e3 => ?_
  rw [hsl] at e1 ⊢
  exact kk H' _ (hP.set hD he ⟨_, hc, t_OB.to (V := updV (vp_V fs) k v) ⟨_, e1, q2, q3, t_set q4 hap hk v⟩ (fun j _ => vp_updV_set hl v j)⟩ e3) e2 (hS0.put e2 e3 (hD.2 q0 _ he))
theorem z_put (hexec : p.tables.exec = Jvm.exec) (hb : c.code = cc) {own ref C : String} {T : u_T} {N ci index : Nat} {Ts : List Cond} (hts : ∀ w ∈ Ts, w.before args s = true) (hin : ∀ w ∈ u_ws C T N, w ∈ Ts) (ty0 : Nat → FieldType) (hty : ∀ k, k < N → parseFieldDescriptor (T k).2.2.1 = some (ty0 k)) (hnm : ∀ a, a < N → ∀ b, b < N → a ≠ b → (T a).2.1 ≠ (T b).2.1) (hown : s.vm.findClass own = some m.cls) (hK : va_K D cl tys s) (hP : va_P D cl ws H) (hD : va_D A ws) (hS0 : va_S A H0 H locs) (q0 : Nat) {fs : List Value} (he : ws[q0]? = some (a, .inr (ci, fs))) (hc : cl[ci]? = some (C, T, N)) (k : Nat) (hk : k < N) (hlink : (Cond.fieldLink own index ref (T k).2.1 (T k).2.2.1).before args s = true) (hsame : ∀ x, s.fieldFound? (T k).1 (T k).2.1 (T k).2.2.1 = some x → s.fieldFound? ref (T k).2.1 (T k).2.2.1 = some x) (hfin : (T k).2.2.2 = false) {ty : FieldType} {v : Value} (hd : parseFieldDescriptor (T k).2.2.1 = some ty) (hn : narrow ty v = v) (hfit : fits ty v = true) (hl : k < fs.length)
    (hdg : decode cc pc = .ok (.putfield index, 3)) (kk : ∀ (H1 : Heap) (locs1 : List Loc), va_P D cl (ws.set q0 (a, .inr (ci, fs.set k v))) H1 → H1.size = H.size → va_S A H0 H1 locs1 → W p l e R s m args below meth c H1 locs1 cells slots Q (F0 m (pc + 3) ls rest)) : W p l e R s m args below meth c H locs cells slots Q (F0 m pc ls (v :: .ref a :: rest)) := by
  have hap := va_apart (own := own) hts hin ty0 hty hnm hK hc
  obtain ⟨r, h1, cell, q1, q2, q3, q4⟩ := hP q0 _ he
  have hr : r = (C, T, N) := Option.some.inj (h1.symm.trans hc)
  subst hr
  obtain ⟨hS, hfc, kC, hkC, hkind⟩ := hK.1 ci _ hc
  obtain ⟨cf, kf, fi, f, hi, hsl⟩ := hS k hk
  have hlay := hts _ (hin _ (u_in_lay hk))
  unfold u_lay at hlay
  rw [if_neg (by rw [hfin]; decide)] at hlay
  have hst := (u_facts hfc hkC (u_lays hts hin hk) hi).1
  have h6 := u_store hfc hkC hkind hlay hi hd hn hfit
  refine W.putK hexec hb (f := f) ⟨hown, hlink, ⟨_, _, _, hsame _ hi⟩, hst⟩ (by rw [q2]; exact h6) q1 q3 (by rw [hsl]; exact k2_hasslot (q4 k hk)) rfl rfl hdg fun H' e1 e2 e3 => ?_
  rw [hsl] at e1 ⊢
  exact kk H' _ (hP.set hD he ⟨_, hc, t_OB.to (V := updV (vp_V fs) k v) ⟨_, e1, q2, q3, t_set q4 hap hk v⟩ (fun j _ => vp_updV_set hl v j)⟩ e3) e2 (hS0.put e2 e3 (hD.2 q0 _ he))
theorem z_iast (hexec : p.tables.exec = Jvm.exec) (hb : c.code = cc) (hK : va_K D cl tys s) (hP : va_P D cl ws H) (hD : va_D A ws) (hS : va_S A H0 H locs) (q0 t0 : Nat) {cA : ClassId} {n : Nat} {f : Nat → Int32} (ha : ws[q0]? = some (a, .inl (cA, n, .inl f))) (ht : tys[t0]? = some (cA, .int)) {i : Int32} {x : Int32} (hin : vp_in i n) (hdg : decode cc pc = .ok (.iastore, 1))
    (kk : ∀ (H1 : Heap) (locs1 : List Loc), va_P D cl (ws.set q0 (a, .inl (cA, n, .inl (upd f i.toNatClampNeg x)))) H1 → H1.size = H.size → va_S A H0 H1 locs1 → W p l e R s m args below meth c H1 locs1 cells slots Q (F0 m (pc + 1) ls rest)) : W p l e R s m args below meth c H locs cells slots Q (F0 m pc ls (.int x :: .int i :: .ref a :: rest)) := by
  refine W.iast hexec hb (hP q0 _ ha) ((hK.2 t0 _ ht).1 n (fun j => .int (f j))) (fun q => by cases q) (by show ¬ (i < 0 ∨ (arrV _ _ _).slots.size ≤ _); rw [arrV_size]; exact hin) rfl rfl hdg fun H1 e z oq => ?_
  refine kk H1 _ (hP.set hD ha ?_ oq) z (hS.put z oq (hD.2 q0 _ ha))
  show H1[a]? = some (vp_cell _ _)
  rw [e]
  rw [vp_cell_i, vp_cell_i, arrV_store]
  congr 2
  funext q
  by_cases hq : q = i.toNatClampNeg
  · subst hq
    simp [updV, upd]
  · simp [updV, upd, hq]
theorem z_astq (hexec : p.tables.exec = Jvm.exec) (hb : c.code = cc) (hK : va_K D cl tys s) (hP : va_P D cl ws H) (hD : va_D A ws) (hS : va_S A H0 H locs) (q0 t0 qk ci : Nat) {cA : ClassId} {r : vw_C} {n v : Nat} {vs : List Value} {f : Nat → Option Nat} (ha : ws[q0]? = some (a, .inl (cA, n, .inr (.inr (.inr (.inr f)))))) (ht : tys[t0]? = some (cA, .object r.1)) (hv : ws[qk]? = some (v, .inr (ci, vs))) (hc : cl[ci]? = some r) {i : Int32} (hin : vp_in i n) (hdg : decode cc pc = .ok (.aastore, 1))
    (kk : ∀ (H1 : Heap) (locs1 : List Loc), va_P D cl (ws.set q0 (a, .inl (cA, n, .inr (.inr (.inr (.inr (va_up f i.toNatClampNeg (some v)))))))) H1 → H1.size = H.size → va_S A H0 H1 locs1 → W p l e R s m args below meth c H1 locs1 cells slots Q (F0 m (pc + 1) ls rest)) : W p l e R s m args below meth c H locs cells slots Q (F0 m pc ls (.ref v :: .int i :: .ref a :: rest)) := by
  have hlt : i.toNatClampNeg < n := Nat.not_le.mp fun q => hin (Or.inr q)
  have h0 : ¬ i < 0 := fun q => hin (Or.inl q)
  obtain ⟨r', hr', cellV, g1, g2, g3, -⟩ := hP qk _ hv
  have hcls := (hK.1 ci r hc).2
  obtain ⟨kA, comp, k1, k2, k3, -⟩ := (hK.2 t0 _ ht).2
  have hcomp : comp = D.1 ci := Option.some.inj (k3.symm.trans hcls.1)
  subst hcomp
  obtain ⟨kC, hkC, -⟩ := hcls.2
  refine W.aast hexec hb (hP q0 _ ha) (fun q h => by cases h) (fun h => by cases h) k1 k2 rfl hkC ⟨h0, by show _ < (arrV _ _ _).slots.size; rw [arrV_size]; exact hlt⟩ g1 (fun q h => by rw [g3] at h; cases h) (by rw [g2]; exact hkC) (by rw [g2]; exact va_assign hcls) rfl rfl hdg fun H1 e z oq => ?_
  refine kk H1 _ (hP.set hD ha ?_ oq) z (hS.put z oq (hD.2 q0 _ ha))
  show H1[a]? = some (vp_cell _ _)
  rw [e]
  rw [vp_cell_q, vp_cell_q, arrV_store]
  congr 2
  funext q
  by_cases hq : q = i.toNatClampNeg
  · subst hq
    simp [updV, va_up, va_rf]
  · simp [updV, va_up, hq]
end VZ
section RF
variable {G : G9} {X : X9} {Q : State → Prop} {h0 nL k n pc : Nat} {ls : List (Nat × Value)} {st : List Value} {d : D9} {m : Nat} {pre : List (Nat × Nat)} {lo c : Nat} {cc : ByteArray} {own : String} {B : Nat}
theorem e_objinit (C : CE G X cc nL own B) {i a : Nat} (hd : decode cc pc = .ok (.invokespecial i, 3)) (hw : Cond.methodLink own i Lib.objectInit ∈ WG ∧ Cond.instanceMethod Lib.objectInit ∈ WG ∧ Cond.code Lib.objectInit ⟨#[0xb1]⟩ 1 none ∈ WG) (hR : 1 ≤ (xR X).frames ∧ (st.map fun v => v.category).sum + 12 ≤ (xR X).locals) (kk : SE G X Q h0 nL k n (pc + 3) ls st d m pre lo c) : SE G X Q h0 nL k n pc ls (rf G a :: st) d m pre lo c :=
  fun H locs la hP hz hS hL => W.objInit C.1 C.2.1 C.2.2.2.1 (pay9 C _ hw.1) (pay9 C _ hw.2.1) (pay9 C _ hw.2.2) rfl (hL.1.trans C.2.2.1.symm) rfl hd hR.1 (by rw [show (F0 (xM X) pc la (rf G a :: st)).monitorRoom = 0 from rfl]; have := hR.2; omega) (kk H locs la hP hz hS hL)
theorem e_newaG (C : CE G X cc nL own B) {atype : ArrayType} {ty : FieldType} {t0 N : Nat} {a0 : vp_A} {v : Int} (hd : decode cc pc = .ok (.newarray atype, 2)) (harr : Cond.arrayClass ty ∈ WG) (hty : newarray.typeOf atype = ty) (ht : (tys9 G)[t0]? = some (cA G t0, ty)) (hra : ∀ (U : State) (c : ClassId), va_RA U c ty → U.vm.findClass ("[" ++ ty.toString) = some c) (hent : entM G d m (lo + c) = .inl (cA G t0, a0)) (hcell : vp_cell (cA G t0) a0 = arrV (cA G t0) N (fun _ => defaultValue ty)) (hv : ¬ Int32.ofInt v < 0 ∧ (Int32.ofInt v).toNatClampNeg = N) (hbytes : N * componentBytes ty ≤ 536870912) (hR : k + 1 ≤ (xR X).cells ∧ n + N ≤ (xR X).slots) (hlo : h0 ≤ lo + c)
    (kk : SE G X Q h0 nL (k + 1) (n + N) (pc + 2) ls (rf G (lo + c) :: st) d m pre lo (c + 1)) : SE G X Q h0 nL k n pc ls (i9 v :: st) d m pre lo c := by
  intro H locs la hP hz hS hL
  subst hty
  refine va_newaK C.1 C.2.1 (pay9 C _ harr) rfl hd rfl hv.1 hv.2 hbytes hR.1 hR.2 hz (fun H' cA' e1 z1 o1 hAr hNm => ?_)
  have hc : cA' = cA G t0 := by
    have := hra _ _ (C.2.2.2.2.2.2.1.1.2 t0 _ ht).2
    rw [hNm] at this
    exact Option.some.inj this
  subst hc
  refine kk H' locs la ?_ ?_ ?_ hL
  · rw [wsE_succ]
    refine (hP.kept (fun k x hx => o1 x.1 (by rw [← hz]; exact (hP k x hx).lt))).app (vaP_one ?_)
    rw [hent]
    show H'[G.1 (lo + c)]? = some (vp_cell _ _)
    rw [hcell]; exact e1
  · rw [z1, C.2.2.2.2.2.2.2, C.2.2.2.2.2.2.2]; omega
  · refine ⟨by rw [z1]; have := hS.1; omega, fun q q1 q2 => ?_, hS.2.2⟩
    rw [o1 q (by rw [← hz]; exact Nat.lt_of_lt_of_le q1 hS.1)]
    exact hS.2.1 q q1 q2
theorem e_putR (C : CE G X cc nL own B) {i w a a' j ci b : Nat} {cs : List Nat} (hlo : lo = w + 1) (hw0 : h0 ≤ w) (hd : decode cc pc = .ok (.putfield i, 3)) {T : u_T} {N : Nat} {ty0 : Nat → FieldType} {ty : FieldType} (hc : vwCl[ci]? = some (own, T, N)) (hin : ∀ x ∈ u_ws own T N, x ∈ WG) (hty : ∀ k, k < N → parseFieldDescriptor (T k).2.2.1 = some (ty0 k)) (hnm : ∀ a, a < N → ∀ b, b < N → a ≠ b → (T a).2.1 ≠ (T b).2.1) (hj : j < N) (hl : Cond.fieldLink own i own (T j).2.1 (T j).2.2.1 ∈ WG) (hfin : (T j).2.2.2 = true) (hdecl : (T j).1 = own) (hpd : parseFieldDescriptor (T j).2.2.1 = some ty) (hfit : ∀ x, fits ty (.ref x) = true ∧ narrow ty (.ref x) = .ref x) (hini : (xT X).name = "<init>") (hlay : lay w = (0, ci)) (hcs : ftab ci = cs) (hlen : j < cs.length) (hset : pfvs G d w a' cs = (pfvs G d w a cs).set j (rf G b))
    (kk : SE G X Q h0 nL k n (pc + 3) ls st d m [(w, a')] lo c) : SE G X Q h0 nL k n pc ls (rf G b :: rf G w :: st) d m [(w, a)] lo c := by
  intro H locs la hP hz hS hL
  have hB := C.2.2.2.2.2.2.2
  have e0 : ∀ a, pent G d w a = .inr (ci, pfvs G d w a cs) := fun a => by unfold pent; rw [hlay, ← hcs]
  have hlen' : j < (pfvs G d w a cs).length := by simpa [pfvs] using hlen
  refine z_putF C.1 C.2.1 (pay9 C) hin ty0 hty hnm C.2.2.2.1 C.2.2.2.2.2.2.1.1 hP (wsE_D hB (A := fun q => G.1 h0 ≤ q) (fun q hq => by have := hB h0; have := hB w; omega) hlo) hS 0 (by show some (G.1 w, pent G d w a) = _; rw [e0]) hc j hj (pay9 C _ hl) (fun x hx => by rw [hdecl] at hx; exact hx) hfin hini hdecl hpd (hfit _).2 (hfit _).1 hlen' hd (fun H1 locs1 hP1 hz1 hS1 => ?_)
  have e1 : (wsE G d m [(w, a)] lo c).set 0 (G.1 w, .inr (ci, (pfvs G d w a cs).set j (rf G b))) = wsE G d m [(w, a')] lo c := by
    show (G.1 w, _) :: wseg G d m lo c = (G.1 w, pent G d w a') :: wseg G d m lo c
    rw [e0, hset]
  have hP1 : va_P (D9c G) vwCl ((wsE G d m [(w, a)] lo c).set 0 (G.1 w, .inr (ci, (pfvs G d w a cs).set j (rf G b)))) H1 := hP1
  rw [e1] at hP1
  exact kk H1 locs1 la hP1 (hz1.trans hz) hS1 hL
end RF
theorem entM_up {G : G9} {d : D9} {m k j k' : Nat} {v : Int} (h : k' ≠ k) : entM G (up d k j v) m k' = entM G d m k' := by
  unfold entM; split
  · rfl
  · exact ent_up h
theorem wseg_up {G : G9} {d : D9} {m lo c w j : Nat} {v : Int} (h : ∀ i, i < c → lo + i ≠ w) : wseg G (up d w j v) m lo c = wseg G d m lo c := by
  unfold wseg
  apply List.map_congr_left
  intro i hi
  rw [entM_up (h i (List.mem_range.mp hi))]
theorem wseg_at {G : G9} {d : D9} {m lo c i : Nat} (h : i < c) : (wseg G d m lo c)[i]? = some (G.1 (lo + i), entM G d m (lo + i)) := by
  unfold wseg; simp [h]
theorem wseg_len {G : G9} {d : D9} {m lo c : Nat} : (wseg G d m lo c).length = c := by unfold wseg; simp
theorem wseg_set {G : G9} {d : D9} {m lo c i j : Nat} {v : Int} {q : va_E} (hq : entM G (up d (lo + i) j v) m (lo + i) = q) : (wseg G d m lo c).set i (G.1 (lo + i), q) = wseg G (up d (lo + i) j v) m lo c := by
  apply List.ext_getElem?
  intro x
  rw [List.getElem?_set]
  by_cases hx : i = x
  · subst hx
    rw [if_pos rfl, wseg_len]
    by_cases hl : i < c
    · rw [if_pos hl, wseg_at hl, hq]
    · rw [if_neg hl, List.getElem?_eq_none (by rw [wseg_len]; omega)]
  · rw [if_neg hx]
    by_cases hl : x < c
    · rw [wseg_at hl, wseg_at hl, entM_up (by omega)]
    · rw [List.getElem?_eq_none (by rw [wseg_len]; omega), List.getElem?_eq_none (by rw [wseg_len]; omega)]
theorem wseg_cons {G : G9} {d : D9} {m w c : Nat} : wseg G d m w (c + 1) = (G.1 w, entM G d m w) :: wseg G d m (w + 1) c := by
  unfold wseg
  rw [List.range_succ_eq_map, List.map_cons, List.map_map]
  congr 1
  apply List.map_congr_left
  intro i _
  show (G.1 (w + (i + 1)), entM G d m (w + (i + 1))) = _
  rw [show w + (i + 1) = w + 1 + i by omega]
theorem wseg_app {G : G9} {d : D9} {m lo c c' : Nat} : wseg G d m lo (c + c') = wseg G d m lo c ++ wseg G d m (lo + c) c' := by
  unfold wseg
  rw [List.range_add, List.map_append, List.map_map]
  congr 1
  apply List.map_congr_left
  intro i _
  show (G.1 (lo + (c + i)), entM G d m (lo + (c + i))) = _
  rw [show lo + (c + i) = lo + c + i by omega]
theorem wseg_same {G : G9} {d d' : D9} {m lo c : Nat} (h : ∀ i, i < c → d' (lo + i) = d (lo + i)) : wseg G d' m lo c = wseg G d m lo c := by
  unfold wseg
  apply List.map_congr_left
  intro i hi
  have e := h i (List.mem_range.mp hi)
  have e2 : ∀ c j', fv G d' (lo + i) c j' = fv G d (lo + i) c j' := fun c j' => by simp [fv, e]
  have : ent G d' (lo + i) = ent G d (lo + i) := by simp [ent, e, fvs, e2]
  unfold entM
  rw [this]
theorem pent_same {G : G9} {d d' : D9} {w a : Nat} (h : d' w = d w) : pent G d' w a = pent G d w a := by
  have e2 : ∀ c j', pfv G d' w a c j' = pfv G d w a c j' := fun c j' => by simp [pfv, h]
  simp [pent, pfvs, e2]
def ME (G : G9) (l : Launch) (y : MethodName) (bytes : ByteArray) (maxL fr lw mc ms w size m : Nat) (d d' : D9) : Prop :=
  Met l y (.code y bytes maxL none :: WG) { frames := fr, cells := mc, slots := ms, locals := lw } (va_Pc [rf G w] (fun U => EC G U ∧ U.heap.size = G.1 (w + 1) ∧ va_P (D9c G) vwCl [(G.1 w, pent G d w 0)] U.heap))
    (fun _ st o t => o = .returned none ∧ t.heap.size = G.1 (w + size) ∧ va_P (D9c G) vwCl (wseg G d' m w size) t.heap ∧ va_F (fun q => G.1 w ≤ q) st t) mc ms (fun q => G.1 w ≤ q)
theorem me_of {G : G9} {l : Launch} {y : MethodName} {bytes : ByteArray} {maxL fr lw mc ms w size m B : Nat} {d d' : D9} {own : String} (hy : plainName y.cls = true) (ho : y.cls = own) (hl : 1 ≤ maxL) (hB : ∀ k, G.1 k = B + k)
    (body : ∀ X, xL X = l → xR X = { frames := fr, cells := mc, slots := ms, locals := lw } → CE G X bytes maxL own B → (xT X).name = y.name → (xT X).sig.returnType = none → SE G X (MQ (xB X) (fun _ st o t => o = .returned none ∧ t.heap.size = G.1 (w + size) ∧ va_P (D9c G) vwCl (wseg G d' m w size) t.heap ∧ va_F (fun q => G.1 w ≤ q) st t) (xA X) (xS X) mc ms (fun q => G.1 w ≤ q)) w maxL 0 0 0 [(0, rf G w)] [] d m [(w, 0)] (w + 1) 0) : ME G l y bytes maxL fr lw mc ms w size m d d' := by
  refine Met.ofW (cc := bytes) (maxL := maxL) (ret := none) hy rfl ?_
  intro p e s mm args below meth c s₁ Bd hml hv
  obtain ⟨rfl, hE, hz, hP⟩ := hv
  have hts := atoms_spec (ws := .code y bytes maxL none :: WG) Bd.pre
  have hown : s.vm.findClass own = some mm.cls := by rw [← ho]; exact findClass_of_methodNamed Bd.named
  have k := body (p, l, e, { frames := fr, cells := mc, slots := ms, locals := lw }, s, mm, ([rf G w] : List Value).toArray, below, meth, c, mc, ms, 0, fun _ _ => True) rfl rfl ⟨Bd.exec, Bd.bytes, hml, hown, fun q hq => hts q (List.mem_cons_of_mem _ hq), Bd.notSynchronized, hE, hB⟩ (name_of_methodNamed Bd.named Bd.method).1 Bd.returns s.heap [] _ hP hz va_S.rf (lv_entry [rf G w] (n := maxL) (by show 1 ≤ maxL; exact hl))
  rw [lg_entry_eq]
  exact k
section RG
variable {G : G9} {X : X9} {Q : State → Prop} {h0 nL k n pc : Nat} {ls : List (Nat × Value)} {st : List Value} {d : D9} {m : Nat} {pre : List (Nat × Nat)} {lo c : Nat} {cc : ByteArray} {own : String} {B : Nat}
theorem e_ret (C : CE G X cc nL own B) {w a size mc ms : Nat} (hd : decode cc pc = .ok (.return_, 1)) (hr : (xT X).sig.returnType = none) (hsz : size = c + 1) (hlo : lo = w + 1) (hp : pent G d w a = entM G d m w) (hk : k ≤ mc) (hn : n ≤ ms) : SE G X (MQ (xB X) (fun _ st o t => o = .returned none ∧ t.heap.size = G.1 (w + size) ∧ va_P (D9c G) vwCl (wseg G d m w size) t.heap ∧ va_F (fun q => G.1 w ≤ q) st t) (xA X) (xS X) mc ms (fun q => G.1 w ≤ q)) w nL k n pc ls [] d m [(w, a)] lo c := by
  intro H locs la hP hz hS hL
  subst hsz; subst hlo
  refine W.widen (k := mc) (n := ms) hk hn ?_
  refine W.vret C.1 C.2.1 hr (fun t ht hw => ⟨rfl, ?_, ?_, ?_⟩) (fun q hq => hS.2.2 q hq) hd C.2.2.2.2.2.1
  · rw [ht, hz, show w + 1 + c = w + (c + 1) by omega]
  · rw [ht, wseg_cons, ← hp]; exact hP
  · rw [va_F, ht]; exact ⟨hS.1, hS.2.1⟩
theorem e_putI (C : CE G X cc nL own B) {i w a j ci : Nat} {v : Int} {cs : List Nat} (hlo : lo = w + 1) (hw0 : h0 ≤ w) (hd : decode cc pc = .ok (.putfield i, 3)) (hf : FP own i ci j .int) (hlay : lay w = (0, ci)) (hcs : ftab ci = cs) (hlen : j < cs.length) (hset : pfvs G (up d w j v) w a cs = (pfvs G d w a cs).set j (i9 v))
    (kk : SE G X Q h0 nL k n (pc + 3) ls st (up d w j v) m [(w, a)] lo c) : SE G X Q h0 nL k n pc ls (i9 v :: rf G w :: st) d m [(w, a)] lo c := by
  intro H locs la hP hz hS hL
  have hB := C.2.2.2.2.2.2.2
  obtain ⟨Cn, T, N, ty0, h1, h2, h3, h4, h5, h6, h7, h8⟩ := hf
  have e0 : ∀ d a, pent G d w a = .inr (ci, pfvs G d w a cs) := fun d a => by unfold pent; rw [hlay, ← hcs]
  have hlen' : j < (pfvs G d w a cs).length := by simpa [pfvs] using hlen
  refine z_put C.1 C.2.1 (pay9 C) h2 ty0 h5 h6 C.2.2.2.1 C.2.2.2.2.2.2.1.1 hP (wsE_D hB (A := fun q => G.1 h0 ≤ q) (fun q hq => by have := hB h0; have := hB w; omega) hlo) hS 0 (by show some (G.1 w, pent G d w a) = _; rw [e0]) h1 j h3 (pay9 C _ h4) (fun x hx => hx) h7 h8 rfl rfl hlen' hd (fun H1 locs1 hP1 hz1 hS1 => ?_)
  have e1 : (wsE G d m [(w, a)] lo c).set 0 (G.1 w, .inr (ci, (pfvs G d w a cs).set j (i9 v))) = wsE G (up d w j v) m [(w, a)] lo c := by
    show (G.1 w, _) :: wseg G d m lo c = (G.1 w, pent G (up d w j v) w a) :: wseg G (up d w j v) m lo c
    rw [e0, hset, wseg_up (fun i _ => by omega)]
  have hP1 : va_P (D9c G) vwCl ((wsE G d m [(w, a)] lo c).set 0 (G.1 w, .inr (ci, (pfvs G d w a cs).set j (i9 v)))) H1 := hP1
  rw [e1] at hP1
  exact kk H1 locs1 la hP1 (hz1.trans hz) hS1 hL
theorem e_iast (C : CE G X cc nL own B) {w a i N : Nat} {j v : Int} (hlo : lo = w + 1) (hw0 : h0 ≤ w) (hi : i < c) (hd : decode cc pc = .ok (.iastore, 1)) (hlay : lay (lo + i) = (1, N)) (h38 : lo + i ≠ 38) (hj : 0 ≤ w32 j ∧ w32 j < N)
    (kk : SE G X Q h0 nL k n (pc + 1) ls st (up d (lo + i) (w32 j).toNat v) m [(w, a)] lo c) : SE G X Q h0 nL k n pc ls (i9 v :: i9 j :: rf G (lo + i) :: st) d m [(w, a)] lo c := by
  intro H locs la hP hz hS hL
  have hB := C.2.2.2.2.2.2.2
  have e0 : ∀ d, entM G d m (lo + i) = .inl (cA G 0, N, .inl (fun q => Int32.ofInt (d (lo + i) q))) := fun d => by unfold entM; rw [if_neg h38, ent_i hlay]
  refine z_iast C.1 C.2.1 C.2.2.2.2.2.2.1.1 hP (wsE_D hB (A := fun q => G.1 h0 ≤ q) (fun q hq => by have := hB h0; have := hB w; omega) hlo) hS (i + 1) 0 (by show (wseg G d m lo c)[i]? = _; rw [wseg_at hi, e0]) rfl (in9 hj) hd (fun H1 locs1 hP1 hz1 hS1 => ?_)
  rw [cn9, upd_of (k := lo + i) rfl] at hP1
  have e1 : (wsE G d m [(w, a)] lo c).set (i + 1) (G.1 (lo + i), .inl (cA G 0, N, .inl (fun q => Int32.ofInt (up d (lo + i) (w32 j).toNat v (lo + i) q)))) = wsE G (up d (lo + i) (w32 j).toNat v) m [(w, a)] lo c := by
    show (G.1 w, pent G d w a) :: (wseg G d m lo c).set i _ = (G.1 w, pent G (up d (lo + i) (w32 j).toNat v) w a) :: wseg G _ m lo c
    rw [wseg_set (e0 _), pent_same (up_k (by omega))]
  have hP1 : va_P (D9c G) vwCl ((wsE G d m [(w, a)] lo c).set (i + 1) (G.1 (lo + i), .inl (cA G 0, N, .inl (fun q => Int32.ofInt (up d (lo + i) (w32 j).toNat v (lo + i) q))))) H1 := hP1
  rw [e1] at hP1
  exact kk H1 locs1 la hP1 (hz1.trans hz) hS1 hL
theorem e_iald (C : CE G X cc nL own B) {w a i N : Nat} {j v : Int} (hi : i < c) (hd : decode cc pc = .ok (.iaload, 1)) (hlay : lay (lo + i) = (1, N)) (h38 : lo + i ≠ 38) (hj : 0 ≤ w32 j ∧ w32 j < N) (hv : d (lo + i) (w32 j).toNat = v)
    (kk : SE G X Q h0 nL k n (pc + 1) ls (i9 v :: st) d m [(w, a)] lo c) : SE G X Q h0 nL k n pc ls (i9 j :: rf G (lo + i) :: st) d m [(w, a)] lo c := by
  intro H locs la hP hz hS hL
  have e0 : entM G d m (lo + i) = .inl (cA G 0, N, .inl (fun q => Int32.ofInt (d (lo + i) q))) := by unfold entM; rw [if_neg h38, ent_i hlay]
  refine va_iald C.1 C.2.1 C.2.2.2.2.2.2.1.1 hP (i + 1) 0 (by show (wseg G d m lo c)[i]? = _; rw [wseg_at hi, e0]) rfl (in9 hj) hd ?_
  rw [cn9, hv]
  exact kk H locs la hP hz hS hL
theorem e_getR (C : CE G X cc nL own B) {w a i j ci b : Nat} {cs : List Nat} (hd : decode cc pc = .ok (.getfield i, 3)) (hf : FL own i ci j) (hlay : lay w = (0, ci)) (hcs : ftab ci = cs) (hv : (pfvs G d w a cs)[j]? = some (rf G b))
    (kk : SE G X Q h0 nL k n (pc + 3) ls (rf G b :: st) d m [(w, a)] lo c) : SE G X Q h0 nL k n pc ls (rf G w :: st) d m [(w, a)] lo c := by
  intro H locs la hP hz hS hL
  obtain ⟨Cn, T, N, h1, h2, h3, h4⟩ := hf
  have e0 : pent G d w a = .inr (ci, pfvs G d w a cs) := by unfold pent; rw [hlay, ← hcs]
  exact va_get C.1 C.2.1 (pay9 C) h2 C.2.2.2.1 C.2.2.2.2.2.2.1.1 hP 0 (by show some (G.1 w, pent G d w a) = _; rw [e0]) h1 j h3 (pay9 C _ h4) (fun _ h => h) hv hd (kk H locs la hP hz hS hL)
end RG
theorem blindE {G : G9} {w : Nat} {d : D9} : FrameBlind (va_Pc [rf G w] (fun U => EC G U ∧ U.heap.size = G.1 (w + 1) ∧ va_P (D9c G) vwCl [(G.1 w, pent G d w 0)] U.heap)) := fun a U g mk h => ⟨h.1, ⟨va_K.moved (u := U) (U := U.calling g mk a) (Vm.Alike.refl U.vm) h.2.1.1, fun q hq => va_Nw.same rfl rfl (h.2.1.2.1 q hq), va_AO.moved (u := U) (U := U.calling g mk a) (Vm.Alike.refl U.vm) h.2.1.2.2⟩, h.2.2⟩
/-- a class that is made: what 'new' asks -/
def NW (own : String) (i ci N : Nat) : Prop := ∃ (C : String) (T : u_T) (ty : Nat → FieldType), vwCl[ci]? = some (C, T, N) ∧ (∀ w ∈ u_ws C T N, w ∈ WG) ∧ (∀ k, k < N → parseFieldDescriptor (T k).2.2.1 = some (ty k)) ∧ Cond.classLink own i C ∈ WG ∧ Cond.instantiable C N ∈ WG ∧ Cond.initialized C ∈ WG ∧ (∀ j, j < N → (ftab ci)[j]? = some (if ty j = .int then 0 else if ty j = .long then 1 else 2) ∧ defaultValue (ty j) = (if ty j = .int then .int 0 else if ty j = .long then .long 0 else .null)) ∧ (ftab ci).length = N
theorem pfvs_at {G : G9} {d : D9} {w a j c : Nat} {cs : List Nat} (h : cs[j]? = some c) : (pfvs G d w a cs)[j]? = some (pfv G d w a c j) := by
  simp [pfvs, List.getElem?_map, List.getElem?_zipIdx, h]
section RH
variable {G : G9} {X : X9} {Q : State → Prop} {h0 nL k n pc : Nat} {ls : List (Nat × Value)} {st : List Value} {d : D9} {m : Nat} {pre : List (Nat × Nat)} {lo c : Nat} {cc : ByteArray} {own : String} {B : Nat}
theorem e_sub0 (C : CE G X cc nL own B) {i ci N fr lw mc ms size maxL : Nat} {y : MethodName} {bytes : ByteArray} {d' : D9} (hM : ME G (xL X) y bytes maxL fr lw mc ms (lo + c) size m d d') (d0 : decode cc pc = .ok (.new i, 3)) (d3 : decode cc (pc + 3) = .ok (.dup, 1)) (hw : NW own i ci N) (hlay : lay (lo + c) = (0, ci)) (hz0 : ∀ j, d (lo + c) j = 0) (hsame : ∀ k, k < lo + c → d' k = d k) (hpre : ∀ q ∈ pre, q.1 < lo + c) (hh0 : h0 ≤ lo + c) (hR : k + 1 ≤ (xR X).cells ∧ n + N ≤ (xR X).slots)
    (hrun : ∀ (H1 : Heap) (locs : List Loc) (la : Array Slot), lv_has la nL ls → PreS (xS X) H1 (va_Pc [rf G (lo + c)] (fun U => EC G U ∧ U.heap.size = G.1 (lo + c + 1) ∧ va_P (D9c G) vwCl [(G.1 (lo + c), pent G d (lo + c) 0)] U.heap)) [rf G (lo + c)] → va_Run (xP X) (xL X) (xE X) (xR X) (xS X) (xM X) (xA X) (xB X) (xT X) (xC X) H1 locs (k + 1) (n + N) mc ms (F0 (xM X) (pc + 4) la (rf G (lo + c) :: rf G (lo + c) :: st)) (rf G (lo + c) :: st) (fun st o t => o = .returned none ∧ t.heap.size = G.1 (lo + c + size) ∧ va_P (D9c G) vwCl (wseg G d' m (lo + c) size) t.heap ∧ va_F (fun q => G.1 (lo + c) ≤ q) st t) (fun q => G.1 (lo + c) ≤ q))
    (kk : SE G X Q h0 nL (k + 1 + mc) (n + N + ms) (pc + 7) ls (rf G (lo + c) :: st) d' m pre lo (c + size)) : SE G X Q h0 nL k n pc ls st d m pre lo c := by
  intro H locs la hP hz hS hL
  have hB := C.2.2.2.2.2.2.2
  obtain ⟨Cn, T, ty, w1, w2, w3, w4, w5, w6, w7, w8⟩ := hw
  have hKn := C.2.2.2.2.2.2.1.1.1 ci _ w1
  refine W.newcK C.1 C.2.1 C.2.2.2.1 (pay9 C _ w4) (pay9 C _ w5) (pay9 C _ w6) rfl d0 hR.1 hR.2 hKn.2.1 hz (fun H1 kC hkC e1 z1 o1 => ?_)
  have hat : va_at (D9c G) vwCl (G.1 (lo + c), pent G d (lo + c) 0) H1 := by
    unfold pent
    rw [hlay]
    refine ⟨_, w1, (u_born ty (pay9 C) w2 hKn hkC e1 w3).to (fun j hj => ?_)⟩
    obtain ⟨v1, v2⟩ := w7 j hj
    rw [v2]
    show _ = (pfvs G d (lo + c) 0 (ftab ci)).getD j .null
    rw [List.getD_eq_getElem?_getD, pfvs_at v1]
    unfold pfv
    by_cases q1 : ty j = .int
    · simp [q1, hz0, i9]
    · by_cases q2 : ty j = .long
      · simp [q2, hz0, l9]
      · simp [q1, q2]
  refine lv_dup C.1 C.2.1 d3 rfl ?_
  have hs1 : H1.size = G.1 (lo + c + 1) := by rw [z1, hB, hB]; omega
  intro T0 hT0 Y0
  obtain ⟨v, st₀, t, T', L, g0, X', hL2, ge1, ge2, ⟨go, gz, gP, gF⟩, gst⟩ := hrun H1 locs la hL ⟨blindE, fun U hU hW => ⟨rfl, C.2.2.2.2.2.2.1.go hW, by rw [hU]; exact hs1, by rw [hU]; exact vaP_one hat⟩⟩ T0 hT0 Y0
  cases go
  have keep : ∀ q, q < G.1 (lo + c) → T'.heap[q]? = H[q]? := fun q hq => by
    rw [ge1, gF.2 q (by rw [g0, hs1]; have := hB (lo + c); have := hB (lo + c + 1); omega) (by omega), g0]
    exact o1 q hq
  have old : va_P (D9c G) vwCl (wsE G d' m pre lo c) T'.heap := by
    have e : wsE G d' m pre lo c = wsE G d m pre lo c := by
      unfold wsE
      rw [wseg_same (fun i hi => hsame _ (by omega))]
      congr 1
      apply List.map_congr_left
      intro q hq
      rw [pent_same (hsame _ (hpre q hq))]
    rw [e]
    exact hP.kept (fun k x hx => keep x.1 (by rw [← hz]; exact (hP k x hx).lt))
  obtain ⟨t2, a1, b1⟩ := kk T'.heap (locs ++ L) la (by
      unfold wsE
      rw [wseg_app, ← List.append_assoc]
      exact old.app (by rw [ge1]; exact gP)) (by rw [ge1, gz, show lo + c + size = lo + (c + size) by omega]) ⟨by
      have := hS.1; rw [ge1, gz, hB]; have := hB (lo + c); omega, fun q q1 q2 => by
      rw [keep q (by have := hB h0; have := hB (lo + c); omega)]
      exact hS.2.1 q q1 q2, fun l hl => (List.mem_append.mp hl).elim (hS.2.2 l) (fun h => by have := hL2 l h; have := hB h0; have := hB (lo + c); omega)⟩ hL T' rfl X'
  exact ⟨t2, gst t2 a1, b1⟩
theorem e_subN (C : CE G X cc nL own B) {i i2 ci N fr lw mc ms size maxL : Nat} {y : MethodName} {bytes : ByteArray} {d' : D9} (hM : ME G (xL X) y bytes maxL fr lw mc ms (lo + c) size m d d') (d0 : decode cc pc = .ok (.new i, 3)) (d3 : decode cc (pc + 3) = .ok (.dup, 1)) (d4 : decode cc (pc + 4) = .ok (.invokespecial i2, 3)) (hw : NW own i ci N) (hlay : lay (lo + c) = (0, ci)) (hz0 : ∀ j, d (lo + c) j = 0) (hsame : ∀ k, k < lo + c → d' k = d k) (hpre : ∀ q ∈ pre, q.1 < lo + c) (hh0 : h0 ≤ lo + c) (hR : k + 1 ≤ (xR X).cells ∧ n + N ≤ (xR X).slots)
    (hy : (own, i2, y) ∈ nestC ∧ Cond.code y bytes maxL none ∈ WG ∧ Cond.initialized y.cls ∈ WG ∧ Cond.instanceMethod y ∈ WG) (hy2 : y.name = "<init>" ∧ y.cls ≠ "java/lang/invoke/MethodHandle" ∧ y.cls ≠ "java/lang/invoke/VarHandle" ∧ (parseMethodDescriptor y.desc).map (fun d => d.parameters.length) = some 0) (hrm : fr + 1 ≤ (xR X).frames ∧ 8 + (maxL + 11) + lw ≤ (xR X).locals ∧ k + 1 + mc ≤ (xR X).cells ∧ n + N + ms ≤ (xR X).slots) (hst : ((rf G (lo + c) :: st).map fun v => v.category).sum ≤ 8)
    (kk : SE G X Q h0 nL (k + 1 + mc) (n + N + ms) (pc + 7) ls (rf G (lo + c) :: st) d' m pre lo (c + size)) : SE G X Q h0 nL k n pc ls st d m pre lo c := by
  refine e_sub0 C hM d0 d3 hw hlay hz0 hsame hpre hh0 hR (fun H1 locs la hL hp => ?_) kk
  exact va_runIN (As := []) (rest := rf G (lo + c) :: st) (b := G.1 (lo + c)) ⟨C.1, C.2.1, C.2.2.1, C.2.2.2.1, pay9 C⟩ hM ⟨va_cnB (host := RX11) 0 (pay9 C) (good_ws hy.2.1) rfl rfl rfl (C.2.2.2.2.2.2.1.2.1 _ hy.1) (pay9 C _ hy.2.2.1) hy2.2 ⟨hrm.1, hrm.2.1⟩, hy2.1, pay9 C _ hy.2.2.2⟩ hp rfl rfl hL.1 rfl (lv_room hst) d4 hrm.2.2
theorem e_subP (C : CE G X cc nL own B) {i i2 ci N fr lw mc ms size maxL : Nat} {y : MethodName} {bytes : ByteArray} {d' : D9} (hM : ME G (xL X) y bytes maxL fr lw mc ms (lo + c) size m d d') (d0 : decode cc pc = .ok (.new i, 3)) (d3 : decode cc (pc + 3) = .ok (.dup, 1)) (d4 : decode cc (pc + 4) = .ok (.invokespecial i2, 3)) (hw : NW own i ci N) (hlay : lay (lo + c) = (0, ci)) (hz0 : ∀ j, d (lo + c) j = 0) (hsame : ∀ k, k < lo + c → d' k = d k) (hpre : ∀ q ∈ pre, q.1 < lo + c) (hh0 : h0 ≤ lo + c) (hR : k + 1 ≤ (xR X).cells ∧ n + N ≤ (xR X).slots)
    (hy : Cond.methodLink own i2 y ∈ WG ∧ Cond.code y bytes maxL none ∈ WG ∧ Cond.initialized y.cls ∈ WG ∧ Cond.instanceMethod y ∈ WG) (hy2 : y.name = "<init>" ∧ y.cls ≠ "java/lang/invoke/MethodHandle" ∧ y.cls ≠ "java/lang/invoke/VarHandle" ∧ (parseMethodDescriptor y.desc).map (fun d => d.parameters.length) = some 0) (hrm : fr + 1 ≤ (xR X).frames ∧ 8 + (maxL + 11) + lw ≤ (xR X).locals ∧ k + 1 + mc ≤ (xR X).cells ∧ n + N + ms ≤ (xR X).slots) (hst : ((rf G (lo + c) :: st).map fun v => v.category).sum ≤ 8)
    (kk : SE G X Q h0 nL (k + 1 + mc) (n + N + ms) (pc + 7) ls (rf G (lo + c) :: st) d' m pre lo (c + size)) : SE G X Q h0 nL k n pc ls st d m pre lo c := by
  refine e_sub0 C hM d0 d3 hw hlay hz0 hsame hpre hh0 hR (fun H1 locs la hL hp => ?_) kk
  exact va_runI (As := []) (rest := rf G (lo + c) :: st) (b := G.1 (lo + c)) ⟨C.1, C.2.1, C.2.2.1, C.2.2.2.1, pay9 C⟩ hM ⟨callB_of 0 (pay9 C) (good_ws hy.2.1) rfl rfl rfl (pay9 C _ hy.2.2.1) (pay9 C _ hy.1) hy2.2 ⟨hrm.1, hrm.2.1⟩, hy2.1, pay9 C _ hy.2.2.2⟩ hp rfl rfl hL.1 rfl (lv_room hst) d4 hrm.2.2
end RH
/-- a void method of an object that is being made -/
def MV (G : G9) (l : Launch) (y : MethodName) (bytes : ByteArray) (maxL fr lw w a c m : Nat) (d d' : D9) : Prop :=
  Met l y (.code y bytes maxL none :: WG) { frames := fr, cells := 0, slots := 0, locals := lw } (va_Pc [rf G w] (fun U => EC G U ∧ U.heap.size = G.1 (w + 1 + c) ∧ va_P (D9c G) vwCl (wsE G d m [(w, a)] (w + 1) c) U.heap))
    (fun _ st o t => o = .returned none ∧ t.heap.size = G.1 (w + 1 + c) ∧ va_P (D9c G) vwCl (wsE G d' m [(w, a)] (w + 1) c) t.heap ∧ va_F (fun q => G.1 w ≤ q) st t) 0 0 (fun q => G.1 w ≤ q)
theorem mv_of {G : G9} {l : Launch} {y : MethodName} {bytes : ByteArray} {maxL fr lw w a c m B : Nat} {d d' : D9} {own : String} (hy : plainName y.cls = true) (ho : y.cls = own) (hl : 1 ≤ maxL) (hB : ∀ k, G.1 k = B + k)
    (body : ∀ X, xL X = l → xR X = { frames := fr, cells := 0, slots := 0, locals := lw } → CE G X bytes maxL own B → (xT X).sig.returnType = none → SE G X (MQ (xB X) (fun _ st o t => o = .returned none ∧ t.heap.size = G.1 (w + 1 + c) ∧ va_P (D9c G) vwCl (wsE G d' m [(w, a)] (w + 1) c) t.heap ∧ va_F (fun q => G.1 w ≤ q) st t) (xA X) (xS X) 0 0 (fun q => G.1 w ≤ q)) w maxL 0 0 0 [(0, rf G w)] [] d m [(w, a)] (w + 1) c) : MV G l y bytes maxL fr lw w a c m d d' := by
  refine Met.ofW (cc := bytes) (maxL := maxL) (ret := none) hy rfl ?_
  intro p e s mm args below meth cd s₁ Bd hml hv
  obtain ⟨rfl, hE, hz, hP⟩ := hv
  have hts := atoms_spec (ws := .code y bytes maxL none :: WG) Bd.pre
  have hown : s.vm.findClass own = some mm.cls := by rw [← ho]; exact findClass_of_methodNamed Bd.named
  have k := body (p, l, e, { frames := fr, cells := 0, slots := 0, locals := lw }, s, mm, ([rf G w] : List Value).toArray, below, meth, cd, 0, 0, 0, fun _ _ => True) rfl rfl ⟨Bd.exec, Bd.bytes, hml, hown, fun q hq => hts q (List.mem_cons_of_mem _ hq), Bd.notSynchronized, hE, hB⟩ Bd.returns s.heap [] _ hP hz va_S.rf (lv_entry [rf G w] (n := maxL) (by show 1 ≤ maxL; exact hl))
  rw [lg_entry_eq]
  exact k
section RI
variable {G : G9} {X : X9} {Q : State → Prop} {h0 nL k n pc : Nat} {ls : List (Nat × Value)} {st : List Value} {d : D9} {m : Nat} {pre : List (Nat × Nat)} {lo c : Nat} {cc : ByteArray} {own : String} {B : Nat}
theorem e_vret (C : CE G X cc nL own B) {w a : Nat} (hd : decode cc pc = .ok (.return_, 1)) (hr : (xT X).sig.returnType = none) (hlo : lo = w + 1) : SE G X (MQ (xB X) (fun _ st o t => o = .returned none ∧ t.heap.size = G.1 (w + 1 + c) ∧ va_P (D9c G) vwCl (wsE G d m [(w, a)] (w + 1) c) t.heap ∧ va_F (fun q => G.1 w ≤ q) st t) (xA X) (xS X) 0 0 (fun q => G.1 w ≤ q)) w nL 0 0 pc ls [] d m [(w, a)] lo c := by
  intro H locs la hP hz hS hL
  subst hlo
  refine W.vret C.1 C.2.1 hr (fun t ht hw => ⟨rfl, ?_, ?_, ?_⟩) (fun q hq => hS.2.2 q hq) hd C.2.2.2.2.2.1
  · rw [ht, hz]
  · rw [ht]; exact hP
  · rw [va_F, ht]; exact ⟨hS.1, hS.2.1⟩
theorem e_callV (C : CE G X cc nL own B) {i w a ci fr lw maxL : Nat} {y : MethodName} {bytes : ByteArray} {d' : D9} (hlo : lo = w + 1) (hw0 : h0 ≤ w) (hM : MV G (xL X) y bytes maxL fr lw w a c m d d') (hd : decode cc pc = .ok (.invokevirtual i, 3)) (hw : MW own i y bytes maxL none 0) (hw2 : Cond.instanceMethod y ∈ WG ∧ Cond.selects y.cls y y ∈ WG) (hlay : lay w = (0, ci)) (hc : (vwCl[ci]?).map (fun q => q.1) = some y.cls) (hR : fr + 1 ≤ (xR X).frames ∧ 8 + (maxL + 11) + lw ≤ (xR X).locals ∧ k ≤ (xR X).cells ∧ n ≤ (xR X).slots) (hst : (st.map fun v => v.category).sum ≤ 8)
    (kk : SE G X Q h0 nL k n (pc + 3) ls st d' m [(w, a)] lo c) : SE G X Q h0 nL k n pc ls (rf G w :: st) d m [(w, a)] lo c := by
  intro H locs la hP hz hS hL
  have hB := C.2.2.2.2.2.2.2
  subst hlo
  obtain ⟨q, hq1, hq2⟩ := Option.map_eq_some_iff.mp hc
  obtain ⟨m1, m2, m3, m4, m5, m6⟩ := hw
  have run := va_runV (l := xL X) (R := xR X) (e := xE X) (below := xB X) (meth := xT X) (H := H) (locs := locs) (cells := k) (slots := n) (g := F0 (xM X) pc la (rf G w :: st)) (As := []) (b := G.1 w) (rest := st) (C := y.cls) ⟨C.1, C.2.1, C.2.2.1, C.2.2.2.1, pay9 C⟩ hM ⟨callB_of 0 (pay9 C) (good_ws m2) rfl rfl rfl (pay9 C _ m3) (pay9 C _ m1) ⟨m4, m5, m6⟩ ⟨hR.1, hR.2.1⟩, pay9 C _ hw2.1, pay9 C _ hw2.2⟩ ⟨fun a U g mk h => ⟨h.1, ⟨va_K.moved (u := U) (U := U.calling g mk a) (Vm.Alike.refl U.vm) h.2.1.1, fun q hq => va_Nw.same rfl rfl (h.2.1.2.1 q hq), va_AO.moved (u := U) (U := U.calling g mk a) (Vm.Alike.refl U.vm) h.2.1.2.2⟩, h.2.2⟩, by
      rw [← hq2]
      exact va_recv C.2.2.2.2.2.2.1.1 hP (q0 := 0) (ci := ci) hq1 (by show some (G.1 w, pent G d w a) = _; unfold pent; rw [hlay]), fun U hU hW => ⟨rfl, C.2.2.2.2.2.2.1.go hW, by rw [hU]; exact hz, by rw [hU]; exact hP⟩⟩ rfl rfl hL.1 rfl (lv_room hst) hd ⟨hR.2.2.1, hR.2.2.2⟩
  intro T0 hT0 Y0
  obtain ⟨v, st₀, t, T', L, g0, X', hL2, ge1, ge2, ⟨go, gz, gP, gF⟩, gst⟩ := run T0 hT0 Y0
  cases go
  obtain ⟨t2, a1, b1⟩ := kk T'.heap (locs ++ L) la (by rw [ge1]; exact gP) (by rw [ge1]; exact gz) ⟨by
      have := hS.1; have := gF.1; rw [ge1]; rw [g0] at this; omega, fun q q1 q2 => by
      rw [ge1, gF.2 q (by rw [g0]; have := hS.1; omega) (by have := hB h0; have := hB w; omega), g0]
      exact hS.2.1 q q1 q2, fun l hl => (List.mem_append.mp hl).elim (hS.2.2 l) (fun h => by have := hL2 l h; have := hB h0; have := hB w; omega)⟩ hL T' rfl X'
  exact ⟨t2, gst t2 a1, b1⟩
theorem e_newI (C : CE G X cc nL own B) {N : Nat} {v : Int} (hd : decode cc pc = .ok (.newarray .int, 2)) (harr : Cond.arrayClass .int ∈ WG) (hlay : lay (lo + c) = (1, N)) (h38 : lo + c ≠ 38) (hz0 : ∀ j, d (lo + c) j = 0) (hv : ¬ Int32.ofInt v < 0 ∧ (Int32.ofInt v).toNatClampNeg = N) (hbytes : N * 4 ≤ 536870912) (hR : k + 1 ≤ (xR X).cells ∧ n + N ≤ (xR X).slots) (hlo : h0 ≤ lo + c) (kk : SE G X Q h0 nL (k + 1) (n + N) (pc + 2) ls (rf G (lo + c) :: st) d m pre lo (c + 1)) : SE G X Q h0 nL k n pc ls (i9 v :: st) d m pre lo c :=
  e_newaG C (t0 := 0) (a0 := (N, .inl (fun j => Int32.ofInt (d (lo + c) j)))) hd harr rfl rfl (fun _ _ h => h) (by unfold entM; rw [if_neg h38, ent_i hlay]) (by
    rw [vp_cell_i]; congr 1; funext j; rw [hz0]; rfl) hv hbytes hR hlo kk
theorem e_newJ (C : CE G X cc nL own B) {N : Nat} {v : Int} (hd : decode cc pc = .ok (.newarray .long, 2)) (harr : Cond.arrayClass .long ∈ WG) (hlay : lay (lo + c) = (2, N)) (h38 : lo + c ≠ 38) (hz0 : ∀ j, d (lo + c) j = 0) (hv : ¬ Int32.ofInt v < 0 ∧ (Int32.ofInt v).toNatClampNeg = N) (hbytes : N * 8 ≤ 536870912) (hR : k + 1 ≤ (xR X).cells ∧ n + N ≤ (xR X).slots) (hlo : h0 ≤ lo + c) (kk : SE G X Q h0 nL (k + 1) (n + N) (pc + 2) ls (rf G (lo + c) :: st) d m pre lo (c + 1)) : SE G X Q h0 nL k n pc ls (i9 v :: st) d m pre lo c :=
  e_newaG C (t0 := 1) (a0 := (N, .inr (.inl (fun j => Int64.ofInt (d (lo + c) j))))) hd harr rfl rfl (fun _ _ h => h) (by unfold entM; rw [if_neg h38, ent_l hlay]) (by
    rw [vp_cell_l]; congr 1; funext j; rw [hz0]; rfl) hv hbytes hR hlo kk
theorem e_newC (C : CE G X cc nL own B) {N : Nat} {v : Int} (hd : decode cc pc = .ok (.newarray .char, 2)) (harr : Cond.arrayClass .char ∈ WG) (hlay : lay (lo + c) = (3, N)) (h38 : lo + c ≠ 38) (hz0 : ∀ j, d (lo + c) j = 0) (hv : ¬ Int32.ofInt v < 0 ∧ (Int32.ofInt v).toNatClampNeg = N) (hbytes : N * 2 ≤ 536870912) (hR : k + 1 ≤ (xR X).cells ∧ n + N ≤ (xR X).slots) (hlo : h0 ≤ lo + c) (kk : SE G X Q h0 nL (k + 1) (n + N) (pc + 2) ls (rf G (lo + c) :: st) d m pre lo (c + 1)) : SE G X Q h0 nL k n pc ls (i9 v :: st) d m pre lo c :=
  e_newaG C (t0 := 2) (a0 := (N, .inl (fun j => Int32.ofInt (d (lo + c) j)))) hd harr rfl rfl (fun _ _ h => h) (by unfold entM; rw [if_neg h38, ent_c hlay]) (by
    rw [vp_cell_i]; congr 1; funext j; rw [hz0]; rfl) hv hbytes hR hlo kk
theorem e_newZ (C : CE G X cc nL own B) {N : Nat} {v : Int} (hd : decode cc pc = .ok (.newarray .boolean, 2)) (harr : Cond.arrayClass .boolean ∈ WG) (hlay : lay (lo + c) = (4, N)) (h38 : lo + c ≠ 38) (hz0 : ∀ j, d (lo + c) j = 0) (hv : ¬ Int32.ofInt v < 0 ∧ (Int32.ofInt v).toNatClampNeg = N) (hbytes : N * 1 ≤ 536870912) (hR : k + 1 ≤ (xR X).cells ∧ n + N ≤ (xR X).slots) (hlo : h0 ≤ lo + c) (kk : SE G X Q h0 nL (k + 1) (n + N) (pc + 2) ls (rf G (lo + c) :: st) d m pre lo (c + 1)) : SE G X Q h0 nL k n pc ls (i9 v :: st) d m pre lo c :=
  e_newaG C (t0 := 3) (a0 := (N, .inl (fun j => Int32.ofInt (d (lo + c) j)))) hd harr rfl rfl (fun _ _ h => h) (by unfold entM; rw [if_neg h38, ent_z hlay]) (by
    rw [vp_cell_i]; congr 1; funext j; rw [hz0]; rfl) hv hbytes hR hlo kk
end RI
abbrev zr : Nat → Int := fun _ => 0
theorem e_m0 {G : G9} {X : X9} {Q : State → Prop} {h0 nL k n pc : Nat} {ls : List (Nat × Value)} {st : List Value} {d : D9} {m m' : Nat} {pre : List (Nat × Nat)} {lo : Nat} (kk : SE G X Q h0 nL k n pc ls st d m' pre lo 0) : SE G X Q h0 nL k n pc ls st d m pre lo 0 := fun H locs la hP => kk H locs la hP
theorem wseg_m {G : G9} {d : D9} {m m' lo c : Nat} (h : ∀ i, i < c → lo + i ≠ 38) : wseg G d m lo c = wseg G d m' lo c := by
  unfold wseg
  apply List.map_congr_left
  intro i hi
  unfold entM
  rw [if_neg (h i (List.mem_range.mp hi)), if_neg (h i (List.mem_range.mp hi))]
section RJ
variable {G : G9} {X : X9} {Q : State → Prop} {h0 nL k n pc : Nat} {ls : List (Nat × Value)} {st : List Value} {d : D9} {m : Nat} {pre : List (Nat × Nat)} {lo c : Nat} {cc : ByteArray} {own : String} {B : Nat}
theorem e_anew (C : CE G X cc nL own B) {i : Nat} (hd : decode cc pc = .ok (.anewarray i, 3)) (hcl : Cond.classLink own i "RedHands$Wall" ∈ WG) (h38 : lo + c = 38) (hR : k + 1 ≤ (xR X).cells ∧ n + 3 ≤ (xR X).slots) (hlo : h0 ≤ lo + c) (kk : SE G X Q h0 nL (k + 1) (n + 3) (pc + 3) ls (rf G (lo + c) :: st) d 0 pre lo (c + 1)) : SE G X Q h0 nL k n pc ls (i9 3 :: st) d 0 pre lo c := by
  intro H locs la hP hz hS hL
  have hB := C.2.2.2.2.2.2.2
  have e3 : (Int32.ofInt 3).toNatClampNeg = 3 := by decide
  refine W.anew C.1 C.2.1 C.2.2.2.1 (pay9 C _ hcl) (va_AO.use C.2.2.2.2.2.2.1.2.2) rfl hd rfl (by decide) (by decide) hR.1 (by rw [e3]; exact hR.2) (fun cA' kA comp f1 f2 f3 f4 => ?_)
  have hc : cA' = cA G 4 := by
    obtain ⟨_, _, _, _, _, g⟩ := (C.2.2.2.2.2.2.1.1.2 4 (cA G 4, .object "RedHands$Wall") rfl).2
    exact Option.some.inj (f1.symm.trans g)
  subst hc
  rw [e3]
  generalize hH1 : H.push ({ cls := cA G 4, slots := Array.replicate 3 .null, vm := .none } : Cell) = H1
  have z1 : H1.size = H.size + 1 := by rw [← hH1, Array.size_push]
  have e1 : H1[H.size]? = some (arrV (cA G 4) 3 (fun _ => .null)) := by rw [← hH1, Array.getElem?_push_size, ← arrV_new]
  have o1 : ∀ q : Nat, q < H.size → H1[q]? = H[q]? := fun q hq => by rw [← hH1, Array.getElem?_push, if_neg (Nat.ne_of_lt hq)]
  have k1 := kk H1 locs la (by
    rw [wsE_succ]
    refine (hP.kept (fun k x hx => o1 x.1 ((hP k x hx).lt))).app (vaP_one ?_)
    rw [h38]
    show H1[G.1 38]? = some (vp_cell (cA G 4) _)
    rw [vp_cell_q, ← h38, ← hz]
    exact e1) (by rw [z1, hz, hB, hB]; omega) ⟨by rw [z1]; have := hS.1; omega, fun q q1 q2 => by
    rw [o1 q (Nat.lt_of_lt_of_le q1 hS.1)]
    exact hS.2.1 q q1 q2, hS.2.2⟩ hL
  have e4 : rf G (lo + c) = .ref H.size := by rw [hz]; rfl
  rw [e4] at k1
  exact k1
theorem e_aast (C : CE G X cc nL own B) {w a i i' : Nat} {vs : List Value} (hlo : lo = w + 1) (hw0 : h0 ≤ w) (h38 : lo + i = 38) (hi : i < c) (hi' : i' < c) (hne : lo + i' ≠ 38) (hm : m < 3) (hd : decode cc pc = .ok (.aastore, 1)) (hr : lr 38 m = lo + i') (hv : ∀ d, ∃ vs, ent G d (lo + i') = .inr (10, vs))
    (kk : SE G X Q h0 nL k n (pc + 1) ls st d (m + 1) [(w, a)] lo c) : SE G X Q h0 nL k n pc ls (rf G (lo + i') :: i9 (m : Int) :: rf G 38 :: st) d m [(w, a)] lo c := by
  intro H locs la hP hz hS hL
  have hB := C.2.2.2.2.2.2.2
  obtain ⟨vs, hv⟩ := hv d
  have em : (Int32.ofInt (m : Int)).toNatClampNeg = m := by
    have : m = 0 ∨ m = 1 ∨ m = 2 := by omega
    rcases this with h | h | h <;> subst h <;> decide
  have hin : vp_in (Int32.ofInt (m : Int)) 3 := by
    have : m = 0 ∨ m = 1 ∨ m = 2 := by omega
    rcases this with h | h | h <;> subst h <;> (unfold vp_in; decide)
  have e0 : ∀ m, entM G d m (lo + i) = .inl (cA G 4, 3, .inr (.inr (.inr (.inr (fun j => if j < m then some (G.1 (lr 38 j)) else none))))) := fun m => by unfold entM; rw [if_pos h38]
  refine z_astq C.1 C.2.1 C.2.2.2.2.2.2.1.1 hP (wsE_D hB (A := fun q => G.1 h0 ≤ q) (fun q hq => by have := hB h0; have := hB w; omega) hlo) hS (i + 1) 4 (i' + 1) 10 (r := (RX10, TX10, 6)) (vs := vs) (by show (wseg G d m lo c)[i]? = _; rw [wseg_at hi, e0, h38]) rfl (by
    show (wseg G d m lo c)[i']? = _
    rw [wseg_at hi']
    unfold entM
    rw [if_neg hne, hv]) rfl hin hd (fun H1 locs1 hP1 hz1 hS1 => ?_)
  refine kk H1 locs1 la ?_ (hz1.trans hz) hS1 hL
  have e1 : (wsE G d m [(w, a)] lo c).set (i + 1) (G.1 38, .inl (cA G 4, 3, .inr (.inr (.inr (.inr (va_up (fun j => if j < m then some (G.1 (lr 38 j)) else none) (Int32.ofInt (m : Int)).toNatClampNeg (some (G.1 (lo + i'))))))))) = wsE G d (m + 1) [(w, a)] lo c := by
    show (G.1 w, pent G d w a) :: (wseg G d m lo c).set i _ = (G.1 w, pent G d w a) :: wseg G d (m + 1) lo c
    congr 1
    apply List.ext_getElem?
    intro x
    rw [List.getElem?_set]
    by_cases hx : i = x
    · subst hx
      rw [if_pos rfl, wseg_len, if_pos hi, wseg_at hi, e0, h38, em, ← hr]
      congr 9
      funext j
      unfold va_up
      by_cases q1 : j = m
      · subst q1; simp
      · by_cases q2 : j < m
        · simp [q1, q2, Nat.lt_succ_of_lt q2]
        · simp [q1, q2]; omega
    · rw [if_neg hx]
      by_cases hl : x < c
      · rw [wseg_at hl, wseg_at hl]
        unfold entM
        rw [if_neg (by omega), if_neg (by omega)]
      · rw [List.getElem?_eq_none (by rw [wseg_len]; omega), List.getElem?_eq_none (by rw [wseg_len]; omega)]
  rw [e1] at hP1
  exact hP1
end RJ

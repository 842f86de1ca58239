def tc9 (f : Option R9) (K : Int → D9 → Option R9) (Hh : Nat → D9 → Option R9) : Option R9 := match f with
  | some (.inl v, d) => K v d
  | some (.inr e, d) => Hh e d
  | none => none
def cz (f : Option R9) (K : Int → D9 → Option R9) : Option R9 := match f with
  | some (.inl v, d) => K v d
  | _ => none
/-- none of these four classes takes another one's objects -/
def NC9 (U : State) : Prop := ∀ a b, a < 4 → b < 4 → a ≠ b → va_Nc (ex9 a) (ex9 b) U
def MH (G : G9) (l : Launch) (y : MethodName) (bytes : ByteArray) (maxL : Nat) (hh : List (Nat × Nat × Nat × Nat)) (z : Z9) (av : List Value) (d : D9) (x : Option R9) : Prop := ∀ r, x = some r →
  vx_Met l y (.codeWith y bytes maxL z.1 hh :: WG) { frames := z.2.2.2.2.1, cells := z.2.2.1, slots := z.2.2.2.1, locals := z.2.2.2.2.2 } (va_Pc av (fun U => (EV G U U.heap ∧ NC9 U) ∧ HO G d U.heap)) (Qc9 G z.2.1 r) (Xc9 G r) z.2.2.1 z.2.2.2.1 (A9 G)
theorem mh_of {G : G9} {l : Launch} {y : MethodName} {bytes : ByteArray} {maxL : Nat} {own : String} {hh : List (Nat × Nat × Nat × Nat)} {z : Z9} {av : List Value} {d : D9} {x : Option R9} (hy : plainName y.cls = true) (ho : y.cls = own) (hl : (lg_sl av).length ≤ maxL) (hD : va_D (A9 G) (wl G (fun _ _ => 0))) (hst : l.stackTraces = false) (ls : List (Nat × Value)) (hls : lv_args 0 av = ls) (body : ∀ X, xL X = l → CX G X bytes maxL own (tableOf hh) z → NC9 (xS X) → SS G X maxL 0 0 0 ls [] d x) : MH G l y bytes maxL hh z av d x := by
  intro r hr
  refine vx_ofWH (cc := bytes) (maxL := maxL) (ret := z.1) (hh := hh) hy rfl ?_
  intro p e s m args below meth c s₁ B hml hv
  obtain ⟨rfl, ⟨hE, hNc⟩, hH⟩ := hv
  have hts := atoms_spec (ws := .codeWith y bytes maxL z.1 hh :: WG) B.pre
  have hown : s.vm.findClass own = some m.cls := by rw [← ho]; exact findClass_of_methodNamed B.named
  have htb := vx_table (x := y) B (hts _ List.mem_cons_self)
  have C : CX G (p, l, e, { frames := z.2.2.2.2.1, cells := z.2.2.1, slots := z.2.2.2.1, locals := z.2.2.2.2.2 }, s, m, av.toArray, below, meth, c, z.2.2.1, z.2.2.2.1, z.2.1, fun r => vx_MQ below (Qc9 G z.2.1 r) (Xc9 G r) av.toArray s z.2.2.1 z.2.2.2.1 (A9 G)) bytes maxL own (tableOf hh) z :=
    ⟨B.exec, B.bytes, hml, hown, fun w hw => hts w (List.mem_cons_of_mem _ hw), B.notSynchronized, htb, hE, hst, hD, B.returns, rfl, rfl, rfl, rfl, fun _ _ => rfl⟩
  have k := body _ rfl C hNc r hr s.heap [] _ hH va_S.rf (by rw [← hls]; exact lv_entry av hl)
  rw [lg_entry_eq]
  exact k
/-- e is thrown over the frame -/
def SX (G : G9) (X : X9) (nL k n pc : Nat) (ls : List (Nat × Value)) (st : List Value) (d : D9) (e : Nat) (x : Option R9) : Prop :=
  ∀ r, x = some r → ∀ (H : Heap) (locs : List Loc) (la : Array Slot) (q : Addr) (ce : Cell), HO G d H → va_S (A9 G) (xS X).heap H locs → lv_has la nL ls → H[q]? = some ce → ce.vm = .none → (xS X).vm.findClass (ex9 e) = some ce.cls → vx_W (xP X) (xL X) (xE X) (xR X) (xS X) (xM X) (xA X) (xB X) (xT X) (xC X) H locs k n (Q9 G X r) (F0 (xM X) pc la st) q
/-- at a handler -/
def SH (G : G9) (X : X9) (nL k n pc : Nat) (ls : List (Nat × Value)) (d : D9) (x : Option R9) : Prop :=
  ∀ r, x = some r → ∀ (H : Heap) (locs : List Loc) (la : Array Slot) (q : Addr), HO G d H → va_S (A9 G) (xS X).heap H locs → lv_has la nL ls → W (xP X) (xL X) (xE X) (xR X) (xS X) (xM X) (xA X) (xB X) (xT X) (xC X) H locs k n (Q9 G X r) (F0 (xM X) pc la [.ref q])
section RLW
variable {G : G9} {X : X9} {nL k n pc : Nat} {ls : List (Nat × Value)} {st : List Value} {d : D9} {x y : Option R9} {cc : ByteArray} {own : String} {tb : List ExceptionTableEntry} {z9 : Z9}
theorem sx_none {e : Nat} : SX G X nL k n pc ls st d e none := fun _ h => nomatch h
theorem r_callC (C : CX G X cc nL own tb z9) {f : Option R9} {K : Int → D9 → Option R9} {Hh : Nat → D9 → Option R9} {i a ci np : Nat} {y : MethodName} {bytes : ByteArray} {maxL : Nat} {z : Z9} {As : List Value} (st0 : List Value) (hd : decode cc pc = .ok (.invokevirtual i, 3)) (hM : MT G (xL X) y bytes maxL z (rf G a :: As) d f) (hw : MW own i y bytes maxL z.1 np) (hw2 : Cond.instanceMethod y ∈ WG ∧ Cond.selects y.cls y y ∈ WG) (ha : a < NC) (hq : lay a = (0, ci)) (hc : (vwCl[ci]?).map (fun q => q.1) = some y.cls)
    (hR : z.2.2.2.2.1 + 1 ≤ z9.2.2.2.2.1 ∧ 8 + (maxL + 11) + z.2.2.2.2.2 ≤ z9.2.2.2.2.2) (hk : k + z.2.2.1 ≤ z9.2.2.1) (hn : n + z.2.2.2.1 ≤ z9.2.2.2.1) (hl : As.length = np) (hs : As.reverse ++ rf G a :: st = st0) (hst : (st.map fun v => v.category).sum ≤ 8)
    (kx : ∀ e d', SX G X nL (k + z.2.2.1) (n + z.2.2.2.1) pc ls st d' e (Hh e d'))
    (kk : ∀ v d', SS G X nL (k + z.2.2.1) (n + z.2.2.2.1) (pc + 3) ls ((rv9 z.2.1 v).toList ++ st) d' (K v d')) : SS G X nL k n pc ls st0 d (tc9 f K Hh) := by
  subst hs
  intro r hr H locs la hH hS hL
  have hcz := C.z.2.2.2.2.1
  obtain ⟨q, hq1, hq2⟩ := Option.map_eq_some_iff.mp hc
  cases hf : f with
  | none => rw [hf] at hr; cases hr
  | some r' =>
    intro T hT Y
    rw [hf] at hr
    have run := vx_runV (l := xL X) (R := xR X) (e := xE X) (below := xB X) (meth := xT X) (H := H) (locs := locs) (cells := k) (slots := n) (g := F0 (xM X) pc la (As.reverse ++ rf G a :: st)) (As := As) (b := G.1 a) (rest := st) (C := y.cls) ⟨C.1, C.2.1, C.2.2.1, C.2.2.2.1, C.ws⟩ (hM r' hf) ⟨callB9 C hw hR, C.ws _ hw2.1, C.ws _ hw2.2⟩ ⟨blind9, by rw [← hq2]; exact va_recv C.ev.1 hH hq1 (by rw [wl_at ha, ent_obj hq]), fun U hU hW => ⟨rfl, by rw [hU]; exact C.ev.go hS hW, by rw [hU]; exact hH⟩⟩ rfl hl hL.1 rfl (lv_room hst) hd (by rw [hcz]; exact ⟨hk, hn⟩)
    rcases run T hT Y with ⟨v0, st₀, t, T', L, h0, X', hL2, e1, e2, ⟨⟨a', d', hr', ho, hHO⟩, hF⟩, go⟩ | ⟨q', st₀, t, T', L, E, ce, h0, X', hL2, e1, e2, ⟨⟨e, d', hr', hE, hHO⟩, hF⟩, hce, hcv, hcl, go⟩
    · subst hr'
      cases ho
      obtain ⟨k1, k2, k3⟩ := vx_keep h0 e1 hS (fun q _ h => h) (fun q h => h) hL2 hF
      obtain ⟨t2, a1, b1⟩ := kk a' d' r hr T'.heap (locs ++ L) la (by rw [e1]; exact hHO) k3 hL T' rfl X'
      exact ⟨t2, go t2 a1, b1⟩
    · subst hr'
      obtain ⟨k1, k2, k3⟩ := vx_keep h0 e1 hS (fun q _ h => h) (fun q h => h) hL2 hF
      obtain ⟨t2, a1, b1⟩ := kx e d' r hr T'.heap (locs ++ L) la q' ce (by rw [e1]; exact hHO) k3 hL (by rw [e1]; exact hce) hcv (by rw [← hE]; exact hcl) T' rfl X'
      exact ⟨t2, go.trans a1, b1⟩
theorem sx_catch (C : CX G X cc nL own tb z9) (hNc : NC9 (xS X)) {e : Nat} (he : e < 4) (pre : List ExceptionTableEntry) (en : ExceptionTableEntry) (suf : List ExceptionTableEntry) (hsplit : tb = pre ++ en :: suf) (hpass : ∀ q ∈ pre, q.catchType ≠ 0 ∧ ∃ e', e' < 4 ∧ e ≠ e' ∧ Cond.classLink own q.catchType (ex9 e') ∈ WG) (hcov : covers en pc = true) (h0 : en.catchType ≠ 0) (hlink : Cond.classLink own en.catchType (ex9 e) ∈ WG) (hcast : Cond.castable (ex9 e) (ex9 e) ∈ BW9) (kk : SH G X nL k n en.handlerPc ls d x) : SX G X nL k n pc ls st d e x := by
  intro r hr H locs la q ce hH hS hL hce hcv hcl
  refine vx_catch C.2.2.2.1 pre en suf (C.2.2.2.2.2.2.1.trans hsplit) (fun z hz => ?_) hcov h0 (C.ws _ hlink) (bw_at hcast (C.ev.2.2.2.2.1 _ hcast)) hce hcv hcl (kk r hr H locs la q hH hS hL)
  obtain ⟨q1, e', q2, q3, q4⟩ := hpass z hz
  exact Or.inr ⟨q1, ex9 e', C.ws _ q4, hNc e e' he q2 q3⟩
theorem r_hand {mc ms fr lo : Nat} (C : CX G X cc nL own tb (some .int, 1, mc, ms, fr, lo)) {i : Nat} {v : Int} (d1 : decode cc pc = .ok (.astore i, 2)) (d2 : decode cc (pc + 2) = .ok (.iconst v, 1)) (d3 : decode cc (pc + 3) = .ok (.ireturn, 1)) (hi : i < nL) (hk : k ≤ mc) (hn : n ≤ ms) : SH G X nL k n pc ls d (rt v d) :=
  fun r hr H locs la _ hH hS hL => lv_astore C.1 C.2.1 d1 hL hi rfl (fun la' hL' => r_iconst C d2 (r_iret C d3 hk hn) r hr H locs la' hH hS hL')
theorem r_hand_n {mc ms fr lo : Nat} (C : CX G X cc nL own tb (some .int, 1, mc, ms, fr, lo)) {q : Fin 4} {i : Nat} {v : Int} (d1 : decode cc pc = .ok (.astore_n q, 1)) (d2 : decode cc (pc + 1) = .ok (.iconst v, 1)) (d3 : decode cc (pc + 2) = .ok (.ireturn, 1)) (hq : (q : Nat) = i) (hi : i < nL) (hk : k ≤ mc) (hn : n ≤ ms) : SH G X nL k n pc ls d (rt v d) :=
  fun r hr H locs la _ hH hS hL => lv_astore_n C.1 C.2.1 d1 hq hL hi rfl (fun la' hL' => r_iconst C d2 (r_iret C d3 hk hn) r hr H locs la' hH hS hL')
/-! the law's own calls: its callees return -/
theorem r_runL {f : Option R9} {K : Int → D9 → Option R9} {v mc ms : Nat} (C : CX G X cc nL own tb z9) {st0 : List Value}
    (run : ∀ r', f = some r' → ∀ H locs la, HO G d H → va_S (A9 G) (xS X).heap H locs → lv_has la nL ls → vx_Run (xP X) (xL X) (xE X) (xR X) (xS X) (xM X) (xA X) (xB X) (xT X) (xC X) H locs k n mc ms (F0 (xM X) pc la st0) st (fun s o t => Qc9 G v r' #[] s o t) (Xc9 G r') (A9 G))
    (kk : ∀ a d', SS G X nL (k + mc) (n + ms) (pc + 3) ls ((rv9 v a).toList ++ st) d' (K a d')) : SS G X nL k n pc ls st0 d (cz f K) := by
  intro r hr H locs la hH hS hL
  cases hf : f with
  | none => rw [hf] at hr; cases hr
  | some r' =>
    intro T hT Y
    rw [hf] at hr
    rcases run r' hf H locs la hH hS hL T hT Y with ⟨v0, st₀, t, T', L, h0, X', hL2, e1, e2, ⟨⟨a, d', hr', ho, hHO⟩, hF⟩, go⟩ | ⟨q, st₀, t, T', L, E, ce, h0, X', hL2, e1, e2, ⟨⟨e, d', hr', hE, hHO⟩, hF⟩, hce, hcv, hcl, go⟩
    · subst hr'
      cases ho
      obtain ⟨k1, k2, k3⟩ := vx_keep h0 e1 hS (fun q _ h => h) (fun q h => h) hL2 hF
      obtain ⟨t2, a1, b1⟩ := kk a d' r hr T'.heap (locs ++ L) la (by rw [e1]; exact hHO) k3 hL T' rfl X'
      exact ⟨t2, go t2 a1, b1⟩
    · subst hr'
      cases hr
theorem r_callVL (C : CX G X cc nL own tb z9) {f : Option R9} {K : Int → D9 → Option R9} {i a ci np : Nat} {y : MethodName} {bytes : ByteArray} {maxL : Nat} {z : Z9} {As : List Value} (st0 : List Value) (hd : decode cc pc = .ok (.invokevirtual i, 3)) (hM : MT G (xL X) y bytes maxL z (rf G a :: As) d f) (hw : MW own i y bytes maxL z.1 np) (hw2 : Cond.instanceMethod y ∈ WG ∧ Cond.selects y.cls y y ∈ WG) (ha : a < NC) (hq : lay a = (0, ci)) (hc : (vwCl[ci]?).map (fun q => q.1) = some y.cls)
    (hR : z.2.2.2.2.1 + 1 ≤ z9.2.2.2.2.1 ∧ 8 + (maxL + 11) + z.2.2.2.2.2 ≤ z9.2.2.2.2.2) (hk : k + z.2.2.1 ≤ z9.2.2.1) (hn : n + z.2.2.2.1 ≤ z9.2.2.2.1) (hl : As.length = np) (hs : As.reverse ++ rf G a :: st = st0) (hst : (st.map fun v => v.category).sum ≤ 8)
    (kk : ∀ v d', SS G X nL (k + z.2.2.1) (n + z.2.2.2.1) (pc + 3) ls ((rv9 z.2.1 v).toList ++ st) d' (K v d')) : SS G X nL k n pc ls st0 d (cz f K) := by
  subst hs
  refine r_runL C (fun r' hf H locs la hH hS hL => ?_) kk
  have hcz := C.z.2.2.2.2.1
  obtain ⟨q, hq1, hq2⟩ := Option.map_eq_some_iff.mp hc
  refine vx_runV (As := As) (b := G.1 a) (rest := st) (C := y.cls) ⟨C.1, C.2.1, C.2.2.1, C.2.2.2.1, C.ws⟩ (hM r' hf) ⟨callB9 C hw hR, C.ws _ hw2.1, C.ws _ hw2.2⟩ ⟨blind9, ?_, fun U hU hW => ⟨rfl, by rw [hU]; exact C.ev.go hS hW, by rw [hU]; exact hH⟩⟩ rfl hl hL.1 rfl (lv_room hst) hd ?_
  · rw [← hq2]
    exact va_recv C.ev.1 hH hq1 (by rw [wl_at ha, ent_obj hq])
  · rw [hcz]; exact ⟨hk, hn⟩
def MWH (own : String) (i : Nat) (y : MethodName) (bytes : ByteArray) (maxL : Nat) (ret : Option FieldType) (hh : List (Nat × Nat × Nat × Nat)) (np : Nat) : Prop :=
  Cond.methodLink own i y ∈ WG ∧ Cond.codeWith y bytes maxL ret hh ∈ WG ∧ Cond.initialized y.cls ∈ WG ∧ Cond.static y ∈ WG ∧ y.cls ≠ "java/lang/invoke/MethodHandle" ∧ y.cls ≠ "java/lang/invoke/VarHandle" ∧ (parseMethodDescriptor y.desc).map (fun d => d.parameters.length) = some np
theorem blindH {av : List Value} : FrameBlind (va_Pc av (fun U => (EV G U U.heap ∧ NC9 U) ∧ HO G d U.heap)) := fun a U g mk h => ⟨h.1, ⟨EV.same (U := U.calling g mk a) h.2.1.1 rfl, fun a' b' h1 h2 h3 => va_Nc.moved (u := U) (U := U.calling g mk a) (Vm.Alike.refl U.vm) (h.2.1.2 a' b' h1 h2 h3)⟩, h.2.2⟩
theorem r_callHL (C : CX G X cc nL own tb z9) (hNc : NC9 (xS X)) {f : Option R9} {K : Int → D9 → Option R9} {i np : Nat} {y : MethodName} {bytes : ByteArray} {maxL : Nat} {hh : List (Nat × Nat × Nat × Nat)} {z : Z9} {As : List Value} (st0 : List Value) (hd : decode cc pc = .ok (.invokestatic i, 3)) (hM : MH G (xL X) y bytes maxL hh z As d f) (hw : MWH own i y bytes maxL z.1 hh np)
    (hR : z.2.2.2.2.1 + 1 ≤ z9.2.2.2.2.1 ∧ 8 + (maxL + 11) + z.2.2.2.2.2 ≤ z9.2.2.2.2.2) (hk : k + z.2.2.1 ≤ z9.2.2.1) (hn : n + z.2.2.2.1 ≤ z9.2.2.2.1) (hl : As.length = np) (hs : As.reverse ++ st = st0) (hst : (st.map fun v => v.category).sum ≤ 8)
    (kk : ∀ v d', SS G X nL (k + z.2.2.1) (n + z.2.2.2.1) (pc + 3) ls ((rv9 z.2.1 v).toList ++ st) d' (K v d')) : SS G X nL k n pc ls st0 d (cz f K) := by
  subst hs
  refine r_runL C (fun r' hf H locs la hH hS hL => ?_) kk
  have hcz := C.z.2.2.2.2.1
  obtain ⟨h1, h2, h3, h4, h5, h6, h7⟩ := hw
  have cw : vx_CSW (xR X) (xS X) (xA X) own i y bytes maxL z.1 hh (.codeWith y bytes maxL z.1 hh :: WG) { frames := z.2.2.2.2.1, cells := z.2.2.1, slots := z.2.2.2.1, locals := z.2.2.2.2.2 } z.2.2.1 z.2.2.2.1 np :=
    ⟨⟨rfl, rfl, by rw [hcz]; exact hR.1, by rw [hcz]; exact hR.2, pay_in C.ws (good_ws h2), List.mem_cons_self⟩, C.ws _ h2, C.ws _ h3, ⟨h5, h6⟩, fun sig h => by
      rw [h] at h7
      exact (Option.some.inj h7).symm, C.ws _ h1, C.ws _ h4⟩
  refine vx_runSX (As := As) (rest := st) ⟨C.1, C.2.1, C.2.2.1, C.2.2.2.1, C.ws⟩ (hM r' hf) cw ⟨blindH, fun U hU hW => ⟨rfl, ⟨by rw [hU]; exact C.ev.go hS hW, fun a b q1 q2 q3 => va_Nc.moved hW.alike (hNc a b q1 q2 q3)⟩, by rw [hU]; exact hH⟩⟩ rfl hl hL.1 rfl (lv_room hst) hd ?_
  rw [hcz]; exact ⟨hk, hn⟩
/-! the script -/
def scf (b : Nat) : Value := .ref b
def scr (xs : Nat → Int) (L : Nat) (j : Int) (K : Int → Option R9) : Option R9 := if 0 ≤ w32 j ∧ w32 j < L then K (xs (w32 j).toNat) else none
def SCX (G : G9) (X : X9) (b L : Nat) (xs : Nat → Int) : Prop := va_X b L (fun j => Int32.ofInt (xs j)) (xS X) (xS X).heap ∧ b < (xS X).heap.size ∧ ¬ A9 G b
theorem r_aload_nC (C : CX G X cc nL own tb z9) {q : Fin 4} {i b : Nat} (z : Nat) (hd : decode cc pc = .ok (.aload_n q, 1)) (hi : (q : Nat) = i) (hl : ls[z]? = some (i, scf b)) (kk : SS G X nL k n (pc + 1) ls (scf b :: st) d x) : SS G X nL k n pc ls st d x :=
  fun r hr H locs la hH hS hL => lv_aload_n C.1 C.2.1 hd hi (lv_at hL z hl) (kk r hr H locs la hH hS hL)
theorem r_sclen (C : CX G X cc nL own tb z9) {b L : Nat} {xs : Nat → Int} (hC : SCX G X b L xs) (hd : decode cc pc = .ok (.arraylength, 1)) (kk : SS G X nL k n (pc + 1) ls (i9 L :: st) d x) : SS G X nL k n pc ls (scf b :: st) d x := by
  intro r hr H locs la hH hS hL
  refine va_slen C.1 C.2.1 hC.1 hC.2.1 hC.2.2 hS hd ?_
  have kk := kk r hr H locs la hH hS hL
  unfold i9 at kk
  rw [Int32.ofInt_eq_ofNat] at kk
  exact kk
theorem r_scld (C : CX G X cc nL own tb z9) {b L : Nat} {xs : Nat → Int} {j : Int} {K : Int → Option R9} (hC : SCX G X b L xs) (hd : decode cc pc = .ok (.iaload, 1)) (kk : ∀ t, SS G X nL k n (pc + 1) ls (i9 t :: st) d (K t)) : SS G X nL k n pc ls (i9 j :: scf b :: st) d (scr xs L j K) := by
  intro r hr H locs la hH hS hL
  unfold scr at hr
  split at hr
  case isFalse => cases hr
  rename_i hin
  refine va_sld C.1 C.2.1 hC.1 hC.2.1 hC.2.2 hS (in9 hin) hd ?_
  rw [cn9]
  exact kk _ r hr H locs la hH hS hL
end RLW

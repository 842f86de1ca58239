def MW (own : String) (i : Nat) (y : MethodName) (bytes : ByteArray) (maxL : Nat) (ret : Option FieldType) (np : Nat) : Prop :=
  Cond.methodLink own i y ∈ WG ∧ Cond.code y bytes maxL ret ∈ WG ∧ Cond.initialized y.cls ∈ WG ∧ y.cls ≠ "java/lang/invoke/MethodHandle" ∧ y.cls ≠ "java/lang/invoke/VarHandle" ∧ (parseMethodDescriptor y.desc).map (fun d => d.parameters.length) = some np
section RC
variable {G : G9} {X : X9} {nL k n pc : Nat} {ls : List (Nat × Value)} {st : List Value} {d : D9} {x y : Option R9} {cc : ByteArray} {own : String} {tb : List ExceptionTableEntry} {z9 : Z9}
theorem good_ws {yc : Cond} (hy : yc ∈ WG) : GoodIn WG (yc :: WG) := fun w hw => by
  rcases List.mem_cons.mp hw with h | h
  · rw [h]; exact wg_good (fun _ h => h) _ hy
  · exact wg_good (fun _ h => h) _ h
/-- behind a run: the answer, or the throw that goes on -/
theorem r_run {f : Option R9} {K : Int → D9 → Option R9} {v mc ms : Nat} (C : CX G X cc nL own [] z9) (hv : z9.2.1 < 7) (hk : k + mc ≤ z9.2.2.1) (hn : n + ms ≤ z9.2.2.2.1) {st0 : List Value}
    (run : ∀ r', f = some r' → ∀ H locs la, HO G d H → va_S (A9 G) (xS X).heap H locs → lv_has la nL ls → vx_Run (xP X) (xL X) (xE X) (xR X) (xS X) (xM X) (xA X) (xB X) (xT X) (xC X) H locs k n mc ms (F0 (xM X) pc la st0) st (fun s o t => Qc9 G v r' #[] s o t) (Xc9 G r') (A9 G))
    (kk : ∀ a d', SS G X nL (k + mc) (n + ms) (pc + 3) ls ((rv9 v a).toList ++ st) d' (K a d')) : SS G X nL k n pc ls st0 d (cl f K) := by
  intro r hr H locs la hH hS hL
  cases hf : f with
  | none => rw [hf] at hr; cases hr
  | some r' =>
    intro T hT Y
    rw [hf] at hr
    rcases run r' hf H locs la hH hS hL T hT Y with ⟨v0, st₀, t, T', L, h0, X', hL2, e1, e2, ⟨⟨a, d', hr', ho, hHO⟩, hF⟩, go⟩ | ⟨q, st₀, t, T', L, E, ce, h0, X', hL2, e1, e2, ⟨⟨e, d', hr', hE, hHO⟩, hF⟩, hce, hcv, hcl, go⟩
    · subst hr'
      cases ho
      obtain ⟨k1, k2, k3⟩ := vx_keep h0 e1 hS (fun q _ h => h) (fun q h => h) hL2 hF
      obtain ⟨t2, a1, b1⟩ := kk a d' r hr T'.heap (locs ++ L) la (by rw [e1]; exact hHO) k3 hL T' rfl X'
      exact ⟨t2, go t2 a1, b1⟩
    · subst hr'
      cases hr
      obtain ⟨k1, k2, k3⟩ := vx_keep h0 e1 hS (fun q _ h => h) (fun q h => h) hL2 hF
      obtain ⟨z1, z2, z3, z4, z5, z6⟩ := C.z
      unfold Q9
      rw [z6 hv]
      have o := vx_out (p := xP X) (l := xL X) (e := xE X) (R := xR X) (s := xS X) (m := xM X) (args := xA X) (below := xB X) (meth := xT X) (c := xC X) (H := T'.heap) (locs := locs ++ L) (cells := k + mc) (slots := n + ms) (Qc := Qc9 G (xV X) (.inr e, d')) (XC := Xc9 G (.inr e, d')) (free := A9 G) (mc := xK X) (ms := xN X) (ls := la) (rest := st) (pc := pc) (E := E) (ce := ce) (q := q) (fun x hx => by rw [C.2.2.2.2.2.2.1] at hx; cases hx) C.2.2.2.2.2.1 (by rw [e1]; exact hce) hcv hcl
        (fun t' ht' ha => ⟨⟨e, d', rfl, hE, by rw [ht', e1]; exact hHO⟩, by rw [va_F, ht']; exact ⟨k3.1, k3.2.1⟩⟩) (fun z hz => k3.2.2 z hz) (by rw [z3]; exact hk) (by rw [z4]; exact hn)
      obtain ⟨t2, a1, b1⟩ := o T' rfl X'
      exact ⟨t2, go.trans a1, b1⟩
theorem blind9 {av : List Value} : FrameBlind (va_Pc av (fun U => EV G U U.heap ∧ HO G d U.heap)) := fun a U g mk h => ⟨h.1, EV.same (U := U.calling g mk a) h.2.1 rfl, h.2.2⟩
theorem callB9 (C : CX G X cc nL own tb z9) {i : Nat} {y : MethodName} {bytes : ByteArray} {maxL np : Nat} {z : Z9} (hw : MW own i y bytes maxL z.1 np) (hR : z.2.2.2.2.1 + 1 ≤ z9.2.2.2.2.1 ∧ 8 + (maxL + 11) + z.2.2.2.2.2 ≤ z9.2.2.2.2.2) :
    CallB (xR X) (xS X) (xA X) own i y bytes maxL z.1 (.code y bytes maxL z.1 :: WG) { frames := z.2.2.2.2.1, cells := z.2.2.1, slots := z.2.2.2.1, locals := z.2.2.2.2.2 } z.2.2.1 z.2.2.2.1 np := by
  obtain ⟨h1, h2, h3, h4, h5, h6⟩ := hw
  refine callB_of np C.ws (good_ws h2) rfl rfl rfl (C.ws _ h3) (C.ws _ h1) ⟨h4, h5, h6⟩ ?_
  rw [C.z.2.2.2.2.1]
  exact hR
theorem r_callV (C : CX G X cc nL own [] z9) {f : Option R9} {K : Int → D9 → Option R9} {i a ci np : Nat} {y : MethodName} {bytes : ByteArray} {maxL : Nat} {z : Z9} {As : List Value} (st0 : List Value) (hd : decode cc pc = .ok (.invokevirtual i, 3)) (hM : MT G (xL X) y bytes maxL z (rf G a :: As) d f) (hw : MW own i y bytes maxL z.1 np) (hw2 : Cond.instanceMethod y ∈ WG ∧ Cond.selects y.cls y y ∈ WG) (ha : a < NC) (hq : lay a = (0, ci)) (hc : (vwCl[ci]?).map (fun q => q.1) = some y.cls)
    (hR : z.2.2.2.2.1 + 1 ≤ z9.2.2.2.2.1 ∧ 8 + (maxL + 11) + z.2.2.2.2.2 ≤ z9.2.2.2.2.2) (hk : k + z.2.2.1 ≤ z9.2.2.1) (hn : n + z.2.2.2.1 ≤ z9.2.2.2.1) (hl : As.length = np) (hs : As.reverse ++ rf G a :: st = st0) (hst : (st.map fun v => v.category).sum ≤ 8)
    (kk : ∀ v d', SS G X nL (k + z.2.2.1) (n + z.2.2.2.1) (pc + 3) ls ((rv9 z.2.1 v).toList ++ st) d' (K v d')) (hv : z9.2.1 < 7 := by exact Nat.le_of_ble_eq_true rfl) : SS G X nL k n pc ls st0 d (cl f K) := by
  subst hs
  refine r_run C hv hk hn (fun r' hf H locs la hH hS hL => ?_) kk
  have hcz := C.z.2.2.2.2.1
  obtain ⟨q, hq1, hq2⟩ := Option.map_eq_some_iff.mp hc
  refine vx_runV (As := As) (b := G.1 a) (rest := st) (C := y.cls) ⟨C.1, C.2.1, C.2.2.1, C.2.2.2.1, C.ws⟩ (hM r' hf) ⟨callB9 C hw hR, C.ws _ hw2.1, C.ws _ hw2.2⟩ ⟨blind9, ?_, fun U hU hW => ⟨rfl, by rw [hU]; exact C.ev.go hS hW, by rw [hU]; exact hH⟩⟩ rfl hl hL.1 rfl (lv_room hst) hd ?_
  · rw [← hq2]
    exact va_recv C.ev.1 hH hq1 (by rw [wl_at ha, ent_obj hq])
  · rw [hcz]; exact ⟨hk, hn⟩
theorem r_callS (C : CX G X cc nL own [] z9) {f : Option R9} {K : Int → D9 → Option R9} {i np : Nat} {y : MethodName} {bytes : ByteArray} {maxL : Nat} {z : Z9} {As : List Value} (st0 : List Value) (hd : decode cc pc = .ok (.invokestatic i, 3)) (hM : MT G (xL X) y bytes maxL z As d f) (hw : MW own i y bytes maxL z.1 np) (hw2 : Cond.static y ∈ WG)
    (hR : z.2.2.2.2.1 + 1 ≤ z9.2.2.2.2.1 ∧ 8 + (maxL + 11) + z.2.2.2.2.2 ≤ z9.2.2.2.2.2) (hk : k + z.2.2.1 ≤ z9.2.2.1) (hn : n + z.2.2.2.1 ≤ z9.2.2.2.1) (hl : As.length = np) (hs : As.reverse ++ st = st0) (hst : (st.map fun v => v.category).sum ≤ 8)
    (kk : ∀ v d', SS G X nL (k + z.2.2.1) (n + z.2.2.2.1) (pc + 3) ls ((rv9 z.2.1 v).toList ++ st) d' (K v d')) (hv : z9.2.1 < 7 := by exact Nat.le_of_ble_eq_true rfl) : SS G X nL k n pc ls st0 d (cl f K) := by
  subst hs
  refine r_run C hv hk hn (fun r' hf H locs la hH hS hL => ?_) kk
  have hcz := C.z.2.2.2.2.1
  refine vx_runS (As := As) (rest := st) ⟨C.1, C.2.1, C.2.2.1, C.2.2.2.1, C.ws⟩ (hM r' hf) ⟨callB9 C hw hR, C.ws _ hw2⟩ ⟨blind9, fun U hU hW => ⟨rfl, by rw [hU]; exact C.ev.go hS hW, by rw [hU]; exact hH⟩⟩ rfl hl hL.1 rfl (lv_room hst) hd ?_
  rw [hcz]; exact ⟨hk, hn⟩
end RC

theorem mt_of {G : G9} {l : Launch} {y : MethodName} {bytes : ByteArray} {maxL : Nat} {own : String} {z : Z9} {av : List Value} {d : D9} {x : Option R9} (hy : plainName y.cls = true) (ho : y.cls = own) (hl : (lg_sl av).length ≤ maxL) (hD : va_D (A9 G) (wl G (fun _ _ => 0))) (hst : l.stackTraces = false) (ls : List (Nat × Value)) (hls : lv_args 0 av = ls) (body : ∀ X, xL X = l → CX G X bytes maxL own [] z → SS G X maxL 0 0 0 ls [] d x) : MT G l y bytes maxL z av d x := by
  intro r hr
  refine vx_ofW (cc := bytes) (maxL := maxL) (ret := z.1) hy rfl ?_
  intro p e s m args below meth c s₁ B hml ht hv
  obtain ⟨rfl, hE, hH⟩ := hv
  have hts := atoms_spec (ws := .code y bytes maxL z.1 :: WG) B.pre
  have hown : s.vm.findClass own = some m.cls := by rw [← ho]; exact findClass_of_methodNamed B.named
  have C : CX G (p, l, e, { frames := z.2.2.2.2.1, cells := z.2.2.1, slots := z.2.2.2.1, locals := z.2.2.2.2.2 }, s, m, av.toArray, below, meth, c, z.2.2.1, z.2.2.2.1, z.2.1, fun r => vx_MQ below (Qc9 G z.2.1 r) (Xc9 G r) av.toArray s z.2.2.1 z.2.2.2.1 (A9 G)) bytes maxL own [] z :=
    ⟨B.exec, B.bytes, hml, hown, fun w hw => hts w (List.mem_cons_of_mem _ hw), B.notSynchronized, List.eq_nil_iff_forall_not_mem.mpr (fun x hx => ht x hx), hE, hst, hD, B.returns, rfl, rfl, rfl, rfl, fun _ _ => rfl⟩
  have k := body _ rfl C r hr s.heap [] _ hH va_S.rf (by rw [← hls]; exact lv_entry av hl)
  rw [lg_entry_eq]
  exact k
theorem met_of {G : G9} {l : Launch} {y : MethodName} {ws : List Cond} {rm : Room} {Pc : Array Value → State → Prop} {v mc ms : Nat} {r : R9} (hr : ∃ a d, r = (.inl a, d)) (h : vx_Met l y ws rm Pc (Qc9 G v r) (Xc9 G r) mc ms (A9 G)) : Met l y ws rm Pc (Qc9 G v r) mc ms (A9 G) := by
  intro p e h1 h2 h3 s m args below h4 h5 h6 h7
  obtain ⟨n, o, a1, a2, a3, a4⟩ := h p e h1 h2 h3 s m args below h4 h5 h6 h7
  refine ⟨n, o, a1, a2, a3, ?_⟩
  rcases a4 with a4 | ⟨q, hq, E, ce, L, ⟨⟨e', d', hr', -⟩, -⟩, -⟩
  · exact a4
  · obtain ⟨a, d, rfl⟩ := hr
    cases hr'
def MN (own : String) (i : Nat) (y : MethodName) (bytes : ByteArray) (maxL : Nat) (ret : Option FieldType) (np : Nat) : Prop :=
  (own, i, y) ∈ nest9 ∧ Cond.code y bytes maxL ret ∈ WG ∧ Cond.initialized y.cls ∈ WG ∧ y.cls ≠ "java/lang/invoke/MethodHandle" ∧ y.cls ≠ "java/lang/invoke/VarHandle" ∧ (parseMethodDescriptor y.desc).map (fun d => d.parameters.length) = some np
section RN
variable {G : G9} {X : X9} {nL k n pc : Nat} {ls : List (Nat × Value)} {st : List Value} {d : D9} {x y : Option R9} {cc : ByteArray} {own : String} {tb : List ExceptionTableEntry} {z9 : Z9}
theorem r_callN (C : CX G X cc nL own [] z9) {f : Option R9} {K : Int → D9 → Option R9} {i np : Nat} {y : MethodName} {bytes : ByteArray} {maxL : Nat} {z : Z9} {As : List Value} (st0 : List Value) (hd : decode cc pc = .ok (.invokestatic i, 3)) (hM : MT G (xL X) y bytes maxL z As d f) (hno : ∀ r, f = some r → ∃ a d, r = (.inl a, d)) (hw : MN own i y bytes maxL z.1 np) (hw2 : Cond.static y ∈ WG)
    (hR : z.2.2.2.2.1 + 1 ≤ z9.2.2.2.2.1 ∧ 8 + (maxL + 11) + z.2.2.2.2.2 ≤ z9.2.2.2.2.2) (hk : k + z.2.2.1 ≤ z9.2.2.1) (hn : n + z.2.2.2.1 ≤ z9.2.2.2.1) (hl : As.length = np) (hs : As.reverse ++ st = st0) (hst : (st.map fun v => v.category).sum ≤ 8)
    (kk : ∀ v d', SS G X nL (k + z.2.2.1) (n + z.2.2.2.1) (pc + 3) ls ((rv9 z.2.1 v).toList ++ st) d' (K v d')) (hv : z9.2.1 < 7 := by exact Nat.le_of_ble_eq_true rfl) : SS G X nL k n pc ls st0 d (cl f K) := by
  subst hs
  refine r_run C hv hk hn (fun r' hf H locs la hH hS hL => ?_) kk
  have hcz := C.z.2.2.2.2.1
  obtain ⟨h1, h2, h3, h4, h5, h6⟩ := hw
  have run := va_runSN (As := As) (rest := st) (g := F0 (xM X) pc la (As.reverse ++ st)) (R := xR X) (e := xE X) (below := xB X) (meth := xT X) (H := H) (locs := locs) (cells := k) (slots := n) ⟨C.1, C.2.1, C.2.2.1, C.2.2.2.1, C.ws⟩ (met_of (hno r' hf) (hM r' hf)) ⟨va_cnB (host := RX11) np C.ws (good_ws h2) rfl rfl rfl (C.ev.2.2.2.1 _ h1) (C.ws _ h3) ⟨h4, h5, h6⟩ (by rw [hcz]; exact hR), C.ws _ hw2, trivial⟩ ⟨blind9, fun U hU hW => ⟨rfl, by rw [hU]; exact C.ev.go hS hW, by rw [hU]; exact hH⟩⟩ rfl hl hL.1 rfl (lv_room hst) hd (by rw [hcz]; exact ⟨hk, hn⟩)
  intro T hT Y
  exact Or.inl (run T hT Y)
end RN
/-- a throw's words: of the class e, by its constructor's entry ic -/
def TW (ic e : Nat) : Prop := ∀ w ∈ vx_atS RX11 ic (ex9 e) ["java/lang/RuntimeException", "java/lang/Exception"], w ∈ WG ∨ w ∈ BW9
theorem tw_of {ic e : Nat} (h : ∀ w ∈ vx_atS RX11 ic (ex9 e) ["java/lang/RuntimeException", "java/lang/Exception"], w ∈ lw_tbl) (g : ((vx_atS RX11 ic (ex9 e) ["java/lang/RuntimeException", "java/lang/Exception"]).all (fun w => goodWord w || bw9 w)) = true) : TW ic e := fun w hw => by
  have := List.all_eq_true.mp g w hw
  rcases Bool.or_eq_true_iff.mp this with q | q
  · exact Or.inl (List.mem_filter.mpr ⟨h w hw, q⟩)
  · exact Or.inr (List.mem_filter.mpr ⟨h w hw, q⟩)
def TN (ic : Nat) : Prop := ∀ w ∈ (own13 RX11 ic).filter vx_no, w ∈ WG ∨ w ∈ BW9
theorem tn_of {ic : Nat} (h : ∀ w ∈ (own13 RX11 ic).filter vx_no, w ∈ lw_tbl) (g : (((own13 RX11 ic).filter vx_no).all (fun w => goodWord w || bw9 w)) = true) : TN ic := fun w hw => by
  have := List.all_eq_true.mp g w hw
  rcases Bool.or_eq_true_iff.mp this with q | q
  · exact Or.inl (List.mem_filter.mpr ⟨h w hw, q⟩)
  · exact Or.inr (List.mem_filter.mpr ⟨h w hw, q⟩)
theorem wg_ot {w : Cond} (h : w ∈ WG) : vx_ot w = true := by
  unfold vx_ot
  rw [(List.mem_filter.mp h).2, Bool.or_true]
theorem bw_ot {w : Cond} (h : w ∈ BW9) : vx_ot w = true := by
  have h := (List.mem_filter.mp h).2
  cases w <;> first | rfl | cases h
theorem bw_at {w : Cond} {s : State} {args : Array Value} (h : w ∈ BW9) (hn : va_Nw w s) : w.before args s = true := by
  have h := (List.mem_filter.mp h).2
  cases w <;> first | exact va_Nw.use rfl hn | cases h
theorem fit9 (e : Nat) : Bundle.fit (ex9 e) = true := by
  unfold ex9; split
  · decide
  · split
    · decide
    · split <;> decide
section RT
variable {G : G9} {X : X9} {nL k n pc : Nat} {ls : List (Nat × Value)} {st : List Value} {d : D9} {x y : Option R9} {cc : ByteArray} {own : String} {tb : List ExceptionTableEntry} {z9 : Z9}
theorem r_throwW (C : CX G X cc nL RX11 [] z9) {e ik is ic : Nat} (si : Nat) {tx : String} {by8 : List Int32} (hs : strs9[si]? = some (RX11, is, tx, by8)) (hw : TW ic e) (hc : Cond.classLink RX11 ik (ex9 e) ∈ WG ∧ Cond.initialized (ex9 e) ∈ WG)
    (d0 : decode cc pc = .ok (.new ik, 3)) (d3 : decode cc (pc + 3) = .ok (.dup, 1)) (d4 : decode cc (pc + 4) = .ok (.ldc_w is, 3)) (d7 : decode cc (pc + 7) = .ok (.invokespecial ic, 3)) (d10 : decode cc (pc + 10) = .ok (.athrow, 1))
    (hf : 5 < z9.2.2.2.2.1) (hl : (st.map fun v => v.category).sum + 82 ≤ z9.2.2.2.2.2) (hk : k + 1 ≤ z9.2.2.1) (hn : n + 6 ≤ z9.2.2.2.1) (hv : z9.2.1 < 7 := by exact Nat.le_of_ble_eq_true rfl) : SS G X nL k n pc ls st d (th e d) := by
  intro r hr H locs la hH hS hL
  cases hr
  obtain ⟨z1, z2, z3, z4, z5, z6⟩ := C.z
  unfold Q9
  rw [z6 hv]
  have ev := C.ev
  refine vx_throwSW (text := tx) (names := ["java/lang/RuntimeException", "java/lang/Exception"]) (sa := sK G si) (A := A9 G) C.1 C.2.1 C.2.2.2.2.2.2.2.2.1 C.2.2.2.1 (fit9 e) (by decide) (C.ws _ hc.1) (C.ws _ hc.2) (ev.2.2.2.2.2.1 si _ hs).1 (fun w h => (hw w h).elim (fun q => C.ws _ q) (fun q => bw_at q (ev.2.2.2.2.1 w q)))
    (fun w h => by
      rcases List.mem_cons.mp h with q | q
      · rw [q]; exact wg_ot hc.1
      · rcases List.mem_cons.mp q with q | q
        · rw [q]; exact wg_ot hc.2
        · exact (hw w q).elim wg_ot bw_ot)
    ev.2.1 ev.2.2.1 hS (by rw [hL.1, C.2.2.1]) d0 d3 d4 d7 d10 (fun x hx => by rw [C.2.2.2.2.2.2.1] at hx; cases hx) (by rw [z5]; exact hf) (by rw [z5]; exact hl) (by rw [z5]; exact hk) (by rw [z5]; exact hn) C.2.2.2.2.2.1
    (fun t ha h1 h2 => ⟨⟨e, d, rfl, rfl, fun q1 q2 q3 => ?_⟩, Nat.le_trans hS.1 h1, fun q q1 q2 => ?_⟩) (fun z hz => hS.2.2 z hz) (by rw [z3]; exact hk) (by rw [z4]; exact hn)
  · have at1 := hH q1 q2 q3
    have lt1 : q2.1 < H.size := at1.lt
    exact at1.kept (h2 _ lt1)
  · rw [h2 q (Nat.lt_of_lt_of_le q1 hS.1)]
    exact hS.2.1 q q1 q2
theorem r_throwS (C : CX G X cc nL RX11 [] z9) {e ik is ic : Nat} (si : Nat) {tx : String} {by8 : List Int32} (hs : strs9[si]? = some (RX11, is, tx, by8)) (hw : TW ic e) (hc : Cond.classLink RX11 ik (ex9 e) ∈ WG ∧ Cond.initialized (ex9 e) ∈ WG)
    (d0 : decode cc pc = .ok (.new ik, 3)) (d3 : decode cc (pc + 3) = .ok (.dup, 1)) (d4 : decode cc (pc + 4) = .ok (.ldc is, 2)) (d7 : decode cc (pc + 6) = .ok (.invokespecial ic, 3)) (d10 : decode cc (pc + 9) = .ok (.athrow, 1))
    (hf : 5 < z9.2.2.2.2.1) (hl : (st.map fun v => v.category).sum + 82 ≤ z9.2.2.2.2.2) (hk : k + 1 ≤ z9.2.2.1) (hn : n + 6 ≤ z9.2.2.2.1) (hv : z9.2.1 < 7 := by exact Nat.le_of_ble_eq_true rfl) : SS G X nL k n pc ls st d (th e d) := by
  intro r hr H locs la hH hS hL
  cases hr
  obtain ⟨z1, z2, z3, z4, z5, z6⟩ := C.z
  unfold Q9
  rw [z6 hv]
  have ev := C.ev
  refine vx_throwS (text := tx) (names := ["java/lang/RuntimeException", "java/lang/Exception"]) (sa := sK G si) (A := A9 G) C.1 C.2.1 C.2.2.2.2.2.2.2.2.1 C.2.2.2.1 (fit9 e) (by decide) (C.ws _ hc.1) (C.ws _ hc.2) (ev.2.2.2.2.2.1 si _ hs).1 (fun w h => (hw w h).elim (fun q => C.ws _ q) (fun q => bw_at q (ev.2.2.2.2.1 w q)))
    (fun w h => by
      rcases List.mem_cons.mp h with q | q
      · rw [q]; exact wg_ot hc.1
      · rcases List.mem_cons.mp q with q | q
        · rw [q]; exact wg_ot hc.2
        · exact (hw w q).elim wg_ot bw_ot)
    ev.2.1 ev.2.2.1 hS (by rw [hL.1, C.2.2.1]) d0 d3 d4 d7 d10 (fun x hx => by rw [C.2.2.2.2.2.2.1] at hx; cases hx) (by rw [z5]; exact hf) (by rw [z5]; exact hl) (by rw [z5]; exact hk) (by rw [z5]; exact hn) C.2.2.2.2.2.1
    (fun t ha h1 h2 => ⟨⟨e, d, rfl, rfl, fun q1 q2 q3 => ?_⟩, Nat.le_trans hS.1 h1, fun q q1 q2 => ?_⟩) (fun z hz => hS.2.2 z hz) (by rw [z3]; exact hk) (by rw [z4]; exact hn)
  · have at1 := hH q1 q2 q3
    have lt1 : q2.1 < H.size := at1.lt
    exact at1.kept (h2 _ lt1)
  · rw [h2 q (Nat.lt_of_lt_of_le q1 hS.1)]
    exact hS.2.1 q q1 q2
theorem r_throwNW (C : CX G X cc nL RX11 [] z9) {ik is ic : Nat} (si : Nat) {tx : String} {by8 : List Int32} (hs : strs9[si]? = some (RX11, is, tx, by8)) (hw : TN ic) (hc : Cond.classLink RX11 ik nse9 ∈ WG ∧ Cond.initialized nse9 ∈ WG)
    (d0 : decode cc pc = .ok (.new ik, 3)) (d3 : decode cc (pc + 3) = .ok (.dup, 1)) (d4 : decode cc (pc + 4) = .ok (.ldc_w is, 3)) (d7 : decode cc (pc + 7) = .ok (.invokespecial ic, 3)) (d10 : decode cc (pc + 10) = .ok (.athrow, 1))
    (hf : 5 < z9.2.2.2.2.1) (hl : (st.map fun v => v.category).sum + 82 ≤ z9.2.2.2.2.2) (hk : k + 1 ≤ z9.2.2.1) (hn : n + 6 ≤ z9.2.2.2.1) (hv : z9.2.1 < 7 := by exact Nat.le_of_ble_eq_true rfl) : SS G X nL k n pc ls st d (th 2 d) := by
  intro r hr H locs la hH hS hL
  cases hr
  obtain ⟨z1, z2, z3, z4, z5, z6⟩ := C.z
  unfold Q9
  rw [z6 hv]
  have ev := C.ev
  refine th13W (text := tx) (sa := sK G si) (A := A9 G) C.1 C.2.1 C.2.2.2.2.2.2.2.2.1 C.2.2.2.1 (C.ws _ hc.1) (C.ws _ hc.2) (ev.2.2.2.2.2.1 si _ hs).1 (fun w h => (hw w h).elim (fun q => C.ws _ q) (fun q => bw_at q (ev.2.2.2.2.1 w q)))
    (fun w h => by
      rcases List.mem_cons.mp h with q | q
      · rw [q]; exact wg_ot hc.1
      · rcases List.mem_cons.mp q with q | q
        · rw [q]; exact wg_ot hc.2
        · exact (hw w q).elim wg_ot bw_ot)
    ev.2.1 ev.2.2.1 hS (by rw [hL.1, C.2.2.1]) d0 d3 d4 d7 d10 (fun x hx => by rw [C.2.2.2.2.2.2.1] at hx; cases hx) (by rw [z5]; exact hf) (by rw [z5]; exact hl) (by rw [z5]; exact hk) (by rw [z5]; exact hn) C.2.2.2.2.2.1
    (fun t ha h1 h2 => ⟨⟨2, d, rfl, rfl, fun q1 q2 q3 => ?_⟩, Nat.le_trans hS.1 h1, fun q q1 q2 => ?_⟩) (fun z hz => hS.2.2 z hz) (by rw [z3]; exact hk) (by rw [z4]; exact hn)
  · have at1 := hH q1 q2 q3
    have lt1 : q2.1 < H.size := at1.lt
    exact at1.kept (h2 _ lt1)
  · rw [h2 q (Nat.lt_of_lt_of_le q1 hS.1)]
    exact hS.2.1 q q1 q2
theorem r_throwNS (C : CX G X cc nL RX11 [] z9) {ik is ic : Nat} (si : Nat) {tx : String} {by8 : List Int32} (hs : strs9[si]? = some (RX11, is, tx, by8)) (hw : TN ic) (hc : Cond.classLink RX11 ik nse9 ∈ WG ∧ Cond.initialized nse9 ∈ WG)
    (d0 : decode cc pc = .ok (.new ik, 3)) (d3 : decode cc (pc + 3) = .ok (.dup, 1)) (d4 : decode cc (pc + 4) = .ok (.ldc is, 2)) (d7 : decode cc (pc + 6) = .ok (.invokespecial ic, 3)) (d10 : decode cc (pc + 9) = .ok (.athrow, 1))
    (hf : 5 < z9.2.2.2.2.1) (hl : (st.map fun v => v.category).sum + 82 ≤ z9.2.2.2.2.2) (hk : k + 1 ≤ z9.2.2.1) (hn : n + 6 ≤ z9.2.2.2.1) (hv : z9.2.1 < 7 := by exact Nat.le_of_ble_eq_true rfl) : SS G X nL k n pc ls st d (th 2 d) := by
  intro r hr H locs la hH hS hL
  cases hr
  obtain ⟨z1, z2, z3, z4, z5, z6⟩ := C.z
  unfold Q9
  rw [z6 hv]
  have ev := C.ev
  refine th13S (text := tx) (sa := sK G si) (A := A9 G) C.1 C.2.1 C.2.2.2.2.2.2.2.2.1 C.2.2.2.1 (C.ws _ hc.1) (C.ws _ hc.2) (ev.2.2.2.2.2.1 si _ hs).1 (fun w h => (hw w h).elim (fun q => C.ws _ q) (fun q => bw_at q (ev.2.2.2.2.1 w q)))
    (fun w h => by
      rcases List.mem_cons.mp h with q | q
      · rw [q]; exact wg_ot hc.1
      · rcases List.mem_cons.mp q with q | q
        · rw [q]; exact wg_ot hc.2
        · exact (hw w q).elim wg_ot bw_ot)
    ev.2.1 ev.2.2.1 hS (by rw [hL.1, C.2.2.1]) d0 d3 d4 d7 d10 (fun x hx => by rw [C.2.2.2.2.2.2.1] at hx; cases hx) (by rw [z5]; exact hf) (by rw [z5]; exact hl) (by rw [z5]; exact hk) (by rw [z5]; exact hn) C.2.2.2.2.2.1
    (fun t ha h1 h2 => ⟨⟨2, d, rfl, rfl, fun q1 q2 q3 => ?_⟩, Nat.le_trans hS.1 h1, fun q q1 q2 => ?_⟩) (fun z hz => hS.2.2 z hz) (by rw [z3]; exact hk) (by rw [z4]; exact hn)
  · have at1 := hH q1 q2 q3
    have lt1 : q2.1 < H.size := at1.lt
    exact at1.kept (h2 _ lt1)
  · rw [h2 q (Nat.lt_of_lt_of_le q1 hS.1)]
    exact hS.2.1 q q1 q2
end RT

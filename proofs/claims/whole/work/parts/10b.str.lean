def sf (G : G9) (i : Nat) : Value := .ref (sK G i)
def bf (G : G9) (i : Nat) : Value := .ref (sV G i)
def st9 (i : Nat) : List Int32 := (strs9.getD i ("", 0, "", [])).2.2.2
def sl9 (i : Nat) : Nat := (st9 i).length
def sb9 (i j : Nat) : Int := ((st9 i).getD j 0).toInt
def sch (i : Nat) (j : Int) (K : Int → Option R9) : Option R9 := if 0 ≤ w32 j ∧ w32 j < sl9 i then K (sb9 i (w32 j).toNat) else none
def cpy (d : D9) (a b n : Nat) : D9 := fun k j => if k = b ∧ j < n then d a j else d k j
def cp9 (d : D9) (a m b m' : Nat) (n : Int) (K : D9 → Option R9) : Option R9 := if (0 ≤ w32 n ∧ w32 n ≤ m) ∧ w32 n ≤ m' then K (cpy d a b (w32 n).toNat) else none
theorem wl_setG {G : G9} {d d' : D9} {k : Nat} {q : va_E} (hd : ∀ k', k' ≠ k → d' k' = d k') (hq : ent G d' k = q) : (wl G d).set k (G.1 k, q) = wl G d' := by
  apply List.ext_getElem?
  intro i
  rw [List.getElem?_set]
  by_cases hi : k = i
  · subst hi
    rw [if_pos rfl, wl_len]
    by_cases hl : k < NC
    · rw [if_pos hl, wl_at hl, hq]
    · rw [if_neg hl, List.getElem?_eq_none (by rw [wl_len]; omega)]
  · rw [if_neg hi]
    by_cases hl : i < NC
    · rw [wl_at hl, wl_at hl]
      have e := hd i (fun e => hi e.symm)
      have e2 : ∀ c j', fv G d' i c j' = fv G d i c j' := fun c j' => by simp [fv, e]
      simp [ent, e, fvs, e2]
    · rw [List.getElem?_eq_none (by rw [wl_len]; omega), List.getElem?_eq_none (by rw [wl_len]; omega)]
theorem sch_ok : ∀ i, i < 40 → ∀ j, j < sl9 i → and9 (sb9 i j) 255 % 65536 = sb9 i j := by decide +kernel
section RS
variable {G : G9} {X : X9} {nL k n pc : Nat} {ls : List (Nat × Value)} {st : List Value} {d : D9} {x y : Option R9} {cc : ByteArray} {own : String} {tb : List ExceptionTableEntry} {z9 : Z9}
theorem r_ldcS (C : CX G X cc nL own tb z9) {i : Nat} {tx : String} {bs : List Int32} (si : Nat) (hd : decode cc pc = .ok (.ldc i, 2)) (hs : strs9[si]? = some (own, i, tx, bs)) (kk : SS G X nL k n (pc + 2) ls (sf G si :: st) d x) : SS G X nL k n pc ls st d x :=
  fun r hr H locs la hH hS hL => va_ldcS C.1 C.2.1 C.2.2.2.1 (C.ev.2.2.2.2.2.1 si _ hs).1 hd (kk r hr H locs la hH hS hL)
theorem r_ldcSW (C : CX G X cc nL own tb z9) {i : Nat} {tx : String} {bs : List Int32} (si : Nat) (hd : decode cc pc = .ok (.ldc_w i, 3)) (hs : strs9[si]? = some (own, i, tx, bs)) (kk : SS G X nL k n (pc + 3) ls (sf G si :: st) d x) : SS G X nL k n pc ls st d x := by
  intro r hr H locs la hH hS hL T hT Y
  obtain ⟨t, a1, b1⟩ := kk r hr H locs la hH hS hL T hT Y
  have hZ := (C.ev.2.2.2.2.2.1 si _ hs).1
  exact ⟨t, Y.ldcStringW C.1 (own := own) (text := tx) (index := i) (a := sK G si) C.2.2.2.1 hZ.1 hZ.2 (g := F0 (xM X) pc la st) rfl (by rw [C.2.1]; exact hd) t a1, b1⟩
theorem r_aload_nS (C : CX G X cc nL own tb z9) {q : Fin 4} {i a : Nat} (z : Nat) (hd : decode cc pc = .ok (.aload_n q, 1)) (hi : (q : Nat) = i) (hl : ls[z]? = some (i, sf G a)) (kk : SS G X nL k n (pc + 1) ls (sf G a :: st) d x) : SS G X nL k n pc ls st d x :=
  fun r hr H locs la hH hS hL => lv_aload_n C.1 C.2.1 hd hi (lv_at hL z hl) (kk r hr H locs la hH hS hL)
theorem r_aload_nB (C : CX G X cc nL own tb z9) {q : Fin 4} {i a : Nat} (z : Nat) (hd : decode cc pc = .ok (.aload_n q, 1)) (hi : (q : Nat) = i) (hl : ls[z]? = some (i, bf G a)) (kk : SS G X nL k n (pc + 1) ls (bf G a :: st) d x) : SS G X nL k n pc ls st d x :=
  fun r hr H locs la hH hS hL => lv_aload_n C.1 C.2.1 hd hi (lv_at hL z hl) (kk r hr H locs la hH hS hL)
theorem st9_at {si : Nat} (h : si < 40) : ∃ (o : String) (i : Nat) (tx : String), strs9[si]? = some (o, i, tx, st9 si) := by
  have hl : si < strs9.length := h
  obtain ⟨q, hq⟩ : ∃ q, strs9[si]? = some q := ⟨_, List.getElem?_eq_getElem hl⟩
  obtain ⟨o, i, tx, bs⟩ := q
  refine ⟨o, i, tx, ?_⟩
  have e : st9 si = bs := by
    unfold st9
    rw [List.getD_eq_getElem?_getD, hq]; rfl
  rw [hq, e]
theorem str_at (C : CX G X cc nL own tb z9) {si : Nat} (h : si < 40) : va_OF "java/lang/String" "coder" "B" (.int 0) (sK G si) (A9 G) (xS X) (xS X).heap ∧ va_OF "java/lang/String" "value" "[B" (.ref (sV G si)) (sK G si) (A9 G) (xS X) (xS X).heap ∧ va_T .byte (sV G si) (sl9 si) (fun j => i9 (sb9 si j)) (A9 G) (xS X) (xS X).heap ∧ va_O "java/lang/String" (sK G si) (A9 G) (xS X) (xS X).heap := by
  obtain ⟨o, i, tx, hq⟩ := st9_at h
  have e := ((C.ev.2.2.2.2.2.1 si _ hq).2.1 0 (by omega))
  refine ⟨e.2.1, e.2.2.1, ?_, e.1⟩
  have t := e.2.2.2
  have ee : (fun j => Value.int ((List.getD [st9 si] 0 []).getD j 0)) = (fun j => i9 (sb9 si j)) := by
    funext j
    show Value.int ((st9 si).getD j 0) = Value.int (Int32.ofInt ((st9 si).getD j 0).toInt)
    rw [Int32.ofInt_toInt]
  rw [← ee]
  exact t
theorem r_sval (C : CX G X cc nL RJ0 tb z9) {si : Nat} (h : si < 40) (hd : decode cc pc = .ok (.getfield 9, 3)) (hw : Cond.fieldLink RJ0 9 "java/lang/String" "value" "[B" ∈ WG) (kk : SS G X nL k n (pc + 3) ls (bf G si :: st) d x) : SS G X nL k n pc ls (sf G si :: st) d x :=
  fun r hr H locs la hH hS hL => vk_getf C.1 C.2.1 (str_at C h).2.1 hS C.2.2.2.1 (C.ws _ hw) (fun _ h => h) hd (kk r hr H locs la hH hS hL)
theorem r_scod (C : CX G X cc nL RJ0 tb z9) {si : Nat} (h : si < 40) (hd : decode cc pc = .ok (.getfield 15, 3)) (hw : Cond.fieldLink RJ0 15 "java/lang/String" "coder" "B" ∈ WG) (kk : SS G X nL k n (pc + 3) ls (i9 0 :: st) d x) : SS G X nL k n pc ls (sf G si :: st) d x :=
  fun r hr H locs la hH hS hL => vk_getf C.1 C.2.1 (str_at C h).1 hS C.2.2.2.1 (C.ws _ hw) (fun _ h => h) hd (kk r hr H locs la hH hS hL)
theorem r_scmp (C : CX G X cc nL RJ0 tb z9) (hd : decode cc pc = .ok (.getstatic 38, 3)) (hw : Cond.fieldLink RJ0 38 "java/lang/String" "COMPACT_STRINGS" "Z" ∈ WG) (kk : SS G X nL k n (pc + 3) ls (i9 1 :: st) d x) : SS G X nL k n pc ls st d x :=
  fun r hr H locs la hH hS hL => va_gets C.1 C.2.1 C.ev.2.2.2.2.2.2.1 hS C.2.2.2.1 (C.ws _ hw) (fun _ h => h) hd (kk r hr H locs la hH hS hL)
theorem r_sfmt (C : CX G X cc nL RJ0 tb z9) (hd : decode cc pc = .ok (.getstatic 1053, 3)) (hw : Cond.fieldLink RJ0 1053 "jdk/internal/util/Preconditions" "SIOOBE_FORMATTER" "Ljava/util/function/BiFunction;" ∈ WG) (kk : ∀ u : Value, u.category = 1 → SS G X nL k n (pc + 3) ls (u :: st) d x) : SS G X nL k n pc ls st d x := by
  intro r hr H locs la hH hS hL
  rcases C.ev.2.2.2.2.2.2.2 with h | ⟨t, h⟩
  · exact va_gets C.1 C.2.1 h hS C.2.2.2.1 (C.ws _ hw) (fun _ h => h) hd (kk _ rfl r hr H locs la hH hS hL)
  · exact va_gets C.1 C.2.1 h hS C.2.2.2.1 (C.ws _ hw) (fun _ h => h) hd (kk _ rfl r hr H locs la hH hS hL)
theorem r_blen (C : CX G X cc nL own tb z9) {si : Nat} (h : si < 40) (hd : decode cc pc = .ok (.arraylength, 1)) (kk : SS G X nL k n (pc + 1) ls (i9 (sl9 si) :: st) d x) : SS G X nL k n pc ls (bf G si :: st) d x :=
  fun r hr H locs la hH hS hL => va_tlen C.1 C.2.1 (str_at C h).2.2.1 hS (v := Int32.ofInt (sl9 si)) (Int32.ofInt_eq_ofNat).symm hd (kk r hr H locs la hH hS hL)
theorem r_bbyt (C : CX G X cc nL own tb z9) {si : Nat} {j : Int} (h : si < 40) (hin : 0 ≤ w32 j ∧ w32 j < sl9 si) (hd : decode cc pc = .ok (.baload, 1)) (kk : SS G X nL k n (pc + 1) ls (i9 (sb9 si (w32 j).toNat) :: st) d x) : SS G X nL k n pc ls (i9 j :: bf G si :: st) d x := by
  intro r hr H locs la hH hS hL
  exact va_tb C.1 C.2.1 (str_at C h).2.2.1 hS (in9 hin) (by rw [cn9]) hd (kk r hr H locs la hH hS hL)
theorem r_cret {mc ms fr lo : Nat} (C : CX G X cc nL own tb (some .char, 1, mc, ms, fr, lo)) {a : Int} (hd : decode cc pc = .ok (.ireturn, 1)) (hk : k ≤ mc) (hn : n ≤ ms) : SS G X nL k n pc ls [i9 a] d (rt (a % 65536) d) := by
  intro r hr H locs la hH hS hL
  cases hr
  obtain ⟨h1, h2, h3, h4, h5, h6⟩ := C.z
  unfold Q9
  rw [h6 (Nat.le_of_ble_eq_true rfl)]
  refine W.widen (k := mc) (n := ms) hk hn (vx_ret ?_)
  rw [show xK X = mc from h3, show xN X = ms from h4, show xV X = 1 from h2]
  exact W_zret C.1 C.2.1 h1 (v' := Int32.ofInt (a % 65536)) (by rw [← narC]; rfl) (fun t ht hw => ⟨⟨a % 65536, d, rfl, rfl, by rw [ht]; exact hH⟩, by rw [va_F, ht]; exact ⟨hS.1, hS.2.1⟩⟩) (fun q hq => hS.2.2 q hq) hd C.2.2.2.2.2.1
theorem r_bret {mc ms fr lo : Nat} (C : CX G X cc nL own tb (some .byte, 1, mc, ms, fr, lo)) {a : Int} (hd : decode cc pc = .ok (.ireturn, 1)) (hk : k ≤ mc) (hn : n ≤ ms) : SS G X nL k n pc ls [i9 a] d (rt (a.bmod 256) d) := by
  intro r hr H locs la hH hS hL
  cases hr
  obtain ⟨h1, h2, h3, h4, h5, h6⟩ := C.z
  unfold Q9
  rw [h6 (Nat.le_of_ble_eq_true rfl)]
  refine W.widen (k := mc) (n := ms) hk hn (vx_ret ?_)
  rw [show xK X = mc from h3, show xN X = ms from h4, show xV X = 1 from h2]
  exact W_zret C.1 C.2.1 h1 (v' := Int32.ofInt (a.bmod 256)) (by rw [← i2b_of]; rfl) (fun t ht hw => ⟨⟨a.bmod 256, d, rfl, rfl, by rw [ht]; exact hH⟩, by rw [va_F, ht]; exact ⟨hS.1, hS.2.1⟩⟩) (fun q hq => hS.2.2 q hq) hd C.2.2.2.2.2.1
/-- behind a run: the answer, or the throw that goes on -/
theorem r_run1 {f : Option R9} {K : Int → D9 → Option R9} {v mc ms : Nat} (C : CX G X cc nL own [] z9) (hv : z9.2.1 < 7) (hk : k + mc ≤ z9.2.2.1) (hn : n + ms ≤ z9.2.2.2.1) {st0 : List Value}
    (run : ∀ r', f = some r' → ∀ H locs la, HO G d H → va_S (A9 G) (xS X).heap H locs → lv_has la nL ls → vx_Run (xP X) (xL X) (xE X) (xR X) (xS X) (xM X) (xA X) (xB X) (xT X) (xC X) H locs k n mc ms (F0 (xM X) pc la st0) st (fun s o t => Qc9 G v r' #[] s o t) (Xc9 G r') (A9 G))
    (kk : ∀ a d', f = some (.inl a, d') → SS G X nL (k + mc) (n + ms) (pc + 3) ls ((rv9 v a).toList ++ st) d' (K a d')) : SS G X nL k n pc ls st0 d (cl f K) := by
  intro r hr H locs la hH hS hL
  cases hf : f with
  | none => rw [hf] at hr; cases hr
  | some r' =>
    intro T hT Y
    rw [hf] at hr
    rcases run r' hf H locs la hH hS hL T hT Y with ⟨v0, st₀, t, T', L, h0, X', hL2, e1, e2, ⟨⟨a, d', hr', ho, hHO⟩, hF⟩, go⟩ | ⟨q, st₀, t, T', L, E, ce, h0, X', hL2, e1, e2, ⟨⟨e, d', hr', hE, hHO⟩, hF⟩, hce, hcv, hcl, go⟩
    · subst hr'
      cases ho
      obtain ⟨k1, k2, k3⟩ := vx_keep h0 e1 hS (fun q _ h => h) (fun q h => h) hL2 hF
      obtain ⟨t2, a1, b1⟩ := kk a d' hf r hr T'.heap (locs ++ L) la (by rw [e1]; exact hHO) k3 hL T' rfl X'
      exact ⟨t2, go t2 a1, b1⟩
    · subst hr'
      cases hr
      obtain ⟨k1, k2, k3⟩ := vx_keep h0 e1 hS (fun q _ h => h) (fun q h => h) hL2 hF
      obtain ⟨z1, z2, z3, z4, z5, z6⟩ := C.z
      unfold Q9
      rw [z6 hv]
      have o := vx_out (p := xP X) (l := xL X) (e := xE X) (R := xR X) (s := xS X) (m := xM X) (args := xA X) (below := xB X) (meth := xT X) (c := xC X) (H := T'.heap) (locs := locs ++ L) (cells := k + mc) (slots := n + ms) (Qc := Qc9 G (xV X) (.inr e, d')) (XC := Xc9 G (.inr e, d')) (free := A9 G) (mc := xK X) (ms := xN X) (ls := la) (rest := st) (pc := pc) (E := E) (ce := ce) (q := q) (fun x hx => by rw [C.2.2.2.2.2.2.1] at hx; cases hx) C.2.2.2.2.2.1 (by rw [e1]; exact hce) hcv hcl
        (fun t' ht' ha => ⟨⟨e, d', rfl, hE, by rw [ht', e1]; exact hHO⟩, by rw [va_F, ht']; exact ⟨k3.1, k3.2.1⟩⟩) (fun z hz => k3.2.2 z hz) (by rw [z3]; exact hk) (by rw [z4]; exact hn)
      obtain ⟨t2, a1, b1⟩ := o T' rfl X'
      exact ⟨t2, go.trans a1, b1⟩
/-- a method of a text -/
theorem r_callT (C : CX G X cc nL own [] z9) {f : Option R9} {K : Int → D9 → Option R9} {i si np : Nat} {y : MethodName} {bytes : ByteArray} {maxL : Nat} {z : Z9} {As : List Value} (st0 : List Value) (hsi : si < 40) (hd : decode cc pc = .ok (.invokevirtual i, 3)) (hM : MT G (xL X) y bytes maxL z (sf G si :: As) d f) (hw : MW own i y bytes maxL z.1 np) (hw2 : Cond.instanceMethod y ∈ WG ∧ Cond.selects y.cls y y ∈ WG) (hc : y.cls = "java/lang/String")
    (hR : z.2.2.2.2.1 + 1 ≤ z9.2.2.2.2.1 ∧ 8 + (maxL + 11) + z.2.2.2.2.2 ≤ z9.2.2.2.2.2) (hk : k + z.2.2.1 ≤ z9.2.2.1) (hn : n + z.2.2.2.1 ≤ z9.2.2.2.1) (hl : As.length = np) (hs : As.reverse ++ sf G si :: st = st0) (hst : (st.map fun v => v.category).sum ≤ 8)
    (kk : ∀ v d', f = some (.inl v, d') → SS G X nL (k + z.2.2.1) (n + z.2.2.2.1) (pc + 3) ls ((rv9 z.2.1 v).toList ++ st) d' (K v d')) (hv : z9.2.1 < 7 := by exact Nat.le_of_ble_eq_true rfl) : SS G X nL k n pc ls st0 d (cl f K) := by
  subst hs
  refine r_run1 C hv hk hn (fun r' hf H locs la hH hS hL => ?_) kk
  have hcz := C.z.2.2.2.2.1
  refine vx_runV (As := As) (b := sK G si) (rest := st) (C := y.cls) ⟨C.1, C.2.1, C.2.2.1, C.2.2.2.1, C.ws⟩ (hM r' hf) ⟨callB9 C hw hR, C.ws _ hw2.1, C.ws _ hw2.2⟩ ⟨blind9, ?_, fun U hU hW => ⟨rfl, by rw [hU]; exact C.ev.go hS hW, by rw [hU]; exact hH⟩⟩ rfl hl hL.1 rfl (lv_room hst) hd ?_
  · rw [hc]
    obtain ⟨cell, h1, h2, h3, -⟩ := (str_at C hsi).2.2.2.kept hS.2.1
    exact ⟨cell, h1, h2, h3⟩
  · rw [hcz]; exact ⟨hk, hn⟩
def AW (own : String) (i : Nat) : Prop := Cond.methodLink own i arraycopyName ∈ WG ∧ Cond.native arraycopyName ∈ WG ∧ Cond.static arraycopyName ∈ WG ∧ Cond.initialized "java/lang/System" ∈ WG
theorem r_acopy (C : CX G X cc nL own tb z9) {a m b m' i : Nat} {v : Int} {K : D9 → Option R9} (hd : decode cc pc = .ok (.invokestatic i, 3)) (hw : AW own i) (ha : a < NC) (hk : lay a = (1, m)) (hb : b < NC) (hk' : lay b = (1, m')) (hf : 1 ≤ z9.2.2.2.2.1) (hl : (st.map fun v => v.category).sum + (nativeFrameWords "java/lang/System" "arraycopy" 5 + 11) ≤ z9.2.2.2.2.2) (kk : ∀ d', SS G X nL k n (pc + 3) ls st d' (K d')) : SS G X nL k n pc ls (i9 v :: i9 0 :: rf G b :: i9 0 :: rf G a :: st) d (cp9 d a m b m' v K) := by
  intro r hr H locs la hH hS hL
  unfold cp9 at hr
  split at hr
  case isFalse => cases hr
  rename_i hin
  obtain ⟨w1, w2, w3, w4⟩ := hw
  have z5 := C.z.2.2.2.2.1
  refine va_copyi C.1 C.2.1 (C.2.2.1.trans hL.1.symm) C.2.2.2.1 (C.ws _ w1) (C.ws _ w2) (C.ws _ w3) (C.ws _ w4) C.ev.1 hH (C.dd d) hS a b 0 0 (by rw [wl_at ha, ent_i hk]) (by rw [wl_at hb, ent_i hk']) rfl rfl rfl (sp := Int32.ofInt 0) (dp := Int32.ofInt 0) (n := Int32.ofInt v) (by decide) (by decide) (by rw [lt9z]; omega) ?_ ?_ (fun _ _ => rfl) (by rw [z5]; exact hf) (by rw [z5]; exact hl) hd (fun H1 locs1 hP1 hD1 hS1 => ?_)
  · rw [cn9, cn9, show w32 0 = 0 from rfl]; omega
  · rw [cn9, cn9, show w32 0 = 0 from rfl]; omega
  · rw [cn9, cn9, show (w32 0).toNat = 0 from rfl, wl_setG (d := d) (d' := cpy d a b (w32 v).toNat) (k := b) (fun k' hk' => by funext j; simp [cpy, hk']) (by
      rw [ent_i hk']
      congr 3
      apply congrArg
      funext j
      simp only [cpy, va_cpy]
      by_cases h : j < (w32 v).toNat
      · simp [h]
      · simp [h])] at hP1
    exact kk _ r hr H1 locs1 la hP1 hS1 hL
end RS

def max9 (a b : Int) : Int := if w32 a < w32 b then b else a
def min9 (a b : Int) : Int := if w32 b < w32 a then b else a
def abs9 (a : Int) : Int := if 0 ≤ w32 a then a else 0 - a
def maxL9 (a b : Int) : Int := if w64 b < w64 a then a else b
def MM (own : String) (i : Nat) (y : MethodName) (bytes : ByteArray) (nl : Nat) (ret : FieldType) : Prop := Cond.methodLink own i y ∈ WG ∧ Cond.static y ∈ WG ∧ Cond.initialized "java/lang/Math" ∈ WG ∧ Cond.code y bytes nl (some ret) ∈ WG
section RMM
variable {G : G9} {X : X9} {nL k n pc : Nat} {ls : List (Nat × Value)} {st : List Value} {d : D9} {x y : Option R9} {cc : ByteArray} {own : String} {tb : List ExceptionTableEntry} {z9 : Z9}
theorem r_ldcIW (C : CX G X cc nL own tb z9) {i : Nat} {a : Int} (hd : decode cc pc = .ok (.ldc_w i, 3)) (hw : Cond.constant own i (Int32.ofInt a) ∈ WG) (kk : SS G X nL k n (pc + 3) ls (i9 a :: st) d x) : SS G X nL k n pc ls st d x :=
  fun r hr H locs la hH hS hL => lv_ldcw C.1 C.2.1 C.2.2.2.1 (C.ws _ hw) hd (kk r hr H locs la hH hS hL)
theorem r_mmax (C : CX G X cc nL own tb z9) {a b : Int} {i : Nat} (hd : decode cc pc = .ok (.invokestatic i, 3)) (hw : MM own i Lib.Math.max.name Lib.Math.max.code 2 .int) (hR : 1 ≤ z9.2.2.2.2.1 ∧ (st.map fun v => v.category).sum + 13 ≤ z9.2.2.2.2.2) (hk : k ≤ z9.2.2.1) (hn : n ≤ z9.2.2.2.1) (kk : SS G X nL k n (pc + 3) ls (i9 (max9 a b) :: st) d x) : SS G X nL k n pc ls (i9 b :: i9 a :: st) d x := by
  intro r hr H locs la hH hS hL
  have z5 := C.z.2.2.2.2.1
  have kk := kk r hr H locs la hH hS hL
  refine va_mmax C.1 C.2.1 (C.2.2.1.trans hL.1.symm) C.2.2.2.1 (C.ws _ hw.1) (C.ws _ hw.2.1) (C.ws _ hw.2.2.1) (C.ws _ hw.2.2.2) (by rw [z5]; exact hR.1) (by rw [z5]; exact hR.2) (by rw [z5]; exact hk) (by rw [z5]; exact hn) hd ?_
  have e : (if Int32.ofInt a < Int32.ofInt b then Int32.ofInt b else Int32.ofInt a) = Int32.ofInt (max9 a b) := by
    unfold max9
    by_cases h : w32 a < w32 b
    · rw [if_pos h, if_pos ((lt9 a b).mpr h)]
    · rw [if_neg h, if_neg (fun q => h ((lt9 a b).mp q))]
  rw [e]; exact kk
theorem r_mmin (C : CX G X cc nL own tb z9) {a b : Int} {i : Nat} (hd : decode cc pc = .ok (.invokestatic i, 3)) (hw : MM own i Lib.Math.min.name Lib.Math.min.code 2 .int) (hR : 1 ≤ z9.2.2.2.2.1 ∧ (st.map fun v => v.category).sum + 13 ≤ z9.2.2.2.2.2) (hk : k ≤ z9.2.2.1) (hn : n ≤ z9.2.2.2.1) (kk : SS G X nL k n (pc + 3) ls (i9 (min9 a b) :: st) d x) : SS G X nL k n pc ls (i9 b :: i9 a :: st) d x := by
  intro r hr H locs la hH hS hL
  have z5 := C.z.2.2.2.2.1
  have kk := kk r hr H locs la hH hS hL
  refine va_mmin C.1 C.2.1 (C.2.2.1.trans hL.1.symm) C.2.2.2.1 (C.ws _ hw.1) (C.ws _ hw.2.1) (C.ws _ hw.2.2.1) (C.ws _ hw.2.2.2) (by rw [z5]; exact hR.1) (by rw [z5]; exact hR.2) (by rw [z5]; exact hk) (by rw [z5]; exact hn) hd ?_
  have e : (if Int32.ofInt b < Int32.ofInt a then Int32.ofInt b else Int32.ofInt a) = Int32.ofInt (min9 a b) := by
    unfold min9
    by_cases h : w32 b < w32 a
    · rw [if_pos h, if_pos ((lt9 b a).mpr h)]
    · rw [if_neg h, if_neg (fun q => h ((lt9 b a).mp q))]
  rw [e]; exact kk
theorem r_mabs (C : CX G X cc nL own tb z9) {a : Int} {i : Nat} (hd : decode cc pc = .ok (.invokestatic i, 3)) (hw : MM own i Lib.Math.abs.name Lib.Math.abs.code 1 .int) (hR : 1 ≤ z9.2.2.2.2.1 ∧ (st.map fun v => v.category).sum + 13 ≤ z9.2.2.2.2.2) (hk : k ≤ z9.2.2.1) (hn : n ≤ z9.2.2.2.1) (kk : SS G X nL k n (pc + 3) ls (i9 (abs9 a) :: st) d x) : SS G X nL k n pc ls (i9 a :: st) d x := by
  intro r hr H locs la hH hS hL
  have z5 := C.z.2.2.2.2.1
  have kk := kk r hr H locs la hH hS hL
  refine va_mabs C.1 C.2.1 (C.2.2.1.trans hL.1.symm) C.2.2.2.1 (C.ws _ hw.1) (C.ws _ hw.2.1) (C.ws _ hw.2.2.1) (C.ws _ hw.2.2.2) (by rw [z5]; exact hR.1) (by rw [z5]; exact hR.2) (by rw [z5]; exact hk) (by rw [z5]; exact hn) hd ?_
  have e : (if 0 ≤ Int32.ofInt a then Int32.ofInt a else 0 - Int32.ofInt a) = Int32.ofInt (abs9 a) := by
    unfold abs9
    by_cases h : 0 ≤ w32 a
    · rw [if_pos h, if_pos ((ge9z a).mpr h)]
    · rw [if_neg h, if_neg (fun q => h ((ge9z a).mp q)), Int32.ofInt_sub]; rfl
  rw [e]; exact kk
theorem r_mmaxL (C : CX G X cc nL own tb z9) {a b : Int} {i : Nat} (hd : decode cc pc = .ok (.invokestatic i, 3)) (hw : MM own i Lib.MathLoose.max_long.x Lib.MathLoose.max_long.code 4 .long) (hR : 1 ≤ z9.2.2.2.2.1 ∧ (st.map fun v => v.category).sum + 15 ≤ z9.2.2.2.2.2) (hk : k ≤ z9.2.2.1) (hn : n ≤ z9.2.2.2.1) (kk : SS G X nL k n (pc + 3) ls (l9 (maxL9 a b) :: st) d x) : SS G X nL k n pc ls (l9 b :: l9 a :: st) d x := by
  intro r hr H locs la hH hS hL
  have z5 := C.z.2.2.2.2.1
  have kk := kk r hr H locs la hH hS hL
  refine va_mmax_long C.1 C.2.1 (C.2.2.1.trans hL.1.symm) C.2.2.2.1 (C.ws _ hw.1) (C.ws _ hw.2.1) (C.ws _ hw.2.2.1) (C.ws _ hw.2.2.2) (by rw [z5]; exact hR.1) (by rw [z5]; exact hR.2) (by rw [z5]; exact hk) (by rw [z5]; exact hn) hd ?_
  have e : (if Int64.ofInt b < Int64.ofInt a then Int64.ofInt a else Int64.ofInt b) = Int64.ofInt (maxL9 a b) := by
    unfold maxL9
    by_cases h : w64 b < w64 a
    · rw [if_pos h, if_pos ((ltL b a).mpr h)]
    · rw [if_neg h, if_neg (fun q => h ((ltL b a).mp q))]
  rw [e]; exact kk
end RMM

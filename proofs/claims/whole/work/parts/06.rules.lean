def sh9 (b : Int) : Nat := (w32 b % 32).toNat
def sh6 (b : Int) : Nat := (w32 b % 64).toNat
def shl9 (a b : Int) : Int := a * 2 ^ sh9 b
def shr9 (a b : Int) : Int := w32 a / 2 ^ sh9 b
def ush9 (a b : Int) : Int := (w32 a % 4294967296) / 2 ^ sh9 b
def and9 (a b : Int) : Int := (Int32.ofInt a &&& Int32.ofInt b).toInt
def or9 (a b : Int) : Int := (Int32.ofInt a ||| Int32.ofInt b).toInt
def xor9 (a b : Int) : Int := (Int32.ofInt a ^^^ Int32.ofInt b).toInt
def div9 (a b : Int) : Int := (w32 a).tdiv (w32 b)
def rem9 (a b : Int) : Int := (w32 a).tmod (w32 b)
def andL (a b : Int) : Int := (Int64.ofInt a &&& Int64.ofInt b).toInt
def orL (a b : Int) : Int := (Int64.ofInt a ||| Int64.ofInt b).toInt
def shlL (a b : Int) : Int := a * 2 ^ sh6 b
def shrL (a b : Int) : Int := w64 a / 2 ^ sh6 b
def divL (a b : Int) : Int := (w64 a).tdiv (w64 b)
def remL (a b : Int) : Int := (w64 a).tmod (w64 b)
theorem w32_of (a : Int) : (Int32.ofInt a).toInt = w32 a := Int32.toInt_ofInt
theorem w64_of (a : Int) : (Int64.ofInt a).toInt = w64 a := Int64.toInt_ofInt
theorem of_w32 (a : Int) : Int32.ofInt (w32 a) = Int32.ofInt a := by rw [← w32_of, Int32.ofInt_toInt]
theorem of_w64 (a : Int) : Int64.ofInt (w64 a) = Int64.ofInt a := by rw [← w64_of, Int64.ofInt_toInt]
theorem w32_id {a : Int} (h : -2147483648 ≤ a ∧ a ≤ 2147483647) : w32 a = a := by unfold w32; rw [Int.bmod_def]; split <;> omega
theorem w64_id {a : Int} (h : -9223372036854775808 ≤ a ∧ a ≤ 9223372036854775807) : w64 a = a := by unfold w64; rw [Int.bmod_def]; split <;> omega
theorem w32_rng (a : Int) : -2147483648 ≤ w32 a ∧ w32 a ≤ 2147483647 := by unfold w32; rw [Int.bmod_def]; split <;> omega
theorem w64_rng (a : Int) : -9223372036854775808 ≤ w64 a ∧ w64 a ≤ 9223372036854775807 := by unfold w64; rw [Int.bmod_def]; split <;> omega
theorem w32_w32 (a : Int) : w32 (w32 a) = w32 a := w32_id (w32_rng a)
theorem lt9 (a b : Int) : Int32.ofInt a < Int32.ofInt b ↔ w32 a < w32 b := by rw [Int32.lt_iff_toInt_lt, w32_of, w32_of]
theorem le9 (a b : Int) : Int32.ofInt a ≤ Int32.ofInt b ↔ w32 a ≤ w32 b := by rw [Int32.le_iff_toInt_le, w32_of, w32_of]
theorem eq9 (a b : Int) : Int32.ofInt a = Int32.ofInt b ↔ w32 a = w32 b := by rw [← Int32.toInt_inj, w32_of, w32_of]
theorem eq9z (a : Int) : Int32.ofInt a = 0 ↔ w32 a = 0 := by rw [← w32_of, ← Int32.toInt_inj]; rfl
theorem lt9z (a : Int) : Int32.ofInt a < 0 ↔ w32 a < 0 := by rw [← w32_of, Int32.lt_iff_toInt_lt]; rfl
theorem le9z (a : Int) : Int32.ofInt a ≤ 0 ↔ w32 a ≤ 0 := by rw [← w32_of, Int32.le_iff_toInt_le]; rfl
theorem gt9z (a : Int) : 0 < Int32.ofInt a ↔ 0 < w32 a := by rw [← w32_of, Int32.lt_iff_toInt_lt]; rfl
theorem ge9z (a : Int) : 0 ≤ Int32.ofInt a ↔ 0 ≤ w32 a := by rw [← w32_of, Int32.le_iff_toInt_le]; rfl
theorem in9 {j : Int} {n : Nat} (h : 0 ≤ w32 j ∧ w32 j < n) : vp_in (Int32.ofInt j) n := by
  intro q
  rcases q with q | q
  · rw [lt9z] at q; omega
  · rw [Int32.toNatClampNeg, w32_of] at q; omega
theorem cn9 (j : Int) : (Int32.ofInt j).toNatClampNeg = (w32 j).toNat := by rw [Int32.toNatClampNeg, w32_of]
theorem div9_of {a b : Int} : Int32.ofInt (div9 a b) = Int32.ofInt a / Int32.ofInt b := by
  rw [← Int32.ofInt_toInt (Int32.ofInt a / Int32.ofInt b), Int32.toInt_div, w32_of, w32_of]
  exact (of_w32 _).symm
theorem divL_of {a b : Int} : Int64.ofInt (divL a b) = Int64.ofInt a / Int64.ofInt b := by
  rw [← Int64.ofInt_toInt (Int64.ofInt a / Int64.ofInt b), Int64.toInt_div, w64_of, w64_of]
  exact (of_w64 _).symm
theorem rem9_of {a b : Int} : Int32.ofInt (rem9 a b) = Int32.ofInt a - Int32.ofInt a / Int32.ofInt b * Int32.ofInt b := by
  rw [← div9_of, ← of_w32 a, ← of_w32 b, ← Int32.ofInt_mul, ← Int32.ofInt_sub]
  congr 1
  unfold rem9 div9
  rw [Int.tmod_def, Int.mul_comm]
theorem remL_of {a b : Int} : Int64.ofInt (remL a b) = Int64.ofInt a - Int64.ofInt a / Int64.ofInt b * Int64.ofInt b := by
  rw [← divL_of, ← of_w64 a, ← of_w64 b, ← Int64.ofInt_mul, ← Int64.ofInt_sub]
  congr 1
  unfold remL divL
  rw [Int.tmod_def, Int.mul_comm]
theorem i2l9 (a : Int) : (Int32.ofInt a).toInt64 = Int64.ofInt (w32 a) := by
  apply Int64.toInt_inj.mp
  have h := w32_rng a
  rw [Int32.toInt_toInt64, w32_of, w64_of, w64_id (by omega)]
section RU
variable {G : G9} {X : X9} {nL k n pc : Nat} {ls : List (Nat × Value)} {st : List Value} {d : D9} {x y : Option R9} {cc : ByteArray} {own : String} {tb : List ExceptionTableEntry} {z9 : Z9}
theorem ss_none : SS G X nL k n pc ls st d none := fun _ h => nomatch h
theorem r_iconst (C : CX G X cc nL own tb z9) {a : Int} (hd : decode cc pc = .ok (.iconst a, 1)) (kk : SS G X nL k n (pc + 1) ls (i9 a :: st) d x) : SS G X nL k n pc ls (st) d x :=
  fun r hr H locs la hH hS hL => by
    have kk := kk r hr H locs la hH hS hL
    exact lv_iconst C.1 C.2.1 hd rfl kk
theorem r_bipush (C : CX G X cc nL own tb z9) {a : Int} (hd : decode cc pc = .ok (.bipush a, 2)) (hv : (Int8.ofInt a).toInt32 = Int32.ofInt a) (kk : SS G X nL k n (pc + 2) ls (i9 a :: st) d x) : SS G X nL k n pc ls (st) d x :=
  fun r hr H locs la hH hS hL => by
    have kk := kk r hr H locs la hH hS hL
    exact lv_bipush C.1 C.2.1 hd hv kk
theorem r_sipush (C : CX G X cc nL own tb z9) {a : Int} (hd : decode cc pc = .ok (.sipush a, 3)) (hv : (Int16.ofInt a).toInt32 = Int32.ofInt a) (kk : SS G X nL k n (pc + 3) ls (i9 a :: st) d x) : SS G X nL k n pc ls (st) d x :=
  fun r hr H locs la hH hS hL => by
    have kk := kk r hr H locs la hH hS hL
    exact lv_sipush C.1 C.2.1 hd hv kk
theorem r_lconst (C : CX G X cc nL own tb z9) {q : Fin 2} {a : Int} (hd : decode cc pc = .ok (.lconst q, 1)) (hv : Int64.ofNat (q : Nat) = Int64.ofInt a) (kk : SS G X nL k n (pc + 1) ls (l9 a :: st) d x) : SS G X nL k n pc ls (st) d x :=
  fun r hr H locs la hH hS hL => by
    have kk := kk r hr H locs la hH hS hL
    exact lv_lconst C.1 C.2.1 hd hv kk
theorem r_ldcI (C : CX G X cc nL own tb z9) {i : Nat} {a : Int} (hd : decode cc pc = .ok (.ldc i, 2)) (hw : Cond.constant own i (Int32.ofInt a) ∈ WG) (kk : SS G X nL k n (pc + 2) ls (i9 a :: st) d x) : SS G X nL k n pc ls (st) d x :=
  fun r hr H locs la hH hS hL => by
    have kk := kk r hr H locs la hH hS hL
    exact lv_ldc C.1 C.2.1 C.2.2.2.1 (C.2.2.2.2.1 _ hw) hd kk
theorem r_ldcL (C : CX G X cc nL own tb z9) {i : Nat} {a : Int} (hd : decode cc pc = .ok (.ldc2_w i, 3)) (hw : Cond.constantLong own i (Int64.ofInt a) ∈ WG) (kk : SS G X nL k n (pc + 3) ls (l9 a :: st) d x) : SS G X nL k n pc ls (st) d x :=
  fun r hr H locs la hH hS hL => by
    have kk := kk r hr H locs la hH hS hL
    exact lv_ldc2 C.1 C.2.1 C.2.2.2.1 (C.2.2.2.2.1 _ hw) hd kk
theorem r_iload_n (C : CX G X cc nL own tb z9) {q : Fin 4} {i : Nat} {a : Int} (z : Nat) (hd : decode cc pc = .ok (.iload_n q, 1)) (hi : (q : Nat) = i) (hl : ls[z]? = some (i, i9 a)) (kk : SS G X nL k n (pc + 1) ls (i9 a :: st) d x) : SS G X nL k n pc ls st d x :=
  fun r hr H locs la hH hS hL => lv_iload_n C.1 C.2.1 hd hi (lv_at hL z hl) (kk r hr H locs la hH hS hL)
theorem r_iload (C : CX G X cc nL own tb z9) {i : Nat} {a : Int} (z : Nat) (hd : decode cc pc = .ok (.iload i, 2)) (hl : ls[z]? = some (i, i9 a)) (kk : SS G X nL k n (pc + 2) ls (i9 a :: st) d x) : SS G X nL k n pc ls st d x :=
  fun r hr H locs la hH hS hL => lv_iload C.1 C.2.1 hd (lv_at hL z hl) (kk r hr H locs la hH hS hL)
theorem r_lload_n (C : CX G X cc nL own tb z9) {q : Fin 4} {i : Nat} {a : Int} (z : Nat) (hd : decode cc pc = .ok (.lload_n q, 1)) (hi : (q : Nat) = i) (hl : ls[z]? = some (i, l9 a)) (kk : SS G X nL k n (pc + 1) ls (l9 a :: st) d x) : SS G X nL k n pc ls st d x :=
  fun r hr H locs la hH hS hL => lv_lload_n C.1 C.2.1 hd hi (lv_at hL z hl) (kk r hr H locs la hH hS hL)
theorem r_lload (C : CX G X cc nL own tb z9) {i : Nat} {a : Int} (z : Nat) (hd : decode cc pc = .ok (.lload i, 2)) (hl : ls[z]? = some (i, l9 a)) (kk : SS G X nL k n (pc + 2) ls (l9 a :: st) d x) : SS G X nL k n pc ls st d x :=
  fun r hr H locs la hH hS hL => lv_lload C.1 C.2.1 hd (lv_at hL z hl) (kk r hr H locs la hH hS hL)
theorem r_aload_n (C : CX G X cc nL own tb z9) {q : Fin 4} {i a : Nat} (z : Nat) (hd : decode cc pc = .ok (.aload_n q, 1)) (hi : (q : Nat) = i) (hl : ls[z]? = some (i, rf G a)) (kk : SS G X nL k n (pc + 1) ls (rf G a :: st) d x) : SS G X nL k n pc ls st d x :=
  fun r hr H locs la hH hS hL => lv_aload_n C.1 C.2.1 hd hi (lv_at hL z hl) (kk r hr H locs la hH hS hL)
theorem r_aload (C : CX G X cc nL own tb z9) {i a : Nat} (z : Nat) (hd : decode cc pc = .ok (.aload i, 2)) (hl : ls[z]? = some (i, rf G a)) (kk : SS G X nL k n (pc + 2) ls (rf G a :: st) d x) : SS G X nL k n pc ls st d x :=
  fun r hr H locs la hH hS hL => lv_aload C.1 C.2.1 hd (lv_at hL z hl) (kk r hr H locs la hH hS hL)
theorem r_istore_n (C : CX G X cc nL own tb z9) {q : Fin 4} {i : Nat} {a : Int} (ls' : List (Nat × Value)) (hd : decode cc pc = .ok (.istore_n q, 1)) (hi : (q : Nat) = i) (hn : i < nL) (hl : (i, i9 a) :: ls.filter (fun q => !(q.1 == i) && !(q.1 + 1 == i && q.2.category == 2)) = ls') (kk : SS G X nL k n (pc + 1) ls' st d x) : SS G X nL k n pc ls (i9 a :: st) d x :=
  fun r hr H locs la hH hS hL => lv_istore_n C.1 C.2.1 hd hi hL hn hl (fun la' hL' => kk r hr H locs la' hH hS hL')
theorem r_istore (C : CX G X cc nL own tb z9) {i : Nat} {a : Int} (ls' : List (Nat × Value)) (hd : decode cc pc = .ok (.istore i, 2)) (hn : i < nL) (hl : (i, i9 a) :: ls.filter (fun q => !(q.1 == i) && !(q.1 + 1 == i && q.2.category == 2)) = ls') (kk : SS G X nL k n (pc + 2) ls' st d x) : SS G X nL k n pc ls (i9 a :: st) d x :=
  fun r hr H locs la hH hS hL => lv_istore C.1 C.2.1 hd hL hn hl (fun la' hL' => kk r hr H locs la' hH hS hL')
theorem r_lstore_n (C : CX G X cc nL own tb z9) {q : Fin 4} {i : Nat} {a : Int} (ls' : List (Nat × Value)) (hd : decode cc pc = .ok (.lstore_n q, 1)) (hi : (q : Nat) = i) (hn : i + 1 < nL) (hl : (i, l9 a) :: ls.filter (fun q => !(q.1 == i) && (!(q.1 == i + 1) && !(q.1 + 1 == i && q.2.category == 2))) = ls') (kk : SS G X nL k n (pc + 1) ls' st d x) : SS G X nL k n pc ls (l9 a :: st) d x :=
  fun r hr H locs la hH hS hL => lv_lstore_n C.1 C.2.1 hd hi hL hn hl (fun la' hL' => kk r hr H locs la' hH hS hL')
theorem r_lstore (C : CX G X cc nL own tb z9) {i : Nat} {a : Int} (ls' : List (Nat × Value)) (hd : decode cc pc = .ok (.lstore i, 2)) (hn : i + 1 < nL) (hl : (i, l9 a) :: ls.filter (fun q => !(q.1 == i) && (!(q.1 == i + 1) && !(q.1 + 1 == i && q.2.category == 2))) = ls') (kk : SS G X nL k n (pc + 2) ls' st d x) : SS G X nL k n pc ls (l9 a :: st) d x :=
  fun r hr H locs la hH hS hL => lv_lstore C.1 C.2.1 hd hL hn hl (fun la' hL' => kk r hr H locs la' hH hS hL')
theorem r_astore_n (C : CX G X cc nL own tb z9) {q : Fin 4} {i : Nat} {a : Nat} (ls' : List (Nat × Value)) (hd : decode cc pc = .ok (.astore_n q, 1)) (hi : (q : Nat) = i) (hn : i < nL) (hl : (i, rf G a) :: ls.filter (fun q => !(q.1 == i) && !(q.1 + 1 == i && q.2.category == 2)) = ls') (kk : SS G X nL k n (pc + 1) ls' st d x) : SS G X nL k n pc ls (rf G a :: st) d x :=
  fun r hr H locs la hH hS hL => lv_astore_n C.1 C.2.1 hd hi hL hn hl (fun la' hL' => kk r hr H locs la' hH hS hL')
theorem r_astore (C : CX G X cc nL own tb z9) {i : Nat} {a : Nat} (ls' : List (Nat × Value)) (hd : decode cc pc = .ok (.astore i, 2)) (hn : i < nL) (hl : (i, rf G a) :: ls.filter (fun q => !(q.1 == i) && !(q.1 + 1 == i && q.2.category == 2)) = ls') (kk : SS G X nL k n (pc + 2) ls' st d x) : SS G X nL k n pc ls (rf G a :: st) d x :=
  fun r hr H locs la hH hS hL => lv_astore C.1 C.2.1 hd hL hn hl (fun la' hL' => kk r hr H locs la' hH hS hL')
theorem r_iinc (C : CX G X cc nL own tb z9) {i : Nat} {a b : Int} (z : Nat) (ls' : List (Nat × Value)) (hd : decode cc pc = .ok (.iinc i b, 3)) (hz : ls[z]? = some (i, i9 a)) (hn : i < nL) (hl : (i, i9 (a + b)) :: ls.filter (fun q => !(q.1 == i) && !(q.1 + 1 == i && q.2.category == 2)) = ls') (kk : SS G X nL k n (pc + 3) ls' st d x) : SS G X nL k n pc ls st d x :=
  fun r hr H locs la hH hS hL => lv_iinc C.1 C.2.1 hd hL hz (Int32.ofInt_add a b).symm hn hl (fun la' hL' => kk r hr H locs la' hH hS hL')
theorem r_iadd (C : CX G X cc nL own tb z9) {a b : Int} (hd : decode cc pc = .ok (.iadd, 1)) (kk : SS G X nL k n (pc + 1) ls (i9 (a + b) :: st) d x) : SS G X nL k n pc ls (i9 b :: i9 a :: st) d x :=
  fun r hr H locs la hH hS hL => by
    have kk := kk r hr H locs la hH hS hL
    unfold i9 at kk; rw [Int32.ofInt_add] at kk; exact lv_iadd C.1 C.2.1 hd kk
theorem r_ladd (C : CX G X cc nL own tb z9) {a b : Int} (hd : decode cc pc = .ok (.ladd, 1)) (kk : SS G X nL k n (pc + 1) ls (l9 (a + b) :: st) d x) : SS G X nL k n pc ls (l9 b :: l9 a :: st) d x :=
  fun r hr H locs la hH hS hL => by
    have kk := kk r hr H locs la hH hS hL
    unfold l9 at kk; rw [Int64.ofInt_add] at kk; exact lv_ladd C.1 C.2.1 hd kk
theorem r_isub (C : CX G X cc nL own tb z9) {a b : Int} (hd : decode cc pc = .ok (.isub, 1)) (kk : SS G X nL k n (pc + 1) ls (i9 (a - b) :: st) d x) : SS G X nL k n pc ls (i9 b :: i9 a :: st) d x :=
  fun r hr H locs la hH hS hL => by
    have kk := kk r hr H locs la hH hS hL
    unfold i9 at kk; rw [Int32.ofInt_sub] at kk; exact lv_isub C.1 C.2.1 hd kk
theorem r_lsub (C : CX G X cc nL own tb z9) {a b : Int} (hd : decode cc pc = .ok (.lsub, 1)) (kk : SS G X nL k n (pc + 1) ls (l9 (a - b) :: st) d x) : SS G X nL k n pc ls (l9 b :: l9 a :: st) d x :=
  fun r hr H locs la hH hS hL => by
    have kk := kk r hr H locs la hH hS hL
    unfold l9 at kk; rw [Int64.ofInt_sub] at kk; exact lv_lsub C.1 C.2.1 hd kk
theorem r_imul (C : CX G X cc nL own tb z9) {a b : Int} (hd : decode cc pc = .ok (.imul, 1)) (kk : SS G X nL k n (pc + 1) ls (i9 (a * b) :: st) d x) : SS G X nL k n pc ls (i9 b :: i9 a :: st) d x :=
  fun r hr H locs la hH hS hL => by
    have kk := kk r hr H locs la hH hS hL
    unfold i9 at kk; rw [Int32.ofInt_mul] at kk; exact lv_imul C.1 C.2.1 hd kk
theorem r_lmul (C : CX G X cc nL own tb z9) {a b : Int} (hd : decode cc pc = .ok (.lmul, 1)) (kk : SS G X nL k n (pc + 1) ls (l9 (a * b) :: st) d x) : SS G X nL k n pc ls (l9 b :: l9 a :: st) d x :=
  fun r hr H locs la hH hS hL => by
    have kk := kk r hr H locs la hH hS hL
    unfold l9 at kk; rw [Int64.ofInt_mul] at kk; exact lv_lmul C.1 C.2.1 hd kk
theorem r_iand (C : CX G X cc nL own tb z9) {a b : Int} (hd : decode cc pc = .ok (.iand, 1)) (kk : SS G X nL k n (pc + 1) ls (i9 (and9 a b) :: st) d x) : SS G X nL k n pc ls (i9 b :: i9 a :: st) d x :=
  fun r hr H locs la hH hS hL => by
    have kk := kk r hr H locs la hH hS hL
    unfold i9 and9 at kk; rw [Int32.ofInt_toInt] at kk; exact lv_iand C.1 C.2.1 hd kk
theorem r_ior (C : CX G X cc nL own tb z9) {a b : Int} (hd : decode cc pc = .ok (.ior, 1)) (kk : SS G X nL k n (pc + 1) ls (i9 (or9 a b) :: st) d x) : SS G X nL k n pc ls (i9 b :: i9 a :: st) d x :=
  fun r hr H locs la hH hS hL => by
    have kk := kk r hr H locs la hH hS hL
    unfold i9 or9 at kk; rw [Int32.ofInt_toInt] at kk; exact lv_ior C.1 C.2.1 hd kk
theorem r_ixor (C : CX G X cc nL own tb z9) {a b : Int} (hd : decode cc pc = .ok (.ixor, 1)) (kk : SS G X nL k n (pc + 1) ls (i9 (xor9 a b) :: st) d x) : SS G X nL k n pc ls (i9 b :: i9 a :: st) d x :=
  fun r hr H locs la hH hS hL => by
    have kk := kk r hr H locs la hH hS hL
    unfold i9 xor9 at kk; rw [Int32.ofInt_toInt] at kk; exact lv_ixor C.1 C.2.1 hd kk
theorem r_land (C : CX G X cc nL own tb z9) {a b : Int} (hd : decode cc pc = .ok (.land, 1)) (kk : SS G X nL k n (pc + 1) ls (l9 (andL a b) :: st) d x) : SS G X nL k n pc ls (l9 b :: l9 a :: st) d x :=
  fun r hr H locs la hH hS hL => by
    have kk := kk r hr H locs la hH hS hL
    unfold l9 andL at kk; rw [Int64.ofInt_toInt] at kk; exact lv_land C.1 C.2.1 hd kk
theorem r_lor (C : CX G X cc nL own tb z9) {a b : Int} (hd : decode cc pc = .ok (.lor, 1)) (kk : SS G X nL k n (pc + 1) ls (l9 (orL a b) :: st) d x) : SS G X nL k n pc ls (l9 b :: l9 a :: st) d x :=
  fun r hr H locs la hH hS hL => by
    have kk := kk r hr H locs la hH hS hL
    unfold l9 orL at kk; rw [Int64.ofInt_toInt] at kk; exact lv_lor C.1 C.2.1 hd kk
theorem r_ineg (C : CX G X cc nL own tb z9) {a : Int} (hd : decode cc pc = .ok (.ineg, 1)) (kk : SS G X nL k n (pc + 1) ls (i9 (-a) :: st) d x) : SS G X nL k n pc ls (i9 a :: st) d x :=
  fun r hr H locs la hH hS hL => by
    have kk := kk r hr H locs la hH hS hL
    unfold i9 at kk; rw [Int32.ofInt_neg] at kk; exact lv_ineg C.1 C.2.1 hd kk
theorem r_idiv (C : CX G X cc nL own tb z9) {a b : Int} (hd : decode cc pc = .ok (.idiv, 1)) (hb : w32 b ≠ 0) (kk : SS G X nL k n (pc + 1) ls (i9 (div9 a b) :: st) d x) : SS G X nL k n pc ls (i9 b :: i9 a :: st) d x :=
  fun r hr H locs la hH hS hL => by
    have kk := kk r hr H locs la hH hS hL
    unfold i9 at kk; rw [div9_of] at kk; exact lv_idiv C.1 C.2.1 hd (fun e => hb ((eq9z b).mp e)) kk
theorem r_ldiv (C : CX G X cc nL own tb z9) {a b : Int} (hd : decode cc pc = .ok (.ldiv, 1)) (hb : w64 b ≠ 0) (kk : SS G X nL k n (pc + 1) ls (l9 (divL a b) :: st) d x) : SS G X nL k n pc ls (l9 b :: l9 a :: st) d x :=
  fun r hr H locs la hH hS hL => by
    have kk := kk r hr H locs la hH hS hL
    unfold l9 at kk; rw [divL_of] at kk; exact lv_ldiv C.1 C.2.1 hd (fun e => hb (by rw [← w64_of, e]; rfl)) kk
theorem r_irem (C : CX G X cc nL own tb z9) {a b : Int} (hd : decode cc pc = .ok (.irem, 1)) (hb : w32 b ≠ 0) (kk : SS G X nL k n (pc + 1) ls (i9 (rem9 a b) :: st) d x) : SS G X nL k n pc ls (i9 b :: i9 a :: st) d x :=
  fun r hr H locs la hH hS hL => by
    have kk := kk r hr H locs la hH hS hL
    unfold i9 at kk; rw [rem9_of] at kk; exact lv_irem C.1 C.2.1 hd (fun e => hb ((eq9z b).mp e)) kk
theorem r_lrem (C : CX G X cc nL own tb z9) {a b : Int} (hd : decode cc pc = .ok (.lrem, 1)) (hb : w64 b ≠ 0) (kk : SS G X nL k n (pc + 1) ls (l9 (remL a b) :: st) d x) : SS G X nL k n pc ls (l9 b :: l9 a :: st) d x :=
  fun r hr H locs la hH hS hL => by
    have kk := kk r hr H locs la hH hS hL
    unfold l9 at kk; rw [remL_of] at kk; exact lv_lrem C.1 C.2.1 hd (fun e => hb (by rw [← w64_of, e]; rfl)) kk
def dv (b : Int) (K : Option R9) : Option R9 := if w32 b = 0 then none else K
def dvL (b : Int) (K : Option R9) : Option R9 := if w64 b = 0 then none else K
theorem ss_dv {b : Int} (h : w32 b ≠ 0 → SS G X nL k n pc ls st d x) : SS G X nL k n pc ls st d (dv b x) := by
  unfold dv; split
  · exact ss_none
  · exact h (by assumption)
theorem ss_dvL {b : Int} (h : w64 b ≠ 0 → SS G X nL k n pc ls st d x) : SS G X nL k n pc ls st d (dvL b x) := by
  unfold dvL; split
  · exact ss_none
  · exact h (by assumption)
theorem r_i2l (C : CX G X cc nL own tb z9) {a : Int} (hd : decode cc pc = .ok (.i2l, 1)) (kk : SS G X nL k n (pc + 1) ls (l9 (w32 a) :: st) d x) : SS G X nL k n pc ls (i9 a :: st) d x :=
  fun r hr H locs la hH hS hL => by
    have kk := kk r hr H locs la hH hS hL
    exact lv_i2l C.1 C.2.1 hd (i2l9 a) kk
theorem r_l2i (C : CX G X cc nL own tb z9) {a : Int} (hd : decode cc pc = .ok (.l2i, 1)) (kk : SS G X nL k n (pc + 1) ls (i9 a :: st) d x) : SS G X nL k n pc ls (l9 a :: st) d x :=
  fun r hr H locs la hH hS hL => by
    have kk := kk r hr H locs la hH hS hL
    exact lv_l2i C.1 C.2.1 hd (by simp) kk
theorem r_dup (C : CX G X cc nL own tb z9) {va : Value} (hd : decode cc pc = .ok (.dup, 1)) (hv : va.category = 1) (kk : SS G X nL k n (pc + 1) ls (va :: va :: st) d x) : SS G X nL k n pc ls (va :: st) d x :=
  fun r hr H locs la hH hS hL => lv_dup C.1 C.2.1 hd hv (kk r hr H locs la hH hS hL)
theorem r_pop (C : CX G X cc nL own tb z9) {va : Value} (hd : decode cc pc = .ok (.pop, 1)) (hv : va.category = 1) (kk : SS G X nL k n (pc + 1) ls st d x) : SS G X nL k n pc ls (va :: st) d x :=
  fun r hr H locs la hH hS hL => lv_pop C.1 C.2.1 hd hv (kk r hr H locs la hH hS hL)
theorem r_dup2 (C : CX G X cc nL own tb z9) {va vb : Value} (hd : decode cc pc = .ok (.dup2, 1)) (hv : va.category = 1) (hw : vb.category = 1) (kk : SS G X nL k n (pc + 1) ls (va :: vb :: va :: vb :: st) d x) : SS G X nL k n pc ls (va :: vb :: st) d x :=
  fun r hr H locs la hH hS hL => lv_dup2_11 C.1 C.2.1 hd hv hw (kk r hr H locs la hH hS hL)
theorem r_goto (C : CX G X cc nL own tb z9) {off : Int} (tgt : Nat) (hd : decode cc pc = .ok (.goto off, 3)) (ht : (pc : Int) + off = (tgt : Int)) (kk : SS G X nL k n tgt ls st d x) : SS G X nL k n pc ls st d x :=
  fun r hr H locs la hH hS hL => lv_goto C.1 C.2.1 hd ht (kk r hr H locs la hH hS hL)
theorem r_icmp_eq (C : CX G X cc nL own tb z9) {a b : Int} {off : Int} (tgt : Nat) (hd : decode cc pc = .ok (.if_icmp .eq off, 3)) (ht : (pc : Int) + off = (tgt : Int)) (kt : w32 a = w32 b → SS G X nL k n tgt ls st d x) (kf : ¬ (w32 a = w32 b) → SS G X nL k n (pc + 3) ls st d y) : SS G X nL k n pc ls (i9 b :: i9 a :: st) d (if w32 a = w32 b then x else y) :=
  fun r hr H locs la hH hS hL => lv_icmp_eq C.1 C.2.1 hd ht (fun h => by
    have h : w32 a = w32 b := (eq9 a b).mp h
    rw [if_pos h] at hr
    exact kt h r hr H locs la hH hS hL) (fun h => by
    have h : ¬ (w32 a = w32 b) := fun e => h ((eq9 a b).mpr e)
    rw [if_neg h] at hr
    exact kf h r hr H locs la hH hS hL)
theorem r_if_eq (C : CX G X cc nL own tb z9) {a b : Int} {off : Int} (tgt : Nat) (hd : decode cc pc = .ok (.ifCond .eq off, 3)) (ht : (pc : Int) + off = (tgt : Int)) (kt : w32 a = 0 → SS G X nL k n tgt ls st d x) (kf : ¬ (w32 a = 0) → SS G X nL k n (pc + 3) ls st d y) : SS G X nL k n pc ls (i9 a :: st) d (if w32 a = 0 then x else y) :=
  fun r hr H locs la hH hS hL => lv_if_eq C.1 C.2.1 hd ht (fun h => by
    have h : w32 a = 0 := (eq9z a).mp h
    rw [if_pos h] at hr
    exact kt h r hr H locs la hH hS hL) (fun h => by
    have h : ¬ (w32 a = 0) := fun e => h ((eq9z a).mpr e)
    rw [if_neg h] at hr
    exact kf h r hr H locs la hH hS hL)
theorem r_icmp_ne (C : CX G X cc nL own tb z9) {a b : Int} {off : Int} (tgt : Nat) (hd : decode cc pc = .ok (.if_icmp .ne off, 3)) (ht : (pc : Int) + off = (tgt : Int)) (kt : w32 a ≠ w32 b → SS G X nL k n tgt ls st d x) (kf : ¬ (w32 a ≠ w32 b) → SS G X nL k n (pc + 3) ls st d y) : SS G X nL k n pc ls (i9 b :: i9 a :: st) d (if w32 a ≠ w32 b then x else y) :=
  fun r hr H locs la hH hS hL => lv_icmp_ne C.1 C.2.1 hd ht (fun h => by
    have h : w32 a ≠ w32 b := fun e => h ((eq9 a b).mpr e)
    rw [if_pos h] at hr
    exact kt h r hr H locs la hH hS hL) (fun h => by
    have h : ¬ (w32 a ≠ w32 b) := fun e => e ((eq9 a b).mp h)
    rw [if_neg h] at hr
    exact kf h r hr H locs la hH hS hL)
theorem r_if_ne (C : CX G X cc nL own tb z9) {a b : Int} {off : Int} (tgt : Nat) (hd : decode cc pc = .ok (.ifCond .ne off, 3)) (ht : (pc : Int) + off = (tgt : Int)) (kt : w32 a ≠ 0 → SS G X nL k n tgt ls st d x) (kf : ¬ (w32 a ≠ 0) → SS G X nL k n (pc + 3) ls st d y) : SS G X nL k n pc ls (i9 a :: st) d (if w32 a ≠ 0 then x else y) :=
  fun r hr H locs la hH hS hL => lv_if_ne C.1 C.2.1 hd ht (fun h => by
    have h : w32 a ≠ 0 := fun e => h ((eq9z a).mpr e)
    rw [if_pos h] at hr
    exact kt h r hr H locs la hH hS hL) (fun h => by
    have h : ¬ (w32 a ≠ 0) := fun e => e ((eq9z a).mp h)
    rw [if_neg h] at hr
    exact kf h r hr H locs la hH hS hL)
theorem r_icmp_lt (C : CX G X cc nL own tb z9) {a b : Int} {off : Int} (tgt : Nat) (hd : decode cc pc = .ok (.if_icmp .lt off, 3)) (ht : (pc : Int) + off = (tgt : Int)) (kt : w32 a < w32 b → SS G X nL k n tgt ls st d x) (kf : ¬ (w32 a < w32 b) → SS G X nL k n (pc + 3) ls st d y) : SS G X nL k n pc ls (i9 b :: i9 a :: st) d (if w32 a < w32 b then x else y) :=
  fun r hr H locs la hH hS hL => lv_icmp_lt C.1 C.2.1 hd ht (fun h => by
    have h : w32 a < w32 b := (lt9 a b).mp h
    rw [if_pos h] at hr
    exact kt h r hr H locs la hH hS hL) (fun h => by
    have h : ¬ (w32 a < w32 b) := fun e => h ((lt9 a b).mpr e)
    rw [if_neg h] at hr
    exact kf h r hr H locs la hH hS hL)
theorem r_if_lt (C : CX G X cc nL own tb z9) {a b : Int} {off : Int} (tgt : Nat) (hd : decode cc pc = .ok (.ifCond .lt off, 3)) (ht : (pc : Int) + off = (tgt : Int)) (kt : w32 a < 0 → SS G X nL k n tgt ls st d x) (kf : ¬ (w32 a < 0) → SS G X nL k n (pc + 3) ls st d y) : SS G X nL k n pc ls (i9 a :: st) d (if w32 a < 0 then x else y) :=
  fun r hr H locs la hH hS hL => lv_if_lt C.1 C.2.1 hd ht (fun h => by
    have h : w32 a < 0 := (lt9z a).mp h
    rw [if_pos h] at hr
    exact kt h r hr H locs la hH hS hL) (fun h => by
    have h : ¬ (w32 a < 0) := fun e => h ((lt9z a).mpr e)
    rw [if_neg h] at hr
    exact kf h r hr H locs la hH hS hL)
theorem r_icmp_le (C : CX G X cc nL own tb z9) {a b : Int} {off : Int} (tgt : Nat) (hd : decode cc pc = .ok (.if_icmp .le off, 3)) (ht : (pc : Int) + off = (tgt : Int)) (kt : w32 a ≤ w32 b → SS G X nL k n tgt ls st d x) (kf : ¬ (w32 a ≤ w32 b) → SS G X nL k n (pc + 3) ls st d y) : SS G X nL k n pc ls (i9 b :: i9 a :: st) d (if w32 a ≤ w32 b then x else y) :=
  fun r hr H locs la hH hS hL => lv_icmp_le C.1 C.2.1 hd ht (fun h => by
    have h : w32 a ≤ w32 b := (le9 a b).mp h
    rw [if_pos h] at hr
    exact kt h r hr H locs la hH hS hL) (fun h => by
    have h : ¬ (w32 a ≤ w32 b) := fun e => h ((le9 a b).mpr e)
    rw [if_neg h] at hr
    exact kf h r hr H locs la hH hS hL)
theorem r_if_le (C : CX G X cc nL own tb z9) {a b : Int} {off : Int} (tgt : Nat) (hd : decode cc pc = .ok (.ifCond .le off, 3)) (ht : (pc : Int) + off = (tgt : Int)) (kt : w32 a ≤ 0 → SS G X nL k n tgt ls st d x) (kf : ¬ (w32 a ≤ 0) → SS G X nL k n (pc + 3) ls st d y) : SS G X nL k n pc ls (i9 a :: st) d (if w32 a ≤ 0 then x else y) :=
  fun r hr H locs la hH hS hL => lv_if_le C.1 C.2.1 hd ht (fun h => by
    have h : w32 a ≤ 0 := (le9z a).mp h
    rw [if_pos h] at hr
    exact kt h r hr H locs la hH hS hL) (fun h => by
    have h : ¬ (w32 a ≤ 0) := fun e => h ((le9z a).mpr e)
    rw [if_neg h] at hr
    exact kf h r hr H locs la hH hS hL)
theorem r_icmp_gt (C : CX G X cc nL own tb z9) {a b : Int} {off : Int} (tgt : Nat) (hd : decode cc pc = .ok (.if_icmp .gt off, 3)) (ht : (pc : Int) + off = (tgt : Int)) (kt : w32 b < w32 a → SS G X nL k n tgt ls st d x) (kf : ¬ (w32 b < w32 a) → SS G X nL k n (pc + 3) ls st d y) : SS G X nL k n pc ls (i9 b :: i9 a :: st) d (if w32 b < w32 a then x else y) :=
  fun r hr H locs la hH hS hL => lv_icmp_gt C.1 C.2.1 hd ht (fun h => by
    have h : w32 b < w32 a := (lt9 b a).mp h
    rw [if_pos h] at hr
    exact kt h r hr H locs la hH hS hL) (fun h => by
    have h : ¬ (w32 b < w32 a) := fun e => h ((lt9 b a).mpr e)
    rw [if_neg h] at hr
    exact kf h r hr H locs la hH hS hL)
theorem r_if_gt (C : CX G X cc nL own tb z9) {a b : Int} {off : Int} (tgt : Nat) (hd : decode cc pc = .ok (.ifCond .gt off, 3)) (ht : (pc : Int) + off = (tgt : Int)) (kt : 0 < w32 a → SS G X nL k n tgt ls st d x) (kf : ¬ (0 < w32 a) → SS G X nL k n (pc + 3) ls st d y) : SS G X nL k n pc ls (i9 a :: st) d (if 0 < w32 a then x else y) :=
  fun r hr H locs la hH hS hL => lv_if_gt C.1 C.2.1 hd ht (fun h => by
    have h : 0 < w32 a := (gt9z a).mp h
    rw [if_pos h] at hr
    exact kt h r hr H locs la hH hS hL) (fun h => by
    have h : ¬ (0 < w32 a) := fun e => h ((gt9z a).mpr e)
    rw [if_neg h] at hr
    exact kf h r hr H locs la hH hS hL)
theorem r_icmp_ge (C : CX G X cc nL own tb z9) {a b : Int} {off : Int} (tgt : Nat) (hd : decode cc pc = .ok (.if_icmp .ge off, 3)) (ht : (pc : Int) + off = (tgt : Int)) (kt : w32 b ≤ w32 a → SS G X nL k n tgt ls st d x) (kf : ¬ (w32 b ≤ w32 a) → SS G X nL k n (pc + 3) ls st d y) : SS G X nL k n pc ls (i9 b :: i9 a :: st) d (if w32 b ≤ w32 a then x else y) :=
  fun r hr H locs la hH hS hL => lv_icmp_ge C.1 C.2.1 hd ht (fun h => by
    have h : w32 b ≤ w32 a := (le9 b a).mp h
    rw [if_pos h] at hr
    exact kt h r hr H locs la hH hS hL) (fun h => by
    have h : ¬ (w32 b ≤ w32 a) := fun e => h ((le9 b a).mpr e)
    rw [if_neg h] at hr
    exact kf h r hr H locs la hH hS hL)
theorem r_if_ge (C : CX G X cc nL own tb z9) {a b : Int} {off : Int} (tgt : Nat) (hd : decode cc pc = .ok (.ifCond .ge off, 3)) (ht : (pc : Int) + off = (tgt : Int)) (kt : 0 ≤ w32 a → SS G X nL k n tgt ls st d x) (kf : ¬ (0 ≤ w32 a) → SS G X nL k n (pc + 3) ls st d y) : SS G X nL k n pc ls (i9 a :: st) d (if 0 ≤ w32 a then x else y) :=
  fun r hr H locs la hH hS hL => lv_if_ge C.1 C.2.1 hd ht (fun h => by
    have h : 0 ≤ w32 a := (ge9z a).mp h
    rw [if_pos h] at hr
    exact kt h r hr H locs la hH hS hL) (fun h => by
    have h : ¬ (0 ≤ w32 a) := fun e => h ((ge9z a).mpr e)
    rw [if_neg h] at hr
    exact kf h r hr H locs la hH hS hL)
theorem ltL (a b : Int) : Int64.ofInt a < Int64.ofInt b ↔ w64 a < w64 b := by rw [Int64.lt_iff_toInt_lt, w64_of, w64_of]
theorem leL (a b : Int) : Int64.ofInt a ≤ Int64.ofInt b ↔ w64 a ≤ w64 b := by rw [Int64.le_iff_toInt_le, w64_of, w64_of]
theorem eqL (a b : Int) : Int64.ofInt a = Int64.ofInt b ↔ w64 a = w64 b := by rw [← Int64.toInt_inj, w64_of, w64_of]
theorem lcG (x y : Int64) : (0 < lg_cmp x y) ↔ y < x := by
  unfold lg_cmp
  by_cases h : x > y
  · simp only [if_pos h]; exact ⟨fun _ => h, fun _ => by decide⟩
  · rw [if_neg h]
    refine ⟨fun q => absurd q ?_, fun q => absurd q h⟩
    split <;> decide
theorem lcE (x y : Int64) : (lg_cmp x y = 0) ↔ x = y := by
  unfold lg_cmp
  by_cases h : x > y
  · simp only [if_pos h]
    refine ⟨fun q => absurd q (by decide), fun q => ?_⟩
    subst q
    exact absurd h (fun g => by have := Int64.lt_iff_toInt_lt.mp g; omega)
  · rw [if_neg h]
    by_cases g : x = y
    · simp [g]
    · rw [if_neg g]
      exact ⟨fun q => absurd q (by decide), fun q => absurd q g⟩
theorem lcLt (x y : Int64) : (lg_cmp x y < 0) ↔ x < y := by
  have h1 := lcG x y
  have h2 := lcE x y
  have h3 : (lg_cmp x y).toInt < 0 ∨ (lg_cmp x y).toInt = 0 ∨ 0 < (lg_cmp x y).toInt := by omega
  have h4 : x.toInt < y.toInt ∨ x.toInt = y.toInt ∨ y.toInt < x.toInt := by omega
  rw [Int32.lt_iff_toInt_lt, Int64.lt_iff_toInt_lt] at h1 ⊢
  rw [← Int32.toInt_inj, ← Int64.toInt_inj] at h2
  rw [show (0 : Int32).toInt = 0 from rfl] at h1 h2 ⊢
  omega
theorem lcLe (x y : Int64) : (lg_cmp x y ≤ 0) ↔ x ≤ y := by
  have h1 := lcG x y
  rw [Int32.le_iff_toInt_le, Int64.le_iff_toInt_le]
  rw [Int32.lt_iff_toInt_lt, Int64.lt_iff_toInt_lt] at h1
  rw [show (0 : Int32).toInt = 0 from rfl] at h1 ⊢
  omega
theorem lcGe (x y : Int64) : (0 ≤ lg_cmp x y) ↔ y ≤ x := by
  have h1 := lcLt x y
  rw [Int32.le_iff_toInt_le, Int64.le_iff_toInt_le]
  rw [Int32.lt_iff_toInt_lt, Int64.lt_iff_toInt_lt] at h1
  rw [show (0 : Int32).toInt = 0 from rfl] at h1 ⊢
  omega
theorem r_lcmp_eq (C : CX G X cc nL own tb z9) {a b : Int} {off : Int} (tgt : Nat) (hc : decode cc pc = .ok (.lcmp, 1)) (hd : decode cc (pc + 1) = .ok (.ifCond .eq off, 3)) (ht : ((pc + 1 : Nat) : Int) + off = (tgt : Int)) (kt : w64 a = w64 b → SS G X nL k n tgt ls st d x) (kf : ¬ (w64 a = w64 b) → SS G X nL k n (pc + 4) ls st d y) : SS G X nL k n pc ls (l9 b :: l9 a :: st) d (if w64 a = w64 b then x else y) :=
  fun r hr H locs la hH hS hL => W.lcmp C.1 C.2.1 hc (lv_if_eq C.1 C.2.1 hd ht (fun h => by
    have h : w64 a = w64 b := (eqL a b).mp ((lcE _ _).mp h)
    rw [if_pos h] at hr
    exact kt h r hr H locs la hH hS hL) (fun h => by
    have h : ¬ (w64 a = w64 b) := fun e => h ((lcE _ _).mpr ((eqL a b).mpr e))
    rw [if_neg h] at hr
    exact kf h r hr H locs la hH hS hL))
theorem r_lcmp_ne (C : CX G X cc nL own tb z9) {a b : Int} {off : Int} (tgt : Nat) (hc : decode cc pc = .ok (.lcmp, 1)) (hd : decode cc (pc + 1) = .ok (.ifCond .ne off, 3)) (ht : ((pc + 1 : Nat) : Int) + off = (tgt : Int)) (kt : w64 a ≠ w64 b → SS G X nL k n tgt ls st d x) (kf : ¬ (w64 a ≠ w64 b) → SS G X nL k n (pc + 4) ls st d y) : SS G X nL k n pc ls (l9 b :: l9 a :: st) d (if w64 a ≠ w64 b then x else y) :=
  fun r hr H locs la hH hS hL => W.lcmp C.1 C.2.1 hc (lv_if_ne C.1 C.2.1 hd ht (fun h => by
    have h : w64 a ≠ w64 b := fun e => h ((lcE _ _).mpr ((eqL a b).mpr e))
    rw [if_pos h] at hr
    exact kt h r hr H locs la hH hS hL) (fun h => by
    have h : ¬ (w64 a ≠ w64 b) := fun e => e ((eqL a b).mp ((lcE _ _).mp h))
    rw [if_neg h] at hr
    exact kf h r hr H locs la hH hS hL))
theorem r_lcmp_lt (C : CX G X cc nL own tb z9) {a b : Int} {off : Int} (tgt : Nat) (hc : decode cc pc = .ok (.lcmp, 1)) (hd : decode cc (pc + 1) = .ok (.ifCond .lt off, 3)) (ht : ((pc + 1 : Nat) : Int) + off = (tgt : Int)) (kt : w64 a < w64 b → SS G X nL k n tgt ls st d x) (kf : ¬ (w64 a < w64 b) → SS G X nL k n (pc + 4) ls st d y) : SS G X nL k n pc ls (l9 b :: l9 a :: st) d (if w64 a < w64 b then x else y) :=
  fun r hr H locs la hH hS hL => W.lcmp C.1 C.2.1 hc (lv_if_lt C.1 C.2.1 hd ht (fun h => by
    have h : w64 a < w64 b := (ltL a b).mp ((lcLt _ _).mp h)
    rw [if_pos h] at hr
    exact kt h r hr H locs la hH hS hL) (fun h => by
    have h : ¬ (w64 a < w64 b) := fun e => h ((lcLt _ _).mpr ((ltL a b).mpr e))
    rw [if_neg h] at hr
    exact kf h r hr H locs la hH hS hL))
theorem r_lcmp_le (C : CX G X cc nL own tb z9) {a b : Int} {off : Int} (tgt : Nat) (hc : decode cc pc = .ok (.lcmp, 1)) (hd : decode cc (pc + 1) = .ok (.ifCond .le off, 3)) (ht : ((pc + 1 : Nat) : Int) + off = (tgt : Int)) (kt : w64 a ≤ w64 b → SS G X nL k n tgt ls st d x) (kf : ¬ (w64 a ≤ w64 b) → SS G X nL k n (pc + 4) ls st d y) : SS G X nL k n pc ls (l9 b :: l9 a :: st) d (if w64 a ≤ w64 b then x else y) :=
  fun r hr H locs la hH hS hL => W.lcmp C.1 C.2.1 hc (lv_if_le C.1 C.2.1 hd ht (fun h => by
    have h : w64 a ≤ w64 b := (leL a b).mp ((lcLe _ _).mp h)
    rw [if_pos h] at hr
    exact kt h r hr H locs la hH hS hL) (fun h => by
    have h : ¬ (w64 a ≤ w64 b) := fun e => h ((lcLe _ _).mpr ((leL a b).mpr e))
    rw [if_neg h] at hr
    exact kf h r hr H locs la hH hS hL))
theorem r_lcmp_gt (C : CX G X cc nL own tb z9) {a b : Int} {off : Int} (tgt : Nat) (hc : decode cc pc = .ok (.lcmp, 1)) (hd : decode cc (pc + 1) = .ok (.ifCond .gt off, 3)) (ht : ((pc + 1 : Nat) : Int) + off = (tgt : Int)) (kt : w64 b < w64 a → SS G X nL k n tgt ls st d x) (kf : ¬ (w64 b < w64 a) → SS G X nL k n (pc + 4) ls st d y) : SS G X nL k n pc ls (l9 b :: l9 a :: st) d (if w64 b < w64 a then x else y) :=
  fun r hr H locs la hH hS hL => W.lcmp C.1 C.2.1 hc (lv_if_gt C.1 C.2.1 hd ht (fun h => by
    have h : w64 b < w64 a := (ltL b a).mp ((lcG _ _).mp h)
    rw [if_pos h] at hr
    exact kt h r hr H locs la hH hS hL) (fun h => by
    have h : ¬ (w64 b < w64 a) := fun e => h ((lcG _ _).mpr ((ltL b a).mpr e))
    rw [if_neg h] at hr
    exact kf h r hr H locs la hH hS hL))
theorem r_lcmp_ge (C : CX G X cc nL own tb z9) {a b : Int} {off : Int} (tgt : Nat) (hc : decode cc pc = .ok (.lcmp, 1)) (hd : decode cc (pc + 1) = .ok (.ifCond .ge off, 3)) (ht : ((pc + 1 : Nat) : Int) + off = (tgt : Int)) (kt : w64 b ≤ w64 a → SS G X nL k n tgt ls st d x) (kf : ¬ (w64 b ≤ w64 a) → SS G X nL k n (pc + 4) ls st d y) : SS G X nL k n pc ls (l9 b :: l9 a :: st) d (if w64 b ≤ w64 a then x else y) :=
  fun r hr H locs la hH hS hL => W.lcmp C.1 C.2.1 hc (lv_if_ge C.1 C.2.1 hd ht (fun h => by
    have h : w64 b ≤ w64 a := (leL b a).mp ((lcGe _ _).mp h)
    rw [if_pos h] at hr
    exact kt h r hr H locs la hH hS hL) (fun h => by
    have h : ¬ (w64 b ≤ w64 a) := fun e => h ((lcGe _ _).mpr ((leL b a).mpr e))
    rw [if_neg h] at hr
    exact kf h r hr H locs la hH hS hL))
end RU

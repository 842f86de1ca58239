/-- a test for null of an object that is known: it goes on behind the test -/
theorem r_ifnull {G : G9} {X : X9} {nL k n pc : Nat} {ls : List (Nat × Value)} {st : List Value} {d : D9} {x : Option R9} {cc : ByteArray} {own : String} {tb : List ExceptionTableEntry} {z9 : Z9} (C : CX G X cc nL own tb z9) {off : Int} {a : Nat} (hd : decode cc pc = .ok (.ifnull off, 3)) (kk : SS G X nL k n (pc + 3) ls st d x) : SS G X nL k n pc ls (rf G a :: st) d x :=
  fun r hr H locs la hH hS hL => lv_ifnull C.1 C.2.1 hd (kk r hr H locs la hH hS hL)

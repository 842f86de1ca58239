def pf (d : D9) (a j : Nat) (v : Int) (K : D9 → Option R9) : Option R9 := K (up d a j v)
def lt9v (v : Int) (K : Int → Option R9) : Option R9 := K v
def FL (own : String) (i ci j : Nat) : Prop := ∃ (C : String) (T : u_T) (N : Nat), vwCl[ci]? = some (C, T, N) ∧ (∀ w ∈ u_ws C T N, w ∈ WG) ∧ j < N ∧ Cond.fieldLink own i (T j).1 (T j).2.1 (T j).2.2.1 ∈ WG
def FP (own : String) (i ci j : Nat) (ty : FieldType) : Prop := ∃ (C : String) (T : u_T) (N : Nat) (ty0 : Nat → FieldType), vwCl[ci]? = some (C, T, N) ∧ (∀ w ∈ u_ws C T N, w ∈ WG) ∧ j < N ∧ Cond.fieldLink own i (T j).1 (T j).2.1 (T j).2.2.1 ∈ WG ∧ (∀ k, k < N → parseFieldDescriptor (T k).2.2.1 = some (ty0 k)) ∧ (∀ a, a < N → ∀ b, b < N → a ≠ b → (T a).2.1 ≠ (T b).2.1) ∧ (T j).2.2.2 = false ∧ parseFieldDescriptor (T j).2.2.1 = some ty
theorem i32_ext {x y : Int32} (h : x.toBitVec.toNat = y.toBitVec.toNat) : x = y := Int32.toBitVec_inj.mp (BitVec.eq_of_toNat_eq h)
theorem i32_n (a : Int) : (Int32.ofInt a).toBitVec.toNat = (a % 4294967296).toNat := by
  show (BitVec.ofInt 32 a).toNat = _
  rw [BitVec.toNat_ofInt]
  rfl
theorem i64_ext {x y : Int64} (h : x.toBitVec.toNat = y.toBitVec.toNat) : x = y := Int64.toBitVec_inj.mp (BitVec.eq_of_toNat_eq h)
theorem i64_n (a : Int) : (Int64.ofInt a).toBitVec.toNat = (a % 18446744073709551616).toNat := by
  show (BitVec.ofInt 64 a).toNat = _
  rw [BitVec.toNat_ofInt]
  rfl
theorem w32_mod (a : Int) : w32 a % 4294967296 = a % 4294967296 := by unfold w32; rw [Int.bmod_def]; split <;> omega
theorem sh9_eq (b : Int) : sh9 b = (b % 32).toNat := by
  unfold sh9
  have := w32_mod b
  congr 1
  omega
theorem sh6_eq (b : Int) : sh6 b = (b % 64).toNat := by
  unfold sh6
  have := w32_mod b
  congr 1
  omega
theorem sh9_lt (b : Int) : sh9 b < 32 := by unfold sh9; omega
theorem sh6_lt (b : Int) : sh6 b < 64 := by unfold sh6; omega
theorem and31 (b : Int) : (Int32.ofInt b &&& 31).toBitVec.toNat = sh9 b := by
  rw [Int32.toBitVec_and, BitVec.toNat_and, i32_n, show (31 : Int32).toBitVec.toNat = 2 ^ 5 - 1 from rfl, Nat.and_two_pow_sub_one_eq_mod, sh9_eq]
  omega
theorem and63 (b : Int) : ((Int32.ofInt b).toInt64 &&& 63).toBitVec.toNat = sh6 b := by
  rw [i2l9, Int64.toBitVec_and, BitVec.toNat_and, i64_n, show (63 : Int64).toBitVec.toNat = 2 ^ 6 - 1 from rfl, Nat.and_two_pow_sub_one_eq_mod, sh6_eq]
  have := w32_mod b
  omega
theorem smod_small {s : BitVec 32} (h : s.toNat < 32) : s.smod 32 = s := by
  have e : s = BitVec.ofNat 32 s.toNat := by simp
  rw [e]
  generalize s.toNat = q at h
  have : ∀ q : Fin 32, (BitVec.ofNat 32 q.val).smod 32 = BitVec.ofNat 32 q.val := by decide +kernel
  exact this ⟨q, h⟩
theorem smod_small6 {s : BitVec 64} (h : s.toNat < 64) : s.smod 64 = s := by
  have e : s = BitVec.ofNat 64 s.toNat := by simp
  rw [e]
  generalize s.toNat = q at h
  have : ∀ q : Fin 64, (BitVec.ofNat 64 q.val).smod 64 = BitVec.ofNat 64 q.val := by decide +kernel
  exact this ⟨q, h⟩
theorem shl9_of (a b : Int) : Int32.ofInt (shl9 a b) = Int32.ofInt a <<< (Int32.ofInt b &&& 31) := by
  apply i32_ext
  have h := and31 b
  have hl := sh9_lt b
  rw [Int32.toBitVec_shiftLeft, smod_small (s := (Int32.ofInt b &&& 31).toBitVec) (by omega)]
  show _ = ((Int32.ofInt a).toBitVec <<< ((Int32.ofInt b &&& 31).toBitVec.toNat)).toNat
  rw [BitVec.toNat_shiftLeft, h, i32_n, i32_n, Nat.shiftLeft_eq]
  unfold shl9
  generalize sh9 b = s
  apply Int.ofNat.inj
  show ((_ : Nat) : Int) = ((_ : Nat) : Int)
  rw [Int.toNat_of_nonneg (by omega), Int.natCast_emod, Int.natCast_mul, Int.toNat_of_nonneg (by omega), Int.natCast_pow]
  rw [show ((2 : Nat) : Int) = 2 from rfl, show ((4294967296 : Nat) : Int) = 4294967296 from rfl, Int.mul_emod a, Int.mul_emod (a % 4294967296) ((2 : Int) ^ s), Int.emod_emod]
theorem shr9_of (a b : Int) : Int32.ofInt (shr9 a b) = Int32.ofInt a >>> (Int32.ofInt b &&& 31) := by
  apply Int32.toInt_inj.mp
  have h := and31 b
  have hl := sh9_lt b
  have e : (Int32.ofInt a >>> (Int32.ofInt b &&& 31)).toInt = w32 a / 2 ^ sh9 b := by
    show (Int32.ofInt a >>> (Int32.ofInt b &&& 31)).toBitVec.toInt = _
    rw [Int32.toBitVec_shiftRight, smod_small (s := (Int32.ofInt b &&& 31).toBitVec) (by omega)]
    show ((Int32.ofInt a).toBitVec.sshiftRight ((Int32.ofInt b &&& 31).toBitVec.toNat)).toInt = _
    rw [BitVec.toInt_sshiftRight, h, Int.shiftRight_eq_div_pow]
    show (Int32.ofInt a).toInt / _ = _
    rw [w32_of]; simp
  rw [e, w32_of]
  unfold shr9
  have r := w32_rng a
  have p : (0 : Int) < 2 ^ sh9 b := Int.pow_pos (by omega)
  apply w32_id
  generalize (2 : Int) ^ sh9 b = P at p
  generalize w32 a = A at r
  constructor
  · apply (Int.le_ediv_iff_mul_le p).mpr
    have : -2147483648 * P ≤ -2147483648 * 1 := by
      apply Int.mul_le_mul_of_nonpos_left <;> omega
    omega
  · apply Int.le_of_lt_add_one
    apply (Int.ediv_lt_iff_lt_mul p).mpr
    have : 2147483648 * 1 ≤ 2147483648 * P := by
      apply Int.mul_le_mul_of_nonneg_left <;> omega
    omega
theorem ush9_of (a b : Int) : ((Int32.ofInt a).toUInt32 >>> ((Int32.ofInt b).toUInt32 &&& Int32.toUInt32 31)).toInt32 = Int32.ofInt (ush9 a b) := by
  apply i32_ext
  have h := and31 b
  have hl := sh9_lt b
  rw [i32_n]
  show ((Int32.ofInt a).toUInt32 >>> ((Int32.ofInt b).toUInt32 &&& Int32.toUInt32 31)).toNat = _
  rw [UInt32.toNat_shiftRight]
  have e1 : ((Int32.ofInt b).toUInt32 &&& Int32.toUInt32 31).toNat = sh9 b := h
  have e2 : (Int32.ofInt a).toUInt32.toNat = (a % 4294967296).toNat := i32_n a
  rw [e1, e2, Nat.mod_eq_of_lt hl, Nat.shiftRight_eq_div_pow]
  unfold ush9
  rw [w32_mod]
  generalize sh9 b = s
  apply Int.ofNat.inj
  show ((_ : Nat) : Int) = ((_ : Nat) : Int)
  have p : (0 : Int) < 2 ^ s := Int.pow_pos (by omega)
  have q0 : 0 ≤ a % 4294967296 / 2 ^ s := Int.ediv_nonneg (by omega) (by omega)
  have q1 : a % 4294967296 / 2 ^ s ≤ a % 4294967296 := Int.ediv_le_self _ (by omega)
  rw [Int.natCast_ediv, Int.toNat_of_nonneg (by omega), Int.natCast_pow, Int.emod_eq_of_lt q0 (by omega), Int.toNat_of_nonneg q0]
  rfl
theorem shlL_of (a b : Int) : Int64.ofInt a <<< ((Int32.ofInt b).toInt64 &&& 63) = Int64.ofInt (shlL a b) := by
  apply i64_ext
  have h := and63 b
  have hl := sh6_lt b
  rw [Int64.toBitVec_shiftLeft, smod_small6 (s := ((Int32.ofInt b).toInt64 &&& 63).toBitVec) (by omega)]
  show ((Int64.ofInt a).toBitVec <<< (((Int32.ofInt b).toInt64 &&& 63).toBitVec.toNat)).toNat = _
  rw [BitVec.toNat_shiftLeft, h, i64_n, i64_n, Nat.shiftLeft_eq]
  unfold shlL
  generalize sh6 b = s
  apply Int.ofNat.inj
  show ((_ : Nat) : Int) = ((_ : Nat) : Int)
  rw [Int.toNat_of_nonneg (a := a * 2 ^ s % 18446744073709551616) (by omega), Int.natCast_emod, Int.natCast_mul, Int.toNat_of_nonneg (by omega), Int.natCast_pow]
  rw [Int.mul_emod, Int.mul_emod a]
  simp
theorem shrL_of (a b : Int) : Int64.ofInt a >>> ((Int32.ofInt b).toInt64 &&& 63) = Int64.ofInt (shrL a b) := by
  apply Int64.toInt_inj.mp
  have h := and63 b
  have hl := sh6_lt b
  have e : (Int64.ofInt a >>> ((Int32.ofInt b).toInt64 &&& 63)).toInt = w64 a / 2 ^ sh6 b := by
    show (Int64.ofInt a >>> ((Int32.ofInt b).toInt64 &&& 63)).toBitVec.toInt = _
    rw [Int64.toBitVec_shiftRight, smod_small6 (s := ((Int32.ofInt b).toInt64 &&& 63).toBitVec) (by omega)]
    show ((Int64.ofInt a).toBitVec.sshiftRight (((Int32.ofInt b).toInt64 &&& 63).toBitVec.toNat)).toInt = _
    rw [BitVec.toInt_sshiftRight, h, Int.shiftRight_eq_div_pow]
    show (Int64.ofInt a).toInt / _ = _
    rw [w64_of]; simp
  rw [e, w64_of]
  unfold shrL
  have r := w64_rng a
  have p : (0 : Int) < 2 ^ sh6 b := Int.pow_pos (by omega)
  symm
  apply w64_id
  generalize (2 : Int) ^ sh6 b = P at p
  generalize w64 a = A at r
  constructor
  · apply (Int.le_ediv_iff_mul_le p).mpr
    have : -9223372036854775808 * P ≤ -9223372036854775808 * 1 := by
      apply Int.mul_le_mul_of_nonpos_left <;> omega
    omega
  · apply Int.le_of_lt_add_one
    apply (Int.ediv_lt_iff_lt_mul p).mpr
    have : 9223372036854775808 * 1 ≤ 9223372036854775808 * P := by
      apply Int.mul_le_mul_of_nonneg_left <;> omega
    omega
theorem i2b_of (a : Int) : (Int32.ofInt a).toInt8.toInt32 = Int32.ofInt (a.bmod 256) := by
  apply Int32.toInt_inj.mp
  rw [Int8.toInt_toInt32, Int32.toInt_toInt8, w32_of, w32_of]
  unfold w32
  simp only [Int.bmod_def]
  split <;> split <;> split <;> split <;> omega
theorem i2s_of (a : Int) : (Int32.ofInt a).toInt16.toInt32 = Int32.ofInt (a.bmod 65536) := by
  apply Int32.toInt_inj.mp
  rw [Int16.toInt_toInt32, Int32.toInt_toInt16, w32_of, w32_of]
  unfold w32
  simp only [Int.bmod_def]
  split <;> split <;> split <;> split <;> omega
section RM
variable {G : G9} {X : X9} {nL k n pc : Nat} {ls : List (Nat × Value)} {st : List Value} {d : D9} {x y : Option R9} {cc : ByteArray} {own : String} {tb : List ExceptionTableEntry} {z9 : Z9}
theorem ss_lt {v : Int} {K : Int → Option R9} (h : ∀ t, SS G X nL k n pc ls (i9 t :: st) d (K t)) : SS G X nL k n pc ls (i9 v :: st) d (lt9v v K) := h v
theorem ss_ltL {v : Int} {K : Int → Option R9} (h : ∀ t, SS G X nL k n pc ls (l9 t :: st) d (K t)) : SS G X nL k n pc ls (l9 v :: st) d (lt9v v K) := h v
theorem r_getI (C : CX G X cc nL own tb z9) {a ci j i : Nat} (hd : decode cc pc = .ok (.getfield i, 3)) (hf : FL own i ci j) (ha : a < NC) (hk : lay a = (0, ci)) (hc : (ftab ci)[j]? = some 0) (kk : SS G X nL k n (pc + 3) ls (i9 (d a j) :: st) d x) : SS G X nL k n pc ls (rf G a :: st) d x := by
  intro r hr H locs la hH hS hL
  obtain ⟨Cn, T, N, h1, h2, h3, h4⟩ := hf
  exact va_get C.1 C.2.1 C.ws h2 C.2.2.2.1 C.ev.1 hH a (by rw [wl_at ha, ent_obj hk]) h1 j h3 (C.ws _ h4) (fun _ h => h) (by rw [fvs_get hc]; rfl) hd (kk r hr H locs la hH hS hL)
theorem r_getL (C : CX G X cc nL own tb z9) {a ci j i : Nat} (hd : decode cc pc = .ok (.getfield i, 3)) (hf : FL own i ci j) (ha : a < NC) (hk : lay a = (0, ci)) (hc : (ftab ci)[j]? = some 1) (kk : SS G X nL k n (pc + 3) ls (l9 (d a j) :: st) d x) : SS G X nL k n pc ls (rf G a :: st) d x := by
  intro r hr H locs la hH hS hL
  obtain ⟨Cn, T, N, h1, h2, h3, h4⟩ := hf
  exact va_get C.1 C.2.1 C.ws h2 C.2.2.2.1 C.ev.1 hH a (by rw [wl_at ha, ent_obj hk]) h1 j h3 (C.ws _ h4) (fun _ h => h) (by rw [fvs_get hc]; rfl) hd (kk r hr H locs la hH hS hL)
theorem r_getR (C : CX G X cc nL own tb z9) {a ci j i : Nat} (b : Nat) (hd : decode cc pc = .ok (.getfield i, 3)) (hf : FL own i ci j) (ha : a < NC) (hk : lay a = (0, ci)) (hc : (ftab ci)[j]? = some 2) (hb : lr a j = b) (kk : SS G X nL k n (pc + 3) ls (rf G b :: st) d x) : SS G X nL k n pc ls (rf G a :: st) d x := by
  intro r hr H locs la hH hS hL
  obtain ⟨Cn, T, N, h1, h2, h3, h4⟩ := hf
  subst hb
  exact va_get C.1 C.2.1 C.ws h2 C.2.2.2.1 C.ev.1 hH a (by rw [wl_at ha, ent_obj hk]) h1 j h3 (C.ws _ h4) (fun _ h => h) (by rw [fvs_get hc]; rfl) hd (kk r hr H locs la hH hS hL)
theorem r_putI (C : CX G X cc nL own tb z9) {a ci j i : Nat} {v : Int} {K : D9 → Option R9} (hd : decode cc pc = .ok (.putfield i, 3)) (hf : FP own i ci j .int) (ha : a < NC) (hk : lay a = (0, ci)) (hc : (ftab ci)[j]? = some 0) (kk : ∀ d', SS G X nL k n (pc + 3) ls st d' (K d')) : SS G X nL k n pc ls (i9 v :: rf G a :: st) d (pf d a j v K) := by
  intro r hr H locs la hH hS hL
  obtain ⟨Cn, T, N, ty0, h1, h2, h3, h4, h5, h6, h7, h8⟩ := hf
  refine va_put C.1 C.2.1 C.ws h2 ty0 h5 h6 C.2.2.2.1 C.ev.1 hH (C.dd d) hS a (by rw [wl_at ha, ent_obj hk]) h1 j h3 (C.ws _ h4) (fun _ h => h) h7 h8 rfl rfl (by rw [fvs_len]; exact (List.getElem?_eq_some_iff.mp hc).1) hd (fun H1 locs1 hP1 hD1 hS1 => ?_)
  rw [wl_set (d := d) (k := a) (j := j) (v := v) (by rw [ent_obj hk, fvs_set hc (Or.inl rfl)]; rfl)] at hP1
  exact kk _ r hr H1 locs1 la hP1 hS1 hL
theorem r_putL (C : CX G X cc nL own tb z9) {a ci j i : Nat} {v : Int} {K : D9 → Option R9} (hd : decode cc pc = .ok (.putfield i, 3)) (hf : FP own i ci j .long) (ha : a < NC) (hk : lay a = (0, ci)) (hc : (ftab ci)[j]? = some 1) (kk : ∀ d', SS G X nL k n (pc + 3) ls st d' (K d')) : SS G X nL k n pc ls (l9 v :: rf G a :: st) d (pf d a j v K) := by
  intro r hr H locs la hH hS hL
  obtain ⟨Cn, T, N, ty0, h1, h2, h3, h4, h5, h6, h7, h8⟩ := hf
  refine va_put C.1 C.2.1 C.ws h2 ty0 h5 h6 C.2.2.2.1 C.ev.1 hH (C.dd d) hS a (by rw [wl_at ha, ent_obj hk]) h1 j h3 (C.ws _ h4) (fun _ h => h) h7 h8 rfl rfl (by rw [fvs_len]; exact (List.getElem?_eq_some_iff.mp hc).1) hd (fun H1 locs1 hP1 hD1 hS1 => ?_)
  rw [wl_set (d := d) (k := a) (j := j) (v := v) (by rw [ent_obj hk, fvs_set hc (Or.inr rfl)]; rfl)] at hP1
  exact kk _ r hr H1 locs1 la hP1 hS1 hL
theorem ld_some {a m : Nat} {j : Int} {K : Int → Option R9} {r : R9} (h : ld d a m j K = some r) : (0 ≤ w32 j ∧ w32 j < m) ∧ K (d a (w32 j).toNat) = some r := by
  unfold ld at h; split at h
  · exact ⟨by assumption, h⟩
  · cases h
theorem sd_some {a m : Nat} {j v : Int} {K : D9 → Option R9} {r : R9} (h : sd d a m j v K = some r) : (0 ≤ w32 j ∧ w32 j < m) ∧ K (up d a (w32 j).toNat v) = some r := by
  unfold sd at h; split at h
  · exact ⟨by assumption, h⟩
  · cases h
theorem r_iald (C : CX G X cc nL own tb z9) {a m : Nat} {j : Int} {K : Int → Option R9} (hd : decode cc pc = .ok (.iaload, 1)) (ha : a < NC) (hk : lay a = (1, m)) (kk : ∀ t, SS G X nL k n (pc + 1) ls (i9 t :: st) d (K t)) : SS G X nL k n pc ls (i9 j :: rf G a :: st) d (ld d a m j K) := by
  intro r hr H locs la hH hS hL
  obtain ⟨hin, hr⟩ := ld_some hr
  refine va_iald C.1 C.2.1 C.ev.1 hH a 0 (by rw [wl_at ha, ent_i hk]) rfl (in9 hin) hd ?_
  rw [cn9]
  exact kk _ r hr H locs la hH hS hL
theorem r_cald (C : CX G X cc nL own tb z9) {a m : Nat} {j : Int} {K : Int → Option R9} (hd : decode cc pc = .ok (.caload, 1)) (ha : a < NC) (hk : lay a = (3, m)) (kk : ∀ t, SS G X nL k n (pc + 1) ls (i9 t :: st) d (K t)) : SS G X nL k n pc ls (i9 j :: rf G a :: st) d (ld d a m j K) := by
  intro r hr H locs la hH hS hL
  obtain ⟨hin, hr⟩ := ld_some hr
  refine va_cald C.1 C.2.1 C.ev.1 hH a 2 (by rw [wl_at ha, ent_c hk]) rfl (in9 hin) hd ?_
  rw [cn9]
  exact kk _ r hr H locs la hH hS hL
theorem r_zald (C : CX G X cc nL own tb z9) {a m : Nat} {j : Int} {K : Int → Option R9} (hd : decode cc pc = .ok (.baload, 1)) (ha : a < NC) (hk : lay a = (4, m)) (kk : ∀ t, SS G X nL k n (pc + 1) ls (i9 t :: st) d (K t)) : SS G X nL k n pc ls (i9 j :: rf G a :: st) d (ld d a m j K) := by
  intro r hr H locs la hH hS hL
  obtain ⟨hin, hr⟩ := ld_some hr
  refine va_zald C.1 C.2.1 C.ev.1 hH a 3 (by rw [wl_at ha, ent_z hk]) rfl (in9 hin) hd ?_
  rw [cn9]
  exact kk _ r hr H locs la hH hS hL
theorem r_lald (C : CX G X cc nL own tb z9) {a m : Nat} {j : Int} {K : Int → Option R9} (hd : decode cc pc = .ok (.laload, 1)) (ha : a < NC) (hk : lay a = (2, m)) (kk : ∀ t, SS G X nL k n (pc + 1) ls (l9 t :: st) d (K t)) : SS G X nL k n pc ls (i9 j :: rf G a :: st) d (ld d a m j K) := by
  intro r hr H locs la hH hS hL
  obtain ⟨hin, hr⟩ := ld_some hr
  refine va_lald C.1 C.2.1 C.ev.1 hH a 1 (by rw [wl_at ha, ent_l hk]) rfl (in9 hin) hd ?_
  rw [cn9]
  exact kk _ r hr H locs la hH hS hL
theorem r_iast (C : CX G X cc nL own tb z9) {a m : Nat} {j v : Int} {K : D9 → Option R9} (hd : decode cc pc = .ok (.iastore, 1)) (ha : a < NC) (hk : lay a = (1, m)) (kk : ∀ d', SS G X nL k n (pc + 1) ls st d' (K d')) : SS G X nL k n pc ls (i9 v :: i9 j :: rf G a :: st) d (sd d a m j v K) := by
  intro r hr H locs la hH hS hL
  obtain ⟨hin, hr⟩ := sd_some hr
  refine va_iast C.1 C.2.1 C.ev.1 hH (C.dd d) hS a 0 (by rw [wl_at ha, ent_i hk]) rfl (in9 hin) hd (fun H1 locs1 hP1 hD1 hS1 => ?_)
  rw [cn9, wl_set (d := d) (k := a) (j := (w32 j).toNat) (v := v) (by rw [ent_i hk, upd_of rfl])] at hP1
  exact kk _ r hr H1 locs1 la hP1 hS1 hL
theorem r_last (C : CX G X cc nL own tb z9) {a m : Nat} {j v : Int} {K : D9 → Option R9} (hd : decode cc pc = .ok (.lastore, 1)) (ha : a < NC) (hk : lay a = (2, m)) (kk : ∀ d', SS G X nL k n (pc + 1) ls st d' (K d')) : SS G X nL k n pc ls (l9 v :: i9 j :: rf G a :: st) d (sd d a m j v K) := by
  intro r hr H locs la hH hS hL
  obtain ⟨hin, hr⟩ := sd_some hr
  refine va_last C.1 C.2.1 C.ev.1 hH (C.dd d) hS a 1 (by rw [wl_at ha, ent_l hk]) rfl (in9 hin) hd (fun H1 locs1 hP1 hD1 hS1 => ?_)
  rw [cn9, wl_set (d := d) (k := a) (j := (w32 j).toNat) (v := v) (by
    rw [ent_l hk]
    congr 4
    apply congrArg
    funext q
    by_cases h : q = (w32 j).toNat
    · subst h; simp [vp_updL, up_same]
    · simp [vp_updL, h, up_j h])] at hP1
  exact kk _ r hr H1 locs1 la hP1 hS1 hL
theorem r_alen (C : CX G X cc nL own tb z9) {a m : Nat} (hd : decode cc pc = .ok (.arraylength, 1)) (ha : a < NC) (hk : lay a = (1, m)) (kk : SS G X nL k n (pc + 1) ls (i9 m :: st) d x) : SS G X nL k n pc ls (rf G a :: st) d x := by
  intro r hr H locs la hH hS hL
  exact va_alen C.1 C.2.1 C.ev.1 hH a 0 (by rw [wl_at ha, ent_i hk]) rfl (v := Int32.ofInt m) (show Int32.ofNat m = Int32.ofInt m from (Int32.ofInt_eq_ofNat).symm) hd (kk r hr H locs la hH hS hL)
theorem r_alenC (C : CX G X cc nL own tb z9) {a m : Nat} (hd : decode cc pc = .ok (.arraylength, 1)) (ha : a < NC) (hk : lay a = (3, m)) (kk : SS G X nL k n (pc + 1) ls (i9 m :: st) d x) : SS G X nL k n pc ls (rf G a :: st) d x := by
  intro r hr H locs la hH hS hL
  exact va_alen C.1 C.2.1 C.ev.1 hH a 2 (by rw [wl_at ha, ent_c hk]) rfl (v := Int32.ofInt m) (show Int32.ofNat m = Int32.ofInt m from (Int32.ofInt_eq_ofNat).symm) hd (kk r hr H locs la hH hS hL)
theorem narZ (v : Int) : vp_nar .boolean (Int32.ofInt v) = Int32.ofInt (v % 2) := by
  show Int32.ofInt v &&& 1 = _
  apply i32_ext
  rw [Int32.toBitVec_and, BitVec.toNat_and, i32_n, i32_n, show (1 : Int32).toBitVec.toNat = 1 from rfl, Nat.and_one_is_mod]
  omega
theorem narC (v : Int) : vp_nar .char (Int32.ofInt v) = Int32.ofInt (v % 65536) := by
  show (Int32.ofInt v).toUInt32.toUInt16.toUInt32.toInt32 = _
  apply i32_ext
  rw [i32_n]
  show (((Int32.ofInt v).toBitVec.setWidth 16).setWidth 32).toNat = _
  rw [BitVec.toNat_setWidth, BitVec.toNat_setWidth, i32_n]
  omega
theorem r_zast (C : CX G X cc nL own tb z9) {a m : Nat} {j v : Int} {K : D9 → Option R9} (hd : decode cc pc = .ok (.bastore, 1)) (ha : a < NC) (hk : lay a = (4, m)) (kk : ∀ d', SS G X nL k n (pc + 1) ls st d' (K d')) : SS G X nL k n pc ls (i9 v :: i9 j :: rf G a :: st) d (sd d a m j (v % 2) K) := by
  intro r hr H locs la hH hS hL
  obtain ⟨hin, hr⟩ := sd_some hr
  refine va_zast C.1 C.2.1 C.ev.1 hH (C.dd d) hS a 3 (by rw [wl_at ha, ent_z hk]) rfl (in9 hin) hd (fun H1 locs1 hP1 hD1 hS1 => ?_)
  rw [narZ, cn9, wl_set (d := d) (k := a) (j := (w32 j).toNat) (v := v % 2) (by rw [ent_z hk, upd_of rfl])] at hP1
  exact kk _ r hr H1 locs1 la hP1 hS1 hL
theorem r_cast (C : CX G X cc nL own tb z9) {a m : Nat} {j v : Int} {K : D9 → Option R9} (hd : decode cc pc = .ok (.castore, 1)) (ha : a < NC) (hk : lay a = (3, m)) (kk : ∀ d', SS G X nL k n (pc + 1) ls st d' (K d')) : SS G X nL k n pc ls (i9 v :: i9 j :: rf G a :: st) d (sd d a m j (v % 65536) K) := by
  intro r hr H locs la hH hS hL
  obtain ⟨hin, hr⟩ := sd_some hr
  refine va_cast C.1 C.2.1 C.ev.1 hH (C.dd d) hS a 2 (by rw [wl_at ha, ent_c hk]) rfl (in9 hin) hd (fun H1 locs1 hP1 hD1 hS1 => ?_)
  rw [narC, cn9, wl_set (d := d) (k := a) (j := (w32 j).toNat) (v := v % 65536) (by rw [ent_c hk, upd_of rfl])] at hP1
  exact kk _ r hr H1 locs1 la hP1 hS1 hL
/-- an array of references, at a place that is known -/
theorem r_aald (C : CX G X cc nL own tb z9) {a m : Nat} {j : Int} (b : Nat) (i : Nat) (hd : decode cc pc = .ok (.aaload, 1)) (ha : a < NC) (hk : lay a = (5, m)) (hi : i < m) (hj : w32 j = i) (hb : lr a i = b) (kk : SS G X nL k n (pc + 1) ls (rf G b :: st) d x) : SS G X nL k n pc ls (i9 j :: rf G a :: st) d x := by
  intro r hr H locs la hH hS hL
  refine va_aldq C.1 C.2.1 C.ev.1 hH a 4 (by rw [wl_at ha, ent_r hk]) rfl (in9 (by omega)) hd ?_
  rw [cn9, hj]
  subst hb
  exact kk r hr H locs la hH hS hL
theorem r_ishl (C : CX G X cc nL own tb z9) {a b : Int} (hd : decode cc pc = .ok (.ishl, 1)) (kk : SS G X nL k n (pc + 1) ls (i9 (shl9 a b) :: st) d x) : SS G X nL k n pc ls (i9 b :: i9 a :: st) d x :=
  fun r hr H locs la hH hS hL => by
    have kk := kk r hr H locs la hH hS hL
    unfold i9 at kk; rw [shl9_of] at kk; exact lv_ishl C.1 C.2.1 hd kk
theorem r_ishr (C : CX G X cc nL own tb z9) {a b : Int} (hd : decode cc pc = .ok (.ishr, 1)) (kk : SS G X nL k n (pc + 1) ls (i9 (shr9 a b) :: st) d x) : SS G X nL k n pc ls (i9 b :: i9 a :: st) d x :=
  fun r hr H locs la hH hS hL => by
    have kk := kk r hr H locs la hH hS hL
    unfold i9 at kk; rw [shr9_of] at kk; exact lv_ishr C.1 C.2.1 hd kk
theorem r_iushr (C : CX G X cc nL own tb z9) {a b : Int} (hd : decode cc pc = .ok (.iushr, 1)) (kk : SS G X nL k n (pc + 1) ls (i9 (ush9 a b) :: st) d x) : SS G X nL k n pc ls (i9 b :: i9 a :: st) d x :=
  fun r hr H locs la hH hS hL => by
    have kk := kk r hr H locs la hH hS hL
    exact lv_iushr C.1 C.2.1 hd (ush9_of a b) kk
theorem r_lshl (C : CX G X cc nL own tb z9) {a b : Int} (hd : decode cc pc = .ok (.lshl, 1)) (kk : SS G X nL k n (pc + 1) ls (l9 (shlL a b) :: st) d x) : SS G X nL k n pc ls (i9 b :: l9 a :: st) d x :=
  fun r hr H locs la hH hS hL => by
    have kk := kk r hr H locs la hH hS hL
    exact lv_lshl C.1 C.2.1 hd (shlL_of a b) kk
theorem r_lshr (C : CX G X cc nL own tb z9) {a b : Int} (hd : decode cc pc = .ok (.lshr, 1)) (kk : SS G X nL k n (pc + 1) ls (l9 (shrL a b) :: st) d x) : SS G X nL k n pc ls (i9 b :: l9 a :: st) d x :=
  fun r hr H locs la hH hS hL => by
    have kk := kk r hr H locs la hH hS hL
    exact lv_lshr C.1 C.2.1 hd (shrL_of a b) kk
theorem r_i2b (C : CX G X cc nL own tb z9) {a : Int} (hd : decode cc pc = .ok (.i2b, 1)) (kk : SS G X nL k n (pc + 1) ls (i9 (a.bmod 256) :: st) d x) : SS G X nL k n pc ls (i9 a :: st) d x :=
  fun r hr H locs la hH hS hL => by
    have kk := kk r hr H locs la hH hS hL
    exact lv_i2b C.1 C.2.1 hd (i2b_of a) kk
theorem r_i2s (C : CX G X cc nL own tb z9) {a : Int} (hd : decode cc pc = .ok (.i2s, 1)) (kk : SS G X nL k n (pc + 1) ls (i9 (a.bmod 65536) :: st) d x) : SS G X nL k n pc ls (i9 a :: st) d x :=
  fun r hr H locs la hH hS hL => by
    have kk := kk r hr H locs la hH hS hL
    exact lv_i2s C.1 C.2.1 hd (i2s_of a) kk
theorem r_i2c (C : CX G X cc nL own tb z9) {a : Int} (hd : decode cc pc = .ok (.i2c, 1)) (kk : SS G X nL k n (pc + 1) ls (i9 (a % 65536) :: st) d x) : SS G X nL k n pc ls (i9 a :: st) d x :=
  fun r hr H locs la hH hS hL => by
    have kk := kk r hr H locs la hH hS hL
    exact lv_i2c C.1 C.2.1 hd (narC a) kk
/-- a switch: one case after another -/
theorem r_tsw (C : CX G X cc nL own tb z9) {a : Int} {dflt lo hi off : Int} {offs : Array Int} {len : Nat} (i : Nat) (v : Int) (tgt : Nat) (hd : decode cc pc = .ok (.tableswitch dflt lo hi offs, len)) (hv : v = lo + i ∧ v ≤ hi) (ho : offs[i]? = some off) (ht : (pc : Int) + off = (tgt : Int)) (kt : w32 a = v → SS G X nL k n tgt ls st d x) (kf : w32 a ≠ v → SS G X nL k n pc ls (i9 a :: st) d y) : SS G X nL k n pc ls (i9 a :: st) d (if w32 a = v then x else y) := by
  intro r hr H locs la hH hS hL
  by_cases h : w32 a = v
  · rw [if_pos h] at hr
    have e : (Int32.ofInt a).toInt = v := by rw [w32_of, h]
    exact lv_tableIn C.1 C.2.1 hd (by omega) (by omega) (by rw [e, show (v - lo).toNat = i by omega]; exact ho) ht (kt h r hr H locs la hH hS hL)
  · rw [if_neg h] at hr
    exact kf h r hr H locs la hH hS hL
theorem r_tswd (C : CX G X cc nL own tb z9) {a : Int} {dflt lo hi : Int} {offs : Array Int} {len : Nat} (tgt : Nat) (hd : decode cc pc = .ok (.tableswitch dflt lo hi offs, len)) (h : w32 a < lo ∨ hi < w32 a) (ht : (pc : Int) + dflt = (tgt : Int)) (kk : SS G X nL k n tgt ls st d x) : SS G X nL k n pc ls (i9 a :: st) d x := by
  intro r hr H locs la hH hS hL
  exact lv_tableOut C.1 C.2.1 hd (by rw [w32_of]; exact h) ht (kk r hr H locs la hH hS hL)
/-! ends -/
theorem r_iret {mc ms fr lo : Nat} (C : CX G X cc nL own tb (some .int, 1, mc, ms, fr, lo)) {a : Int} (hd : decode cc pc = .ok (.ireturn, 1)) (hk : k ≤ mc) (hn : n ≤ ms) : SS G X nL k n pc ls [i9 a] d (rt a d) := by
  intro r hr H locs la hH hS hL
  cases hr
  obtain ⟨h1, h2, h3, h4, h5, h6⟩ := C.z
  unfold Q9
  rw [h6 (Nat.le_of_ble_eq_true rfl)]
  refine W.widen (k := mc) (n := ms) hk hn (vx_ret ?_)
  rw [show xK X = mc from h3, show xN X = ms from h4, show xV X = 1 from h2]
  exact W.iret C.1 C.2.1 h1 (fun t ht hw => ⟨⟨a, d, rfl, rfl, by rw [ht]; exact hH⟩, by rw [va_F, ht]; exact ⟨hS.1, hS.2.1⟩⟩) (fun q hq => hS.2.2 q hq) hd C.2.2.2.2.2.1
theorem r_lret {mc ms fr lo : Nat} (C : CX G X cc nL own tb (some .long, 2, mc, ms, fr, lo)) {a : Int} (hd : decode cc pc = .ok (.lreturn, 1)) (hk : k ≤ mc) (hn : n ≤ ms) : SS G X nL k n pc ls [l9 a] d (rt a d) := by
  intro r hr H locs la hH hS hL
  cases hr
  obtain ⟨h1, h2, h3, h4, h5, h6⟩ := C.z
  unfold Q9
  rw [h6 (Nat.le_of_ble_eq_true rfl)]
  refine W.widen (k := mc) (n := ms) hk hn (vx_ret ?_)
  rw [show xK X = mc from h3, show xN X = ms from h4, show xV X = 2 from h2]
  exact W.lret C.1 C.2.1 h1 (fun t ht hw => ⟨⟨a, d, rfl, rfl, by rw [ht]; exact hH⟩, by rw [va_F, ht]; exact ⟨hS.1, hS.2.1⟩⟩) (fun q hq => hS.2.2 q hq) hd C.2.2.2.2.2.1
theorem r_vret {mc ms fr lo : Nat} (C : CX G X cc nL own tb (none, 0, mc, ms, fr, lo)) (hd : decode cc pc = .ok (.return_, 1)) (hk : k ≤ mc) (hn : n ≤ ms) : SS G X nL k n pc ls [] d (rt 0 d) := by
  intro r hr H locs la hH hS hL
  cases hr
  obtain ⟨h1, h2, h3, h4, h5, h6⟩ := C.z
  unfold Q9
  rw [h6 (Nat.le_of_ble_eq_true rfl)]
  refine W.widen (k := mc) (n := ms) hk hn (vx_ret ?_)
  rw [show xK X = mc from h3, show xN X = ms from h4, show xV X = 0 from h2]
  exact W.vret C.1 C.2.1 h1 (fun t ht hw => ⟨⟨0, d, rfl, rfl, by rw [ht]; exact hH⟩, by rw [va_F, ht]; exact ⟨hS.1, hS.2.1⟩⟩) (fun q hq => hS.2.2 q hq) hd C.2.2.2.2.2.1
/-- a boolean's end -/
theorem W_zret {p : Program} {l : Launch} {e : Env} {R : Room} {s : State} {m : MethodId} {args : Array Value} {below : List Frame} {meth : Method} {c : Code} {H : Heap} {locs : List Loc} {cells slots : Nat} {cc : ByteArray} {Qc : Array Value → State → Outcome → State → Prop} {free : Addr → Prop} {v v' : Int32} {ty : FieldType} (hexec : p.tables.exec = Jvm.exec) (hb : c.code = cc) (hr : meth.sig.returnType = some ty) (hn : narrow ty (.int v) = .int v')
    (hq : ∀ t : State, t.heap = H → s.WarmedH t.vm → Qc args s (.returned (some (.int v'))) t) (hf : ∀ q ∈ locs, free q.base)
    {pc : Nat} {ls : Array Slot} (hdg : decode cc pc = .ok (.ireturn, 1)) (hlocks : meth.locks = false) : W p l e R s m args below meth c H locs cells slots (MQ below Qc args s cells slots free) (F0 m pc ls [.int v]) := by
  intro T hT X
  have hlocks : meth.locks = false := hlocks
  obtain ⟨fs, hret, hrun, hended, hW, hframe⟩ := X.leave (v := some (.int v')) (fun h => by rw [hr] at h; cases h)
  have hmeth' : T.vm.method? m = some meth := X.method'
  refine ⟨T.setFrames fs, ?_, .returned (some (.int v')), hrun, hended, hq _ hT hW, locs, ⟨⟨_, rfl⟩, hW, hframe⟩, hf⟩
  jvm_step X.here [X.here.top, hexec, hb, hdg, hmeth', hr, hn]
  (try refine ⟨rfl, ?_⟩); (try refine ⟨rfl, ?_⟩)
  first | (intro acts; rw [hret _ acts rfl rfl rfl]) | rw [hret _ _ rfl rfl rfl]
  exact Steps.refl _
theorem r_zret {mc ms fr lo : Nat} (C : CX G X cc nL own tb (some .boolean, 1, mc, ms, fr, lo)) {a : Int} (hd : decode cc pc = .ok (.ireturn, 1)) (hk : k ≤ mc) (hn : n ≤ ms) : SS G X nL k n pc ls [i9 a] d (rt (a % 2) d) := by
  intro r hr H locs la hH hS hL
  cases hr
  obtain ⟨h1, h2, h3, h4, h5, h6⟩ := C.z
  unfold Q9
  rw [h6 (Nat.le_of_ble_eq_true rfl)]
  refine W.widen (k := mc) (n := ms) hk hn (vx_ret ?_)
  rw [show xK X = mc from h3, show xN X = ms from h4, show xV X = 1 from h2]
  exact W_zret C.1 C.2.1 h1 (v' := Int32.ofInt (a % 2)) (by rw [← narZ]; rfl) (fun t ht hw => ⟨⟨a % 2, d, rfl, rfl, by rw [ht]; exact hH⟩, by rw [va_F, ht]; exact ⟨hS.1, hS.2.1⟩⟩) (fun q hq => hS.2.2 q hq) hd C.2.2.2.2.2.1
end RM

theorem sw9 : Cond.fieldLink RJ0 9 "java/lang/String" "value" "[B" ∈ WG := (wg10 91 rfl rfl)
theorem sw15 : Cond.fieldLink RJ0 15 "java/lang/String" "coder" "B" ∈ WG := (wg10 92 rfl rfl)
theorem sw38 : Cond.fieldLink RJ0 38 "java/lang/String" "COMPACT_STRINGS" "Z" ∈ WG := (wg4 101 rfl rfl)
theorem sw1053 : Cond.fieldLink RJ0 1053 "jdk/internal/util/Preconditions" "SIOOBE_FORMATTER" "Ljava/util/function/BiFunction;" ∈ WG := (wg4 117 rfl rfl)
theorem mw_J0_335 : MW RJ0 335 yJ0_coder_7d493 cJ0_coder_7d493 1 (some .byte) 0 := ⟨(wg4 97 rfl rfl), (wg4 100 rfl rfl), (wg1 22 rfl rfl), by decide, by decide, by decide +kernel⟩
theorem mw_J0_492 : MW RJ0 492 yJ0_isLatin1_aae02 cJ0_isLatin1_aae02 1 (some .boolean) 0 := ⟨(wg4 107 rfl rfl), (wg4 110 rfl rfl), (wg1 22 rfl rfl), by decide, by decide, by decide +kernel⟩
theorem mw_J0_495 : MW RJ0 495 yJ1_charAt_3b067 cJ1_charAt_3b067 2 (some .char) 2 := ⟨(wg4 111 rfl rfl), (wg4 113 rfl rfl), (wg1 23 rfl rfl), by decide, by decide, by decide +kernel⟩
theorem mw_J0_1059 : MW RJ0 1059 yJ3_checkIndex_8e157 cJ3_checkIndex_8e157 3 (some .int) 3 := ⟨(wg4 119 rfl rfl), (wg4 121 rfl rfl), (wg1 24 rfl rfl), by decide, by decide, by decide +kernel⟩
theorem mw_J1_9 : MW RJ1 9 yJ0_checkIndex_df160 cJ0_checkIndex_df160 2 (none) 2 := ⟨(wg4 114 rfl rfl), (wg4 116 rfl rfl), (wg1 22 rfl rfl), by decide, by decide, by decide +kernel⟩
theorem mw_X8_65 : MW RX8 65 yJ0_length_8abf5 cJ0_length_8abf5 1 (some .int) 0 := ⟨(wg4 93 rfl rfl), (wg4 96 rfl rfl), (wg1 22 rfl rfl), by decide, by decide, by decide +kernel⟩
theorem mw_X8_70 : MW RX8 70 yJ0_charAt_5068e cJ0_charAt_5068e 2 (some .char) 1 := ⟨(wg4 103 rfl rfl), (wg4 106 rfl rfl), (wg1 22 rfl rfl), by decide, by decide, by decide +kernel⟩
theorem mw_X12_166 : MW RX12 166 yJ0_length_8abf5 cJ0_length_8abf5 1 (some .int) 0 := ⟨(wg8 110 rfl rfl), (wg4 96 rfl rfl), (wg1 22 rfl rfl), by decide, by decide, by decide +kernel⟩
theorem mw_X12_172 : MW RX12 172 yJ0_charAt_5068e cJ0_charAt_5068e 2 (some .char) 1 := ⟨(wg8 111 rfl rfl), (wg4 106 rfl rfl), (wg1 22 rfl rfl), by decide, by decide, by decide +kernel⟩
theorem mv_J0_charAt_5068e : Cond.instanceMethod yJ0_charAt_5068e ∈ WG ∧ Cond.selects yJ0_charAt_5068e.cls yJ0_charAt_5068e yJ0_charAt_5068e ∈ WG := ⟨(wg4 104 rfl rfl), (wg4 105 rfl rfl)⟩
theorem ms_J0_checkIndex_df160 : Cond.static yJ0_checkIndex_df160 ∈ WG := (wg4 115 rfl rfl)
theorem mv_J0_coder_7d493 : Cond.instanceMethod yJ0_coder_7d493 ∈ WG ∧ Cond.selects yJ0_coder_7d493.cls yJ0_coder_7d493 yJ0_coder_7d493 ∈ WG := ⟨(wg4 98 rfl rfl), (wg4 99 rfl rfl)⟩
theorem mv_J0_isLatin1_aae02 : Cond.instanceMethod yJ0_isLatin1_aae02 ∈ WG ∧ Cond.selects yJ0_isLatin1_aae02.cls yJ0_isLatin1_aae02 yJ0_isLatin1_aae02 ∈ WG := ⟨(wg4 108 rfl rfl), (wg4 109 rfl rfl)⟩
theorem mv_J0_length_8abf5 : Cond.instanceMethod yJ0_length_8abf5 ∈ WG ∧ Cond.selects yJ0_length_8abf5.cls yJ0_length_8abf5 yJ0_length_8abf5 ∈ WG := ⟨(wg4 94 rfl rfl), (wg4 95 rfl rfl)⟩
theorem ms_J1_charAt_3b067 : Cond.static yJ1_charAt_3b067 ∈ WG := (wg4 112 rfl rfl)
theorem ms_J3_checkIndex_8e157 : Cond.static yJ3_checkIndex_8e157 ∈ WG := (wg4 120 rfl rfl)
theorem dJ0_length_8abf5_0 : decode cJ0_length_8abf5 0 = .ok (.aload_n 0, 1) := by decide +kernel
theorem dJ0_length_8abf5_1 : decode cJ0_length_8abf5 1 = .ok (.getfield 9, 3) := by decide +kernel
theorem dJ0_length_8abf5_4 : decode cJ0_length_8abf5 4 = .ok (.arraylength, 1) := by decide +kernel
theorem dJ0_length_8abf5_5 : decode cJ0_length_8abf5 5 = .ok (.aload_n 0, 1) := by decide +kernel
theorem dJ0_length_8abf5_6 : decode cJ0_length_8abf5 6 = .ok (.invokevirtual 335, 3) := by decide +kernel
theorem dJ0_length_8abf5_9 : decode cJ0_length_8abf5 9 = .ok (.ishr, 1) := by decide +kernel
theorem dJ0_length_8abf5_10 : decode cJ0_length_8abf5 10 = .ok (.ireturn, 1) := by decide +kernel
theorem dJ0_coder_7d493_0 : decode cJ0_coder_7d493 0 = .ok (.getstatic 38, 3) := by decide +kernel
theorem dJ0_coder_7d493_3 : decode cJ0_coder_7d493 3 = .ok (.ifCond .eq 10, 3) := by decide +kernel
theorem dJ0_coder_7d493_6 : decode cJ0_coder_7d493 6 = .ok (.aload_n 0, 1) := by decide +kernel
theorem dJ0_coder_7d493_7 : decode cJ0_coder_7d493 7 = .ok (.getfield 15, 3) := by decide +kernel
theorem dJ0_coder_7d493_10 : decode cJ0_coder_7d493 10 = .ok (.goto 4, 3) := by decide +kernel
theorem dJ0_coder_7d493_13 : decode cJ0_coder_7d493 13 = .ok (.iconst 1, 1) := by decide +kernel
theorem dJ0_coder_7d493_14 : decode cJ0_coder_7d493 14 = .ok (.ireturn, 1) := by decide +kernel
theorem dJ0_charAt_5068e_0 : decode cJ0_charAt_5068e 0 = .ok (.aload_n 0, 1) := by decide +kernel
theorem dJ0_charAt_5068e_1 : decode cJ0_charAt_5068e 1 = .ok (.invokevirtual 492, 3) := by decide +kernel
theorem dJ0_charAt_5068e_4 : decode cJ0_charAt_5068e 4 = .ok (.ifCond .eq 12, 3) := by decide +kernel
theorem dJ0_charAt_5068e_7 : decode cJ0_charAt_5068e 7 = .ok (.aload_n 0, 1) := by decide +kernel
theorem dJ0_charAt_5068e_8 : decode cJ0_charAt_5068e 8 = .ok (.getfield 9, 3) := by decide +kernel
theorem dJ0_charAt_5068e_11 : decode cJ0_charAt_5068e 11 = .ok (.iload_n 1, 1) := by decide +kernel
theorem dJ0_charAt_5068e_12 : decode cJ0_charAt_5068e 12 = .ok (.invokestatic 495, 3) := by decide +kernel
theorem dJ0_charAt_5068e_15 : decode cJ0_charAt_5068e 15 = .ok (.ireturn, 1) := by decide +kernel
theorem dJ0_charAt_5068e_16 : decode cJ0_charAt_5068e 16 = .ok (.aload_n 0, 1) := by decide +kernel
theorem dJ0_charAt_5068e_17 : decode cJ0_charAt_5068e 17 = .ok (.getfield 9, 3) := by decide +kernel
theorem dJ0_charAt_5068e_20 : decode cJ0_charAt_5068e 20 = .ok (.iload_n 1, 1) := by decide +kernel
theorem dJ0_charAt_5068e_21 : decode cJ0_charAt_5068e 21 = .ok (.invokestatic 498, 3) := by decide +kernel
theorem dJ0_charAt_5068e_24 : decode cJ0_charAt_5068e 24 = .ok (.ireturn, 1) := by decide +kernel
theorem dJ0_isLatin1_aae02_0 : decode cJ0_isLatin1_aae02 0 = .ok (.getstatic 38, 3) := by decide +kernel
theorem dJ0_isLatin1_aae02_3 : decode cJ0_isLatin1_aae02 3 = .ok (.ifCond .eq 14, 3) := by decide +kernel
theorem dJ0_isLatin1_aae02_6 : decode cJ0_isLatin1_aae02 6 = .ok (.aload_n 0, 1) := by decide +kernel
theorem dJ0_isLatin1_aae02_7 : decode cJ0_isLatin1_aae02 7 = .ok (.getfield 15, 3) := by decide +kernel
theorem dJ0_isLatin1_aae02_10 : decode cJ0_isLatin1_aae02 10 = .ok (.ifCond .ne 7, 3) := by decide +kernel
theorem dJ0_isLatin1_aae02_13 : decode cJ0_isLatin1_aae02 13 = .ok (.iconst 1, 1) := by decide +kernel
theorem dJ0_isLatin1_aae02_14 : decode cJ0_isLatin1_aae02 14 = .ok (.goto 4, 3) := by decide +kernel
theorem dJ0_isLatin1_aae02_17 : decode cJ0_isLatin1_aae02 17 = .ok (.iconst 0, 1) := by decide +kernel
theorem dJ0_isLatin1_aae02_18 : decode cJ0_isLatin1_aae02 18 = .ok (.ireturn, 1) := by decide +kernel
theorem dJ1_charAt_3b067_0 : decode cJ1_charAt_3b067 0 = .ok (.iload_n 1, 1) := by decide +kernel
theorem dJ1_charAt_3b067_1 : decode cJ1_charAt_3b067 1 = .ok (.aload_n 0, 1) := by decide +kernel
theorem dJ1_charAt_3b067_2 : decode cJ1_charAt_3b067 2 = .ok (.arraylength, 1) := by decide +kernel
theorem dJ1_charAt_3b067_3 : decode cJ1_charAt_3b067 3 = .ok (.invokestatic 9, 3) := by decide +kernel
theorem dJ1_charAt_3b067_6 : decode cJ1_charAt_3b067 6 = .ok (.aload_n 0, 1) := by decide +kernel
theorem dJ1_charAt_3b067_7 : decode cJ1_charAt_3b067 7 = .ok (.iload_n 1, 1) := by decide +kernel
theorem dJ1_charAt_3b067_8 : decode cJ1_charAt_3b067 8 = .ok (.baload, 1) := by decide +kernel
theorem dJ1_charAt_3b067_9 : decode cJ1_charAt_3b067 9 = .ok (.sipush 255, 3) := by decide +kernel
theorem dJ1_charAt_3b067_12 : decode cJ1_charAt_3b067 12 = .ok (.iand, 1) := by decide +kernel
theorem dJ1_charAt_3b067_13 : decode cJ1_charAt_3b067 13 = .ok (.i2c, 1) := by decide +kernel
theorem dJ1_charAt_3b067_14 : decode cJ1_charAt_3b067 14 = .ok (.ireturn, 1) := by decide +kernel
theorem dJ0_checkIndex_df160_0 : decode cJ0_checkIndex_df160 0 = .ok (.iload_n 0, 1) := by decide +kernel
theorem dJ0_checkIndex_df160_1 : decode cJ0_checkIndex_df160 1 = .ok (.iload_n 1, 1) := by decide +kernel
theorem dJ0_checkIndex_df160_2 : decode cJ0_checkIndex_df160 2 = .ok (.getstatic 1053, 3) := by decide +kernel
theorem dJ0_checkIndex_df160_5 : decode cJ0_checkIndex_df160 5 = .ok (.invokestatic 1059, 3) := by decide +kernel
theorem dJ0_checkIndex_df160_8 : decode cJ0_checkIndex_df160 8 = .ok (.pop, 1) := by decide +kernel
theorem dJ0_checkIndex_df160_9 : decode cJ0_checkIndex_df160 9 = .ok (.return_, 1) := by decide +kernel
theorem dJ3_checkIndex_8e157_0 : decode cJ3_checkIndex_8e157 0 = .ok (.iload_n 0, 1) := by decide +kernel
theorem dJ3_checkIndex_8e157_1 : decode cJ3_checkIndex_8e157 1 = .ok (.ifCond .lt 8, 3) := by decide +kernel
theorem dJ3_checkIndex_8e157_4 : decode cJ3_checkIndex_8e157 4 = .ok (.iload_n 0, 1) := by decide +kernel
theorem dJ3_checkIndex_8e157_5 : decode cJ3_checkIndex_8e157 5 = .ok (.iload_n 1, 1) := by decide +kernel
theorem dJ3_checkIndex_8e157_6 : decode cJ3_checkIndex_8e157 6 = .ok (.if_icmp .lt 10, 3) := by decide +kernel
theorem dJ3_checkIndex_8e157_9 : decode cJ3_checkIndex_8e157 9 = .ok (.aload_n 2, 1) := by decide +kernel
theorem dJ3_checkIndex_8e157_10 : decode cJ3_checkIndex_8e157 10 = .ok (.iload_n 0, 1) := by decide +kernel
theorem dJ3_checkIndex_8e157_11 : decode cJ3_checkIndex_8e157 11 = .ok (.iload_n 1, 1) := by decide +kernel
theorem dJ3_checkIndex_8e157_12 : decode cJ3_checkIndex_8e157 12 = .ok (.invokestatic 95, 3) := by decide +kernel
theorem dJ3_checkIndex_8e157_15 : decode cJ3_checkIndex_8e157 15 = .ok (.athrow, 1) := by decide +kernel
theorem dJ3_checkIndex_8e157_16 : decode cJ3_checkIndex_8e157 16 = .ok (.iload_n 0, 1) := by decide +kernel
theorem dJ3_checkIndex_8e157_17 : decode cJ3_checkIndex_8e157 17 = .ok (.ireturn, 1) := by decide +kernel

abbrev zs1 : Z9 := (some .byte, 1, 0, 0, 1, 0)
abbrev zs2 : Z9 := (some .int, 1, 0, 0, 2, 30)
abbrev zs3 : Z9 := (some .boolean, 1, 0, 0, 1, 0)
abbrev zs4 : Z9 := (some .int, 1, 0, 0, 1, 0)
abbrev zs5 : Z9 := (none, 0, 0, 0, 2, 30)
abbrev zs6 : Z9 := (some .char, 1, 0, 0, 3, 60)
abbrev zs7 : Z9 := (some .char, 1, 0, 0, 4, 90)
section STR
theorem t_coder {G : G9} {l : Launch} (h1 : va_D (A9 G) (wl G (fun _ _ => 0))) (h2 : l.stackTraces = false) {si : Nat} (hs : si < 40) (d : D9) : MT G l yJ0_coder_7d493 cJ0_coder_7d493 1 zs1 [sf G si] d (rt 0 d) := by
  refine mt_of (own := RJ0) (by decide) rfl (Nat.le_of_ble_eq_true rfl) h1 h2 [(0, sf G si)] rfl (fun X hX C => ?_)
  refine r_scmp C dJ0_coder_7d493_0 sw38 ?_
  show SS G X 1 0 0 3 _ _ d (if w32 1 = 0 then none else rt 0 d)
  refine r_if_eq C (b := 0) 13 dJ0_coder_7d493_3 (by decide) (fun h => absurd h (by decide)) (fun _ => ?_)
  refine r_aload_nS C 0 dJ0_coder_7d493_6 rfl rfl ?_
  refine r_scod C hs dJ0_coder_7d493_7 sw15 ?_
  refine r_goto C 14 dJ0_coder_7d493_10 (by decide) ?_
  exact r_bret C dJ0_coder_7d493_14 (by decide) (by decide)
theorem t_latin {G : G9} {l : Launch} (h1 : va_D (A9 G) (wl G (fun _ _ => 0))) (h2 : l.stackTraces = false) {si : Nat} (hs : si < 40) (d : D9) : MT G l yJ0_isLatin1_aae02 cJ0_isLatin1_aae02 1 zs3 [sf G si] d (rt 1 d) := by
  refine mt_of (own := RJ0) (by decide) rfl (Nat.le_of_ble_eq_true rfl) h1 h2 [(0, sf G si)] rfl (fun X hX C => ?_)
  refine r_scmp C dJ0_isLatin1_aae02_0 sw38 ?_
  show SS G X 1 0 0 3 _ _ d (if w32 1 = 0 then none else rt 1 d)
  refine r_if_eq C (b := 0) 17 dJ0_isLatin1_aae02_3 (by decide) (fun h => absurd h (by decide)) (fun _ => ?_)
  refine r_aload_nS C 0 dJ0_isLatin1_aae02_6 rfl rfl ?_
  refine r_scod C hs dJ0_isLatin1_aae02_7 sw15 ?_
  show SS G X 1 0 0 10 _ _ d (if w32 0 ≠ 0 then none else rt 1 d)
  refine r_if_ne C (b := 0) 17 dJ0_isLatin1_aae02_10 (by decide) (fun h => absurd h (by decide)) (fun _ => ?_)
  refine r_iconst C dJ0_isLatin1_aae02_13 ?_
  refine r_goto C 18 dJ0_isLatin1_aae02_14 (by decide) ?_
  exact r_zret C dJ0_isLatin1_aae02_18 (by decide) (by decide)
theorem t_slen {G : G9} {l : Launch} (h1 : va_D (A9 G) (wl G (fun _ _ => 0))) (h2 : l.stackTraces = false) {si : Nat} (hs : si < 40) (d : D9) : MT G l yJ0_length_8abf5 cJ0_length_8abf5 1 zs2 [sf G si] d (rt (sl9 si) d) := by
  refine mt_of (own := RJ0) (by decide) rfl (Nat.le_of_ble_eq_true rfl) h1 h2 [(0, sf G si)] rfl (fun X hX C => ?_)
  refine r_aload_nS C 0 dJ0_length_8abf5_0 rfl rfl ?_
  refine r_sval C hs dJ0_length_8abf5_1 sw9 ?_
  refine r_blen C hs dJ0_length_8abf5_4 ?_
  refine r_aload_nS C 0 dJ0_length_8abf5_5 rfl rfl ?_
  show SS G X 1 0 0 6 _ _ d (cl (rt 0 d) (fun v d => rt (sl9 si) d))
  refine r_callT C [sf G si, i9 (sl9 si)] hs dJ0_length_8abf5_6 (t_coder C.h1 C.h2 hs d) mw_J0_335 mv_J0_coder_7d493 rfl (by decide) (by decide) (by decide) rfl rfl (Nat.le_of_ble_eq_true rfl) (fun v d' he => ?_)
  cases he
  show SS G X 1 _ _ 9 [(0, sf G si)] [i9 0, i9 (sl9 si)] d _
  refine r_ishr C dJ0_length_8abf5_9 ?_
  rw [show shr9 (sl9 si) 0 = sl9 si from by
    have h : ∀ i, i < 40 → shr9 (sl9 i) 0 = sl9 i := by decide +kernel
    exact h si hs]
  exact r_iret C dJ0_length_8abf5_10 (by decide) (by decide)
theorem t_chk3 {G : G9} {l : Launch} (h1 : va_D (A9 G) (wl G (fun _ _ => 0))) (h2 : l.stackTraces = false) (d : D9) (a b : Int) (u : Value) (hu : u.category = 1) : MT G l yJ3_checkIndex_8e157 cJ3_checkIndex_8e157 3 zs4 [i9 a, i9 b, u] d (if w32 a < 0 then none else if w32 a < w32 b then rt a d else none) := by
  refine mt_of (own := RJ3) (by decide) rfl (by
    have : lg_sl [i9 a, i9 b, u] = [.val (i9 a), .val (i9 b), .val u] := by
      have e1 : (i9 a).category = 1 := rfl
      have e2 : (i9 b).category = 1 := rfl
      simp [lg_sl, e1, e2, hu]
    rw [this]; exact Nat.le_refl _) h1 h2 (lv_args 0 [i9 a, i9 b, u]) rfl (fun X hX C => ?_)
  refine ss_ls [(0, i9 a), (1, i9 b)] [0, 1] rfl ?_
  refine r_iload_n C 0 dJ3_checkIndex_8e157_0 rfl rfl ?_
  refine r_if_lt C (b := 0) 9 dJ3_checkIndex_8e157_1 (by decide) (fun _ => ss_none) (fun _ => ?_)
  refine r_iload_n C 0 dJ3_checkIndex_8e157_4 rfl rfl ?_
  refine r_iload_n C 1 dJ3_checkIndex_8e157_5 rfl rfl ?_
  refine r_icmp_lt C 16 dJ3_checkIndex_8e157_6 (by decide) (fun _ => ?_) (fun _ => ss_none)
  refine r_iload_n C 0 dJ3_checkIndex_8e157_16 rfl rfl ?_
  exact r_iret C dJ3_checkIndex_8e157_17 (by decide) (by decide)
theorem t_chk0 {G : G9} {l : Launch} (h1 : va_D (A9 G) (wl G (fun _ _ => 0))) (h2 : l.stackTraces = false) (d : D9) (a b : Int) (hin : 0 ≤ w32 a ∧ w32 a < w32 b) : MT G l yJ0_checkIndex_df160 cJ0_checkIndex_df160 2 zs5 [i9 a, i9 b] d (rt 0 d) := by
  refine mt_of (own := RJ0) (by decide) rfl (Nat.le_of_ble_eq_true rfl) h1 h2 [(0, i9 a), (1, i9 b)] rfl (fun X hX C => ?_)
  refine r_iload_n C 0 dJ0_checkIndex_df160_0 rfl rfl ?_
  refine r_iload_n C 1 dJ0_checkIndex_df160_1 rfl rfl ?_
  refine r_sfmt C dJ0_checkIndex_df160_2 sw1053 (fun u hu => ?_)
  have e : rt 0 d = cl (if w32 a < 0 then none else if w32 a < w32 b then rt a d else none) (fun _ d => rt 0 d) := by
    rw [if_neg (by omega), if_pos hin.2]; rfl
  rw [e]
  refine r_callS C [u, i9 b, i9 a] dJ0_checkIndex_df160_5 (t_chk3 C.h1 C.h2 d a b u hu) mw_J0_1059 ms_J3_checkIndex_8e157 (by decide) (by decide) (by decide) rfl rfl (by decide) (fun v d' => ?_)
  show SS G X 2 _ _ 8 [(0, i9 a), (1, i9 b)] [i9 v] d' _
  refine r_pop C dJ0_checkIndex_df160_8 rfl ?_
  exact r_vret C dJ0_checkIndex_df160_9 (by decide) (by decide)
theorem t_char1 {G : G9} {l : Launch} (h1 : va_D (A9 G) (wl G (fun _ _ => 0))) (h2 : l.stackTraces = false) {si : Nat} (hs : si < 40) (d : D9) (j : Int) : MT G l yJ1_charAt_3b067 cJ1_charAt_3b067 2 zs6 [bf G si, i9 j] d (sch si j (fun t => rt t d)) := by
  unfold sch
  by_cases hin : 0 ≤ w32 j ∧ w32 j < sl9 si
  case neg => rw [if_neg hin]; exact fun r h => nomatch h
  rw [if_pos hin]
  refine mt_of (own := RJ1) (by decide) rfl (Nat.le_of_ble_eq_true rfl) h1 h2 [(0, bf G si), (1, i9 j)] rfl (fun X hX C => ?_)
  refine r_iload_n C 1 dJ1_charAt_3b067_0 rfl rfl ?_
  refine r_aload_nB C 0 dJ1_charAt_3b067_1 rfl rfl ?_
  refine r_blen C hs dJ1_charAt_3b067_2 ?_
  have hl : w32 (sl9 si) = sl9 si := by
    have h : ∀ i, i < 40 → w32 (sl9 i) = sl9 i := by decide +kernel
    exact h si hs
  show SS G X 2 0 0 3 _ _ d (cl (rt 0 d) (fun _ d => rt (sb9 si (w32 j).toNat) d))
  refine r_callS C [i9 (sl9 si), i9 j] dJ1_charAt_3b067_3 (t_chk0 C.h1 C.h2 d j (sl9 si) ⟨hin.1, by rw [hl]; exact hin.2⟩) mw_J1_9 ms_J0_checkIndex_df160 (by decide) (by decide) (by decide) rfl rfl (by decide) (fun v d' => ?_)
  show SS G X 2 _ _ 6 [(0, bf G si), (1, i9 j)] [] d' _
  refine r_aload_nB C 0 dJ1_charAt_3b067_6 rfl rfl ?_
  refine r_iload_n C 1 dJ1_charAt_3b067_7 rfl rfl ?_
  refine r_bbyt C hs hin dJ1_charAt_3b067_8 ?_
  refine r_sipush C dJ1_charAt_3b067_9 rfl ?_
  refine r_iand C dJ1_charAt_3b067_12 ?_
  refine r_i2c C dJ1_charAt_3b067_13 ?_
  have e := sch_ok si hs (w32 j).toNat (by omega)
  rw [e]
  have e2 : sb9 si (w32 j).toNat % 65536 = sb9 si (w32 j).toNat := by rw [← e]; omega
  have k := r_cret (G := G) (X := X) (nL := 2) (k := 0 + zs5.2.2.1) (n := 0 + zs5.2.2.2.1) (pc := 14) (ls := [(0, bf G si), (1, i9 j)]) (d := d') C (a := sb9 si (w32 j).toNat) dJ1_charAt_3b067_14 (by decide) (by decide)
  rw [e2] at k
  exact k
theorem t_charAt {G : G9} {l : Launch} (h1 : va_D (A9 G) (wl G (fun _ _ => 0))) (h2 : l.stackTraces = false) {si : Nat} (hs : si < 40) (d : D9) (j : Int) : MT G l yJ0_charAt_5068e cJ0_charAt_5068e 2 zs7 [sf G si, i9 j] d (sch si j (fun t => rt t d)) := by
  refine mt_of (own := RJ0) (by decide) rfl (Nat.le_of_ble_eq_true rfl) h1 h2 [(0, sf G si), (1, i9 j)] rfl (fun X hX C => ?_)
  refine r_aload_nS C 0 dJ0_charAt_5068e_0 rfl rfl ?_
  show SS G X 2 0 0 1 _ _ d (cl (rt 1 d) (fun v d => if w32 v = 0 then none else sch si j (fun t => rt t d)))
  refine r_callT C [sf G si] hs dJ0_charAt_5068e_1 (t_latin C.h1 C.h2 hs d) mw_J0_492 mv_J0_isLatin1_aae02 rfl (by decide) (by decide) (by decide) rfl rfl (by decide) (fun v d' he => ?_)
  cases he
  show SS G X 2 _ _ 4 [(0, sf G si), (1, i9 j)] [i9 1] d _
  refine r_if_eq C (b := 0) 16 dJ0_charAt_5068e_4 (by decide) (fun h => absurd h (by decide)) (fun _ => ?_)
  refine r_aload_nS C 0 dJ0_charAt_5068e_7 rfl rfl ?_
  refine r_sval C hs dJ0_charAt_5068e_8 sw9 ?_
  refine r_iload_n C 1 dJ0_charAt_5068e_11 rfl rfl ?_
  unfold sch
  by_cases hin : 0 ≤ w32 j ∧ w32 j < sl9 si
  case neg => rw [if_neg hin]; exact ss_none
  rw [if_pos hin]
  have e := sch_ok si hs (w32 j).toNat (by omega)
  have e2 : sb9 si (w32 j).toNat % 65536 = sb9 si (w32 j).toNat := by rw [← e]; omega
  have e3 : rt (sb9 si (w32 j).toNat) d = cl (sch si j (fun t => rt t d)) (fun v d => rt (v % 65536) d) := by
    unfold sch; rw [if_pos hin]
    show rt (sb9 si (w32 j).toNat) d = rt (sb9 si (w32 j).toNat % 65536) d
    rw [e2]
  show SS G X 2 _ _ _ _ _ d (rt (sb9 si (w32 j).toNat) d)
  rw [e3]
  refine r_callS C [i9 j, bf G si] dJ0_charAt_5068e_12 (t_char1 C.h1 C.h2 hs d j) mw_J0_495 ms_J1_charAt_3b067 (by decide) (by decide) (by decide) rfl rfl (by decide) (fun v d' => ?_)
  show SS G X 2 _ _ 15 [(0, sf G si), (1, i9 j)] [i9 v] d' _
  exact r_cret C dJ0_charAt_5068e_15 (by decide) (by decide)
end STR
section RSS
variable {G : G9} {X : X9} {nL k n pc : Nat} {ls : List (Nat × Value)} {st : List Value} {d : D9} {x y : Option R9} {cc : ByteArray} {own : String} {tb : List ExceptionTableEntry} {z9 : Z9}
theorem r_slen (C : CX G X cc nL own [] z9) {i m : Nat} (si : Nat) (hd : decode cc pc = .ok (.invokevirtual i, 3)) (hw : MW own i yJ0_length_8abf5 cJ0_length_8abf5 1 (some .int) 0) (hm : sl9 si = m) (hsi : si < 40 ∧ 4 ≤ z9.2.2.2.2.1 ∧ 60 ≤ z9.2.2.2.2.2 ∧ k ≤ z9.2.2.1 ∧ n ≤ z9.2.2.2.1) (hst : (st.map fun v => v.category).sum ≤ 8) (kk : SS G X nL k n (pc + 3) ls (i9 m :: st) d x) (hv : z9.2.1 < 7 := by exact Nat.le_of_ble_eq_true rfl) : SS G X nL k n pc ls (sf G si :: st) d x := by
  have e : x = cl (rt m d) (fun _ _ => x) := rfl
  rw [e]
  refine r_callT (hv := hv) C (z := zs2) (sf G si :: st) hsi.1 hd (by have := t_slen C.h1 C.h2 hsi.1 d; rw [hm] at this; exact this) hw mv_J0_length_8abf5 rfl ⟨by show 3 ≤ _; omega, by show 50 ≤ _; omega⟩ hsi.2.2.2.1 hsi.2.2.2.2 rfl rfl hst (fun v d' he => ?_)
  cases he
  exact kk
theorem r_schar (C : CX G X cc nL own [] z9) {i : Nat} {j : Int} {K : Int → Option R9} (si : Nat) (hd : decode cc pc = .ok (.invokevirtual i, 3)) (hw : MW own i yJ0_charAt_5068e cJ0_charAt_5068e 2 (some .char) 1) (hsi : si < 40 ∧ 6 ≤ z9.2.2.2.2.1 ∧ 120 ≤ z9.2.2.2.2.2 ∧ k ≤ z9.2.2.1 ∧ n ≤ z9.2.2.2.1) (hst : (st.map fun v => v.category).sum ≤ 8) (kk : ∀ t, SS G X nL k n (pc + 3) ls (i9 t :: st) d (K t)) (hv : z9.2.1 < 7 := by exact Nat.le_of_ble_eq_true rfl) : SS G X nL k n pc ls (i9 j :: sf G si :: st) d (sch si j K) := by
  unfold sch
  by_cases hin : 0 ≤ w32 j ∧ w32 j < sl9 si
  case neg => rw [if_neg hin]; exact ss_none
  rw [if_pos hin]
  have e : K (sb9 si (w32 j).toNat) = cl (sch si j (fun t => rt t d)) (fun v _ => K v) := by
    unfold sch; rw [if_pos hin]; rfl
  rw [e]
  refine r_callT (hv := hv) C (z := zs7) (i9 j :: sf G si :: st) hsi.1 hd (t_charAt C.h1 C.h2 hsi.1 d j) hw mv_J0_charAt_5068e rfl ⟨by show 5 ≤ _; omega, by show 111 ≤ _; omega⟩ hsi.2.2.2.1 hsi.2.2.2.2 rfl rfl hst (fun v d' he => ?_)
  have ed : d' = d := by
    unfold sch at he
    rw [if_pos hin] at he
    cases he; rfl
  rw [ed]
  exact kk v
end RSS

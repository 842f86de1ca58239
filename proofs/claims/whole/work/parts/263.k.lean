theorem ac_I : Cond.arrayClass .int ∈ WG := (wg1 86 rfl rfl)
theorem ac_J : Cond.arrayClass .long ∈ WG := (wg2 144 rfl rfl)
theorem ac_C : Cond.arrayClass .char ∈ WG := (wg2 111 rfl rfl)
theorem ac_Z : Cond.arrayClass .boolean ∈ WG := (wg2 110 rfl rfl)
theorem dX0_init_0 : decode cX0_init 0 = .ok (.aload_n 0, 1) := by decide +kernel
theorem dX0_init_1 : decode cX0_init 1 = .ok (.invokespecial 1, 3) := by decide +kernel
theorem dX0_init_4 : decode cX0_init 4 = .ok (.return_, 1) := by decide +kernel
theorem k_X0_53 {G : G9} {l : Launch} {B : Nat} (hB : ∀ k, G.1 k = B + k) (m : Nat) (d : D9) (hz : ∀ k, 53 ≤ k → d k = zr) : ME G l yX0_init cX0_init 1 1 20 0 0 53 1 m d d := by
  refine me_of (own := RX0) (by decide) rfl (by decide) hB (fun X hl hR9 C hin9 hret => ?_)
  refine e_aload_n C 0 dX0_init_0 rfl rfl ?_
  refine e_objinit C dX0_init_1 ⟨(wg2 117 rfl rfl), (wg1 34 rfl rfl), (wg1 35 rfl rfl)⟩ (by rw [hR9]; exact ⟨by decide, Nat.le_of_ble_eq_true rfl⟩) ?_
  exact e_ret C dX0_init_4 hret rfl rfl rfl (by decide) (by decide)
theorem dX1_init_0 : decode cX1_init 0 = .ok (.aload_n 0, 1) := by decide +kernel
theorem dX1_init_1 : decode cX1_init 1 = .ok (.invokespecial 3, 3) := by decide +kernel
theorem dX1_init_4 : decode cX1_init 4 = .ok (.aload_n 0, 1) := by decide +kernel
theorem dX1_init_5 : decode cX1_init 5 = .ok (.bipush 40, 2) := by decide +kernel
theorem dX1_init_7 : decode cX1_init 7 = .ok (.newarray .int, 2) := by decide +kernel
theorem dX1_init_9 : decode cX1_init 9 = .ok (.putfield 9, 3) := by decide +kernel
theorem dX1_init_12 : decode cX1_init 12 = .ok (.aload_n 0, 1) := by decide +kernel
theorem dX1_init_13 : decode cX1_init 13 = .ok (.sipush 200, 3) := by decide +kernel
theorem dX1_init_16 : decode cX1_init 16 = .ok (.newarray .int, 2) := by decide +kernel
theorem dX1_init_18 : decode cX1_init 18 = .ok (.putfield 15, 3) := by decide +kernel
theorem dX1_init_21 : decode cX1_init 21 = .ok (.aload_n 0, 1) := by decide +kernel
theorem dX1_init_22 : decode cX1_init 22 = .ok (.iconst 5, 1) := by decide +kernel
theorem dX1_init_23 : decode cX1_init 23 = .ok (.newarray .int, 2) := by decide +kernel
theorem dX1_init_25 : decode cX1_init 25 = .ok (.dup, 1) := by decide +kernel
theorem dX1_init_26 : decode cX1_init 26 = .ok (.iconst 0, 1) := by decide +kernel
theorem dX1_init_27 : decode cX1_init 27 = .ok (.iconst 1, 1) := by decide +kernel
theorem dX1_init_28 : decode cX1_init 28 = .ok (.iastore, 1) := by decide +kernel
theorem dX1_init_29 : decode cX1_init 29 = .ok (.dup, 1) := by decide +kernel
theorem dX1_init_30 : decode cX1_init 30 = .ok (.iconst 1, 1) := by decide +kernel
theorem dX1_init_31 : decode cX1_init 31 = .ok (.iconst 1, 1) := by decide +kernel
theorem dX1_init_32 : decode cX1_init 32 = .ok (.iastore, 1) := by decide +kernel
theorem dX1_init_33 : decode cX1_init 33 = .ok (.dup, 1) := by decide +kernel
theorem dX1_init_34 : decode cX1_init 34 = .ok (.iconst 2, 1) := by decide +kernel
theorem dX1_init_35 : decode cX1_init 35 = .ok (.iconst 1, 1) := by decide +kernel
theorem dX1_init_36 : decode cX1_init 36 = .ok (.iastore, 1) := by decide +kernel
theorem dX1_init_37 : decode cX1_init 37 = .ok (.dup, 1) := by decide +kernel
theorem dX1_init_38 : decode cX1_init 38 = .ok (.iconst 3, 1) := by decide +kernel
theorem dX1_init_39 : decode cX1_init 39 = .ok (.iconst 1, 1) := by decide +kernel
theorem dX1_init_40 : decode cX1_init 40 = .ok (.iastore, 1) := by decide +kernel
theorem dX1_init_41 : decode cX1_init 41 = .ok (.dup, 1) := by decide +kernel
theorem dX1_init_42 : decode cX1_init 42 = .ok (.iconst 4, 1) := by decide +kernel
theorem dX1_init_43 : decode cX1_init 43 = .ok (.iconst 1, 1) := by decide +kernel
theorem dX1_init_44 : decode cX1_init 44 = .ok (.iastore, 1) := by decide +kernel
theorem dX1_init_45 : decode cX1_init 45 = .ok (.putfield 18, 3) := by decide +kernel
theorem dX1_init_48 : decode cX1_init 48 = .ok (.aload_n 0, 1) := by decide +kernel
theorem dX1_init_49 : decode cX1_init 49 = .ok (.iconst 5, 1) := by decide +kernel
theorem dX1_init_50 : decode cX1_init 50 = .ok (.newarray .int, 2) := by decide +kernel
theorem dX1_init_52 : decode cX1_init 52 = .ok (.dup, 1) := by decide +kernel
theorem dX1_init_53 : decode cX1_init 53 = .ok (.iconst 0, 1) := by decide +kernel
theorem dX1_init_54 : decode cX1_init 54 = .ok (.iconst 1, 1) := by decide +kernel
theorem dX1_init_55 : decode cX1_init 55 = .ok (.iastore, 1) := by decide +kernel
theorem dX1_init_56 : decode cX1_init 56 = .ok (.dup, 1) := by decide +kernel
theorem dX1_init_57 : decode cX1_init 57 = .ok (.iconst 1, 1) := by decide +kernel
theorem dX1_init_58 : decode cX1_init 58 = .ok (.iconst 1, 1) := by decide +kernel
theorem dX1_init_59 : decode cX1_init 59 = .ok (.iastore, 1) := by decide +kernel
theorem dX1_init_60 : decode cX1_init 60 = .ok (.dup, 1) := by decide +kernel
theorem dX1_init_61 : decode cX1_init 61 = .ok (.iconst 2, 1) := by decide +kernel
theorem dX1_init_62 : decode cX1_init 62 = .ok (.iconst 1, 1) := by decide +kernel
theorem dX1_init_63 : decode cX1_init 63 = .ok (.iastore, 1) := by decide +kernel
theorem dX1_init_64 : decode cX1_init 64 = .ok (.dup, 1) := by decide +kernel
theorem dX1_init_65 : decode cX1_init 65 = .ok (.iconst 3, 1) := by decide +kernel
theorem dX1_init_66 : decode cX1_init 66 = .ok (.iconst 1, 1) := by decide +kernel
theorem dX1_init_67 : decode cX1_init 67 = .ok (.iastore, 1) := by decide +kernel
theorem dX1_init_68 : decode cX1_init 68 = .ok (.dup, 1) := by decide +kernel
theorem dX1_init_69 : decode cX1_init 69 = .ok (.iconst 4, 1) := by decide +kernel
theorem dX1_init_70 : decode cX1_init 70 = .ok (.iconst 1, 1) := by decide +kernel
theorem dX1_init_71 : decode cX1_init 71 = .ok (.iastore, 1) := by decide +kernel
theorem dX1_init_72 : decode cX1_init 72 = .ok (.putfield 21, 3) := by decide +kernel
theorem dX1_init_75 : decode cX1_init 75 = .ok (.return_, 1) := by decide +kernel
def fx_X1 (w : Nat) (d : D9) : D9 := (up (up (up (up (up (up (up (up (up (up d (w + 3) 0 1) (w + 3) 1 1) (w + 3) 2 1) (w + 3) 3 1) (w + 3) 4 1) (w + 4) 0 1) (w + 4) 1 1) (w + 4) 2 1) (w + 4) 3 1) (w + 4) 4 1)
theorem fx_X1_out {w : Nat} {d : D9} {k : Nat} (h : k < w ∨ w + 5 ≤ k) : fx_X1 w d k = d k := by
  unfold fx_X1
  rw [up_k (by omega), up_k (by omega), up_k (by omega), up_k (by omega), up_k (by omega), up_k (by omega), up_k (by omega), up_k (by omega), up_k (by omega), up_k (by omega)]
theorem k_X1_33 {G : G9} {l : Launch} {B : Nat} (hB : ∀ k, G.1 k = B + k) (m : Nat) (d : D9) (hz : ∀ k, 33 ≤ k → d k = zr) : ME G l yX1_init cX1_init 1 1 20 4 250 33 5 m d (fx_X1 33 d) := by
  refine me_of (own := RX1) (by decide) rfl (by decide) hB (fun X hl hR9 C hin9 hret => ?_)
  refine e_aload_n C 0 dX1_init_0 rfl rfl ?_
  refine e_objinit C dX1_init_1 ⟨(wg2 11 rfl rfl), (wg1 34 rfl rfl), (wg1 35 rfl rfl)⟩ (by rw [hR9]; exact ⟨by decide, Nat.le_of_ble_eq_true rfl⟩) ?_
  refine e_aload_n C 0 dX1_init_4 rfl rfl ?_
  refine e_bipush C dX1_init_5 rfl ?_
  refine e_newI C (lo := 34) (c := 0) dX1_init_7 ac_I rfl (by decide) (fun j => congrFun (hz 34 (by decide)) j) ⟨by decide, by decide⟩ (by decide) (by rw [hR9]; exact ⟨by decide, by decide⟩) (by decide) ?_
  refine e_putR C (lo := 34) (w := 33) (a' := 2) (j := 1) (ty := (.array .int)) rfl (by decide) dX1_init_9 rfl uw_X1 tyX1_ok nmX1 (by decide) (wg2 15 rfl rfl) rfl rfl (by decide +kernel) (fun _ => ⟨rfl, rfl⟩) hin9 rfl rfl (by decide) rfl ?_
  refine e_aload_n C 0 dX1_init_12 rfl rfl ?_
  refine e_sipush C dX1_init_13 rfl ?_
  refine e_newI C (lo := 34) (c := 1) dX1_init_16 ac_I rfl (by decide) (fun j => congrFun (hz 35 (by decide)) j) ⟨by decide, by decide⟩ (by decide) (by rw [hR9]; exact ⟨by decide, by decide⟩) (by decide) ?_
  refine e_putR C (lo := 34) (w := 33) (a' := 3) (j := 2) (ty := (.array .int)) rfl (by decide) dX1_init_18 rfl uw_X1 tyX1_ok nmX1 (by decide) (wg2 18 rfl rfl) rfl rfl (by decide +kernel) (fun _ => ⟨rfl, rfl⟩) hin9 rfl rfl (by decide) rfl ?_
  refine e_aload_n C 0 dX1_init_21 rfl rfl ?_
  refine e_iconst C dX1_init_22 ?_
  refine e_newI C (lo := 34) (c := 2) dX1_init_23 ac_I rfl (by decide) (fun j => congrFun (hz 36 (by decide)) j) ⟨by decide, by decide⟩ (by decide) (by rw [hR9]; exact ⟨by decide, by decide⟩) (by decide) ?_
  refine e_dup C dX1_init_25 rfl ?_
  refine e_iconst C dX1_init_26 ?_
  refine e_iconst C dX1_init_27 ?_
  refine e_iast C (lo := 34) (i := 2) (w := 33) rfl (by decide) (by decide) dX1_init_28 rfl (by decide) (by decide) ?_
  show SE G X _ _ 1 3 245 29 [(0, rf G 33)] [rf G 36, rf G 33] (up d 36 0 1) _ _ _ _
  refine e_dup C dX1_init_29 rfl ?_
  refine e_iconst C dX1_init_30 ?_
  refine e_iconst C dX1_init_31 ?_
  refine e_iast C (lo := 34) (i := 2) (w := 33) rfl (by decide) (by decide) dX1_init_32 rfl (by decide) (by decide) ?_
  show SE G X _ _ 1 3 245 33 [(0, rf G 33)] [rf G 36, rf G 33] (up (up d 36 0 1) 36 1 1) _ _ _ _
  refine e_dup C dX1_init_33 rfl ?_
  refine e_iconst C dX1_init_34 ?_
  refine e_iconst C dX1_init_35 ?_
  refine e_iast C (lo := 34) (i := 2) (w := 33) rfl (by decide) (by decide) dX1_init_36 rfl (by decide) (by decide) ?_
  show SE G X _ _ 1 3 245 37 [(0, rf G 33)] [rf G 36, rf G 33] (up (up (up d 36 0 1) 36 1 1) 36 2 1) _ _ _ _
  refine e_dup C dX1_init_37 rfl ?_
  refine e_iconst C dX1_init_38 ?_
  refine e_iconst C dX1_init_39 ?_
  refine e_iast C (lo := 34) (i := 2) (w := 33) rfl (by decide) (by decide) dX1_init_40 rfl (by decide) (by decide) ?_
  show SE G X _ _ 1 3 245 41 [(0, rf G 33)] [rf G 36, rf G 33] (up (up (up (up d 36 0 1) 36 1 1) 36 2 1) 36 3 1) _ _ _ _
  refine e_dup C dX1_init_41 rfl ?_
  refine e_iconst C dX1_init_42 ?_
  refine e_iconst C dX1_init_43 ?_
  refine e_iast C (lo := 34) (i := 2) (w := 33) rfl (by decide) (by decide) dX1_init_44 rfl (by decide) (by decide) ?_
  show SE G X _ _ 1 3 245 45 [(0, rf G 33)] [rf G 36, rf G 33] (up (up (up (up (up d 36 0 1) 36 1 1) 36 2 1) 36 3 1) 36 4 1) _ _ _ _
  refine e_putR C (lo := 34) (w := 33) (a' := 4) (j := 3) (ty := (.array .int)) rfl (by decide) dX1_init_45 rfl uw_X1 tyX1_ok nmX1 (by decide) (wg2 21 rfl rfl) rfl rfl (by decide +kernel) (fun _ => ⟨rfl, rfl⟩) hin9 rfl rfl (by decide) rfl ?_
  refine e_aload_n C 0 dX1_init_48 rfl rfl ?_
  refine e_iconst C dX1_init_49 ?_
  refine e_newI C (lo := 34) (c := 3) dX1_init_50 ac_I rfl (by decide) (fun j => congrFun ((up_k (by decide)).trans ((up_k (by decide)).trans ((up_k (by decide)).trans ((up_k (by decide)).trans ((up_k (by decide)).trans (hz 37 (by decide))))))) j) ⟨by decide, by decide⟩ (by decide) (by rw [hR9]; exact ⟨by decide, by decide⟩) (by decide) ?_
  refine e_dup C dX1_init_52 rfl ?_
  refine e_iconst C dX1_init_53 ?_
  refine e_iconst C dX1_init_54 ?_
  refine e_iast C (lo := 34) (i := 3) (w := 33) rfl (by decide) (by decide) dX1_init_55 rfl (by decide) (by decide) ?_
  show SE G X _ _ 1 4 250 56 [(0, rf G 33)] [rf G 37, rf G 33] (up (up (up (up (up (up d 36 0 1) 36 1 1) 36 2 1) 36 3 1) 36 4 1) 37 0 1) _ _ _ _
  refine e_dup C dX1_init_56 rfl ?_
  refine e_iconst C dX1_init_57 ?_
  refine e_iconst C dX1_init_58 ?_
  refine e_iast C (lo := 34) (i := 3) (w := 33) rfl (by decide) (by decide) dX1_init_59 rfl (by decide) (by decide) ?_
  show SE G X _ _ 1 4 250 60 [(0, rf G 33)] [rf G 37, rf G 33] (up (up (up (up (up (up (up d 36 0 1) 36 1 1) 36 2 1) 36 3 1) 36 4 1) 37 0 1) 37 1 1) _ _ _ _
  refine e_dup C dX1_init_60 rfl ?_
  refine e_iconst C dX1_init_61 ?_
  refine e_iconst C dX1_init_62 ?_
  refine e_iast C (lo := 34) (i := 3) (w := 33) rfl (by decide) (by decide) dX1_init_63 rfl (by decide) (by decide) ?_
  show SE G X _ _ 1 4 250 64 [(0, rf G 33)] [rf G 37, rf G 33] (up (up (up (up (up (up (up (up d 36 0 1) 36 1 1) 36 2 1) 36 3 1) 36 4 1) 37 0 1) 37 1 1) 37 2 1) _ _ _ _
  refine e_dup C dX1_init_64 rfl ?_
  refine e_iconst C dX1_init_65 ?_
  refine e_iconst C dX1_init_66 ?_
  refine e_iast C (lo := 34) (i := 3) (w := 33) rfl (by decide) (by decide) dX1_init_67 rfl (by decide) (by decide) ?_
  show SE G X _ _ 1 4 250 68 [(0, rf G 33)] [rf G 37, rf G 33] (up (up (up (up (up (up (up (up (up d 36 0 1) 36 1 1) 36 2 1) 36 3 1) 36 4 1) 37 0 1) 37 1 1) 37 2 1) 37 3 1) _ _ _ _
  refine e_dup C dX1_init_68 rfl ?_
  refine e_iconst C dX1_init_69 ?_
  refine e_iconst C dX1_init_70 ?_
  refine e_iast C (lo := 34) (i := 3) (w := 33) rfl (by decide) (by decide) dX1_init_71 rfl (by decide) (by decide) ?_
  show SE G X _ _ 1 4 250 72 [(0, rf G 33)] [rf G 37, rf G 33] (up (up (up (up (up (up (up (up (up (up d 36 0 1) 36 1 1) 36 2 1) 36 3 1) 36 4 1) 37 0 1) 37 1 1) 37 2 1) 37 3 1) 37 4 1) _ _ _ _
  refine e_putR C (lo := 34) (w := 33) (a' := 5) (j := 4) (ty := (.array .int)) rfl (by decide) dX1_init_72 rfl uw_X1 tyX1_ok nmX1 (by decide) (wg2 24 rfl rfl) rfl rfl (by decide +kernel) (fun _ => ⟨rfl, rfl⟩) hin9 rfl rfl (by decide) rfl ?_
  exact e_ret C dX1_init_75 hret rfl rfl rfl (by decide) (by decide)
theorem k_X1_95 {G : G9} {l : Launch} {B : Nat} (hB : ∀ k, G.1 k = B + k) (m : Nat) (d : D9) (hz : ∀ k, 95 ≤ k → d k = zr) : ME G l yX1_init cX1_init 1 1 20 4 250 95 5 m d (fx_X1 95 d) := by
  refine me_of (own := RX1) (by decide) rfl (by decide) hB (fun X hl hR9 C hin9 hret => ?_)
  refine e_aload_n C 0 dX1_init_0 rfl rfl ?_
  refine e_objinit C dX1_init_1 ⟨(wg2 11 rfl rfl), (wg1 34 rfl rfl), (wg1 35 rfl rfl)⟩ (by rw [hR9]; exact ⟨by decide, Nat.le_of_ble_eq_true rfl⟩) ?_
  refine e_aload_n C 0 dX1_init_4 rfl rfl ?_
  refine e_bipush C dX1_init_5 rfl ?_
  refine e_newI C (lo := 96) (c := 0) dX1_init_7 ac_I rfl (by decide) (fun j => congrFun (hz 96 (by decide)) j) ⟨by decide, by decide⟩ (by decide) (by rw [hR9]; exact ⟨by decide, by decide⟩) (by decide) ?_
  refine e_putR C (lo := 96) (w := 95) (a' := 2) (j := 1) (ty := (.array .int)) rfl (by decide) dX1_init_9 rfl uw_X1 tyX1_ok nmX1 (by decide) (wg2 15 rfl rfl) rfl rfl (by decide +kernel) (fun _ => ⟨rfl, rfl⟩) hin9 rfl rfl (by decide) rfl ?_
  refine e_aload_n C 0 dX1_init_12 rfl rfl ?_
  refine e_sipush C dX1_init_13 rfl ?_
  refine e_newI C (lo := 96) (c := 1) dX1_init_16 ac_I rfl (by decide) (fun j => congrFun (hz 97 (by decide)) j) ⟨by decide, by decide⟩ (by decide) (by rw [hR9]; exact ⟨by decide, by decide⟩) (by decide) ?_
  refine e_putR C (lo := 96) (w := 95) (a' := 3) (j := 2) (ty := (.array .int)) rfl (by decide) dX1_init_18 rfl uw_X1 tyX1_ok nmX1 (by decide) (wg2 18 rfl rfl) rfl rfl (by decide +kernel) (fun _ => ⟨rfl, rfl⟩) hin9 rfl rfl (by decide) rfl ?_
  refine e_aload_n C 0 dX1_init_21 rfl rfl ?_
  refine e_iconst C dX1_init_22 ?_
  refine e_newI C (lo := 96) (c := 2) dX1_init_23 ac_I rfl (by decide) (fun j => congrFun (hz 98 (by decide)) j) ⟨by decide, by decide⟩ (by decide) (by rw [hR9]; exact ⟨by decide, by decide⟩) (by decide) ?_
  refine e_dup C dX1_init_25 rfl ?_
  refine e_iconst C dX1_init_26 ?_
  refine e_iconst C dX1_init_27 ?_
  refine e_iast C (lo := 96) (i := 2) (w := 95) rfl (by decide) (by decide) dX1_init_28 rfl (by decide) (by decide) ?_
  show SE G X _ _ 1 3 245 29 [(0, rf G 95)] [rf G 98, rf G 95] (up d 98 0 1) _ _ _ _
  refine e_dup C dX1_init_29 rfl ?_
  refine e_iconst C dX1_init_30 ?_
  refine e_iconst C dX1_init_31 ?_
  refine e_iast C (lo := 96) (i := 2) (w := 95) rfl (by decide) (by decide) dX1_init_32 rfl (by decide) (by decide) ?_
  show SE G X _ _ 1 3 245 33 [(0, rf G 95)] [rf G 98, rf G 95] (up (up d 98 0 1) 98 1 1) _ _ _ _
  refine e_dup C dX1_init_33 rfl ?_
  refine e_iconst C dX1_init_34 ?_
  refine e_iconst C dX1_init_35 ?_
  refine e_iast C (lo := 96) (i := 2) (w := 95) rfl (by decide) (by decide) dX1_init_36 rfl (by decide) (by decide) ?_
  show SE G X _ _ 1 3 245 37 [(0, rf G 95)] [rf G 98, rf G 95] (up (up (up d 98 0 1) 98 1 1) 98 2 1) _ _ _ _
  refine e_dup C dX1_init_37 rfl ?_
  refine e_iconst C dX1_init_38 ?_
  refine e_iconst C dX1_init_39 ?_
  refine e_iast C (lo := 96) (i := 2) (w := 95) rfl (by decide) (by decide) dX1_init_40 rfl (by decide) (by decide) ?_
  show SE G X _ _ 1 3 245 41 [(0, rf G 95)] [rf G 98, rf G 95] (up (up (up (up d 98 0 1) 98 1 1) 98 2 1) 98 3 1) _ _ _ _
  refine e_dup C dX1_init_41 rfl ?_
  refine e_iconst C dX1_init_42 ?_
  refine e_iconst C dX1_init_43 ?_
  refine e_iast C (lo := 96) (i := 2) (w := 95) rfl (by decide) (by decide) dX1_init_44 rfl (by decide) (by decide) ?_
  show SE G X _ _ 1 3 245 45 [(0, rf G 95)] [rf G 98, rf G 95] (up (up (up (up (up d 98 0 1) 98 1 1) 98 2 1) 98 3 1) 98 4 1) _ _ _ _
  refine e_putR C (lo := 96) (w := 95) (a' := 4) (j := 3) (ty := (.array .int)) rfl (by decide) dX1_init_45 rfl uw_X1 tyX1_ok nmX1 (by decide) (wg2 21 rfl rfl) rfl rfl (by decide +kernel) (fun _ => ⟨rfl, rfl⟩) hin9 rfl rfl (by decide) rfl ?_
  refine e_aload_n C 0 dX1_init_48 rfl rfl ?_
  refine e_iconst C dX1_init_49 ?_
  refine e_newI C (lo := 96) (c := 3) dX1_init_50 ac_I rfl (by decide) (fun j => congrFun ((up_k (by decide)).trans ((up_k (by decide)).trans ((up_k (by decide)).trans ((up_k (by decide)).trans ((up_k (by decide)).trans (hz 99 (by decide))))))) j) ⟨by decide, by decide⟩ (by decide) (by rw [hR9]; exact ⟨by decide, by decide⟩) (by decide) ?_
  refine e_dup C dX1_init_52 rfl ?_
  refine e_iconst C dX1_init_53 ?_
  refine e_iconst C dX1_init_54 ?_
  refine e_iast C (lo := 96) (i := 3) (w := 95) rfl (by decide) (by decide) dX1_init_55 rfl (by decide) (by decide) ?_
  show SE G X _ _ 1 4 250 56 [(0, rf G 95)] [rf G 99, rf G 95] (up (up (up (up (up (up d 98 0 1) 98 1 1) 98 2 1) 98 3 1) 98 4 1) 99 0 1) _ _ _ _
  refine e_dup C dX1_init_56 rfl ?_
  refine e_iconst C dX1_init_57 ?_
  refine e_iconst C dX1_init_58 ?_
  refine e_iast C (lo := 96) (i := 3) (w := 95) rfl (by decide) (by decide) dX1_init_59 rfl (by decide) (by decide) ?_
  show SE G X _ _ 1 4 250 60 [(0, rf G 95)] [rf G 99, rf G 95] (up (up (up (up (up (up (up d 98 0 1) 98 1 1) 98 2 1) 98 3 1) 98 4 1) 99 0 1) 99 1 1) _ _ _ _
  refine e_dup C dX1_init_60 rfl ?_
  refine e_iconst C dX1_init_61 ?_
  refine e_iconst C dX1_init_62 ?_
  refine e_iast C (lo := 96) (i := 3) (w := 95) rfl (by decide) (by decide) dX1_init_63 rfl (by decide) (by decide) ?_
  show SE G X _ _ 1 4 250 64 [(0, rf G 95)] [rf G 99, rf G 95] (up (up (up (up (up (up (up (up d 98 0 1) 98 1 1) 98 2 1) 98 3 1) 98 4 1) 99 0 1) 99 1 1) 99 2 1) _ _ _ _
  refine e_dup C dX1_init_64 rfl ?_
  refine e_iconst C dX1_init_65 ?_
  refine e_iconst C dX1_init_66 ?_
  refine e_iast C (lo := 96) (i := 3) (w := 95) rfl (by decide) (by decide) dX1_init_67 rfl (by decide) (by decide) ?_
  show SE G X _ _ 1 4 250 68 [(0, rf G 95)] [rf G 99, rf G 95] (up (up (up (up (up (up (up (up (up d 98 0 1) 98 1 1) 98 2 1) 98 3 1) 98 4 1) 99 0 1) 99 1 1) 99 2 1) 99 3 1) _ _ _ _
  refine e_dup C dX1_init_68 rfl ?_
  refine e_iconst C dX1_init_69 ?_
  refine e_iconst C dX1_init_70 ?_
  refine e_iast C (lo := 96) (i := 3) (w := 95) rfl (by decide) (by decide) dX1_init_71 rfl (by decide) (by decide) ?_
  show SE G X _ _ 1 4 250 72 [(0, rf G 95)] [rf G 99, rf G 95] (up (up (up (up (up (up (up (up (up (up d 98 0 1) 98 1 1) 98 2 1) 98 3 1) 98 4 1) 99 0 1) 99 1 1) 99 2 1) 99 3 1) 99 4 1) _ _ _ _
  refine e_putR C (lo := 96) (w := 95) (a' := 5) (j := 4) (ty := (.array .int)) rfl (by decide) dX1_init_72 rfl uw_X1 tyX1_ok nmX1 (by decide) (wg2 24 rfl rfl) rfl rfl (by decide +kernel) (fun _ => ⟨rfl, rfl⟩) hin9 rfl rfl (by decide) rfl ?_
  exact e_ret C dX1_init_75 hret rfl rfl rfl (by decide) (by decide)
theorem k_X1_132 {G : G9} {l : Launch} {B : Nat} (hB : ∀ k, G.1 k = B + k) (m : Nat) (d : D9) (hz : ∀ k, 132 ≤ k → d k = zr) : ME G l yX1_init cX1_init 1 1 20 4 250 132 5 m d (fx_X1 132 d) := by
  refine me_of (own := RX1) (by decide) rfl (by decide) hB (fun X hl hR9 C hin9 hret => ?_)
  refine e_aload_n C 0 dX1_init_0 rfl rfl ?_
  refine e_objinit C dX1_init_1 ⟨(wg2 11 rfl rfl), (wg1 34 rfl rfl), (wg1 35 rfl rfl)⟩ (by rw [hR9]; exact ⟨by decide, Nat.le_of_ble_eq_true rfl⟩) ?_
  refine e_aload_n C 0 dX1_init_4 rfl rfl ?_
  refine e_bipush C dX1_init_5 rfl ?_
  refine e_newI C (lo := 133) (c := 0) dX1_init_7 ac_I rfl (by decide) (fun j => congrFun (hz 133 (by decide)) j) ⟨by decide, by decide⟩ (by decide) (by rw [hR9]; exact ⟨by decide, by decide⟩) (by decide) ?_
  refine e_putR C (lo := 133) (w := 132) (a' := 2) (j := 1) (ty := (.array .int)) rfl (by decide) dX1_init_9 rfl uw_X1 tyX1_ok nmX1 (by decide) (wg2 15 rfl rfl) rfl rfl (by decide +kernel) (fun _ => ⟨rfl, rfl⟩) hin9 rfl rfl (by decide) rfl ?_
  refine e_aload_n C 0 dX1_init_12 rfl rfl ?_
  refine e_sipush C dX1_init_13 rfl ?_
  refine e_newI C (lo := 133) (c := 1) dX1_init_16 ac_I rfl (by decide) (fun j => congrFun (hz 134 (by decide)) j) ⟨by decide, by decide⟩ (by decide) (by rw [hR9]; exact ⟨by decide, by decide⟩) (by decide) ?_
  refine e_putR C (lo := 133) (w := 132) (a' := 3) (j := 2) (ty := (.array .int)) rfl (by decide) dX1_init_18 rfl uw_X1 tyX1_ok nmX1 (by decide) (wg2 18 rfl rfl) rfl rfl (by decide +kernel) (fun _ => ⟨rfl, rfl⟩) hin9 rfl rfl (by decide) rfl ?_
  refine e_aload_n C 0 dX1_init_21 rfl rfl ?_
  refine e_iconst C dX1_init_22 ?_
  refine e_newI C (lo := 133) (c := 2) dX1_init_23 ac_I rfl (by decide) (fun j => congrFun (hz 135 (by decide)) j) ⟨by decide, by decide⟩ (by decide) (by rw [hR9]; exact ⟨by decide, by decide⟩) (by decide) ?_
  refine e_dup C dX1_init_25 rfl ?_
  refine e_iconst C dX1_init_26 ?_
  refine e_iconst C dX1_init_27 ?_
  refine e_iast C (lo := 133) (i := 2) (w := 132) rfl (by decide) (by decide) dX1_init_28 rfl (by decide) (by decide) ?_
  show SE G X _ _ 1 3 245 29 [(0, rf G 132)] [rf G 135, rf G 132] (up d 135 0 1) _ _ _ _
  refine e_dup C dX1_init_29 rfl ?_
  refine e_iconst C dX1_init_30 ?_
  refine e_iconst C dX1_init_31 ?_
  refine e_iast C (lo := 133) (i := 2) (w := 132) rfl (by decide) (by decide) dX1_init_32 rfl (by decide) (by decide) ?_
  show SE G X _ _ 1 3 245 33 [(0, rf G 132)] [rf G 135, rf G 132] (up (up d 135 0 1) 135 1 1) _ _ _ _
  refine e_dup C dX1_init_33 rfl ?_
  refine e_iconst C dX1_init_34 ?_
  refine e_iconst C dX1_init_35 ?_
  refine e_iast C (lo := 133) (i := 2) (w := 132) rfl (by decide) (by decide) dX1_init_36 rfl (by decide) (by decide) ?_
  show SE G X _ _ 1 3 245 37 [(0, rf G 132)] [rf G 135, rf G 132] (up (up (up d 135 0 1) 135 1 1) 135 2 1) _ _ _ _
  refine e_dup C dX1_init_37 rfl ?_
  refine e_iconst C dX1_init_38 ?_
  refine e_iconst C dX1_init_39 ?_
  refine e_iast C (lo := 133) (i := 2) (w := 132) rfl (by decide) (by decide) dX1_init_40 rfl (by decide) (by decide) ?_
  show SE G X _ _ 1 3 245 41 [(0, rf G 132)] [rf G 135, rf G 132] (up (up (up (up d 135 0 1) 135 1 1) 135 2 1) 135 3 1) _ _ _ _
  refine e_dup C dX1_init_41 rfl ?_
  refine e_iconst C dX1_init_42 ?_
  refine e_iconst C dX1_init_43 ?_
  refine e_iast C (lo := 133) (i := 2) (w := 132) rfl (by decide) (by decide) dX1_init_44 rfl (by decide) (by decide) ?_
  show SE G X _ _ 1 3 245 45 [(0, rf G 132)] [rf G 135, rf G 132] (up (up (up (up (up d 135 0 1) 135 1 1) 135 2 1) 135 3 1) 135 4 1) _ _ _ _
  refine e_putR C (lo := 133) (w := 132) (a' := 4) (j := 3) (ty := (.array .int)) rfl (by decide) dX1_init_45 rfl uw_X1 tyX1_ok nmX1 (by decide) (wg2 21 rfl rfl) rfl rfl (by decide +kernel) (fun _ => ⟨rfl, rfl⟩) hin9 rfl rfl (by decide) rfl ?_
  refine e_aload_n C 0 dX1_init_48 rfl rfl ?_
  refine e_iconst C dX1_init_49 ?_
  refine e_newI C (lo := 133) (c := 3) dX1_init_50 ac_I rfl (by decide) (fun j => congrFun ((up_k (by decide)).trans ((up_k (by decide)).trans ((up_k (by decide)).trans ((up_k (by decide)).trans ((up_k (by decide)).trans (hz 136 (by decide))))))) j) ⟨by decide, by decide⟩ (by decide) (by rw [hR9]; exact ⟨by decide, by decide⟩) (by decide) ?_
  refine e_dup C dX1_init_52 rfl ?_
  refine e_iconst C dX1_init_53 ?_
  refine e_iconst C dX1_init_54 ?_
  refine e_iast C (lo := 133) (i := 3) (w := 132) rfl (by decide) (by decide) dX1_init_55 rfl (by decide) (by decide) ?_
  show SE G X _ _ 1 4 250 56 [(0, rf G 132)] [rf G 136, rf G 132] (up (up (up (up (up (up d 135 0 1) 135 1 1) 135 2 1) 135 3 1) 135 4 1) 136 0 1) _ _ _ _
  refine e_dup C dX1_init_56 rfl ?_
  refine e_iconst C dX1_init_57 ?_
  refine e_iconst C dX1_init_58 ?_
  refine e_iast C (lo := 133) (i := 3) (w := 132) rfl (by decide) (by decide) dX1_init_59 rfl (by decide) (by decide) ?_
  show SE G X _ _ 1 4 250 60 [(0, rf G 132)] [rf G 136, rf G 132] (up (up (up (up (up (up (up d 135 0 1) 135 1 1) 135 2 1) 135 3 1) 135 4 1) 136 0 1) 136 1 1) _ _ _ _
  refine e_dup C dX1_init_60 rfl ?_
  refine e_iconst C dX1_init_61 ?_
  refine e_iconst C dX1_init_62 ?_
  refine e_iast C (lo := 133) (i := 3) (w := 132) rfl (by decide) (by decide) dX1_init_63 rfl (by decide) (by decide) ?_
  show SE G X _ _ 1 4 250 64 [(0, rf G 132)] [rf G 136, rf G 132] (up (up (up (up (up (up (up (up d 135 0 1) 135 1 1) 135 2 1) 135 3 1) 135 4 1) 136 0 1) 136 1 1) 136 2 1) _ _ _ _
  refine e_dup C dX1_init_64 rfl ?_
  refine e_iconst C dX1_init_65 ?_
  refine e_iconst C dX1_init_66 ?_
  refine e_iast C (lo := 133) (i := 3) (w := 132) rfl (by decide) (by decide) dX1_init_67 rfl (by decide) (by decide) ?_
  show SE G X _ _ 1 4 250 68 [(0, rf G 132)] [rf G 136, rf G 132] (up (up (up (up (up (up (up (up (up d 135 0 1) 135 1 1) 135 2 1) 135 3 1) 135 4 1) 136 0 1) 136 1 1) 136 2 1) 136 3 1) _ _ _ _
  refine e_dup C dX1_init_68 rfl ?_
  refine e_iconst C dX1_init_69 ?_
  refine e_iconst C dX1_init_70 ?_
  refine e_iast C (lo := 133) (i := 3) (w := 132) rfl (by decide) (by decide) dX1_init_71 rfl (by decide) (by decide) ?_
  show SE G X _ _ 1 4 250 72 [(0, rf G 132)] [rf G 136, rf G 132] (up (up (up (up (up (up (up (up (up (up d 135 0 1) 135 1 1) 135 2 1) 135 3 1) 135 4 1) 136 0 1) 136 1 1) 136 2 1) 136 3 1) 136 4 1) _ _ _ _
  refine e_putR C (lo := 133) (w := 132) (a' := 5) (j := 4) (ty := (.array .int)) rfl (by decide) dX1_init_72 rfl uw_X1 tyX1_ok nmX1 (by decide) (wg2 24 rfl rfl) rfl rfl (by decide +kernel) (fun _ => ⟨rfl, rfl⟩) hin9 rfl rfl (by decide) rfl ?_
  exact e_ret C dX1_init_75 hret rfl rfl rfl (by decide) (by decide)
theorem k_X1_169 {G : G9} {l : Launch} {B : Nat} (hB : ∀ k, G.1 k = B + k) (m : Nat) (d : D9) (hz : ∀ k, 169 ≤ k → d k = zr) : ME G l yX1_init cX1_init 1 1 20 4 250 169 5 m d (fx_X1 169 d) := by
  refine me_of (own := RX1) (by decide) rfl (by decide) hB (fun X hl hR9 C hin9 hret => ?_)
  refine e_aload_n C 0 dX1_init_0 rfl rfl ?_
  refine e_objinit C dX1_init_1 ⟨(wg2 11 rfl rfl), (wg1 34 rfl rfl), (wg1 35 rfl rfl)⟩ (by rw [hR9]; exact ⟨by decide, Nat.le_of_ble_eq_true rfl⟩) ?_
  refine e_aload_n C 0 dX1_init_4 rfl rfl ?_
  refine e_bipush C dX1_init_5 rfl ?_
  refine e_newI C (lo := 170) (c := 0) dX1_init_7 ac_I rfl (by decide) (fun j => congrFun (hz 170 (by decide)) j) ⟨by decide, by decide⟩ (by decide) (by rw [hR9]; exact ⟨by decide, by decide⟩) (by decide) ?_
  refine e_putR C (lo := 170) (w := 169) (a' := 2) (j := 1) (ty := (.array .int)) rfl (by decide) dX1_init_9 rfl uw_X1 tyX1_ok nmX1 (by decide) (wg2 15 rfl rfl) rfl rfl (by decide +kernel) (fun _ => ⟨rfl, rfl⟩) hin9 rfl rfl (by decide) rfl ?_
  refine e_aload_n C 0 dX1_init_12 rfl rfl ?_
  refine e_sipush C dX1_init_13 rfl ?_
  refine e_newI C (lo := 170) (c := 1) dX1_init_16 ac_I rfl (by decide) (fun j => congrFun (hz 171 (by decide)) j) ⟨by decide, by decide⟩ (by decide) (by rw [hR9]; exact ⟨by decide, by decide⟩) (by decide) ?_
  refine e_putR C (lo := 170) (w := 169) (a' := 3) (j := 2) (ty := (.array .int)) rfl (by decide) dX1_init_18 rfl uw_X1 tyX1_ok nmX1 (by decide) (wg2 18 rfl rfl) rfl rfl (by decide +kernel) (fun _ => ⟨rfl, rfl⟩) hin9 rfl rfl (by decide) rfl ?_
  refine e_aload_n C 0 dX1_init_21 rfl rfl ?_
  refine e_iconst C dX1_init_22 ?_
  refine e_newI C (lo := 170) (c := 2) dX1_init_23 ac_I rfl (by decide) (fun j => congrFun (hz 172 (by decide)) j) ⟨by decide, by decide⟩ (by decide) (by rw [hR9]; exact ⟨by decide, by decide⟩) (by decide) ?_
  refine e_dup C dX1_init_25 rfl ?_
  refine e_iconst C dX1_init_26 ?_
  refine e_iconst C dX1_init_27 ?_
  refine e_iast C (lo := 170) (i := 2) (w := 169) rfl (by decide) (by decide) dX1_init_28 rfl (by decide) (by decide) ?_
  show SE G X _ _ 1 3 245 29 [(0, rf G 169)] [rf G 172, rf G 169] (up d 172 0 1) _ _ _ _
  refine e_dup C dX1_init_29 rfl ?_
  refine e_iconst C dX1_init_30 ?_
  refine e_iconst C dX1_init_31 ?_
  refine e_iast C (lo := 170) (i := 2) (w := 169) rfl (by decide) (by decide) dX1_init_32 rfl (by decide) (by decide) ?_
  show SE G X _ _ 1 3 245 33 [(0, rf G 169)] [rf G 172, rf G 169] (up (up d 172 0 1) 172 1 1) _ _ _ _
  refine e_dup C dX1_init_33 rfl ?_
  refine e_iconst C dX1_init_34 ?_
  refine e_iconst C dX1_init_35 ?_
  refine e_iast C (lo := 170) (i := 2) (w := 169) rfl (by decide) (by decide) dX1_init_36 rfl (by decide) (by decide) ?_
  show SE G X _ _ 1 3 245 37 [(0, rf G 169)] [rf G 172, rf G 169] (up (up (up d 172 0 1) 172 1 1) 172 2 1) _ _ _ _
  refine e_dup C dX1_init_37 rfl ?_
  refine e_iconst C dX1_init_38 ?_
  refine e_iconst C dX1_init_39 ?_
  refine e_iast C (lo := 170) (i := 2) (w := 169) rfl (by decide) (by decide) dX1_init_40 rfl (by decide) (by decide) ?_
  show SE G X _ _ 1 3 245 41 [(0, rf G 169)] [rf G 172, rf G 169] (up (up (up (up d 172 0 1) 172 1 1) 172 2 1) 172 3 1) _ _ _ _
  refine e_dup C dX1_init_41 rfl ?_
  refine e_iconst C dX1_init_42 ?_
  refine e_iconst C dX1_init_43 ?_
  refine e_iast C (lo := 170) (i := 2) (w := 169) rfl (by decide) (by decide) dX1_init_44 rfl (by decide) (by decide) ?_
  show SE G X _ _ 1 3 245 45 [(0, rf G 169)] [rf G 172, rf G 169] (up (up (up (up (up d 172 0 1) 172 1 1) 172 2 1) 172 3 1) 172 4 1) _ _ _ _
  refine e_putR C (lo := 170) (w := 169) (a' := 4) (j := 3) (ty := (.array .int)) rfl (by decide) dX1_init_45 rfl uw_X1 tyX1_ok nmX1 (by decide) (wg2 21 rfl rfl) rfl rfl (by decide +kernel) (fun _ => ⟨rfl, rfl⟩) hin9 rfl rfl (by decide) rfl ?_
  refine e_aload_n C 0 dX1_init_48 rfl rfl ?_
  refine e_iconst C dX1_init_49 ?_
  refine e_newI C (lo := 170) (c := 3) dX1_init_50 ac_I rfl (by decide) (fun j => congrFun ((up_k (by decide)).trans ((up_k (by decide)).trans ((up_k (by decide)).trans ((up_k (by decide)).trans ((up_k (by decide)).trans (hz 173 (by decide))))))) j) ⟨by decide, by decide⟩ (by decide) (by rw [hR9]; exact ⟨by decide, by decide⟩) (by decide) ?_
  refine e_dup C dX1_init_52 rfl ?_
  refine e_iconst C dX1_init_53 ?_
  refine e_iconst C dX1_init_54 ?_
  refine e_iast C (lo := 170) (i := 3) (w := 169) rfl (by decide) (by decide) dX1_init_55 rfl (by decide) (by decide) ?_
  show SE G X _ _ 1 4 250 56 [(0, rf G 169)] [rf G 173, rf G 169] (up (up (up (up (up (up d 172 0 1) 172 1 1) 172 2 1) 172 3 1) 172 4 1) 173 0 1) _ _ _ _
  refine e_dup C dX1_init_56 rfl ?_
  refine e_iconst C dX1_init_57 ?_
  refine e_iconst C dX1_init_58 ?_
  refine e_iast C (lo := 170) (i := 3) (w := 169) rfl (by decide) (by decide) dX1_init_59 rfl (by decide) (by decide) ?_
  show SE G X _ _ 1 4 250 60 [(0, rf G 169)] [rf G 173, rf G 169] (up (up (up (up (up (up (up d 172 0 1) 172 1 1) 172 2 1) 172 3 1) 172 4 1) 173 0 1) 173 1 1) _ _ _ _
  refine e_dup C dX1_init_60 rfl ?_
  refine e_iconst C dX1_init_61 ?_
  refine e_iconst C dX1_init_62 ?_
  refine e_iast C (lo := 170) (i := 3) (w := 169) rfl (by decide) (by decide) dX1_init_63 rfl (by decide) (by decide) ?_
  show SE G X _ _ 1 4 250 64 [(0, rf G 169)] [rf G 173, rf G 169] (up (up (up (up (up (up (up (up d 172 0 1) 172 1 1) 172 2 1) 172 3 1) 172 4 1) 173 0 1) 173 1 1) 173 2 1) _ _ _ _
  refine e_dup C dX1_init_64 rfl ?_
  refine e_iconst C dX1_init_65 ?_
  refine e_iconst C dX1_init_66 ?_
  refine e_iast C (lo := 170) (i := 3) (w := 169) rfl (by decide) (by decide) dX1_init_67 rfl (by decide) (by decide) ?_
  show SE G X _ _ 1 4 250 68 [(0, rf G 169)] [rf G 173, rf G 169] (up (up (up (up (up (up (up (up (up d 172 0 1) 172 1 1) 172 2 1) 172 3 1) 172 4 1) 173 0 1) 173 1 1) 173 2 1) 173 3 1) _ _ _ _
  refine e_dup C dX1_init_68 rfl ?_
  refine e_iconst C dX1_init_69 ?_
  refine e_iconst C dX1_init_70 ?_
  refine e_iast C (lo := 170) (i := 3) (w := 169) rfl (by decide) (by decide) dX1_init_71 rfl (by decide) (by decide) ?_
  show SE G X _ _ 1 4 250 72 [(0, rf G 169)] [rf G 173, rf G 169] (up (up (up (up (up (up (up (up (up (up d 172 0 1) 172 1 1) 172 2 1) 172 3 1) 172 4 1) 173 0 1) 173 1 1) 173 2 1) 173 3 1) 173 4 1) _ _ _ _
  refine e_putR C (lo := 170) (w := 169) (a' := 5) (j := 4) (ty := (.array .int)) rfl (by decide) dX1_init_72 rfl uw_X1 tyX1_ok nmX1 (by decide) (wg2 24 rfl rfl) rfl rfl (by decide +kernel) (fun _ => ⟨rfl, rfl⟩) hin9 rfl rfl (by decide) rfl ?_
  exact e_ret C dX1_init_75 hret rfl rfl rfl (by decide) (by decide)
theorem dX3_init_0 : decode cX3_init 0 = .ok (.aload_n 0, 1) := by decide +kernel
theorem dX3_init_1 : decode cX3_init 1 = .ok (.invokespecial 3, 3) := by decide +kernel
theorem dX3_init_4 : decode cX3_init 4 = .ok (.aload_n 0, 1) := by decide +kernel
theorem dX3_init_5 : decode cX3_init 5 = .ok (.bipush 30, 2) := by decide +kernel
theorem dX3_init_7 : decode cX3_init 7 = .ok (.newarray .int, 2) := by decide +kernel
theorem dX3_init_9 : decode cX3_init 9 = .ok (.putfield 9, 3) := by decide +kernel
theorem dX3_init_12 : decode cX3_init 12 = .ok (.aload_n 0, 1) := by decide +kernel
theorem dX3_init_13 : decode cX3_init 13 = .ok (.bipush 30, 2) := by decide +kernel
theorem dX3_init_15 : decode cX3_init 15 = .ok (.newarray .int, 2) := by decide +kernel
theorem dX3_init_17 : decode cX3_init 17 = .ok (.putfield 15, 3) := by decide +kernel
theorem dX3_init_20 : decode cX3_init 20 = .ok (.aload_n 0, 1) := by decide +kernel
theorem dX3_init_21 : decode cX3_init 21 = .ok (.bipush 30, 2) := by decide +kernel
theorem dX3_init_23 : decode cX3_init 23 = .ok (.newarray .int, 2) := by decide +kernel
theorem dX3_init_25 : decode cX3_init 25 = .ok (.putfield 18, 3) := by decide +kernel
theorem dX3_init_28 : decode cX3_init 28 = .ok (.aload_n 0, 1) := by decide +kernel
theorem dX3_init_29 : decode cX3_init 29 = .ok (.sipush 150, 3) := by decide +kernel
theorem dX3_init_32 : decode cX3_init 32 = .ok (.newarray .int, 2) := by decide +kernel
theorem dX3_init_34 : decode cX3_init 34 = .ok (.putfield 21, 3) := by decide +kernel
theorem dX3_init_37 : decode cX3_init 37 = .ok (.aload_n 0, 1) := by decide +kernel
theorem dX3_init_38 : decode cX3_init 38 = .ok (.bipush 30, 2) := by decide +kernel
theorem dX3_init_40 : decode cX3_init 40 = .ok (.newarray .int, 2) := by decide +kernel
theorem dX3_init_42 : decode cX3_init 42 = .ok (.putfield 24, 3) := by decide +kernel
theorem dX3_init_45 : decode cX3_init 45 = .ok (.aload_n 0, 1) := by decide +kernel
theorem dX3_init_46 : decode cX3_init 46 = .ok (.bipush 30, 2) := by decide +kernel
theorem dX3_init_48 : decode cX3_init 48 = .ok (.newarray .int, 2) := by decide +kernel
theorem dX3_init_50 : decode cX3_init 50 = .ok (.putfield 27, 3) := by decide +kernel
theorem dX3_init_53 : decode cX3_init 53 = .ok (.return_, 1) := by decide +kernel
theorem k_X3_2 {G : G9} {l : Launch} {B : Nat} (hB : ∀ k, G.1 k = B + k) (m : Nat) (d : D9) (hz : ∀ k, 2 ≤ k → d k = zr) : ME G l yX3_init cX3_init 1 1 20 6 300 2 7 m d d := by
  refine me_of (own := RX3) (by decide) rfl (by decide) hB (fun X hl hR9 C hin9 hret => ?_)
  refine e_aload_n C 0 dX3_init_0 rfl rfl ?_
  refine e_objinit C dX3_init_1 ⟨(wg1 47 rfl rfl), (wg1 34 rfl rfl), (wg1 35 rfl rfl)⟩ (by rw [hR9]; exact ⟨by decide, Nat.le_of_ble_eq_true rfl⟩) ?_
  refine e_aload_n C 0 dX3_init_4 rfl rfl ?_
  refine e_bipush C dX3_init_5 rfl ?_
  refine e_newI C (lo := 3) (c := 0) dX3_init_7 ac_I rfl (by decide) (fun j => congrFun (hz 3 (by decide)) j) ⟨by decide, by decide⟩ (by decide) (by rw [hR9]; exact ⟨by decide, by decide⟩) (by decide) ?_
  refine e_putR C (lo := 3) (w := 2) (a' := 3) (j := 2) (ty := (.array .int)) rfl (by decide) dX3_init_9 rfl uw_X3 tyX3_ok nmX3 (by decide) (wg1 53 rfl rfl) rfl rfl (by decide +kernel) (fun _ => ⟨rfl, rfl⟩) hin9 rfl rfl (by decide) rfl ?_
  refine e_aload_n C 0 dX3_init_12 rfl rfl ?_
  refine e_bipush C dX3_init_13 rfl ?_
  refine e_newI C (lo := 3) (c := 1) dX3_init_15 ac_I rfl (by decide) (fun j => congrFun (hz 4 (by decide)) j) ⟨by decide, by decide⟩ (by decide) (by rw [hR9]; exact ⟨by decide, by decide⟩) (by decide) ?_
  refine e_putR C (lo := 3) (w := 2) (a' := 4) (j := 3) (ty := (.array .int)) rfl (by decide) dX3_init_17 rfl uw_X3 tyX3_ok nmX3 (by decide) (wg1 57 rfl rfl) rfl rfl (by decide +kernel) (fun _ => ⟨rfl, rfl⟩) hin9 rfl rfl (by decide) rfl ?_
  refine e_aload_n C 0 dX3_init_20 rfl rfl ?_
  refine e_bipush C dX3_init_21 rfl ?_
  refine e_newI C (lo := 3) (c := 2) dX3_init_23 ac_I rfl (by decide) (fun j => congrFun (hz 5 (by decide)) j) ⟨by decide, by decide⟩ (by decide) (by rw [hR9]; exact ⟨by decide, by decide⟩) (by decide) ?_
  refine e_putR C (lo := 3) (w := 2) (a' := 5) (j := 4) (ty := (.array .int)) rfl (by decide) dX3_init_25 rfl uw_X3 tyX3_ok nmX3 (by decide) (wg1 59 rfl rfl) rfl rfl (by decide +kernel) (fun _ => ⟨rfl, rfl⟩) hin9 rfl rfl (by decide) rfl ?_
  refine e_aload_n C 0 dX3_init_28 rfl rfl ?_
  refine e_sipush C dX3_init_29 rfl ?_
  refine e_newI C (lo := 3) (c := 3) dX3_init_32 ac_I rfl (by decide) (fun j => congrFun (hz 6 (by decide)) j) ⟨by decide, by decide⟩ (by decide) (by rw [hR9]; exact ⟨by decide, by decide⟩) (by decide) ?_
  refine e_putR C (lo := 3) (w := 2) (a' := 6) (j := 5) (ty := (.array .int)) rfl (by decide) dX3_init_34 rfl uw_X3 tyX3_ok nmX3 (by decide) (wg1 62 rfl rfl) rfl rfl (by decide +kernel) (fun _ => ⟨rfl, rfl⟩) hin9 rfl rfl (by decide) rfl ?_
  refine e_aload_n C 0 dX3_init_37 rfl rfl ?_
  refine e_bipush C dX3_init_38 rfl ?_
  refine e_newI C (lo := 3) (c := 4) dX3_init_40 ac_I rfl (by decide) (fun j => congrFun (hz 7 (by decide)) j) ⟨by decide, by decide⟩ (by decide) (by rw [hR9]; exact ⟨by decide, by decide⟩) (by decide) ?_
  refine e_putR C (lo := 3) (w := 2) (a' := 7) (j := 6) (ty := (.array .int)) rfl (by decide) dX3_init_42 rfl uw_X3 tyX3_ok nmX3 (by decide) (wg1 65 rfl rfl) rfl rfl (by decide +kernel) (fun _ => ⟨rfl, rfl⟩) hin9 rfl rfl (by decide) rfl ?_
  refine e_aload_n C 0 dX3_init_45 rfl rfl ?_
  refine e_bipush C dX3_init_46 rfl ?_
  refine e_newI C (lo := 3) (c := 5) dX3_init_48 ac_I rfl (by decide) (fun j => congrFun (hz 8 (by decide)) j) ⟨by decide, by decide⟩ (by decide) (by rw [hR9]; exact ⟨by decide, by decide⟩) (by decide) ?_
  refine e_putR C (lo := 3) (w := 2) (a' := 8) (j := 7) (ty := (.array .int)) rfl (by decide) dX3_init_50 rfl uw_X3 tyX3_ok nmX3 (by decide) (wg1 68 rfl rfl) rfl rfl (by decide +kernel) (fun _ => ⟨rfl, rfl⟩) hin9 rfl rfl (by decide) rfl ?_
  exact e_ret C dX3_init_53 hret rfl rfl rfl (by decide) (by decide)
theorem k_X3_64 {G : G9} {l : Launch} {B : Nat} (hB : ∀ k, G.1 k = B + k) (m : Nat) (d : D9) (hz : ∀ k, 64 ≤ k → d k = zr) : ME G l yX3_init cX3_init 1 1 20 6 300 64 7 m d d := by
  refine me_of (own := RX3) (by decide) rfl (by decide) hB (fun X hl hR9 C hin9 hret => ?_)
  refine e_aload_n C 0 dX3_init_0 rfl rfl ?_
  refine e_objinit C dX3_init_1 ⟨(wg1 47 rfl rfl), (wg1 34 rfl rfl), (wg1 35 rfl rfl)⟩ (by rw [hR9]; exact ⟨by decide, Nat.le_of_ble_eq_true rfl⟩) ?_
  refine e_aload_n C 0 dX3_init_4 rfl rfl ?_
  refine e_bipush C dX3_init_5 rfl ?_
  refine e_newI C (lo := 65) (c := 0) dX3_init_7 ac_I rfl (by decide) (fun j => congrFun (hz 65 (by decide)) j) ⟨by decide, by decide⟩ (by decide) (by rw [hR9]; exact ⟨by decide, by decide⟩) (by decide) ?_
  refine e_putR C (lo := 65) (w := 64) (a' := 3) (j := 2) (ty := (.array .int)) rfl (by decide) dX3_init_9 rfl uw_X3 tyX3_ok nmX3 (by decide) (wg1 53 rfl rfl) rfl rfl (by decide +kernel) (fun _ => ⟨rfl, rfl⟩) hin9 rfl rfl (by decide) rfl ?_
  refine e_aload_n C 0 dX3_init_12 rfl rfl ?_
  refine e_bipush C dX3_init_13 rfl ?_
  refine e_newI C (lo := 65) (c := 1) dX3_init_15 ac_I rfl (by decide) (fun j => congrFun (hz 66 (by decide)) j) ⟨by decide, by decide⟩ (by decide) (by rw [hR9]; exact ⟨by decide, by decide⟩) (by decide) ?_
  refine e_putR C (lo := 65) (w := 64) (a' := 4) (j := 3) (ty := (.array .int)) rfl (by decide) dX3_init_17 rfl uw_X3 tyX3_ok nmX3 (by decide) (wg1 57 rfl rfl) rfl rfl (by decide +kernel) (fun _ => ⟨rfl, rfl⟩) hin9 rfl rfl (by decide) rfl ?_
  refine e_aload_n C 0 dX3_init_20 rfl rfl ?_
  refine e_bipush C dX3_init_21 rfl ?_
  refine e_newI C (lo := 65) (c := 2) dX3_init_23 ac_I rfl (by decide) (fun j => congrFun (hz 67 (by decide)) j) ⟨by decide, by decide⟩ (by decide) (by rw [hR9]; exact ⟨by decide, by decide⟩) (by decide) ?_
  refine e_putR C (lo := 65) (w := 64) (a' := 5) (j := 4) (ty := (.array .int)) rfl (by decide) dX3_init_25 rfl uw_X3 tyX3_ok nmX3 (by decide) (wg1 59 rfl rfl) rfl rfl (by decide +kernel) (fun _ => ⟨rfl, rfl⟩) hin9 rfl rfl (by decide) rfl ?_
  refine e_aload_n C 0 dX3_init_28 rfl rfl ?_
  refine e_sipush C dX3_init_29 rfl ?_
  refine e_newI C (lo := 65) (c := 3) dX3_init_32 ac_I rfl (by decide) (fun j => congrFun (hz 68 (by decide)) j) ⟨by decide, by decide⟩ (by decide) (by rw [hR9]; exact ⟨by decide, by decide⟩) (by decide) ?_
  refine e_putR C (lo := 65) (w := 64) (a' := 6) (j := 5) (ty := (.array .int)) rfl (by decide) dX3_init_34 rfl uw_X3 tyX3_ok nmX3 (by decide) (wg1 62 rfl rfl) rfl rfl (by decide +kernel) (fun _ => ⟨rfl, rfl⟩) hin9 rfl rfl (by decide) rfl ?_
  refine e_aload_n C 0 dX3_init_37 rfl rfl ?_
  refine e_bipush C dX3_init_38 rfl ?_
  refine e_newI C (lo := 65) (c := 4) dX3_init_40 ac_I rfl (by decide) (fun j => congrFun (hz 69 (by decide)) j) ⟨by decide, by decide⟩ (by decide) (by rw [hR9]; exact ⟨by decide, by decide⟩) (by decide) ?_
  refine e_putR C (lo := 65) (w := 64) (a' := 7) (j := 6) (ty := (.array .int)) rfl (by decide) dX3_init_42 rfl uw_X3 tyX3_ok nmX3 (by decide) (wg1 65 rfl rfl) rfl rfl (by decide +kernel) (fun _ => ⟨rfl, rfl⟩) hin9 rfl rfl (by decide) rfl ?_
  refine e_aload_n C 0 dX3_init_45 rfl rfl ?_
  refine e_bipush C dX3_init_46 rfl ?_
  refine e_newI C (lo := 65) (c := 5) dX3_init_48 ac_I rfl (by decide) (fun j => congrFun (hz 70 (by decide)) j) ⟨by decide, by decide⟩ (by decide) (by rw [hR9]; exact ⟨by decide, by decide⟩) (by decide) ?_
  refine e_putR C (lo := 65) (w := 64) (a' := 8) (j := 7) (ty := (.array .int)) rfl (by decide) dX3_init_50 rfl uw_X3 tyX3_ok nmX3 (by decide) (wg1 68 rfl rfl) rfl rfl (by decide +kernel) (fun _ => ⟨rfl, rfl⟩) hin9 rfl rfl (by decide) rfl ?_
  exact e_ret C dX3_init_53 hret rfl rfl rfl (by decide) (by decide)
theorem k_X3_101 {G : G9} {l : Launch} {B : Nat} (hB : ∀ k, G.1 k = B + k) (m : Nat) (d : D9) (hz : ∀ k, 101 ≤ k → d k = zr) : ME G l yX3_init cX3_init 1 1 20 6 300 101 7 m d d := by
  refine me_of (own := RX3) (by decide) rfl (by decide) hB (fun X hl hR9 C hin9 hret => ?_)
  refine e_aload_n C 0 dX3_init_0 rfl rfl ?_
  refine e_objinit C dX3_init_1 ⟨(wg1 47 rfl rfl), (wg1 34 rfl rfl), (wg1 35 rfl rfl)⟩ (by rw [hR9]; exact ⟨by decide, Nat.le_of_ble_eq_true rfl⟩) ?_
  refine e_aload_n C 0 dX3_init_4 rfl rfl ?_
  refine e_bipush C dX3_init_5 rfl ?_
  refine e_newI C (lo := 102) (c := 0) dX3_init_7 ac_I rfl (by decide) (fun j => congrFun (hz 102 (by decide)) j) ⟨by decide, by decide⟩ (by decide) (by rw [hR9]; exact ⟨by decide, by decide⟩) (by decide) ?_
  refine e_putR C (lo := 102) (w := 101) (a' := 3) (j := 2) (ty := (.array .int)) rfl (by decide) dX3_init_9 rfl uw_X3 tyX3_ok nmX3 (by decide) (wg1 53 rfl rfl) rfl rfl (by decide +kernel) (fun _ => ⟨rfl, rfl⟩) hin9 rfl rfl (by decide) rfl ?_
  refine e_aload_n C 0 dX3_init_12 rfl rfl ?_
  refine e_bipush C dX3_init_13 rfl ?_
  refine e_newI C (lo := 102) (c := 1) dX3_init_15 ac_I rfl (by decide) (fun j => congrFun (hz 103 (by decide)) j) ⟨by decide, by decide⟩ (by decide) (by rw [hR9]; exact ⟨by decide, by decide⟩) (by decide) ?_
  refine e_putR C (lo := 102) (w := 101) (a' := 4) (j := 3) (ty := (.array .int)) rfl (by decide) dX3_init_17 rfl uw_X3 tyX3_ok nmX3 (by decide) (wg1 57 rfl rfl) rfl rfl (by decide +kernel) (fun _ => ⟨rfl, rfl⟩) hin9 rfl rfl (by decide) rfl ?_
  refine e_aload_n C 0 dX3_init_20 rfl rfl ?_
  refine e_bipush C dX3_init_21 rfl ?_
  refine e_newI C (lo := 102) (c := 2) dX3_init_23 ac_I rfl (by decide) (fun j => congrFun (hz 104 (by decide)) j) ⟨by decide, by decide⟩ (by decide) (by rw [hR9]; exact ⟨by decide, by decide⟩) (by decide) ?_
  refine e_putR C (lo := 102) (w := 101) (a' := 5) (j := 4) (ty := (.array .int)) rfl (by decide) dX3_init_25 rfl uw_X3 tyX3_ok nmX3 (by decide) (wg1 59 rfl rfl) rfl rfl (by decide +kernel) (fun _ => ⟨rfl, rfl⟩) hin9 rfl rfl (by decide) rfl ?_
  refine e_aload_n C 0 dX3_init_28 rfl rfl ?_
  refine e_sipush C dX3_init_29 rfl ?_
  refine e_newI C (lo := 102) (c := 3) dX3_init_32 ac_I rfl (by decide) (fun j => congrFun (hz 105 (by decide)) j) ⟨by decide, by decide⟩ (by decide) (by rw [hR9]; exact ⟨by decide, by decide⟩) (by decide) ?_
  refine e_putR C (lo := 102) (w := 101) (a' := 6) (j := 5) (ty := (.array .int)) rfl (by decide) dX3_init_34 rfl uw_X3 tyX3_ok nmX3 (by decide) (wg1 62 rfl rfl) rfl rfl (by decide +kernel) (fun _ => ⟨rfl, rfl⟩) hin9 rfl rfl (by decide) rfl ?_
  refine e_aload_n C 0 dX3_init_37 rfl rfl ?_
  refine e_bipush C dX3_init_38 rfl ?_
  refine e_newI C (lo := 102) (c := 4) dX3_init_40 ac_I rfl (by decide) (fun j => congrFun (hz 106 (by decide)) j) ⟨by decide, by decide⟩ (by decide) (by rw [hR9]; exact ⟨by decide, by decide⟩) (by decide) ?_
  refine e_putR C (lo := 102) (w := 101) (a' := 7) (j := 6) (ty := (.array .int)) rfl (by decide) dX3_init_42 rfl uw_X3 tyX3_ok nmX3 (by decide) (wg1 65 rfl rfl) rfl rfl (by decide +kernel) (fun _ => ⟨rfl, rfl⟩) hin9 rfl rfl (by decide) rfl ?_
  refine e_aload_n C 0 dX3_init_45 rfl rfl ?_
  refine e_bipush C dX3_init_46 rfl ?_
  refine e_newI C (lo := 102) (c := 5) dX3_init_48 ac_I rfl (by decide) (fun j => congrFun (hz 107 (by decide)) j) ⟨by decide, by decide⟩ (by decide) (by rw [hR9]; exact ⟨by decide, by decide⟩) (by decide) ?_
  refine e_putR C (lo := 102) (w := 101) (a' := 8) (j := 7) (ty := (.array .int)) rfl (by decide) dX3_init_50 rfl uw_X3 tyX3_ok nmX3 (by decide) (wg1 68 rfl rfl) rfl rfl (by decide +kernel) (fun _ => ⟨rfl, rfl⟩) hin9 rfl rfl (by decide) rfl ?_
  exact e_ret C dX3_init_53 hret rfl rfl rfl (by decide) (by decide)
theorem k_X3_138 {G : G9} {l : Launch} {B : Nat} (hB : ∀ k, G.1 k = B + k) (m : Nat) (d : D9) (hz : ∀ k, 138 ≤ k → d k = zr) : ME G l yX3_init cX3_init 1 1 20 6 300 138 7 m d d := by
  refine me_of (own := RX3) (by decide) rfl (by decide) hB (fun X hl hR9 C hin9 hret => ?_)
  refine e_aload_n C 0 dX3_init_0 rfl rfl ?_
  refine e_objinit C dX3_init_1 ⟨(wg1 47 rfl rfl), (wg1 34 rfl rfl), (wg1 35 rfl rfl)⟩ (by rw [hR9]; exact ⟨by decide, Nat.le_of_ble_eq_true rfl⟩) ?_
  refine e_aload_n C 0 dX3_init_4 rfl rfl ?_
  refine e_bipush C dX3_init_5 rfl ?_
  refine e_newI C (lo := 139) (c := 0) dX3_init_7 ac_I rfl (by decide) (fun j => congrFun (hz 139 (by decide)) j) ⟨by decide, by decide⟩ (by decide) (by rw [hR9]; exact ⟨by decide, by decide⟩) (by decide) ?_
  refine e_putR C (lo := 139) (w := 138) (a' := 3) (j := 2) (ty := (.array .int)) rfl (by decide) dX3_init_9 rfl uw_X3 tyX3_ok nmX3 (by decide) (wg1 53 rfl rfl) rfl rfl (by decide +kernel) (fun _ => ⟨rfl, rfl⟩) hin9 rfl rfl (by decide) rfl ?_
  refine e_aload_n C 0 dX3_init_12 rfl rfl ?_
  refine e_bipush C dX3_init_13 rfl ?_
  refine e_newI C (lo := 139) (c := 1) dX3_init_15 ac_I rfl (by decide) (fun j => congrFun (hz 140 (by decide)) j) ⟨by decide, by decide⟩ (by decide) (by rw [hR9]; exact ⟨by decide, by decide⟩) (by decide) ?_
  refine e_putR C (lo := 139) (w := 138) (a' := 4) (j := 3) (ty := (.array .int)) rfl (by decide) dX3_init_17 rfl uw_X3 tyX3_ok nmX3 (by decide) (wg1 57 rfl rfl) rfl rfl (by decide +kernel) (fun _ => ⟨rfl, rfl⟩) hin9 rfl rfl (by decide) rfl ?_
  refine e_aload_n C 0 dX3_init_20 rfl rfl ?_
  refine e_bipush C dX3_init_21 rfl ?_
  refine e_newI C (lo := 139) (c := 2) dX3_init_23 ac_I rfl (by decide) (fun j => congrFun (hz 141 (by decide)) j) ⟨by decide, by decide⟩ (by decide) (by rw [hR9]; exact ⟨by decide, by decide⟩) (by decide) ?_
  refine e_putR C (lo := 139) (w := 138) (a' := 5) (j := 4) (ty := (.array .int)) rfl (by decide) dX3_init_25 rfl uw_X3 tyX3_ok nmX3 (by decide) (wg1 59 rfl rfl) rfl rfl (by decide +kernel) (fun _ => ⟨rfl, rfl⟩) hin9 rfl rfl (by decide) rfl ?_
  refine e_aload_n C 0 dX3_init_28 rfl rfl ?_
  refine e_sipush C dX3_init_29 rfl ?_
  refine e_newI C (lo := 139) (c := 3) dX3_init_32 ac_I rfl (by decide) (fun j => congrFun (hz 142 (by decide)) j) ⟨by decide, by decide⟩ (by decide) (by rw [hR9]; exact ⟨by decide, by decide⟩) (by decide) ?_
  refine e_putR C (lo := 139) (w := 138) (a' := 6) (j := 5) (ty := (.array .int)) rfl (by decide) dX3_init_34 rfl uw_X3 tyX3_ok nmX3 (by decide) (wg1 62 rfl rfl) rfl rfl (by decide +kernel) (fun _ => ⟨rfl, rfl⟩) hin9 rfl rfl (by decide) rfl ?_
  refine e_aload_n C 0 dX3_init_37 rfl rfl ?_
  refine e_bipush C dX3_init_38 rfl ?_
  refine e_newI C (lo := 139) (c := 4) dX3_init_40 ac_I rfl (by decide) (fun j => congrFun (hz 143 (by decide)) j) ⟨by decide, by decide⟩ (by decide) (by rw [hR9]; exact ⟨by decide, by decide⟩) (by decide) ?_
  refine e_putR C (lo := 139) (w := 138) (a' := 7) (j := 6) (ty := (.array .int)) rfl (by decide) dX3_init_42 rfl uw_X3 tyX3_ok nmX3 (by decide) (wg1 65 rfl rfl) rfl rfl (by decide +kernel) (fun _ => ⟨rfl, rfl⟩) hin9 rfl rfl (by decide) rfl ?_
  refine e_aload_n C 0 dX3_init_45 rfl rfl ?_
  refine e_bipush C dX3_init_46 rfl ?_
  refine e_newI C (lo := 139) (c := 5) dX3_init_48 ac_I rfl (by decide) (fun j => congrFun (hz 144 (by decide)) j) ⟨by decide, by decide⟩ (by decide) (by rw [hR9]; exact ⟨by decide, by decide⟩) (by decide) ?_
  refine e_putR C (lo := 139) (w := 138) (a' := 8) (j := 7) (ty := (.array .int)) rfl (by decide) dX3_init_50 rfl uw_X3 tyX3_ok nmX3 (by decide) (wg1 68 rfl rfl) rfl rfl (by decide +kernel) (fun _ => ⟨rfl, rfl⟩) hin9 rfl rfl (by decide) rfl ?_
  exact e_ret C dX3_init_53 hret rfl rfl rfl (by decide) (by decide)
theorem dX4_init_0 : decode cX4_init 0 = .ok (.aload_n 0, 1) := by decide +kernel
theorem dX4_init_1 : decode cX4_init 1 = .ok (.invokespecial 3, 3) := by decide +kernel
theorem dX4_init_4 : decode cX4_init 4 = .ok (.aload_n 0, 1) := by decide +kernel
theorem dX4_init_5 : decode cX4_init 5 = .ok (.bipush 12, 2) := by decide +kernel
theorem dX4_init_7 : decode cX4_init 7 = .ok (.newarray .int, 2) := by decide +kernel
theorem dX4_init_9 : decode cX4_init 9 = .ok (.putfield 9, 3) := by decide +kernel
theorem dX4_init_12 : decode cX4_init 12 = .ok (.aload_n 0, 1) := by decide +kernel
theorem dX4_init_13 : decode cX4_init 13 = .ok (.bipush 12, 2) := by decide +kernel
theorem dX4_init_15 : decode cX4_init 15 = .ok (.newarray .int, 2) := by decide +kernel
theorem dX4_init_17 : decode cX4_init 17 = .ok (.putfield 15, 3) := by decide +kernel
theorem dX4_init_20 : decode cX4_init 20 = .ok (.aload_n 0, 1) := by decide +kernel
theorem dX4_init_21 : decode cX4_init 21 = .ok (.bipush 12, 2) := by decide +kernel
theorem dX4_init_23 : decode cX4_init 23 = .ok (.newarray .int, 2) := by decide +kernel
theorem dX4_init_25 : decode cX4_init 25 = .ok (.putfield 18, 3) := by decide +kernel
theorem dX4_init_28 : decode cX4_init 28 = .ok (.aload_n 0, 1) := by decide +kernel
theorem dX4_init_29 : decode cX4_init 29 = .ok (.sipush 400, 3) := by decide +kernel
theorem dX4_init_32 : decode cX4_init 32 = .ok (.newarray .int, 2) := by decide +kernel
theorem dX4_init_34 : decode cX4_init 34 = .ok (.putfield 21, 3) := by decide +kernel
theorem dX4_init_37 : decode cX4_init 37 = .ok (.return_, 1) := by decide +kernel
theorem k_X4_28 {G : G9} {l : Launch} {B : Nat} (hB : ∀ k, G.1 k = B + k) (m : Nat) (d : D9) (hz : ∀ k, 28 ≤ k → d k = zr) : ME G l yX4_init cX4_init 1 1 20 4 436 28 5 m d d := by
  refine me_of (own := RX4) (by decide) rfl (by decide) hB (fun X hl hR9 C hin9 hret => ?_)
  refine e_aload_n C 0 dX4_init_0 rfl rfl ?_
  refine e_objinit C dX4_init_1 ⟨(wg1 220 rfl rfl), (wg1 34 rfl rfl), (wg1 35 rfl rfl)⟩ (by rw [hR9]; exact ⟨by decide, Nat.le_of_ble_eq_true rfl⟩) ?_
  refine e_aload_n C 0 dX4_init_4 rfl rfl ?_
  refine e_bipush C dX4_init_5 rfl ?_
  refine e_newI C (lo := 29) (c := 0) dX4_init_7 ac_I rfl (by decide) (fun j => congrFun (hz 29 (by decide)) j) ⟨by decide, by decide⟩ (by decide) (by rw [hR9]; exact ⟨by decide, by decide⟩) (by decide) ?_
  refine e_putR C (lo := 29) (w := 28) (a' := 3) (j := 2) (ty := (.array .int)) rfl (by decide) dX4_init_9 rfl uw_X4 tyX4_ok nmX4 (by decide) (wg1 225 rfl rfl) rfl rfl (by decide +kernel) (fun _ => ⟨rfl, rfl⟩) hin9 rfl rfl (by decide) rfl ?_
  refine e_aload_n C 0 dX4_init_12 rfl rfl ?_
  refine e_bipush C dX4_init_13 rfl ?_
  refine e_newI C (lo := 29) (c := 1) dX4_init_15 ac_I rfl (by decide) (fun j => congrFun (hz 30 (by decide)) j) ⟨by decide, by decide⟩ (by decide) (by rw [hR9]; exact ⟨by decide, by decide⟩) (by decide) ?_
  refine e_putR C (lo := 29) (w := 28) (a' := 4) (j := 3) (ty := (.array .int)) rfl (by decide) dX4_init_17 rfl uw_X4 tyX4_ok nmX4 (by decide) (wg1 227 rfl rfl) rfl rfl (by decide +kernel) (fun _ => ⟨rfl, rfl⟩) hin9 rfl rfl (by decide) rfl ?_
  refine e_aload_n C 0 dX4_init_20 rfl rfl ?_
  refine e_bipush C dX4_init_21 rfl ?_
  refine e_newI C (lo := 29) (c := 2) dX4_init_23 ac_I rfl (by decide) (fun j => congrFun (hz 31 (by decide)) j) ⟨by decide, by decide⟩ (by decide) (by rw [hR9]; exact ⟨by decide, by decide⟩) (by decide) ?_
  refine e_putR C (lo := 29) (w := 28) (a' := 5) (j := 4) (ty := (.array .int)) rfl (by decide) dX4_init_25 rfl uw_X4 tyX4_ok nmX4 (by decide) (wg1 229 rfl rfl) rfl rfl (by decide +kernel) (fun _ => ⟨rfl, rfl⟩) hin9 rfl rfl (by decide) rfl ?_
  refine e_aload_n C 0 dX4_init_28 rfl rfl ?_
  refine e_sipush C dX4_init_29 rfl ?_
  refine e_newI C (lo := 29) (c := 3) dX4_init_32 ac_I rfl (by decide) (fun j => congrFun (hz 32 (by decide)) j) ⟨by decide, by decide⟩ (by decide) (by rw [hR9]; exact ⟨by decide, by decide⟩) (by decide) ?_
  refine e_putR C (lo := 29) (w := 28) (a' := 6) (j := 5) (ty := (.array .int)) rfl (by decide) dX4_init_34 rfl uw_X4 tyX4_ok nmX4 (by decide) (wg1 231 rfl rfl) rfl rfl (by decide +kernel) (fun _ => ⟨rfl, rfl⟩) hin9 rfl rfl (by decide) rfl ?_
  exact e_ret C dX4_init_37 hret rfl rfl rfl (by decide) (by decide)
theorem k_X4_46 {G : G9} {l : Launch} {B : Nat} (hB : ∀ k, G.1 k = B + k) (m : Nat) (d : D9) (hz : ∀ k, 46 ≤ k → d k = zr) : ME G l yX4_init cX4_init 1 1 20 4 436 46 5 m d d := by
  refine me_of (own := RX4) (by decide) rfl (by decide) hB (fun X hl hR9 C hin9 hret => ?_)
  refine e_aload_n C 0 dX4_init_0 rfl rfl ?_
  refine e_objinit C dX4_init_1 ⟨(wg1 220 rfl rfl), (wg1 34 rfl rfl), (wg1 35 rfl rfl)⟩ (by rw [hR9]; exact ⟨by decide, Nat.le_of_ble_eq_true rfl⟩) ?_
  refine e_aload_n C 0 dX4_init_4 rfl rfl ?_
  refine e_bipush C dX4_init_5 rfl ?_
  refine e_newI C (lo := 47) (c := 0) dX4_init_7 ac_I rfl (by decide) (fun j => congrFun (hz 47 (by decide)) j) ⟨by decide, by decide⟩ (by decide) (by rw [hR9]; exact ⟨by decide, by decide⟩) (by decide) ?_
  refine e_putR C (lo := 47) (w := 46) (a' := 3) (j := 2) (ty := (.array .int)) rfl (by decide) dX4_init_9 rfl uw_X4 tyX4_ok nmX4 (by decide) (wg1 225 rfl rfl) rfl rfl (by decide +kernel) (fun _ => ⟨rfl, rfl⟩) hin9 rfl rfl (by decide) rfl ?_
  refine e_aload_n C 0 dX4_init_12 rfl rfl ?_
  refine e_bipush C dX4_init_13 rfl ?_
  refine e_newI C (lo := 47) (c := 1) dX4_init_15 ac_I rfl (by decide) (fun j => congrFun (hz 48 (by decide)) j) ⟨by decide, by decide⟩ (by decide) (by rw [hR9]; exact ⟨by decide, by decide⟩) (by decide) ?_
  refine e_putR C (lo := 47) (w := 46) (a' := 4) (j := 3) (ty := (.array .int)) rfl (by decide) dX4_init_17 rfl uw_X4 tyX4_ok nmX4 (by decide) (wg1 227 rfl rfl) rfl rfl (by decide +kernel) (fun _ => ⟨rfl, rfl⟩) hin9 rfl rfl (by decide) rfl ?_
  refine e_aload_n C 0 dX4_init_20 rfl rfl ?_
  refine e_bipush C dX4_init_21 rfl ?_
  refine e_newI C (lo := 47) (c := 2) dX4_init_23 ac_I rfl (by decide) (fun j => congrFun (hz 49 (by decide)) j) ⟨by decide, by decide⟩ (by decide) (by rw [hR9]; exact ⟨by decide, by decide⟩) (by decide) ?_
  refine e_putR C (lo := 47) (w := 46) (a' := 5) (j := 4) (ty := (.array .int)) rfl (by decide) dX4_init_25 rfl uw_X4 tyX4_ok nmX4 (by decide) (wg1 229 rfl rfl) rfl rfl (by decide +kernel) (fun _ => ⟨rfl, rfl⟩) hin9 rfl rfl (by decide) rfl ?_
  refine e_aload_n C 0 dX4_init_28 rfl rfl ?_
  refine e_sipush C dX4_init_29 rfl ?_
  refine e_newI C (lo := 47) (c := 3) dX4_init_32 ac_I rfl (by decide) (fun j => congrFun (hz 50 (by decide)) j) ⟨by decide, by decide⟩ (by decide) (by rw [hR9]; exact ⟨by decide, by decide⟩) (by decide) ?_
  refine e_putR C (lo := 47) (w := 46) (a' := 6) (j := 5) (ty := (.array .int)) rfl (by decide) dX4_init_34 rfl uw_X4 tyX4_ok nmX4 (by decide) (wg1 231 rfl rfl) rfl rfl (by decide +kernel) (fun _ => ⟨rfl, rfl⟩) hin9 rfl rfl (by decide) rfl ?_
  exact e_ret C dX4_init_37 hret rfl rfl rfl (by decide) (by decide)
theorem k_X4_90 {G : G9} {l : Launch} {B : Nat} (hB : ∀ k, G.1 k = B + k) (m : Nat) (d : D9) (hz : ∀ k, 90 ≤ k → d k = zr) : ME G l yX4_init cX4_init 1 1 20 4 436 90 5 m d d := by
  refine me_of (own := RX4) (by decide) rfl (by decide) hB (fun X hl hR9 C hin9 hret => ?_)
  refine e_aload_n C 0 dX4_init_0 rfl rfl ?_
  refine e_objinit C dX4_init_1 ⟨(wg1 220 rfl rfl), (wg1 34 rfl rfl), (wg1 35 rfl rfl)⟩ (by rw [hR9]; exact ⟨by decide, Nat.le_of_ble_eq_true rfl⟩) ?_
  refine e_aload_n C 0 dX4_init_4 rfl rfl ?_
  refine e_bipush C dX4_init_5 rfl ?_
  refine e_newI C (lo := 91) (c := 0) dX4_init_7 ac_I rfl (by decide) (fun j => congrFun (hz 91 (by decide)) j) ⟨by decide, by decide⟩ (by decide) (by rw [hR9]; exact ⟨by decide, by decide⟩) (by decide) ?_
  refine e_putR C (lo := 91) (w := 90) (a' := 3) (j := 2) (ty := (.array .int)) rfl (by decide) dX4_init_9 rfl uw_X4 tyX4_ok nmX4 (by decide) (wg1 225 rfl rfl) rfl rfl (by decide +kernel) (fun _ => ⟨rfl, rfl⟩) hin9 rfl rfl (by decide) rfl ?_
  refine e_aload_n C 0 dX4_init_12 rfl rfl ?_
  refine e_bipush C dX4_init_13 rfl ?_
  refine e_newI C (lo := 91) (c := 1) dX4_init_15 ac_I rfl (by decide) (fun j => congrFun (hz 92 (by decide)) j) ⟨by decide, by decide⟩ (by decide) (by rw [hR9]; exact ⟨by decide, by decide⟩) (by decide) ?_
  refine e_putR C (lo := 91) (w := 90) (a' := 4) (j := 3) (ty := (.array .int)) rfl (by decide) dX4_init_17 rfl uw_X4 tyX4_ok nmX4 (by decide) (wg1 227 rfl rfl) rfl rfl (by decide +kernel) (fun _ => ⟨rfl, rfl⟩) hin9 rfl rfl (by decide) rfl ?_
  refine e_aload_n C 0 dX4_init_20 rfl rfl ?_
  refine e_bipush C dX4_init_21 rfl ?_
  refine e_newI C (lo := 91) (c := 2) dX4_init_23 ac_I rfl (by decide) (fun j => congrFun (hz 93 (by decide)) j) ⟨by decide, by decide⟩ (by decide) (by rw [hR9]; exact ⟨by decide, by decide⟩) (by decide) ?_
  refine e_putR C (lo := 91) (w := 90) (a' := 5) (j := 4) (ty := (.array .int)) rfl (by decide) dX4_init_25 rfl uw_X4 tyX4_ok nmX4 (by decide) (wg1 229 rfl rfl) rfl rfl (by decide +kernel) (fun _ => ⟨rfl, rfl⟩) hin9 rfl rfl (by decide) rfl ?_
  refine e_aload_n C 0 dX4_init_28 rfl rfl ?_
  refine e_sipush C dX4_init_29 rfl ?_
  refine e_newI C (lo := 91) (c := 3) dX4_init_32 ac_I rfl (by decide) (fun j => congrFun (hz 94 (by decide)) j) ⟨by decide, by decide⟩ (by decide) (by rw [hR9]; exact ⟨by decide, by decide⟩) (by decide) ?_
  refine e_putR C (lo := 91) (w := 90) (a' := 6) (j := 5) (ty := (.array .int)) rfl (by decide) dX4_init_34 rfl uw_X4 tyX4_ok nmX4 (by decide) (wg1 231 rfl rfl) rfl rfl (by decide +kernel) (fun _ => ⟨rfl, rfl⟩) hin9 rfl rfl (by decide) rfl ?_
  exact e_ret C dX4_init_37 hret rfl rfl rfl (by decide) (by decide)
theorem k_X4_127 {G : G9} {l : Launch} {B : Nat} (hB : ∀ k, G.1 k = B + k) (m : Nat) (d : D9) (hz : ∀ k, 127 ≤ k → d k = zr) : ME G l yX4_init cX4_init 1 1 20 4 436 127 5 m d d := by
  refine me_of (own := RX4) (by decide) rfl (by decide) hB (fun X hl hR9 C hin9 hret => ?_)
  refine e_aload_n C 0 dX4_init_0 rfl rfl ?_
  refine e_objinit C dX4_init_1 ⟨(wg1 220 rfl rfl), (wg1 34 rfl rfl), (wg1 35 rfl rfl)⟩ (by rw [hR9]; exact ⟨by decide, Nat.le_of_ble_eq_true rfl⟩) ?_
  refine e_aload_n C 0 dX4_init_4 rfl rfl ?_
  refine e_bipush C dX4_init_5 rfl ?_
  refine e_newI C (lo := 128) (c := 0) dX4_init_7 ac_I rfl (by decide) (fun j => congrFun (hz 128 (by decide)) j) ⟨by decide, by decide⟩ (by decide) (by rw [hR9]; exact ⟨by decide, by decide⟩) (by decide) ?_
  refine e_putR C (lo := 128) (w := 127) (a' := 3) (j := 2) (ty := (.array .int)) rfl (by decide) dX4_init_9 rfl uw_X4 tyX4_ok nmX4 (by decide) (wg1 225 rfl rfl) rfl rfl (by decide +kernel) (fun _ => ⟨rfl, rfl⟩) hin9 rfl rfl (by decide) rfl ?_
  refine e_aload_n C 0 dX4_init_12 rfl rfl ?_
  refine e_bipush C dX4_init_13 rfl ?_
  refine e_newI C (lo := 128) (c := 1) dX4_init_15 ac_I rfl (by decide) (fun j => congrFun (hz 129 (by decide)) j) ⟨by decide, by decide⟩ (by decide) (by rw [hR9]; exact ⟨by decide, by decide⟩) (by decide) ?_
  refine e_putR C (lo := 128) (w := 127) (a' := 4) (j := 3) (ty := (.array .int)) rfl (by decide) dX4_init_17 rfl uw_X4 tyX4_ok nmX4 (by decide) (wg1 227 rfl rfl) rfl rfl (by decide +kernel) (fun _ => ⟨rfl, rfl⟩) hin9 rfl rfl (by decide) rfl ?_
  refine e_aload_n C 0 dX4_init_20 rfl rfl ?_
  refine e_bipush C dX4_init_21 rfl ?_
  refine e_newI C (lo := 128) (c := 2) dX4_init_23 ac_I rfl (by decide) (fun j => congrFun (hz 130 (by decide)) j) ⟨by decide, by decide⟩ (by decide) (by rw [hR9]; exact ⟨by decide, by decide⟩) (by decide) ?_
  refine e_putR C (lo := 128) (w := 127) (a' := 5) (j := 4) (ty := (.array .int)) rfl (by decide) dX4_init_25 rfl uw_X4 tyX4_ok nmX4 (by decide) (wg1 229 rfl rfl) rfl rfl (by decide +kernel) (fun _ => ⟨rfl, rfl⟩) hin9 rfl rfl (by decide) rfl ?_
  refine e_aload_n C 0 dX4_init_28 rfl rfl ?_
  refine e_sipush C dX4_init_29 rfl ?_
  refine e_newI C (lo := 128) (c := 3) dX4_init_32 ac_I rfl (by decide) (fun j => congrFun (hz 131 (by decide)) j) ⟨by decide, by decide⟩ (by decide) (by rw [hR9]; exact ⟨by decide, by decide⟩) (by decide) ?_
  refine e_putR C (lo := 128) (w := 127) (a' := 6) (j := 5) (ty := (.array .int)) rfl (by decide) dX4_init_34 rfl uw_X4 tyX4_ok nmX4 (by decide) (wg1 231 rfl rfl) rfl rfl (by decide +kernel) (fun _ => ⟨rfl, rfl⟩) hin9 rfl rfl (by decide) rfl ?_
  exact e_ret C dX4_init_37 hret rfl rfl rfl (by decide) (by decide)
theorem k_X4_164 {G : G9} {l : Launch} {B : Nat} (hB : ∀ k, G.1 k = B + k) (m : Nat) (d : D9) (hz : ∀ k, 164 ≤ k → d k = zr) : ME G l yX4_init cX4_init 1 1 20 4 436 164 5 m d d := by
  refine me_of (own := RX4) (by decide) rfl (by decide) hB (fun X hl hR9 C hin9 hret => ?_)
  refine e_aload_n C 0 dX4_init_0 rfl rfl ?_
  refine e_objinit C dX4_init_1 ⟨(wg1 220 rfl rfl), (wg1 34 rfl rfl), (wg1 35 rfl rfl)⟩ (by rw [hR9]; exact ⟨by decide, Nat.le_of_ble_eq_true rfl⟩) ?_
  refine e_aload_n C 0 dX4_init_4 rfl rfl ?_
  refine e_bipush C dX4_init_5 rfl ?_
  refine e_newI C (lo := 165) (c := 0) dX4_init_7 ac_I rfl (by decide) (fun j => congrFun (hz 165 (by decide)) j) ⟨by decide, by decide⟩ (by decide) (by rw [hR9]; exact ⟨by decide, by decide⟩) (by decide) ?_
  refine e_putR C (lo := 165) (w := 164) (a' := 3) (j := 2) (ty := (.array .int)) rfl (by decide) dX4_init_9 rfl uw_X4 tyX4_ok nmX4 (by decide) (wg1 225 rfl rfl) rfl rfl (by decide +kernel) (fun _ => ⟨rfl, rfl⟩) hin9 rfl rfl (by decide) rfl ?_
  refine e_aload_n C 0 dX4_init_12 rfl rfl ?_
  refine e_bipush C dX4_init_13 rfl ?_
  refine e_newI C (lo := 165) (c := 1) dX4_init_15 ac_I rfl (by decide) (fun j => congrFun (hz 166 (by decide)) j) ⟨by decide, by decide⟩ (by decide) (by rw [hR9]; exact ⟨by decide, by decide⟩) (by decide) ?_
  refine e_putR C (lo := 165) (w := 164) (a' := 4) (j := 3) (ty := (.array .int)) rfl (by decide) dX4_init_17 rfl uw_X4 tyX4_ok nmX4 (by decide) (wg1 227 rfl rfl) rfl rfl (by decide +kernel) (fun _ => ⟨rfl, rfl⟩) hin9 rfl rfl (by decide) rfl ?_
  refine e_aload_n C 0 dX4_init_20 rfl rfl ?_
  refine e_bipush C dX4_init_21 rfl ?_
  refine e_newI C (lo := 165) (c := 2) dX4_init_23 ac_I rfl (by decide) (fun j => congrFun (hz 167 (by decide)) j) ⟨by decide, by decide⟩ (by decide) (by rw [hR9]; exact ⟨by decide, by decide⟩) (by decide) ?_
  refine e_putR C (lo := 165) (w := 164) (a' := 5) (j := 4) (ty := (.array .int)) rfl (by decide) dX4_init_25 rfl uw_X4 tyX4_ok nmX4 (by decide) (wg1 229 rfl rfl) rfl rfl (by decide +kernel) (fun _ => ⟨rfl, rfl⟩) hin9 rfl rfl (by decide) rfl ?_
  refine e_aload_n C 0 dX4_init_28 rfl rfl ?_
  refine e_sipush C dX4_init_29 rfl ?_
  refine e_newI C (lo := 165) (c := 3) dX4_init_32 ac_I rfl (by decide) (fun j => congrFun (hz 168 (by decide)) j) ⟨by decide, by decide⟩ (by decide) (by rw [hR9]; exact ⟨by decide, by decide⟩) (by decide) ?_
  refine e_putR C (lo := 165) (w := 164) (a' := 6) (j := 5) (ty := (.array .int)) rfl (by decide) dX4_init_34 rfl uw_X4 tyX4_ok nmX4 (by decide) (wg1 231 rfl rfl) rfl rfl (by decide +kernel) (fun _ => ⟨rfl, rfl⟩) hin9 rfl rfl (by decide) rfl ?_
  exact e_ret C dX4_init_37 hret rfl rfl rfl (by decide) (by decide)
theorem dX5_init_0 : decode cX5_init 0 = .ok (.aload_n 0, 1) := by decide +kernel
theorem dX5_init_1 : decode cX5_init 1 = .ok (.invokespecial 3, 3) := by decide +kernel
theorem dX5_init_4 : decode cX5_init 4 = .ok (.aload_n 0, 1) := by decide +kernel
theorem dX5_init_5 : decode cX5_init 5 = .ok (.bipush 30, 2) := by decide +kernel
theorem dX5_init_7 : decode cX5_init 7 = .ok (.newarray .int, 2) := by decide +kernel
theorem dX5_init_9 : decode cX5_init 9 = .ok (.putfield 9, 3) := by decide +kernel
theorem dX5_init_12 : decode cX5_init 12 = .ok (.aload_n 0, 1) := by decide +kernel
theorem dX5_init_13 : decode cX5_init 13 = .ok (.bipush 12, 2) := by decide +kernel
theorem dX5_init_15 : decode cX5_init 15 = .ok (.newarray .int, 2) := by decide +kernel
theorem dX5_init_17 : decode cX5_init 17 = .ok (.putfield 15, 3) := by decide +kernel
theorem dX5_init_20 : decode cX5_init 20 = .ok (.aload_n 0, 1) := by decide +kernel
theorem dX5_init_21 : decode cX5_init 21 = .ok (.bipush 13, 2) := by decide +kernel
theorem dX5_init_23 : decode cX5_init 23 = .ok (.newarray .int, 2) := by decide +kernel
theorem dX5_init_25 : decode cX5_init 25 = .ok (.putfield 18, 3) := by decide +kernel
theorem dX5_init_28 : decode cX5_init 28 = .ok (.aload_n 0, 1) := by decide +kernel
theorem dX5_init_29 : decode cX5_init 29 = .ok (.bipush 13, 2) := by decide +kernel
theorem dX5_init_31 : decode cX5_init 31 = .ok (.newarray .int, 2) := by decide +kernel
theorem dX5_init_33 : decode cX5_init 33 = .ok (.putfield 21, 3) := by decide +kernel
theorem dX5_init_36 : decode cX5_init 36 = .ok (.return_, 1) := by decide +kernel
theorem k_X5_58 {G : G9} {l : Launch} {B : Nat} (hB : ∀ k, G.1 k = B + k) (m : Nat) (d : D9) (hz : ∀ k, 58 ≤ k → d k = zr) : ME G l yX5_init cX5_init 1 1 20 4 68 58 5 m d d := by
  refine me_of (own := RX5) (by decide) rfl (by decide) hB (fun X hl hR9 C hin9 hret => ?_)
  refine e_aload_n C 0 dX5_init_0 rfl rfl ?_
  refine e_objinit C dX5_init_1 ⟨(wg2 150 rfl rfl), (wg1 34 rfl rfl), (wg1 35 rfl rfl)⟩ (by rw [hR9]; exact ⟨by decide, Nat.le_of_ble_eq_true rfl⟩) ?_
  refine e_aload_n C 0 dX5_init_4 rfl rfl ?_
  refine e_bipush C dX5_init_5 rfl ?_
  refine e_newI C (lo := 59) (c := 0) dX5_init_7 ac_I rfl (by decide) (fun j => congrFun (hz 59 (by decide)) j) ⟨by decide, by decide⟩ (by decide) (by rw [hR9]; exact ⟨by decide, by decide⟩) (by decide) ?_
  refine e_putR C (lo := 59) (w := 58) (a' := 6) (j := 5) (ty := (.array .int)) rfl (by decide) dX5_init_9 rfl uw_X5 tyX5_ok nmX5 (by decide) (wg2 161 rfl rfl) rfl rfl (by decide +kernel) (fun _ => ⟨rfl, rfl⟩) hin9 rfl rfl (by decide) rfl ?_
  refine e_aload_n C 0 dX5_init_12 rfl rfl ?_
  refine e_bipush C dX5_init_13 rfl ?_
  refine e_newI C (lo := 59) (c := 1) dX5_init_15 ac_I rfl (by decide) (fun j => congrFun (hz 60 (by decide)) j) ⟨by decide, by decide⟩ (by decide) (by rw [hR9]; exact ⟨by decide, by decide⟩) (by decide) ?_
  refine e_putR C (lo := 59) (w := 58) (a' := 10) (j := 9) (ty := (.array .int)) rfl (by decide) dX5_init_17 rfl uw_X5 tyX5_ok nmX5 (by decide) (wg2 166 rfl rfl) rfl rfl (by decide +kernel) (fun _ => ⟨rfl, rfl⟩) hin9 rfl rfl (by decide) rfl ?_
  refine e_aload_n C 0 dX5_init_20 rfl rfl ?_
  refine e_bipush C dX5_init_21 rfl ?_
  refine e_newI C (lo := 59) (c := 2) dX5_init_23 ac_I rfl (by decide) (fun j => congrFun (hz 61 (by decide)) j) ⟨by decide, by decide⟩ (by decide) (by rw [hR9]; exact ⟨by decide, by decide⟩) (by decide) ?_
  refine e_putR C (lo := 59) (w := 58) (a' := 11) (j := 10) (ty := (.array .int)) rfl (by decide) dX5_init_25 rfl uw_X5 tyX5_ok nmX5 (by decide) (wg2 167 rfl rfl) rfl rfl (by decide +kernel) (fun _ => ⟨rfl, rfl⟩) hin9 rfl rfl (by decide) rfl ?_
  refine e_aload_n C 0 dX5_init_28 rfl rfl ?_
  refine e_bipush C dX5_init_29 rfl ?_
  refine e_newI C (lo := 59) (c := 3) dX5_init_31 ac_I rfl (by decide) (fun j => congrFun (hz 62 (by decide)) j) ⟨by decide, by decide⟩ (by decide) (by rw [hR9]; exact ⟨by decide, by decide⟩) (by decide) ?_
  refine e_putR C (lo := 59) (w := 58) (a' := 12) (j := 11) (ty := (.array .int)) rfl (by decide) dX5_init_33 rfl uw_X5 tyX5_ok nmX5 (by decide) (wg2 168 rfl rfl) rfl rfl (by decide +kernel) (fun _ => ⟨rfl, rfl⟩) hin9 rfl rfl (by decide) rfl ?_
  exact e_ret C dX5_init_36 hret rfl rfl rfl (by decide) (by decide)
theorem dX6_init_0 : decode cX6_init 0 = .ok (.aload_n 0, 1) := by decide +kernel
theorem dX6_init_1 : decode cX6_init 1 = .ok (.invokespecial 3, 3) := by decide +kernel
theorem dX6_init_4 : decode cX6_init 4 = .ok (.aload_n 0, 1) := by decide +kernel
theorem dX6_init_5 : decode cX6_init 5 = .ok (.bipush 30, 2) := by decide +kernel
theorem dX6_init_7 : decode cX6_init 7 = .ok (.newarray .int, 2) := by decide +kernel
theorem dX6_init_9 : decode cX6_init 9 = .ok (.putfield 9, 3) := by decide +kernel
theorem dX6_init_12 : decode cX6_init 12 = .ok (.aload_n 0, 1) := by decide +kernel
theorem dX6_init_13 : decode cX6_init 13 = .ok (.bipush 30, 2) := by decide +kernel
theorem dX6_init_15 : decode cX6_init 15 = .ok (.newarray .int, 2) := by decide +kernel
theorem dX6_init_17 : decode cX6_init 17 = .ok (.putfield 15, 3) := by decide +kernel
theorem dX6_init_20 : decode cX6_init 20 = .ok (.aload_n 0, 1) := by decide +kernel
theorem dX6_init_21 : decode cX6_init 21 = .ok (.bipush 30, 2) := by decide +kernel
theorem dX6_init_23 : decode cX6_init 23 = .ok (.newarray .int, 2) := by decide +kernel
theorem dX6_init_25 : decode cX6_init 25 = .ok (.putfield 18, 3) := by decide +kernel
theorem dX6_init_28 : decode cX6_init 28 = .ok (.aload_n 0, 1) := by decide +kernel
theorem dX6_init_29 : decode cX6_init 29 = .ok (.bipush 30, 2) := by decide +kernel
theorem dX6_init_31 : decode cX6_init 31 = .ok (.newarray .int, 2) := by decide +kernel
theorem dX6_init_33 : decode cX6_init 33 = .ok (.putfield 21, 3) := by decide +kernel
theorem dX6_init_36 : decode cX6_init 36 = .ok (.aload_n 0, 1) := by decide +kernel
theorem dX6_init_37 : decode cX6_init 37 = .ok (.bipush 30, 2) := by decide +kernel
theorem dX6_init_39 : decode cX6_init 39 = .ok (.newarray .int, 2) := by decide +kernel
theorem dX6_init_41 : decode cX6_init 41 = .ok (.putfield 24, 3) := by decide +kernel
theorem dX6_init_44 : decode cX6_init 44 = .ok (.aload_n 0, 1) := by decide +kernel
theorem dX6_init_45 : decode cX6_init 45 = .ok (.bipush 30, 2) := by decide +kernel
theorem dX6_init_47 : decode cX6_init 47 = .ok (.newarray .int, 2) := by decide +kernel
theorem dX6_init_49 : decode cX6_init 49 = .ok (.putfield 27, 3) := by decide +kernel
theorem dX6_init_52 : decode cX6_init 52 = .ok (.aload_n 0, 1) := by decide +kernel
theorem dX6_init_53 : decode cX6_init 53 = .ok (.bipush 30, 2) := by decide +kernel
theorem dX6_init_55 : decode cX6_init 55 = .ok (.newarray .int, 2) := by decide +kernel
theorem dX6_init_57 : decode cX6_init 57 = .ok (.putfield 30, 3) := by decide +kernel
theorem dX6_init_60 : decode cX6_init 60 = .ok (.aload_n 0, 1) := by decide +kernel
theorem dX6_init_61 : decode cX6_init 61 = .ok (.bipush 120, 2) := by decide +kernel
theorem dX6_init_63 : decode cX6_init 63 = .ok (.newarray .int, 2) := by decide +kernel
theorem dX6_init_65 : decode cX6_init 65 = .ok (.putfield 33, 3) := by decide +kernel
theorem dX6_init_68 : decode cX6_init 68 = .ok (.aload_n 0, 1) := by decide +kernel
theorem dX6_init_69 : decode cX6_init 69 = .ok (.bipush 120, 2) := by decide +kernel
theorem dX6_init_71 : decode cX6_init 71 = .ok (.newarray .int, 2) := by decide +kernel
theorem dX6_init_73 : decode cX6_init 73 = .ok (.putfield 36, 3) := by decide +kernel
theorem dX6_init_76 : decode cX6_init 76 = .ok (.aload_n 0, 1) := by decide +kernel
theorem dX6_init_77 : decode cX6_init 77 = .ok (.bipush 120, 2) := by decide +kernel
theorem dX6_init_79 : decode cX6_init 79 = .ok (.newarray .int, 2) := by decide +kernel
theorem dX6_init_81 : decode cX6_init 81 = .ok (.putfield 39, 3) := by decide +kernel
theorem dX6_init_84 : decode cX6_init 84 = .ok (.aload_n 0, 1) := by decide +kernel
theorem dX6_init_85 : decode cX6_init 85 = .ok (.bipush 120, 2) := by decide +kernel
theorem dX6_init_87 : decode cX6_init 87 = .ok (.newarray .int, 2) := by decide +kernel
theorem dX6_init_89 : decode cX6_init 89 = .ok (.putfield 42, 3) := by decide +kernel
theorem dX6_init_92 : decode cX6_init 92 = .ok (.aload_n 0, 1) := by decide +kernel
theorem dX6_init_93 : decode cX6_init 93 = .ok (.bipush 120, 2) := by decide +kernel
theorem dX6_init_95 : decode cX6_init 95 = .ok (.newarray .int, 2) := by decide +kernel
theorem dX6_init_97 : decode cX6_init 97 = .ok (.putfield 45, 3) := by decide +kernel
theorem dX6_init_100 : decode cX6_init 100 = .ok (.return_, 1) := by decide +kernel
theorem k_X6_9 {G : G9} {l : Launch} {B : Nat} (hB : ∀ k, G.1 k = B + k) (m : Nat) (d : D9) (hz : ∀ k, 9 ≤ k → d k = zr) : ME G l yX6_init cX6_init 1 1 20 12 810 9 13 m d d := by
  refine me_of (own := RX6) (by decide) rfl (by decide) hB (fun X hl hR9 C hin9 hret => ?_)
  refine e_aload_n C 0 dX6_init_0 rfl rfl ?_
  refine e_objinit C dX6_init_1 ⟨(wg1 92 rfl rfl), (wg1 34 rfl rfl), (wg1 35 rfl rfl)⟩ (by rw [hR9]; exact ⟨by decide, Nat.le_of_ble_eq_true rfl⟩) ?_
  refine e_aload_n C 0 dX6_init_4 rfl rfl ?_
  refine e_bipush C dX6_init_5 rfl ?_
  refine e_newI C (lo := 10) (c := 0) dX6_init_7 ac_I rfl (by decide) (fun j => congrFun (hz 10 (by decide)) j) ⟨by decide, by decide⟩ (by decide) (by rw [hR9]; exact ⟨by decide, by decide⟩) (by decide) ?_
  refine e_putR C (lo := 10) (w := 9) (a' := 2) (j := 1) (ty := (.array .int)) rfl (by decide) dX6_init_9 rfl uw_X6 tyX6_ok nmX6 (by decide) (wg1 97 rfl rfl) rfl rfl (by decide +kernel) (fun _ => ⟨rfl, rfl⟩) hin9 rfl rfl (by decide) rfl ?_
  refine e_aload_n C 0 dX6_init_12 rfl rfl ?_
  refine e_bipush C dX6_init_13 rfl ?_
  refine e_newI C (lo := 10) (c := 1) dX6_init_15 ac_I rfl (by decide) (fun j => congrFun (hz 11 (by decide)) j) ⟨by decide, by decide⟩ (by decide) (by rw [hR9]; exact ⟨by decide, by decide⟩) (by decide) ?_
  refine e_putR C (lo := 10) (w := 9) (a' := 3) (j := 2) (ty := (.array .int)) rfl (by decide) dX6_init_17 rfl uw_X6 tyX6_ok nmX6 (by decide) (wg1 99 rfl rfl) rfl rfl (by decide +kernel) (fun _ => ⟨rfl, rfl⟩) hin9 rfl rfl (by decide) rfl ?_
  refine e_aload_n C 0 dX6_init_20 rfl rfl ?_
  refine e_bipush C dX6_init_21 rfl ?_
  refine e_newI C (lo := 10) (c := 2) dX6_init_23 ac_I rfl (by decide) (fun j => congrFun (hz 12 (by decide)) j) ⟨by decide, by decide⟩ (by decide) (by rw [hR9]; exact ⟨by decide, by decide⟩) (by decide) ?_
  refine e_putR C (lo := 10) (w := 9) (a' := 4) (j := 3) (ty := (.array .int)) rfl (by decide) dX6_init_25 rfl uw_X6 tyX6_ok nmX6 (by decide) (wg1 101 rfl rfl) rfl rfl (by decide +kernel) (fun _ => ⟨rfl, rfl⟩) hin9 rfl rfl (by decide) rfl ?_
  refine e_aload_n C 0 dX6_init_28 rfl rfl ?_
  refine e_bipush C dX6_init_29 rfl ?_
  refine e_newI C (lo := 10) (c := 3) dX6_init_31 ac_I rfl (by decide) (fun j => congrFun (hz 13 (by decide)) j) ⟨by decide, by decide⟩ (by decide) (by rw [hR9]; exact ⟨by decide, by decide⟩) (by decide) ?_
  refine e_putR C (lo := 10) (w := 9) (a' := 5) (j := 4) (ty := (.array .int)) rfl (by decide) dX6_init_33 rfl uw_X6 tyX6_ok nmX6 (by decide) (wg1 103 rfl rfl) rfl rfl (by decide +kernel) (fun _ => ⟨rfl, rfl⟩) hin9 rfl rfl (by decide) rfl ?_
  refine e_aload_n C 0 dX6_init_36 rfl rfl ?_
  refine e_bipush C dX6_init_37 rfl ?_
  refine e_newI C (lo := 10) (c := 4) dX6_init_39 ac_I rfl (by decide) (fun j => congrFun (hz 14 (by decide)) j) ⟨by decide, by decide⟩ (by decide) (by rw [hR9]; exact ⟨by decide, by decide⟩) (by decide) ?_
  refine e_putR C (lo := 10) (w := 9) (a' := 6) (j := 5) (ty := (.array .int)) rfl (by decide) dX6_init_41 rfl uw_X6 tyX6_ok nmX6 (by decide) (wg1 105 rfl rfl) rfl rfl (by decide +kernel) (fun _ => ⟨rfl, rfl⟩) hin9 rfl rfl (by decide) rfl ?_
  refine e_aload_n C 0 dX6_init_44 rfl rfl ?_
  refine e_bipush C dX6_init_45 rfl ?_
  refine e_newI C (lo := 10) (c := 5) dX6_init_47 ac_I rfl (by decide) (fun j => congrFun (hz 15 (by decide)) j) ⟨by decide, by decide⟩ (by decide) (by rw [hR9]; exact ⟨by decide, by decide⟩) (by decide) ?_
  refine e_putR C (lo := 10) (w := 9) (a' := 7) (j := 6) (ty := (.array .int)) rfl (by decide) dX6_init_49 rfl uw_X6 tyX6_ok nmX6 (by decide) (wg1 108 rfl rfl) rfl rfl (by decide +kernel) (fun _ => ⟨rfl, rfl⟩) hin9 rfl rfl (by decide) rfl ?_
  refine e_aload_n C 0 dX6_init_52 rfl rfl ?_
  refine e_bipush C dX6_init_53 rfl ?_
  refine e_newI C (lo := 10) (c := 6) dX6_init_55 ac_I rfl (by decide) (fun j => congrFun (hz 16 (by decide)) j) ⟨by decide, by decide⟩ (by decide) (by rw [hR9]; exact ⟨by decide, by decide⟩) (by decide) ?_
  refine e_putR C (lo := 10) (w := 9) (a' := 8) (j := 7) (ty := (.array .int)) rfl (by decide) dX6_init_57 rfl uw_X6 tyX6_ok nmX6 (by decide) (wg1 111 rfl rfl) rfl rfl (by decide +kernel) (fun _ => ⟨rfl, rfl⟩) hin9 rfl rfl (by decide) rfl ?_
  refine e_aload_n C 0 dX6_init_60 rfl rfl ?_
  refine e_bipush C dX6_init_61 rfl ?_
  refine e_newI C (lo := 10) (c := 7) dX6_init_63 ac_I rfl (by decide) (fun j => congrFun (hz 17 (by decide)) j) ⟨by decide, by decide⟩ (by decide) (by rw [hR9]; exact ⟨by decide, by decide⟩) (by decide) ?_
  refine e_putR C (lo := 10) (w := 9) (a' := 9) (j := 8) (ty := (.array .int)) rfl (by decide) dX6_init_65 rfl uw_X6 tyX6_ok nmX6 (by decide) (wg1 113 rfl rfl) rfl rfl (by decide +kernel) (fun _ => ⟨rfl, rfl⟩) hin9 rfl rfl (by decide) rfl ?_
  refine e_aload_n C 0 dX6_init_68 rfl rfl ?_
  refine e_bipush C dX6_init_69 rfl ?_
  refine e_newI C (lo := 10) (c := 8) dX6_init_71 ac_I rfl (by decide) (fun j => congrFun (hz 18 (by decide)) j) ⟨by decide, by decide⟩ (by decide) (by rw [hR9]; exact ⟨by decide, by decide⟩) (by decide) ?_
  refine e_putR C (lo := 10) (w := 9) (a' := 10) (j := 9) (ty := (.array .int)) rfl (by decide) dX6_init_73 rfl uw_X6 tyX6_ok nmX6 (by decide) (wg1 114 rfl rfl) rfl rfl (by decide +kernel) (fun _ => ⟨rfl, rfl⟩) hin9 rfl rfl (by decide) rfl ?_
  refine e_aload_n C 0 dX6_init_76 rfl rfl ?_
  refine e_bipush C dX6_init_77 rfl ?_
  refine e_newI C (lo := 10) (c := 9) dX6_init_79 ac_I rfl (by decide) (fun j => congrFun (hz 19 (by decide)) j) ⟨by decide, by decide⟩ (by decide) (by rw [hR9]; exact ⟨by decide, by decide⟩) (by decide) ?_
  refine e_putR C (lo := 10) (w := 9) (a' := 11) (j := 10) (ty := (.array .int)) rfl (by decide) dX6_init_81 rfl uw_X6 tyX6_ok nmX6 (by decide) (wg1 115 rfl rfl) rfl rfl (by decide +kernel) (fun _ => ⟨rfl, rfl⟩) hin9 rfl rfl (by decide) rfl ?_
  refine e_aload_n C 0 dX6_init_84 rfl rfl ?_
  refine e_bipush C dX6_init_85 rfl ?_
  refine e_newI C (lo := 10) (c := 10) dX6_init_87 ac_I rfl (by decide) (fun j => congrFun (hz 20 (by decide)) j) ⟨by decide, by decide⟩ (by decide) (by rw [hR9]; exact ⟨by decide, by decide⟩) (by decide) ?_
  refine e_putR C (lo := 10) (w := 9) (a' := 12) (j := 11) (ty := (.array .int)) rfl (by decide) dX6_init_89 rfl uw_X6 tyX6_ok nmX6 (by decide) (wg1 116 rfl rfl) rfl rfl (by decide +kernel) (fun _ => ⟨rfl, rfl⟩) hin9 rfl rfl (by decide) rfl ?_
  refine e_aload_n C 0 dX6_init_92 rfl rfl ?_
  refine e_bipush C dX6_init_93 rfl ?_
  refine e_newI C (lo := 10) (c := 11) dX6_init_95 ac_I rfl (by decide) (fun j => congrFun (hz 21 (by decide)) j) ⟨by decide, by decide⟩ (by decide) (by rw [hR9]; exact ⟨by decide, by decide⟩) (by decide) ?_
  refine e_putR C (lo := 10) (w := 9) (a' := 13) (j := 12) (ty := (.array .int)) rfl (by decide) dX6_init_97 rfl uw_X6 tyX6_ok nmX6 (by decide) (wg1 118 rfl rfl) rfl rfl (by decide +kernel) (fun _ => ⟨rfl, rfl⟩) hin9 rfl rfl (by decide) rfl ?_
  exact e_ret C dX6_init_100 hret rfl rfl rfl (by decide) (by decide)
theorem k_X6_71 {G : G9} {l : Launch} {B : Nat} (hB : ∀ k, G.1 k = B + k) (m : Nat) (d : D9) (hz : ∀ k, 71 ≤ k → d k = zr) : ME G l yX6_init cX6_init 1 1 20 12 810 71 13 m d d := by
  refine me_of (own := RX6) (by decide) rfl (by decide) hB (fun X hl hR9 C hin9 hret => ?_)
  refine e_aload_n C 0 dX6_init_0 rfl rfl ?_
  refine e_objinit C dX6_init_1 ⟨(wg1 92 rfl rfl), (wg1 34 rfl rfl), (wg1 35 rfl rfl)⟩ (by rw [hR9]; exact ⟨by decide, Nat.le_of_ble_eq_true rfl⟩) ?_
  refine e_aload_n C 0 dX6_init_4 rfl rfl ?_
  refine e_bipush C dX6_init_5 rfl ?_
  refine e_newI C (lo := 72) (c := 0) dX6_init_7 ac_I rfl (by decide) (fun j => congrFun (hz 72 (by decide)) j) ⟨by decide, by decide⟩ (by decide) (by rw [hR9]; exact ⟨by decide, by decide⟩) (by decide) ?_
  refine e_putR C (lo := 72) (w := 71) (a' := 2) (j := 1) (ty := (.array .int)) rfl (by decide) dX6_init_9 rfl uw_X6 tyX6_ok nmX6 (by decide) (wg1 97 rfl rfl) rfl rfl (by decide +kernel) (fun _ => ⟨rfl, rfl⟩) hin9 rfl rfl (by decide) rfl ?_
  refine e_aload_n C 0 dX6_init_12 rfl rfl ?_
  refine e_bipush C dX6_init_13 rfl ?_
  refine e_newI C (lo := 72) (c := 1) dX6_init_15 ac_I rfl (by decide) (fun j => congrFun (hz 73 (by decide)) j) ⟨by decide, by decide⟩ (by decide) (by rw [hR9]; exact ⟨by decide, by decide⟩) (by decide) ?_
  refine e_putR C (lo := 72) (w := 71) (a' := 3) (j := 2) (ty := (.array .int)) rfl (by decide) dX6_init_17 rfl uw_X6 tyX6_ok nmX6 (by decide) (wg1 99 rfl rfl) rfl rfl (by decide +kernel) (fun _ => ⟨rfl, rfl⟩) hin9 rfl rfl (by decide) rfl ?_
  refine e_aload_n C 0 dX6_init_20 rfl rfl ?_
  refine e_bipush C dX6_init_21 rfl ?_
  refine e_newI C (lo := 72) (c := 2) dX6_init_23 ac_I rfl (by decide) (fun j => congrFun (hz 74 (by decide)) j) ⟨by decide, by decide⟩ (by decide) (by rw [hR9]; exact ⟨by decide, by decide⟩) (by decide) ?_
  refine e_putR C (lo := 72) (w := 71) (a' := 4) (j := 3) (ty := (.array .int)) rfl (by decide) dX6_init_25 rfl uw_X6 tyX6_ok nmX6 (by decide) (wg1 101 rfl rfl) rfl rfl (by decide +kernel) (fun _ => ⟨rfl, rfl⟩) hin9 rfl rfl (by decide) rfl ?_
  refine e_aload_n C 0 dX6_init_28 rfl rfl ?_
  refine e_bipush C dX6_init_29 rfl ?_
  refine e_newI C (lo := 72) (c := 3) dX6_init_31 ac_I rfl (by decide) (fun j => congrFun (hz 75 (by decide)) j) ⟨by decide, by decide⟩ (by decide) (by rw [hR9]; exact ⟨by decide, by decide⟩) (by decide) ?_
  refine e_putR C (lo := 72) (w := 71) (a' := 5) (j := 4) (ty := (.array .int)) rfl (by decide) dX6_init_33 rfl uw_X6 tyX6_ok nmX6 (by decide) (wg1 103 rfl rfl) rfl rfl (by decide +kernel) (fun _ => ⟨rfl, rfl⟩) hin9 rfl rfl (by decide) rfl ?_
  refine e_aload_n C 0 dX6_init_36 rfl rfl ?_
  refine e_bipush C dX6_init_37 rfl ?_
  refine e_newI C (lo := 72) (c := 4) dX6_init_39 ac_I rfl (by decide) (fun j => congrFun (hz 76 (by decide)) j) ⟨by decide, by decide⟩ (by decide) (by rw [hR9]; exact ⟨by decide, by decide⟩) (by decide) ?_
  refine e_putR C (lo := 72) (w := 71) (a' := 6) (j := 5) (ty := (.array .int)) rfl (by decide) dX6_init_41 rfl uw_X6 tyX6_ok nmX6 (by decide) (wg1 105 rfl rfl) rfl rfl (by decide +kernel) (fun _ => ⟨rfl, rfl⟩) hin9 rfl rfl (by decide) rfl ?_
  refine e_aload_n C 0 dX6_init_44 rfl rfl ?_
  refine e_bipush C dX6_init_45 rfl ?_
  refine e_newI C (lo := 72) (c := 5) dX6_init_47 ac_I rfl (by decide) (fun j => congrFun (hz 77 (by decide)) j) ⟨by decide, by decide⟩ (by decide) (by rw [hR9]; exact ⟨by decide, by decide⟩) (by decide) ?_
  refine e_putR C (lo := 72) (w := 71) (a' := 7) (j := 6) (ty := (.array .int)) rfl (by decide) dX6_init_49 rfl uw_X6 tyX6_ok nmX6 (by decide) (wg1 108 rfl rfl) rfl rfl (by decide +kernel) (fun _ => ⟨rfl, rfl⟩) hin9 rfl rfl (by decide) rfl ?_
  refine e_aload_n C 0 dX6_init_52 rfl rfl ?_
  refine e_bipush C dX6_init_53 rfl ?_
  refine e_newI C (lo := 72) (c := 6) dX6_init_55 ac_I rfl (by decide) (fun j => congrFun (hz 78 (by decide)) j) ⟨by decide, by decide⟩ (by decide) (by rw [hR9]; exact ⟨by decide, by decide⟩) (by decide) ?_
  refine e_putR C (lo := 72) (w := 71) (a' := 8) (j := 7) (ty := (.array .int)) rfl (by decide) dX6_init_57 rfl uw_X6 tyX6_ok nmX6 (by decide) (wg1 111 rfl rfl) rfl rfl (by decide +kernel) (fun _ => ⟨rfl, rfl⟩) hin9 rfl rfl (by decide) rfl ?_
  refine e_aload_n C 0 dX6_init_60 rfl rfl ?_
  refine e_bipush C dX6_init_61 rfl ?_
  refine e_newI C (lo := 72) (c := 7) dX6_init_63 ac_I rfl (by decide) (fun j => congrFun (hz 79 (by decide)) j) ⟨by decide, by decide⟩ (by decide) (by rw [hR9]; exact ⟨by decide, by decide⟩) (by decide) ?_
  refine e_putR C (lo := 72) (w := 71) (a' := 9) (j := 8) (ty := (.array .int)) rfl (by decide) dX6_init_65 rfl uw_X6 tyX6_ok nmX6 (by decide) (wg1 113 rfl rfl) rfl rfl (by decide +kernel) (fun _ => ⟨rfl, rfl⟩) hin9 rfl rfl (by decide) rfl ?_
  refine e_aload_n C 0 dX6_init_68 rfl rfl ?_
  refine e_bipush C dX6_init_69 rfl ?_
  refine e_newI C (lo := 72) (c := 8) dX6_init_71 ac_I rfl (by decide) (fun j => congrFun (hz 80 (by decide)) j) ⟨by decide, by decide⟩ (by decide) (by rw [hR9]; exact ⟨by decide, by decide⟩) (by decide) ?_
  refine e_putR C (lo := 72) (w := 71) (a' := 10) (j := 9) (ty := (.array .int)) rfl (by decide) dX6_init_73 rfl uw_X6 tyX6_ok nmX6 (by decide) (wg1 114 rfl rfl) rfl rfl (by decide +kernel) (fun _ => ⟨rfl, rfl⟩) hin9 rfl rfl (by decide) rfl ?_
  refine e_aload_n C 0 dX6_init_76 rfl rfl ?_
  refine e_bipush C dX6_init_77 rfl ?_
  refine e_newI C (lo := 72) (c := 9) dX6_init_79 ac_I rfl (by decide) (fun j => congrFun (hz 81 (by decide)) j) ⟨by decide, by decide⟩ (by decide) (by rw [hR9]; exact ⟨by decide, by decide⟩) (by decide) ?_
  refine e_putR C (lo := 72) (w := 71) (a' := 11) (j := 10) (ty := (.array .int)) rfl (by decide) dX6_init_81 rfl uw_X6 tyX6_ok nmX6 (by decide) (wg1 115 rfl rfl) rfl rfl (by decide +kernel) (fun _ => ⟨rfl, rfl⟩) hin9 rfl rfl (by decide) rfl ?_
  refine e_aload_n C 0 dX6_init_84 rfl rfl ?_
  refine e_bipush C dX6_init_85 rfl ?_
  refine e_newI C (lo := 72) (c := 10) dX6_init_87 ac_I rfl (by decide) (fun j => congrFun (hz 82 (by decide)) j) ⟨by decide, by decide⟩ (by decide) (by rw [hR9]; exact ⟨by decide, by decide⟩) (by decide) ?_
  refine e_putR C (lo := 72) (w := 71) (a' := 12) (j := 11) (ty := (.array .int)) rfl (by decide) dX6_init_89 rfl uw_X6 tyX6_ok nmX6 (by decide) (wg1 116 rfl rfl) rfl rfl (by decide +kernel) (fun _ => ⟨rfl, rfl⟩) hin9 rfl rfl (by decide) rfl ?_
  refine e_aload_n C 0 dX6_init_92 rfl rfl ?_
  refine e_bipush C dX6_init_93 rfl ?_
  refine e_newI C (lo := 72) (c := 11) dX6_init_95 ac_I rfl (by decide) (fun j => congrFun (hz 83 (by decide)) j) ⟨by decide, by decide⟩ (by decide) (by rw [hR9]; exact ⟨by decide, by decide⟩) (by decide) ?_
  refine e_putR C (lo := 72) (w := 71) (a' := 13) (j := 12) (ty := (.array .int)) rfl (by decide) dX6_init_97 rfl uw_X6 tyX6_ok nmX6 (by decide) (wg1 118 rfl rfl) rfl rfl (by decide +kernel) (fun _ => ⟨rfl, rfl⟩) hin9 rfl rfl (by decide) rfl ?_
  exact e_ret C dX6_init_100 hret rfl rfl rfl (by decide) (by decide)
theorem k_X6_108 {G : G9} {l : Launch} {B : Nat} (hB : ∀ k, G.1 k = B + k) (m : Nat) (d : D9) (hz : ∀ k, 108 ≤ k → d k = zr) : ME G l yX6_init cX6_init 1 1 20 12 810 108 13 m d d := by
  refine me_of (own := RX6) (by decide) rfl (by decide) hB (fun X hl hR9 C hin9 hret => ?_)
  refine e_aload_n C 0 dX6_init_0 rfl rfl ?_
  refine e_objinit C dX6_init_1 ⟨(wg1 92 rfl rfl), (wg1 34 rfl rfl), (wg1 35 rfl rfl)⟩ (by rw [hR9]; exact ⟨by decide, Nat.le_of_ble_eq_true rfl⟩) ?_
  refine e_aload_n C 0 dX6_init_4 rfl rfl ?_
  refine e_bipush C dX6_init_5 rfl ?_
  refine e_newI C (lo := 109) (c := 0) dX6_init_7 ac_I rfl (by decide) (fun j => congrFun (hz 109 (by decide)) j) ⟨by decide, by decide⟩ (by decide) (by rw [hR9]; exact ⟨by decide, by decide⟩) (by decide) ?_
  refine e_putR C (lo := 109) (w := 108) (a' := 2) (j := 1) (ty := (.array .int)) rfl (by decide) dX6_init_9 rfl uw_X6 tyX6_ok nmX6 (by decide) (wg1 97 rfl rfl) rfl rfl (by decide +kernel) (fun _ => ⟨rfl, rfl⟩) hin9 rfl rfl (by decide) rfl ?_
  refine e_aload_n C 0 dX6_init_12 rfl rfl ?_
  refine e_bipush C dX6_init_13 rfl ?_
  refine e_newI C (lo := 109) (c := 1) dX6_init_15 ac_I rfl (by decide) (fun j => congrFun (hz 110 (by decide)) j) ⟨by decide, by decide⟩ (by decide) (by rw [hR9]; exact ⟨by decide, by decide⟩) (by decide) ?_
  refine e_putR C (lo := 109) (w := 108) (a' := 3) (j := 2) (ty := (.array .int)) rfl (by decide) dX6_init_17 rfl uw_X6 tyX6_ok nmX6 (by decide) (wg1 99 rfl rfl) rfl rfl (by decide +kernel) (fun _ => ⟨rfl, rfl⟩) hin9 rfl rfl (by decide) rfl ?_
  refine e_aload_n C 0 dX6_init_20 rfl rfl ?_
  refine e_bipush C dX6_init_21 rfl ?_
  refine e_newI C (lo := 109) (c := 2) dX6_init_23 ac_I rfl (by decide) (fun j => congrFun (hz 111 (by decide)) j) ⟨by decide, by decide⟩ (by decide) (by rw [hR9]; exact ⟨by decide, by decide⟩) (by decide) ?_
  refine e_putR C (lo := 109) (w := 108) (a' := 4) (j := 3) (ty := (.array .int)) rfl (by decide) dX6_init_25 rfl uw_X6 tyX6_ok nmX6 (by decide) (wg1 101 rfl rfl) rfl rfl (by decide +kernel) (fun _ => ⟨rfl, rfl⟩) hin9 rfl rfl (by decide) rfl ?_
  refine e_aload_n C 0 dX6_init_28 rfl rfl ?_
  refine e_bipush C dX6_init_29 rfl ?_
  refine e_newI C (lo := 109) (c := 3) dX6_init_31 ac_I rfl (by decide) (fun j => congrFun (hz 112 (by decide)) j) ⟨by decide, by decide⟩ (by decide) (by rw [hR9]; exact ⟨by decide, by decide⟩) (by decide) ?_
  refine e_putR C (lo := 109) (w := 108) (a' := 5) (j := 4) (ty := (.array .int)) rfl (by decide) dX6_init_33 rfl uw_X6 tyX6_ok nmX6 (by decide) (wg1 103 rfl rfl) rfl rfl (by decide +kernel) (fun _ => ⟨rfl, rfl⟩) hin9 rfl rfl (by decide) rfl ?_
  refine e_aload_n C 0 dX6_init_36 rfl rfl ?_
  refine e_bipush C dX6_init_37 rfl ?_
  refine e_newI C (lo := 109) (c := 4) dX6_init_39 ac_I rfl (by decide) (fun j => congrFun (hz 113 (by decide)) j) ⟨by decide, by decide⟩ (by decide) (by rw [hR9]; exact ⟨by decide, by decide⟩) (by decide) ?_
  refine e_putR C (lo := 109) (w := 108) (a' := 6) (j := 5) (ty := (.array .int)) rfl (by decide) dX6_init_41 rfl uw_X6 tyX6_ok nmX6 (by decide) (wg1 105 rfl rfl) rfl rfl (by decide +kernel) (fun _ => ⟨rfl, rfl⟩) hin9 rfl rfl (by decide) rfl ?_
  refine e_aload_n C 0 dX6_init_44 rfl rfl ?_
  refine e_bipush C dX6_init_45 rfl ?_
  refine e_newI C (lo := 109) (c := 5) dX6_init_47 ac_I rfl (by decide) (fun j => congrFun (hz 114 (by decide)) j) ⟨by decide, by decide⟩ (by decide) (by rw [hR9]; exact ⟨by decide, by decide⟩) (by decide) ?_
  refine e_putR C (lo := 109) (w := 108) (a' := 7) (j := 6) (ty := (.array .int)) rfl (by decide) dX6_init_49 rfl uw_X6 tyX6_ok nmX6 (by decide) (wg1 108 rfl rfl) rfl rfl (by decide +kernel) (fun _ => ⟨rfl, rfl⟩) hin9 rfl rfl (by decide) rfl ?_
  refine e_aload_n C 0 dX6_init_52 rfl rfl ?_
  refine e_bipush C dX6_init_53 rfl ?_
  refine e_newI C (lo := 109) (c := 6) dX6_init_55 ac_I rfl (by decide) (fun j => congrFun (hz 115 (by decide)) j) ⟨by decide, by decide⟩ (by decide) (by rw [hR9]; exact ⟨by decide, by decide⟩) (by decide) ?_
  refine e_putR C (lo := 109) (w := 108) (a' := 8) (j := 7) (ty := (.array .int)) rfl (by decide) dX6_init_57 rfl uw_X6 tyX6_ok nmX6 (by decide) (wg1 111 rfl rfl) rfl rfl (by decide +kernel) (fun _ => ⟨rfl, rfl⟩) hin9 rfl rfl (by decide) rfl ?_
  refine e_aload_n C 0 dX6_init_60 rfl rfl ?_
  refine e_bipush C dX6_init_61 rfl ?_
  refine e_newI C (lo := 109) (c := 7) dX6_init_63 ac_I rfl (by decide) (fun j => congrFun (hz 116 (by decide)) j) ⟨by decide, by decide⟩ (by decide) (by rw [hR9]; exact ⟨by decide, by decide⟩) (by decide) ?_
  refine e_putR C (lo := 109) (w := 108) (a' := 9) (j := 8) (ty := (.array .int)) rfl (by decide) dX6_init_65 rfl uw_X6 tyX6_ok nmX6 (by decide) (wg1 113 rfl rfl) rfl rfl (by decide +kernel) (fun _ => ⟨rfl, rfl⟩) hin9 rfl rfl (by decide) rfl ?_
  refine e_aload_n C 0 dX6_init_68 rfl rfl ?_
  refine e_bipush C dX6_init_69 rfl ?_
  refine e_newI C (lo := 109) (c := 8) dX6_init_71 ac_I rfl (by decide) (fun j => congrFun (hz 117 (by decide)) j) ⟨by decide, by decide⟩ (by decide) (by rw [hR9]; exact ⟨by decide, by decide⟩) (by decide) ?_
  refine e_putR C (lo := 109) (w := 108) (a' := 10) (j := 9) (ty := (.array .int)) rfl (by decide) dX6_init_73 rfl uw_X6 tyX6_ok nmX6 (by decide) (wg1 114 rfl rfl) rfl rfl (by decide +kernel) (fun _ => ⟨rfl, rfl⟩) hin9 rfl rfl (by decide) rfl ?_
  refine e_aload_n C 0 dX6_init_76 rfl rfl ?_
  refine e_bipush C dX6_init_77 rfl ?_
  refine e_newI C (lo := 109) (c := 9) dX6_init_79 ac_I rfl (by decide) (fun j => congrFun (hz 118 (by decide)) j) ⟨by decide, by decide⟩ (by decide) (by rw [hR9]; exact ⟨by decide, by decide⟩) (by decide) ?_
  refine e_putR C (lo := 109) (w := 108) (a' := 11) (j := 10) (ty := (.array .int)) rfl (by decide) dX6_init_81 rfl uw_X6 tyX6_ok nmX6 (by decide) (wg1 115 rfl rfl) rfl rfl (by decide +kernel) (fun _ => ⟨rfl, rfl⟩) hin9 rfl rfl (by decide) rfl ?_
  refine e_aload_n C 0 dX6_init_84 rfl rfl ?_
  refine e_bipush C dX6_init_85 rfl ?_
  refine e_newI C (lo := 109) (c := 10) dX6_init_87 ac_I rfl (by decide) (fun j => congrFun (hz 119 (by decide)) j) ⟨by decide, by decide⟩ (by decide) (by rw [hR9]; exact ⟨by decide, by decide⟩) (by decide) ?_
  refine e_putR C (lo := 109) (w := 108) (a' := 12) (j := 11) (ty := (.array .int)) rfl (by decide) dX6_init_89 rfl uw_X6 tyX6_ok nmX6 (by decide) (wg1 116 rfl rfl) rfl rfl (by decide +kernel) (fun _ => ⟨rfl, rfl⟩) hin9 rfl rfl (by decide) rfl ?_
  refine e_aload_n C 0 dX6_init_92 rfl rfl ?_
  refine e_bipush C dX6_init_93 rfl ?_
  refine e_newI C (lo := 109) (c := 11) dX6_init_95 ac_I rfl (by decide) (fun j => congrFun (hz 120 (by decide)) j) ⟨by decide, by decide⟩ (by decide) (by rw [hR9]; exact ⟨by decide, by decide⟩) (by decide) ?_
  refine e_putR C (lo := 109) (w := 108) (a' := 13) (j := 12) (ty := (.array .int)) rfl (by decide) dX6_init_97 rfl uw_X6 tyX6_ok nmX6 (by decide) (wg1 118 rfl rfl) rfl rfl (by decide +kernel) (fun _ => ⟨rfl, rfl⟩) hin9 rfl rfl (by decide) rfl ?_
  exact e_ret C dX6_init_100 hret rfl rfl rfl (by decide) (by decide)
theorem k_X6_145 {G : G9} {l : Launch} {B : Nat} (hB : ∀ k, G.1 k = B + k) (m : Nat) (d : D9) (hz : ∀ k, 145 ≤ k → d k = zr) : ME G l yX6_init cX6_init 1 1 20 12 810 145 13 m d d := by
  refine me_of (own := RX6) (by decide) rfl (by decide) hB (fun X hl hR9 C hin9 hret => ?_)
  refine e_aload_n C 0 dX6_init_0 rfl rfl ?_
  refine e_objinit C dX6_init_1 ⟨(wg1 92 rfl rfl), (wg1 34 rfl rfl), (wg1 35 rfl rfl)⟩ (by rw [hR9]; exact ⟨by decide, Nat.le_of_ble_eq_true rfl⟩) ?_
  refine e_aload_n C 0 dX6_init_4 rfl rfl ?_
  refine e_bipush C dX6_init_5 rfl ?_
  refine e_newI C (lo := 146) (c := 0) dX6_init_7 ac_I rfl (by decide) (fun j => congrFun (hz 146 (by decide)) j) ⟨by decide, by decide⟩ (by decide) (by rw [hR9]; exact ⟨by decide, by decide⟩) (by decide) ?_
  refine e_putR C (lo := 146) (w := 145) (a' := 2) (j := 1) (ty := (.array .int)) rfl (by decide) dX6_init_9 rfl uw_X6 tyX6_ok nmX6 (by decide) (wg1 97 rfl rfl) rfl rfl (by decide +kernel) (fun _ => ⟨rfl, rfl⟩) hin9 rfl rfl (by decide) rfl ?_
  refine e_aload_n C 0 dX6_init_12 rfl rfl ?_
  refine e_bipush C dX6_init_13 rfl ?_
  refine e_newI C (lo := 146) (c := 1) dX6_init_15 ac_I rfl (by decide) (fun j => congrFun (hz 147 (by decide)) j) ⟨by decide, by decide⟩ (by decide) (by rw [hR9]; exact ⟨by decide, by decide⟩) (by decide) ?_
  refine e_putR C (lo := 146) (w := 145) (a' := 3) (j := 2) (ty := (.array .int)) rfl (by decide) dX6_init_17 rfl uw_X6 tyX6_ok nmX6 (by decide) (wg1 99 rfl rfl) rfl rfl (by decide +kernel) (fun _ => ⟨rfl, rfl⟩) hin9 rfl rfl (by decide) rfl ?_
  refine e_aload_n C 0 dX6_init_20 rfl rfl ?_
  refine e_bipush C dX6_init_21 rfl ?_
  refine e_newI C (lo := 146) (c := 2) dX6_init_23 ac_I rfl (by decide) (fun j => congrFun (hz 148 (by decide)) j) ⟨by decide, by decide⟩ (by decide) (by rw [hR9]; exact ⟨by decide, by decide⟩) (by decide) ?_
  refine e_putR C (lo := 146) (w := 145) (a' := 4) (j := 3) (ty := (.array .int)) rfl (by decide) dX6_init_25 rfl uw_X6 tyX6_ok nmX6 (by decide) (wg1 101 rfl rfl) rfl rfl (by decide +kernel) (fun _ => ⟨rfl, rfl⟩) hin9 rfl rfl (by decide) rfl ?_
  refine e_aload_n C 0 dX6_init_28 rfl rfl ?_
  refine e_bipush C dX6_init_29 rfl ?_
  refine e_newI C (lo := 146) (c := 3) dX6_init_31 ac_I rfl (by decide) (fun j => congrFun (hz 149 (by decide)) j) ⟨by decide, by decide⟩ (by decide) (by rw [hR9]; exact ⟨by decide, by decide⟩) (by decide) ?_
  refine e_putR C (lo := 146) (w := 145) (a' := 5) (j := 4) (ty := (.array .int)) rfl (by decide) dX6_init_33 rfl uw_X6 tyX6_ok nmX6 (by decide) (wg1 103 rfl rfl) rfl rfl (by decide +kernel) (fun _ => ⟨rfl, rfl⟩) hin9 rfl rfl (by decide) rfl ?_
  refine e_aload_n C 0 dX6_init_36 rfl rfl ?_
  refine e_bipush C dX6_init_37 rfl ?_
  refine e_newI C (lo := 146) (c := 4) dX6_init_39 ac_I rfl (by decide) (fun j => congrFun (hz 150 (by decide)) j) ⟨by decide, by decide⟩ (by decide) (by rw [hR9]; exact ⟨by decide, by decide⟩) (by decide) ?_
  refine e_putR C (lo := 146) (w := 145) (a' := 6) (j := 5) (ty := (.array .int)) rfl (by decide) dX6_init_41 rfl uw_X6 tyX6_ok nmX6 (by decide) (wg1 105 rfl rfl) rfl rfl (by decide +kernel) (fun _ => ⟨rfl, rfl⟩) hin9 rfl rfl (by decide) rfl ?_
  refine e_aload_n C 0 dX6_init_44 rfl rfl ?_
  refine e_bipush C dX6_init_45 rfl ?_
  refine e_newI C (lo := 146) (c := 5) dX6_init_47 ac_I rfl (by decide) (fun j => congrFun (hz 151 (by decide)) j) ⟨by decide, by decide⟩ (by decide) (by rw [hR9]; exact ⟨by decide, by decide⟩) (by decide) ?_
  refine e_putR C (lo := 146) (w := 145) (a' := 7) (j := 6) (ty := (.array .int)) rfl (by decide) dX6_init_49 rfl uw_X6 tyX6_ok nmX6 (by decide) (wg1 108 rfl rfl) rfl rfl (by decide +kernel) (fun _ => ⟨rfl, rfl⟩) hin9 rfl rfl (by decide) rfl ?_
  refine e_aload_n C 0 dX6_init_52 rfl rfl ?_
  refine e_bipush C dX6_init_53 rfl ?_
  refine e_newI C (lo := 146) (c := 6) dX6_init_55 ac_I rfl (by decide) (fun j => congrFun (hz 152 (by decide)) j) ⟨by decide, by decide⟩ (by decide) (by rw [hR9]; exact ⟨by decide, by decide⟩) (by decide) ?_
  refine e_putR C (lo := 146) (w := 145) (a' := 8) (j := 7) (ty := (.array .int)) rfl (by decide) dX6_init_57 rfl uw_X6 tyX6_ok nmX6 (by decide) (wg1 111 rfl rfl) rfl rfl (by decide +kernel) (fun _ => ⟨rfl, rfl⟩) hin9 rfl rfl (by decide) rfl ?_
  refine e_aload_n C 0 dX6_init_60 rfl rfl ?_
  refine e_bipush C dX6_init_61 rfl ?_
  refine e_newI C (lo := 146) (c := 7) dX6_init_63 ac_I rfl (by decide) (fun j => congrFun (hz 153 (by decide)) j) ⟨by decide, by decide⟩ (by decide) (by rw [hR9]; exact ⟨by decide, by decide⟩) (by decide) ?_
  refine e_putR C (lo := 146) (w := 145) (a' := 9) (j := 8) (ty := (.array .int)) rfl (by decide) dX6_init_65 rfl uw_X6 tyX6_ok nmX6 (by decide) (wg1 113 rfl rfl) rfl rfl (by decide +kernel) (fun _ => ⟨rfl, rfl⟩) hin9 rfl rfl (by decide) rfl ?_
  refine e_aload_n C 0 dX6_init_68 rfl rfl ?_
  refine e_bipush C dX6_init_69 rfl ?_
  refine e_newI C (lo := 146) (c := 8) dX6_init_71 ac_I rfl (by decide) (fun j => congrFun (hz 154 (by decide)) j) ⟨by decide, by decide⟩ (by decide) (by rw [hR9]; exact ⟨by decide, by decide⟩) (by decide) ?_
  refine e_putR C (lo := 146) (w := 145) (a' := 10) (j := 9) (ty := (.array .int)) rfl (by decide) dX6_init_73 rfl uw_X6 tyX6_ok nmX6 (by decide) (wg1 114 rfl rfl) rfl rfl (by decide +kernel) (fun _ => ⟨rfl, rfl⟩) hin9 rfl rfl (by decide) rfl ?_
  refine e_aload_n C 0 dX6_init_76 rfl rfl ?_
  refine e_bipush C dX6_init_77 rfl ?_
  refine e_newI C (lo := 146) (c := 9) dX6_init_79 ac_I rfl (by decide) (fun j => congrFun (hz 155 (by decide)) j) ⟨by decide, by decide⟩ (by decide) (by rw [hR9]; exact ⟨by decide, by decide⟩) (by decide) ?_
  refine e_putR C (lo := 146) (w := 145) (a' := 11) (j := 10) (ty := (.array .int)) rfl (by decide) dX6_init_81 rfl uw_X6 tyX6_ok nmX6 (by decide) (wg1 115 rfl rfl) rfl rfl (by decide +kernel) (fun _ => ⟨rfl, rfl⟩) hin9 rfl rfl (by decide) rfl ?_
  refine e_aload_n C 0 dX6_init_84 rfl rfl ?_
  refine e_bipush C dX6_init_85 rfl ?_
  refine e_newI C (lo := 146) (c := 10) dX6_init_87 ac_I rfl (by decide) (fun j => congrFun (hz 156 (by decide)) j) ⟨by decide, by decide⟩ (by decide) (by rw [hR9]; exact ⟨by decide, by decide⟩) (by decide) ?_
  refine e_putR C (lo := 146) (w := 145) (a' := 12) (j := 11) (ty := (.array .int)) rfl (by decide) dX6_init_89 rfl uw_X6 tyX6_ok nmX6 (by decide) (wg1 116 rfl rfl) rfl rfl (by decide +kernel) (fun _ => ⟨rfl, rfl⟩) hin9 rfl rfl (by decide) rfl ?_
  refine e_aload_n C 0 dX6_init_92 rfl rfl ?_
  refine e_bipush C dX6_init_93 rfl ?_
  refine e_newI C (lo := 146) (c := 11) dX6_init_95 ac_I rfl (by decide) (fun j => congrFun (hz 157 (by decide)) j) ⟨by decide, by decide⟩ (by decide) (by rw [hR9]; exact ⟨by decide, by decide⟩) (by decide) ?_
  refine e_putR C (lo := 146) (w := 145) (a' := 13) (j := 12) (ty := (.array .int)) rfl (by decide) dX6_init_97 rfl uw_X6 tyX6_ok nmX6 (by decide) (wg1 118 rfl rfl) rfl rfl (by decide +kernel) (fun _ => ⟨rfl, rfl⟩) hin9 rfl rfl (by decide) rfl ?_
  exact e_ret C dX6_init_100 hret rfl rfl rfl (by decide) (by decide)
theorem dX7_init_0 : decode cX7_init 0 = .ok (.aload_n 0, 1) := by decide +kernel
theorem dX7_init_1 : decode cX7_init 1 = .ok (.invokespecial 3, 3) := by decide +kernel
theorem dX7_init_4 : decode cX7_init 4 = .ok (.aload_n 0, 1) := by decide +kernel
theorem dX7_init_5 : decode cX7_init 5 = .ok (.bipush 12, 2) := by decide +kernel
theorem dX7_init_7 : decode cX7_init 7 = .ok (.newarray .int, 2) := by decide +kernel
theorem dX7_init_9 : decode cX7_init 9 = .ok (.putfield 9, 3) := by decide +kernel
theorem dX7_init_12 : decode cX7_init 12 = .ok (.aload_n 0, 1) := by decide +kernel
theorem dX7_init_13 : decode cX7_init 13 = .ok (.bipush 12, 2) := by decide +kernel
theorem dX7_init_15 : decode cX7_init 15 = .ok (.newarray .int, 2) := by decide +kernel
theorem dX7_init_17 : decode cX7_init 17 = .ok (.putfield 15, 3) := by decide +kernel
theorem dX7_init_20 : decode cX7_init 20 = .ok (.aload_n 0, 1) := by decide +kernel
theorem dX7_init_21 : decode cX7_init 21 = .ok (.bipush 12, 2) := by decide +kernel
theorem dX7_init_23 : decode cX7_init 23 = .ok (.newarray .int, 2) := by decide +kernel
theorem dX7_init_25 : decode cX7_init 25 = .ok (.putfield 18, 3) := by decide +kernel
theorem dX7_init_28 : decode cX7_init 28 = .ok (.aload_n 0, 1) := by decide +kernel
theorem dX7_init_29 : decode cX7_init 29 = .ok (.bipush 12, 2) := by decide +kernel
theorem dX7_init_31 : decode cX7_init 31 = .ok (.newarray .int, 2) := by decide +kernel
theorem dX7_init_33 : decode cX7_init 33 = .ok (.putfield 21, 3) := by decide +kernel
theorem dX7_init_36 : decode cX7_init 36 = .ok (.return_, 1) := by decide +kernel
theorem k_X7_23 {G : G9} {l : Launch} {B : Nat} (hB : ∀ k, G.1 k = B + k) (m : Nat) (d : D9) (hz : ∀ k, 23 ≤ k → d k = zr) : ME G l yX7_init cX7_init 1 1 20 4 48 23 5 m d d := by
  refine me_of (own := RX7) (by decide) rfl (by decide) hB (fun X hl hR9 C hin9 hret => ?_)
  refine e_aload_n C 0 dX7_init_0 rfl rfl ?_
  refine e_objinit C dX7_init_1 ⟨(wg1 197 rfl rfl), (wg1 34 rfl rfl), (wg1 35 rfl rfl)⟩ (by rw [hR9]; exact ⟨by decide, Nat.le_of_ble_eq_true rfl⟩) ?_
  refine e_aload_n C 0 dX7_init_4 rfl rfl ?_
  refine e_bipush C dX7_init_5 rfl ?_
  refine e_newI C (lo := 24) (c := 0) dX7_init_7 ac_I rfl (by decide) (fun j => congrFun (hz 24 (by decide)) j) ⟨by decide, by decide⟩ (by decide) (by rw [hR9]; exact ⟨by decide, by decide⟩) (by decide) ?_
  refine e_putR C (lo := 24) (w := 23) (a' := 2) (j := 1) (ty := (.array .int)) rfl (by decide) dX7_init_9 rfl uw_X7 tyX7_ok nmX7 (by decide) (wg1 200 rfl rfl) rfl rfl (by decide +kernel) (fun _ => ⟨rfl, rfl⟩) hin9 rfl rfl (by decide) rfl ?_
  refine e_aload_n C 0 dX7_init_12 rfl rfl ?_
  refine e_bipush C dX7_init_13 rfl ?_
  refine e_newI C (lo := 24) (c := 1) dX7_init_15 ac_I rfl (by decide) (fun j => congrFun (hz 25 (by decide)) j) ⟨by decide, by decide⟩ (by decide) (by rw [hR9]; exact ⟨by decide, by decide⟩) (by decide) ?_
  refine e_putR C (lo := 24) (w := 23) (a' := 3) (j := 2) (ty := (.array .int)) rfl (by decide) dX7_init_17 rfl uw_X7 tyX7_ok nmX7 (by decide) (wg1 201 rfl rfl) rfl rfl (by decide +kernel) (fun _ => ⟨rfl, rfl⟩) hin9 rfl rfl (by decide) rfl ?_
  refine e_aload_n C 0 dX7_init_20 rfl rfl ?_
  refine e_bipush C dX7_init_21 rfl ?_
  refine e_newI C (lo := 24) (c := 2) dX7_init_23 ac_I rfl (by decide) (fun j => congrFun (hz 26 (by decide)) j) ⟨by decide, by decide⟩ (by decide) (by rw [hR9]; exact ⟨by decide, by decide⟩) (by decide) ?_
  refine e_putR C (lo := 24) (w := 23) (a' := 4) (j := 3) (ty := (.array .int)) rfl (by decide) dX7_init_25 rfl uw_X7 tyX7_ok nmX7 (by decide) (wg1 202 rfl rfl) rfl rfl (by decide +kernel) (fun _ => ⟨rfl, rfl⟩) hin9 rfl rfl (by decide) rfl ?_
  refine e_aload_n C 0 dX7_init_28 rfl rfl ?_
  refine e_bipush C dX7_init_29 rfl ?_
  refine e_newI C (lo := 24) (c := 3) dX7_init_31 ac_I rfl (by decide) (fun j => congrFun (hz 27 (by decide)) j) ⟨by decide, by decide⟩ (by decide) (by rw [hR9]; exact ⟨by decide, by decide⟩) (by decide) ?_
  refine e_putR C (lo := 24) (w := 23) (a' := 5) (j := 4) (ty := (.array .int)) rfl (by decide) dX7_init_33 rfl uw_X7 tyX7_ok nmX7 (by decide) (wg1 203 rfl rfl) rfl rfl (by decide +kernel) (fun _ => ⟨rfl, rfl⟩) hin9 rfl rfl (by decide) rfl ?_
  exact e_ret C dX7_init_36 hret rfl rfl rfl (by decide) (by decide)
theorem k_X7_41 {G : G9} {l : Launch} {B : Nat} (hB : ∀ k, G.1 k = B + k) (m : Nat) (d : D9) (hz : ∀ k, 41 ≤ k → d k = zr) : ME G l yX7_init cX7_init 1 1 20 4 48 41 5 m d d := by
  refine me_of (own := RX7) (by decide) rfl (by decide) hB (fun X hl hR9 C hin9 hret => ?_)
  refine e_aload_n C 0 dX7_init_0 rfl rfl ?_
  refine e_objinit C dX7_init_1 ⟨(wg1 197 rfl rfl), (wg1 34 rfl rfl), (wg1 35 rfl rfl)⟩ (by rw [hR9]; exact ⟨by decide, Nat.le_of_ble_eq_true rfl⟩) ?_
  refine e_aload_n C 0 dX7_init_4 rfl rfl ?_
  refine e_bipush C dX7_init_5 rfl ?_
  refine e_newI C (lo := 42) (c := 0) dX7_init_7 ac_I rfl (by decide) (fun j => congrFun (hz 42 (by decide)) j) ⟨by decide, by decide⟩ (by decide) (by rw [hR9]; exact ⟨by decide, by decide⟩) (by decide) ?_
  refine e_putR C (lo := 42) (w := 41) (a' := 2) (j := 1) (ty := (.array .int)) rfl (by decide) dX7_init_9 rfl uw_X7 tyX7_ok nmX7 (by decide) (wg1 200 rfl rfl) rfl rfl (by decide +kernel) (fun _ => ⟨rfl, rfl⟩) hin9 rfl rfl (by decide) rfl ?_
  refine e_aload_n C 0 dX7_init_12 rfl rfl ?_
  refine e_bipush C dX7_init_13 rfl ?_
  refine e_newI C (lo := 42) (c := 1) dX7_init_15 ac_I rfl (by decide) (fun j => congrFun (hz 43 (by decide)) j) ⟨by decide, by decide⟩ (by decide) (by rw [hR9]; exact ⟨by decide, by decide⟩) (by decide) ?_
  refine e_putR C (lo := 42) (w := 41) (a' := 3) (j := 2) (ty := (.array .int)) rfl (by decide) dX7_init_17 rfl uw_X7 tyX7_ok nmX7 (by decide) (wg1 201 rfl rfl) rfl rfl (by decide +kernel) (fun _ => ⟨rfl, rfl⟩) hin9 rfl rfl (by decide) rfl ?_
  refine e_aload_n C 0 dX7_init_20 rfl rfl ?_
  refine e_bipush C dX7_init_21 rfl ?_
  refine e_newI C (lo := 42) (c := 2) dX7_init_23 ac_I rfl (by decide) (fun j => congrFun (hz 44 (by decide)) j) ⟨by decide, by decide⟩ (by decide) (by rw [hR9]; exact ⟨by decide, by decide⟩) (by decide) ?_
  refine e_putR C (lo := 42) (w := 41) (a' := 4) (j := 3) (ty := (.array .int)) rfl (by decide) dX7_init_25 rfl uw_X7 tyX7_ok nmX7 (by decide) (wg1 202 rfl rfl) rfl rfl (by decide +kernel) (fun _ => ⟨rfl, rfl⟩) hin9 rfl rfl (by decide) rfl ?_
  refine e_aload_n C 0 dX7_init_28 rfl rfl ?_
  refine e_bipush C dX7_init_29 rfl ?_
  refine e_newI C (lo := 42) (c := 3) dX7_init_31 ac_I rfl (by decide) (fun j => congrFun (hz 45 (by decide)) j) ⟨by decide, by decide⟩ (by decide) (by rw [hR9]; exact ⟨by decide, by decide⟩) (by decide) ?_
  refine e_putR C (lo := 42) (w := 41) (a' := 5) (j := 4) (ty := (.array .int)) rfl (by decide) dX7_init_33 rfl uw_X7 tyX7_ok nmX7 (by decide) (wg1 203 rfl rfl) rfl rfl (by decide +kernel) (fun _ => ⟨rfl, rfl⟩) hin9 rfl rfl (by decide) rfl ?_
  exact e_ret C dX7_init_36 hret rfl rfl rfl (by decide) (by decide)
theorem k_X7_85 {G : G9} {l : Launch} {B : Nat} (hB : ∀ k, G.1 k = B + k) (m : Nat) (d : D9) (hz : ∀ k, 85 ≤ k → d k = zr) : ME G l yX7_init cX7_init 1 1 20 4 48 85 5 m d d := by
  refine me_of (own := RX7) (by decide) rfl (by decide) hB (fun X hl hR9 C hin9 hret => ?_)
  refine e_aload_n C 0 dX7_init_0 rfl rfl ?_
  refine e_objinit C dX7_init_1 ⟨(wg1 197 rfl rfl), (wg1 34 rfl rfl), (wg1 35 rfl rfl)⟩ (by rw [hR9]; exact ⟨by decide, Nat.le_of_ble_eq_true rfl⟩) ?_
  refine e_aload_n C 0 dX7_init_4 rfl rfl ?_
  refine e_bipush C dX7_init_5 rfl ?_
  refine e_newI C (lo := 86) (c := 0) dX7_init_7 ac_I rfl (by decide) (fun j => congrFun (hz 86 (by decide)) j) ⟨by decide, by decide⟩ (by decide) (by rw [hR9]; exact ⟨by decide, by decide⟩) (by decide) ?_
  refine e_putR C (lo := 86) (w := 85) (a' := 2) (j := 1) (ty := (.array .int)) rfl (by decide) dX7_init_9 rfl uw_X7 tyX7_ok nmX7 (by decide) (wg1 200 rfl rfl) rfl rfl (by decide +kernel) (fun _ => ⟨rfl, rfl⟩) hin9 rfl rfl (by decide) rfl ?_
  refine e_aload_n C 0 dX7_init_12 rfl rfl ?_
  refine e_bipush C dX7_init_13 rfl ?_
  refine e_newI C (lo := 86) (c := 1) dX7_init_15 ac_I rfl (by decide) (fun j => congrFun (hz 87 (by decide)) j) ⟨by decide, by decide⟩ (by decide) (by rw [hR9]; exact ⟨by decide, by decide⟩) (by decide) ?_
  refine e_putR C (lo := 86) (w := 85) (a' := 3) (j := 2) (ty := (.array .int)) rfl (by decide) dX7_init_17 rfl uw_X7 tyX7_ok nmX7 (by decide) (wg1 201 rfl rfl) rfl rfl (by decide +kernel) (fun _ => ⟨rfl, rfl⟩) hin9 rfl rfl (by decide) rfl ?_
  refine e_aload_n C 0 dX7_init_20 rfl rfl ?_
  refine e_bipush C dX7_init_21 rfl ?_
  refine e_newI C (lo := 86) (c := 2) dX7_init_23 ac_I rfl (by decide) (fun j => congrFun (hz 88 (by decide)) j) ⟨by decide, by decide⟩ (by decide) (by rw [hR9]; exact ⟨by decide, by decide⟩) (by decide) ?_
  refine e_putR C (lo := 86) (w := 85) (a' := 4) (j := 3) (ty := (.array .int)) rfl (by decide) dX7_init_25 rfl uw_X7 tyX7_ok nmX7 (by decide) (wg1 202 rfl rfl) rfl rfl (by decide +kernel) (fun _ => ⟨rfl, rfl⟩) hin9 rfl rfl (by decide) rfl ?_
  refine e_aload_n C 0 dX7_init_28 rfl rfl ?_
  refine e_bipush C dX7_init_29 rfl ?_
  refine e_newI C (lo := 86) (c := 3) dX7_init_31 ac_I rfl (by decide) (fun j => congrFun (hz 89 (by decide)) j) ⟨by decide, by decide⟩ (by decide) (by rw [hR9]; exact ⟨by decide, by decide⟩) (by decide) ?_
  refine e_putR C (lo := 86) (w := 85) (a' := 5) (j := 4) (ty := (.array .int)) rfl (by decide) dX7_init_33 rfl uw_X7 tyX7_ok nmX7 (by decide) (wg1 203 rfl rfl) rfl rfl (by decide +kernel) (fun _ => ⟨rfl, rfl⟩) hin9 rfl rfl (by decide) rfl ?_
  exact e_ret C dX7_init_36 hret rfl rfl rfl (by decide) (by decide)
theorem k_X7_122 {G : G9} {l : Launch} {B : Nat} (hB : ∀ k, G.1 k = B + k) (m : Nat) (d : D9) (hz : ∀ k, 122 ≤ k → d k = zr) : ME G l yX7_init cX7_init 1 1 20 4 48 122 5 m d d := by
  refine me_of (own := RX7) (by decide) rfl (by decide) hB (fun X hl hR9 C hin9 hret => ?_)
  refine e_aload_n C 0 dX7_init_0 rfl rfl ?_
  refine e_objinit C dX7_init_1 ⟨(wg1 197 rfl rfl), (wg1 34 rfl rfl), (wg1 35 rfl rfl)⟩ (by rw [hR9]; exact ⟨by decide, Nat.le_of_ble_eq_true rfl⟩) ?_
  refine e_aload_n C 0 dX7_init_4 rfl rfl ?_
  refine e_bipush C dX7_init_5 rfl ?_
  refine e_newI C (lo := 123) (c := 0) dX7_init_7 ac_I rfl (by decide) (fun j => congrFun (hz 123 (by decide)) j) ⟨by decide, by decide⟩ (by decide) (by rw [hR9]; exact ⟨by decide, by decide⟩) (by decide) ?_
  refine e_putR C (lo := 123) (w := 122) (a' := 2) (j := 1) (ty := (.array .int)) rfl (by decide) dX7_init_9 rfl uw_X7 tyX7_ok nmX7 (by decide) (wg1 200 rfl rfl) rfl rfl (by decide +kernel) (fun _ => ⟨rfl, rfl⟩) hin9 rfl rfl (by decide) rfl ?_
  refine e_aload_n C 0 dX7_init_12 rfl rfl ?_
  refine e_bipush C dX7_init_13 rfl ?_
  refine e_newI C (lo := 123) (c := 1) dX7_init_15 ac_I rfl (by decide) (fun j => congrFun (hz 124 (by decide)) j) ⟨by decide, by decide⟩ (by decide) (by rw [hR9]; exact ⟨by decide, by decide⟩) (by decide) ?_
  refine e_putR C (lo := 123) (w := 122) (a' := 3) (j := 2) (ty := (.array .int)) rfl (by decide) dX7_init_17 rfl uw_X7 tyX7_ok nmX7 (by decide) (wg1 201 rfl rfl) rfl rfl (by decide +kernel) (fun _ => ⟨rfl, rfl⟩) hin9 rfl rfl (by decide) rfl ?_
  refine e_aload_n C 0 dX7_init_20 rfl rfl ?_
  refine e_bipush C dX7_init_21 rfl ?_
  refine e_newI C (lo := 123) (c := 2) dX7_init_23 ac_I rfl (by decide) (fun j => congrFun (hz 125 (by decide)) j) ⟨by decide, by decide⟩ (by decide) (by rw [hR9]; exact ⟨by decide, by decide⟩) (by decide) ?_
  refine e_putR C (lo := 123) (w := 122) (a' := 4) (j := 3) (ty := (.array .int)) rfl (by decide) dX7_init_25 rfl uw_X7 tyX7_ok nmX7 (by decide) (wg1 202 rfl rfl) rfl rfl (by decide +kernel) (fun _ => ⟨rfl, rfl⟩) hin9 rfl rfl (by decide) rfl ?_
  refine e_aload_n C 0 dX7_init_28 rfl rfl ?_
  refine e_bipush C dX7_init_29 rfl ?_
  refine e_newI C (lo := 123) (c := 3) dX7_init_31 ac_I rfl (by decide) (fun j => congrFun (hz 126 (by decide)) j) ⟨by decide, by decide⟩ (by decide) (by rw [hR9]; exact ⟨by decide, by decide⟩) (by decide) ?_
  refine e_putR C (lo := 123) (w := 122) (a' := 5) (j := 4) (ty := (.array .int)) rfl (by decide) dX7_init_33 rfl uw_X7 tyX7_ok nmX7 (by decide) (wg1 203 rfl rfl) rfl rfl (by decide +kernel) (fun _ => ⟨rfl, rfl⟩) hin9 rfl rfl (by decide) rfl ?_
  exact e_ret C dX7_init_36 hret rfl rfl rfl (by decide) (by decide)
theorem k_X7_159 {G : G9} {l : Launch} {B : Nat} (hB : ∀ k, G.1 k = B + k) (m : Nat) (d : D9) (hz : ∀ k, 159 ≤ k → d k = zr) : ME G l yX7_init cX7_init 1 1 20 4 48 159 5 m d d := by
  refine me_of (own := RX7) (by decide) rfl (by decide) hB (fun X hl hR9 C hin9 hret => ?_)
  refine e_aload_n C 0 dX7_init_0 rfl rfl ?_
  refine e_objinit C dX7_init_1 ⟨(wg1 197 rfl rfl), (wg1 34 rfl rfl), (wg1 35 rfl rfl)⟩ (by rw [hR9]; exact ⟨by decide, Nat.le_of_ble_eq_true rfl⟩) ?_
  refine e_aload_n C 0 dX7_init_4 rfl rfl ?_
  refine e_bipush C dX7_init_5 rfl ?_
  refine e_newI C (lo := 160) (c := 0) dX7_init_7 ac_I rfl (by decide) (fun j => congrFun (hz 160 (by decide)) j) ⟨by decide, by decide⟩ (by decide) (by rw [hR9]; exact ⟨by decide, by decide⟩) (by decide) ?_
  refine e_putR C (lo := 160) (w := 159) (a' := 2) (j := 1) (ty := (.array .int)) rfl (by decide) dX7_init_9 rfl uw_X7 tyX7_ok nmX7 (by decide) (wg1 200 rfl rfl) rfl rfl (by decide +kernel) (fun _ => ⟨rfl, rfl⟩) hin9 rfl rfl (by decide) rfl ?_
  refine e_aload_n C 0 dX7_init_12 rfl rfl ?_
  refine e_bipush C dX7_init_13 rfl ?_
  refine e_newI C (lo := 160) (c := 1) dX7_init_15 ac_I rfl (by decide) (fun j => congrFun (hz 161 (by decide)) j) ⟨by decide, by decide⟩ (by decide) (by rw [hR9]; exact ⟨by decide, by decide⟩) (by decide) ?_
  refine e_putR C (lo := 160) (w := 159) (a' := 3) (j := 2) (ty := (.array .int)) rfl (by decide) dX7_init_17 rfl uw_X7 tyX7_ok nmX7 (by decide) (wg1 201 rfl rfl) rfl rfl (by decide +kernel) (fun _ => ⟨rfl, rfl⟩) hin9 rfl rfl (by decide) rfl ?_
  refine e_aload_n C 0 dX7_init_20 rfl rfl ?_
  refine e_bipush C dX7_init_21 rfl ?_
  refine e_newI C (lo := 160) (c := 2) dX7_init_23 ac_I rfl (by decide) (fun j => congrFun (hz 162 (by decide)) j) ⟨by decide, by decide⟩ (by decide) (by rw [hR9]; exact ⟨by decide, by decide⟩) (by decide) ?_
  refine e_putR C (lo := 160) (w := 159) (a' := 4) (j := 3) (ty := (.array .int)) rfl (by decide) dX7_init_25 rfl uw_X7 tyX7_ok nmX7 (by decide) (wg1 202 rfl rfl) rfl rfl (by decide +kernel) (fun _ => ⟨rfl, rfl⟩) hin9 rfl rfl (by decide) rfl ?_
  refine e_aload_n C 0 dX7_init_28 rfl rfl ?_
  refine e_bipush C dX7_init_29 rfl ?_
  refine e_newI C (lo := 160) (c := 3) dX7_init_31 ac_I rfl (by decide) (fun j => congrFun (hz 163 (by decide)) j) ⟨by decide, by decide⟩ (by decide) (by rw [hR9]; exact ⟨by decide, by decide⟩) (by decide) ?_
  refine e_putR C (lo := 160) (w := 159) (a' := 5) (j := 4) (ty := (.array .int)) rfl (by decide) dX7_init_33 rfl uw_X7 tyX7_ok nmX7 (by decide) (wg1 203 rfl rfl) rfl rfl (by decide +kernel) (fun _ => ⟨rfl, rfl⟩) hin9 rfl rfl (by decide) rfl ?_
  exact e_ret C dX7_init_36 hret rfl rfl rfl (by decide) (by decide)
theorem dX8_init_0 : decode cX8_init 0 = .ok (.aload_n 0, 1) := by decide +kernel
theorem dX8_init_1 : decode cX8_init 1 = .ok (.invokespecial 3, 3) := by decide +kernel
theorem dX8_init_4 : decode cX8_init 4 = .ok (.aload_n 0, 1) := by decide +kernel
theorem dX8_init_5 : decode cX8_init 5 = .ok (.sipush 400, 3) := by decide +kernel
theorem dX8_init_8 : decode cX8_init 8 = .ok (.newarray .char, 2) := by decide +kernel
theorem dX8_init_10 : decode cX8_init 10 = .ok (.putfield 9, 3) := by decide +kernel
theorem dX8_init_13 : decode cX8_init 13 = .ok (.aload_n 0, 1) := by decide +kernel
theorem dX8_init_14 : decode cX8_init 14 = .ok (.iconst (-1), 1) := by decide +kernel
theorem dX8_init_15 : decode cX8_init 15 = .ok (.putfield 15, 3) := by decide +kernel
theorem dX8_init_18 : decode cX8_init 18 = .ok (.return_, 1) := by decide +kernel
def fx_X8 (w : Nat) (d : D9) : D9 := (up d (w + 0) 3 (-1))
theorem fx_X8_out {w : Nat} {d : D9} {k : Nat} (h : k < w ∨ w + 2 ≤ k) : fx_X8 w d k = d k := by
  unfold fx_X8
  rw [up_k (by omega)]
theorem k_X8_51 {G : G9} {l : Launch} {B : Nat} (hB : ∀ k, G.1 k = B + k) (m : Nat) (d : D9) (hz : ∀ k, 51 ≤ k → d k = zr) : ME G l yX8_init cX8_init 1 1 20 1 400 51 2 m d (fx_X8 51 d) := by
  refine me_of (own := RX8) (by decide) rfl (by decide) hB (fun X hl hR9 C hin9 hret => ?_)
  refine e_aload_n C 0 dX8_init_0 rfl rfl ?_
  refine e_objinit C dX8_init_1 ⟨(wg2 78 rfl rfl), (wg1 34 rfl rfl), (wg1 35 rfl rfl)⟩ (by rw [hR9]; exact ⟨by decide, Nat.le_of_ble_eq_true rfl⟩) ?_
  refine e_aload_n C 0 dX8_init_4 rfl rfl ?_
  refine e_sipush C dX8_init_5 rfl ?_
  refine e_newC C (lo := 52) (c := 0) dX8_init_8 ac_C rfl (by decide) (fun j => congrFun (hz 52 (by decide)) j) ⟨by decide, by decide⟩ (by decide) (by rw [hR9]; exact ⟨by decide, by decide⟩) (by decide) ?_
  refine e_putR C (lo := 52) (w := 51) (a' := 1) (j := 0) (ty := (.array .char)) rfl (by decide) dX8_init_10 rfl uw_X8 tyX8_ok nmX8 (by decide) (wg2 79 rfl rfl) rfl rfl (by decide +kernel) (fun _ => ⟨rfl, rfl⟩) hin9 rfl rfl (by decide) rfl ?_
  refine e_aload_n C 0 dX8_init_13 rfl rfl ?_
  refine e_iconst C dX8_init_14 ?_
  refine e_putI C (lo := 52) (w := 51) rfl (by decide) dX8_init_15 fp_X8_15 rfl rfl (by decide) rfl ?_
  exact e_ret C dX8_init_18 hret rfl rfl rfl (by decide) (by decide)
theorem dX9_init_0 : decode cX9_init 0 = .ok (.aload_n 0, 1) := by decide +kernel
theorem dX9_init_1 : decode cX9_init 1 = .ok (.invokespecial 3, 3) := by decide +kernel
theorem dX9_init_4 : decode cX9_init 4 = .ok (.aload_n 0, 1) := by decide +kernel
theorem dX9_init_5 : decode cX9_init 5 = .ok (.iconst 4, 1) := by decide +kernel
theorem dX9_init_6 : decode cX9_init 6 = .ok (.newarray .int, 2) := by decide +kernel
theorem dX9_init_8 : decode cX9_init 8 = .ok (.putfield 11, 3) := by decide +kernel
theorem dX9_init_11 : decode cX9_init 11 = .ok (.aload_n 0, 1) := by decide +kernel
theorem dX9_init_12 : decode cX9_init 12 = .ok (.iconst 4, 1) := by decide +kernel
theorem dX9_init_13 : decode cX9_init 13 = .ok (.newarray .int, 2) := by decide +kernel
theorem dX9_init_15 : decode cX9_init 15 = .ok (.dup, 1) := by decide +kernel
theorem dX9_init_16 : decode cX9_init 16 = .ok (.iconst 0, 1) := by decide +kernel
theorem dX9_init_17 : decode cX9_init 17 = .ok (.iconst (-1), 1) := by decide +kernel
theorem dX9_init_18 : decode cX9_init 18 = .ok (.iastore, 1) := by decide +kernel
theorem dX9_init_19 : decode cX9_init 19 = .ok (.dup, 1) := by decide +kernel
theorem dX9_init_20 : decode cX9_init 20 = .ok (.iconst 1, 1) := by decide +kernel
theorem dX9_init_21 : decode cX9_init 21 = .ok (.iconst (-1), 1) := by decide +kernel
theorem dX9_init_22 : decode cX9_init 22 = .ok (.iastore, 1) := by decide +kernel
theorem dX9_init_23 : decode cX9_init 23 = .ok (.dup, 1) := by decide +kernel
theorem dX9_init_24 : decode cX9_init 24 = .ok (.iconst 2, 1) := by decide +kernel
theorem dX9_init_25 : decode cX9_init 25 = .ok (.iconst (-1), 1) := by decide +kernel
theorem dX9_init_26 : decode cX9_init 26 = .ok (.iastore, 1) := by decide +kernel
theorem dX9_init_27 : decode cX9_init 27 = .ok (.dup, 1) := by decide +kernel
theorem dX9_init_28 : decode cX9_init 28 = .ok (.iconst 3, 1) := by decide +kernel
theorem dX9_init_29 : decode cX9_init 29 = .ok (.iconst (-1), 1) := by decide +kernel
theorem dX9_init_30 : decode cX9_init 30 = .ok (.iastore, 1) := by decide +kernel
theorem dX9_init_31 : decode cX9_init 31 = .ok (.putfield 15, 3) := by decide +kernel
theorem dX9_init_34 : decode cX9_init 34 = .ok (.aload_n 0, 1) := by decide +kernel
theorem dX9_init_35 : decode cX9_init 35 = .ok (.sipush 160, 3) := by decide +kernel
theorem dX9_init_38 : decode cX9_init 38 = .ok (.newarray .long, 2) := by decide +kernel
theorem dX9_init_40 : decode cX9_init 40 = .ok (.putfield 18, 3) := by decide +kernel
theorem dX9_init_43 : decode cX9_init 43 = .ok (.return_, 1) := by decide +kernel
def fx_X9 (w : Nat) (d : D9) : D9 := (up (up (up (up d (w + 2) 0 (-1)) (w + 2) 1 (-1)) (w + 2) 2 (-1)) (w + 2) 3 (-1))
theorem fx_X9_out {w : Nat} {d : D9} {k : Nat} (h : k < w ∨ w + 4 ≤ k) : fx_X9 w d k = d k := by
  unfold fx_X9
  rw [up_k (by omega), up_k (by omega), up_k (by omega), up_k (by omega)]
theorem k_X9_54 {G : G9} {l : Launch} {B : Nat} (hB : ∀ k, G.1 k = B + k) (m : Nat) (d : D9) (hz : ∀ k, 54 ≤ k → d k = zr) : ME G l yX9_init cX9_init 1 1 20 3 168 54 4 m d (fx_X9 54 d) := by
  refine me_of (own := RX9) (by decide) rfl (by decide) hB (fun X hl hR9 C hin9 hret => ?_)
  refine e_aload_n C 0 dX9_init_0 rfl rfl ?_
  refine e_objinit C dX9_init_1 ⟨(wg2 132 rfl rfl), (wg1 34 rfl rfl), (wg1 35 rfl rfl)⟩ (by rw [hR9]; exact ⟨by decide, Nat.le_of_ble_eq_true rfl⟩) ?_
  refine e_aload_n C 0 dX9_init_4 rfl rfl ?_
  refine e_iconst C dX9_init_5 ?_
  refine e_newI C (lo := 55) (c := 0) dX9_init_6 ac_I rfl (by decide) (fun j => congrFun (hz 55 (by decide)) j) ⟨by decide, by decide⟩ (by decide) (by rw [hR9]; exact ⟨by decide, by decide⟩) (by decide) ?_
  refine e_putR C (lo := 55) (w := 54) (a' := 1) (j := 0) (ty := (.array .int)) rfl (by decide) dX9_init_8 rfl uw_X9 tyX9_ok nmX9 (by decide) (wg2 133 rfl rfl) rfl rfl (by decide +kernel) (fun _ => ⟨rfl, rfl⟩) hin9 rfl rfl (by decide) rfl ?_
  refine e_aload_n C 0 dX9_init_11 rfl rfl ?_
  refine e_iconst C dX9_init_12 ?_
  refine e_newI C (lo := 55) (c := 1) dX9_init_13 ac_I rfl (by decide) (fun j => congrFun (hz 56 (by decide)) j) ⟨by decide, by decide⟩ (by decide) (by rw [hR9]; exact ⟨by decide, by decide⟩) (by decide) ?_
  refine e_dup C dX9_init_15 rfl ?_
  refine e_iconst C dX9_init_16 ?_
  refine e_iconst C dX9_init_17 ?_
  refine e_iast C (lo := 55) (i := 1) (w := 54) rfl (by decide) (by decide) dX9_init_18 rfl (by decide) (by decide) ?_
  show SE G X _ _ 1 2 8 19 [(0, rf G 54)] [rf G 56, rf G 54] (up d 56 0 (-1)) _ _ _ _
  refine e_dup C dX9_init_19 rfl ?_
  refine e_iconst C dX9_init_20 ?_
  refine e_iconst C dX9_init_21 ?_
  refine e_iast C (lo := 55) (i := 1) (w := 54) rfl (by decide) (by decide) dX9_init_22 rfl (by decide) (by decide) ?_
  show SE G X _ _ 1 2 8 23 [(0, rf G 54)] [rf G 56, rf G 54] (up (up d 56 0 (-1)) 56 1 (-1)) _ _ _ _
  refine e_dup C dX9_init_23 rfl ?_
  refine e_iconst C dX9_init_24 ?_
  refine e_iconst C dX9_init_25 ?_
  refine e_iast C (lo := 55) (i := 1) (w := 54) rfl (by decide) (by decide) dX9_init_26 rfl (by decide) (by decide) ?_
  show SE G X _ _ 1 2 8 27 [(0, rf G 54)] [rf G 56, rf G 54] (up (up (up d 56 0 (-1)) 56 1 (-1)) 56 2 (-1)) _ _ _ _
  refine e_dup C dX9_init_27 rfl ?_
  refine e_iconst C dX9_init_28 ?_
  refine e_iconst C dX9_init_29 ?_
  refine e_iast C (lo := 55) (i := 1) (w := 54) rfl (by decide) (by decide) dX9_init_30 rfl (by decide) (by decide) ?_
  show SE G X _ _ 1 2 8 31 [(0, rf G 54)] [rf G 56, rf G 54] (up (up (up (up d 56 0 (-1)) 56 1 (-1)) 56 2 (-1)) 56 3 (-1)) _ _ _ _
  refine e_putR C (lo := 55) (w := 54) (a' := 2) (j := 1) (ty := (.array .int)) rfl (by decide) dX9_init_31 rfl uw_X9 tyX9_ok nmX9 (by decide) (wg2 134 rfl rfl) rfl rfl (by decide +kernel) (fun _ => ⟨rfl, rfl⟩) hin9 rfl rfl (by decide) rfl ?_
  refine e_aload_n C 0 dX9_init_34 rfl rfl ?_
  refine e_sipush C dX9_init_35 rfl ?_
  refine e_newJ C (lo := 55) (c := 2) dX9_init_38 ac_J rfl (by decide) (fun j => congrFun ((up_k (by decide)).trans ((up_k (by decide)).trans ((up_k (by decide)).trans ((up_k (by decide)).trans (hz 57 (by decide)))))) j) ⟨by decide, by decide⟩ (by decide) (by rw [hR9]; exact ⟨by decide, by decide⟩) (by decide) ?_
  refine e_putR C (lo := 55) (w := 54) (a' := 3) (j := 2) (ty := (.array .long)) rfl (by decide) dX9_init_40 rfl uw_X9 tyX9_ok nmX9 (by decide) (wg2 136 rfl rfl) rfl rfl (by decide +kernel) (fun _ => ⟨rfl, rfl⟩) hin9 rfl rfl (by decide) rfl ?_
  exact e_ret C dX9_init_43 hret rfl rfl rfl (by decide) (by decide)

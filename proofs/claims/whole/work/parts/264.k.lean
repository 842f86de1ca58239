theorem dX2_init_0 : decode cX2_init 0 = .ok (.aload_n 0, 1) := by decide +kernel
theorem dX2_init_1 : decode cX2_init 1 = .ok (.invokespecial 3, 3) := by decide +kernel
theorem dX2_init_4 : decode cX2_init 4 = .ok (.aload_n 0, 1) := by decide +kernel
theorem dX2_init_5 : decode cX2_init 5 = .ok (.invokevirtual 9, 3) := by decide +kernel
theorem dX2_init_8 : decode cX2_init 8 = .ok (.return_, 1) := by decide +kernel
def fx_X2 (w : Nat) (d : D9) : D9 := (up (up (up (up (up (up (up (up d (w + 0) 0 0) (w + 0) 1 10) (w + 0) 2 20) (w + 0) 3 60) (w + 0) 4 50) (w + 0) 5 5) (w + 0) 6 10) (w + 0) 7 6)
theorem fx_X2_out {w : Nat} {d : D9} {k : Nat} (h : k < w ∨ w + 1 ≤ k) : fx_X2 w d k = d k := by
  unfold fx_X2
  rw [up_k (by omega), up_k (by omega), up_k (by omega), up_k (by omega), up_k (by omega), up_k (by omega), up_k (by omega), up_k (by omega)]
theorem kv_X2_reset_22 {G : G9} {l : Launch} {B : Nat} (hB : ∀ k, G.1 k = B + k) (m : Nat) (d : D9) : MV G l yX2_reset cX2_reset 1 0 0 22 0 0 m d (up (up (up (up (up (up (up (up d 22 0 0) 22 1 10) 22 2 20) 22 3 60) 22 4 50) 22 5 5) 22 6 10) 22 7 6) := by
  refine mv_of (own := RX2) (by decide) rfl (by decide) hB (fun X hl hR9 C hret => ?_)
  refine e_aload_n C 0 dX2_reset_0 rfl rfl ?_
  refine e_iconst C dX2_reset_1 ?_
  refine e_putI C (lo := 23) (w := 22) rfl (by decide) dX2_reset_2 fp_X2_14 rfl rfl (by decide) rfl ?_
  refine e_aload_n C 0 dX2_reset_5 rfl rfl ?_
  refine e_bipush C dX2_reset_6 rfl ?_
  refine e_putI C (lo := 23) (w := 22) rfl (by decide) dX2_reset_8 fp_X2_18 rfl rfl (by decide) rfl ?_
  refine e_aload_n C 0 dX2_reset_11 rfl rfl ?_
  refine e_bipush C dX2_reset_12 rfl ?_
  refine e_putI C (lo := 23) (w := 22) rfl (by decide) dX2_reset_14 fp_X2_21 rfl rfl (by decide) rfl ?_
  refine e_aload_n C 0 dX2_reset_17 rfl rfl ?_
  refine e_bipush C dX2_reset_18 rfl ?_
  refine e_putI C (lo := 23) (w := 22) rfl (by decide) dX2_reset_20 fp_X2_24 rfl rfl (by decide) rfl ?_
  refine e_aload_n C 0 dX2_reset_23 rfl rfl ?_
  refine e_bipush C dX2_reset_24 rfl ?_
  refine e_putI C (lo := 23) (w := 22) rfl (by decide) dX2_reset_26 fp_X2_27 rfl rfl (by decide) rfl ?_
  refine e_aload_n C 0 dX2_reset_29 rfl rfl ?_
  refine e_iconst C dX2_reset_30 ?_
  refine e_putI C (lo := 23) (w := 22) rfl (by decide) dX2_reset_31 fp_X2_30 rfl rfl (by decide) rfl ?_
  refine e_aload_n C 0 dX2_reset_34 rfl rfl ?_
  refine e_bipush C dX2_reset_35 rfl ?_
  refine e_putI C (lo := 23) (w := 22) rfl (by decide) dX2_reset_37 fp_X2_33 rfl rfl (by decide) rfl ?_
  refine e_aload_n C 0 dX2_reset_40 rfl rfl ?_
  refine e_bipush C dX2_reset_41 rfl ?_
  refine e_putI C (lo := 23) (w := 22) rfl (by decide) dX2_reset_43 fp_X2_36 rfl rfl (by decide) rfl ?_
  exact e_vret C dX2_reset_46 hret rfl
theorem k_X2_22 {G : G9} {l : Launch} {B : Nat} (hB : ∀ k, G.1 k = B + k) (m : Nat) (d : D9) (hz : ∀ k, 22 ≤ k → d k = zr) : ME G l yX2_init cX2_init 1 1 20 0 0 22 1 m d (fx_X2 22 d) := by
  refine me_of (own := RX2) (by decide) rfl (by decide) hB (fun X hl hR9 C hin9 hret => ?_)
  refine e_aload_n C 0 dX2_init_0 rfl rfl ?_
  refine e_objinit C dX2_init_1 ⟨(wg1 152 rfl rfl), (wg1 34 rfl rfl), (wg1 35 rfl rfl)⟩ (by rw [hR9]; exact ⟨by decide, Nat.le_of_ble_eq_true rfl⟩) ?_
  refine e_aload_n C 0 dX2_init_4 rfl rfl ?_
  refine e_callV C (lo := 23) (w := 22) rfl (by decide) (kv_X2_reset_22 hB m d) dX2_init_5 mw_X2_9 mv_X2_reset rfl rfl (by rw [hR9]; exact ⟨by decide, by decide, by decide, by decide⟩) (Nat.le_of_ble_eq_true rfl) ?_
  show SE G X _ _ 1 0 0 8 [(0, rf G 22)] [] (up (up (up (up (up (up (up (up d 22 0 0) 22 1 10) 22 2 20) 22 3 60) 22 4 50) 22 5 5) 22 6 10) 22 7 6) _ _ _ _
  exact e_ret C dX2_init_8 hret rfl rfl rfl (by decide) (by decide)
theorem kv_X2_reset_40 {G : G9} {l : Launch} {B : Nat} (hB : ∀ k, G.1 k = B + k) (m : Nat) (d : D9) : MV G l yX2_reset cX2_reset 1 0 0 40 0 0 m d (up (up (up (up (up (up (up (up d 40 0 0) 40 1 10) 40 2 20) 40 3 60) 40 4 50) 40 5 5) 40 6 10) 40 7 6) := by
  refine mv_of (own := RX2) (by decide) rfl (by decide) hB (fun X hl hR9 C hret => ?_)
  refine e_aload_n C 0 dX2_reset_0 rfl rfl ?_
  refine e_iconst C dX2_reset_1 ?_
  refine e_putI C (lo := 41) (w := 40) rfl (by decide) dX2_reset_2 fp_X2_14 rfl rfl (by decide) rfl ?_
  refine e_aload_n C 0 dX2_reset_5 rfl rfl ?_
  refine e_bipush C dX2_reset_6 rfl ?_
  refine e_putI C (lo := 41) (w := 40) rfl (by decide) dX2_reset_8 fp_X2_18 rfl rfl (by decide) rfl ?_
  refine e_aload_n C 0 dX2_reset_11 rfl rfl ?_
  refine e_bipush C dX2_reset_12 rfl ?_
  refine e_putI C (lo := 41) (w := 40) rfl (by decide) dX2_reset_14 fp_X2_21 rfl rfl (by decide) rfl ?_
  refine e_aload_n C 0 dX2_reset_17 rfl rfl ?_
  refine e_bipush C dX2_reset_18 rfl ?_
  refine e_putI C (lo := 41) (w := 40) rfl (by decide) dX2_reset_20 fp_X2_24 rfl rfl (by decide) rfl ?_
  refine e_aload_n C 0 dX2_reset_23 rfl rfl ?_
  refine e_bipush C dX2_reset_24 rfl ?_
  refine e_putI C (lo := 41) (w := 40) rfl (by decide) dX2_reset_26 fp_X2_27 rfl rfl (by decide) rfl ?_
  refine e_aload_n C 0 dX2_reset_29 rfl rfl ?_
  refine e_iconst C dX2_reset_30 ?_
  refine e_putI C (lo := 41) (w := 40) rfl (by decide) dX2_reset_31 fp_X2_30 rfl rfl (by decide) rfl ?_
  refine e_aload_n C 0 dX2_reset_34 rfl rfl ?_
  refine e_bipush C dX2_reset_35 rfl ?_
  refine e_putI C (lo := 41) (w := 40) rfl (by decide) dX2_reset_37 fp_X2_33 rfl rfl (by decide) rfl ?_
  refine e_aload_n C 0 dX2_reset_40 rfl rfl ?_
  refine e_bipush C dX2_reset_41 rfl ?_
  refine e_putI C (lo := 41) (w := 40) rfl (by decide) dX2_reset_43 fp_X2_36 rfl rfl (by decide) rfl ?_
  exact e_vret C dX2_reset_46 hret rfl
theorem k_X2_40 {G : G9} {l : Launch} {B : Nat} (hB : ∀ k, G.1 k = B + k) (m : Nat) (d : D9) (hz : ∀ k, 40 ≤ k → d k = zr) : ME G l yX2_init cX2_init 1 1 20 0 0 40 1 m d (fx_X2 40 d) := by
  refine me_of (own := RX2) (by decide) rfl (by decide) hB (fun X hl hR9 C hin9 hret => ?_)
  refine e_aload_n C 0 dX2_init_0 rfl rfl ?_
  refine e_objinit C dX2_init_1 ⟨(wg1 152 rfl rfl), (wg1 34 rfl rfl), (wg1 35 rfl rfl)⟩ (by rw [hR9]; exact ⟨by decide, Nat.le_of_ble_eq_true rfl⟩) ?_
  refine e_aload_n C 0 dX2_init_4 rfl rfl ?_
  refine e_callV C (lo := 41) (w := 40) rfl (by decide) (kv_X2_reset_40 hB m d) dX2_init_5 mw_X2_9 mv_X2_reset rfl rfl (by rw [hR9]; exact ⟨by decide, by decide, by decide, by decide⟩) (Nat.le_of_ble_eq_true rfl) ?_
  show SE G X _ _ 1 0 0 8 [(0, rf G 40)] [] (up (up (up (up (up (up (up (up d 40 0 0) 40 1 10) 40 2 20) 40 3 60) 40 4 50) 40 5 5) 40 6 10) 40 7 6) _ _ _ _
  exact e_ret C dX2_init_8 hret rfl rfl rfl (by decide) (by decide)
theorem kv_X2_reset_84 {G : G9} {l : Launch} {B : Nat} (hB : ∀ k, G.1 k = B + k) (m : Nat) (d : D9) : MV G l yX2_reset cX2_reset 1 0 0 84 0 0 m d (up (up (up (up (up (up (up (up d 84 0 0) 84 1 10) 84 2 20) 84 3 60) 84 4 50) 84 5 5) 84 6 10) 84 7 6) := by
  refine mv_of (own := RX2) (by decide) rfl (by decide) hB (fun X hl hR9 C hret => ?_)
  refine e_aload_n C 0 dX2_reset_0 rfl rfl ?_
  refine e_iconst C dX2_reset_1 ?_
  refine e_putI C (lo := 85) (w := 84) rfl (by decide) dX2_reset_2 fp_X2_14 rfl rfl (by decide) rfl ?_
  refine e_aload_n C 0 dX2_reset_5 rfl rfl ?_
  refine e_bipush C dX2_reset_6 rfl ?_
  refine e_putI C (lo := 85) (w := 84) rfl (by decide) dX2_reset_8 fp_X2_18 rfl rfl (by decide) rfl ?_
  refine e_aload_n C 0 dX2_reset_11 rfl rfl ?_
  refine e_bipush C dX2_reset_12 rfl ?_
  refine e_putI C (lo := 85) (w := 84) rfl (by decide) dX2_reset_14 fp_X2_21 rfl rfl (by decide) rfl ?_
  refine e_aload_n C 0 dX2_reset_17 rfl rfl ?_
  refine e_bipush C dX2_reset_18 rfl ?_
  refine e_putI C (lo := 85) (w := 84) rfl (by decide) dX2_reset_20 fp_X2_24 rfl rfl (by decide) rfl ?_
  refine e_aload_n C 0 dX2_reset_23 rfl rfl ?_
  refine e_bipush C dX2_reset_24 rfl ?_
  refine e_putI C (lo := 85) (w := 84) rfl (by decide) dX2_reset_26 fp_X2_27 rfl rfl (by decide) rfl ?_
  refine e_aload_n C 0 dX2_reset_29 rfl rfl ?_
  refine e_iconst C dX2_reset_30 ?_
  refine e_putI C (lo := 85) (w := 84) rfl (by decide) dX2_reset_31 fp_X2_30 rfl rfl (by decide) rfl ?_
  refine e_aload_n C 0 dX2_reset_34 rfl rfl ?_
  refine e_bipush C dX2_reset_35 rfl ?_
  refine e_putI C (lo := 85) (w := 84) rfl (by decide) dX2_reset_37 fp_X2_33 rfl rfl (by decide) rfl ?_
  refine e_aload_n C 0 dX2_reset_40 rfl rfl ?_
  refine e_bipush C dX2_reset_41 rfl ?_
  refine e_putI C (lo := 85) (w := 84) rfl (by decide) dX2_reset_43 fp_X2_36 rfl rfl (by decide) rfl ?_
  exact e_vret C dX2_reset_46 hret rfl
theorem k_X2_84 {G : G9} {l : Launch} {B : Nat} (hB : ∀ k, G.1 k = B + k) (m : Nat) (d : D9) (hz : ∀ k, 84 ≤ k → d k = zr) : ME G l yX2_init cX2_init 1 1 20 0 0 84 1 m d (fx_X2 84 d) := by
  refine me_of (own := RX2) (by decide) rfl (by decide) hB (fun X hl hR9 C hin9 hret => ?_)
  refine e_aload_n C 0 dX2_init_0 rfl rfl ?_
  refine e_objinit C dX2_init_1 ⟨(wg1 152 rfl rfl), (wg1 34 rfl rfl), (wg1 35 rfl rfl)⟩ (by rw [hR9]; exact ⟨by decide, Nat.le_of_ble_eq_true rfl⟩) ?_
  refine e_aload_n C 0 dX2_init_4 rfl rfl ?_
  refine e_callV C (lo := 85) (w := 84) rfl (by decide) (kv_X2_reset_84 hB m d) dX2_init_5 mw_X2_9 mv_X2_reset rfl rfl (by rw [hR9]; exact ⟨by decide, by decide, by decide, by decide⟩) (Nat.le_of_ble_eq_true rfl) ?_
  show SE G X _ _ 1 0 0 8 [(0, rf G 84)] [] (up (up (up (up (up (up (up (up d 84 0 0) 84 1 10) 84 2 20) 84 3 60) 84 4 50) 84 5 5) 84 6 10) 84 7 6) _ _ _ _
  exact e_ret C dX2_init_8 hret rfl rfl rfl (by decide) (by decide)
theorem kv_X2_reset_121 {G : G9} {l : Launch} {B : Nat} (hB : ∀ k, G.1 k = B + k) (m : Nat) (d : D9) : MV G l yX2_reset cX2_reset 1 0 0 121 0 0 m d (up (up (up (up (up (up (up (up d 121 0 0) 121 1 10) 121 2 20) 121 3 60) 121 4 50) 121 5 5) 121 6 10) 121 7 6) := by
  refine mv_of (own := RX2) (by decide) rfl (by decide) hB (fun X hl hR9 C hret => ?_)
  refine e_aload_n C 0 dX2_reset_0 rfl rfl ?_
  refine e_iconst C dX2_reset_1 ?_
  refine e_putI C (lo := 122) (w := 121) rfl (by decide) dX2_reset_2 fp_X2_14 rfl rfl (by decide) rfl ?_
  refine e_aload_n C 0 dX2_reset_5 rfl rfl ?_
  refine e_bipush C dX2_reset_6 rfl ?_
  refine e_putI C (lo := 122) (w := 121) rfl (by decide) dX2_reset_8 fp_X2_18 rfl rfl (by decide) rfl ?_
  refine e_aload_n C 0 dX2_reset_11 rfl rfl ?_
  refine e_bipush C dX2_reset_12 rfl ?_
  refine e_putI C (lo := 122) (w := 121) rfl (by decide) dX2_reset_14 fp_X2_21 rfl rfl (by decide) rfl ?_
  refine e_aload_n C 0 dX2_reset_17 rfl rfl ?_
  refine e_bipush C dX2_reset_18 rfl ?_
  refine e_putI C (lo := 122) (w := 121) rfl (by decide) dX2_reset_20 fp_X2_24 rfl rfl (by decide) rfl ?_
  refine e_aload_n C 0 dX2_reset_23 rfl rfl ?_
  refine e_bipush C dX2_reset_24 rfl ?_
  refine e_putI C (lo := 122) (w := 121) rfl (by decide) dX2_reset_26 fp_X2_27 rfl rfl (by decide) rfl ?_
  refine e_aload_n C 0 dX2_reset_29 rfl rfl ?_
  refine e_iconst C dX2_reset_30 ?_
  refine e_putI C (lo := 122) (w := 121) rfl (by decide) dX2_reset_31 fp_X2_30 rfl rfl (by decide) rfl ?_
  refine e_aload_n C 0 dX2_reset_34 rfl rfl ?_
  refine e_bipush C dX2_reset_35 rfl ?_
  refine e_putI C (lo := 122) (w := 121) rfl (by decide) dX2_reset_37 fp_X2_33 rfl rfl (by decide) rfl ?_
  refine e_aload_n C 0 dX2_reset_40 rfl rfl ?_
  refine e_bipush C dX2_reset_41 rfl ?_
  refine e_putI C (lo := 122) (w := 121) rfl (by decide) dX2_reset_43 fp_X2_36 rfl rfl (by decide) rfl ?_
  exact e_vret C dX2_reset_46 hret rfl
theorem k_X2_121 {G : G9} {l : Launch} {B : Nat} (hB : ∀ k, G.1 k = B + k) (m : Nat) (d : D9) (hz : ∀ k, 121 ≤ k → d k = zr) : ME G l yX2_init cX2_init 1 1 20 0 0 121 1 m d (fx_X2 121 d) := by
  refine me_of (own := RX2) (by decide) rfl (by decide) hB (fun X hl hR9 C hin9 hret => ?_)
  refine e_aload_n C 0 dX2_init_0 rfl rfl ?_
  refine e_objinit C dX2_init_1 ⟨(wg1 152 rfl rfl), (wg1 34 rfl rfl), (wg1 35 rfl rfl)⟩ (by rw [hR9]; exact ⟨by decide, Nat.le_of_ble_eq_true rfl⟩) ?_
  refine e_aload_n C 0 dX2_init_4 rfl rfl ?_
  refine e_callV C (lo := 122) (w := 121) rfl (by decide) (kv_X2_reset_121 hB m d) dX2_init_5 mw_X2_9 mv_X2_reset rfl rfl (by rw [hR9]; exact ⟨by decide, by decide, by decide, by decide⟩) (Nat.le_of_ble_eq_true rfl) ?_
  show SE G X _ _ 1 0 0 8 [(0, rf G 121)] [] (up (up (up (up (up (up (up (up d 121 0 0) 121 1 10) 121 2 20) 121 3 60) 121 4 50) 121 5 5) 121 6 10) 121 7 6) _ _ _ _
  exact e_ret C dX2_init_8 hret rfl rfl rfl (by decide) (by decide)
theorem kv_X2_reset_158 {G : G9} {l : Launch} {B : Nat} (hB : ∀ k, G.1 k = B + k) (m : Nat) (d : D9) : MV G l yX2_reset cX2_reset 1 0 0 158 0 0 m d (up (up (up (up (up (up (up (up d 158 0 0) 158 1 10) 158 2 20) 158 3 60) 158 4 50) 158 5 5) 158 6 10) 158 7 6) := by
  refine mv_of (own := RX2) (by decide) rfl (by decide) hB (fun X hl hR9 C hret => ?_)
  refine e_aload_n C 0 dX2_reset_0 rfl rfl ?_
  refine e_iconst C dX2_reset_1 ?_
  refine e_putI C (lo := 159) (w := 158) rfl (by decide) dX2_reset_2 fp_X2_14 rfl rfl (by decide) rfl ?_
  refine e_aload_n C 0 dX2_reset_5 rfl rfl ?_
  refine e_bipush C dX2_reset_6 rfl ?_
  refine e_putI C (lo := 159) (w := 158) rfl (by decide) dX2_reset_8 fp_X2_18 rfl rfl (by decide) rfl ?_
  refine e_aload_n C 0 dX2_reset_11 rfl rfl ?_
  refine e_bipush C dX2_reset_12 rfl ?_
  refine e_putI C (lo := 159) (w := 158) rfl (by decide) dX2_reset_14 fp_X2_21 rfl rfl (by decide) rfl ?_
  refine e_aload_n C 0 dX2_reset_17 rfl rfl ?_
  refine e_bipush C dX2_reset_18 rfl ?_
  refine e_putI C (lo := 159) (w := 158) rfl (by decide) dX2_reset_20 fp_X2_24 rfl rfl (by decide) rfl ?_
  refine e_aload_n C 0 dX2_reset_23 rfl rfl ?_
  refine e_bipush C dX2_reset_24 rfl ?_
  refine e_putI C (lo := 159) (w := 158) rfl (by decide) dX2_reset_26 fp_X2_27 rfl rfl (by decide) rfl ?_
  refine e_aload_n C 0 dX2_reset_29 rfl rfl ?_
  refine e_iconst C dX2_reset_30 ?_
  refine e_putI C (lo := 159) (w := 158) rfl (by decide) dX2_reset_31 fp_X2_30 rfl rfl (by decide) rfl ?_
  refine e_aload_n C 0 dX2_reset_34 rfl rfl ?_
  refine e_bipush C dX2_reset_35 rfl ?_
  refine e_putI C (lo := 159) (w := 158) rfl (by decide) dX2_reset_37 fp_X2_33 rfl rfl (by decide) rfl ?_
  refine e_aload_n C 0 dX2_reset_40 rfl rfl ?_
  refine e_bipush C dX2_reset_41 rfl ?_
  refine e_putI C (lo := 159) (w := 158) rfl (by decide) dX2_reset_43 fp_X2_36 rfl rfl (by decide) rfl ?_
  exact e_vret C dX2_reset_46 hret rfl
theorem k_X2_158 {G : G9} {l : Launch} {B : Nat} (hB : ∀ k, G.1 k = B + k) (m : Nat) (d : D9) (hz : ∀ k, 158 ≤ k → d k = zr) : ME G l yX2_init cX2_init 1 1 20 0 0 158 1 m d (fx_X2 158 d) := by
  refine me_of (own := RX2) (by decide) rfl (by decide) hB (fun X hl hR9 C hin9 hret => ?_)
  refine e_aload_n C 0 dX2_init_0 rfl rfl ?_
  refine e_objinit C dX2_init_1 ⟨(wg1 152 rfl rfl), (wg1 34 rfl rfl), (wg1 35 rfl rfl)⟩ (by rw [hR9]; exact ⟨by decide, Nat.le_of_ble_eq_true rfl⟩) ?_
  refine e_aload_n C 0 dX2_init_4 rfl rfl ?_
  refine e_callV C (lo := 159) (w := 158) rfl (by decide) (kv_X2_reset_158 hB m d) dX2_init_5 mw_X2_9 mv_X2_reset rfl rfl (by rw [hR9]; exact ⟨by decide, by decide, by decide, by decide⟩) (Nat.le_of_ble_eq_true rfl) ?_
  show SE G X _ _ 1 0 0 8 [(0, rf G 158)] [] (up (up (up (up (up (up (up (up d 158 0 0) 158 1 10) 158 2 20) 158 3 60) 158 4 50) 158 5 5) 158 6 10) 158 7 6) _ _ _ _
  exact e_ret C dX2_init_8 hret rfl rfl rfl (by decide) (by decide)

theorem dX10_init_0 : decode cX10_init 0 = .ok (.aload_n 0, 1) := by decide +kernel
theorem dX10_init_1 : decode cX10_init 1 = .ok (.invokespecial 3, 3) := by decide +kernel
theorem dX10_init_4 : decode cX10_init 4 = .ok (.aload_n 0, 1) := by decide +kernel
theorem dX10_init_5 : decode cX10_init 5 = .ok (.new 9, 3) := by decide +kernel
theorem dX10_init_8 : decode cX10_init 8 = .ok (.dup, 1) := by decide +kernel
theorem dX10_init_9 : decode cX10_init 9 = .ok (.invokespecial 11, 3) := by decide +kernel
theorem dX10_init_12 : decode cX10_init 12 = .ok (.putfield 12, 3) := by decide +kernel
theorem dX10_init_15 : decode cX10_init 15 = .ok (.aload_n 0, 1) := by decide +kernel
theorem dX10_init_16 : decode cX10_init 16 = .ok (.new 18, 3) := by decide +kernel
theorem dX10_init_19 : decode cX10_init 19 = .ok (.dup, 1) := by decide +kernel
theorem dX10_init_20 : decode cX10_init 20 = .ok (.invokespecial 20, 3) := by decide +kernel
theorem dX10_init_23 : decode cX10_init 23 = .ok (.putfield 21, 3) := by decide +kernel
theorem dX10_init_26 : decode cX10_init 26 = .ok (.aload_n 0, 1) := by decide +kernel
theorem dX10_init_27 : decode cX10_init 27 = .ok (.new 25, 3) := by decide +kernel
theorem dX10_init_30 : decode cX10_init 30 = .ok (.dup, 1) := by decide +kernel
theorem dX10_init_31 : decode cX10_init 31 = .ok (.invokespecial 27, 3) := by decide +kernel
theorem dX10_init_34 : decode cX10_init 34 = .ok (.putfield 28, 3) := by decide +kernel
theorem dX10_init_37 : decode cX10_init 37 = .ok (.aload_n 0, 1) := by decide +kernel
theorem dX10_init_38 : decode cX10_init 38 = .ok (.new 32, 3) := by decide +kernel
theorem dX10_init_41 : decode cX10_init 41 = .ok (.dup, 1) := by decide +kernel
theorem dX10_init_42 : decode cX10_init 42 = .ok (.invokespecial 34, 3) := by decide +kernel
theorem dX10_init_45 : decode cX10_init 45 = .ok (.putfield 35, 3) := by decide +kernel
theorem dX10_init_48 : decode cX10_init 48 = .ok (.aload_n 0, 1) := by decide +kernel
theorem dX10_init_49 : decode cX10_init 49 = .ok (.new 39, 3) := by decide +kernel
theorem dX10_init_52 : decode cX10_init 52 = .ok (.dup, 1) := by decide +kernel
theorem dX10_init_53 : decode cX10_init 53 = .ok (.invokespecial 41, 3) := by decide +kernel
theorem dX10_init_56 : decode cX10_init 56 = .ok (.putfield 42, 3) := by decide +kernel
theorem dX10_init_59 : decode cX10_init 59 = .ok (.aload_n 0, 1) := by decide +kernel
theorem dX10_init_60 : decode cX10_init 60 = .ok (.new 46, 3) := by decide +kernel
theorem dX10_init_63 : decode cX10_init 63 = .ok (.dup, 1) := by decide +kernel
theorem dX10_init_64 : decode cX10_init 64 = .ok (.invokespecial 48, 3) := by decide +kernel
theorem dX10_init_67 : decode cX10_init 67 = .ok (.putfield 49, 3) := by decide +kernel
theorem dX10_init_70 : decode cX10_init 70 = .ok (.return_, 1) := by decide +kernel
theorem nw_X10_9 : NW RX10 9 3 8 := ⟨RX3, TX3, tyX3, rfl, uw_X3, tyX3_ok, (wg1 42 rfl rfl), (wg1 43 rfl rfl), (wg1 3 rfl rfl), fun j hj => match j, hj with | 0, _ => ⟨rfl, rfl⟩ | 1, _ => ⟨rfl, rfl⟩ | 2, _ => ⟨rfl, rfl⟩ | 3, _ => ⟨rfl, rfl⟩ | 4, _ => ⟨rfl, rfl⟩ | 5, _ => ⟨rfl, rfl⟩ | 6, _ => ⟨rfl, rfl⟩ | 7, _ => ⟨rfl, rfl⟩ | j + 8, h => absurd h (by omega), rfl⟩
theorem nw_X10_18 : NW RX10 18 6 13 := ⟨RX6, TX6, tyX6, rfl, uw_X6, tyX6_ok, (wg1 87 rfl rfl), (wg1 88 rfl rfl), (wg1 4 rfl rfl), fun j hj => match j, hj with | 0, _ => ⟨rfl, rfl⟩ | 1, _ => ⟨rfl, rfl⟩ | 2, _ => ⟨rfl, rfl⟩ | 3, _ => ⟨rfl, rfl⟩ | 4, _ => ⟨rfl, rfl⟩ | 5, _ => ⟨rfl, rfl⟩ | 6, _ => ⟨rfl, rfl⟩ | 7, _ => ⟨rfl, rfl⟩ | 8, _ => ⟨rfl, rfl⟩ | 9, _ => ⟨rfl, rfl⟩ | 10, _ => ⟨rfl, rfl⟩ | 11, _ => ⟨rfl, rfl⟩ | 12, _ => ⟨rfl, rfl⟩ | j + 13, h => absurd h (by omega), rfl⟩
theorem nw_X10_25 : NW RX10 25 2 8 := ⟨RX2, TX2, tyX2, rfl, uw_X2, tyX2_ok, (wg1 147 rfl rfl), (wg1 148 rfl rfl), (wg1 5 rfl rfl), fun j hj => match j, hj with | 0, _ => ⟨rfl, rfl⟩ | 1, _ => ⟨rfl, rfl⟩ | 2, _ => ⟨rfl, rfl⟩ | 3, _ => ⟨rfl, rfl⟩ | 4, _ => ⟨rfl, rfl⟩ | 5, _ => ⟨rfl, rfl⟩ | 6, _ => ⟨rfl, rfl⟩ | 7, _ => ⟨rfl, rfl⟩ | j + 8, h => absurd h (by omega), rfl⟩
theorem nw_X10_32 : NW RX10 32 7 5 := ⟨RX7, TX7, tyX7, rfl, uw_X7, tyX7_ok, (wg1 192 rfl rfl), (wg1 193 rfl rfl), (wg1 6 rfl rfl), fun j hj => match j, hj with | 0, _ => ⟨rfl, rfl⟩ | 1, _ => ⟨rfl, rfl⟩ | 2, _ => ⟨rfl, rfl⟩ | 3, _ => ⟨rfl, rfl⟩ | 4, _ => ⟨rfl, rfl⟩ | j + 5, h => absurd h (by omega), rfl⟩
theorem nw_X10_39 : NW RX10 39 4 6 := ⟨RX4, TX4, tyX4, rfl, uw_X4, tyX4_ok, (wg1 215 rfl rfl), (wg1 216 rfl rfl), (wg1 7 rfl rfl), fun j hj => match j, hj with | 0, _ => ⟨rfl, rfl⟩ | 1, _ => ⟨rfl, rfl⟩ | 2, _ => ⟨rfl, rfl⟩ | 3, _ => ⟨rfl, rfl⟩ | 4, _ => ⟨rfl, rfl⟩ | 5, _ => ⟨rfl, rfl⟩ | j + 6, h => absurd h (by omega), rfl⟩
theorem nw_X10_46 : NW RX10 46 1 5 := ⟨RX1, TX1, tyX1, rfl, uw_X1, tyX1_ok, (wg2 6 rfl rfl), (wg2 7 rfl rfl), (wg1 8 rfl rfl), fun j hj => match j, hj with | 0, _ => ⟨rfl, rfl⟩ | 1, _ => ⟨rfl, rfl⟩ | 2, _ => ⟨rfl, rfl⟩ | 3, _ => ⟨rfl, rfl⟩ | 4, _ => ⟨rfl, rfl⟩ | j + 5, h => absurd h (by omega), rfl⟩
def fx_X10 (w : Nat) (d : D9) : D9 := (fx_X1 (w + 32) (fx_X2 (w + 21) d))
theorem fx_X10_out {w : Nat} {d : D9} {k : Nat} (h : k < w ∨ w + 37 ≤ k) : fx_X10 w d k = d k := by
  unfold fx_X10
  rw [fx_X1_out (by omega), fx_X2_out (by omega)]
theorem k_X10_1 {G : G9} {l : Launch} {B : Nat} (hB : ∀ k, G.1 k = B + k) (m : Nat) (d : D9) (hz : ∀ k, 1 ≤ k → d k = zr) : ME G l yX10_init cX10_init 1 2 40 36 1889 1 37 m d (fx_X10 1 d) := by
  refine me_of (own := RX10) (by decide) rfl (by decide) hB (fun X hl hR9 C hin9 hret => ?_)
  refine e_aload_n C 0 dX10_init_0 rfl rfl ?_
  refine e_objinit C dX10_init_1 ⟨(wg1 41 rfl rfl), (wg1 34 rfl rfl), (wg1 35 rfl rfl)⟩ (by rw [hR9]; exact ⟨by decide, Nat.le_of_ble_eq_true rfl⟩) ?_
  refine e_aload_n C 0 dX10_init_4 rfl rfl ?_
  refine e_subN C (lo := 2) (c := 0) (m := m) (d := d) (k_X3_2 hB m d (fun k hk => hz k (by omega))) dX10_init_5 dX10_init_8 dX10_init_9 nw_X10_9 rfl (fun j => congrFun (hz 2 (by decide)) j) (fun _ _ => rfl) (by decide) (by decide) (by rw [hR9]; exact ⟨by decide, by decide⟩) ⟨by decide, (wg1 46 rfl rfl), (wg1 3 rfl rfl), (wg1 45 rfl rfl)⟩ ⟨rfl, by decide, by decide, by decide +kernel⟩ (by rw [hR9]; exact ⟨by decide, by decide, by decide, by decide⟩) (Nat.le_of_ble_eq_true rfl) ?_
  show SE G X _ _ 1 7 308 12 [(0, rf G 1)] [rf G 2, rf G 1] d _ _ _ _
  refine e_putR C (lo := 2) (w := 1) (a' := 1) (j := 0) (ty := (.object "RedHands$Paints")) rfl (by decide) dX10_init_12 rfl uw_X10 tyX10_ok nmX10 (by decide) (wg2 38 rfl rfl) rfl rfl (by decide +kernel) (fun _ => ⟨rfl, rfl⟩) hin9 rfl rfl (by decide) rfl ?_
  refine e_aload_n C 0 dX10_init_15 rfl rfl ?_
  refine e_subN C (lo := 2) (c := 7) (m := m) (d := d) (k_X6_9 hB m d (fun k hk => hz k (by omega))) dX10_init_16 dX10_init_19 dX10_init_20 nw_X10_18 rfl (fun j => congrFun (hz 9 (by decide)) j) (fun _ _ => rfl) (by decide) (by decide) (by rw [hR9]; exact ⟨by decide, by decide⟩) ⟨by decide, (wg1 91 rfl rfl), (wg1 4 rfl rfl), (wg1 90 rfl rfl)⟩ ⟨rfl, by decide, by decide, by decide +kernel⟩ (by rw [hR9]; exact ⟨by decide, by decide, by decide, by decide⟩) (Nat.le_of_ble_eq_true rfl) ?_
  show SE G X _ _ 1 20 1131 23 [(0, rf G 1)] [rf G 9, rf G 1] d _ _ _ _
  refine e_putR C (lo := 2) (w := 1) (a' := 2) (j := 1) (ty := (.object "RedHands$Skins")) rfl (by decide) dX10_init_23 rfl uw_X10 tyX10_ok nmX10 (by decide) (wg2 41 rfl rfl) rfl rfl (by decide +kernel) (fun _ => ⟨rfl, rfl⟩) hin9 rfl rfl (by decide) rfl ?_
  refine e_aload_n C 0 dX10_init_26 rfl rfl ?_
  refine e_subP C (lo := 2) (c := 20) (m := m) (d := d) (k_X2_22 hB m d (fun k hk => hz k (by omega))) dX10_init_27 dX10_init_30 dX10_init_31 nw_X10_25 rfl (fun j => congrFun (hz 22 (by decide)) j) (fun k hk => fx_X2_out (Or.inl hk)) (by decide) (by decide) (by rw [hR9]; exact ⟨by decide, by decide⟩) ⟨(wg1 149 rfl rfl), (wg1 151 rfl rfl), (wg1 5 rfl rfl), (wg1 150 rfl rfl)⟩ ⟨rfl, by decide, by decide, by decide +kernel⟩ (by rw [hR9]; exact ⟨by decide, by decide, by decide, by decide⟩) (Nat.le_of_ble_eq_true rfl) ?_
  show SE G X _ _ 1 21 1139 34 [(0, rf G 1)] [rf G 22, rf G 1] (fx_X2 22 d) _ _ _ _
  refine e_putR C (lo := 2) (w := 1) (a' := 3) (j := 2) (ty := (.object "RedHands$Law")) rfl (by decide) dX10_init_34 rfl uw_X10 tyX10_ok nmX10 (by decide) (wg2 44 rfl rfl) rfl rfl (by decide +kernel) (fun _ => ⟨rfl, rfl⟩) hin9 rfl rfl (by decide) rfl ?_
  refine e_aload_n C 0 dX10_init_37 rfl rfl ?_
  refine e_subN C (lo := 2) (c := 21) (m := m) (d := (fx_X2 22 d)) (k_X7_23 hB m (fx_X2 22 d) (fun k hk => (fx_X2_out (Or.inr (by omega))).trans (hz k (by omega)))) dX10_init_38 dX10_init_41 dX10_init_42 nw_X10_32 rfl (fun j => congrFun ((fx_X2_out (Or.inr (by decide))).trans (hz 23 (by decide))) j) (fun _ _ => rfl) (by decide) (by decide) (by rw [hR9]; exact ⟨by decide, by decide⟩) ⟨by decide, (wg1 196 rfl rfl), (wg1 6 rfl rfl), (wg1 195 rfl rfl)⟩ ⟨rfl, by decide, by decide, by decide +kernel⟩ (by rw [hR9]; exact ⟨by decide, by decide, by decide, by decide⟩) (Nat.le_of_ble_eq_true rfl) ?_
  show SE G X _ _ 1 26 1192 45 [(0, rf G 1)] [rf G 23, rf G 1] (fx_X2 22 d) _ _ _ _
  refine e_putR C (lo := 2) (w := 1) (a' := 4) (j := 3) (ty := (.object "RedHands$Stories")) rfl (by decide) dX10_init_45 rfl uw_X10 tyX10_ok nmX10 (by decide) (wg2 46 rfl rfl) rfl rfl (by decide +kernel) (fun _ => ⟨rfl, rfl⟩) hin9 rfl rfl (by decide) rfl ?_
  refine e_aload_n C 0 dX10_init_48 rfl rfl ?_
  refine e_subN C (lo := 2) (c := 26) (m := m) (d := (fx_X2 22 d)) (k_X4_28 hB m (fx_X2 22 d) (fun k hk => (fx_X2_out (Or.inr (by omega))).trans (hz k (by omega)))) dX10_init_49 dX10_init_52 dX10_init_53 nw_X10_39 rfl (fun j => congrFun ((fx_X2_out (Or.inr (by decide))).trans (hz 28 (by decide))) j) (fun _ _ => rfl) (by decide) (by decide) (by rw [hR9]; exact ⟨by decide, by decide⟩) ⟨by decide, (wg1 219 rfl rfl), (wg1 7 rfl rfl), (wg1 218 rfl rfl)⟩ ⟨rfl, by decide, by decide, by decide +kernel⟩ (by rw [hR9]; exact ⟨by decide, by decide, by decide, by decide⟩) (Nat.le_of_ble_eq_true rfl) ?_
  show SE G X _ _ 1 31 1634 56 [(0, rf G 1)] [rf G 28, rf G 1] (fx_X2 22 d) _ _ _ _
  refine e_putR C (lo := 2) (w := 1) (a' := 5) (j := 4) (ty := (.object "RedHands$Scrapers")) rfl (by decide) dX10_init_56 rfl uw_X10 tyX10_ok nmX10 (by decide) (wg2 48 rfl rfl) rfl rfl (by decide +kernel) (fun _ => ⟨rfl, rfl⟩) hin9 rfl rfl (by decide) rfl ?_
  refine e_aload_n C 0 dX10_init_59 rfl rfl ?_
  refine e_subN C (lo := 2) (c := 31) (m := m) (d := (fx_X2 22 d)) (k_X1_33 hB m (fx_X2 22 d) (fun k hk => (fx_X2_out (Or.inr (by omega))).trans (hz k (by omega)))) dX10_init_60 dX10_init_63 dX10_init_64 nw_X10_46 rfl (fun j => congrFun ((fx_X2_out (Or.inr (by decide))).trans (hz 33 (by decide))) j) (fun k hk => fx_X1_out (Or.inl hk)) (by decide) (by decide) (by rw [hR9]; exact ⟨by decide, by decide⟩) ⟨by decide, (wg2 10 rfl rfl), (wg1 8 rfl rfl), (wg2 9 rfl rfl)⟩ ⟨rfl, by decide, by decide, by decide +kernel⟩ (by rw [hR9]; exact ⟨by decide, by decide, by decide, by decide⟩) (Nat.le_of_ble_eq_true rfl) ?_
  show SE G X _ _ 1 36 1889 67 [(0, rf G 1)] [rf G 33, rf G 1] (fx_X1 33 (fx_X2 22 d)) _ _ _ _
  refine e_putR C (lo := 2) (w := 1) (a' := 6) (j := 5) (ty := (.object "RedHands$Hands")) rfl (by decide) dX10_init_67 rfl uw_X10 tyX10_ok nmX10 (by decide) (wg2 51 rfl rfl) rfl rfl (by decide +kernel) (fun _ => ⟨rfl, rfl⟩) hin9 rfl rfl (by decide) rfl ?_
  exact e_ret C dX10_init_70 hret rfl rfl rfl (by decide) (by decide)
theorem k_X10_63 {G : G9} {l : Launch} {B : Nat} (hB : ∀ k, G.1 k = B + k) (m : Nat) (d : D9) (hz : ∀ k, 63 ≤ k → d k = zr) : ME G l yX10_init cX10_init 1 2 40 36 1889 63 37 m d (fx_X10 63 d) := by
  refine me_of (own := RX10) (by decide) rfl (by decide) hB (fun X hl hR9 C hin9 hret => ?_)
  refine e_aload_n C 0 dX10_init_0 rfl rfl ?_
  refine e_objinit C dX10_init_1 ⟨(wg1 41 rfl rfl), (wg1 34 rfl rfl), (wg1 35 rfl rfl)⟩ (by rw [hR9]; exact ⟨by decide, Nat.le_of_ble_eq_true rfl⟩) ?_
  refine e_aload_n C 0 dX10_init_4 rfl rfl ?_
  refine e_subN C (lo := 64) (c := 0) (m := m) (d := d) (k_X3_64 hB m d (fun k hk => hz k (by omega))) dX10_init_5 dX10_init_8 dX10_init_9 nw_X10_9 rfl (fun j => congrFun (hz 64 (by decide)) j) (fun _ _ => rfl) (by decide) (by decide) (by rw [hR9]; exact ⟨by decide, by decide⟩) ⟨by decide, (wg1 46 rfl rfl), (wg1 3 rfl rfl), (wg1 45 rfl rfl)⟩ ⟨rfl, by decide, by decide, by decide +kernel⟩ (by rw [hR9]; exact ⟨by decide, by decide, by decide, by decide⟩) (Nat.le_of_ble_eq_true rfl) ?_
  show SE G X _ _ 1 7 308 12 [(0, rf G 63)] [rf G 64, rf G 63] d _ _ _ _
  refine e_putR C (lo := 64) (w := 63) (a' := 1) (j := 0) (ty := (.object "RedHands$Paints")) rfl (by decide) dX10_init_12 rfl uw_X10 tyX10_ok nmX10 (by decide) (wg2 38 rfl rfl) rfl rfl (by decide +kernel) (fun _ => ⟨rfl, rfl⟩) hin9 rfl rfl (by decide) rfl ?_
  refine e_aload_n C 0 dX10_init_15 rfl rfl ?_
  refine e_subN C (lo := 64) (c := 7) (m := m) (d := d) (k_X6_71 hB m d (fun k hk => hz k (by omega))) dX10_init_16 dX10_init_19 dX10_init_20 nw_X10_18 rfl (fun j => congrFun (hz 71 (by decide)) j) (fun _ _ => rfl) (by decide) (by decide) (by rw [hR9]; exact ⟨by decide, by decide⟩) ⟨by decide, (wg1 91 rfl rfl), (wg1 4 rfl rfl), (wg1 90 rfl rfl)⟩ ⟨rfl, by decide, by decide, by decide +kernel⟩ (by rw [hR9]; exact ⟨by decide, by decide, by decide, by decide⟩) (Nat.le_of_ble_eq_true rfl) ?_
  show SE G X _ _ 1 20 1131 23 [(0, rf G 63)] [rf G 71, rf G 63] d _ _ _ _
  refine e_putR C (lo := 64) (w := 63) (a' := 2) (j := 1) (ty := (.object "RedHands$Skins")) rfl (by decide) dX10_init_23 rfl uw_X10 tyX10_ok nmX10 (by decide) (wg2 41 rfl rfl) rfl rfl (by decide +kernel) (fun _ => ⟨rfl, rfl⟩) hin9 rfl rfl (by decide) rfl ?_
  refine e_aload_n C 0 dX10_init_26 rfl rfl ?_
  refine e_subP C (lo := 64) (c := 20) (m := m) (d := d) (k_X2_84 hB m d (fun k hk => hz k (by omega))) dX10_init_27 dX10_init_30 dX10_init_31 nw_X10_25 rfl (fun j => congrFun (hz 84 (by decide)) j) (fun k hk => fx_X2_out (Or.inl hk)) (by decide) (by decide) (by rw [hR9]; exact ⟨by decide, by decide⟩) ⟨(wg1 149 rfl rfl), (wg1 151 rfl rfl), (wg1 5 rfl rfl), (wg1 150 rfl rfl)⟩ ⟨rfl, by decide, by decide, by decide +kernel⟩ (by rw [hR9]; exact ⟨by decide, by decide, by decide, by decide⟩) (Nat.le_of_ble_eq_true rfl) ?_
  show SE G X _ _ 1 21 1139 34 [(0, rf G 63)] [rf G 84, rf G 63] (fx_X2 84 d) _ _ _ _
  refine e_putR C (lo := 64) (w := 63) (a' := 3) (j := 2) (ty := (.object "RedHands$Law")) rfl (by decide) dX10_init_34 rfl uw_X10 tyX10_ok nmX10 (by decide) (wg2 44 rfl rfl) rfl rfl (by decide +kernel) (fun _ => ⟨rfl, rfl⟩) hin9 rfl rfl (by decide) rfl ?_
  refine e_aload_n C 0 dX10_init_37 rfl rfl ?_
  refine e_subN C (lo := 64) (c := 21) (m := m) (d := (fx_X2 84 d)) (k_X7_85 hB m (fx_X2 84 d) (fun k hk => (fx_X2_out (Or.inr (by omega))).trans (hz k (by omega)))) dX10_init_38 dX10_init_41 dX10_init_42 nw_X10_32 rfl (fun j => congrFun ((fx_X2_out (Or.inr (by decide))).trans (hz 85 (by decide))) j) (fun _ _ => rfl) (by decide) (by decide) (by rw [hR9]; exact ⟨by decide, by decide⟩) ⟨by decide, (wg1 196 rfl rfl), (wg1 6 rfl rfl), (wg1 195 rfl rfl)⟩ ⟨rfl, by decide, by decide, by decide +kernel⟩ (by rw [hR9]; exact ⟨by decide, by decide, by decide, by decide⟩) (Nat.le_of_ble_eq_true rfl) ?_
  show SE G X _ _ 1 26 1192 45 [(0, rf G 63)] [rf G 85, rf G 63] (fx_X2 84 d) _ _ _ _
  refine e_putR C (lo := 64) (w := 63) (a' := 4) (j := 3) (ty := (.object "RedHands$Stories")) rfl (by decide) dX10_init_45 rfl uw_X10 tyX10_ok nmX10 (by decide) (wg2 46 rfl rfl) rfl rfl (by decide +kernel) (fun _ => ⟨rfl, rfl⟩) hin9 rfl rfl (by decide) rfl ?_
  refine e_aload_n C 0 dX10_init_48 rfl rfl ?_
  refine e_subN C (lo := 64) (c := 26) (m := m) (d := (fx_X2 84 d)) (k_X4_90 hB m (fx_X2 84 d) (fun k hk => (fx_X2_out (Or.inr (by omega))).trans (hz k (by omega)))) dX10_init_49 dX10_init_52 dX10_init_53 nw_X10_39 rfl (fun j => congrFun ((fx_X2_out (Or.inr (by decide))).trans (hz 90 (by decide))) j) (fun _ _ => rfl) (by decide) (by decide) (by rw [hR9]; exact ⟨by decide, by decide⟩) ⟨by decide, (wg1 219 rfl rfl), (wg1 7 rfl rfl), (wg1 218 rfl rfl)⟩ ⟨rfl, by decide, by decide, by decide +kernel⟩ (by rw [hR9]; exact ⟨by decide, by decide, by decide, by decide⟩) (Nat.le_of_ble_eq_true rfl) ?_
  show SE G X _ _ 1 31 1634 56 [(0, rf G 63)] [rf G 90, rf G 63] (fx_X2 84 d) _ _ _ _
  refine e_putR C (lo := 64) (w := 63) (a' := 5) (j := 4) (ty := (.object "RedHands$Scrapers")) rfl (by decide) dX10_init_56 rfl uw_X10 tyX10_ok nmX10 (by decide) (wg2 48 rfl rfl) rfl rfl (by decide +kernel) (fun _ => ⟨rfl, rfl⟩) hin9 rfl rfl (by decide) rfl ?_
  refine e_aload_n C 0 dX10_init_59 rfl rfl ?_
  refine e_subN C (lo := 64) (c := 31) (m := m) (d := (fx_X2 84 d)) (k_X1_95 hB m (fx_X2 84 d) (fun k hk => (fx_X2_out (Or.inr (by omega))).trans (hz k (by omega)))) dX10_init_60 dX10_init_63 dX10_init_64 nw_X10_46 rfl (fun j => congrFun ((fx_X2_out (Or.inr (by decide))).trans (hz 95 (by decide))) j) (fun k hk => fx_X1_out (Or.inl hk)) (by decide) (by decide) (by rw [hR9]; exact ⟨by decide, by decide⟩) ⟨by decide, (wg2 10 rfl rfl), (wg1 8 rfl rfl), (wg2 9 rfl rfl)⟩ ⟨rfl, by decide, by decide, by decide +kernel⟩ (by rw [hR9]; exact ⟨by decide, by decide, by decide, by decide⟩) (Nat.le_of_ble_eq_true rfl) ?_
  show SE G X _ _ 1 36 1889 67 [(0, rf G 63)] [rf G 95, rf G 63] (fx_X1 95 (fx_X2 84 d)) _ _ _ _
  refine e_putR C (lo := 64) (w := 63) (a' := 6) (j := 5) (ty := (.object "RedHands$Hands")) rfl (by decide) dX10_init_67 rfl uw_X10 tyX10_ok nmX10 (by decide) (wg2 51 rfl rfl) rfl rfl (by decide +kernel) (fun _ => ⟨rfl, rfl⟩) hin9 rfl rfl (by decide) rfl ?_
  exact e_ret C dX10_init_70 hret rfl rfl rfl (by decide) (by decide)
theorem k_X10_100 {G : G9} {l : Launch} {B : Nat} (hB : ∀ k, G.1 k = B + k) (m : Nat) (d : D9) (hz : ∀ k, 100 ≤ k → d k = zr) : ME G l yX10_init cX10_init 1 2 40 36 1889 100 37 m d (fx_X10 100 d) := by
  refine me_of (own := RX10) (by decide) rfl (by decide) hB (fun X hl hR9 C hin9 hret => ?_)
  refine e_aload_n C 0 dX10_init_0 rfl rfl ?_
  refine e_objinit C dX10_init_1 ⟨(wg1 41 rfl rfl), (wg1 34 rfl rfl), (wg1 35 rfl rfl)⟩ (by rw [hR9]; exact ⟨by decide, Nat.le_of_ble_eq_true rfl⟩) ?_
  refine e_aload_n C 0 dX10_init_4 rfl rfl ?_
  refine e_subN C (lo := 101) (c := 0) (m := m) (d := d) (k_X3_101 hB m d (fun k hk => hz k (by omega))) dX10_init_5 dX10_init_8 dX10_init_9 nw_X10_9 rfl (fun j => congrFun (hz 101 (by decide)) j) (fun _ _ => rfl) (by decide) (by decide) (by rw [hR9]; exact ⟨by decide, by decide⟩) ⟨by decide, (wg1 46 rfl rfl), (wg1 3 rfl rfl), (wg1 45 rfl rfl)⟩ ⟨rfl, by decide, by decide, by decide +kernel⟩ (by rw [hR9]; exact ⟨by decide, by decide, by decide, by decide⟩) (Nat.le_of_ble_eq_true rfl) ?_
  show SE G X _ _ 1 7 308 12 [(0, rf G 100)] [rf G 101, rf G 100] d _ _ _ _
  refine e_putR C (lo := 101) (w := 100) (a' := 1) (j := 0) (ty := (.object "RedHands$Paints")) rfl (by decide) dX10_init_12 rfl uw_X10 tyX10_ok nmX10 (by decide) (wg2 38 rfl rfl) rfl rfl (by decide +kernel) (fun _ => ⟨rfl, rfl⟩) hin9 rfl rfl (by decide) rfl ?_
  refine e_aload_n C 0 dX10_init_15 rfl rfl ?_
  refine e_subN C (lo := 101) (c := 7) (m := m) (d := d) (k_X6_108 hB m d (fun k hk => hz k (by omega))) dX10_init_16 dX10_init_19 dX10_init_20 nw_X10_18 rfl (fun j => congrFun (hz 108 (by decide)) j) (fun _ _ => rfl) (by decide) (by decide) (by rw [hR9]; exact ⟨by decide, by decide⟩) ⟨by decide, (wg1 91 rfl rfl), (wg1 4 rfl rfl), (wg1 90 rfl rfl)⟩ ⟨rfl, by decide, by decide, by decide +kernel⟩ (by rw [hR9]; exact ⟨by decide, by decide, by decide, by decide⟩) (Nat.le_of_ble_eq_true rfl) ?_
  show SE G X _ _ 1 20 1131 23 [(0, rf G 100)] [rf G 108, rf G 100] d _ _ _ _
  refine e_putR C (lo := 101) (w := 100) (a' := 2) (j := 1) (ty := (.object "RedHands$Skins")) rfl (by decide) dX10_init_23 rfl uw_X10 tyX10_ok nmX10 (by decide) (wg2 41 rfl rfl) rfl rfl (by decide +kernel) (fun _ => ⟨rfl, rfl⟩) hin9 rfl rfl (by decide) rfl ?_
  refine e_aload_n C 0 dX10_init_26 rfl rfl ?_
  refine e_subP C (lo := 101) (c := 20) (m := m) (d := d) (k_X2_121 hB m d (fun k hk => hz k (by omega))) dX10_init_27 dX10_init_30 dX10_init_31 nw_X10_25 rfl (fun j => congrFun (hz 121 (by decide)) j) (fun k hk => fx_X2_out (Or.inl hk)) (by decide) (by decide) (by rw [hR9]; exact ⟨by decide, by decide⟩) ⟨(wg1 149 rfl rfl), (wg1 151 rfl rfl), (wg1 5 rfl rfl), (wg1 150 rfl rfl)⟩ ⟨rfl, by decide, by decide, by decide +kernel⟩ (by rw [hR9]; exact ⟨by decide, by decide, by decide, by decide⟩) (Nat.le_of_ble_eq_true rfl) ?_
  show SE G X _ _ 1 21 1139 34 [(0, rf G 100)] [rf G 121, rf G 100] (fx_X2 121 d) _ _ _ _
  refine e_putR C (lo := 101) (w := 100) (a' := 3) (j := 2) (ty := (.object "RedHands$Law")) rfl (by decide) dX10_init_34 rfl uw_X10 tyX10_ok nmX10 (by decide) (wg2 44 rfl rfl) rfl rfl (by decide +kernel) (fun _ => ⟨rfl, rfl⟩) hin9 rfl rfl (by decide) rfl ?_
  refine e_aload_n C 0 dX10_init_37 rfl rfl ?_
  refine e_subN C (lo := 101) (c := 21) (m := m) (d := (fx_X2 121 d)) (k_X7_122 hB m (fx_X2 121 d) (fun k hk => (fx_X2_out (Or.inr (by omega))).trans (hz k (by omega)))) dX10_init_38 dX10_init_41 dX10_init_42 nw_X10_32 rfl (fun j => congrFun ((fx_X2_out (Or.inr (by decide))).trans (hz 122 (by decide))) j) (fun _ _ => rfl) (by decide) (by decide) (by rw [hR9]; exact ⟨by decide, by decide⟩) ⟨by decide, (wg1 196 rfl rfl), (wg1 6 rfl rfl), (wg1 195 rfl rfl)⟩ ⟨rfl, by decide, by decide, by decide +kernel⟩ (by rw [hR9]; exact ⟨by decide, by decide, by decide, by decide⟩) (Nat.le_of_ble_eq_true rfl) ?_
  show SE G X _ _ 1 26 1192 45 [(0, rf G 100)] [rf G 122, rf G 100] (fx_X2 121 d) _ _ _ _
  refine e_putR C (lo := 101) (w := 100) (a' := 4) (j := 3) (ty := (.object "RedHands$Stories")) rfl (by decide) dX10_init_45 rfl uw_X10 tyX10_ok nmX10 (by decide) (wg2 46 rfl rfl) rfl rfl (by decide +kernel) (fun _ => ⟨rfl, rfl⟩) hin9 rfl rfl (by decide) rfl ?_
  refine e_aload_n C 0 dX10_init_48 rfl rfl ?_
  refine e_subN C (lo := 101) (c := 26) (m := m) (d := (fx_X2 121 d)) (k_X4_127 hB m (fx_X2 121 d) (fun k hk => (fx_X2_out (Or.inr (by omega))).trans (hz k (by omega)))) dX10_init_49 dX10_init_52 dX10_init_53 nw_X10_39 rfl (fun j => congrFun ((fx_X2_out (Or.inr (by decide))).trans (hz 127 (by decide))) j) (fun _ _ => rfl) (by decide) (by decide) (by rw [hR9]; exact ⟨by decide, by decide⟩) ⟨by decide, (wg1 219 rfl rfl), (wg1 7 rfl rfl), (wg1 218 rfl rfl)⟩ ⟨rfl, by decide, by decide, by decide +kernel⟩ (by rw [hR9]; exact ⟨by decide, by decide, by decide, by decide⟩) (Nat.le_of_ble_eq_true rfl) ?_
  show SE G X _ _ 1 31 1634 56 [(0, rf G 100)] [rf G 127, rf G 100] (fx_X2 121 d) _ _ _ _
  refine e_putR C (lo := 101) (w := 100) (a' := 5) (j := 4) (ty := (.object "RedHands$Scrapers")) rfl (by decide) dX10_init_56 rfl uw_X10 tyX10_ok nmX10 (by decide) (wg2 48 rfl rfl) rfl rfl (by decide +kernel) (fun _ => ⟨rfl, rfl⟩) hin9 rfl rfl (by decide) rfl ?_
  refine e_aload_n C 0 dX10_init_59 rfl rfl ?_
  refine e_subN C (lo := 101) (c := 31) (m := m) (d := (fx_X2 121 d)) (k_X1_132 hB m (fx_X2 121 d) (fun k hk => (fx_X2_out (Or.inr (by omega))).trans (hz k (by omega)))) dX10_init_60 dX10_init_63 dX10_init_64 nw_X10_46 rfl (fun j => congrFun ((fx_X2_out (Or.inr (by decide))).trans (hz 132 (by decide))) j) (fun k hk => fx_X1_out (Or.inl hk)) (by decide) (by decide) (by rw [hR9]; exact ⟨by decide, by decide⟩) ⟨by decide, (wg2 10 rfl rfl), (wg1 8 rfl rfl), (wg2 9 rfl rfl)⟩ ⟨rfl, by decide, by decide, by decide +kernel⟩ (by rw [hR9]; exact ⟨by decide, by decide, by decide, by decide⟩) (Nat.le_of_ble_eq_true rfl) ?_
  show SE G X _ _ 1 36 1889 67 [(0, rf G 100)] [rf G 132, rf G 100] (fx_X1 132 (fx_X2 121 d)) _ _ _ _
  refine e_putR C (lo := 101) (w := 100) (a' := 6) (j := 5) (ty := (.object "RedHands$Hands")) rfl (by decide) dX10_init_67 rfl uw_X10 tyX10_ok nmX10 (by decide) (wg2 51 rfl rfl) rfl rfl (by decide +kernel) (fun _ => ⟨rfl, rfl⟩) hin9 rfl rfl (by decide) rfl ?_
  exact e_ret C dX10_init_70 hret rfl rfl rfl (by decide) (by decide)
theorem k_X10_137 {G : G9} {l : Launch} {B : Nat} (hB : ∀ k, G.1 k = B + k) (m : Nat) (d : D9) (hz : ∀ k, 137 ≤ k → d k = zr) : ME G l yX10_init cX10_init 1 2 40 36 1889 137 37 m d (fx_X10 137 d) := by
  refine me_of (own := RX10) (by decide) rfl (by decide) hB (fun X hl hR9 C hin9 hret => ?_)
  refine e_aload_n C 0 dX10_init_0 rfl rfl ?_
  refine e_objinit C dX10_init_1 ⟨(wg1 41 rfl rfl), (wg1 34 rfl rfl), (wg1 35 rfl rfl)⟩ (by rw [hR9]; exact ⟨by decide, Nat.le_of_ble_eq_true rfl⟩) ?_
  refine e_aload_n C 0 dX10_init_4 rfl rfl ?_
  refine e_subN C (lo := 138) (c := 0) (m := m) (d := d) (k_X3_138 hB m d (fun k hk => hz k (by omega))) dX10_init_5 dX10_init_8 dX10_init_9 nw_X10_9 rfl (fun j => congrFun (hz 138 (by decide)) j) (fun _ _ => rfl) (by decide) (by decide) (by rw [hR9]; exact ⟨by decide, by decide⟩) ⟨by decide, (wg1 46 rfl rfl), (wg1 3 rfl rfl), (wg1 45 rfl rfl)⟩ ⟨rfl, by decide, by decide, by decide +kernel⟩ (by rw [hR9]; exact ⟨by decide, by decide, by decide, by decide⟩) (Nat.le_of_ble_eq_true rfl) ?_
  show SE G X _ _ 1 7 308 12 [(0, rf G 137)] [rf G 138, rf G 137] d _ _ _ _
  refine e_putR C (lo := 138) (w := 137) (a' := 1) (j := 0) (ty := (.object "RedHands$Paints")) rfl (by decide) dX10_init_12 rfl uw_X10 tyX10_ok nmX10 (by decide) (wg2 38 rfl rfl) rfl rfl (by decide +kernel) (fun _ => ⟨rfl, rfl⟩) hin9 rfl rfl (by decide) rfl ?_
  refine e_aload_n C 0 dX10_init_15 rfl rfl ?_
  refine e_subN C (lo := 138) (c := 7) (m := m) (d := d) (k_X6_145 hB m d (fun k hk => hz k (by omega))) dX10_init_16 dX10_init_19 dX10_init_20 nw_X10_18 rfl (fun j => congrFun (hz 145 (by decide)) j) (fun _ _ => rfl) (by decide) (by decide) (by rw [hR9]; exact ⟨by decide, by decide⟩) ⟨by decide, (wg1 91 rfl rfl), (wg1 4 rfl rfl), (wg1 90 rfl rfl)⟩ ⟨rfl, by decide, by decide, by decide +kernel⟩ (by rw [hR9]; exact ⟨by decide, by decide, by decide, by decide⟩) (Nat.le_of_ble_eq_true rfl) ?_
  show SE G X _ _ 1 20 1131 23 [(0, rf G 137)] [rf G 145, rf G 137] d _ _ _ _
  refine e_putR C (lo := 138) (w := 137) (a' := 2) (j := 1) (ty := (.object "RedHands$Skins")) rfl (by decide) dX10_init_23 rfl uw_X10 tyX10_ok nmX10 (by decide) (wg2 41 rfl rfl) rfl rfl (by decide +kernel) (fun _ => ⟨rfl, rfl⟩) hin9 rfl rfl (by decide) rfl ?_
  refine e_aload_n C 0 dX10_init_26 rfl rfl ?_
  refine e_subP C (lo := 138) (c := 20) (m := m) (d := d) (k_X2_158 hB m d (fun k hk => hz k (by omega))) dX10_init_27 dX10_init_30 dX10_init_31 nw_X10_25 rfl (fun j => congrFun (hz 158 (by decide)) j) (fun k hk => fx_X2_out (Or.inl hk)) (by decide) (by decide) (by rw [hR9]; exact ⟨by decide, by decide⟩) ⟨(wg1 149 rfl rfl), (wg1 151 rfl rfl), (wg1 5 rfl rfl), (wg1 150 rfl rfl)⟩ ⟨rfl, by decide, by decide, by decide +kernel⟩ (by rw [hR9]; exact ⟨by decide, by decide, by decide, by decide⟩) (Nat.le_of_ble_eq_true rfl) ?_
  show SE G X _ _ 1 21 1139 34 [(0, rf G 137)] [rf G 158, rf G 137] (fx_X2 158 d) _ _ _ _
  refine e_putR C (lo := 138) (w := 137) (a' := 3) (j := 2) (ty := (.object "RedHands$Law")) rfl (by decide) dX10_init_34 rfl uw_X10 tyX10_ok nmX10 (by decide) (wg2 44 rfl rfl) rfl rfl (by decide +kernel) (fun _ => ⟨rfl, rfl⟩) hin9 rfl rfl (by decide) rfl ?_
  refine e_aload_n C 0 dX10_init_37 rfl rfl ?_
  refine e_subN C (lo := 138) (c := 21) (m := m) (d := (fx_X2 158 d)) (k_X7_159 hB m (fx_X2 158 d) (fun k hk => (fx_X2_out (Or.inr (by omega))).trans (hz k (by omega)))) dX10_init_38 dX10_init_41 dX10_init_42 nw_X10_32 rfl (fun j => congrFun ((fx_X2_out (Or.inr (by decide))).trans (hz 159 (by decide))) j) (fun _ _ => rfl) (by decide) (by decide) (by rw [hR9]; exact ⟨by decide, by decide⟩) ⟨by decide, (wg1 196 rfl rfl), (wg1 6 rfl rfl), (wg1 195 rfl rfl)⟩ ⟨rfl, by decide, by decide, by decide +kernel⟩ (by rw [hR9]; exact ⟨by decide, by decide, by decide, by decide⟩) (Nat.le_of_ble_eq_true rfl) ?_
  show SE G X _ _ 1 26 1192 45 [(0, rf G 137)] [rf G 159, rf G 137] (fx_X2 158 d) _ _ _ _
  refine e_putR C (lo := 138) (w := 137) (a' := 4) (j := 3) (ty := (.object "RedHands$Stories")) rfl (by decide) dX10_init_45 rfl uw_X10 tyX10_ok nmX10 (by decide) (wg2 46 rfl rfl) rfl rfl (by decide +kernel) (fun _ => ⟨rfl, rfl⟩) hin9 rfl rfl (by decide) rfl ?_
  refine e_aload_n C 0 dX10_init_48 rfl rfl ?_
  refine e_subN C (lo := 138) (c := 26) (m := m) (d := (fx_X2 158 d)) (k_X4_164 hB m (fx_X2 158 d) (fun k hk => (fx_X2_out (Or.inr (by omega))).trans (hz k (by omega)))) dX10_init_49 dX10_init_52 dX10_init_53 nw_X10_39 rfl (fun j => congrFun ((fx_X2_out (Or.inr (by decide))).trans (hz 164 (by decide))) j) (fun _ _ => rfl) (by decide) (by decide) (by rw [hR9]; exact ⟨by decide, by decide⟩) ⟨by decide, (wg1 219 rfl rfl), (wg1 7 rfl rfl), (wg1 218 rfl rfl)⟩ ⟨rfl, by decide, by decide, by decide +kernel⟩ (by rw [hR9]; exact ⟨by decide, by decide, by decide, by decide⟩) (Nat.le_of_ble_eq_true rfl) ?_
  show SE G X _ _ 1 31 1634 56 [(0, rf G 137)] [rf G 164, rf G 137] (fx_X2 158 d) _ _ _ _
  refine e_putR C (lo := 138) (w := 137) (a' := 5) (j := 4) (ty := (.object "RedHands$Scrapers")) rfl (by decide) dX10_init_56 rfl uw_X10 tyX10_ok nmX10 (by decide) (wg2 48 rfl rfl) rfl rfl (by decide +kernel) (fun _ => ⟨rfl, rfl⟩) hin9 rfl rfl (by decide) rfl ?_
  refine e_aload_n C 0 dX10_init_59 rfl rfl ?_
  refine e_subN C (lo := 138) (c := 31) (m := m) (d := (fx_X2 158 d)) (k_X1_169 hB m (fx_X2 158 d) (fun k hk => (fx_X2_out (Or.inr (by omega))).trans (hz k (by omega)))) dX10_init_60 dX10_init_63 dX10_init_64 nw_X10_46 rfl (fun j => congrFun ((fx_X2_out (Or.inr (by decide))).trans (hz 169 (by decide))) j) (fun k hk => fx_X1_out (Or.inl hk)) (by decide) (by decide) (by rw [hR9]; exact ⟨by decide, by decide⟩) ⟨by decide, (wg2 10 rfl rfl), (wg1 8 rfl rfl), (wg2 9 rfl rfl)⟩ ⟨rfl, by decide, by decide, by decide +kernel⟩ (by rw [hR9]; exact ⟨by decide, by decide, by decide, by decide⟩) (Nat.le_of_ble_eq_true rfl) ?_
  show SE G X _ _ 1 36 1889 67 [(0, rf G 137)] [rf G 169, rf G 137] (fx_X1 169 (fx_X2 158 d)) _ _ _ _
  refine e_putR C (lo := 138) (w := 137) (a' := 6) (j := 5) (ty := (.object "RedHands$Hands")) rfl (by decide) dX10_init_67 rfl uw_X10 tyX10_ok nmX10 (by decide) (wg2 51 rfl rfl) rfl rfl (by decide +kernel) (fun _ => ⟨rfl, rfl⟩) hin9 rfl rfl (by decide) rfl ?_
  exact e_ret C dX10_init_70 hret rfl rfl rfl (by decide) (by decide)
theorem dX11_init_0 : decode cX11_init 0 = .ok (.aload_n 0, 1) := by decide +kernel
theorem dX11_init_1 : decode cX11_init 1 = .ok (.invokespecial 1, 3) := by decide +kernel
theorem dX11_init_4 : decode cX11_init 4 = .ok (.aload_n 0, 1) := by decide +kernel
theorem dX11_init_5 : decode cX11_init 5 = .ok (.new 7, 3) := by decide +kernel
theorem dX11_init_8 : decode cX11_init 8 = .ok (.dup, 1) := by decide +kernel
theorem dX11_init_9 : decode cX11_init 9 = .ok (.invokespecial 9, 3) := by decide +kernel
theorem dX11_init_12 : decode cX11_init 12 = .ok (.putfield 10, 3) := by decide +kernel
theorem dX11_init_15 : decode cX11_init 15 = .ok (.aload_n 0, 1) := by decide +kernel
theorem dX11_init_16 : decode cX11_init 16 = .ok (.iconst 3, 1) := by decide +kernel
theorem dX11_init_17 : decode cX11_init 17 = .ok (.anewarray 7, 3) := by decide +kernel
theorem dX11_init_20 : decode cX11_init 20 = .ok (.putfield 16, 3) := by decide +kernel
theorem dX11_init_23 : decode cX11_init 23 = .ok (.aload_n 0, 1) := by decide +kernel
theorem dX11_init_24 : decode cX11_init 24 = .ok (.iconst 3, 1) := by decide +kernel
theorem dX11_init_25 : decode cX11_init 25 = .ok (.newarray .boolean, 2) := by decide +kernel
theorem dX11_init_27 : decode cX11_init 27 = .ok (.putfield 20, 3) := by decide +kernel
theorem dX11_init_30 : decode cX11_init 30 = .ok (.aload_n 0, 1) := by decide +kernel
theorem dX11_init_31 : decode cX11_init 31 = .ok (.new 24, 3) := by decide +kernel
theorem dX11_init_34 : decode cX11_init 34 = .ok (.dup, 1) := by decide +kernel
theorem dX11_init_35 : decode cX11_init 35 = .ok (.invokespecial 26, 3) := by decide +kernel
theorem dX11_init_38 : decode cX11_init 38 = .ok (.putfield 27, 3) := by decide +kernel
theorem dX11_init_41 : decode cX11_init 41 = .ok (.aload_n 0, 1) := by decide +kernel
theorem dX11_init_42 : decode cX11_init 42 = .ok (.new 31, 3) := by decide +kernel
theorem dX11_init_45 : decode cX11_init 45 = .ok (.dup, 1) := by decide +kernel
theorem dX11_init_46 : decode cX11_init 46 = .ok (.invokespecial 33, 3) := by decide +kernel
theorem dX11_init_49 : decode cX11_init 49 = .ok (.putfield 34, 3) := by decide +kernel
theorem dX11_init_52 : decode cX11_init 52 = .ok (.aload_n 0, 1) := by decide +kernel
theorem dX11_init_53 : decode cX11_init 53 = .ok (.new 38, 3) := by decide +kernel
theorem dX11_init_56 : decode cX11_init 56 = .ok (.dup, 1) := by decide +kernel
theorem dX11_init_57 : decode cX11_init 57 = .ok (.invokespecial 40, 3) := by decide +kernel
theorem dX11_init_60 : decode cX11_init 60 = .ok (.putfield 41, 3) := by decide +kernel
theorem dX11_init_63 : decode cX11_init 63 = .ok (.aload_n 0, 1) := by decide +kernel
theorem dX11_init_64 : decode cX11_init 64 = .ok (.new 45, 3) := by decide +kernel
theorem dX11_init_67 : decode cX11_init 67 = .ok (.dup, 1) := by decide +kernel
theorem dX11_init_68 : decode cX11_init 68 = .ok (.invokespecial 47, 3) := by decide +kernel
theorem dX11_init_71 : decode cX11_init 71 = .ok (.putfield 48, 3) := by decide +kernel
theorem dX11_init_74 : decode cX11_init 74 = .ok (.aload_n 0, 1) := by decide +kernel
theorem dX11_init_75 : decode cX11_init 75 = .ok (.new 52, 3) := by decide +kernel
theorem dX11_init_78 : decode cX11_init 78 = .ok (.dup, 1) := by decide +kernel
theorem dX11_init_79 : decode cX11_init 79 = .ok (.invokespecial 54, 3) := by decide +kernel
theorem dX11_init_82 : decode cX11_init 82 = .ok (.putfield 55, 3) := by decide +kernel
theorem dX11_init_85 : decode cX11_init 85 = .ok (.aload_n 0, 1) := by decide +kernel
theorem dX11_init_86 : decode cX11_init 86 = .ok (.new 59, 3) := by decide +kernel
theorem dX11_init_89 : decode cX11_init 89 = .ok (.dup, 1) := by decide +kernel
theorem dX11_init_90 : decode cX11_init 90 = .ok (.invokespecial 61, 3) := by decide +kernel
theorem dX11_init_93 : decode cX11_init 93 = .ok (.putfield 62, 3) := by decide +kernel
theorem dX11_init_96 : decode cX11_init 96 = .ok (.aload_n 0, 1) := by decide +kernel
theorem dX11_init_97 : decode cX11_init 97 = .ok (.new 66, 3) := by decide +kernel
theorem dX11_init_100 : decode cX11_init 100 = .ok (.dup, 1) := by decide +kernel
theorem dX11_init_101 : decode cX11_init 101 = .ok (.invokespecial 68, 3) := by decide +kernel
theorem dX11_init_104 : decode cX11_init 104 = .ok (.putfield 69, 3) := by decide +kernel
theorem dX11_init_107 : decode cX11_init 107 = .ok (.iconst 0, 1) := by decide +kernel
theorem dX11_init_108 : decode cX11_init 108 = .ok (.istore_n 1, 1) := by decide +kernel
theorem dX11_init_109 : decode cX11_init 109 = .ok (.iload_n 1, 1) := by decide +kernel
theorem dX11_init_110 : decode cX11_init 110 = .ok (.iconst 3, 1) := by decide +kernel
theorem dX11_init_111 : decode cX11_init 111 = .ok (.if_icmp .ge 22, 3) := by decide +kernel
theorem dX11_init_114 : decode cX11_init 114 = .ok (.aload_n 0, 1) := by decide +kernel
theorem dX11_init_115 : decode cX11_init 115 = .ok (.getfield 16, 3) := by decide +kernel
theorem dX11_init_118 : decode cX11_init 118 = .ok (.iload_n 1, 1) := by decide +kernel
theorem dX11_init_119 : decode cX11_init 119 = .ok (.new 7, 3) := by decide +kernel
theorem dX11_init_122 : decode cX11_init 122 = .ok (.dup, 1) := by decide +kernel
theorem dX11_init_123 : decode cX11_init 123 = .ok (.invokespecial 9, 3) := by decide +kernel
theorem dX11_init_126 : decode cX11_init 126 = .ok (.aastore, 1) := by decide +kernel
theorem dX11_init_127 : decode cX11_init 127 = .ok (.iinc 1 1, 3) := by decide +kernel
theorem dX11_init_130 : decode cX11_init 130 = .ok (.goto (-21), 3) := by decide +kernel
theorem dX11_init_133 : decode cX11_init 133 = .ok (.return_, 1) := by decide +kernel
theorem nw_X11_7 : NW RX11 7 10 6 := ⟨RX10, TX10, tyX10, rfl, uw_X10, tyX10_ok, (wg1 36 rfl rfl), (wg1 37 rfl rfl), (wg1 2 rfl rfl), fun j hj => match j, hj with | 0, _ => ⟨rfl, rfl⟩ | 1, _ => ⟨rfl, rfl⟩ | 2, _ => ⟨rfl, rfl⟩ | 3, _ => ⟨rfl, rfl⟩ | 4, _ => ⟨rfl, rfl⟩ | 5, _ => ⟨rfl, rfl⟩ | j + 6, h => absurd h (by omega), rfl⟩
theorem nw_X11_24 : NW RX11 24 2 8 := ⟨RX2, TX2, tyX2, rfl, uw_X2, tyX2_ok, (wg2 67 rfl rfl), (wg1 148 rfl rfl), (wg1 5 rfl rfl), fun j hj => match j, hj with | 0, _ => ⟨rfl, rfl⟩ | 1, _ => ⟨rfl, rfl⟩ | 2, _ => ⟨rfl, rfl⟩ | 3, _ => ⟨rfl, rfl⟩ | 4, _ => ⟨rfl, rfl⟩ | 5, _ => ⟨rfl, rfl⟩ | 6, _ => ⟨rfl, rfl⟩ | 7, _ => ⟨rfl, rfl⟩ | j + 8, h => absurd h (by omega), rfl⟩
theorem nw_X11_31 : NW RX11 31 7 5 := ⟨RX7, TX7, tyX7, rfl, uw_X7, tyX7_ok, (wg2 69 rfl rfl), (wg1 193 rfl rfl), (wg1 6 rfl rfl), fun j hj => match j, hj with | 0, _ => ⟨rfl, rfl⟩ | 1, _ => ⟨rfl, rfl⟩ | 2, _ => ⟨rfl, rfl⟩ | 3, _ => ⟨rfl, rfl⟩ | 4, _ => ⟨rfl, rfl⟩ | j + 5, h => absurd h (by omega), rfl⟩
theorem nw_X11_38 : NW RX11 38 4 6 := ⟨RX4, TX4, tyX4, rfl, uw_X4, tyX4_ok, (wg2 71 rfl rfl), (wg1 216 rfl rfl), (wg1 7 rfl rfl), fun j hj => match j, hj with | 0, _ => ⟨rfl, rfl⟩ | 1, _ => ⟨rfl, rfl⟩ | 2, _ => ⟨rfl, rfl⟩ | 3, _ => ⟨rfl, rfl⟩ | 4, _ => ⟨rfl, rfl⟩ | 5, _ => ⟨rfl, rfl⟩ | j + 6, h => absurd h (by omega), rfl⟩
theorem nw_X11_45 : NW RX11 45 8 9 := ⟨RX8, TX8, tyX8, rfl, uw_X8, tyX8_ok, (wg2 73 rfl rfl), (wg2 74 rfl rfl), (wg1 9 rfl rfl), fun j hj => match j, hj with | 0, _ => ⟨rfl, rfl⟩ | 1, _ => ⟨rfl, rfl⟩ | 2, _ => ⟨rfl, rfl⟩ | 3, _ => ⟨rfl, rfl⟩ | 4, _ => ⟨rfl, rfl⟩ | 5, _ => ⟨rfl, rfl⟩ | 6, _ => ⟨rfl, rfl⟩ | 7, _ => ⟨rfl, rfl⟩ | 8, _ => ⟨rfl, rfl⟩ | j + 9, h => absurd h (by omega), rfl⟩
theorem nw_X11_52 : NW RX11 52 0 2 := ⟨RX0, TX0, tyX0, rfl, uw_X0, tyX0_ok, (wg2 112 rfl rfl), (wg2 113 rfl rfl), (wg1 10 rfl rfl), fun j hj => match j, hj with | 0, _ => ⟨rfl, rfl⟩ | 1, _ => ⟨rfl, rfl⟩ | j + 2, h => absurd h (by omega), rfl⟩
theorem nw_X11_59 : NW RX11 59 9 3 := ⟨RX9, TX9, tyX9, rfl, uw_X9, tyX9_ok, (wg2 127 rfl rfl), (wg2 128 rfl rfl), (wg1 11 rfl rfl), fun j hj => match j, hj with | 0, _ => ⟨rfl, rfl⟩ | 1, _ => ⟨rfl, rfl⟩ | 2, _ => ⟨rfl, rfl⟩ | j + 3, h => absurd h (by omega), rfl⟩
theorem nw_X11_66 : NW RX11 66 5 12 := ⟨RX5, TX5, tyX5, rfl, uw_X5, tyX5_ok, (wg2 145 rfl rfl), (wg2 146 rfl rfl), (wg1 12 rfl rfl), fun j hj => match j, hj with | 0, _ => ⟨rfl, rfl⟩ | 1, _ => ⟨rfl, rfl⟩ | 2, _ => ⟨rfl, rfl⟩ | 3, _ => ⟨rfl, rfl⟩ | 4, _ => ⟨rfl, rfl⟩ | 5, _ => ⟨rfl, rfl⟩ | 6, _ => ⟨rfl, rfl⟩ | 7, _ => ⟨rfl, rfl⟩ | 8, _ => ⟨rfl, rfl⟩ | 9, _ => ⟨rfl, rfl⟩ | 10, _ => ⟨rfl, rfl⟩ | 11, _ => ⟨rfl, rfl⟩ | j + 12, h => absurd h (by omega), rfl⟩
def fx_X11 (w : Nat) (d : D9) : D9 := (fx_X10 (w + 137) (fx_X10 (w + 100) (fx_X10 (w + 63) (fx_X9 (w + 54) (fx_X8 (w + 51) (fx_X2 (w + 40) (fx_X10 (w + 1) d)))))))
theorem fx_X11_out {w : Nat} {d : D9} {k : Nat} (h : k < w ∨ w + 174 ≤ k) : fx_X11 w d k = d k := by
  unfold fx_X11
  rw [fx_X10_out (by omega), fx_X10_out (by omega), fx_X10_out (by omega), fx_X9_out (by omega), fx_X8_out (by omega), fx_X2_out (by omega), fx_X10_out (by omega)]
theorem k_X11_0 {G : G9} {l : Launch} {B : Nat} (hB : ∀ k, G.1 k = B + k) (m : Nat) (d : D9) (hz : ∀ k, 0 ≤ k → d k = zr) : ME G l yX11_init cX11_init 2 3 60 173 8751 0 174 3 d (fx_X11 0 d) := by
  refine me_of (own := RX11) (by decide) rfl (by decide) hB (fun X hl hR9 C hin9 hret => ?_)
  refine e_m0 (m' := 0) ?_
  refine e_aload_n C 0 dX11_init_0 rfl rfl ?_
  refine e_objinit C dX11_init_1 ⟨(wg1 33 rfl rfl), (wg1 34 rfl rfl), (wg1 35 rfl rfl)⟩ (by rw [hR9]; exact ⟨by decide, Nat.le_of_ble_eq_true rfl⟩) ?_
  refine e_aload_n C 0 dX11_init_4 rfl rfl ?_
  refine e_subN C (lo := 1) (c := 0) (m := 0) (d := d) (k_X10_1 hB 0 d (fun k hk => hz k (by omega))) dX11_init_5 dX11_init_8 dX11_init_9 nw_X11_7 rfl (fun j => congrFun (hz 1 (by decide)) j) (fun k hk => fx_X10_out (Or.inl hk)) (by decide) (by decide) (by rw [hR9]; exact ⟨by decide, by decide⟩) ⟨by decide, (wg1 40 rfl rfl), (wg1 2 rfl rfl), (wg1 39 rfl rfl)⟩ ⟨rfl, by decide, by decide, by decide +kernel⟩ (by rw [hR9]; exact ⟨by decide, by decide, by decide, by decide⟩) (Nat.le_of_ble_eq_true rfl) ?_
  show SE G X _ _ 2 37 1895 12 [(0, rf G 0)] [rf G 1, rf G 0] (fx_X10 1 d) _ _ _ _
  refine e_putR C (lo := 1) (w := 0) (a' := 1) (j := 0) (ty := (.object "RedHands$Wall")) rfl (by decide) dX11_init_12 rfl uw_X11 tyX11_ok nmX11 (by decide) (wg2 194 rfl rfl) rfl rfl (by decide +kernel) (fun _ => ⟨rfl, rfl⟩) hin9 rfl rfl (by decide) rfl ?_
  refine e_aload_n C 0 dX11_init_15 rfl rfl ?_
  refine e_iconst C dX11_init_16 ?_
  refine e_anew C (lo := 1) (c := 37) dX11_init_17 (wg1 36 rfl rfl) rfl (by rw [hR9]; exact ⟨by decide, by decide⟩) (by decide) ?_
  refine e_putR C (lo := 1) (w := 0) (a' := 2) (j := 1) (ty := (.array (.object "RedHands$Wall"))) rfl (by decide) dX11_init_20 rfl uw_X11 tyX11_ok nmX11 (by decide) (wg2 195 rfl rfl) rfl rfl (by decide +kernel) (fun _ => ⟨rfl, rfl⟩) hin9 rfl rfl (by decide) rfl ?_
  refine e_aload_n C 0 dX11_init_23 rfl rfl ?_
  refine e_iconst C dX11_init_24 ?_
  refine e_newZ C (lo := 1) (c := 38) dX11_init_25 ac_Z rfl (by decide) (fun j => congrFun ((fx_X10_out (Or.inr (by decide))).trans (hz 39 (by decide))) j) ⟨by decide, by decide⟩ (by decide) (by rw [hR9]; exact ⟨by decide, by decide⟩) (by decide) ?_
  refine e_putR C (lo := 1) (w := 0) (a' := 3) (j := 2) (ty := (.array .boolean)) rfl (by decide) dX11_init_27 rfl uw_X11 tyX11_ok nmX11 (by decide) (wg2 196 rfl rfl) rfl rfl (by decide +kernel) (fun _ => ⟨rfl, rfl⟩) hin9 rfl rfl (by decide) rfl ?_
  refine e_aload_n C 0 dX11_init_30 rfl rfl ?_
  refine e_subP C (lo := 1) (c := 39) (m := 0) (d := (fx_X10 1 d)) (k_X2_40 hB 0 (fx_X10 1 d) (fun k hk => (fx_X10_out (Or.inr (by omega))).trans (hz k (by omega)))) dX11_init_31 dX11_init_34 dX11_init_35 nw_X11_24 rfl (fun j => congrFun ((fx_X10_out (Or.inr (by decide))).trans (hz 40 (by decide))) j) (fun k hk => fx_X2_out (Or.inl hk)) (by decide) (by decide) (by rw [hR9]; exact ⟨by decide, by decide⟩) ⟨(wg2 68 rfl rfl), (wg1 151 rfl rfl), (wg1 5 rfl rfl), (wg1 150 rfl rfl)⟩ ⟨rfl, by decide, by decide, by decide +kernel⟩ (by rw [hR9]; exact ⟨by decide, by decide, by decide, by decide⟩) (Nat.le_of_ble_eq_true rfl) ?_
  show SE G X _ _ 2 40 1909 38 [(0, rf G 0)] [rf G 40, rf G 0] (fx_X2 40 (fx_X10 1 d)) _ _ _ _
  refine e_putR C (lo := 1) (w := 0) (a' := 4) (j := 3) (ty := (.object "RedHands$Law")) rfl (by decide) dX11_init_38 rfl uw_X11 tyX11_ok nmX11 (by decide) (wg2 197 rfl rfl) rfl rfl (by decide +kernel) (fun _ => ⟨rfl, rfl⟩) hin9 rfl rfl (by decide) rfl ?_
  refine e_aload_n C 0 dX11_init_41 rfl rfl ?_
  refine e_subN C (lo := 1) (c := 40) (m := 0) (d := (fx_X2 40 (fx_X10 1 d))) (k_X7_41 hB 0 (fx_X2 40 (fx_X10 1 d)) (fun k hk => (fx_X2_out (Or.inr (by omega))).trans ((fx_X10_out (Or.inr (by omega))).trans (hz k (by omega))))) dX11_init_42 dX11_init_45 dX11_init_46 nw_X11_31 rfl (fun j => congrFun ((fx_X2_out (Or.inr (by decide))).trans ((fx_X10_out (Or.inr (by decide))).trans (hz 41 (by decide)))) j) (fun _ _ => rfl) (by decide) (by decide) (by rw [hR9]; exact ⟨by decide, by decide⟩) ⟨by decide, (wg1 196 rfl rfl), (wg1 6 rfl rfl), (wg1 195 rfl rfl)⟩ ⟨rfl, by decide, by decide, by decide +kernel⟩ (by rw [hR9]; exact ⟨by decide, by decide, by decide, by decide⟩) (Nat.le_of_ble_eq_true rfl) ?_
  show SE G X _ _ 2 45 1962 49 [(0, rf G 0)] [rf G 41, rf G 0] (fx_X2 40 (fx_X10 1 d)) _ _ _ _
  refine e_putR C (lo := 1) (w := 0) (a' := 5) (j := 4) (ty := (.object "RedHands$Stories")) rfl (by decide) dX11_init_49 rfl uw_X11 tyX11_ok nmX11 (by decide) (wg2 198 rfl rfl) rfl rfl (by decide +kernel) (fun _ => ⟨rfl, rfl⟩) hin9 rfl rfl (by decide) rfl ?_
  refine e_aload_n C 0 dX11_init_52 rfl rfl ?_
  refine e_subN C (lo := 1) (c := 45) (m := 0) (d := (fx_X2 40 (fx_X10 1 d))) (k_X4_46 hB 0 (fx_X2 40 (fx_X10 1 d)) (fun k hk => (fx_X2_out (Or.inr (by omega))).trans ((fx_X10_out (Or.inr (by omega))).trans (hz k (by omega))))) dX11_init_53 dX11_init_56 dX11_init_57 nw_X11_38 rfl (fun j => congrFun ((fx_X2_out (Or.inr (by decide))).trans ((fx_X10_out (Or.inr (by decide))).trans (hz 46 (by decide)))) j) (fun _ _ => rfl) (by decide) (by decide) (by rw [hR9]; exact ⟨by decide, by decide⟩) ⟨by decide, (wg1 219 rfl rfl), (wg1 7 rfl rfl), (wg1 218 rfl rfl)⟩ ⟨rfl, by decide, by decide, by decide +kernel⟩ (by rw [hR9]; exact ⟨by decide, by decide, by decide, by decide⟩) (Nat.le_of_ble_eq_true rfl) ?_
  show SE G X _ _ 2 50 2404 60 [(0, rf G 0)] [rf G 46, rf G 0] (fx_X2 40 (fx_X10 1 d)) _ _ _ _
  refine e_putR C (lo := 1) (w := 0) (a' := 6) (j := 5) (ty := (.object "RedHands$Scrapers")) rfl (by decide) dX11_init_60 rfl uw_X11 tyX11_ok nmX11 (by decide) (wg2 199 rfl rfl) rfl rfl (by decide +kernel) (fun _ => ⟨rfl, rfl⟩) hin9 rfl rfl (by decide) rfl ?_
  refine e_aload_n C 0 dX11_init_63 rfl rfl ?_
  refine e_subN C (lo := 1) (c := 50) (m := 0) (d := (fx_X2 40 (fx_X10 1 d))) (k_X8_51 hB 0 (fx_X2 40 (fx_X10 1 d)) (fun k hk => (fx_X2_out (Or.inr (by omega))).trans ((fx_X10_out (Or.inr (by omega))).trans (hz k (by omega))))) dX11_init_64 dX11_init_67 dX11_init_68 nw_X11_45 rfl (fun j => congrFun ((fx_X2_out (Or.inr (by decide))).trans ((fx_X10_out (Or.inr (by decide))).trans (hz 51 (by decide)))) j) (fun k hk => fx_X8_out (Or.inl hk)) (by decide) (by decide) (by rw [hR9]; exact ⟨by decide, by decide⟩) ⟨by decide, (wg2 77 rfl rfl), (wg1 9 rfl rfl), (wg2 76 rfl rfl)⟩ ⟨rfl, by decide, by decide, by decide +kernel⟩ (by rw [hR9]; exact ⟨by decide, by decide, by decide, by decide⟩) (Nat.le_of_ble_eq_true rfl) ?_
  show SE G X _ _ 2 52 2813 71 [(0, rf G 0)] [rf G 51, rf G 0] (fx_X8 51 (fx_X2 40 (fx_X10 1 d))) _ _ _ _
  refine e_putR C (lo := 1) (w := 0) (a' := 7) (j := 6) (ty := (.object "RedHands$Text")) rfl (by decide) dX11_init_71 rfl uw_X11 tyX11_ok nmX11 (by decide) (wg2 200 rfl rfl) rfl rfl (by decide +kernel) (fun _ => ⟨rfl, rfl⟩) hin9 rfl rfl (by decide) rfl ?_
  refine e_aload_n C 0 dX11_init_74 rfl rfl ?_
  refine e_subN C (lo := 1) (c := 52) (m := 0) (d := (fx_X8 51 (fx_X2 40 (fx_X10 1 d)))) (k_X0_53 hB 0 (fx_X8 51 (fx_X2 40 (fx_X10 1 d))) (fun k hk => (fx_X8_out (Or.inr (by omega))).trans ((fx_X2_out (Or.inr (by omega))).trans ((fx_X10_out (Or.inr (by omega))).trans (hz k (by omega)))))) dX11_init_75 dX11_init_78 dX11_init_79 nw_X11_52 rfl (fun j => congrFun ((fx_X8_out (Or.inr (by decide))).trans ((fx_X2_out (Or.inr (by decide))).trans ((fx_X10_out (Or.inr (by decide))).trans (hz 53 (by decide))))) j) (fun _ _ => rfl) (by decide) (by decide) (by rw [hR9]; exact ⟨by decide, by decide⟩) ⟨by decide, (wg2 116 rfl rfl), (wg1 10 rfl rfl), (wg2 115 rfl rfl)⟩ ⟨rfl, by decide, by decide, by decide +kernel⟩ (by rw [hR9]; exact ⟨by decide, by decide, by decide, by decide⟩) (Nat.le_of_ble_eq_true rfl) ?_
  show SE G X _ _ 2 53 2815 82 [(0, rf G 0)] [rf G 53, rf G 0] (fx_X8 51 (fx_X2 40 (fx_X10 1 d))) _ _ _ _
  refine e_putR C (lo := 1) (w := 0) (a' := 8) (j := 7) (ty := (.object "RedHands$Fraction")) rfl (by decide) dX11_init_82 rfl uw_X11 tyX11_ok nmX11 (by decide) (wg2 201 rfl rfl) rfl rfl (by decide +kernel) (fun _ => ⟨rfl, rfl⟩) hin9 rfl rfl (by decide) rfl ?_
  refine e_aload_n C 0 dX11_init_85 rfl rfl ?_
  refine e_subN C (lo := 1) (c := 53) (m := 0) (d := (fx_X8 51 (fx_X2 40 (fx_X10 1 d)))) (k_X9_54 hB 0 (fx_X8 51 (fx_X2 40 (fx_X10 1 d))) (fun k hk => (fx_X8_out (Or.inr (by omega))).trans ((fx_X2_out (Or.inr (by omega))).trans ((fx_X10_out (Or.inr (by omega))).trans (hz k (by omega)))))) dX11_init_86 dX11_init_89 dX11_init_90 nw_X11_59 rfl (fun j => congrFun ((fx_X8_out (Or.inr (by decide))).trans ((fx_X2_out (Or.inr (by decide))).trans ((fx_X10_out (Or.inr (by decide))).trans (hz 54 (by decide))))) j) (fun k hk => fx_X9_out (Or.inl hk)) (by decide) (by decide) (by rw [hR9]; exact ⟨by decide, by decide⟩) ⟨by decide, (wg2 131 rfl rfl), (wg1 11 rfl rfl), (wg2 130 rfl rfl)⟩ ⟨rfl, by decide, by decide, by decide +kernel⟩ (by rw [hR9]; exact ⟨by decide, by decide, by decide, by decide⟩) (Nat.le_of_ble_eq_true rfl) ?_
  show SE G X _ _ 2 57 2986 93 [(0, rf G 0)] [rf G 54, rf G 0] (fx_X9 54 (fx_X8 51 (fx_X2 40 (fx_X10 1 d)))) _ _ _ _
  refine e_putR C (lo := 1) (w := 0) (a' := 9) (j := 8) (ty := (.object "RedHands$Trays")) rfl (by decide) dX11_init_93 rfl uw_X11 tyX11_ok nmX11 (by decide) (wg2 202 rfl rfl) rfl rfl (by decide +kernel) (fun _ => ⟨rfl, rfl⟩) hin9 rfl rfl (by decide) rfl ?_
  refine e_aload_n C 0 dX11_init_96 rfl rfl ?_
  refine e_subN C (lo := 1) (c := 57) (m := 0) (d := (fx_X9 54 (fx_X8 51 (fx_X2 40 (fx_X10 1 d))))) (k_X5_58 hB 0 (fx_X9 54 (fx_X8 51 (fx_X2 40 (fx_X10 1 d)))) (fun k hk => (fx_X9_out (Or.inr (by omega))).trans ((fx_X8_out (Or.inr (by omega))).trans ((fx_X2_out (Or.inr (by omega))).trans ((fx_X10_out (Or.inr (by omega))).trans (hz k (by omega))))))) dX11_init_97 dX11_init_100 dX11_init_101 nw_X11_66 rfl (fun j => congrFun ((fx_X9_out (Or.inr (by decide))).trans ((fx_X8_out (Or.inr (by decide))).trans ((fx_X2_out (Or.inr (by decide))).trans ((fx_X10_out (Or.inr (by decide))).trans (hz 58 (by decide)))))) j) (fun _ _ => rfl) (by decide) (by decide) (by rw [hR9]; exact ⟨by decide, by decide⟩) ⟨by decide, (wg2 149 rfl rfl), (wg1 12 rfl rfl), (wg2 148 rfl rfl)⟩ ⟨rfl, by decide, by decide, by decide +kernel⟩ (by rw [hR9]; exact ⟨by decide, by decide, by decide, by decide⟩) (Nat.le_of_ble_eq_true rfl) ?_
  show SE G X _ _ 2 62 3066 104 [(0, rf G 0)] [rf G 58, rf G 0] (fx_X9 54 (fx_X8 51 (fx_X2 40 (fx_X10 1 d)))) _ _ _ _
  refine e_putR C (lo := 1) (w := 0) (a' := 10) (j := 9) (ty := (.object "RedHands$Search")) rfl (by decide) dX11_init_104 rfl uw_X11 tyX11_ok nmX11 (by decide) (wg2 203 rfl rfl) rfl rfl (by decide +kernel) (fun _ => ⟨rfl, rfl⟩) hin9 rfl rfl (by decide) rfl ?_
  refine e_iconst C dX11_init_107 ?_
  refine e_istore_n C [(1, i9 0), (0, rf G 0)] dX11_init_108 rfl (by decide) rfl ?_
  refine e_iload_n C 0 dX11_init_109 rfl rfl ?_
  refine e_iconst C dX11_init_110 ?_
  refine e_icmp_geF C 133 dX11_init_111 (by decide) (by decide) ?_
  refine e_aload_n C 1 dX11_init_114 rfl rfl ?_
  refine e_getR C (w := 0) (b := 38) dX11_init_115 fl_X11_16 rfl rfl rfl ?_
  refine e_iload_n C 0 dX11_init_118 rfl rfl ?_
  refine e_subN C (lo := 1) (c := 62) (m := 0) (d := (fx_X9 54 (fx_X8 51 (fx_X2 40 (fx_X10 1 d))))) (k_X10_63 hB 0 (fx_X9 54 (fx_X8 51 (fx_X2 40 (fx_X10 1 d)))) (fun k hk => (fx_X9_out (Or.inr (by omega))).trans ((fx_X8_out (Or.inr (by omega))).trans ((fx_X2_out (Or.inr (by omega))).trans ((fx_X10_out (Or.inr (by omega))).trans (hz k (by omega))))))) dX11_init_119 dX11_init_122 dX11_init_123 nw_X11_7 rfl (fun j => congrFun ((fx_X9_out (Or.inr (by decide))).trans ((fx_X8_out (Or.inr (by decide))).trans ((fx_X2_out (Or.inr (by decide))).trans ((fx_X10_out (Or.inr (by decide))).trans (hz 63 (by decide)))))) j) (fun k hk => fx_X10_out (Or.inl hk)) (by decide) (by decide) (by rw [hR9]; exact ⟨by decide, by decide⟩) ⟨by decide, (wg1 40 rfl rfl), (wg1 2 rfl rfl), (wg1 39 rfl rfl)⟩ ⟨rfl, by decide, by decide, by decide +kernel⟩ (by rw [hR9]; exact ⟨by decide, by decide, by decide, by decide⟩) (Nat.le_of_ble_eq_true rfl) ?_
  show SE G X _ _ 2 99 4961 126 [(1, i9 0), (0, rf G 0)] [rf G 63, i9 0, rf G 38] (fx_X10 63 (fx_X9 54 (fx_X8 51 (fx_X2 40 (fx_X10 1 d))))) _ _ _ _
  refine e_aast C (lo := 1) (w := 0) (i := 37) (i' := 62) (m := 0) (vs := []) rfl (by decide) rfl (by decide) (by decide) (by decide) (by decide) dX11_init_126 rfl (fun d => ⟨_, rfl⟩) ?_
  refine e_iinc C (v := 1) 0 [(1, i9 1), (0, rf G 0)] dX11_init_127 rfl rfl (by decide) rfl ?_
  refine e_goto C 109 dX11_init_130 (by decide) ?_
  refine e_iload_n C 0 dX11_init_109 rfl rfl ?_
  refine e_iconst C dX11_init_110 ?_
  refine e_icmp_geF C 133 dX11_init_111 (by decide) (by decide) ?_
  refine e_aload_n C 1 dX11_init_114 rfl rfl ?_
  refine e_getR C (w := 0) (b := 38) dX11_init_115 fl_X11_16 rfl rfl rfl ?_
  refine e_iload_n C 0 dX11_init_118 rfl rfl ?_
  refine e_subN C (lo := 1) (c := 99) (m := 1) (d := (fx_X10 63 (fx_X9 54 (fx_X8 51 (fx_X2 40 (fx_X10 1 d)))))) (k_X10_100 hB 1 (fx_X10 63 (fx_X9 54 (fx_X8 51 (fx_X2 40 (fx_X10 1 d))))) (fun k hk => (fx_X10_out (Or.inr (by omega))).trans ((fx_X9_out (Or.inr (by omega))).trans ((fx_X8_out (Or.inr (by omega))).trans ((fx_X2_out (Or.inr (by omega))).trans ((fx_X10_out (Or.inr (by omega))).trans (hz k (by omega)))))))) dX11_init_119 dX11_init_122 dX11_init_123 nw_X11_7 rfl (fun j => congrFun ((fx_X10_out (Or.inr (by decide))).trans ((fx_X9_out (Or.inr (by decide))).trans ((fx_X8_out (Or.inr (by decide))).trans ((fx_X2_out (Or.inr (by decide))).trans ((fx_X10_out (Or.inr (by decide))).trans (hz 100 (by decide))))))) j) (fun k hk => fx_X10_out (Or.inl hk)) (by decide) (by decide) (by rw [hR9]; exact ⟨by decide, by decide⟩) ⟨by decide, (wg1 40 rfl rfl), (wg1 2 rfl rfl), (wg1 39 rfl rfl)⟩ ⟨rfl, by decide, by decide, by decide +kernel⟩ (by rw [hR9]; exact ⟨by decide, by decide, by decide, by decide⟩) (Nat.le_of_ble_eq_true rfl) ?_
  show SE G X _ _ 2 136 6856 126 [(1, i9 1), (0, rf G 0)] [rf G 100, i9 1, rf G 38] (fx_X10 100 (fx_X10 63 (fx_X9 54 (fx_X8 51 (fx_X2 40 (fx_X10 1 d)))))) _ _ _ _
  refine e_aast C (lo := 1) (w := 0) (i := 37) (i' := 99) (m := 1) (vs := []) rfl (by decide) rfl (by decide) (by decide) (by decide) (by decide) dX11_init_126 rfl (fun d => ⟨_, rfl⟩) ?_
  refine e_iinc C (v := 2) 0 [(1, i9 2), (0, rf G 0)] dX11_init_127 rfl rfl (by decide) rfl ?_
  refine e_goto C 109 dX11_init_130 (by decide) ?_
  refine e_iload_n C 0 dX11_init_109 rfl rfl ?_
  refine e_iconst C dX11_init_110 ?_
  refine e_icmp_geF C 133 dX11_init_111 (by decide) (by decide) ?_
  refine e_aload_n C 1 dX11_init_114 rfl rfl ?_
  refine e_getR C (w := 0) (b := 38) dX11_init_115 fl_X11_16 rfl rfl rfl ?_
  refine e_iload_n C 0 dX11_init_118 rfl rfl ?_
  refine e_subN C (lo := 1) (c := 136) (m := 2) (d := (fx_X10 100 (fx_X10 63 (fx_X9 54 (fx_X8 51 (fx_X2 40 (fx_X10 1 d))))))) (k_X10_137 hB 2 (fx_X10 100 (fx_X10 63 (fx_X9 54 (fx_X8 51 (fx_X2 40 (fx_X10 1 d)))))) (fun k hk => (fx_X10_out (Or.inr (by omega))).trans ((fx_X10_out (Or.inr (by omega))).trans ((fx_X9_out (Or.inr (by omega))).trans ((fx_X8_out (Or.inr (by omega))).trans ((fx_X2_out (Or.inr (by omega))).trans ((fx_X10_out (Or.inr (by omega))).trans (hz k (by omega))))))))) dX11_init_119 dX11_init_122 dX11_init_123 nw_X11_7 rfl (fun j => congrFun ((fx_X10_out (Or.inr (by decide))).trans ((fx_X10_out (Or.inr (by decide))).trans ((fx_X9_out (Or.inr (by decide))).trans ((fx_X8_out (Or.inr (by decide))).trans ((fx_X2_out (Or.inr (by decide))).trans ((fx_X10_out (Or.inr (by decide))).trans (hz 137 (by decide)))))))) j) (fun k hk => fx_X10_out (Or.inl hk)) (by decide) (by decide) (by rw [hR9]; exact ⟨by decide, by decide⟩) ⟨by decide, (wg1 40 rfl rfl), (wg1 2 rfl rfl), (wg1 39 rfl rfl)⟩ ⟨rfl, by decide, by decide, by decide +kernel⟩ (by rw [hR9]; exact ⟨by decide, by decide, by decide, by decide⟩) (Nat.le_of_ble_eq_true rfl) ?_
  show SE G X _ _ 2 173 8751 126 [(1, i9 2), (0, rf G 0)] [rf G 137, i9 2, rf G 38] (fx_X10 137 (fx_X10 100 (fx_X10 63 (fx_X9 54 (fx_X8 51 (fx_X2 40 (fx_X10 1 d))))))) _ _ _ _
  refine e_aast C (lo := 1) (w := 0) (i := 37) (i' := 136) (m := 2) (vs := []) rfl (by decide) rfl (by decide) (by decide) (by decide) (by decide) dX11_init_126 rfl (fun d => ⟨_, rfl⟩) ?_
  refine e_iinc C (v := 3) 0 [(1, i9 3), (0, rf G 0)] dX11_init_127 rfl rfl (by decide) rfl ?_
  refine e_goto C 109 dX11_init_130 (by decide) ?_
  refine e_iload_n C 0 dX11_init_109 rfl rfl ?_
  refine e_iconst C dX11_init_110 ?_
  refine e_icmp_geT C 133 dX11_init_111 (by decide) (by decide) ?_
  exact e_ret C dX11_init_133 hret rfl rfl rfl (by decide) (by decide)

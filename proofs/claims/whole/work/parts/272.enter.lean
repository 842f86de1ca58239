/-! the law from its entry to its loop: three objects are made -/
theorem dL_law__0 : decode cL_law_ 0 = .ok (.new 8, 3) := by decide +kernel
theorem dL_law__3 : decode cL_law_ 3 = .ok (.dup, 1) := by decide +kernel
theorem dL_law__4 : decode cL_law_ 4 = .ok (.invokespecial 165, 3) := by decide +kernel
theorem dL_law__7 : decode cL_law_ 7 = .ok (.astore_n 1, 1) := by decide +kernel
theorem dL_law__8 : decode cL_law_ 8 = .ok (.new 166, 3) := by decide +kernel
theorem dL_law__11 : decode cL_law_ 11 = .ok (.dup, 1) := by decide +kernel
theorem dL_law__12 : decode cL_law_ 12 = .ok (.invokespecial 168, 3) := by decide +kernel
theorem dL_law__15 : decode cL_law_ 15 = .ok (.astore_n 2, 1) := by decide +kernel
theorem dL_law__16 : decode cL_law_ 16 = .ok (.iconst 1, 1) := by decide +kernel
theorem dL_law__17 : decode cL_law_ 17 = .ok (.newarray .long, 2) := by decide +kernel
theorem dL_law__19 : decode cL_law_ 19 = .ok (.astore_n 3, 1) := by decide +kernel
theorem dL_law__20 : decode cL_law_ 20 = .ok (.iconst 0, 1) := by decide +kernel
theorem dL_law__21 : decode cL_law_ 21 = .ok (.istore 4, 2) := by decide +kernel
theorem nw_L_8 : NW RL 8 11 10 := ⟨RX11, TX11, tyX11, rfl, uw_X11, tyX11_ok, (wg1 28 rfl rfl), (wg1 29 rfl rfl), (wg1 1 rfl rfl), fun j hj => match j, hj with | 0, _ => ⟨rfl, rfl⟩ | 1, _ => ⟨rfl, rfl⟩ | 2, _ => ⟨rfl, rfl⟩ | 3, _ => ⟨rfl, rfl⟩ | 4, _ => ⟨rfl, rfl⟩ | 5, _ => ⟨rfl, rfl⟩ | 6, _ => ⟨rfl, rfl⟩ | 7, _ => ⟨rfl, rfl⟩ | 8, _ => ⟨rfl, rfl⟩ | 9, _ => ⟨rfl, rfl⟩ | j + 10, h => absurd h (by omega), rfl⟩
theorem nw_L_166 : NW RL 166 12 39 := ⟨RX12, TX12, tyX12, rfl, uw_X12, tyX12_ok, (wg7 111 rfl rfl), (wg7 112 rfl rfl), (wg1 13 rfl rfl), fun j hj => match j, hj with | 0, _ => ⟨rfl, rfl⟩ | 1, _ => ⟨rfl, rfl⟩ | 2, _ => ⟨rfl, rfl⟩ | 3, _ => ⟨rfl, rfl⟩ | 4, _ => ⟨rfl, rfl⟩ | 5, _ => ⟨rfl, rfl⟩ | 6, _ => ⟨rfl, rfl⟩ | 7, _ => ⟨rfl, rfl⟩ | 8, _ => ⟨rfl, rfl⟩ | 9, _ => ⟨rfl, rfl⟩ | 10, _ => ⟨rfl, rfl⟩ | 11, _ => ⟨rfl, rfl⟩ | 12, _ => ⟨rfl, rfl⟩ | 13, _ => ⟨rfl, rfl⟩ | 14, _ => ⟨rfl, rfl⟩ | 15, _ => ⟨rfl, rfl⟩ | 16, _ => ⟨rfl, rfl⟩ | 17, _ => ⟨rfl, rfl⟩ | 18, _ => ⟨rfl, rfl⟩ | 19, _ => ⟨rfl, rfl⟩ | 20, _ => ⟨rfl, rfl⟩ | 21, _ => ⟨rfl, rfl⟩ | 22, _ => ⟨rfl, rfl⟩ | 23, _ => ⟨rfl, rfl⟩ | 24, _ => ⟨rfl, rfl⟩ | 25, _ => ⟨rfl, rfl⟩ | 26, _ => ⟨rfl, rfl⟩ | 27, _ => ⟨rfl, rfl⟩ | 28, _ => ⟨rfl, rfl⟩ | 29, _ => ⟨rfl, rfl⟩ | 30, _ => ⟨rfl, rfl⟩ | 31, _ => ⟨rfl, rfl⟩ | 32, _ => ⟨rfl, rfl⟩ | 33, _ => ⟨rfl, rfl⟩ | 34, _ => ⟨rfl, rfl⟩ | 35, _ => ⟨rfl, rfl⟩ | 36, _ => ⟨rfl, rfl⟩ | 37, _ => ⟨rfl, rfl⟩ | 38, _ => ⟨rfl, rfl⟩ | j + 39, h => absurd h (by omega), rfl⟩
theorem d00_194 : ∀ j, d00 194 j = 0 := fun j => congrFun (dz_un (k := 194) (by decide)) j
theorem lw_enter {G : G9} {X : X9} {Q : State → Prop} {B b : Nat} (C : CE G X cL_law_ 8 RL B) (hR9 : xR X = room_1) (kk : SE G X Q 0 8 195 18174 23 [(4, i9 0), (3, rf G 194), (2, rf G 174), (1, rf G 0), (0, scf b)] [] d00 3 [] 0 195) : SE G X Q 0 8 0 0 0 [(0, scf b)] [] (fun _ => zr) 3 [] 0 0 := by
  have hB : ∀ k, G.1 k = B + k := C.2.2.2.2.2.2.2
  refine e_subP C (lo := 0) (c := 0) (m := 3) (d := (fun _ => zr)) (k_X11_0 hB 3 (fun _ => zr) (fun _ _ => rfl)) dL_law__0 dL_law__3 dL_law__4 nw_L_8 rfl (fun _ => rfl) (fun k hk => absurd hk (Nat.not_lt_zero k)) (fun _ h => nomatch h) (by decide) (by rw [hR9]; exact ⟨by decide, by decide⟩) ⟨(wg1 30 rfl rfl), (wg1 32 rfl rfl), (wg1 1 rfl rfl), (wg1 31 rfl rfl)⟩ ⟨rfl, by decide, by decide, by decide +kernel⟩ (by rw [hR9]; exact ⟨by decide, by decide, by decide, by decide⟩) (Nat.le_of_ble_eq_true rfl) ?_
  show SE G X _ _ 8 174 8761 7 [(0, scf b)] [rf G 0] (fx_X11 0 (fun _ => zr)) _ _ _ 174
  refine e_astore_n C [(1, rf G 0), (0, scf b)] dL_law__7 rfl (by decide) rfl ?_
  refine e_subP C (lo := 0) (c := 174) (m := 3) (d := fx_X11 0 (fun _ => zr)) (k_X12_174 hB 3 (fx_X11 0 (fun _ => zr)) (fun k hk => fx_X11_out (Or.inr (by omega)))) dL_law__8 dL_law__11 dL_law__12 nw_L_166 rfl (fun j => congrFun (fx_X11_out (w := 0) (d := fun _ => zr) (k := 174) (Or.inr (by decide))) j) (fun k hk => fx_X12_out (Or.inl (by omega))) (fun _ h => nomatch h) (by decide) (by rw [hR9]; exact ⟨by decide, by decide⟩) ⟨(wg7 113 rfl rfl), (wg7 115 rfl rfl), (wg1 13 rfl rfl), (wg7 114 rfl rfl)⟩ ⟨rfl, by decide, by decide, by decide +kernel⟩ (by rw [hR9]; exact ⟨by decide, by decide, by decide, by decide⟩) (Nat.le_of_ble_eq_true rfl) ?_
  show SE G X _ _ 8 194 18173 15 [(1, rf G 0), (0, scf b)] [rf G 174] d00 _ _ _ 194
  refine e_astore_n C [(2, rf G 174), (1, rf G 0), (0, scf b)] dL_law__15 rfl (by decide) rfl ?_
  refine e_iconst C dL_law__16 ?_
  refine e_newJ C (lo := 0) (c := 194) (N := 1) dL_law__17 ac_J rfl (by decide) d00_194 ⟨by decide, by decide⟩ (by decide) (by rw [hR9]; exact ⟨by decide, by decide⟩) (by decide) ?_
  refine e_astore_n C [(3, rf G 194), (2, rf G 174), (1, rf G 0), (0, scf b)] dL_law__19 rfl (by decide) rfl ?_
  refine e_iconst C dL_law__20 ?_
  refine e_istore C [(4, i9 0), (3, rf G 194), (2, rf G 174), (1, rf G 0), (0, scf b)] dL_law__21 (by decide) rfl ?_
  exact kk

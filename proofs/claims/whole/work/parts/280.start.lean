/-! the law from its entry to its end -/
theorem ho_of {G : G9} {d : D9} {H : Heap} (hP : va_P (D9c G) vwCl (wsE G d 3 [] 0 195) H) : HO G d H := by
  intro k q hq
  have hk : k < 195 := by
    have := (List.getElem?_eq_some_iff.mp hq).1
    rw [wl_len] at this
    exact this
  rw [wl_at hk] at hq
  cases hq
  have h := hP k (G.1 (0 + k), entM G d 3 (0 + k)) (by show (wseg G d 3 0 195)[k]? = _; exact wseg_at hk)
  rw [Nat.zero_add] at h
  by_cases h38 : k = 38
  · subst h38
    unfold entM at h
    rw [if_pos rfl] at h
    rw [ent_r (n := 3) rfl]
    have h' : H[G.1 38]? = some (vp_cell (cA G 4) (3, .inr (.inr (.inr (.inr (fun j => if j < 3 then some (G.1 (lr 38 j)) else none)))))) := h
    show H[G.1 38]? = some (vp_cell (cA G 4) (3, .inr (.inr (.inr (.inr (fun j => some (G.1 (lr 38 j))))))))
    rw [h', vp_cell_q, vp_cell_q]
    have e : (fun j : Fin 3 => va_rf (if (j : Nat) < 3 then some (G.1 (lr 38 j)) else none)) = (fun j : Fin 3 => va_rf (some (G.1 (lr 38 j)))) := by
      funext j
      rw [if_pos j.2]
    unfold arrV
    rw [e]
  · unfold entM at h
    rw [if_neg h38] at h
    exact h
theorem wl_D0 {G : G9} {B : Nat} (hB : ∀ k, G.1 k = B + k) {d : D9} : va_D (A9 G) (wl G d) := by
  have key : ∀ (i : Nat) (q : Nat × va_E), (wl G d)[i]? = some q → i < NC ∧ q.1 = G.1 i := by
    intro i q hq
    have hi : i < NC := by rw [← wl_len G d]; exact (List.getElem?_eq_some_iff.mp hq).1
    rw [wl_at hi] at hq
    cases hq
    exact ⟨hi, rfl⟩
  refine ⟨fun i j p q hp hq e => ?_, fun k q hq => ⟨k, (key k q hq).1, (key k q hq).2⟩⟩
  have h1 := (key i p hp).2
  have h2 := (key j q hq).2
  rw [hB] at h1 h2
  omega
/-- from the entry, for every script of at most 3584 ints, the law comes to its end with true -/
theorem whole_start {p : Program} {e : Env} {s : State} {m : MethodId} {below : List Frame} {meth : Method} {c : Code} (l : Launch) (hst : l.stackTraces = false) (htb : c.exceptionTable.toList = []) {b L : Nat} {xs : Nat → Int32} (hL : L ≤ 3584) (C0 : lw_At p s m meth c b L xs) : W p l e room_1 s m #[Value.ref b] below meth c s.heap [] 0 0 (lw_Z below #[Value.ref b] s) (entryFrame m ([Value.ref b] : List Value).toArray 8) := by
  obtain ⟨a1, a2, a3, a4, a5, a6, a7, a8, a9, a10⟩ := C0
  obtain ⟨G, hB, hE, hN, hC⟩ := lw_world a6 a10
  have hnA : ¬ A9 G b := by
    rintro ⟨k, -, h⟩
    rw [hB] at h
    omega
  have C1 : CE G (p, l, e, room_1, s, m, #[Value.ref b], below, meth, c, 601024, 7293034, 7, fun _ => lw_Z below #[Value.ref b] s) cL_law_ 8 RL s.heap.size := ⟨a1, a2, a4, a5, wk_WG a6, a9, hC, hB⟩
  have C2 : CX G (p, l, e, room_1, s, m, #[Value.ref b], below, meth, c, 601024, 7293034, 7, fun _ => lw_Z below #[Value.ref b] s) cL_law_ 8 RL [] zL9 := ⟨a1, a2, a4, a5, wk_WG a6, a9, htb, hE, hst, wl_D0 hB, a3, rfl, rfl, rfl, rfl, fun h => absurd h (by decide)⟩
  have hSC : SCX G (p, l, e, room_1, s, m, #[Value.ref b], below, meth, c, 601024, 7293034, 7, fun _ => lw_Z below #[Value.ref b] s) b L (fun j => (xs j).toInt) := by
    refine ⟨?_, a8, hnA⟩
    have e1 : (fun j => Int32.ofInt ((fun j => (xs j).toInt) j)) = xs := by
      funext j
      exact Int32.ofInt_toInt _
    rw [e1]
    exact a7
  have hLR : LR9 G (p, l, e, room_1, s, m, #[Value.ref b], below, meth, c, 601024, 7293034, 7, fun _ => lw_Z below #[Value.ref b] s) b := ⟨fun _ => rfl, rfl, rfl, fun k _ => by rw [hB]; exact Nat.le_add_right _ _, a3⟩
  obtain ⟨r, hr⟩ := lw_loop (xs := fun j => (xs j).toInt) (L := L) hL (fun j => by
    have h1 := Int32.le_toInt (xs j)
    have h2 := Int32.toInt_lt (xs j)
    exact ⟨by omega, by omega⟩) 513 0 d00 dz_INV (by decide) (by decide) (by omega) (by decide)
  have loop := sL9 C2 hN hSC hLR 513 195 18174 (by decide) (by decide) 0 d00 r hr
  have enter := lw_enter (Q := lw_Z below #[Value.ref b] s) (b := b) C1 rfl (fun H locs la hP hz hS hl => va_forget (fun q hq => by
      have := hS.2.2 q hq
      rw [hB] at this
      exact this) (loop H [] la (ho_of hP) ⟨hS.1, fun q q1 _ => hS.2.1 q q1 (by have q2 : q < s.heap.size := q1; rw [hB]; omega), fun _ h => by cases h⟩ ⟨hl.1, hl.2.1, fun q hq => hl.2.2 q (by
        simp only [List.mem_cons, List.not_mem_nil, or_false] at hq ⊢
        rcases hq with h | h | h | h | h <;> simp [h])⟩))
  rw [lg_entry_eq]
  exact enter s.heap [] _ (fun k q hq => by cases hq) (by rw [hB]; rfl) va_S.rf (lv_entry [Value.ref b] (Nat.le_of_ble_eq_true rfl))

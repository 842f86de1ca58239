/-! the world of the start -/
theorem wk_WG {args : Array Value} {s : State} (hts : ∀ w ∈ lw_tbl, w.before args s = true) : ∀ w ∈ WG, w.before args s = true := fun w hw => hts w (List.mem_filter.mp hw).1
theorem wk_one {args : Array Value} {s : State} (hW : ∀ w ∈ WG, w.before args s = true) {C : String} {T : u_T} {N n : Nat} (hin : ∀ w ∈ u_ws C T N, w ∈ WG) (hi : Cond.instantiable C n ∈ WG) : ∃ p : Nat × (Nat → Nat), u_Kn s C T N p.1 p.2 := by
  obtain ⟨a, b, h⟩ := u_known hW hin (hW _ hi)
  exact ⟨(a, b), h⟩
theorem wk_cls {args : Array Value} {s : State} (hts : ∀ w ∈ lw_tbl, w.before args s = true) : ∀ c : Nat, ∃ p : Nat × (Nat → Nat), ∀ q : vw_C, vwCl[c]? = some q → u_Kn s q.1 q.2.1 q.2.2 p.1 p.2 := by
  have hW := wk_WG hts
  intro c
  match c with
  | 0 => obtain ⟨p, hp⟩ := wk_one hW uw_X0 (wg2 113 rfl rfl); exact ⟨p, fun q hq => by cases hq; exact hp⟩
  | 1 => obtain ⟨p, hp⟩ := wk_one hW uw_X1 (wg2 7 rfl rfl); exact ⟨p, fun q hq => by cases hq; exact hp⟩
  | 2 => obtain ⟨p, hp⟩ := wk_one hW uw_X2 (wg1 148 rfl rfl); exact ⟨p, fun q hq => by cases hq; exact hp⟩
  | 3 => obtain ⟨p, hp⟩ := wk_one hW uw_X3 (wg1 43 rfl rfl); exact ⟨p, fun q hq => by cases hq; exact hp⟩
  | 4 => obtain ⟨p, hp⟩ := wk_one hW uw_X4 (wg1 216 rfl rfl); exact ⟨p, fun q hq => by cases hq; exact hp⟩
  | 5 => obtain ⟨p, hp⟩ := wk_one hW uw_X5 (wg2 146 rfl rfl); exact ⟨p, fun q hq => by cases hq; exact hp⟩
  | 6 => obtain ⟨p, hp⟩ := wk_one hW uw_X6 (wg1 88 rfl rfl); exact ⟨p, fun q hq => by cases hq; exact hp⟩
  | 7 => obtain ⟨p, hp⟩ := wk_one hW uw_X7 (wg1 193 rfl rfl); exact ⟨p, fun q hq => by cases hq; exact hp⟩
  | 8 => obtain ⟨p, hp⟩ := wk_one hW uw_X8 (wg2 74 rfl rfl); exact ⟨p, fun q hq => by cases hq; exact hp⟩
  | 9 => obtain ⟨p, hp⟩ := wk_one hW uw_X9 (wg2 128 rfl rfl); exact ⟨p, fun q hq => by cases hq; exact hp⟩
  | 10 => obtain ⟨p, hp⟩ := wk_one hW uw_X10 (wg1 37 rfl rfl); exact ⟨p, fun q hq => by cases hq; exact hp⟩
  | 11 => obtain ⟨p, hp⟩ := wk_one hW uw_X11 (wg1 29 rfl rfl); exact ⟨p, fun q hq => by cases hq; exact hp⟩
  | 12 => obtain ⟨p, hp⟩ := wk_one hW uw_X12 (wg7 112 rfl rfl); exact ⟨p, fun q hq => by cases hq; exact hp⟩
  | c + 13 => exact ⟨(0, fun _ => 0), fun q hq => by cases hq⟩
def cs5 (a b c d e : Nat) : Nat → Nat
  | 0 => a
  | 1 => b
  | 2 => c
  | 3 => d
  | _ => e
theorem wk_ar {args : Array Value} {s : State} {ty : FieldType} (h : (Cond.arrayClass ty).before args s = true) : ∃ cA : ClassId, ArrOfT s cA ty ∧ s.vm.findClass ("[" ++ ty.toString) = some cA := by
  obtain ⟨cc, kk, comp, h1, h2, h3⟩ := Cond.arrayClass_spec h
  exact ⟨cc, fun N z => ⟨(fun k h => by cases h), kk, h2, comp, h3⟩, h1⟩
theorem wk_str {args : Array Value} {s : State} {A : Nat → Prop} (hts : ∀ w ∈ lw_tbl, w.before args s = true) (hg : (Jvm.Cond.and given_1 narrow_1).before args s = true) (hA : ∀ a : Nat, a < s.heap.size → ¬ A a) : ∀ i : Nat, ∃ p : Nat × Nat, ∀ q : T9s, strs9[i]? = some q → vk_R q.1 q.2.1 q.2.2.1 p.1 s ∧ vk_S 1 [q.2.2.2.length] [q.2.2.2] (fun _ => p.1) (fun _ => p.2) A s s.heap := by
  intro i
  cases hi : strs9[i]? with
  | none => exact ⟨(0, 0), fun q hq => by cases hq⟩
  | some q =>
    have hm : q ∈ strs9 := List.mem_of_getElem? hi
    have hlen : q.2.2.2.length < 2 ^ 31 := (by decide +kernel : ∀ q ∈ strs9, q.2.2.2.length < 2 ^ 31) q hm
    have hw : ∀ w ∈ sw9t q, w.before args s = true := fun w hw => flat_of_before _ hg w (sw9t_ok q hm w hw)
    have z0 : ∀ i : Nat, i < 1 → i = 0 := fun i hi => by omega
    obtain ⟨adK, adV, hS, hE⟩ := vk_Sof (args := args) (s := s) (N := 1) (tm := fun _ => tS9 q) (len := [q.2.2.2.length]) (byt := [q.2.2.2]) (A := A)
      (fun i hi => by rw [z0 i hi]; exact hlen)
      (fun i hi => hw _ (List.mem_append_left _ (by simp)))
      (fun i hi => hw _ (List.mem_append_left _ (by simp)))
      (fun i hi => hw _ (List.mem_append_left _ (by simp [vS9])))
      (fun i hi => by rw [z0 i hi]; exact hw _ (List.mem_append_left _ (by simp [vS9])))
      (fun i hi j hj => by
        rw [z0 i hi] at hj ⊢
        exact hw _ (List.mem_append_right _ (List.mem_map.mpr ⟨j, List.mem_range.mpr hj, rfl⟩)))
      (fun i j hi hj h => absurd ((z0 i hi).trans (z0 j hj).symm) h) hA
    refine ⟨(adK 0, adV 0), fun q' hq => ?_⟩
    cases hq
    exact ⟨vk_R.of (hts _ (sr9_ok q hm)) (hE 0 (by decide)), ⟨fun i hi => by rw [z0 i hi]; exact hS.1 0 (by decide), fun i j hi hj _ => (z0 i hi).trans (z0 j hj).symm⟩⟩
theorem lw_world {args : Array Value} {s : State} (hts : ∀ w ∈ lw_tbl, w.before args s = true) (hg : (Jvm.Cond.and given_1 narrow_1).before args s = true) : ∃ G : G9, (∀ k, G.1 k = s.heap.size + k) ∧ EV G s s.heap ∧ NC9 s ∧ EC G s := by
  have hf := flat_of_before _ hg
  obtain ⟨P, hP⟩ := Classical.axiomOfChoice (wk_cls hts)
  obtain ⟨c0, i0, f0⟩ := wk_ar (hts _ ar9_ok.1)
  obtain ⟨c1, i1, f1⟩ := wk_ar (hts _ ar9_ok.2.1)
  obtain ⟨c2, i2, f2⟩ := wk_ar (hts _ ar9_ok.2.2.1)
  obtain ⟨c3, i3, f3⟩ := wk_ar (hts _ ar9_ok.2.2.2.1)
  have hov := hts _ ar9_ok.2.2.2.2
  obtain ⟨comp, c4, k4, g1, -, g2, g3, g4⟩ := Cond.arrayOver_spec hov
  have i4 : ArrOfT s c4 (.object "RedHands$Wall") := fun N z => ⟨(fun k h => by cases h), k4, g2, comp, g3⟩
  obtain ⟨Z, hZ⟩ := Classical.axiomOfChoice (wk_str (A := fun q => s.heap.size ≤ q) hts hg (fun a h1 h2 => by omega))
  have hK : ∀ (r1 : Nat → Nat) (r5 r6 : Nat → Nat), va_K (D9c (r1, (fun c => (P c).1), (fun c => (P c).2), cs5 c0 c1 c2 c3 c4, r5, r6)) vwCl (tys9 (r1, (fun c => (P c).1), (fun c => (P c).2), cs5 c0 c1 c2 c3 c4, r5, r6)) s := by
    intro r1 r5 r6
    refine ⟨fun c q hq => hP c q hq, fun k q hq => ?_⟩
    match k, hq with
    | 0, hq => cases hq; exact ⟨i0, f0⟩
    | 1, hq => cases hq; exact ⟨i1, f1⟩
    | 2, hq => cases hq; exact ⟨i2, f2⟩
    | 3, hq => cases hq; exact ⟨i3, f3⟩
    | 4, hq => cases hq; exact ⟨i4, k4, comp, g2, g3, g1, g4⟩
    | k + 5, hq => cases hq
  refine ⟨((fun k => s.heap.size + k), (fun c => (P c).1), (fun c => (P c).2), cs5 c0 c1 c2 c3 c4, (fun i => (Z i).1), (fun i => (Z i).2)), fun _ => rfl, ?_, ?_, ?_⟩
  · have hA9 : ∀ q : Nat, A9 ((fun k => s.heap.size + k), (fun c => (P c).1), (fun c => (P c).2), cs5 c0 c1 c2 c3 c4, (fun i => (Z i).1), (fun i => (Z i).2)) q → s.heap.size ≤ q := by
      rintro q ⟨k, -, rfl⟩
      exact Nat.le_add_right _ _
    have hA : ∀ a : Nat, a < s.heap.size → ¬ A9 ((fun k => s.heap.size + k), (fun c => (P c).1), (fun c => (P c).2), cs5 c0 c1 c2 c3 c4, (fun i => (Z i).1), (fun i => (Z i).2)) a := fun a h1 h2 => by have := hA9 a h2; omega
    refine ⟨hK _ _ _, ?_, ?_, fun q hq => va_Nw.of rfl (hts _ (ns9_ok q hq)), fun w hw => ?_, fun i q hq => ⟨(hZ i q hq).1, (hZ i q hq).2.narrow hA9⟩, ?_, ?_⟩
    · exact vx_Zqof (hts _ ls9_ok.2.2.2.2.1) (hts _ ls9_ok.2.2.2.2.2.2) (hf _ cs9_ok.2.2.1) hA
    · exact vx_Zqof (hts _ ls9_ok.2.2.2.2.2.1) (hts _ ls9_ok.2.2.2.2.2.2) (hf _ cs9_ok.2.2.2) hA
    · obtain ⟨h1, h2⟩ := List.mem_filter.mp hw
      refine va_Nw.of ?_ (hts w h1)
      cases w <;> first | rfl | cases h2
    · exact va_Zof (hts _ ls9_ok.1) (hts _ ls9_ok.2.1) (va_eqt (hf _ cs9_ok.1)) hA
    · exact va_Zqof (hts _ ls9_ok.2.2.1) (hts _ ls9_ok.2.2.2.1) (hf _ cs9_ok.2.1) hA
  · exact fun a b h1 h2 h3 => va_Nc.of (hf _ (nc9_ok a h1 b h2 h3))
  · exact ⟨hK _ _ _, fun q hq => va_Nw.of rfl (hts _ (nsC_ok q hq)), va_AO.of hov⟩

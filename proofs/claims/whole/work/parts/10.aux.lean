def FU : Nat := 1000000
def fix9 {α : Type} (z : α) (B : α → α) : Nat → α
  | 0 => z
  | n + 1 => B (fix9 z B n)
theorem fix9_ind {α : Type} {z : α} {B : α → α} {P : α → Prop} (h0 : P z) (hs : ∀ k, P k → P (B k)) : ∀ n, P (fix9 z B n)
  | 0 => h0
  | n + 1 => hs _ (fix9_ind h0 hs n)
theorem CX.h1 {G : G9} {X : X9} {cc : ByteArray} {nL : Nat} {own : String} {tb : List ExceptionTableEntry} {z : Z9} (C : CX G X cc nL own tb z) : va_D (A9 G) (wl G (fun _ _ => 0)) := C.2.2.2.2.2.2.2.2.2.1
theorem CX.h2 {G : G9} {X : X9} {cc : ByteArray} {nL : Nat} {own : String} {tb : List ExceptionTableEntry} {z : Z9} (C : CX G X cc nL own tb z) : (xL X).stackTraces = false := C.2.2.2.2.2.2.2.2.1
section RA
variable {G : G9} {X : X9} {nL k n pc : Nat} {ls : List (Nat × Value)} {st : List Value} {d : D9} {x y : Option R9} {cc : ByteArray} {own : String} {tb : List ExceptionTableEntry} {z9 : Z9}
theorem ss_wide {k' n' : Nat} (h1 : k ≤ k') (h2 : n ≤ n') (kk : SS G X nL k' n' pc ls st d x) : SS G X nL k n pc ls st d x := fun r hr H locs la hH hS hL => W.widen h1 h2 (kk r hr H locs la hH hS hL)
theorem ss_ls (ls' : List (Nat × Value)) (ks : List Nat) (h : lv_pick ls ks = ls') (kk : SS G X nL k n pc ls' st d x) : SS G X nL k n pc ls st d x := fun r hr H locs la hH hS hL => kk r hr H locs la hH hS (lv_sub hL ks h)
theorem ss_case {a v : Int} (h1 : w32 a = v → SS G X nL k n pc ls st d x) (h2 : w32 a ≠ v → SS G X nL k n pc ls st d y) : SS G X nL k n pc ls st d (if w32 a = v then x else y) := by
  by_cases h : w32 a = v
  · rw [if_pos h]; exact h1 h
  · rw [if_neg h]; exact h2 h
end RA
theorem in_t1 {w : Cond} (h : w ∈ tables_1_1) : w ∈ lw_tbl := List.mem_append_right _ (List.mem_append_left _ h)
theorem in_t2 {w : Cond} (h : w ∈ tables_1_2) : w ∈ lw_tbl := List.mem_append_right _ (List.mem_append_right _ (List.mem_append_left _ h))
theorem in_t3 {w : Cond} (h : w ∈ tables_1_3) : w ∈ lw_tbl := List.mem_append_right _ (List.mem_append_right _ (List.mem_append_right _ (List.mem_append_left _ h)))
theorem in_t4 {w : Cond} (h : w ∈ tables_1_4) : w ∈ lw_tbl := List.mem_append_right _ (List.mem_append_right _ (List.mem_append_right _ (List.mem_append_right _ (List.mem_append_left _ h))))
theorem in_t5 {w : Cond} (h : w ∈ tables_1_5) : w ∈ lw_tbl := List.mem_append_right _ (List.mem_append_right _ (List.mem_append_right _ (List.mem_append_right _ (List.mem_append_right _ (List.mem_append_left _ h)))))
theorem in_t6 {w : Cond} (h : w ∈ tables_1_6) : w ∈ lw_tbl := List.mem_append_right _ (List.mem_append_right _ (List.mem_append_right _ (List.mem_append_right _ (List.mem_append_right _ (List.mem_append_right _ (List.mem_append_left _ h))))))
theorem in_t7 {w : Cond} (h : w ∈ tables_1_7) : w ∈ lw_tbl := List.mem_append_right _ (List.mem_append_right _ (List.mem_append_right _ (List.mem_append_right _ (List.mem_append_right _ (List.mem_append_right _ (List.mem_append_right _ (List.mem_append_left _ h)))))))
theorem in_t8 {w : Cond} (h : w ∈ tables_1_8) : w ∈ lw_tbl := List.mem_append_right _ (List.mem_append_right _ (List.mem_append_right _ (List.mem_append_right _ (List.mem_append_right _ (List.mem_append_right _ (List.mem_append_right _ (List.mem_append_right _ (List.mem_append_left _ h))))))))
theorem in_t9 {w : Cond} (h : w ∈ tables_1_9) : w ∈ lw_tbl := List.mem_append_right _ (List.mem_append_right _ (List.mem_append_right _ (List.mem_append_right _ (List.mem_append_right _ (List.mem_append_right _ (List.mem_append_right _ (List.mem_append_right _ (List.mem_append_right _ (List.mem_append_left _ h)))))))))
theorem in_t10 {w : Cond} (h : w ∈ tables_1_10) : w ∈ lw_tbl := List.mem_append_right _ (List.mem_append_right _ (List.mem_append_right _ (List.mem_append_right _ (List.mem_append_right _ (List.mem_append_right _ (List.mem_append_right _ (List.mem_append_right _ (List.mem_append_right _ (List.mem_append_right _ h)))))))))
theorem in_sel {q : MethodName × Nat} (h : q ∈ lw_privs) : Cond.selects q.1.cls q.1 q.1 ∈ lw_tbl := List.mem_append_left _ (List.mem_map.mpr ⟨q, h, rfl⟩)
theorem wg1 {w : Cond} (i : Nat) (h : tables_1_1[i]? = some w) (g : goodWord w = true) : w ∈ WG := wg_in (in_t1 (List.mem_of_getElem? h)) g
theorem wg2 {w : Cond} (i : Nat) (h : tables_1_2[i]? = some w) (g : goodWord w = true) : w ∈ WG := wg_in (in_t2 (List.mem_of_getElem? h)) g
theorem wg3 {w : Cond} (i : Nat) (h : tables_1_3[i]? = some w) (g : goodWord w = true) : w ∈ WG := wg_in (in_t3 (List.mem_of_getElem? h)) g
theorem wg4 {w : Cond} (i : Nat) (h : tables_1_4[i]? = some w) (g : goodWord w = true) : w ∈ WG := wg_in (in_t4 (List.mem_of_getElem? h)) g
theorem wg5 {w : Cond} (i : Nat) (h : tables_1_5[i]? = some w) (g : goodWord w = true) : w ∈ WG := wg_in (in_t5 (List.mem_of_getElem? h)) g
theorem wg6 {w : Cond} (i : Nat) (h : tables_1_6[i]? = some w) (g : goodWord w = true) : w ∈ WG := wg_in (in_t6 (List.mem_of_getElem? h)) g
theorem wg7 {w : Cond} (i : Nat) (h : tables_1_7[i]? = some w) (g : goodWord w = true) : w ∈ WG := wg_in (in_t7 (List.mem_of_getElem? h)) g
theorem wg8 {w : Cond} (i : Nat) (h : tables_1_8[i]? = some w) (g : goodWord w = true) : w ∈ WG := wg_in (in_t8 (List.mem_of_getElem? h)) g
theorem wg9 {w : Cond} (i : Nat) (h : tables_1_9[i]? = some w) (g : goodWord w = true) : w ∈ WG := wg_in (in_t9 (List.mem_of_getElem? h)) g
theorem wg10 {w : Cond} (i : Nat) (h : tables_1_10[i]? = some w) (g : goodWord w = true) : w ∈ WG := wg_in (in_t10 (List.mem_of_getElem? h)) g
theorem wgs {q : MethodName × Nat} (i : Nat) (h : lw_privs[i]? = some q) (g : goodWord (Cond.selects q.1.cls q.1 q.1) = true) : Cond.selects q.1.cls q.1 q.1 ∈ WG := wg_in (in_sel (List.mem_of_getElem? h)) g

/-! THE CLAIM OUT OF ONE WALK OF THE LAW'S BODY. Your part is whole_start (and what it stands on); all else here is the same for every law, but numbers. -/
def R_law : String := "RedHandsLaw"
def lw_P (b : Addr) (xs : List Int32) (args : Array Value) (s : State) : Prop := args = #[.ref b] ∧ s.IntsAt b xs ∧ xs.length ≤ 3584 ∧ (Jvm.Cond.and given_1 narrow_1).before args s = true
def lw_Q (_ : Array Value) (s : State) (o : Outcome) (t : State) : Prop := o = .returned (some (.int 1)) ∧ Framed s o t [] 601024 7293034
def lw_Z (below : List Frame) (a : Array Value) (s : State) : State → Prop := fun t => ∃ o, t.status = .running ∧ Ended t below o ∧ lw_Q a s o t
/-- the law's own end, with 1 on the stack, nothing written that was there before, its room as the claim has it -/
theorem lw_ret {p : Program} {l : Launch} {e : Env} {s : State} {m : MethodId} {below : List Frame} {meth : Method} {c : Code} {b : Nat} (hx : p.tables.exec = Jvm.exec) (hb : c.code = code) (hr : meth.sig.returnType = ret) (hlocks : meth.locks = false) {pc : Nat} {H : Heap} {ls : Array Slot} (hdg : decode code pc = .ok (.ireturn, 1)) : W p l e room_1 s m #[Value.ref b] below meth c H [] 601024 7293034 (lw_Z below #[Value.ref b] s) (F0 m pc ls [.int 1]) := by
  intro T hT X
  obtain ⟨fs, hret, hrun, hended, hW, hframe⟩ := X.leave (v := some (.int 1)) (hlocks := hlocks) (fun h => by rw [hr] at h; cases h)
  have hmeth' : T.vm.method? m = some meth := X.method'
  refine ⟨T.setFrames fs, ?_, .returned (some (.int 1)), hrun, hended, rfl, ⟨_, rfl⟩, hW, hframe⟩
  jvm_step X.here [X.here.top, hx, hb, hdg, hmeth', hr, ret, narrow_b1]
  (try refine ⟨rfl, ?_⟩); (try refine ⟨rfl, ?_⟩)
  first | (intro acts; rw [hret _ acts rfl rfl rfl]) | rw [hret _ _ rfl rfl rfl]
  exact Steps.refl _
/-- what holds at the law's entry: the machine, the code, the tables' words (any of lw_tbl by 'hts w (by decide +kernel)'), the script of L ints xs at the cell b, what the Statement gives of the start (any of its parts by flat_of_before) -/
def lw_At (p : Program) (s : State) (m : MethodId) (meth : Method) (c : Code) (b L : Nat) (xs : Nat → Int32) : Prop :=
  p.tables.exec = Jvm.exec ∧ c.code = code ∧ meth.sig.returnType = ret ∧ c.maxLocals = 8 ∧ s.vm.findClass R_law = some m.cls ∧ (∀ w ∈ lw_tbl, w.before #[Value.ref b] s = true) ∧ va_X b L xs s s.heap ∧ b < s.heap.size ∧ meth.locks = false ∧ (Jvm.Cond.and given_1 narrow_1).before #[Value.ref b] s = true
abbrev zL9 : Z9 := (some .boolean, 7, 601024, 7293034, 2048, 84000)
def LR9 (G : G9) (X : X9) (b : Nat) : Prop := (∀ r, xQ X r = lw_Z (xB X) #[Value.ref b] (xS X)) ∧ xA X = #[Value.ref b] ∧ xR X = room_1 ∧ (∀ k, k < NC → (xS X).heap.size ≤ G.1 k) ∧ (xT X).sig.returnType = ret
theorem r_lawret {G : G9} {X : X9} {k n pc : Nat} {ls : List (Nat × Value)} {d : D9} {own : String} {b : Nat} (C : CX G X code 8 own [] zL9) (h : LR9 G X b) (hd : decode code pc = .ok (.ireturn, 1)) (hk : k ≤ 601024) (hn : n ≤ 7293034) : SS G X 8 k n pc ls [i9 1] d (rt 1 d) := by
  intro r hr H locs la hH hS hL
  obtain ⟨h1, h2, h3, h4, h5⟩ := h
  unfold Q9
  rw [h1 r]
  refine W.widen hk hn (va_forget (fun q hq => ?_) ?_)
  · obtain ⟨k', hk', e⟩ := hS.2.2 q hq
    rw [e]; exact h4 k' hk'
  · rw [h2, h3]
    exact lw_ret C.1 C.2.1 h5 C.2.2.2.2.2.1 hd
theorem mw_L_7 : MW RL 7 yX11_paint cX11_paint 4 (some .int) 3 := ⟨(wg3 68 rfl rfl), (wg3 71 rfl rfl), (wg1 1 rfl rfl), by decide, by decide, by decide +kernel⟩
theorem mv_X11_paint : Cond.instanceMethod yX11_paint ∈ WG ∧ Cond.selects yX11_paint.cls yX11_paint yX11_paint ∈ WG := ⟨(wg3 69 rfl rfl), (wg3 70 rfl rfl)⟩
theorem mw_L_15 : MW RL 15 yX11_fingers cX11_fingers 7 (none) 6 := ⟨(wg3 153 rfl rfl), (wg3 156 rfl rfl), (wg1 1 rfl rfl), by decide, by decide, by decide +kernel⟩
theorem mv_X11_fingers : Cond.instanceMethod yX11_fingers ∈ WG ∧ Cond.selects yX11_fingers.cls yX11_fingers yX11_fingers ∈ WG := ⟨(wg3 154 rfl rfl), (wg3 155 rfl rfl)⟩
theorem mw_L_23 : MW RL 23 yX11_over cX11_over 4 (some .boolean) 2 := ⟨(wg3 206 rfl rfl), (wg3 209 rfl rfl), (wg1 1 rfl rfl), by decide, by decide, by decide +kernel⟩
theorem mv_X11_over : Cond.instanceMethod yX11_over ∈ WG ∧ Cond.selects yX11_over.cls yX11_over yX11_over ∈ WG := ⟨(wg3 207 rfl rfl), (wg3 208 rfl rfl)⟩
theorem mw_L_27 : MW RL 27 yX11_skin cX11_skin 6 (some .int) 4 := ⟨(wg3 219 rfl rfl), (wg3 222 rfl rfl), (wg1 1 rfl rfl), by decide, by decide, by decide +kernel⟩
theorem mv_X11_skin : Cond.instanceMethod yX11_skin ∈ WG ∧ Cond.selects yX11_skin.cls yX11_skin yX11_skin ∈ WG := ⟨(wg3 220 rfl rfl), (wg3 221 rfl rfl)⟩
theorem mw_L_31 : MW RL 31 yX11_layer cX11_layer 5 (some .int) 4 := ⟨(wg3 231 rfl rfl), (wg3 234 rfl rfl), (wg1 1 rfl rfl), by decide, by decide, by decide +kernel⟩
theorem mv_X11_layer : Cond.instanceMethod yX11_layer ∈ WG ∧ Cond.selects yX11_layer.cls yX11_layer yX11_layer ∈ WG := ⟨(wg3 232 rfl rfl), (wg3 233 rfl rfl)⟩
theorem mw_L_34 : MW RL 34 yX11_of cX11_of 4 (some .int) 2 := ⟨(wg4 64 rfl rfl), (wg4 67 rfl rfl), (wg1 1 rfl rfl), by decide, by decide, by decide +kernel⟩
theorem mv_X11_of : Cond.instanceMethod yX11_of ∈ WG ∧ Cond.selects yX11_of.cls yX11_of yX11_of ∈ WG := ⟨(wg4 65 rfl rfl), (wg4 66 rfl rfl)⟩
theorem mw_L_38 : MW RL 38 yX11_law cX11_law 3 (some .int) 1 := ⟨(wg4 72 rfl rfl), (wg4 75 rfl rfl), (wg1 1 rfl rfl), by decide, by decide, by decide +kernel⟩
theorem mv_X11_law : Cond.instanceMethod yX11_law ∈ WG ∧ Cond.selects yX11_law.cls yX11_law yX11_law ∈ WG := ⟨(wg4 73 rfl rfl), (wg4 74 rfl rfl)⟩
theorem mw_L_42 : MW RL 42 yX11_stories cX11_stories 2 (some .int) 1 := ⟨(wg4 219 rfl rfl), (wg4 222 rfl rfl), (wg1 1 rfl rfl), by decide, by decide, by decide +kernel⟩
theorem mv_X11_stories : Cond.instanceMethod yX11_stories ∈ WG ∧ Cond.selects yX11_stories.cls yX11_stories yX11_stories ∈ WG := ⟨(wg4 220 rfl rfl), (wg4 221 rfl rfl)⟩
theorem mw_L_45 : MW RL 45 yX11_scrapers cX11_scrapers 2 (some .int) 1 := ⟨(wg5 10 rfl rfl), (wg5 13 rfl rfl), (wg1 1 rfl rfl), by decide, by decide, by decide +kernel⟩
theorem mv_X11_scrapers : Cond.instanceMethod yX11_scrapers ∈ WG ∧ Cond.selects yX11_scrapers.cls yX11_scrapers yX11_scrapers ∈ WG := ⟨(wg5 11 rfl rfl), (wg5 12 rfl rfl)⟩
theorem mw_L_48 : MW RL 48 yX11_age cX11_age 5 (some .int) 4 := ⟨(wg5 56 rfl rfl), (wg5 59 rfl rfl), (wg1 1 rfl rfl), by decide, by decide, by decide +kernel⟩
theorem mv_X11_age : Cond.instanceMethod yX11_age ∈ WG ∧ Cond.selects yX11_age.cls yX11_age yX11_age ∈ WG := ⟨(wg5 57 rfl rfl), (wg5 58 rfl rfl)⟩
theorem mw_L_51 : MW RL 51 yX11_span cX11_span 6 (some .int) 3 := ⟨(wg5 67 rfl rfl), (wg5 70 rfl rfl), (wg1 1 rfl rfl), by decide, by decide, by decide +kernel⟩
theorem mv_X11_span : Cond.instanceMethod yX11_span ∈ WG ∧ Cond.selects yX11_span.cls yX11_span yX11_span ∈ WG := ⟨(wg5 68 rfl rfl), (wg5 69 rfl rfl)⟩
theorem mw_L_55 : MW RL 55 yX11_sort cX11_sort 2 (some .int) 1 := ⟨(wg5 75 rfl rfl), (wg5 78 rfl rfl), (wg1 1 rfl rfl), by decide, by decide, by decide +kernel⟩
theorem mv_X11_sort : Cond.instanceMethod yX11_sort ∈ WG ∧ Cond.selects yX11_sort.cls yX11_sort yX11_sort ∈ WG := ⟨(wg5 76 rfl rfl), (wg5 77 rfl rfl)⟩
theorem mw_L_58 : MW RL 58 yX11_says cX11_says 2 (some .int) 1 := ⟨(wg5 82 rfl rfl), (wg5 85 rfl rfl), (wg1 1 rfl rfl), by decide, by decide, by decide +kernel⟩
theorem mv_X11_says : Cond.instanceMethod yX11_says ∈ WG ∧ Cond.selects yX11_says.cls yX11_says yX11_says ∈ WG := ⟨(wg5 83 rfl rfl), (wg5 84 rfl rfl)⟩
theorem mw_L_61 : MW RL 61 yX11_leaked cX11_leaked 2 (none) 1 := ⟨(wg5 89 rfl rfl), (wg5 92 rfl rfl), (wg1 1 rfl rfl), by decide, by decide, by decide +kernel⟩
theorem mv_X11_leaked : Cond.instanceMethod yX11_leaked ∈ WG ∧ Cond.selects yX11_leaked.cls yX11_leaked yX11_leaked ∈ WG := ⟨(wg5 90 rfl rfl), (wg5 91 rfl rfl)⟩
theorem mw_L_65 : MW RL 65 yX11_drip cX11_drip 8 (some .int) 6 := ⟨(wg5 119 rfl rfl), (wg5 122 rfl rfl), (wg1 1 rfl rfl), by decide, by decide, by decide +kernel⟩
theorem mv_X11_drip : Cond.instanceMethod yX11_drip ∈ WG ∧ Cond.selects yX11_drip.cls yX11_drip yX11_drip ∈ WG := ⟨(wg5 120 rfl rfl), (wg5 121 rfl rfl)⟩
theorem mw_L_69 : MW RL 69 yX11_trial cX11_trial 13 (some .int) 5 := ⟨(wg5 139 rfl rfl), (wg5 142 rfl rfl), (wg1 1 rfl rfl), by decide, by decide, by decide +kernel⟩
theorem mv_X11_trial : Cond.instanceMethod yX11_trial ∈ WG ∧ Cond.selects yX11_trial.cls yX11_trial yX11_trial ∈ WG := ⟨(wg5 140 rfl rfl), (wg5 141 rfl rfl)⟩
theorem mw_L_73 : MW RL 73 yX11_bound cX11_bound 3 (some .int) 2 := ⟨(wg5 149 rfl rfl), (wg5 152 rfl rfl), (wg1 1 rfl rfl), by decide, by decide, by decide +kernel⟩
theorem mv_X11_bound : Cond.instanceMethod yX11_bound ∈ WG ∧ Cond.selects yX11_bound.cls yX11_bound yX11_bound ∈ WG := ⟨(wg5 150 rfl rfl), (wg5 151 rfl rfl)⟩
theorem mw_L_77 : MW RL 77 yX11_ring cX11_ring 2 (some .boolean) 1 := ⟨(wg5 158 rfl rfl), (wg5 161 rfl rfl), (wg1 1 rfl rfl), by decide, by decide, by decide +kernel⟩
theorem mv_X11_ring : Cond.instanceMethod yX11_ring ∈ WG ∧ Cond.selects yX11_ring.cls yX11_ring yX11_ring ∈ WG := ⟨(wg5 159 rfl rfl), (wg5 160 rfl rfl)⟩
theorem mw_L_81 : MW RL 81 yX11_above cX11_above 3 (some .boolean) 2 := ⟨(wg5 171 rfl rfl), (wg5 174 rfl rfl), (wg1 1 rfl rfl), by decide, by decide, by decide +kernel⟩
theorem mv_X11_above : Cond.instanceMethod yX11_above ∈ WG ∧ Cond.selects yX11_above.cls yX11_above yX11_above ∈ WG := ⟨(wg5 172 rfl rfl), (wg5 173 rfl rfl)⟩
theorem mw_L_84 : MW RL 84 yX11_rests cX11_rests 2 (some .int) 1 := ⟨(wg5 180 rfl rfl), (wg5 183 rfl rfl), (wg1 1 rfl rfl), by decide, by decide, by decide +kernel⟩
theorem mv_X11_rests : Cond.instanceMethod yX11_rests ∈ WG ∧ Cond.selects yX11_rests.cls yX11_rests yX11_rests ∈ WG := ⟨(wg5 181 rfl rfl), (wg5 182 rfl rfl)⟩
theorem mw_L_87 : MW RL 87 yX11_older cX11_older 3 (none) 2 := ⟨(wg5 191 rfl rfl), (wg5 194 rfl rfl), (wg1 1 rfl rfl), by decide, by decide, by decide +kernel⟩
theorem mv_X11_older : Cond.instanceMethod yX11_older ∈ WG ∧ Cond.selects yX11_older.cls yX11_older yX11_older ∈ WG := ⟨(wg5 192 rfl rfl), (wg5 193 rfl rfl)⟩
theorem mw_L_91 : MW RL 91 yX11_many cX11_many 7 (none) 1 := ⟨(wg5 209 rfl rfl), (wg5 212 rfl rfl), (wg1 1 rfl rfl), by decide, by decide, by decide +kernel⟩
theorem mv_X11_many : Cond.instanceMethod yX11_many ∈ WG ∧ Cond.selects yX11_many.cls yX11_many yX11_many ∈ WG := ⟨(wg5 210 rfl rfl), (wg5 211 rfl rfl)⟩
theorem mw_L_94 : MW RL 94 yX11_told cX11_told 8 (some .int) 6 := ⟨(wg5 217 rfl rfl), (wg5 220 rfl rfl), (wg1 1 rfl rfl), by decide, by decide, by decide +kernel⟩
theorem mv_X11_told : Cond.instanceMethod yX11_told ∈ WG ∧ Cond.selects yX11_told.cls yX11_told yX11_told ∈ WG := ⟨(wg5 218 rfl rfl), (wg5 219 rfl rfl)⟩
theorem mw_L_97 : MW RL 97 yX11_like cX11_like 3 (some .int) 2 := ⟨(wg5 224 rfl rfl), (wg5 227 rfl rfl), (wg1 1 rfl rfl), by decide, by decide, by decide +kernel⟩
theorem mv_X11_like : Cond.instanceMethod yX11_like ∈ WG ∧ Cond.selects yX11_like.cls yX11_like yX11_like ∈ WG := ⟨(wg5 225 rfl rfl), (wg5 226 rfl rfl)⟩
theorem mw_L_100 : MW RL 100 yX11_whose cX11_whose 3 (some .boolean) 2 := ⟨(wg6 2 rfl rfl), (wg6 5 rfl rfl), (wg1 1 rfl rfl), by decide, by decide, by decide +kernel⟩
theorem mv_X11_whose : Cond.instanceMethod yX11_whose ∈ WG ∧ Cond.selects yX11_whose.cls yX11_whose yX11_whose ∈ WG := ⟨(wg6 3 rfl rfl), (wg6 4 rfl rfl)⟩
theorem mw_L_103 : MW RL 103 yX11_ringed cX11_ringed 3 (some .boolean) 2 := ⟨(wg6 20 rfl rfl), (wg6 23 rfl rfl), (wg1 1 rfl rfl), by decide, by decide, by decide +kernel⟩
theorem mv_X11_ringed : Cond.instanceMethod yX11_ringed ∈ WG ∧ Cond.selects yX11_ringed.cls yX11_ringed yX11_ringed ∈ WG := ⟨(wg6 21 rfl rfl), (wg6 22 rfl rfl)⟩
theorem mw_L_106 : MW RL 106 yX11_due cX11_due 3 (some .int) 2 := ⟨(wg6 39 rfl rfl), (wg6 42 rfl rfl), (wg1 1 rfl rfl), by decide, by decide, by decide +kernel⟩
theorem mv_X11_due : Cond.instanceMethod yX11_due ∈ WG ∧ Cond.selects yX11_due.cls yX11_due yX11_due ∈ WG := ⟨(wg6 40 rfl rfl), (wg6 41 rfl rfl)⟩
theorem mw_L_109 : MW RL 109 yX11_stumps cX11_stumps 4 (some .int) 1 := ⟨(wg6 50 rfl rfl), (wg6 53 rfl rfl), (wg1 1 rfl rfl), by decide, by decide, by decide +kernel⟩
theorem mv_X11_stumps : Cond.instanceMethod yX11_stumps ∈ WG ∧ Cond.selects yX11_stumps.cls yX11_stumps yX11_stumps ∈ WG := ⟨(wg6 51 rfl rfl), (wg6 52 rfl rfl)⟩
theorem mw_L_112 : MW RL 112 yX11_bent cX11_bent 3 (some .boolean) 2 := ⟨(wg6 61 rfl rfl), (wg6 64 rfl rfl), (wg1 1 rfl rfl), by decide, by decide, by decide +kernel⟩
theorem mv_X11_bent : Cond.instanceMethod yX11_bent ∈ WG ∧ Cond.selects yX11_bent.cls yX11_bent yX11_bent ∈ WG := ⟨(wg6 62 rfl rfl), (wg6 63 rfl rfl)⟩
theorem mw_L_115 : MW RL 115 yX11_weights cX11_weights 5 (some .boolean) 2 := ⟨(wg6 74 rfl rfl), (wg6 77 rfl rfl), (wg1 1 rfl rfl), by decide, by decide, by decide +kernel⟩
theorem mv_X11_weights : Cond.instanceMethod yX11_weights ∈ WG ∧ Cond.selects yX11_weights.cls yX11_weights yX11_weights ∈ WG := ⟨(wg6 75 rfl rfl), (wg6 76 rfl rfl)⟩
theorem mw_L_119 : MW RL 119 yX11_times cX11_times 3 (some .int) 2 := ⟨(wg6 99 rfl rfl), (wg6 102 rfl rfl), (wg1 1 rfl rfl), by decide, by decide, by decide +kernel⟩
theorem mv_X11_times : Cond.instanceMethod yX11_times ∈ WG ∧ Cond.selects yX11_times.cls yX11_times yX11_times ∈ WG := ⟨(wg6 100 rfl rfl), (wg6 101 rfl rfl)⟩
theorem mw_L_122 : MW RL 122 yX11_who cX11_who 3 (some .boolean) 2 := ⟨(wg6 122 rfl rfl), (wg6 125 rfl rfl), (wg1 1 rfl rfl), by decide, by decide, by decide +kernel⟩
theorem mv_X11_who : Cond.instanceMethod yX11_who ∈ WG ∧ Cond.selects yX11_who.cls yX11_who yX11_who ∈ WG := ⟨(wg6 123 rfl rfl), (wg6 124 rfl rfl)⟩
theorem mw_L_125 : MW RL 125 yX11_alone cX11_alone 3 (some .int) 2 := ⟨(wg6 138 rfl rfl), (wg6 141 rfl rfl), (wg1 1 rfl rfl), by decide, by decide, by decide +kernel⟩
theorem mv_X11_alone : Cond.instanceMethod yX11_alone ∈ WG ∧ Cond.selects yX11_alone.cls yX11_alone yX11_alone ∈ WG := ⟨(wg6 139 rfl rfl), (wg6 140 rfl rfl)⟩
theorem mw_L_128 : MW RL 128 yX11_spread cX11_spread 4 (some .int) 1 := ⟨(wg6 149 rfl rfl), (wg6 152 rfl rfl), (wg1 1 rfl rfl), by decide, by decide, by decide +kernel⟩
theorem mv_X11_spread : Cond.instanceMethod yX11_spread ∈ WG ∧ Cond.selects yX11_spread.cls yX11_spread yX11_spread ∈ WG := ⟨(wg6 150 rfl rfl), (wg6 151 rfl rfl)⟩
theorem mw_L_131 : MW RL 131 yX11_first cX11_first 6 (some .int) 1 := ⟨(wg6 160 rfl rfl), (wg6 163 rfl rfl), (wg1 1 rfl rfl), by decide, by decide, by decide +kernel⟩
theorem mv_X11_first : Cond.instanceMethod yX11_first ∈ WG ∧ Cond.selects yX11_first.cls yX11_first yX11_first ∈ WG := ⟨(wg6 161 rfl rfl), (wg6 162 rfl rfl)⟩
theorem mw_L_134 : MW RL 134 yX11_plan cX11_plan 3 (some .int) 2 := ⟨(wg6 167 rfl rfl), (wg6 170 rfl rfl), (wg1 1 rfl rfl), by decide, by decide, by decide +kernel⟩
theorem mv_X11_plan : Cond.instanceMethod yX11_plan ∈ WG ∧ Cond.selects yX11_plan.cls yX11_plan yX11_plan ∈ WG := ⟨(wg6 168 rfl rfl), (wg6 169 rfl rfl)⟩
theorem mw_L_137 : MW RL 137 yX11_follow cX11_follow 3 (some .int) 2 := ⟨(wg6 201 rfl rfl), (wg6 204 rfl rfl), (wg1 1 rfl rfl), by decide, by decide, by decide +kernel⟩
theorem mv_X11_follow : Cond.instanceMethod yX11_follow ∈ WG ∧ Cond.selects yX11_follow.cls yX11_follow yX11_follow ∈ WG := ⟨(wg6 202 rfl rfl), (wg6 203 rfl rfl)⟩
theorem mw_L_140 : MW RL 140 yX11_behind cX11_behind 2 (some .int) 1 := ⟨(wg6 236 rfl rfl), (wg6 239 rfl rfl), (wg1 1 rfl rfl), by decide, by decide, by decide +kernel⟩
theorem mv_X11_behind : Cond.instanceMethod yX11_behind ∈ WG ∧ Cond.selects yX11_behind.cls yX11_behind yX11_behind ∈ WG := ⟨(wg6 237 rfl rfl), (wg6 238 rfl rfl)⟩
theorem mw_L_143 : MW RL 143 yX11_say cX11_say 2 (some .int) 1 := ⟨(wg7 3 rfl rfl), (wg7 6 rfl rfl), (wg1 1 rfl rfl), by decide, by decide, by decide +kernel⟩
theorem mv_X11_say : Cond.instanceMethod yX11_say ∈ WG ∧ Cond.selects yX11_say.cls yX11_say yX11_say ∈ WG := ⟨(wg7 4 rfl rfl), (wg7 5 rfl rfl)⟩
theorem mw_L_146 : MW RL 146 yX11_tray cX11_tray 4 (none) 3 := ⟨(wg7 24 rfl rfl), (wg7 27 rfl rfl), (wg1 1 rfl rfl), by decide, by decide, by decide +kernel⟩
theorem mv_X11_tray : Cond.instanceMethod yX11_tray ∈ WG ∧ Cond.selects yX11_tray.cls yX11_tray yX11_tray ∈ WG := ⟨(wg7 25 rfl rfl), (wg7 26 rfl rfl)⟩
theorem mw_L_150 : MW RL 150 yX11_write cX11_write 5 (some .long) 3 := ⟨(wg7 36 rfl rfl), (wg7 39 rfl rfl), (wg1 1 rfl rfl), by decide, by decide, by decide +kernel⟩
theorem mv_X11_write : Cond.instanceMethod yX11_write ∈ WG ∧ Cond.selects yX11_write.cls yX11_write yX11_write ∈ WG := ⟨(wg7 37 rfl rfl), (wg7 38 rfl rfl)⟩
theorem mw_L_156 : MW RL 156 yX11_pour cX11_pour 6 (some .int) 2 := ⟨(wg7 63 rfl rfl), (wg7 66 rfl rfl), (wg1 1 rfl rfl), by decide, by decide, by decide +kernel⟩
theorem mv_X11_pour : Cond.instanceMethod yX11_pour ∈ WG ∧ Cond.selects yX11_pour.cls yX11_pour yX11_pour ∈ WG := ⟨(wg7 64 rfl rfl), (wg7 65 rfl rfl)⟩
theorem mw_L_159 : MW RL 159 yX11_image cX11_image 3 (none) 1 := ⟨(wg7 73 rfl rfl), (wg7 76 rfl rfl), (wg1 1 rfl rfl), by decide, by decide, by decide +kernel⟩
theorem mv_X11_image : Cond.instanceMethod yX11_image ∈ WG ∧ Cond.selects yX11_image.cls yX11_image yX11_image ∈ WG := ⟨(wg7 74 rfl rfl), (wg7 75 rfl rfl)⟩
theorem mw_L_162 : MW RL 162 yX11_restore cX11_restore 3 (none) 1 := ⟨(wg7 106 rfl rfl), (wg7 109 rfl rfl), (wg1 1 rfl rfl), by decide, by decide, by decide +kernel⟩
theorem mv_X11_restore : Cond.instanceMethod yX11_restore ∈ WG ∧ Cond.selects yX11_restore.cls yX11_restore yX11_restore ∈ WG := ⟨(wg7 107 rfl rfl), (wg7 108 rfl rfl)⟩
theorem mw_L_174 : MW RL 174 yX12_paint cX12_paint 6 (some .int) 3 := ⟨(wg8 3 rfl rfl), (wg8 6 rfl rfl), (wg1 13 rfl rfl), by decide, by decide, by decide +kernel⟩
theorem mv_X12_paint : Cond.instanceMethod yX12_paint ∈ WG ∧ Cond.selects yX12_paint.cls yX12_paint yX12_paint ∈ WG := ⟨(wg8 4 rfl rfl), (wg8 5 rfl rfl)⟩
theorem mw_L_175 : MW RL 175 yX12_thrown cX12_thrown 1 (some .int) 0 := ⟨(wg7 239 rfl rfl), (wg8 2 rfl rfl), (wg1 13 rfl rfl), by decide, by decide, by decide +kernel⟩
theorem mv_X12_thrown : Cond.instanceMethod yX12_thrown ∈ WG ∧ Cond.selects yX12_thrown.cls yX12_thrown yX12_thrown ∈ WG := ⟨(wg8 0 rfl rfl), (wg8 1 rfl rfl)⟩
theorem mw_L_182 : MW RL 182 yX12_fingers cX12_fingers 8 (none) 6 := ⟨(wg8 17 rfl rfl), (wg8 20 rfl rfl), (wg1 13 rfl rfl), by decide, by decide, by decide +kernel⟩
theorem mv_X12_fingers : Cond.instanceMethod yX12_fingers ∈ WG ∧ Cond.selects yX12_fingers.cls yX12_fingers yX12_fingers ∈ WG := ⟨(wg8 18 rfl rfl), (wg8 19 rfl rfl)⟩
theorem mw_L_186 : MW RL 186 yX12_over cX12_over 4 (some .boolean) 2 := ⟨(wg8 37 rfl rfl), (wg8 40 rfl rfl), (wg1 13 rfl rfl), by decide, by decide, by decide +kernel⟩
theorem mv_X12_over : Cond.instanceMethod yX12_over ∈ WG ∧ Cond.selects yX12_over.cls yX12_over yX12_over ∈ WG := ⟨(wg8 38 rfl rfl), (wg8 39 rfl rfl)⟩
theorem mw_L_190 : MW RL 190 yX12_skin cX12_skin 7 (some .int) 4 := ⟨(wg8 45 rfl rfl), (wg8 48 rfl rfl), (wg1 13 rfl rfl), by decide, by decide, by decide +kernel⟩
theorem mv_X12_skin : Cond.instanceMethod yX12_skin ∈ WG ∧ Cond.selects yX12_skin.cls yX12_skin yX12_skin ∈ WG := ⟨(wg8 46 rfl rfl), (wg8 47 rfl rfl)⟩
theorem mw_L_193 : MW RL 193 yX12_layer cX12_layer 5 (some .int) 4 := ⟨(wg8 50 rfl rfl), (wg8 53 rfl rfl), (wg1 13 rfl rfl), by decide, by decide, by decide +kernel⟩
theorem mv_X12_layer : Cond.instanceMethod yX12_layer ∈ WG ∧ Cond.selects yX12_layer.cls yX12_layer yX12_layer ∈ WG := ⟨(wg8 51 rfl rfl), (wg8 52 rfl rfl)⟩
theorem mw_L_196 : MW RL 196 yX12_of cX12_of 5 (some .int) 2 := ⟨(wg8 70 rfl rfl), (wg8 73 rfl rfl), (wg1 13 rfl rfl), by decide, by decide, by decide +kernel⟩
theorem mv_X12_of : Cond.instanceMethod yX12_of ∈ WG ∧ Cond.selects yX12_of.cls yX12_of yX12_of ∈ WG := ⟨(wg8 71 rfl rfl), (wg8 72 rfl rfl)⟩
theorem mw_L_197 : MW RL 197 yX11_feed cX11_feed 6 (some .int) 5 := ⟨(wg2 225 rfl rfl), (wg2 228 rfl rfl), (wg1 1 rfl rfl), by decide, by decide, by decide +kernel⟩
theorem mv_X11_feed : Cond.instanceMethod yX11_feed ∈ WG ∧ Cond.selects yX11_feed.cls yX11_feed yX11_feed ∈ WG := ⟨(wg2 226 rfl rfl), (wg2 227 rfl rfl)⟩
theorem mw_L_200 : MW RL 200 yX12_feed cX12_feed 8 (some .int) 5 := ⟨(wg8 75 rfl rfl), (wg8 78 rfl rfl), (wg1 13 rfl rfl), by decide, by decide, by decide +kernel⟩
theorem mv_X12_feed : Cond.instanceMethod yX12_feed ∈ WG ∧ Cond.selects yX12_feed.cls yX12_feed yX12_feed ∈ WG := ⟨(wg8 76 rfl rfl), (wg8 77 rfl rfl)⟩
theorem mw_L_204 : MW RL 204 yX12_law cX12_law 4 (some .int) 1 := ⟨(wg8 79 rfl rfl), (wg8 82 rfl rfl), (wg1 13 rfl rfl), by decide, by decide, by decide +kernel⟩
theorem mv_X12_law : Cond.instanceMethod yX12_law ∈ WG ∧ Cond.selects yX12_law.cls yX12_law yX12_law ∈ WG := ⟨(wg8 80 rfl rfl), (wg8 81 rfl rfl)⟩
theorem mw_L_207 : MW RL 207 yX12_stories cX12_stories 4 (some .int) 1 := ⟨(wg8 138 rfl rfl), (wg8 141 rfl rfl), (wg1 13 rfl rfl), by decide, by decide, by decide +kernel⟩
theorem mv_X12_stories : Cond.instanceMethod yX12_stories ∈ WG ∧ Cond.selects yX12_stories.cls yX12_stories yX12_stories ∈ WG := ⟨(wg8 139 rfl rfl), (wg8 140 rfl rfl)⟩
theorem mw_L_210 : MW RL 210 yX12_scrapers cX12_scrapers 3 (some .int) 1 := ⟨(wg8 149 rfl rfl), (wg8 152 rfl rfl), (wg1 13 rfl rfl), by decide, by decide, by decide +kernel⟩
theorem mv_X12_scrapers : Cond.instanceMethod yX12_scrapers ∈ WG ∧ Cond.selects yX12_scrapers.cls yX12_scrapers yX12_scrapers ∈ WG := ⟨(wg8 150 rfl rfl), (wg8 151 rfl rfl)⟩
theorem mw_L_211 : MW RL 211 yX11_fault cX11_fault 2 (some .int) 1 := ⟨(wg2 233 rfl rfl), (wg2 236 rfl rfl), (wg1 1 rfl rfl), by decide, by decide, by decide +kernel⟩
theorem mv_X11_fault : Cond.instanceMethod yX11_fault ∈ WG ∧ Cond.selects yX11_fault.cls yX11_fault yX11_fault ∈ WG := ⟨(wg2 234 rfl rfl), (wg2 235 rfl rfl)⟩
theorem mw_L_214 : MW RL 214 yX12_fault cX12_fault 2 (some .int) 1 := ⟨(wg8 192 rfl rfl), (wg8 195 rfl rfl), (wg1 13 rfl rfl), by decide, by decide, by decide +kernel⟩
theorem mv_X12_fault : Cond.instanceMethod yX12_fault ∈ WG ∧ Cond.selects yX12_fault.cls yX12_fault yX12_fault ∈ WG := ⟨(wg8 193 rfl rfl), (wg8 194 rfl rfl)⟩
theorem mw_L_217 : MW RL 217 yX12_age cX12_age 5 (some .int) 4 := ⟨(wg8 196 rfl rfl), (wg8 199 rfl rfl), (wg1 13 rfl rfl), by decide, by decide, by decide +kernel⟩
theorem mv_X12_age : Cond.instanceMethod yX12_age ∈ WG ∧ Cond.selects yX12_age.cls yX12_age yX12_age ∈ WG := ⟨(wg8 197 rfl rfl), (wg8 198 rfl rfl)⟩
theorem mw_L_221 : MW RL 221 yX12_span cX12_span 4 (some .int) 3 := ⟨(wg8 216 rfl rfl), (wg8 219 rfl rfl), (wg1 13 rfl rfl), by decide, by decide, by decide +kernel⟩
theorem mv_X12_span : Cond.instanceMethod yX12_span ∈ WG ∧ Cond.selects yX12_span.cls yX12_span yX12_span ∈ WG := ⟨(wg8 217 rfl rfl), (wg8 218 rfl rfl)⟩
theorem mw_L_224 : MW RL 224 yX12_sort cX12_sort 2 (some .int) 1 := ⟨(wg9 0 rfl rfl), (wg9 3 rfl rfl), (wg1 13 rfl rfl), by decide, by decide, by decide +kernel⟩
theorem mv_X12_sort : Cond.instanceMethod yX12_sort ∈ WG ∧ Cond.selects yX12_sort.cls yX12_sort yX12_sort ∈ WG := ⟨(wg9 1 rfl rfl), (wg9 2 rfl rfl)⟩
theorem mw_L_227 : MW RL 227 yX12_says cX12_says 2 (some .int) 1 := ⟨(wg9 16 rfl rfl), (wg9 19 rfl rfl), (wg1 13 rfl rfl), by decide, by decide, by decide +kernel⟩
theorem mv_X12_says : Cond.instanceMethod yX12_says ∈ WG ∧ Cond.selects yX12_says.cls yX12_says yX12_says ∈ WG := ⟨(wg9 17 rfl rfl), (wg9 18 rfl rfl)⟩
theorem mw_L_231 : MW RL 231 yX12_leaked cX12_leaked 2 (none) 1 := ⟨(wg9 32 rfl rfl), (wg9 35 rfl rfl), (wg1 13 rfl rfl), by decide, by decide, by decide +kernel⟩
theorem mv_X12_leaked : Cond.instanceMethod yX12_leaked ∈ WG ∧ Cond.selects yX12_leaked.cls yX12_leaked yX12_leaked ∈ WG := ⟨(wg9 33 rfl rfl), (wg9 34 rfl rfl)⟩
theorem mw_L_235 : MW RL 235 yX12_drip cX12_drip 8 (some .int) 6 := ⟨(wg9 45 rfl rfl), (wg9 48 rfl rfl), (wg1 13 rfl rfl), by decide, by decide, by decide +kernel⟩
theorem mv_X12_drip : Cond.instanceMethod yX12_drip ∈ WG ∧ Cond.selects yX12_drip.cls yX12_drip yX12_drip ∈ WG := ⟨(wg9 46 rfl rfl), (wg9 47 rfl rfl)⟩
theorem mw_L_239 : MW RL 239 yX12_trial cX12_trial 9 (some .int) 5 := ⟨(wg9 60 rfl rfl), (wg9 63 rfl rfl), (wg1 13 rfl rfl), by decide, by decide, by decide +kernel⟩
theorem mv_X12_trial : Cond.instanceMethod yX12_trial ∈ WG ∧ Cond.selects yX12_trial.cls yX12_trial yX12_trial ∈ WG := ⟨(wg9 61 rfl rfl), (wg9 62 rfl rfl)⟩
theorem mw_L_243 : MW RL 243 yX12_bound cX12_bound 3 (some .int) 2 := ⟨(wg9 64 rfl rfl), (wg9 67 rfl rfl), (wg1 13 rfl rfl), by decide, by decide, by decide +kernel⟩
theorem mv_X12_bound : Cond.instanceMethod yX12_bound ∈ WG ∧ Cond.selects yX12_bound.cls yX12_bound yX12_bound ∈ WG := ⟨(wg9 65 rfl rfl), (wg9 66 rfl rfl)⟩
theorem mw_L_244 : MW RL 244 yX11_clash cX11_clash 4 (some .int) 1 := ⟨(wg2 237 rfl rfl), (wg3 0 rfl rfl), (wg1 1 rfl rfl), by decide, by decide, by decide +kernel⟩
theorem mv_X11_clash : Cond.instanceMethod yX11_clash ∈ WG ∧ Cond.selects yX11_clash.cls yX11_clash yX11_clash ∈ WG := ⟨(wg2 238 rfl rfl), (wg2 239 rfl rfl)⟩
theorem mw_L_247 : MW RL 247 yX12_clash cX12_clash 4 (some .int) 1 := ⟨(wg9 80 rfl rfl), (wg9 83 rfl rfl), (wg1 13 rfl rfl), by decide, by decide, by decide +kernel⟩
theorem mv_X12_clash : Cond.instanceMethod yX12_clash ∈ WG ∧ Cond.selects yX12_clash.cls yX12_clash yX12_clash ∈ WG := ⟨(wg9 81 rfl rfl), (wg9 82 rfl rfl)⟩
theorem mw_L_250 : MW RL 250 yX12_ring cX12_ring 2 (some .boolean) 1 := ⟨(wg9 88 rfl rfl), (wg9 91 rfl rfl), (wg1 13 rfl rfl), by decide, by decide, by decide +kernel⟩
theorem mv_X12_ring : Cond.instanceMethod yX12_ring ∈ WG ∧ Cond.selects yX12_ring.cls yX12_ring yX12_ring ∈ WG := ⟨(wg9 89 rfl rfl), (wg9 90 rfl rfl)⟩
theorem mw_L_253 : MW RL 253 yX12_above cX12_above 3 (some .boolean) 2 := ⟨(wg9 92 rfl rfl), (wg9 95 rfl rfl), (wg1 13 rfl rfl), by decide, by decide, by decide +kernel⟩
theorem mv_X12_above : Cond.instanceMethod yX12_above ∈ WG ∧ Cond.selects yX12_above.cls yX12_above yX12_above ∈ WG := ⟨(wg9 93 rfl rfl), (wg9 94 rfl rfl)⟩
theorem mw_L_256 : MW RL 256 yX12_rests cX12_rests 6 (some .int) 1 := ⟨(wg9 96 rfl rfl), (wg9 99 rfl rfl), (wg1 13 rfl rfl), by decide, by decide, by decide +kernel⟩
theorem mv_X12_rests : Cond.instanceMethod yX12_rests ∈ WG ∧ Cond.selects yX12_rests.cls yX12_rests yX12_rests ∈ WG := ⟨(wg9 97 rfl rfl), (wg9 98 rfl rfl)⟩
theorem mw_L_260 : MW RL 260 yX12_older cX12_older 9 (none) 2 := ⟨(wg9 100 rfl rfl), (wg9 103 rfl rfl), (wg1 13 rfl rfl), by decide, by decide, by decide +kernel⟩
theorem mv_X12_older : Cond.instanceMethod yX12_older ∈ WG ∧ Cond.selects yX12_older.cls yX12_older yX12_older ∈ WG := ⟨(wg9 101 rfl rfl), (wg9 102 rfl rfl)⟩
theorem mw_L_263 : MW RL 263 yX12_many cX12_many 7 (none) 1 := ⟨(wg9 108 rfl rfl), (wg9 111 rfl rfl), (wg1 13 rfl rfl), by decide, by decide, by decide +kernel⟩
theorem mv_X12_many : Cond.instanceMethod yX12_many ∈ WG ∧ Cond.selects yX12_many.cls yX12_many yX12_many ∈ WG := ⟨(wg9 109 rfl rfl), (wg9 110 rfl rfl)⟩
theorem mw_L_264 : MW RL 264 yX11_upper cX11_upper 1 (some .long) 0 := ⟨(wg3 52 rfl rfl), (wg3 55 rfl rfl), (wg1 1 rfl rfl), by decide, by decide, by decide +kernel⟩
theorem mv_X11_upper : Cond.instanceMethod yX11_upper ∈ WG ∧ Cond.selects yX11_upper.cls yX11_upper yX11_upper ∈ WG := ⟨(wg3 53 rfl rfl), (wg3 54 rfl rfl)⟩
theorem mw_L_268 : MW RL 268 yX12_upper cX12_upper 1 (some .long) 0 := ⟨(wg9 24 rfl rfl), (wg9 27 rfl rfl), (wg1 13 rfl rfl), by decide, by decide, by decide +kernel⟩
theorem mv_X12_upper : Cond.instanceMethod yX12_upper ∈ WG ∧ Cond.selects yX12_upper.cls yX12_upper yX12_upper ∈ WG := ⟨(wg9 25 rfl rfl), (wg9 26 rfl rfl)⟩
theorem mw_L_269 : MW RL 269 yX11_lower cX11_lower 1 (some .long) 0 := ⟨(wg3 56 rfl rfl), (wg3 59 rfl rfl), (wg1 1 rfl rfl), by decide, by decide, by decide +kernel⟩
theorem mv_X11_lower : Cond.instanceMethod yX11_lower ∈ WG ∧ Cond.selects yX11_lower.cls yX11_lower yX11_lower ∈ WG := ⟨(wg3 57 rfl rfl), (wg3 58 rfl rfl)⟩
theorem mw_L_272 : MW RL 272 yX12_lower cX12_lower 1 (some .long) 0 := ⟨(wg9 28 rfl rfl), (wg9 31 rfl rfl), (wg1 13 rfl rfl), by decide, by decide, by decide +kernel⟩
theorem mv_X12_lower : Cond.instanceMethod yX12_lower ∈ WG ∧ Cond.selects yX12_lower.cls yX12_lower yX12_lower ∈ WG := ⟨(wg9 29 rfl rfl), (wg9 30 rfl rfl)⟩
theorem mw_L_275 : MW RL 275 yX12_told cX12_told 8 (some .int) 6 := ⟨(wg9 112 rfl rfl), (wg9 115 rfl rfl), (wg1 13 rfl rfl), by decide, by decide, by decide +kernel⟩
theorem mv_X12_told : Cond.instanceMethod yX12_told ∈ WG ∧ Cond.selects yX12_told.cls yX12_told yX12_told ∈ WG := ⟨(wg9 113 rfl rfl), (wg9 114 rfl rfl)⟩
theorem mw_L_278 : MW RL 278 yX12_like cX12_like 5 (some .int) 2 := ⟨(wg9 116 rfl rfl), (wg9 119 rfl rfl), (wg1 13 rfl rfl), by decide, by decide, by decide +kernel⟩
theorem mv_X12_like : Cond.instanceMethod yX12_like ∈ WG ∧ Cond.selects yX12_like.cls yX12_like yX12_like ∈ WG := ⟨(wg9 117 rfl rfl), (wg9 118 rfl rfl)⟩
theorem mw_L_281 : MW RL 281 yX12_whose cX12_whose 8 (some .boolean) 2 := ⟨(wg9 138 rfl rfl), (wg9 141 rfl rfl), (wg1 13 rfl rfl), by decide, by decide, by decide +kernel⟩
theorem mv_X12_whose : Cond.instanceMethod yX12_whose ∈ WG ∧ Cond.selects yX12_whose.cls yX12_whose yX12_whose ∈ WG := ⟨(wg9 139 rfl rfl), (wg9 140 rfl rfl)⟩
theorem mw_L_284 : MW RL 284 yX12_ringed cX12_ringed 8 (some .boolean) 2 := ⟨(wg9 150 rfl rfl), (wg9 153 rfl rfl), (wg1 13 rfl rfl), by decide, by decide, by decide +kernel⟩
theorem mv_X12_ringed : Cond.instanceMethod yX12_ringed ∈ WG ∧ Cond.selects yX12_ringed.cls yX12_ringed yX12_ringed ∈ WG := ⟨(wg9 151 rfl rfl), (wg9 152 rfl rfl)⟩
theorem mw_L_287 : MW RL 287 yX12_due cX12_due 3 (some .int) 2 := ⟨(wg9 157 rfl rfl), (wg9 160 rfl rfl), (wg1 13 rfl rfl), by decide, by decide, by decide +kernel⟩
theorem mv_X12_due : Cond.instanceMethod yX12_due ∈ WG ∧ Cond.selects yX12_due.cls yX12_due yX12_due ∈ WG := ⟨(wg9 158 rfl rfl), (wg9 159 rfl rfl)⟩
theorem mw_L_290 : MW RL 290 yX12_stumps cX12_stumps 4 (some .int) 1 := ⟨(wg9 165 rfl rfl), (wg9 168 rfl rfl), (wg1 13 rfl rfl), by decide, by decide, by decide +kernel⟩
theorem mv_X12_stumps : Cond.instanceMethod yX12_stumps ∈ WG ∧ Cond.selects yX12_stumps.cls yX12_stumps yX12_stumps ∈ WG := ⟨(wg9 166 rfl rfl), (wg9 167 rfl rfl)⟩
theorem mw_L_293 : MW RL 293 yX12_bent cX12_bent 8 (some .boolean) 2 := ⟨(wg9 173 rfl rfl), (wg9 176 rfl rfl), (wg1 13 rfl rfl), by decide, by decide, by decide +kernel⟩
theorem mv_X12_bent : Cond.instanceMethod yX12_bent ∈ WG ∧ Cond.selects yX12_bent.cls yX12_bent yX12_bent ∈ WG := ⟨(wg9 174 rfl rfl), (wg9 175 rfl rfl)⟩
theorem mw_L_297 : MW RL 297 yX12_weights cX12_weights 4 (some .boolean) 2 := ⟨(wg9 177 rfl rfl), (wg9 180 rfl rfl), (wg1 13 rfl rfl), by decide, by decide, by decide +kernel⟩
theorem mv_X12_weights : Cond.instanceMethod yX12_weights ∈ WG ∧ Cond.selects yX12_weights.cls yX12_weights yX12_weights ∈ WG := ⟨(wg9 178 rfl rfl), (wg9 179 rfl rfl)⟩
theorem mw_L_300 : MW RL 300 yX12_times cX12_times 7 (some .int) 2 := ⟨(wg9 184 rfl rfl), (wg9 187 rfl rfl), (wg1 13 rfl rfl), by decide, by decide, by decide +kernel⟩
theorem mv_X12_times : Cond.instanceMethod yX12_times ∈ WG ∧ Cond.selects yX12_times.cls yX12_times yX12_times ∈ WG := ⟨(wg9 185 rfl rfl), (wg9 186 rfl rfl)⟩
theorem mw_L_303 : MW RL 303 yX12_who cX12_who 9 (some .boolean) 2 := ⟨(wg9 196 rfl rfl), (wg9 199 rfl rfl), (wg1 13 rfl rfl), by decide, by decide, by decide +kernel⟩
theorem mv_X12_who : Cond.instanceMethod yX12_who ∈ WG ∧ Cond.selects yX12_who.cls yX12_who yX12_who ∈ WG := ⟨(wg9 197 rfl rfl), (wg9 198 rfl rfl)⟩
theorem mw_L_306 : MW RL 306 yX12_alone cX12_alone 3 (some .int) 2 := ⟨(wg9 204 rfl rfl), (wg9 207 rfl rfl), (wg1 13 rfl rfl), by decide, by decide, by decide +kernel⟩
theorem mv_X12_alone : Cond.instanceMethod yX12_alone ∈ WG ∧ Cond.selects yX12_alone.cls yX12_alone yX12_alone ∈ WG := ⟨(wg9 205 rfl rfl), (wg9 206 rfl rfl)⟩
theorem mw_L_309 : MW RL 309 yX12_spread cX12_spread 4 (some .int) 1 := ⟨(wg9 216 rfl rfl), (wg9 219 rfl rfl), (wg1 13 rfl rfl), by decide, by decide, by decide +kernel⟩
theorem mv_X12_spread : Cond.instanceMethod yX12_spread ∈ WG ∧ Cond.selects yX12_spread.cls yX12_spread yX12_spread ∈ WG := ⟨(wg9 217 rfl rfl), (wg9 218 rfl rfl)⟩
theorem mw_L_312 : MW RL 312 yX12_first cX12_first 4 (some .int) 1 := ⟨(wg9 225 rfl rfl), (wg9 228 rfl rfl), (wg1 13 rfl rfl), by decide, by decide, by decide +kernel⟩
theorem mv_X12_first : Cond.instanceMethod yX12_first ∈ WG ∧ Cond.selects yX12_first.cls yX12_first yX12_first ∈ WG := ⟨(wg9 226 rfl rfl), (wg9 227 rfl rfl)⟩
theorem mw_L_315 : MW RL 315 yX12_plan cX12_plan 7 (some .int) 2 := ⟨(wg9 229 rfl rfl), (wg9 232 rfl rfl), (wg1 13 rfl rfl), by decide, by decide, by decide +kernel⟩
theorem mw_L_318 : MW RL 318 yX12_follow cX12_follow 3 (some .int) 2 := ⟨(wg10 6 rfl rfl), (wg10 9 rfl rfl), (wg1 13 rfl rfl), by decide, by decide, by decide +kernel⟩
theorem mv_X12_follow : Cond.instanceMethod yX12_follow ∈ WG ∧ Cond.selects yX12_follow.cls yX12_follow yX12_follow ∈ WG := ⟨(wg10 7 rfl rfl), (wg10 8 rfl rfl)⟩
theorem mw_L_321 : MW RL 321 yX12_behind cX12_behind 4 (some .int) 1 := ⟨(wg10 30 rfl rfl), (wg10 33 rfl rfl), (wg1 13 rfl rfl), by decide, by decide, by decide +kernel⟩
theorem mv_X12_behind : Cond.instanceMethod yX12_behind ∈ WG ∧ Cond.selects yX12_behind.cls yX12_behind yX12_behind ∈ WG := ⟨(wg10 31 rfl rfl), (wg10 32 rfl rfl)⟩
theorem mw_L_324 : MW RL 324 yX12_say cX12_say 6 (some .int) 1 := ⟨(wg10 35 rfl rfl), (wg10 38 rfl rfl), (wg1 13 rfl rfl), by decide, by decide, by decide +kernel⟩
theorem mv_X12_say : Cond.instanceMethod yX12_say ∈ WG ∧ Cond.selects yX12_say.cls yX12_say yX12_say ∈ WG := ⟨(wg10 36 rfl rfl), (wg10 37 rfl rfl)⟩
theorem mw_L_328 : MW RL 328 yX12_tray cX12_tray 5 (none) 3 := ⟨(wg10 43 rfl rfl), (wg10 46 rfl rfl), (wg1 13 rfl rfl), by decide, by decide, by decide +kernel⟩
theorem mv_X12_tray : Cond.instanceMethod yX12_tray ∈ WG ∧ Cond.selects yX12_tray.cls yX12_tray yX12_tray ∈ WG := ⟨(wg10 44 rfl rfl), (wg10 45 rfl rfl)⟩
theorem mw_L_334 : MW RL 334 yX12_write cX12_write 6 (some .long) 3 := ⟨(wg10 48 rfl rfl), (wg10 51 rfl rfl), (wg1 13 rfl rfl), by decide, by decide, by decide +kernel⟩
theorem mv_X12_write : Cond.instanceMethod yX12_write ∈ WG ∧ Cond.selects yX12_write.cls yX12_write yX12_write ∈ WG := ⟨(wg10 49 rfl rfl), (wg10 50 rfl rfl)⟩
theorem mw_L_337 : MW RL 337 yX12_pour cX12_pour 6 (some .int) 2 := ⟨(wg10 52 rfl rfl), (wg10 55 rfl rfl), (wg1 13 rfl rfl), by decide, by decide, by decide +kernel⟩
theorem mv_X12_pour : Cond.instanceMethod yX12_pour ∈ WG ∧ Cond.selects yX12_pour.cls yX12_pour yX12_pour ∈ WG := ⟨(wg10 53 rfl rfl), (wg10 54 rfl rfl)⟩
theorem mw_L_340 : MW RL 340 yX12_image cX12_image 3 (none) 1 := ⟨(wg10 56 rfl rfl), (wg10 59 rfl rfl), (wg1 13 rfl rfl), by decide, by decide, by decide +kernel⟩
theorem mv_X12_image : Cond.instanceMethod yX12_image ∈ WG ∧ Cond.selects yX12_image.cls yX12_image yX12_image ∈ WG := ⟨(wg10 57 rfl rfl), (wg10 58 rfl rfl)⟩
theorem mw_L_343 : MW RL 343 yX12_restore cX12_restore 3 (none) 1 := ⟨(wg10 60 rfl rfl), (wg10 63 rfl rfl), (wg1 13 rfl rfl), by decide, by decide, by decide +kernel⟩
theorem mv_X12_restore : Cond.instanceMethod yX12_restore ∈ WG ∧ Cond.selects yX12_restore.cls yX12_restore yX12_restore ∈ WG := ⟨(wg10 61 rfl rfl), (wg10 62 rfl rfl)⟩
theorem mw_L_344 : MW RL 344 yX11_count cX11_count 2 (some .int) 1 := ⟨(wg3 60 rfl rfl), (wg3 63 rfl rfl), (wg1 1 rfl rfl), by decide, by decide, by decide +kernel⟩
theorem mv_X11_count : Cond.instanceMethod yX11_count ∈ WG ∧ Cond.selects yX11_count.cls yX11_count yX11_count ∈ WG := ⟨(wg3 61 rfl rfl), (wg3 62 rfl rfl)⟩
theorem mw_L_347 : MW RL 347 yX12_count cX12_count 2 (some .int) 1 := ⟨(wg10 64 rfl rfl), (wg10 67 rfl rfl), (wg1 13 rfl rfl), by decide, by decide, by decide +kernel⟩
theorem mv_X12_count : Cond.instanceMethod yX12_count ∈ WG ∧ Cond.selects yX12_count.cls yX12_count yX12_count ∈ WG := ⟨(wg10 65 rfl rfl), (wg10 66 rfl rfl)⟩
theorem mwh_L_169 : MWH RL 169 yL_paint cL_paint 6 (some .int) [(0, 12, 15, 13)] 5 := ⟨(wg3 64 rfl rfl), (wg3 66 rfl rfl), (wg1 0 rfl rfl), (wg3 65 rfl rfl), by decide, by decide, by decide +kernel⟩
theorem mwh_L_179 : MWH RL 179 yL_fingers cL_fingers 8 (some .int) [(0, 13, 16, 19), (0, 13, 20, 21), (0, 13, 24, 13)] 7 := ⟨(wg3 148 rfl rfl), (wg3 150 rfl rfl), (wg1 0 rfl rfl), (wg3 149 rfl rfl), by decide, by decide, by decide +kernel⟩
theorem mwh_L_183 : MWH RL 183 yL_over cL_over 5 (some .int) [(0, 17, 20, 19), (0, 17, 24, 13)] 4 := ⟨(wg3 203 rfl rfl), (wg3 205 rfl rfl), (wg1 0 rfl rfl), (wg3 204 rfl rfl), by decide, by decide, by decide +kernel⟩
theorem mwh_L_187 : MWH RL 187 yL_skin cL_skin 7 (some .int) [(0, 14, 17, 19), (0, 14, 21, 13)] 6 := ⟨(wg3 216 rfl rfl), (wg3 218 rfl rfl), (wg1 0 rfl rfl), (wg3 217 rfl rfl), by decide, by decide, by decide +kernel⟩
theorem mwh_L_191 : MWH RL 191 yL_layer cL_layer 7 (some .int) [(0, 14, 17, 19), (0, 14, 21, 13)] 6 := ⟨(wg3 228 rfl rfl), (wg3 230 rfl rfl), (wg1 0 rfl rfl), (wg3 229 rfl rfl), by decide, by decide, by decide +kernel⟩
theorem mwh_L_194 : MWH RL 194 yL_of cL_of 5 (some .int) [(0, 10, 13, 19), (0, 10, 17, 13)] 4 := ⟨(wg4 61 rfl rfl), (wg4 63 rfl rfl), (wg1 0 rfl rfl), (wg4 62 rfl rfl), by decide, by decide, by decide +kernel⟩
theorem mwh_L_201 : MWH RL 201 yL_law cL_law 4 (some .int) [(0, 9, 12, 13)] 3 := ⟨(wg4 69 rfl rfl), (wg4 71 rfl rfl), (wg1 0 rfl rfl), (wg4 70 rfl rfl), by decide, by decide, by decide +kernel⟩
theorem mwh_L_205 : MWH RL 205 yL_stories cL_stories 4 (some .int) [(0, 9, 12, 13)] 3 := ⟨(wg4 216 rfl rfl), (wg4 218 rfl rfl), (wg1 0 rfl rfl), (wg4 217 rfl rfl), by decide, by decide, by decide +kernel⟩
theorem mwh_L_208 : MWH RL 208 yL_scrapers cL_scrapers 4 (some .int) [(0, 9, 12, 13)] 3 := ⟨(wg5 7 rfl rfl), (wg5 9 rfl rfl), (wg1 0 rfl rfl), (wg5 8 rfl rfl), by decide, by decide, by decide +kernel⟩
theorem mwh_L_215 : MWH RL 215 yL_age cL_age 7 (some .int) [(0, 14, 17, 13)] 6 := ⟨(wg5 53 rfl rfl), (wg5 55 rfl rfl), (wg1 0 rfl rfl), (wg5 54 rfl rfl), by decide, by decide, by decide +kernel⟩
theorem mwh_L_218 : MWH RL 218 yL_span cL_span 6 (some .int) [(0, 12, 15, 19)] 5 := ⟨(wg5 64 rfl rfl), (wg5 66 rfl rfl), (wg1 0 rfl rfl), (wg5 65 rfl rfl), by decide, by decide, by decide +kernel⟩
theorem mwh_L_222 : MWH RL 222 yL_sort cL_sort 4 (some .int) [(0, 9, 12, 19)] 3 := ⟨(wg5 72 rfl rfl), (wg5 74 rfl rfl), (wg1 0 rfl rfl), (wg5 73 rfl rfl), by decide, by decide, by decide +kernel⟩
theorem mwh_L_225 : MWH RL 225 yL_says cL_says 4 (some .int) [(0, 9, 12, 19)] 3 := ⟨(wg5 79 rfl rfl), (wg5 81 rfl rfl), (wg1 0 rfl rfl), (wg5 80 rfl rfl), by decide, by decide, by decide +kernel⟩
theorem mwh_L_228 : MWH RL 228 yL_leaked cL_leaked 3 (some .int) [(0, 5, 8, 19)] 2 := ⟨(wg5 86 rfl rfl), (wg5 88 rfl rfl), (wg1 0 rfl rfl), (wg5 87 rfl rfl), by decide, by decide, by decide +kernel⟩
theorem mwh_L_232 : MWH RL 232 yL_drip cL_drip 9 (some .int) [(0, 18, 21, 19), (0, 18, 25, 13)] 8 := ⟨(wg5 116 rfl rfl), (wg5 118 rfl rfl), (wg1 0 rfl rfl), (wg5 117 rfl rfl), by decide, by decide, by decide +kernel⟩
theorem mwh_L_236 : MWH RL 236 yL_trial cL_trial 8 (some .int) [(0, 16, 19, 13)] 7 := ⟨(wg5 136 rfl rfl), (wg5 138 rfl rfl), (wg1 0 rfl rfl), (wg5 137 rfl rfl), by decide, by decide, by decide +kernel⟩
theorem mwh_L_240 : MWH RL 240 yL_bound cL_bound 5 (some .int) [(0, 10, 13, 19)] 4 := ⟨(wg5 146 rfl rfl), (wg5 148 rfl rfl), (wg1 0 rfl rfl), (wg5 147 rfl rfl), by decide, by decide, by decide +kernel⟩
theorem mwh_L_248 : MWH RL 248 yL_ring cL_ring 4 (some .int) [(0, 16, 19, 19)] 3 := ⟨(wg5 155 rfl rfl), (wg5 157 rfl rfl), (wg1 0 rfl rfl), (wg5 156 rfl rfl), by decide, by decide, by decide +kernel⟩
theorem mwh_L_251 : MWH RL 251 yL_above cL_above 5 (some .int) [(0, 17, 20, 19)] 4 := ⟨(wg5 168 rfl rfl), (wg5 170 rfl rfl), (wg1 0 rfl rfl), (wg5 169 rfl rfl), by decide, by decide, by decide +kernel⟩
theorem mwh_L_254 : MWH RL 254 yL_rests cL_rests 4 (some .int) [(0, 9, 12, 19)] 3 := ⟨(wg5 177 rfl rfl), (wg5 179 rfl rfl), (wg1 0 rfl rfl), (wg5 178 rfl rfl), by decide, by decide, by decide +kernel⟩
theorem mwh_L_257 : MWH RL 257 yL_older cL_older 4 (some .int) [(0, 6, 9, 19), (0, 6, 12, 13)] 3 := ⟨(wg5 188 rfl rfl), (wg5 190 rfl rfl), (wg1 0 rfl rfl), (wg5 189 rfl rfl), by decide, by decide, by decide +kernel⟩
theorem mwh_L_261 : MWH RL 261 yL_many cL_many 3 (some .int) [(0, 5, 8, 13)] 2 := ⟨(wg5 206 rfl rfl), (wg5 208 rfl rfl), (wg1 0 rfl rfl), (wg5 207 rfl rfl), by decide, by decide, by decide +kernel⟩
theorem mwh_L_273 : MWH RL 273 yL_told cL_told 9 (some .int) [(0, 18, 21, 13)] 8 := ⟨(wg5 214 rfl rfl), (wg5 216 rfl rfl), (wg1 0 rfl rfl), (wg5 215 rfl rfl), by decide, by decide, by decide +kernel⟩
theorem mwh_L_276 : MWH RL 276 yL_like cL_like 5 (some .int) [(0, 10, 13, 19), (0, 10, 17, 21), (0, 10, 21, 13)] 4 := ⟨(wg5 221 rfl rfl), (wg5 223 rfl rfl), (wg1 0 rfl rfl), (wg5 222 rfl rfl), by decide, by decide, by decide +kernel⟩
theorem mwh_L_279 : MWH RL 279 yL_whose cL_whose 5 (some .int) [(0, 17, 20, 19), (0, 17, 24, 21), (0, 17, 28, 13)] 4 := ⟨(wg5 239 rfl rfl), (wg6 1 rfl rfl), (wg1 0 rfl rfl), (wg6 0 rfl rfl), by decide, by decide, by decide +kernel⟩
theorem mwh_L_282 : MWH RL 282 yL_ringed cL_ringed 5 (some .int) [(0, 17, 20, 19), (0, 17, 24, 21), (0, 17, 28, 13)] 4 := ⟨(wg6 17 rfl rfl), (wg6 19 rfl rfl), (wg1 0 rfl rfl), (wg6 18 rfl rfl), by decide, by decide, by decide +kernel⟩
theorem mwh_L_285 : MWH RL 285 yL_due cL_due 5 (some .int) [(0, 10, 13, 19), (0, 10, 17, 21), (0, 10, 21, 13)] 4 := ⟨(wg6 36 rfl rfl), (wg6 38 rfl rfl), (wg1 0 rfl rfl), (wg6 37 rfl rfl), by decide, by decide, by decide +kernel⟩
theorem mwh_L_288 : MWH RL 288 yL_stumps cL_stumps 4 (some .int) [(0, 9, 12, 19), (0, 9, 15, 21)] 3 := ⟨(wg6 47 rfl rfl), (wg6 49 rfl rfl), (wg1 0 rfl rfl), (wg6 48 rfl rfl), by decide, by decide, by decide +kernel⟩
theorem mwh_L_291 : MWH RL 291 yL_bent cL_bent 5 (some .int) [(0, 17, 20, 19), (0, 17, 24, 21), (0, 17, 28, 13)] 4 := ⟨(wg6 58 rfl rfl), (wg6 60 rfl rfl), (wg1 0 rfl rfl), (wg6 59 rfl rfl), by decide, by decide, by decide +kernel⟩
theorem mwh_L_294 : MWH RL 294 yL_weights cL_weights 5 (some .int) [(0, 17, 20, 19), (0, 17, 24, 21)] 4 := ⟨(wg6 71 rfl rfl), (wg6 73 rfl rfl), (wg1 0 rfl rfl), (wg6 72 rfl rfl), by decide, by decide, by decide +kernel⟩
theorem mwh_L_298 : MWH RL 298 yL_times cL_times 5 (some .int) [(0, 10, 13, 19), (0, 10, 17, 13)] 4 := ⟨(wg6 96 rfl rfl), (wg6 98 rfl rfl), (wg1 0 rfl rfl), (wg6 97 rfl rfl), by decide, by decide, by decide +kernel⟩
theorem mwh_L_301 : MWH RL 301 yL_who cL_who 5 (some .int) [(0, 17, 20, 19), (0, 17, 24, 13)] 4 := ⟨(wg6 119 rfl rfl), (wg6 121 rfl rfl), (wg1 0 rfl rfl), (wg6 120 rfl rfl), by decide, by decide, by decide +kernel⟩
theorem mwh_L_304 : MWH RL 304 yL_alone cL_alone 5 (some .int) [(0, 10, 13, 19), (0, 10, 17, 13)] 4 := ⟨(wg6 135 rfl rfl), (wg6 137 rfl rfl), (wg1 0 rfl rfl), (wg6 136 rfl rfl), by decide, by decide, by decide +kernel⟩
theorem mwh_L_307 : MWH RL 307 yL_spread cL_spread 4 (some .int) [(0, 9, 12, 13)] 3 := ⟨(wg6 146 rfl rfl), (wg6 148 rfl rfl), (wg1 0 rfl rfl), (wg6 147 rfl rfl), by decide, by decide, by decide +kernel⟩
theorem mwh_L_310 : MWH RL 310 yL_first cL_first 4 (some .int) [(0, 9, 12, 13)] 3 := ⟨(wg6 157 rfl rfl), (wg6 159 rfl rfl), (wg1 0 rfl rfl), (wg6 158 rfl rfl), by decide, by decide, by decide +kernel⟩
theorem mwh_L_313 : MWH RL 313 yL_plan cL_plan 5 (some .int) [(0, 10, 13, 13)] 4 := ⟨(wg6 164 rfl rfl), (wg6 166 rfl rfl), (wg1 0 rfl rfl), (wg6 165 rfl rfl), by decide, by decide, by decide +kernel⟩
theorem mwh_L_316 : MWH RL 316 yL_follow cL_follow 5 (some .int) [(0, 10, 13, 13)] 4 := ⟨(wg6 198 rfl rfl), (wg6 200 rfl rfl), (wg1 0 rfl rfl), (wg6 199 rfl rfl), by decide, by decide, by decide +kernel⟩
theorem mwh_L_319 : MWH RL 319 yL_behind cL_behind 4 (some .int) [(0, 9, 12, 13)] 3 := ⟨(wg6 233 rfl rfl), (wg6 235 rfl rfl), (wg1 0 rfl rfl), (wg6 234 rfl rfl), by decide, by decide, by decide +kernel⟩
theorem mwh_L_322 : MWH RL 322 yL_say cL_say 4 (some .int) [(0, 9, 12, 19)] 3 := ⟨(wg7 0 rfl rfl), (wg7 2 rfl rfl), (wg1 0 rfl rfl), (wg7 1 rfl rfl), by decide, by decide, by decide +kernel⟩
theorem mwh_L_325 : MWH RL 325 yL_tray cL_tray 5 (some .int) [(0, 7, 10, 19), (0, 7, 14, 13)] 4 := ⟨(wg7 21 rfl rfl), (wg7 23 rfl rfl), (wg1 0 rfl rfl), (wg7 22 rfl rfl), by decide, by decide, by decide +kernel⟩
theorem mwh_L_331 : MWH RL 331 yL_write cL_write 7 (some .int) [(0, 11, 14, 19), (0, 11, 18, 21), (0, 11, 22, 154)] 5 := ⟨(wg7 32 rfl rfl), (wg7 34 rfl rfl), (wg1 0 rfl rfl), (wg7 33 rfl rfl), by decide, by decide, by decide +kernel⟩
theorem mwh_L_335 : MWH RL 335 yL_pour cL_pour 5 (some .int) [(0, 10, 13, 19), (0, 10, 17, 21), (0, 10, 21, 154), (0, 10, 25, 13)] 4 := ⟨(wg7 60 rfl rfl), (wg7 62 rfl rfl), (wg1 0 rfl rfl), (wg7 61 rfl rfl), by decide, by decide, by decide +kernel⟩
theorem mwh_L_338 : MWH RL 338 yL_image cL_image 3 (some .int) [(0, 5, 8, 19)] 2 := ⟨(wg7 70 rfl rfl), (wg7 72 rfl rfl), (wg1 0 rfl rfl), (wg7 71 rfl rfl), by decide, by decide, by decide +kernel⟩
theorem mwh_L_341 : MWH RL 341 yL_restore cL_restore 3 (some .int) [(0, 5, 8, 19), (0, 5, 11, 21)] 2 := ⟨(wg7 103 rfl rfl), (wg7 105 rfl rfl), (wg1 0 rfl rfl), (wg7 104 rfl rfl), by decide, by decide, by decide +kernel⟩
theorem clk_13 : Cond.classLink RL 13 (ex9 0) ∈ WG := (wg3 67 rfl rfl)
theorem clk_19 : Cond.classLink RL 19 (ex9 2) ∈ WG := (wg3 151 rfl rfl)
theorem clk_21 : Cond.classLink RL 21 (ex9 1) ∈ WG := (wg3 152 rfl rfl)
theorem clk_154 : Cond.classLink RL 154 (ex9 3) ∈ WG := (wg7 35 rfl rfl)
theorem cst_0 : Cond.castable (ex9 0) (ex9 0) ∈ BW9 := List.mem_filter.mpr ⟨in_t3 (List.mem_of_getElem? (i := 77) rfl), rfl⟩
theorem cst_1 : Cond.castable (ex9 1) (ex9 1) ∈ BW9 := List.mem_filter.mpr ⟨in_t3 (List.mem_of_getElem? (i := 183) rfl), rfl⟩
theorem cst_2 : Cond.castable (ex9 2) (ex9 2) ∈ BW9 := List.mem_filter.mpr ⟨in_t3 (List.mem_of_getElem? (i := 167) rfl), rfl⟩
theorem cst_3 : Cond.castable (ex9 3) (ex9 3) ∈ BW9 := List.mem_filter.mpr ⟨in_t7 (List.mem_of_getElem? (i := 42) rfl), rfl⟩

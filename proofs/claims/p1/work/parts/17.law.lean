/-! THE CLAIM OUT OF ONE WALK OF THE LAW'S BODY. Your part is whole_start (and what it stands on); all else here is the same for every law, but numbers. -/
def R_law : String := "NumberingTreeLaw"
def lw_P (b : Addr) (xs : List Int32) (args : Array Value) (s : State) : Prop := args = #[.ref b] ∧ s.IntsAt b xs ∧ xs.length ≤ 3 ∧ (Jvm.Cond.and given_1 narrow_1).before args s = true
/-- what a walk over the start with the record d0 says of its end, said of the start itself -/
theorem lw_closed {s t : State} {o : Outcome} {d0 : Drawn} {L : List Loc} {k n : Nat} (hd0 : s.drawn.sameBut d0 lw_cs) (hv : ∃ v, o = .returned v) (hW : (s.setDrawn d0).WarmedH t.vm) (hs : (s.setDrawn d0).sameButNew ({ t with vm := s.vm } : State) L k n) : State.butDraws s t lw_cs (fun t1 => Framed s o t1 L k n) := by
  have h2 : t.drawn = d0 := congrArg State.drawn hs.1
  refine ⟨⟨hv, hW, State.sameButNew.setDrawn hs s.drawn⟩, ?_, by decide⟩
  rw [h2]
  exact hd0
def lw_Q (_ : Array Value) (s : State) (o : Outcome) (t : State) : Prop := o = .returned (some (.int 1)) ∧ State.butDraws s t lw_cs (fun t1 => Framed s o t1 [] 600006 7302048)
def lw_Z (below : List Frame) (a : Array Value) (s : State) : State → Prop := fun t => ∃ o, t.status = .running ∧ Ended t below o ∧ lw_Q a s o t
/-- the law's own end, with 1 on the stack, nothing written that was there before, its room as the claim has it; d0: the record of draws at this point (at the entry s.drawn: begin with 'refine W.base ?_' and 'have hd0 := Drawn.sameBut.refl s.drawn lw_cs') -/
theorem lw_ret {p : Program} {l : Launch} {e : Env} {s : State} {m : MethodId} {below : List Frame} {meth : Method} {c : Code} {b : Nat} {d0 : Drawn} (hd0 : s.drawn.sameBut d0 lw_cs) (hx : p.tables.exec = Jvm.exec) (hb : c.code = code) (hr : meth.sig.returnType = ret) (hlocks : meth.locks = false) {pc : Nat} {H : Heap} {ls : Array Slot} (hdg : decode code pc = .ok (.ireturn, 1)) : W p l e room_1 (s.setDrawn d0) m #[Value.ref b] below meth c H [] 600006 7302048 (lw_Z below #[Value.ref b] s) (F0 m pc ls [.int 1]) := by
  intro T hT X
  obtain ⟨fs, hret, hrun, hended, hW, hframe⟩ := X.leave (v := some (.int 1)) (hlocks := hlocks) (fun h => by rw [hr] at h; cases h)
  have hmeth' : T.vm.method? m = some meth := X.method'
  refine ⟨T.setFrames fs, ?_, .returned (some (.int 1)), hrun, hended, rfl, lw_closed hd0 ⟨_, rfl⟩ hW hframe⟩
  jvm_step X.here [X.here.top, hx, hb, hdg, hmeth', hr, ret, narrow_b1]
  (try refine ⟨rfl, ?_⟩); (try refine ⟨rfl, ?_⟩)
  first | (intro acts; rw [hret _ acts rfl rfl rfl]) | rw [hret _ _ rfl rfl rfl]
  exact Steps.refl _
/-- what holds at the law's entry: the machine, the code, the tables' words (any of lw_tbl by 'hts w (by decide +kernel)'), the script of L ints xs at the cell b, what the Statement gives of the start (any of its parts by flat_of_before) -/
def lw_At (p : Program) (s : State) (m : MethodId) (meth : Method) (c : Code) (b L : Nat) (xs : Nat → Int32) : Prop :=
  p.tables.exec = Jvm.exec ∧ c.code = code ∧ meth.sig.returnType = ret ∧ c.maxLocals = 9 ∧ s.vm.findClass R_law = some m.cls ∧ (∀ w ∈ lw_tbl, w.before #[Value.ref b] s = true) ∧ va_X b L xs s s.heap ∧ b < s.heap.size ∧ meth.locks = false ∧ (Jvm.Cond.and given_1 narrow_1).before #[Value.ref b] s = true
/-- what holds all along the law's walk -/
def lcx (P0 : Program) (l : Launch) (s : State) (m : MethodId) (meth : Method) (C9 : Code) (b L : Nat) (xs : Nat → Int32) (D : va_G) (cI cZ cC cQ cL cD : ClassId) (A : Nat → Prop) : Prop :=
  lw_At P0 s m meth C9 b L xs ∧ l.stackTraces = false ∧ va_K D vwCl [(cI, .int), (cZ, .boolean), (cC, .char), (cQ, .array .boolean), (cL, .long), (cD, .double)] s ∧ zZ A s s.heap ∧ zKX s ∧ (∀ q : Nat, s.heap.size ≤ q → A q) ∧ (∀ q : Nat, A q → s.heap.size ≤ q) ∧ ¬ A b
theorem zFmm {p : Int32} (h : zLv p) : (upd (upd (upd (upd (upd (fun _ => 0) 0 (vp_nar .char 100)) 1 (vp_nar .char 100)) 2 (vp_nar .char 100)) 3 (vp_nar .char 100)) 4 (vp_nar .char 100)) p.toNatClampNeg = 100 := by
  rcases zLv_cases h with rfl | rfl | rfl | rfl <;> decide +kernel
theorem zIn_cases {p q : Int32} (h : zIn p q) : p = 0 ∧ (q = 0 ∨ q = 1 ∨ q = 2 ∨ q = 3 ∨ q = 4) := by
  refine ⟨h.1, ?_⟩
  obtain ⟨j, hj, rfl⟩ := nI_of2 (M := 4) (n := 4) (x := q) (by decide) h.2.1 h.2.2
  have hj : j = 0 ∨ j = 1 ∨ j = 2 ∨ j = 3 ∨ j = 4 := by omega
  rcases hj with rfl | rfl | rfl | rfl | rfl
  · exact Or.inl rfl
  · exact Or.inr (Or.inl rfl)
  · exact Or.inr (Or.inr (Or.inl rfl))
  · exact Or.inr (Or.inr (Or.inr (Or.inl rfl)))
  · exact Or.inr (Or.inr (Or.inr (Or.inr rfl)))
/-- the law's end with 1 -/
theorem law_true {P0 : Program} {l : Launch} {E0 : Env} {s : State} {m : MethodId} {below : List Frame} {meth : Method} {C9 : Code} {b L : Nat} {xs : Nat → Int32} {D : va_G} {cI cZ cC cQ cL cD : ClassId} {A : Nat → Prop} (C : lcx P0 l s m meth C9 b L xs D cI cZ cC cQ cL cD A) {H : Heap} {locs : List Loc} {ls : Array Slot} (hS : va_S A s.heap H locs) : W P0 l E0 room_1 s m #[Value.ref b] below meth C9 H locs 1000 100000 (lw_Z below #[Value.ref b] s) (F0 m 2382 ls []) := by
  obtain ⟨⟨hx, hb, hr, hml, hown, hts, hX, hbl, hlocks, hgv⟩, hst, hK, ⟨hU, hN⟩, hKB, hA, hA2, hbA⟩ := id C
  refine lv_iconst (v := 1) hx hb dL_law_2382 (by decide) ?_
  refine va_forget (fun q hq => hA2 _ (hS.2.2 q hq)) ?_
  refine W.widen (k := 600006) (n := 7302048) (Nat.le_of_ble_eq_true rfl) (Nat.le_of_ble_eq_true rfl) ?_
  exact lw_ret (Drawn.sameBut.refl s.drawn lw_cs) hx hb hr hlocks dL_law_2383
/-- behind the one call: the loop's end -/
theorem law_end {P0 : Program} {l : Launch} {E0 : Env} {s : State} {m : MethodId} {below : List Frame} {meth : Method} {C9 : Code} {b : Nat} {xs : Nat → Int32} {D : va_G} {cI cZ cC cQ cL cD : ClassId} {A : Nat → Prop} (C : lcx P0 l s m meth C9 b 3 xs D cI cZ cC cQ cL cD A) {H : Heap} {locs : List Loc} {ls : Array Slot} (hS : va_S A s.heap H locs) (hl : lv_has ls 9 [(0, .ref b), (5, .int 0)]) : W P0 l E0 room_1 s m #[Value.ref b] below meth C9 H locs 1000 100000 (lw_Z below #[Value.ref b] s) (F0 m 2376 ls []) := by
  obtain ⟨⟨hx, hb, hr, hml, hown, hts, hX, hbl, hlocks, hgv⟩, hst, hK, ⟨hU, hN⟩, hKB, hA, hA2, hbA⟩ := id C
  refine lv_iinc (v := 3) (lv' := [(5, .int 3), (0, .ref b)]) hx hb dL_law_2376 hl (k := 1) rfl (by decide) (by decide) rfl (fun ls hl => ?_)
  refine lv_goto (tgt := 28) hx hb dL_law_2379 (by decide) ?_
  refine lv_iload hx hb dL_law_28 (lv_at hl 0 rfl) ?_
  refine lv_aload_n hx hb dL_law_30 rfl (lv_at hl 1 rfl) ?_
  refine va_slen hx hb hX hbl hbA hS dL_law_31 ?_
  refine lv_iconst (v := 3) hx hb dL_law_32 (by decide) ?_
  refine lv_isub hx hb dL_law_33 ?_
  refine zt_i 0 (by decide) ?_
  refine lv_icmp_gt (tgt := 2382) hx hb dL_law_34 (by decide) (fun _ => ?_) (fun q => absurd q (by decide))
  exact law_true C hS

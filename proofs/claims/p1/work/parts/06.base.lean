/-! worlds, starts, calls: short forms of the kit's rows for this claim -/
/-- a start: the world ws, the heap's size sz -/
def zPre (D : va_G) (tys : List (ClassId × FieldType)) (ws : va_W) (sz : Nat) (U : State) : Prop := U.heap.size = sz ∧ va_P D vwCl ws U.heap ∧ va_K D vwCl tys U ∧ va_D (fun _ => True) ws
/-- an end: the world ws -/
def zB (D : va_G) (ws : va_W) (A : Nat → Prop) (t : State) : Prop := va_P D vwCl ws t.heap ∧ va_D A ws
theorem zPre_blind {av : List Value} {D : va_G} {tys : List (ClassId × FieldType)} {ws : va_W} {sz : Nat} : FrameBlind (va_Pc av (zPre D tys ws sz)) := fun a U g mk h => by
  obtain ⟨h0, h1, h2, h3, h4⟩ := h
  exact ⟨h0, h1, h2, va_K.moved (u := U) (U := U.calling g mk a) (Vm.Alike.refl U.vm) h3, h4⟩
/-- where Throwable's two statics lie -/
def zZ (A : Nat → Prop) (U : State) (H : Heap) : Prop := vx_Zq Bundle.tN "UNASSIGNED_STACK" Bundle.steD A U H ∧ vx_Zq Bundle.tN "SUPPRESSED_SENTINEL" Bundle.listD A U H
/-- words that the tables alone decide -/
def zW (B : List Cond) (U : State) : Prop := ∀ w ∈ B, w.before #[] U = true
abbrev sIAE : String := "java/lang/IllegalArgumentException"
abbrev sISE : String := "java/lang/IllegalStateException"
abbrev sUOE : String := "java/lang/UnsupportedOperationException"
abbrev sNSE : String := "java/util/NoSuchElementException"
abbrev sIOB : String := "java/lang/IndexOutOfBoundsException"
abbrev sARE : String := "java/lang/ArithmeticException"
def zKB : List Cond := [.declares ⟨"java/lang/RuntimeException", "<init>", "()V"⟩, .declares ⟨"java/lang/Exception", "<init>", "()V"⟩, .declares ⟨"java/lang/Throwable", "<init>", "()V"⟩, .castable sIAE sIAE, .castable sISE sISE, .castable sUOE sUOE, .castable sNSE sNSE, .castable sIOB sIOB, .castable sARE sARE]
def zNC : List (String × String) := [(sNSE, sIAE), (sARE, sIAE), (sISE, sIAE)]
/-- what throwing and catching needs beside the methods' own words -/
def zKX (U : State) : Prop := zW zKB U ∧ ∀ q ∈ zNC, va_Nc q.1 q.2 U
/-- the private constructors' links -/
def zKN : List Cond := [.methodLinkNest RX8 9 yX5_init "NumberingTree", .methodLinkNest RX8 43 yX2_init "NumberingTree", .methodLinkNest RX3 11 yX7_init "NumberingTree", .methodLinkNest RX0 11 yX6_init "NumberingTree"]
/-- a start of a method that throws -/
def zPreX (D : va_G) (tys : List (ClassId × FieldType)) (ws : va_W) (sz : Nat) (U : State) : Prop := zPre D tys ws sz U ∧ zZ (va_A ws sz) U U.heap ∧ zKX U
/-- a start of a constructor that calls a private one -/
def zPreN (D : va_G) (tys : List (ClassId × FieldType)) (ws : va_W) (sz : Nat) (U : State) : Prop := zPre D tys ws sz U ∧ zW zKN U
theorem zKB_tab : ∀ w ∈ zKB, w.onTables = true := by decide
theorem zKN_tab : ∀ w ∈ zKN, w.onTables = true := by decide
theorem zW_same {B : List Cond} (hB : ∀ w ∈ B, w.onTables = true) {u U : State} (h : u.vm = U.vm) (hZ : zW B u) : zW B U := fun w hw => va_tabs (hB w hw) h (hZ w hw)
theorem zW_use {B : List Cond} (hB : ∀ w ∈ B, w.onTables = true) {U : State} {args : Array Value} (hZ : zW B U) : ∀ w ∈ B, w.before args U = true := fun w hw => va_tabs (hB w hw) rfl (hZ w hw)
theorem zKX_warm {s U : State} (hW : s.WarmedH U.vm) (h : zKX s) : zKX U := by
  refine ⟨?_, fun q hq => (h.2 q hq).moved hW.alike⟩
  have h1 := h.1
  unfold zW zKB at h1 ⊢
  simp only [List.forall_mem_cons] at h1 ⊢
  obtain ⟨a1, a2, a3, b1, b2, b3, b4, b5, b6, -⟩ := h1
  exact ⟨va_Nw.warmD hW a1, va_Nw.warmD hW a2, va_Nw.warmD hW a3, va_Nw.warmC hW b1, va_Nw.warmC hW b2, va_Nw.warmC hW b3, va_Nw.warmC hW b4, va_Nw.warmC hW b5, va_Nw.warmC hW b6, fun _ h => absurd h List.not_mem_nil⟩
theorem zKN_warm {s U : State} (hW : s.WarmedH U.vm) (h : zW zKN s) : zW zKN U := by
  unfold zW zKN at h ⊢
  simp only [List.forall_mem_cons] at h ⊢
  obtain ⟨a1, a2, a3, a4, -⟩ := h
  exact ⟨va_Nw.warmM hW a1, va_Nw.warmM hW a2, va_Nw.warmM hW a3, va_Nw.warmM hW a4, fun _ h => absurd h List.not_mem_nil⟩
theorem zPreX_blind {av : List Value} {D : va_G} {tys : List (ClassId × FieldType)} {ws : va_W} {sz : Nat} : FrameBlind (va_Pc av (zPreX D tys ws sz)) := fun a U g mk h => by
  obtain ⟨h0, ⟨h1, h2, h3, h4⟩, ⟨h5, h6⟩, h7, h8⟩ := h
  exact ⟨h0, ⟨h1, h2, va_K.moved (u := U) (U := U.calling g mk a) (Vm.Alike.refl U.vm) h3, h4⟩, ⟨vx_Zq.moved (u := U) (U := U.calling g mk a) (Vm.Alike.refl U.vm) h5, vx_Zq.moved (u := U) (U := U.calling g mk a) (Vm.Alike.refl U.vm) h6⟩, zW_same (u := U) (U := U.calling g mk a) zKB_tab rfl h7, fun q hq => va_Nc.moved (u := U) (U := U.calling g mk a) (Vm.Alike.refl U.vm) (h8 q hq)⟩
theorem zPreN_blind {av : List Value} {D : va_G} {tys : List (ClassId × FieldType)} {ws : va_W} {sz : Nat} : FrameBlind (va_Pc av (zPreN D tys ws sz)) := fun a U g mk h => by
  obtain ⟨h0, ⟨h1, h2, h3, h4⟩, h7⟩ := h
  exact ⟨h0, ⟨h1, h2, va_K.moved (u := U) (U := U.calling g mk a) (Vm.Alike.refl U.vm) h3, h4⟩, zW_same (u := U) (U := U.calling g mk a) zKN_tab rfl h7⟩
theorem zhat0 {args : Array Value} {s : State} {L : List Cond} (h1 : ∀ w ∈ L.filter goodWord, w.before args s = true) (hKB : zKX s) (h2 : ∀ w ∈ L.filter (fun w => !goodWord w), w ∈ zKB) : ∀ w ∈ L, w.before args s = true := vx_hat h1 h2 (zW_use zKB_tab hKB.1)
theorem zF_throw {A : Nat → Prop} {s t : State} {H : Heap} {locs : List Loc} (hS : va_S A s.heap H locs) (hz : H.size ≤ t.heap.size) (hk : ∀ q : Nat, q < H.size → t.heap[q]? = H[q]?) : va_F A s t := ⟨Nat.le_trans hS.1 hz, fun q h1 h2 => (hk q (Nat.lt_of_lt_of_le h1 hS.1)).trans (hS.2.1 q h1 h2)⟩
def zL (l : List Nat) (k : Nat) : Nat := l.getD k 0
/-- what a method throws -/
def zX (E : String) (A : Nat → Prop) : String → State → State → Prop := vx_X (fun _ : Unit => True) (fun E' _ _ => E' = E) A
theorem z_pick {ws wc : va_W} {isC : List Nat} (hC : isC.map (fun i => ws[i]?) = wc.map some) (k : Nat) (q : Nat × va_E) (hq : wc[k]? = some q) : ∃ i, isC[k]? = some i ∧ ws[i]? = some q := by
  have h1 : (isC.map (fun i => ws[i]?))[k]? = some (some q) := by rw [hC, List.getElem?_map, hq]; rfl
  rw [List.getElem?_map] at h1
  cases hi : isC[k]? with
  | none => rw [hi] at h1; cases h1
  | some i => rw [hi] at h1; exact ⟨i, rfl, Option.some.inj h1⟩
theorem z_subP {D : va_G} {cl : List vw_C} {ws wc : va_W} {H : Heap} (hP : va_P D cl ws H) {isC : List Nat} (hC : isC.map (fun i => ws[i]?) = wc.map some) : va_P D cl wc H := fun k q hq => by
  obtain ⟨i, -, h2⟩ := z_pick hC k q hq
  exact hP i q h2
theorem z_get {cl : List vw_C} {D : va_G} {ws : va_W} {H : Heap} {A : Nat → Prop} (hP : va_P D cl ws H) (hD : va_D A ws) (isC : List Nat) {wc : va_W} (hC : isC.map (fun i => ws[i]?) = wc.map some) (hn : va_nd isC = true) : va_P D cl wc H ∧ va_D A wc := ⟨z_subP hP hC, hD.sub isC hn hC⟩
section ZB
variable {p : Program} {l : Launch} {e : Env} {R : Room} {s : State} {m : MethodId} {args : Array Value} {below : List Frame} {meth : Method} {c : Code} {H : Heap} {locs : List Loc} {cells slots : Nat} {Q : State → Prop}
variable {pc : Nat} {ls : Array Slot} {rest st0 : List Value} {D : va_G} {tys tysc : List (ClassId × FieldType)} {ws wc wr : va_W} {A0 : Nat → Prop} {H0 : Heap}
theorem zt_i {x : Int32} (y : Int32) (h : x = y) (k : W p l e R s m args below meth c H locs cells slots Q (F0 m pc ls (.int y :: rest))) : W p l e R s m args below meth c H locs cells slots Q (F0 m pc ls (.int x :: rest)) := h ▸ k
theorem zt_l {x : Int64} (y : Int64) (h : x = y) (k : W p l e R s m args below meth c H locs cells slots Q (F0 m pc ls (.long y :: rest))) : W p l e R s m args below meth c H locs cells slots Q (F0 m pc ls (.long x :: rest)) := h ▸ k
/-- what a call on cells of ours needs -/
theorem zpre {As : List Value} (hK : va_K D vwCl tys s) (hP : va_P D vwCl ws H) (hD : va_D A0 ws) (isC : List Nat) (hC : isC.map (fun i => ws[i]?) = wc.map some) (hnC : va_nd isC = true) (ks : List Nat) (hks : ks.filterMap (fun i => tys[i]?) = tysc) : ∀ U : State, U.heap = H → s.WarmedH U.vm → va_Pc As (zPre D tysc wc H.size) As.toArray U := fun U hU hW =>
  ⟨rfl, by rw [hU], by rw [hU]; exact z_subP hP hC, va_K.moved hW.alike (hK.sub ks hks), (hD.sub isC hnC hC).weaken (fun _ _ _ _ => trivial)⟩
theorem zPV {C : String} {b : Nat} {As : List Value} (hK : va_K D vwCl tys s) (hP : va_P D vwCl ws H) (hD : va_D A0 ws) (isC : List Nat) (hC : isC.map (fun i => ws[i]?) = wc.map some) (hnC : va_nd isC = true) (ks : List Nat) (hks : ks.filterMap (fun i => tys[i]?) = tysc) (q0 : Nat) {ci : Nat} {fs : List Value} {q : vw_C} (he : wc[q0]? = some (b, .inr (ci, fs))) (hc : vwCl[ci]? = some q) (hq : q.1 = C) : PreV s H C b (va_Pc (.ref b :: As) (zPre D tysc wc H.size)) As := by
  subst hq
  exact ⟨zPre_blind, va_recv hK (z_subP hP hC) hc he, zpre hK hP hD isC hC hnC ks hks⟩
theorem zPS {As : List Value} (hK : va_K D vwCl tys s) (hP : va_P D vwCl ws H) (hD : va_D A0 ws) (isC : List Nat) (hC : isC.map (fun i => ws[i]?) = wc.map some) (hnC : va_nd isC = true) (ks : List Nat) (hks : ks.filterMap (fun i => tys[i]?) = tysc) : PreS s H (va_Pc As (zPre D tysc wc H.size)) As :=
  ⟨zPre_blind, zpre hK hP hD isC hC hnC ks hks⟩
theorem z_zZ (hZ : zZ A0 s H0) (hS : va_S A0 H0 H locs) (hF : ∀ q, va_A wc H.size q → A0 q) : zZ (va_A wc H.size) s H :=
  ⟨(hZ.1.kept (fun a h1 h2 => hS.2.1 a h1 h2)).narrow hF, (hZ.2.kept (fun a h1 h2 => hS.2.1 a h1 h2)).narrow hF⟩
theorem zPVX {C : String} {b : Nat} {As : List Value} (hZ : zZ A0 s H0) (hKB : zKX s) (hS : va_S A0 H0 H locs) (hA : ∀ q, H0.size ≤ q → A0 q) (hK : va_K D vwCl tys s) (hP : va_P D vwCl ws H) (hD : va_D A0 ws) (isC : List Nat) (hC : isC.map (fun i => ws[i]?) = wc.map some) (hnC : va_nd isC = true) (ks : List Nat) (hks : ks.filterMap (fun i => tys[i]?) = tysc) (q0 : Nat) {ci : Nat} {fs : List Value} {q : vw_C} (he : wc[q0]? = some (b, .inr (ci, fs))) (hc : vwCl[ci]? = some q) (hq : q.1 = C) : PreV s H C b (va_Pc (.ref b :: As) (zPreX D tysc wc H.size)) As := by
  subst hq
  have hF := va_free hD hS hA isC hC
  refine ⟨zPreX_blind, va_recv hK (z_subP hP hC) hc he, fun U hU hW => ⟨rfl, (zpre (As := .ref b :: As) hK hP hD isC hC hnC ks hks U hU hW).2, ?_, zKX_warm hW hKB⟩⟩
  have h2 := z_zZ (wc := wc) hZ hS hF
  rw [hU]
  exact ⟨h2.1.moved hW.alike, h2.2.moved hW.alike⟩
theorem zPSX {As : List Value} (hZ : zZ A0 s H0) (hKB : zKX s) (hS : va_S A0 H0 H locs) (hA : ∀ q, H0.size ≤ q → A0 q) (hK : va_K D vwCl tys s) (hP : va_P D vwCl ws H) (hD : va_D A0 ws) (isC : List Nat) (hC : isC.map (fun i => ws[i]?) = wc.map some) (hnC : va_nd isC = true) (ks : List Nat) (hks : ks.filterMap (fun i => tys[i]?) = tysc) : PreS s H (va_Pc As (zPreX D tysc wc H.size)) As := by
  have hF := va_free hD hS hA isC hC
  refine ⟨zPreX_blind, fun U hU hW => ⟨rfl, (zpre (As := As) hK hP hD isC hC hnC ks hks U hU hW).2, ?_, zKX_warm hW hKB⟩⟩
  have h2 := z_zZ (wc := wc) hZ hS hF
  rw [hU]
  exact ⟨h2.1.moved hW.alike, h2.2.moved hW.alike⟩
theorem zPSN {As : List Value} (hKN : zW zKN s) (hK : va_K D vwCl tys s) (hP : va_P D vwCl ws H) (hD : va_D A0 ws) (isC : List Nat) (hC : isC.map (fun i => ws[i]?) = wc.map some) (hnC : va_nd isC = true) (ks : List Nat) (hks : ks.filterMap (fun i => tys[i]?) = tysc) : PreS s H (va_Pc As (zPreN D tysc wc H.size)) As :=
  ⟨zPreN_blind, fun U hU hW => ⟨rfl, (zpre (As := As) hK hP hD isC hC hnC ks hks U hU hW).2, zKN_warm hW hKN⟩⟩
/-- calls that return: the rest stays -/
theorem zc_i {S : Type} {post : Int32 → S → Prop} {w1 : S → va_W} {av : Array Value} {mc ms : Nat}
    (hr : va_Run p l e R s m args below meth c H locs cells slots mc ms (F0 m pc ls st0) rest (va_Qi post (fun u => zB D (w1 u) (va_A wc H.size)) (va_A wc H.size) av) (va_A wc H.size)) (hP : va_P D vwCl ws H) (hD : va_D A0 ws) (hS : va_S A0 H0 H locs) (hA : ∀ q, H0.size ≤ q → A0 q)
    (isC isR : List Nat) (hC : isC.map (fun i => ws[i]?) = wc.map some) (hR : isR.map (fun i => ws[i]?) = wr.map some) (hn : va_nd isR = true) (hdis : ∀ i ∈ isR, i ∉ isC)
    (kk : ∀ (r : Int32) (u : S) (H1 : Heap) (locs1 : List Loc), post r u → va_P D vwCl (wr ++ w1 u) H1 → va_D A0 (wr ++ w1 u) → va_S A0 H0 H1 locs1 → W p l e R s m args below meth c H1 locs1 (cells + mc) (slots + ms) Q (F0 m (pc + 3) ls (.int r :: rest))) : W p l e R s m args below meth c H locs cells slots Q (F0 m pc ls st0) := by
  have hF := va_free hD hS hA isC hC
  refine va_calli hr hS (fun q _ h => hF q h) hF (fun r u t H1 locs1 ht hvm hw hB hz1 hk1 hS1 => ?_)
  obtain ⟨hP1, hD1⟩ := hB
  rw [ht] at hP1
  obtain ⟨hP2, hD2⟩ := va_join hP hD isC isR hC hR hn hdis hk1 hF hP1 hD1
  exact kk r u H1 locs1 hw hP2 hD2 hS1
theorem zc_l {S : Type} {post : Int64 → S → Prop} {w1 : S → va_W} {av : Array Value} {mc ms : Nat}
    (hr : va_Run p l e R s m args below meth c H locs cells slots mc ms (F0 m pc ls st0) rest (va_Ql post (fun u => zB D (w1 u) (va_A wc H.size)) (va_A wc H.size) av) (va_A wc H.size)) (hP : va_P D vwCl ws H) (hD : va_D A0 ws) (hS : va_S A0 H0 H locs) (hA : ∀ q, H0.size ≤ q → A0 q)
    (isC isR : List Nat) (hC : isC.map (fun i => ws[i]?) = wc.map some) (hR : isR.map (fun i => ws[i]?) = wr.map some) (hn : va_nd isR = true) (hdis : ∀ i ∈ isR, i ∉ isC)
    (kk : ∀ (r : Int64) (u : S) (H1 : Heap) (locs1 : List Loc), post r u → va_P D vwCl (wr ++ w1 u) H1 → va_D A0 (wr ++ w1 u) → va_S A0 H0 H1 locs1 → W p l e R s m args below meth c H1 locs1 (cells + mc) (slots + ms) Q (F0 m (pc + 3) ls (.long r :: rest))) : W p l e R s m args below meth c H locs cells slots Q (F0 m pc ls st0) := by
  have hF := va_free hD hS hA isC hC
  refine va_calll hr hS (fun q _ h => hF q h) hF (fun r u t H1 locs1 ht hvm hw hB hz1 hk1 hS1 => ?_)
  obtain ⟨hP1, hD1⟩ := hB
  rw [ht] at hP1
  obtain ⟨hP2, hD2⟩ := va_join hP hD isC isR hC hR hn hdis hk1 hF hP1 hD1
  exact kk r u H1 locs1 hw hP2 hD2 hS1
theorem zc_f {S : Type} {post : UInt32 → S → Prop} {w1 : S → va_W} {av : Array Value} {mc ms : Nat}
    (hr : va_Run p l e R s m args below meth c H locs cells slots mc ms (F0 m pc ls st0) rest (va_Qf post (fun u => zB D (w1 u) (va_A wc H.size)) (va_A wc H.size) av) (va_A wc H.size)) (hP : va_P D vwCl ws H) (hD : va_D A0 ws) (hS : va_S A0 H0 H locs) (hA : ∀ q, H0.size ≤ q → A0 q)
    (isC isR : List Nat) (hC : isC.map (fun i => ws[i]?) = wc.map some) (hR : isR.map (fun i => ws[i]?) = wr.map some) (hn : va_nd isR = true) (hdis : ∀ i ∈ isR, i ∉ isC)
    (kk : ∀ (r : UInt32) (u : S) (H1 : Heap) (locs1 : List Loc), post r u → va_P D vwCl (wr ++ w1 u) H1 → va_D A0 (wr ++ w1 u) → va_S A0 H0 H1 locs1 → W p l e R s m args below meth c H1 locs1 (cells + mc) (slots + ms) Q (F0 m (pc + 3) ls (.float r :: rest))) : W p l e R s m args below meth c H locs cells slots Q (F0 m pc ls st0) := by
  have hF := va_free hD hS hA isC hC
  refine va_callf hr hS (fun q _ h => hF q h) hF (fun r u t H1 locs1 ht hvm hw hB hz1 hk1 hS1 => ?_)
  obtain ⟨hP1, hD1⟩ := hB
  rw [ht] at hP1
  obtain ⟨hP2, hD2⟩ := va_join hP hD isC isR hC hR hn hdis hk1 hF hP1 hD1
  exact kk r u H1 locs1 hw hP2 hD2 hS1
theorem zc_d {S : Type} {post : UInt64 → S → Prop} {w1 : S → va_W} {av : Array Value} {mc ms : Nat}
    (hr : va_Run p l e R s m args below meth c H locs cells slots mc ms (F0 m pc ls st0) rest (va_Qd post (fun u => zB D (w1 u) (va_A wc H.size)) (va_A wc H.size) av) (va_A wc H.size)) (hP : va_P D vwCl ws H) (hD : va_D A0 ws) (hS : va_S A0 H0 H locs) (hA : ∀ q, H0.size ≤ q → A0 q)
    (isC isR : List Nat) (hC : isC.map (fun i => ws[i]?) = wc.map some) (hR : isR.map (fun i => ws[i]?) = wr.map some) (hn : va_nd isR = true) (hdis : ∀ i ∈ isR, i ∉ isC)
    (kk : ∀ (r : UInt64) (u : S) (H1 : Heap) (locs1 : List Loc), post r u → va_P D vwCl (wr ++ w1 u) H1 → va_D A0 (wr ++ w1 u) → va_S A0 H0 H1 locs1 → W p l e R s m args below meth c H1 locs1 (cells + mc) (slots + ms) Q (F0 m (pc + 3) ls (.double r :: rest))) : W p l e R s m args below meth c H locs cells slots Q (F0 m pc ls st0) := by
  have hF := va_free hD hS hA isC hC
  refine va_calld hr hS (fun q _ h => hF q h) hF (fun r u t H1 locs1 ht hvm hw hB hz1 hk1 hS1 => ?_)
  obtain ⟨hP1, hD1⟩ := hB
  rw [ht] at hP1
  obtain ⟨hP2, hD2⟩ := va_join hP hD isC isR hC hR hn hdis hk1 hF hP1 hD1
  exact kk r u H1 locs1 hw hP2 hD2 hS1
theorem zc_v {S : Type} {post : S → Prop} {w1 : S → va_W} {av : Array Value} {mc ms : Nat}
    (hr : va_Run p l e R s m args below meth c H locs cells slots mc ms (F0 m pc ls st0) rest (va_Qv post (fun u => zB D (w1 u) (va_A wc H.size)) (va_A wc H.size) av) (va_A wc H.size)) (hP : va_P D vwCl ws H) (hD : va_D A0 ws) (hS : va_S A0 H0 H locs) (hA : ∀ q, H0.size ≤ q → A0 q)
    (isC isR : List Nat) (hC : isC.map (fun i => ws[i]?) = wc.map some) (hR : isR.map (fun i => ws[i]?) = wr.map some) (hn : va_nd isR = true) (hdis : ∀ i ∈ isR, i ∉ isC)
    (kk : ∀ (u : S) (H1 : Heap) (locs1 : List Loc), post u → va_P D vwCl (wr ++ w1 u) H1 → va_D A0 (wr ++ w1 u) → va_S A0 H0 H1 locs1 → W p l e R s m args below meth c H1 locs1 (cells + mc) (slots + ms) Q (F0 m (pc + 3) ls rest)) : W p l e R s m args below meth c H locs cells slots Q (F0 m pc ls st0) := by
  have hF := va_free hD hS hA isC hC
  refine va_callv hr hS (fun q _ h => hF q h) hF (fun u t H1 locs1 ht hvm hw hB hz1 hk1 hS1 => ?_)
  obtain ⟨hP1, hD1⟩ := hB
  rw [ht] at hP1
  obtain ⟨hP2, hD2⟩ := va_join hP hD isC isR hC hR hn hdis hk1 hF hP1 hD1
  exact kk u H1 locs1 hw hP2 hD2 hS1
/-- a call that throws: the rest stays, the thrown object lies at q9 -/
theorem zc_x {E : String} {Qa : State → Outcome → State → Prop} {mc ms : Nat} (hno : ∀ st v t, ¬ Qa st (.returned v) t)
    (hr : vx_Run p l e R s m args below meth c H locs cells slots mc ms (F0 m pc ls st0) rest Qa (zX E (va_A wc H.size)) (va_A wc H.size)) (hP : va_P D vwCl ws H) (hD : va_D A0 ws) (hS : va_S A0 H0 H locs) (hA : ∀ q, H0.size ≤ q → A0 q)
    (isC isR : List Nat) (hC : isC.map (fun i => ws[i]?) = wc.map some) (hR : isR.map (fun i => ws[i]?) = wr.map some) (hn : va_nd isR = true) (hdis : ∀ i ∈ isR, i ∉ isC)
    (kx : ∀ (ce : Cell) (q9 : Addr) (H1 : Heap) (locs1 : List Loc), va_P D vwCl wr H1 → va_D A0 wr → va_S A0 H0 H1 locs1 → H1[q9]? = some ce → ce.vm = .none → s.vm.findClass E = some ce.cls → vx_W p l e R s m args below meth c H1 locs1 (cells + mc) (slots + ms) Q (F0 m pc ls rest) q9) : W p l e R s m args below meth c H locs cells slots Q (F0 m pc ls st0) := by
  have hF := va_free hD hS hA isC hC
  intro T hT X
  rcases hr T hT X with ⟨v, st₀, t, T', L, h0, X', hL, e1, e2, hq, st⟩ | ⟨q, st₀, t, T', L, E', ce, h0, X', hL, e1, e2, hx, hc, hv, hcl, st⟩
  · exact absurd hq (hno _ _ _)
  · obtain ⟨_, -, hE, hz, hk⟩ := hx
    subst hE
    rw [h0] at hz hk
    have hS1 : va_S A0 H0 T'.heap (locs ++ L) := ⟨Nat.le_trans hS.1 (by rw [e1]; exact hz), fun q h1 h2 => by rw [e1, hk q (Nat.lt_of_lt_of_le h1 hS.1) (fun z => h2 (hF q z))]; exact hS.2.1 q h1 h2, fun q hq => by
      rcases List.mem_append.mp hq with h | h
      · exact hS.2.2 q h
      · exact hF _ (hL q h)⟩
    obtain ⟨hP2, hD2⟩ := va_join (w1 := []) (wr := wr) hP hD isC isR hC hR hn hdis (H1 := T'.heap) (fun q h1 h2 => by rw [e1]; exact hk q h1 h2) hF (fun k q h => by simp at h) ⟨fun i j p q h => by simp at h, fun k q h => by simp at h⟩
    rw [List.append_nil] at hP2 hD2
    obtain ⟨t2, a1, b1⟩ := kx ce q T'.heap (locs ++ L) hP2 hD2 hS1 (by rw [e1]; exact hc) hv hcl T' rfl X'
    exact ⟨t2, st.trans a1, b1⟩
end ZB
def zAt (n : Nat) (f : Nat → Int32) (i : Int32) : Int32 := if i < 0 then 0 else if n ≤ i.toNatClampNeg then 0 else f i.toNatClampNeg
theorem zAt_0 (n : Nat) (i : Int32) : zAt n (fun _ => 0) i = 0 := by unfold zAt; split <;> (try split) <;> rfl
theorem zAt_lo {n : Nat} {f : Nat → Int32} {i : Int32} (h : i < 0) : zAt n f i = 0 := by unfold zAt; rw [if_pos h]
theorem zAt_hi {n : Nat} {f : Nat → Int32} {i : Int32} (h : n ≤ i.toNatClampNeg) : zAt n f i = 0 := by
  unfold zAt
  by_cases h0 : i < 0
  · rw [if_pos h0]
  · rw [if_neg h0, if_pos h]
theorem zAt_in {n : Nat} {f : Nat → Int32} {i : Int32} (h : vp_in i n) : zAt n f i = f i.toNatClampNeg := by
  unfold zAt
  rw [if_neg (fun q => h (Or.inl q)), if_neg (fun q => h (Or.inr q))]
def zPut (n : Nat) (f : Nat → Int32) (i x : Int32) : Nat → Int32 := if i < 0 then f else if n ≤ i.toNatClampNeg then f else upd f i.toNatClampNeg x
theorem zPut_lo {n : Nat} {f : Nat → Int32} {i x : Int32} (h : i < 0) : zPut n f i x = f := by unfold zPut; rw [if_pos h]
theorem zPut_hi {n : Nat} {f : Nat → Int32} {i x : Int32} (h : n ≤ i.toNatClampNeg) : zPut n f i x = f := by
  unfold zPut
  by_cases h0 : i < 0
  · rw [if_pos h0]
  · rw [if_neg h0, if_pos h]
theorem zPut_in {n : Nat} {f : Nat → Int32} {i x : Int32} (h : vp_in i n) : zPut n f i x = upd f i.toNatClampNeg x := by
  unfold zPut
  rw [if_neg (fun q => h (Or.inl q)), if_neg (fun q => h (Or.inr q))]
/-- the length of an array against an index that isn't below 0 -/
theorem z_ge {i : Int32} {n : Nat} (hn : n < 2 ^ 31) (h0 : ¬ i < 0) (h : Int32.ofNat n ≤ i) : n ≤ i.toNatClampNeg := by
  obtain ⟨j, hj, rfl⟩ := nI_of h0
  rw [nI_clamp hj]
  exact (nI_leI hn hj).mp h
theorem z_in {i : Int32} {n : Nat} (hn : n < 2 ^ 31) (h0 : ¬ i < 0) (h : ¬ Int32.ofNat n ≤ i) : vp_in i n := by
  obtain ⟨j, hj, rfl⟩ := nI_of h0
  have : ¬ n ≤ j := fun q => h ((nI_leI hn hj).mpr q)
  exact vp_in_nI (by omega) hn
/-- a level from 1 to 4 -/
def zLv (p : Int32) : Prop := ¬ p ≤ 0 ∧ p ≤ 4
/-- a level and a number that may be skipped -/
def zSk (p q : Int32) : Prop := zLv p ∧ ¬ q < 1 ∧ q ≤ 99
def zFo (q : Int32) : Prop := q = 100 ∨ q = 108 ∨ q = 114 ∨ q = 82
def zKi (q : Int32) : Prop := q = 112 ∨ q = 102 ∨ q = 111
theorem zLv_cases {p : Int32} (h : zLv p) : p = 1 ∨ p = 2 ∨ p = 3 ∨ p = 4 := by
  have h0 : ¬ p < 0 := fun q => h.1 (Int32.le_of_lt q)
  obtain ⟨j, hj, rfl⟩ := nI_of2 (M := 4) (n := 4) (by decide) h0 h.2
  have hj : j = 0 ∨ j = 1 ∨ j = 2 ∨ j = 3 ∨ j = 4 := by omega
  rcases hj with rfl | rfl | rfl | rfl | rfl
  · exact absurd (by decide) h.1
  · exact Or.inl rfl
  · exact Or.inr (Or.inl rfl)
  · exact Or.inr (Or.inr (Or.inl rfl))
  · exact Or.inr (Or.inr (Or.inr rfl))
theorem zAt_lv {p : Int32} (h : zLv p) : zAt 5 (zPut 5 (fun _ => 0) p 1) p = 1 := by
  rcases zLv_cases h with rfl | rfl | rfl | rfl <;> decide +kernel
theorem zAt_fmt {p : Int32} (h : zLv p) : zAt 5 (zPut 5 (zPut 5 (zPut 5 (zPut 5 (fun _ => 0) 1 100) 2 100) 3 100) 4 100) p = 100 := by
  rcases zLv_cases h with rfl | rfl | rfl | rfl <;> decide +kernel
theorem zAt_put0 {n : Nat} {f : Nat → Int32} {v : Int32} (h : 0 < n) : zAt n (zPut n f 0 v) 0 = v := by
  have h0 : (0 : Int32).toNatClampNeg = 0 := by decide
  have hi : vp_in 0 n := fun q => q.elim (fun q => absurd q (by decide)) (fun q => by rw [h0] at q; omega)
  rw [zPut_in hi, zAt_in hi, h0]
  simp [upd]
/-- a place, a level with which a first paragraph can be inserted -/
def zIn (p q : Int32) : Prop := p = 0 ∧ ¬ q < 0 ∧ q ≤ 4
theorem zI_0 {p : Int32} (h1 : ¬ p < 0) (h2 : ¬ 0 < p) : p = 0 := Int32.le_antisymm (Int32.not_lt.mp h2) (Int32.not_lt.mp h1)
theorem zLv_b {p : Int32} (h : zLv p) : ¬ p < 1 ∧ ¬ 4 < p := by
  rcases zLv_cases h with rfl | rfl | rfl | rfl <;> decide
theorem zLv_nb {p : Int32} (h : ¬ zLv p) : ¬ (¬ p < 1 ∧ ¬ 4 < p) := fun q => h ⟨fun z => q.1 (Int32.lt_of_le_of_lt z (by decide)), Int32.not_lt.mp q.2⟩
theorem zLv_in {p : Int32} (h : zLv p) : vp_in p 5 := by
  rcases zLv_cases h with rfl | rfl | rfl | rfl
  · exact vp_in_nI (n := 1) (by decide) (by decide)
  · exact vp_in_nI (n := 2) (by decide) (by decide)
  · exact vp_in_nI (n := 3) (by decide) (by decide)
  · exact vp_in_nI (n := 4) (by decide) (by decide)
theorem zI_nb (i : Int32) : ¬ (¬ i < 0 ∧ ¬ (-1) < i) := fun h => h.2 (Int32.lt_of_lt_of_le (by decide) (Int32.not_lt.mp h.1))
theorem zLv_b0 {p : Int32} (h : zLv p) : ¬ p < 0 ∧ ¬ 4 < p := by
  rcases zLv_cases h with rfl | rfl | rfl | rfl <;> decide
theorem zSk_in {p q : Int32} (h : zSk p q) : vp_in q 100 := by
  obtain ⟨j, hj, rfl⟩ := nI_of2 (M := 99) (n := 99) (x := q) (by decide) (fun z => h.2.1 (Int32.lt_of_lt_of_le z (by decide))) h.2.2
  exact vp_in_nI (by omega) (by decide)
theorem va_AOA.moved {ty : FieldType} {u U : State} (hvm : u.vm.Alike U.vm) (h : va_AOA ty u) : va_AOA ty U := Jvm.Stand.arrayOver_alikeB hvm h
/-- a start of a constructor that makes an array of arrays of booleans -/
def zPreA (D : va_G) (tys : List (ClassId × FieldType)) (ws : va_W) (sz : Nat) (U : State) : Prop := zPre D tys ws sz U ∧ va_AOA .boolean U
theorem zPreA_blind {av : List Value} {D : va_G} {tys : List (ClassId × FieldType)} {ws : va_W} {sz : Nat} : FrameBlind (va_Pc av (zPreA D tys ws sz)) := fun a U g mk h => by
  obtain ⟨h0, ⟨h1, h2, h3, h4⟩, h7⟩ := h
  exact ⟨h0, ⟨h1, h2, va_K.moved (u := U) (U := U.calling g mk a) (Vm.Alike.refl U.vm) h3, h4⟩, va_AOA.moved (u := U) (U := U.calling g mk a) (Vm.Alike.refl U.vm) h7⟩
theorem zPSA {s : State} {H : Heap} {D : va_G} {tys tysc : List (ClassId × FieldType)} {ws wc : va_W} {A0 : Nat → Prop} {As : List Value} (hKA : va_AOA .boolean s) (hK : va_K D vwCl tys s) (hP : va_P D vwCl ws H) (hD : va_D A0 ws) (isC : List Nat) (hC : isC.map (fun i => ws[i]?) = wc.map some) (hnC : va_nd isC = true) (ks : List Nat) (hks : ks.filterMap (fun i => tys[i]?) = tysc) : PreS s H (va_Pc As (zPreA D tysc wc H.size)) As :=
  ⟨zPreA_blind, fun U hU hW => ⟨rfl, (zpre (As := As) hK hP hD isC hC hnC ks hks U hU hW).2, va_AOA.moved hW.alike hKA⟩⟩
theorem z_rows5 (r : Nat → Nat) (e : va_E) : va_pl ([] ++ (List.range 5).map r) (vr_up (fun _ => e) ((List.range 5).map r) e) = [(r 0, e), (r 1, e), (r 2, e), (r 3, e), (r 4, e)] := by
  have h : vr_up (fun _ => e) ((List.range 5).map r) e = fun _ => e := by
    funext a
    unfold vr_up
    split <;> rfl
  rw [h]
  rfl
def zG (a b c d e : Nat) : Nat → Option Nat := fun i => [a, b, c, d, e][i]?
theorem z_grid5 (r : Nat → Nat) : (fun i => if i < 5 then some (r i) else none) = zG (r 0) (r 1) (r 2) (r 3) (r 4) := by
  funext i
  unfold zG
  by_cases h : i < 5
  · have h5 : i = 0 ∨ i = 1 ∨ i = 2 ∨ i = 3 ∨ i = 4 := by omega
    rcases h5 with rfl | rfl | rfl | rfl | rfl <;> rfl
  · rw [if_neg h, List.getElem?_eq_none (by simp; omega)]
theorem z_loop {G : Array Slot → Prop} (I : Nat → Array Slot → Prop) (N : Nat) {k0 : Nat} {ls0 : Array Slot} (h0 : I k0 ls0) (hk : k0 ≤ N) (last : ∀ ls, I N ls → G ls) (step : ∀ k ls, k0 ≤ k → k < N → I k ls → (∀ ls', I (k + 1) ls' → G ls') → G ls) : G ls0 := by
  have key : ∀ (n k : Nat) (ls : Array Slot), n + k = N → k0 ≤ k → I k ls → G ls := by
    intro n
    induction n with
    | zero => intro k ls h _ hI; rw [Nat.zero_add] at h; subst h; exact last ls hI
    | succ n ih => intro k ls h h1 hI; exact step k ls h1 (by omega) hI (fun ls' h' => ih (k + 1) ls' (by omega) (by omega) h')
  exact key (N - k0) k0 ls0 (by omega) (Nat.le_refl _) h0
def zCnt (q : Int32) (k : Nat) : Int32 := if q.toNatClampNeg < k then 1 else 0
theorem zSk_nat {p q : Int32} (h : zSk p q) : 1 ≤ q.toNatClampNeg ∧ q.toNatClampNeg ≤ 99 := by
  obtain ⟨j, hj, rfl⟩ := nI_of2 (M := 99) (n := 99) (x := q) (by decide) (fun z => h.2.1 (Int32.lt_of_lt_of_le z (by decide))) h.2.2
  rw [nI_clamp (by omega)]
  refine ⟨?_, hj⟩
  rcases Nat.lt_or_ge 0 j with z | z
  · exact z
  · obtain rfl : j = 0 := by omega
    exact absurd (by decide) h.2.1
theorem zCnt_1 {p q : Int32} (h : zSk p q) : zCnt q 1 = 0 := by
  unfold zCnt
  rw [if_neg (by have := (zSk_nat h).1; omega)]
theorem zCnt_100 {p q : Int32} (h : zSk p q) : zCnt q 100 = 1 := by
  unfold zCnt
  rw [if_pos (by have := (zSk_nat h).2; omega)]
theorem zCnt_T {F : Nat → Int32} {q : Int32} {k : Nat} (hF : F = upd (fun _ => 0) q.toNatClampNeg (vp_nar .boolean 1)) (hk : k < 100) (c : F (nI k).toNatClampNeg = 0) : zCnt q k + 0 = zCnt q (k + 1) := by
  rw [nI_clamp (by omega), hF] at c
  have h : ¬ k = q.toNatClampNeg := fun z => by
    rw [← z] at c
    simp only [upd, if_true] at c
    exact absurd c (by decide)
  unfold zCnt
  by_cases h1 : q.toNatClampNeg < k
  · rw [if_pos h1, if_pos (by omega)]; decide
  · rw [if_neg h1, if_neg (by omega)]; decide
theorem zCnt_F {F : Nat → Int32} {q : Int32} {k : Nat} (hF : F = upd (fun _ => 0) q.toNatClampNeg (vp_nar .boolean 1)) (hk : k < 100) (c : ¬ F (nI k).toNatClampNeg = 0) : zCnt q k + 1 = zCnt q (k + 1) := by
  rw [nI_clamp (by omega), hF] at c
  have h : k = q.toNatClampNeg := by
    refine Classical.byContradiction fun z => c ?_
    simp only [upd, if_neg z]
  unfold zCnt
  rw [if_neg (by omega), if_pos (by omega)]
  decide
theorem zInner (c : ClassId) : Jvm.Free.Multi.innerC c 100 (defaultValue .boolean) = arrV c 100 (fun _ => .int 0) := arrV_new c 100 (.int 0)

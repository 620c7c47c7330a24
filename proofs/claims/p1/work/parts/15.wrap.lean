set_option maxHeartbeats 4000000 in
set_option maxRecDepth 100000 in
/-- law: move -/
theorem w_move (l : Launch) (D : va_G) (cI cL : ClassId) (x st lv nm lb lk od pp le pa ppA ou : Nat) (p q : Int32) (go8 : Nat → Int64) (sz : Nat) (hst : l.stackTraces = false)  : Met l yL_move wsL_move ({ frames := 8, cells := 1, slots := 6, locals := 133 }) (va_Pc [.ref x, .int p, .int q, .ref ou] (zPreX D [(cI, .int), (cL, .long)] [(x, .inr (11, [.ref st, .ref lv, .ref nm, .ref lb, .ref lk, .int 0])), (st, .inr (8, [.ref od, .ref pp, .ref le, .ref pa, .int 0])), (pp, .inr (7, [.ref ppA])), (ppA, .inl (cI, 60, .inl (fun _ => 0))), (ou, .inl (cL, 1, .inr (.inl go8)))] sz)) (va_Qi (fun rv (_ : Unit) => rv = 1) (fun (_ : Unit) => zB D [] (va_A [(x, .inr (11, [.ref st, .ref lv, .ref nm, .ref lb, .ref lk, .int 0])), (st, .inr (8, [.ref od, .ref pp, .ref le, .ref pa, .int 0])), (pp, .inr (7, [.ref ppA])), (ppA, .inl (cI, 60, .inl (fun _ => 0))), (ou, .inl (cL, 1, .inr (.inl go8)))] sz)) (va_A [(x, .inr (11, [.ref st, .ref lv, .ref nm, .ref lb, .ref lk, .int 0])), (st, .inr (8, [.ref od, .ref pp, .ref le, .ref pa, .int 0])), (pp, .inr (7, [.ref ppA])), (ppA, .inl (cI, 60, .inl (fun _ => 0))), (ou, .inl (cL, 1, .inr (.inl go8)))] sz)) 1 6 (va_A [(x, .inr (11, [.ref st, .ref lv, .ref nm, .ref lb, .ref lk, .int 0])), (st, .inr (8, [.ref od, .ref pp, .ref le, .ref pa, .int 0])), (pp, .inr (7, [.ref ppA])), (ppA, .inl (cI, 60, .inl (fun _ => 0))), (ou, .inl (cL, 1, .inr (.inl go8)))] sz) := by
  refine va_MetW (cc := cL_move) (maxL := 5) (ret := (some .int)) (by decide) rfl ?_
  intro P0 E0 s m args below meth C9 s₁ B hml hv
  obtain ⟨rfl, ⟨hsz, hP, hK, hD0⟩, ⟨hU, hN⟩, hKB⟩ := hv
  have hx := B.exec
  have hb := B.bytes
  have hr := B.returns
  have hts := atoms_spec (ws := wsL_move) B.pre
  have hown : s.vm.findClass RL = some m.cls := findClass_of_methodNamed B.named
  have hlocks := B.notSynchronized
  subst hsz
  have hD := hD0.self (sz := s.heap.size)
  generalize hAe : va_A [(x, .inr (11, [.ref st, .ref lv, .ref nm, .ref lb, .ref lk, .int 0])), (st, .inr (8, [.ref od, .ref pp, .ref le, .ref pa, .int 0])), (pp, .inr (7, [.ref ppA])), (ppA, .inl (cI, 60, .inl (fun _ => 0))), (ou, .inl (cL, 1, .inr (.inl go8)))] s.heap.size = A at hD hU hN ⊢
  have hA : ∀ q : Nat, s.heap.size ≤ q → A q := fun q h => by rw [← hAe]; exact Or.inr h
  have hS : va_S A s.heap s.heap [] := va_S.rf
  have hl := lv_entry ([.ref x, .int p, .int q, .ref ou]) (n := 5) (Nat.le_of_ble_eq_true rfl)
  rw [lg_entry_eq]
  generalize (lg_sl ([.ref x, .int p, .int q, .ref ou]) ++ List.replicate (5 - (lg_sl ([.ref x, .int p, .int q, .ref ou])).length) Slot.unset).toArray = ls at hl ⊢
  have hl : lv_has ls 5 [(0, .ref x), (1, .int p), (2, .int q), (3, .ref ou)] := hl
  refine lv_aload_n hx hb dL_move_0 rfl (lv_at hl 3 rfl) ?_
  refine lv_iconst (v := 0) hx hb dL_move_1 (by decide) ?_
  refine lv_aload_n hx hb dL_move_2 rfl (lv_at hl 0 rfl) ?_
  refine lv_iload_n hx hb dL_move_3 rfl (lv_at hl 1 rfl) ?_
  refine lv_iload_n hx hb dL_move_4 rfl (lv_at hl 2 rfl) ?_
  refine zc_x (wc := [(x, .inr (11, [.ref st, .ref lv, .ref nm, .ref lb, .ref lk, .int 0])), (st, .inr (8, [.ref od, .ref pp, .ref le, .ref pa, .int 0])), (pp, .inr (7, [.ref ppA])), (ppA, .inl (cI, 60, .inl (fun _ => 0)))]) (wr := [(ou, .inl (cL, 1, .inr (.inl go8)))]) (fun st v t h => by obtain ⟨h1, -⟩ := h; obtain ⟨r, u, -, h2, -⟩ := h1; exact h2) (vx_runV (As := [.int p, .int q]) (rest := [.int 0, .ref ou]) ⟨hx, hb, hml, hown, hts⟩ (x_move l D cI x st lv nm lb lk od pp le pa ppA p q s.heap.size hst) (cwV 2 hts gL_move_X8_move rfl rfl rfl (by decide +kernel) ⟨Nat.le_of_ble_eq_true rfl, Nat.le_of_ble_eq_true rfl⟩) (zPVX ⟨hU, hN⟩ hKB hS hA hK hP hD [0, 1, 2, 3] rfl rfl [0] rfl 0 rfl rfl rfl) rfl rfl hl.1 rfl (lv_room (Nat.le_of_ble_eq_true rfl)) dL_move_5 ⟨Nat.le_of_ble_eq_true rfl, Nat.le_of_ble_eq_true rfl⟩) hP hD hS hA [0, 1, 2, 3] [4] rfl rfl rfl (by decide) (fun ce q9 H locs hP hD hS hce hcv hcl => ?_)
  have htab := vx_table (x := objectInit) B (hts (.codeWith yL_move cL_move 5 (some .int) [(0, 10, 13, 22), (0, 10, 17, 13), (0, 10, 21, 17)]) (List.mem_of_getElem? (i := 0) rfl))
  refine vx_catch (own := RL) (name := "java/util/NoSuchElementException") hown [] ⟨0, 10, 13, 22⟩ [⟨0, 10, 17, 13⟩, ⟨0, 10, 21, 17⟩] (htab.trans rfl) (fun z h => absurd h List.not_mem_nil) rfl (by decide) (hts (.classLink RL 22 "java/util/NoSuchElementException") (List.mem_of_getElem? (i := 1) rfl)) (zW_use zKB_tab hKB.1 (.castable "java/util/NoSuchElementException" "java/util/NoSuchElementException") (List.mem_of_getElem? (i := 6) rfl)) hce hcv hcl ?_
  refine lv_astore (lv' := [(4, .ref q9), (0, .ref x), (1, .int p), (2, .int q), (3, .ref ou)]) hx hb dL_move_13 hl (by decide) rfl (fun ls hl => ?_)
  refine lv_iconst (v := 1) hx hb dL_move_15 (by decide) ?_
  obtain ⟨hP9, hD9⟩ := z_get hP hD [] (wc := []) rfl rfl
  exact W.iret (v := 1) hx hb hr (fun t ht hW => ⟨⟨1, (), rfl, rfl, by rw [ht]; exact hP9, hD9⟩, hS.F ht⟩) hS.2.2 dL_move_16

set_option maxHeartbeats 4000000 in
set_option maxRecDepth 100000 in
/-- law: setLevel -/
theorem w_setLevel (l : Launch) (D : va_G) (cI cL : ClassId) (x st lv nm lb lk od pp le pa ppA ou : Nat) (p q : Int32) (go8 : Nat → Int64) (sz : Nat) (hst : l.stackTraces = false)  : Met l yL_setLevel wsL_setLevel ({ frames := 8, cells := 1, slots := 6, locals := 133 }) (va_Pc [.ref x, .int p, .int q, .ref ou] (zPreX D [(cI, .int), (cL, .long)] [(x, .inr (11, [.ref st, .ref lv, .ref nm, .ref lb, .ref lk, .int 0])), (st, .inr (8, [.ref od, .ref pp, .ref le, .ref pa, .int 0])), (pp, .inr (7, [.ref ppA])), (ppA, .inl (cI, 60, .inl (fun _ => 0))), (ou, .inl (cL, 1, .inr (.inl go8)))] sz)) (va_Qi (fun rv (_ : Unit) => rv = 1) (fun (_ : Unit) => zB D [] (va_A [(x, .inr (11, [.ref st, .ref lv, .ref nm, .ref lb, .ref lk, .int 0])), (st, .inr (8, [.ref od, .ref pp, .ref le, .ref pa, .int 0])), (pp, .inr (7, [.ref ppA])), (ppA, .inl (cI, 60, .inl (fun _ => 0))), (ou, .inl (cL, 1, .inr (.inl go8)))] sz)) (va_A [(x, .inr (11, [.ref st, .ref lv, .ref nm, .ref lb, .ref lk, .int 0])), (st, .inr (8, [.ref od, .ref pp, .ref le, .ref pa, .int 0])), (pp, .inr (7, [.ref ppA])), (ppA, .inl (cI, 60, .inl (fun _ => 0))), (ou, .inl (cL, 1, .inr (.inl go8)))] sz)) 1 6 (va_A [(x, .inr (11, [.ref st, .ref lv, .ref nm, .ref lb, .ref lk, .int 0])), (st, .inr (8, [.ref od, .ref pp, .ref le, .ref pa, .int 0])), (pp, .inr (7, [.ref ppA])), (ppA, .inl (cI, 60, .inl (fun _ => 0))), (ou, .inl (cL, 1, .inr (.inl go8)))] sz) := by
  refine va_MetW (cc := cL_setLevel) (maxL := 5) (ret := (some .int)) (by decide) rfl ?_
  intro P0 E0 s m args below meth C9 s₁ B hml hv
  obtain ⟨rfl, ⟨hsz, hP, hK, hD0⟩, ⟨hU, hN⟩, hKB⟩ := hv
  have hx := B.exec
  have hb := B.bytes
  have hr := B.returns
  have hts := atoms_spec (ws := wsL_setLevel) B.pre
  have hown : s.vm.findClass RL = some m.cls := findClass_of_methodNamed B.named
  have hlocks := B.notSynchronized
  subst hsz
  have hD := hD0.self (sz := s.heap.size)
  generalize hAe : va_A [(x, .inr (11, [.ref st, .ref lv, .ref nm, .ref lb, .ref lk, .int 0])), (st, .inr (8, [.ref od, .ref pp, .ref le, .ref pa, .int 0])), (pp, .inr (7, [.ref ppA])), (ppA, .inl (cI, 60, .inl (fun _ => 0))), (ou, .inl (cL, 1, .inr (.inl go8)))] s.heap.size = A at hD hU hN ⊢
  have hA : ∀ q : Nat, s.heap.size ≤ q → A q := fun q h => by rw [← hAe]; exact Or.inr h
  have hS : va_S A s.heap s.heap [] := va_S.rf
  have hl := lv_entry ([.ref x, .int p, .int q, .ref ou]) (n := 5) (Nat.le_of_ble_eq_true rfl)
  rw [lg_entry_eq]
  generalize (lg_sl ([.ref x, .int p, .int q, .ref ou]) ++ List.replicate (5 - (lg_sl ([.ref x, .int p, .int q, .ref ou])).length) Slot.unset).toArray = ls at hl ⊢
  have hl : lv_has ls 5 [(0, .ref x), (1, .int p), (2, .int q), (3, .ref ou)] := hl
  refine lv_aload_n hx hb dL_setLevel_0 rfl (lv_at hl 3 rfl) ?_
  refine lv_iconst (v := 0) hx hb dL_setLevel_1 (by decide) ?_
  refine lv_aload_n hx hb dL_setLevel_2 rfl (lv_at hl 0 rfl) ?_
  refine lv_iload_n hx hb dL_setLevel_3 rfl (lv_at hl 1 rfl) ?_
  refine lv_iload_n hx hb dL_setLevel_4 rfl (lv_at hl 2 rfl) ?_
  refine zc_x (wc := [(x, .inr (11, [.ref st, .ref lv, .ref nm, .ref lb, .ref lk, .int 0])), (st, .inr (8, [.ref od, .ref pp, .ref le, .ref pa, .int 0])), (pp, .inr (7, [.ref ppA])), (ppA, .inl (cI, 60, .inl (fun _ => 0)))]) (wr := [(ou, .inl (cL, 1, .inr (.inl go8)))]) (fun st v t h => by obtain ⟨h1, -⟩ := h; obtain ⟨r, u, -, h2, -⟩ := h1; exact h2) (vx_runV (As := [.int p, .int q]) (rest := [.int 0, .ref ou]) ⟨hx, hb, hml, hown, hts⟩ (x_setLevel l D cI x st lv nm lb lk od pp le pa ppA p q s.heap.size hst) (cwV 2 hts gL_setLevel_X8_setLevel rfl rfl rfl (by decide +kernel) ⟨Nat.le_of_ble_eq_true rfl, Nat.le_of_ble_eq_true rfl⟩) (zPVX ⟨hU, hN⟩ hKB hS hA hK hP hD [0, 1, 2, 3] rfl rfl [0] rfl 0 rfl rfl rfl) rfl rfl hl.1 rfl (lv_room (Nat.le_of_ble_eq_true rfl)) dL_setLevel_5 ⟨Nat.le_of_ble_eq_true rfl, Nat.le_of_ble_eq_true rfl⟩) hP hD hS hA [0, 1, 2, 3] [4] rfl rfl rfl (by decide) (fun ce q9 H locs hP hD hS hce hcv hcl => ?_)
  have htab := vx_table (x := objectInit) B (hts (.codeWith yL_setLevel cL_setLevel 5 (some .int) [(0, 10, 13, 22), (0, 10, 17, 13), (0, 10, 21, 17)]) (List.mem_of_getElem? (i := 0) rfl))
  refine vx_catch (own := RL) (name := "java/util/NoSuchElementException") hown [] ⟨0, 10, 13, 22⟩ [⟨0, 10, 17, 13⟩, ⟨0, 10, 21, 17⟩] (htab.trans rfl) (fun z h => absurd h List.not_mem_nil) rfl (by decide) (hts (.classLink RL 22 "java/util/NoSuchElementException") (List.mem_of_getElem? (i := 1) rfl)) (zW_use zKB_tab hKB.1 (.castable "java/util/NoSuchElementException" "java/util/NoSuchElementException") (List.mem_of_getElem? (i := 6) rfl)) hce hcv hcl ?_
  refine lv_astore (lv' := [(4, .ref q9), (0, .ref x), (1, .int p), (2, .int q), (3, .ref ou)]) hx hb dL_setLevel_13 hl (by decide) rfl (fun ls hl => ?_)
  refine lv_iconst (v := 1) hx hb dL_setLevel_15 (by decide) ?_
  obtain ⟨hP9, hD9⟩ := z_get hP hD [] (wc := []) rfl rfl
  exact W.iret (v := 1) hx hb hr (fun t ht hW => ⟨⟨1, (), rfl, rfl, by rw [ht]; exact hP9, hD9⟩, hS.F ht⟩) hS.2.2 dL_setLevel_16

set_option maxHeartbeats 4000000 in
set_option maxRecDepth 100000 in
/-- law: remove -/
theorem w_remove (l : Launch) (D : va_G) (cI cL : ClassId) (x st lv nm lb lk od pp le pa ppA ou : Nat) (p : Int32) (go8 : Nat → Int64) (sz : Nat) (hst : l.stackTraces = false)  : Met l yL_remove wsL_remove ({ frames := 8, cells := 1, slots := 6, locals := 132 }) (va_Pc [.ref x, .int p, .ref ou] (zPreX D [(cI, .int), (cL, .long)] [(x, .inr (11, [.ref st, .ref lv, .ref nm, .ref lb, .ref lk, .int 0])), (st, .inr (8, [.ref od, .ref pp, .ref le, .ref pa, .int 0])), (pp, .inr (7, [.ref ppA])), (ppA, .inl (cI, 60, .inl (fun _ => 0))), (ou, .inl (cL, 1, .inr (.inl go8)))] sz)) (va_Qi (fun rv (_ : Unit) => rv = 1) (fun (_ : Unit) => zB D [] (va_A [(x, .inr (11, [.ref st, .ref lv, .ref nm, .ref lb, .ref lk, .int 0])), (st, .inr (8, [.ref od, .ref pp, .ref le, .ref pa, .int 0])), (pp, .inr (7, [.ref ppA])), (ppA, .inl (cI, 60, .inl (fun _ => 0))), (ou, .inl (cL, 1, .inr (.inl go8)))] sz)) (va_A [(x, .inr (11, [.ref st, .ref lv, .ref nm, .ref lb, .ref lk, .int 0])), (st, .inr (8, [.ref od, .ref pp, .ref le, .ref pa, .int 0])), (pp, .inr (7, [.ref ppA])), (ppA, .inl (cI, 60, .inl (fun _ => 0))), (ou, .inl (cL, 1, .inr (.inl go8)))] sz)) 1 6 (va_A [(x, .inr (11, [.ref st, .ref lv, .ref nm, .ref lb, .ref lk, .int 0])), (st, .inr (8, [.ref od, .ref pp, .ref le, .ref pa, .int 0])), (pp, .inr (7, [.ref ppA])), (ppA, .inl (cI, 60, .inl (fun _ => 0))), (ou, .inl (cL, 1, .inr (.inl go8)))] sz) := by
  refine va_MetW (cc := cL_remove) (maxL := 4) (ret := (some .int)) (by decide) rfl ?_
  intro P0 E0 s m args below meth C9 s₁ B hml hv
  obtain ⟨rfl, ⟨hsz, hP, hK, hD0⟩, ⟨hU, hN⟩, hKB⟩ := hv
  have hx := B.exec
  have hb := B.bytes
  have hr := B.returns
  have hts := atoms_spec (ws := wsL_remove) B.pre
  have hown : s.vm.findClass RL = some m.cls := findClass_of_methodNamed B.named
  have hlocks := B.notSynchronized
  subst hsz
  have hD := hD0.self (sz := s.heap.size)
  generalize hAe : va_A [(x, .inr (11, [.ref st, .ref lv, .ref nm, .ref lb, .ref lk, .int 0])), (st, .inr (8, [.ref od, .ref pp, .ref le, .ref pa, .int 0])), (pp, .inr (7, [.ref ppA])), (ppA, .inl (cI, 60, .inl (fun _ => 0))), (ou, .inl (cL, 1, .inr (.inl go8)))] s.heap.size = A at hD hU hN ⊢
  have hA : ∀ q : Nat, s.heap.size ≤ q → A q := fun q h => by rw [← hAe]; exact Or.inr h
  have hS : va_S A s.heap s.heap [] := va_S.rf
  have hl := lv_entry ([.ref x, .int p, .ref ou]) (n := 4) (Nat.le_of_ble_eq_true rfl)
  rw [lg_entry_eq]
  generalize (lg_sl ([.ref x, .int p, .ref ou]) ++ List.replicate (4 - (lg_sl ([.ref x, .int p, .ref ou])).length) Slot.unset).toArray = ls at hl ⊢
  have hl : lv_has ls 4 [(0, .ref x), (1, .int p), (2, .ref ou)] := hl
  refine lv_aload_n hx hb dL_remove_0 rfl (lv_at hl 2 rfl) ?_
  refine lv_iconst (v := 0) hx hb dL_remove_1 (by decide) ?_
  refine lv_aload_n hx hb dL_remove_2 rfl (lv_at hl 0 rfl) ?_
  refine lv_iload_n hx hb dL_remove_3 rfl (lv_at hl 1 rfl) ?_
  refine zc_x (wc := [(x, .inr (11, [.ref st, .ref lv, .ref nm, .ref lb, .ref lk, .int 0])), (st, .inr (8, [.ref od, .ref pp, .ref le, .ref pa, .int 0])), (pp, .inr (7, [.ref ppA])), (ppA, .inl (cI, 60, .inl (fun _ => 0)))]) (wr := [(ou, .inl (cL, 1, .inr (.inl go8)))]) (fun st v t h => by obtain ⟨h1, -⟩ := h; obtain ⟨r, u, -, h2, -⟩ := h1; exact h2) (vx_runV (As := [.int p]) (rest := [.int 0, .ref ou]) ⟨hx, hb, hml, hown, hts⟩ (x_remove l D cI x st lv nm lb lk od pp le pa ppA p s.heap.size hst) (cwV 1 hts gL_remove_X8_remove rfl rfl rfl (by decide +kernel) ⟨Nat.le_of_ble_eq_true rfl, Nat.le_of_ble_eq_true rfl⟩) (zPVX ⟨hU, hN⟩ hKB hS hA hK hP hD [0, 1, 2, 3] rfl rfl [0] rfl 0 rfl rfl rfl) rfl rfl hl.1 rfl (lv_room (Nat.le_of_ble_eq_true rfl)) dL_remove_4 ⟨Nat.le_of_ble_eq_true rfl, Nat.le_of_ble_eq_true rfl⟩) hP hD hS hA [0, 1, 2, 3] [4] rfl rfl rfl (by decide) (fun ce q9 H locs hP hD hS hce hcv hcl => ?_)
  have htab := vx_table (x := objectInit) B (hts (.codeWith yL_remove cL_remove 4 (some .int) [(0, 9, 12, 22), (0, 9, 15, 17)]) (List.mem_of_getElem? (i := 0) rfl))
  refine vx_catch (own := RL) (name := "java/util/NoSuchElementException") hown [] ⟨0, 9, 12, 22⟩ [⟨0, 9, 15, 17⟩] (htab.trans rfl) (fun z h => absurd h List.not_mem_nil) rfl (by decide) (hts (.classLink RL 22 "java/util/NoSuchElementException") (List.mem_of_getElem? (i := 1) rfl)) (zW_use zKB_tab hKB.1 (.castable "java/util/NoSuchElementException" "java/util/NoSuchElementException") (List.mem_of_getElem? (i := 6) rfl)) hce hcv hcl ?_
  refine lv_astore_n (lv' := [(3, .ref q9), (0, .ref x), (1, .int p), (2, .ref ou)]) hx hb dL_remove_12 rfl hl (by decide) rfl (fun ls hl => ?_)
  refine lv_iconst (v := 1) hx hb dL_remove_13 (by decide) ?_
  obtain ⟨hP9, hD9⟩ := z_get hP hD [] (wc := []) rfl rfl
  exact W.iret (v := 1) hx hb hr (fun t ht hW => ⟨⟨1, (), rfl, rfl, by rw [ht]; exact hP9, hD9⟩, hS.F ht⟩) hS.2.2 dL_remove_14

set_option maxHeartbeats 4000000 in
set_option maxRecDepth 100000 in
/-- law: startAt -/
theorem w_startAt (l : Launch) (D : va_G) (cI cL : ClassId) (x st lv nm lb lk od pp le pa ppA ou : Nat) (p q : Int32) (go8 : Nat → Int64) (sz : Nat) (hst : l.stackTraces = false)  : Met l yL_startAt wsL_startAt ({ frames := 8, cells := 1, slots := 6, locals := 133 }) (va_Pc [.ref x, .int p, .int q, .ref ou] (zPreX D [(cI, .int), (cL, .long)] [(x, .inr (11, [.ref st, .ref lv, .ref nm, .ref lb, .ref lk, .int 0])), (st, .inr (8, [.ref od, .ref pp, .ref le, .ref pa, .int 0])), (pp, .inr (7, [.ref ppA])), (ppA, .inl (cI, 60, .inl (fun _ => 0))), (ou, .inl (cL, 1, .inr (.inl go8)))] sz)) (va_Qi (fun rv (_ : Unit) => rv = 1) (fun (_ : Unit) => zB D [] (va_A [(x, .inr (11, [.ref st, .ref lv, .ref nm, .ref lb, .ref lk, .int 0])), (st, .inr (8, [.ref od, .ref pp, .ref le, .ref pa, .int 0])), (pp, .inr (7, [.ref ppA])), (ppA, .inl (cI, 60, .inl (fun _ => 0))), (ou, .inl (cL, 1, .inr (.inl go8)))] sz)) (va_A [(x, .inr (11, [.ref st, .ref lv, .ref nm, .ref lb, .ref lk, .int 0])), (st, .inr (8, [.ref od, .ref pp, .ref le, .ref pa, .int 0])), (pp, .inr (7, [.ref ppA])), (ppA, .inl (cI, 60, .inl (fun _ => 0))), (ou, .inl (cL, 1, .inr (.inl go8)))] sz)) 1 6 (va_A [(x, .inr (11, [.ref st, .ref lv, .ref nm, .ref lb, .ref lk, .int 0])), (st, .inr (8, [.ref od, .ref pp, .ref le, .ref pa, .int 0])), (pp, .inr (7, [.ref ppA])), (ppA, .inl (cI, 60, .inl (fun _ => 0))), (ou, .inl (cL, 1, .inr (.inl go8)))] sz) := by
  refine va_MetW (cc := cL_startAt) (maxL := 5) (ret := (some .int)) (by decide) rfl ?_
  intro P0 E0 s m args below meth C9 s₁ B hml hv
  obtain ⟨rfl, ⟨hsz, hP, hK, hD0⟩, ⟨hU, hN⟩, hKB⟩ := hv
  have hx := B.exec
  have hb := B.bytes
  have hr := B.returns
  have hts := atoms_spec (ws := wsL_startAt) B.pre
  have hown : s.vm.findClass RL = some m.cls := findClass_of_methodNamed B.named
  have hlocks := B.notSynchronized
  subst hsz
  have hD := hD0.self (sz := s.heap.size)
  generalize hAe : va_A [(x, .inr (11, [.ref st, .ref lv, .ref nm, .ref lb, .ref lk, .int 0])), (st, .inr (8, [.ref od, .ref pp, .ref le, .ref pa, .int 0])), (pp, .inr (7, [.ref ppA])), (ppA, .inl (cI, 60, .inl (fun _ => 0))), (ou, .inl (cL, 1, .inr (.inl go8)))] s.heap.size = A at hD hU hN ⊢
  have hA : ∀ q : Nat, s.heap.size ≤ q → A q := fun q h => by rw [← hAe]; exact Or.inr h
  have hS : va_S A s.heap s.heap [] := va_S.rf
  have hl := lv_entry ([.ref x, .int p, .int q, .ref ou]) (n := 5) (Nat.le_of_ble_eq_true rfl)
  rw [lg_entry_eq]
  generalize (lg_sl ([.ref x, .int p, .int q, .ref ou]) ++ List.replicate (5 - (lg_sl ([.ref x, .int p, .int q, .ref ou])).length) Slot.unset).toArray = ls at hl ⊢
  have hl : lv_has ls 5 [(0, .ref x), (1, .int p), (2, .int q), (3, .ref ou)] := hl
  refine lv_aload_n hx hb dL_startAt_0 rfl (lv_at hl 3 rfl) ?_
  refine lv_iconst (v := 0) hx hb dL_startAt_1 (by decide) ?_
  refine lv_aload_n hx hb dL_startAt_2 rfl (lv_at hl 0 rfl) ?_
  refine lv_iload_n hx hb dL_startAt_3 rfl (lv_at hl 1 rfl) ?_
  refine lv_iload_n hx hb dL_startAt_4 rfl (lv_at hl 2 rfl) ?_
  refine zc_x (wc := [(x, .inr (11, [.ref st, .ref lv, .ref nm, .ref lb, .ref lk, .int 0])), (st, .inr (8, [.ref od, .ref pp, .ref le, .ref pa, .int 0])), (pp, .inr (7, [.ref ppA])), (ppA, .inl (cI, 60, .inl (fun _ => 0)))]) (wr := [(ou, .inl (cL, 1, .inr (.inl go8)))]) (fun st v t h => by obtain ⟨h1, -⟩ := h; obtain ⟨r, u, -, h2, -⟩ := h1; exact h2) (vx_runV (As := [.int p, .int q]) (rest := [.int 0, .ref ou]) ⟨hx, hb, hml, hown, hts⟩ (x_startAt l D cI x st lv nm lb lk od pp le pa ppA p q s.heap.size hst) (cwV 2 hts gL_startAt_X8_startAt rfl rfl rfl (by decide +kernel) ⟨Nat.le_of_ble_eq_true rfl, Nat.le_of_ble_eq_true rfl⟩) (zPVX ⟨hU, hN⟩ hKB hS hA hK hP hD [0, 1, 2, 3] rfl rfl [0] rfl 0 rfl rfl rfl) rfl rfl hl.1 rfl (lv_room (Nat.le_of_ble_eq_true rfl)) dL_startAt_5 ⟨Nat.le_of_ble_eq_true rfl, Nat.le_of_ble_eq_true rfl⟩) hP hD hS hA [0, 1, 2, 3] [4] rfl rfl rfl (by decide) (fun ce q9 H locs hP hD hS hce hcv hcl => ?_)
  have htab := vx_table (x := objectInit) B (hts (.codeWith yL_startAt cL_startAt 5 (some .int) [(0, 10, 13, 22), (0, 10, 17, 13)]) (List.mem_of_getElem? (i := 0) rfl))
  refine vx_catch (own := RL) (name := "java/util/NoSuchElementException") hown [] ⟨0, 10, 13, 22⟩ [⟨0, 10, 17, 13⟩] (htab.trans rfl) (fun z h => absurd h List.not_mem_nil) rfl (by decide) (hts (.classLink RL 22 "java/util/NoSuchElementException") (List.mem_of_getElem? (i := 1) rfl)) (zW_use zKB_tab hKB.1 (.castable "java/util/NoSuchElementException" "java/util/NoSuchElementException") (List.mem_of_getElem? (i := 6) rfl)) hce hcv hcl ?_
  refine lv_astore (lv' := [(4, .ref q9), (0, .ref x), (1, .int p), (2, .int q), (3, .ref ou)]) hx hb dL_startAt_13 hl (by decide) rfl (fun ls hl => ?_)
  refine lv_iconst (v := 1) hx hb dL_startAt_15 (by decide) ?_
  obtain ⟨hP9, hD9⟩ := z_get hP hD [] (wc := []) rfl rfl
  exact W.iret (v := 1) hx hb hr (fun t ht hW => ⟨⟨1, (), rfl, rfl, by rw [ht]; exact hP9, hD9⟩, hS.F ht⟩) hS.2.2 dL_startAt_16

set_option maxHeartbeats 4000000 in
set_option maxRecDepth 100000 in
/-- law: reserve -/
theorem w_reserve (l : Launch) (D : va_G) (cI cL : ClassId) (x st lv nm lb lk od pp le pa ppA ou : Nat) (p q : Int32) (go8 : Nat → Int64) (sz : Nat) (hst : l.stackTraces = false)  : Met l yL_reserve wsL_reserve ({ frames := 8, cells := 1, slots := 6, locals := 133 }) (va_Pc [.ref x, .int p, .int q, .ref ou] (zPreX D [(cI, .int), (cL, .long)] [(x, .inr (11, [.ref st, .ref lv, .ref nm, .ref lb, .ref lk, .int 0])), (st, .inr (8, [.ref od, .ref pp, .ref le, .ref pa, .int 0])), (pp, .inr (7, [.ref ppA])), (ppA, .inl (cI, 60, .inl (fun _ => 0))), (ou, .inl (cL, 1, .inr (.inl go8)))] sz)) (va_Qi (fun rv (_ : Unit) => rv = 1) (fun (_ : Unit) => zB D [] (va_A [(x, .inr (11, [.ref st, .ref lv, .ref nm, .ref lb, .ref lk, .int 0])), (st, .inr (8, [.ref od, .ref pp, .ref le, .ref pa, .int 0])), (pp, .inr (7, [.ref ppA])), (ppA, .inl (cI, 60, .inl (fun _ => 0))), (ou, .inl (cL, 1, .inr (.inl go8)))] sz)) (va_A [(x, .inr (11, [.ref st, .ref lv, .ref nm, .ref lb, .ref lk, .int 0])), (st, .inr (8, [.ref od, .ref pp, .ref le, .ref pa, .int 0])), (pp, .inr (7, [.ref ppA])), (ppA, .inl (cI, 60, .inl (fun _ => 0))), (ou, .inl (cL, 1, .inr (.inl go8)))] sz)) 1 6 (va_A [(x, .inr (11, [.ref st, .ref lv, .ref nm, .ref lb, .ref lk, .int 0])), (st, .inr (8, [.ref od, .ref pp, .ref le, .ref pa, .int 0])), (pp, .inr (7, [.ref ppA])), (ppA, .inl (cI, 60, .inl (fun _ => 0))), (ou, .inl (cL, 1, .inr (.inl go8)))] sz) := by
  refine va_MetW (cc := cL_reserve) (maxL := 5) (ret := (some .int)) (by decide) rfl ?_
  intro P0 E0 s m args below meth C9 s₁ B hml hv
  obtain ⟨rfl, ⟨hsz, hP, hK, hD0⟩, ⟨hU, hN⟩, hKB⟩ := hv
  have hx := B.exec
  have hb := B.bytes
  have hr := B.returns
  have hts := atoms_spec (ws := wsL_reserve) B.pre
  have hown : s.vm.findClass RL = some m.cls := findClass_of_methodNamed B.named
  have hlocks := B.notSynchronized
  subst hsz
  have hD := hD0.self (sz := s.heap.size)
  generalize hAe : va_A [(x, .inr (11, [.ref st, .ref lv, .ref nm, .ref lb, .ref lk, .int 0])), (st, .inr (8, [.ref od, .ref pp, .ref le, .ref pa, .int 0])), (pp, .inr (7, [.ref ppA])), (ppA, .inl (cI, 60, .inl (fun _ => 0))), (ou, .inl (cL, 1, .inr (.inl go8)))] s.heap.size = A at hD hU hN ⊢
  have hA : ∀ q : Nat, s.heap.size ≤ q → A q := fun q h => by rw [← hAe]; exact Or.inr h
  have hS : va_S A s.heap s.heap [] := va_S.rf
  have hl := lv_entry ([.ref x, .int p, .int q, .ref ou]) (n := 5) (Nat.le_of_ble_eq_true rfl)
  rw [lg_entry_eq]
  generalize (lg_sl ([.ref x, .int p, .int q, .ref ou]) ++ List.replicate (5 - (lg_sl ([.ref x, .int p, .int q, .ref ou])).length) Slot.unset).toArray = ls at hl ⊢
  have hl : lv_has ls 5 [(0, .ref x), (1, .int p), (2, .int q), (3, .ref ou)] := hl
  refine lv_aload_n hx hb dL_reserve_0 rfl (lv_at hl 3 rfl) ?_
  refine lv_iconst (v := 0) hx hb dL_reserve_1 (by decide) ?_
  refine lv_aload_n hx hb dL_reserve_2 rfl (lv_at hl 0 rfl) ?_
  refine lv_iload_n hx hb dL_reserve_3 rfl (lv_at hl 1 rfl) ?_
  refine lv_iload_n hx hb dL_reserve_4 rfl (lv_at hl 2 rfl) ?_
  refine zc_x (wc := [(x, .inr (11, [.ref st, .ref lv, .ref nm, .ref lb, .ref lk, .int 0])), (st, .inr (8, [.ref od, .ref pp, .ref le, .ref pa, .int 0])), (pp, .inr (7, [.ref ppA])), (ppA, .inl (cI, 60, .inl (fun _ => 0)))]) (wr := [(ou, .inl (cL, 1, .inr (.inl go8)))]) (fun st v t h => by obtain ⟨h1, -⟩ := h; obtain ⟨r, u, -, h2, -⟩ := h1; exact h2) (vx_runV (As := [.int p, .int q]) (rest := [.int 0, .ref ou]) ⟨hx, hb, hml, hown, hts⟩ (x_reserve l D cI x st lv nm lb lk od pp le pa ppA p q s.heap.size hst) (cwV 2 hts gL_reserve_X8_reserve rfl rfl rfl (by decide +kernel) ⟨Nat.le_of_ble_eq_true rfl, Nat.le_of_ble_eq_true rfl⟩) (zPVX ⟨hU, hN⟩ hKB hS hA hK hP hD [0, 1, 2, 3] rfl rfl [0] rfl 0 rfl rfl rfl) rfl rfl hl.1 rfl (lv_room (Nat.le_of_ble_eq_true rfl)) dL_reserve_5 ⟨Nat.le_of_ble_eq_true rfl, Nat.le_of_ble_eq_true rfl⟩) hP hD hS hA [0, 1, 2, 3] [4] rfl rfl rfl (by decide) (fun ce q9 H locs hP hD hS hce hcv hcl => ?_)
  have htab := vx_table (x := objectInit) B (hts (.codeWith yL_reserve cL_reserve 5 (some .int) [(0, 10, 13, 22), (0, 10, 17, 13)]) (List.mem_of_getElem? (i := 0) rfl))
  refine vx_catch (own := RL) (name := "java/util/NoSuchElementException") hown [] ⟨0, 10, 13, 22⟩ [⟨0, 10, 17, 13⟩] (htab.trans rfl) (fun z h => absurd h List.not_mem_nil) rfl (by decide) (hts (.classLink RL 22 "java/util/NoSuchElementException") (List.mem_of_getElem? (i := 1) rfl)) (zW_use zKB_tab hKB.1 (.castable "java/util/NoSuchElementException" "java/util/NoSuchElementException") (List.mem_of_getElem? (i := 6) rfl)) hce hcv hcl ?_
  refine lv_astore (lv' := [(4, .ref q9), (0, .ref x), (1, .int p), (2, .int q), (3, .ref ou)]) hx hb dL_reserve_13 hl (by decide) rfl (fun ls hl => ?_)
  refine lv_iconst (v := 1) hx hb dL_reserve_15 (by decide) ?_
  obtain ⟨hP9, hD9⟩ := z_get hP hD [] (wc := []) rfl rfl
  exact W.iret (v := 1) hx hb hr (fun t ht hW => ⟨⟨1, (), rfl, rfl, by rw [ht]; exact hP9, hD9⟩, hS.F ht⟩) hS.2.2 dL_reserve_16

set_option maxHeartbeats 4000000 in
set_option maxRecDepth 100000 in
/-- law: refer -/
theorem w_refer (l : Launch) (D : va_G) (cI cL : ClassId) (x st lv nm lb lk od pp le pa ppA ou : Nat) (p q : Int32) (go8 : Nat → Int64) (sz : Nat) (hst : l.stackTraces = false)  : Met l yL_refer wsL_refer ({ frames := 8, cells := 1, slots := 6, locals := 132 }) (va_Pc [.ref x, .int p, .int q, .ref ou] (zPreX D [(cI, .int), (cL, .long)] [(x, .inr (11, [.ref st, .ref lv, .ref nm, .ref lb, .ref lk, .int 0])), (st, .inr (8, [.ref od, .ref pp, .ref le, .ref pa, .int 0])), (pp, .inr (7, [.ref ppA])), (ppA, .inl (cI, 60, .inl (fun _ => 0))), (ou, .inl (cL, 1, .inr (.inl go8)))] sz)) (va_Qi (fun rv (_ : Unit) => rv = 1) (fun (_ : Unit) => zB D [] (va_A [(x, .inr (11, [.ref st, .ref lv, .ref nm, .ref lb, .ref lk, .int 0])), (st, .inr (8, [.ref od, .ref pp, .ref le, .ref pa, .int 0])), (pp, .inr (7, [.ref ppA])), (ppA, .inl (cI, 60, .inl (fun _ => 0))), (ou, .inl (cL, 1, .inr (.inl go8)))] sz)) (va_A [(x, .inr (11, [.ref st, .ref lv, .ref nm, .ref lb, .ref lk, .int 0])), (st, .inr (8, [.ref od, .ref pp, .ref le, .ref pa, .int 0])), (pp, .inr (7, [.ref ppA])), (ppA, .inl (cI, 60, .inl (fun _ => 0))), (ou, .inl (cL, 1, .inr (.inl go8)))] sz)) 1 6 (va_A [(x, .inr (11, [.ref st, .ref lv, .ref nm, .ref lb, .ref lk, .int 0])), (st, .inr (8, [.ref od, .ref pp, .ref le, .ref pa, .int 0])), (pp, .inr (7, [.ref ppA])), (ppA, .inl (cI, 60, .inl (fun _ => 0))), (ou, .inl (cL, 1, .inr (.inl go8)))] sz) := by
  refine va_MetW (cc := cL_refer) (maxL := 5) (ret := (some .int)) (by decide) rfl ?_
  intro P0 E0 s m args below meth C9 s₁ B hml hv
  obtain ⟨rfl, ⟨hsz, hP, hK, hD0⟩, ⟨hU, hN⟩, hKB⟩ := hv
  have hx := B.exec
  have hb := B.bytes
  have hr := B.returns
  have hts := atoms_spec (ws := wsL_refer) B.pre
  have hown : s.vm.findClass RL = some m.cls := findClass_of_methodNamed B.named
  have hlocks := B.notSynchronized
  subst hsz
  have hD := hD0.self (sz := s.heap.size)
  generalize hAe : va_A [(x, .inr (11, [.ref st, .ref lv, .ref nm, .ref lb, .ref lk, .int 0])), (st, .inr (8, [.ref od, .ref pp, .ref le, .ref pa, .int 0])), (pp, .inr (7, [.ref ppA])), (ppA, .inl (cI, 60, .inl (fun _ => 0))), (ou, .inl (cL, 1, .inr (.inl go8)))] s.heap.size = A at hD hU hN ⊢
  have hA : ∀ q : Nat, s.heap.size ≤ q → A q := fun q h => by rw [← hAe]; exact Or.inr h
  have hS : va_S A s.heap s.heap [] := va_S.rf
  have hl := lv_entry ([.ref x, .int p, .int q, .ref ou]) (n := 5) (Nat.le_of_ble_eq_true rfl)
  rw [lg_entry_eq]
  generalize (lg_sl ([.ref x, .int p, .int q, .ref ou]) ++ List.replicate (5 - (lg_sl ([.ref x, .int p, .int q, .ref ou])).length) Slot.unset).toArray = ls at hl ⊢
  have hl : lv_has ls 5 [(0, .ref x), (1, .int p), (2, .int q), (3, .ref ou)] := hl
  refine lv_aload_n hx hb dL_refer_0 rfl (lv_at hl 3 rfl) ?_
  refine lv_iconst (v := 0) hx hb dL_refer_1 (by decide) ?_
  refine lv_aload_n hx hb dL_refer_2 rfl (lv_at hl 0 rfl) ?_
  refine lv_iload_n hx hb dL_refer_3 rfl (lv_at hl 1 rfl) ?_
  refine lv_iload_n hx hb dL_refer_4 rfl (lv_at hl 2 rfl) ?_
  refine zc_x (wc := [(x, .inr (11, [.ref st, .ref lv, .ref nm, .ref lb, .ref lk, .int 0])), (st, .inr (8, [.ref od, .ref pp, .ref le, .ref pa, .int 0])), (pp, .inr (7, [.ref ppA])), (ppA, .inl (cI, 60, .inl (fun _ => 0)))]) (wr := [(ou, .inl (cL, 1, .inr (.inl go8)))]) (fun st v t h => by obtain ⟨h1, -⟩ := h; obtain ⟨r, u, -, h2, -⟩ := h1; exact h2) (vx_runV (As := [.int p, .int q]) (rest := [.int 0, .ref ou]) ⟨hx, hb, hml, hown, hts⟩ (x_refer l D cI x st lv nm lb lk od pp le pa ppA p q s.heap.size hst) (cwV 2 hts gL_refer_X8_refer rfl rfl rfl (by decide +kernel) ⟨Nat.le_of_ble_eq_true rfl, Nat.le_of_ble_eq_true rfl⟩) (zPVX ⟨hU, hN⟩ hKB hS hA hK hP hD [0, 1, 2, 3] rfl rfl [0] rfl 0 rfl rfl rfl) rfl rfl hl.1 rfl (lv_room (Nat.le_of_ble_eq_true rfl)) dL_refer_5 ⟨Nat.le_of_ble_eq_true rfl, Nat.le_of_ble_eq_true rfl⟩) hP hD hS hA [0, 1, 2, 3] [4] rfl rfl rfl (by decide) (fun ce q9 H locs hP hD hS hce hcv hcl => ?_)
  have htab := vx_table (x := objectInit) B (hts (.codeWith yL_refer cL_refer 5 (some .int) [(0, 10, 13, 22), (0, 10, 17, 13), (0, 10, 21, 15)]) (List.mem_of_getElem? (i := 0) rfl))
  refine vx_catch (own := RL) (name := "java/util/NoSuchElementException") hown [] ⟨0, 10, 13, 22⟩ [⟨0, 10, 17, 13⟩, ⟨0, 10, 21, 15⟩] (htab.trans rfl) (fun z h => absurd h List.not_mem_nil) rfl (by decide) (hts (.classLink RL 22 "java/util/NoSuchElementException") (List.mem_of_getElem? (i := 1) rfl)) (zW_use zKB_tab hKB.1 (.castable "java/util/NoSuchElementException" "java/util/NoSuchElementException") (List.mem_of_getElem? (i := 6) rfl)) hce hcv hcl ?_
  refine lv_astore (lv' := [(4, .ref q9), (0, .ref x), (1, .int p), (2, .int q), (3, .ref ou)]) hx hb dL_refer_13 hl (by decide) rfl (fun ls hl => ?_)
  refine lv_iconst (v := 1) hx hb dL_refer_15 (by decide) ?_
  obtain ⟨hP9, hD9⟩ := z_get hP hD [] (wc := []) rfl rfl
  exact W.iret (v := 1) hx hb hr (fun t ht hW => ⟨⟨1, (), rfl, rfl, by rw [ht]; exact hP9, hD9⟩, hS.F ht⟩) hS.2.2 dL_refer_16

set_option maxHeartbeats 4000000 in
set_option maxRecDepth 100000 in
/-- law: placeOf -/
theorem w_placeOf (l : Launch) (D : va_G) (cI cL : ClassId) (x st lv nm lb lk od pp le pa ppA ou : Nat) (p : Int32) (go8 : Nat → Int64) (sz : Nat) (hst : l.stackTraces = false)  : Met l yL_placeOf wsL_placeOf ({ frames := 8, cells := 1, slots := 6, locals := 131 }) (va_Pc [.ref x, .int p, .ref ou] (zPreX D [(cI, .int), (cL, .long)] [(x, .inr (11, [.ref st, .ref lv, .ref nm, .ref lb, .ref lk, .int 0])), (st, .inr (8, [.ref od, .ref pp, .ref le, .ref pa, .int 0])), (pp, .inr (7, [.ref ppA])), (ppA, .inl (cI, 60, .inl (fun _ => 0))), (ou, .inl (cL, 1, .inr (.inl go8)))] sz)) (va_Qi (fun rv (_ : Unit) => rv = 1) (fun (_ : Unit) => zB D [] (va_A [(x, .inr (11, [.ref st, .ref lv, .ref nm, .ref lb, .ref lk, .int 0])), (st, .inr (8, [.ref od, .ref pp, .ref le, .ref pa, .int 0])), (pp, .inr (7, [.ref ppA])), (ppA, .inl (cI, 60, .inl (fun _ => 0))), (ou, .inl (cL, 1, .inr (.inl go8)))] sz)) (va_A [(x, .inr (11, [.ref st, .ref lv, .ref nm, .ref lb, .ref lk, .int 0])), (st, .inr (8, [.ref od, .ref pp, .ref le, .ref pa, .int 0])), (pp, .inr (7, [.ref ppA])), (ppA, .inl (cI, 60, .inl (fun _ => 0))), (ou, .inl (cL, 1, .inr (.inl go8)))] sz)) 1 6 (va_A [(x, .inr (11, [.ref st, .ref lv, .ref nm, .ref lb, .ref lk, .int 0])), (st, .inr (8, [.ref od, .ref pp, .ref le, .ref pa, .int 0])), (pp, .inr (7, [.ref ppA])), (ppA, .inl (cI, 60, .inl (fun _ => 0))), (ou, .inl (cL, 1, .inr (.inl go8)))] sz) := by
  refine va_MetW (cc := cL_placeOf) (maxL := 4) (ret := (some .int)) (by decide) rfl ?_
  intro P0 E0 s m args below meth C9 s₁ B hml hv
  obtain ⟨rfl, ⟨hsz, hP, hK, hD0⟩, ⟨hU, hN⟩, hKB⟩ := hv
  have hx := B.exec
  have hb := B.bytes
  have hr := B.returns
  have hts := atoms_spec (ws := wsL_placeOf) B.pre
  have hown : s.vm.findClass RL = some m.cls := findClass_of_methodNamed B.named
  have hlocks := B.notSynchronized
  subst hsz
  have hD := hD0.self (sz := s.heap.size)
  generalize hAe : va_A [(x, .inr (11, [.ref st, .ref lv, .ref nm, .ref lb, .ref lk, .int 0])), (st, .inr (8, [.ref od, .ref pp, .ref le, .ref pa, .int 0])), (pp, .inr (7, [.ref ppA])), (ppA, .inl (cI, 60, .inl (fun _ => 0))), (ou, .inl (cL, 1, .inr (.inl go8)))] s.heap.size = A at hD hU hN ⊢
  have hA : ∀ q : Nat, s.heap.size ≤ q → A q := fun q h => by rw [← hAe]; exact Or.inr h
  have hS : va_S A s.heap s.heap [] := va_S.rf
  have hl := lv_entry ([.ref x, .int p, .ref ou]) (n := 4) (Nat.le_of_ble_eq_true rfl)
  rw [lg_entry_eq]
  generalize (lg_sl ([.ref x, .int p, .ref ou]) ++ List.replicate (4 - (lg_sl ([.ref x, .int p, .ref ou])).length) Slot.unset).toArray = ls at hl ⊢
  have hl : lv_has ls 4 [(0, .ref x), (1, .int p), (2, .ref ou)] := hl
  refine lv_aload_n hx hb dL_placeOf_0 rfl (lv_at hl 2 rfl) ?_
  refine lv_iconst (v := 0) hx hb dL_placeOf_1 (by decide) ?_
  refine lv_aload_n hx hb dL_placeOf_2 rfl (lv_at hl 0 rfl) ?_
  refine lv_iload_n hx hb dL_placeOf_3 rfl (lv_at hl 1 rfl) ?_
  refine zc_x (wc := [(x, .inr (11, [.ref st, .ref lv, .ref nm, .ref lb, .ref lk, .int 0])), (st, .inr (8, [.ref od, .ref pp, .ref le, .ref pa, .int 0])), (pp, .inr (7, [.ref ppA])), (ppA, .inl (cI, 60, .inl (fun _ => 0)))]) (wr := [(ou, .inl (cL, 1, .inr (.inl go8)))]) (fun st v t h => by obtain ⟨h1, -⟩ := h; obtain ⟨r, u, -, h2, -⟩ := h1; exact h2) (vx_runV (As := [.int p]) (rest := [.int 0, .ref ou]) ⟨hx, hb, hml, hown, hts⟩ (x_placeOf l D cI x st lv nm lb lk od pp le pa ppA p s.heap.size hst) (cwV 1 hts gL_placeOf_X8_placeOf rfl rfl rfl (by decide +kernel) ⟨Nat.le_of_ble_eq_true rfl, Nat.le_of_ble_eq_true rfl⟩) (zPVX ⟨hU, hN⟩ hKB hS hA hK hP hD [0, 1, 2, 3] rfl rfl [0] rfl 0 rfl rfl rfl) rfl rfl hl.1 rfl (lv_room (Nat.le_of_ble_eq_true rfl)) dL_placeOf_4 ⟨Nat.le_of_ble_eq_true rfl, Nat.le_of_ble_eq_true rfl⟩) hP hD hS hA [0, 1, 2, 3] [4] rfl rfl rfl (by decide) (fun ce q9 H locs hP hD hS hce hcv hcl => ?_)
  have htab := vx_table (x := objectInit) B (hts (.codeWith yL_placeOf cL_placeOf 4 (some .int) [(0, 9, 12, 22)]) (List.mem_of_getElem? (i := 0) rfl))
  refine vx_catch (own := RL) (name := "java/util/NoSuchElementException") hown [] ⟨0, 9, 12, 22⟩ [] (htab.trans rfl) (fun z h => absurd h List.not_mem_nil) rfl (by decide) (hts (.classLink RL 22 "java/util/NoSuchElementException") (List.mem_of_getElem? (i := 1) rfl)) (zW_use zKB_tab hKB.1 (.castable "java/util/NoSuchElementException" "java/util/NoSuchElementException") (List.mem_of_getElem? (i := 6) rfl)) hce hcv hcl ?_
  refine lv_astore_n (lv' := [(3, .ref q9), (0, .ref x), (1, .int p), (2, .ref ou)]) hx hb dL_placeOf_12 rfl hl (by decide) rfl (fun ls hl => ?_)
  refine lv_iconst (v := 1) hx hb dL_placeOf_13 (by decide) ?_
  obtain ⟨hP9, hD9⟩ := z_get hP hD [] (wc := []) rfl rfl
  exact W.iret (v := 1) hx hb hr (fun t ht hW => ⟨⟨1, (), rfl, rfl, by rw [ht]; exact hP9, hD9⟩, hS.F ht⟩) hS.2.2 dL_placeOf_14

set_option maxHeartbeats 4000000 in
set_option maxRecDepth 100000 in
/-- law: levelOf -/
theorem w_levelOf (l : Launch) (D : va_G) (cI cL : ClassId) (x st lv nm lb lk od pp le pa ppA ou : Nat) (p : Int32) (go8 : Nat → Int64) (sz : Nat) (hst : l.stackTraces = false)  : Met l yL_levelOf wsL_levelOf ({ frames := 8, cells := 1, slots := 6, locals := 131 }) (va_Pc [.ref x, .int p, .ref ou] (zPreX D [(cI, .int), (cL, .long)] [(x, .inr (11, [.ref st, .ref lv, .ref nm, .ref lb, .ref lk, .int 0])), (st, .inr (8, [.ref od, .ref pp, .ref le, .ref pa, .int 0])), (pp, .inr (7, [.ref ppA])), (ppA, .inl (cI, 60, .inl (fun _ => 0))), (ou, .inl (cL, 1, .inr (.inl go8)))] sz)) (va_Qi (fun rv (_ : Unit) => rv = 1) (fun (_ : Unit) => zB D [] (va_A [(x, .inr (11, [.ref st, .ref lv, .ref nm, .ref lb, .ref lk, .int 0])), (st, .inr (8, [.ref od, .ref pp, .ref le, .ref pa, .int 0])), (pp, .inr (7, [.ref ppA])), (ppA, .inl (cI, 60, .inl (fun _ => 0))), (ou, .inl (cL, 1, .inr (.inl go8)))] sz)) (va_A [(x, .inr (11, [.ref st, .ref lv, .ref nm, .ref lb, .ref lk, .int 0])), (st, .inr (8, [.ref od, .ref pp, .ref le, .ref pa, .int 0])), (pp, .inr (7, [.ref ppA])), (ppA, .inl (cI, 60, .inl (fun _ => 0))), (ou, .inl (cL, 1, .inr (.inl go8)))] sz)) 1 6 (va_A [(x, .inr (11, [.ref st, .ref lv, .ref nm, .ref lb, .ref lk, .int 0])), (st, .inr (8, [.ref od, .ref pp, .ref le, .ref pa, .int 0])), (pp, .inr (7, [.ref ppA])), (ppA, .inl (cI, 60, .inl (fun _ => 0))), (ou, .inl (cL, 1, .inr (.inl go8)))] sz) := by
  refine va_MetW (cc := cL_levelOf) (maxL := 4) (ret := (some .int)) (by decide) rfl ?_
  intro P0 E0 s m args below meth C9 s₁ B hml hv
  obtain ⟨rfl, ⟨hsz, hP, hK, hD0⟩, ⟨hU, hN⟩, hKB⟩ := hv
  have hx := B.exec
  have hb := B.bytes
  have hr := B.returns
  have hts := atoms_spec (ws := wsL_levelOf) B.pre
  have hown : s.vm.findClass RL = some m.cls := findClass_of_methodNamed B.named
  have hlocks := B.notSynchronized
  subst hsz
  have hD := hD0.self (sz := s.heap.size)
  generalize hAe : va_A [(x, .inr (11, [.ref st, .ref lv, .ref nm, .ref lb, .ref lk, .int 0])), (st, .inr (8, [.ref od, .ref pp, .ref le, .ref pa, .int 0])), (pp, .inr (7, [.ref ppA])), (ppA, .inl (cI, 60, .inl (fun _ => 0))), (ou, .inl (cL, 1, .inr (.inl go8)))] s.heap.size = A at hD hU hN ⊢
  have hA : ∀ q : Nat, s.heap.size ≤ q → A q := fun q h => by rw [← hAe]; exact Or.inr h
  have hS : va_S A s.heap s.heap [] := va_S.rf
  have hl := lv_entry ([.ref x, .int p, .ref ou]) (n := 4) (Nat.le_of_ble_eq_true rfl)
  rw [lg_entry_eq]
  generalize (lg_sl ([.ref x, .int p, .ref ou]) ++ List.replicate (4 - (lg_sl ([.ref x, .int p, .ref ou])).length) Slot.unset).toArray = ls at hl ⊢
  have hl : lv_has ls 4 [(0, .ref x), (1, .int p), (2, .ref ou)] := hl
  refine lv_aload_n hx hb dL_levelOf_0 rfl (lv_at hl 2 rfl) ?_
  refine lv_iconst (v := 0) hx hb dL_levelOf_1 (by decide) ?_
  refine lv_aload_n hx hb dL_levelOf_2 rfl (lv_at hl 0 rfl) ?_
  refine lv_iload_n hx hb dL_levelOf_3 rfl (lv_at hl 1 rfl) ?_
  refine zc_x (wc := [(x, .inr (11, [.ref st, .ref lv, .ref nm, .ref lb, .ref lk, .int 0])), (st, .inr (8, [.ref od, .ref pp, .ref le, .ref pa, .int 0])), (pp, .inr (7, [.ref ppA])), (ppA, .inl (cI, 60, .inl (fun _ => 0)))]) (wr := [(ou, .inl (cL, 1, .inr (.inl go8)))]) (fun st v t h => by obtain ⟨h1, -⟩ := h; obtain ⟨r, u, -, h2, -⟩ := h1; exact h2) (vx_runV (As := [.int p]) (rest := [.int 0, .ref ou]) ⟨hx, hb, hml, hown, hts⟩ (x_levelOf l D cI x st lv nm lb lk od pp le pa ppA p s.heap.size hst) (cwV 1 hts gL_levelOf_X8_levelOf rfl rfl rfl (by decide +kernel) ⟨Nat.le_of_ble_eq_true rfl, Nat.le_of_ble_eq_true rfl⟩) (zPVX ⟨hU, hN⟩ hKB hS hA hK hP hD [0, 1, 2, 3] rfl rfl [0] rfl 0 rfl rfl rfl) rfl rfl hl.1 rfl (lv_room (Nat.le_of_ble_eq_true rfl)) dL_levelOf_4 ⟨Nat.le_of_ble_eq_true rfl, Nat.le_of_ble_eq_true rfl⟩) hP hD hS hA [0, 1, 2, 3] [4] rfl rfl rfl (by decide) (fun ce q9 H locs hP hD hS hce hcv hcl => ?_)
  have htab := vx_table (x := objectInit) B (hts (.codeWith yL_levelOf cL_levelOf 4 (some .int) [(0, 9, 12, 22)]) (List.mem_of_getElem? (i := 0) rfl))
  refine vx_catch (own := RL) (name := "java/util/NoSuchElementException") hown [] ⟨0, 9, 12, 22⟩ [] (htab.trans rfl) (fun z h => absurd h List.not_mem_nil) rfl (by decide) (hts (.classLink RL 22 "java/util/NoSuchElementException") (List.mem_of_getElem? (i := 1) rfl)) (zW_use zKB_tab hKB.1 (.castable "java/util/NoSuchElementException" "java/util/NoSuchElementException") (List.mem_of_getElem? (i := 6) rfl)) hce hcv hcl ?_
  refine lv_astore_n (lv' := [(3, .ref q9), (0, .ref x), (1, .int p), (2, .ref ou)]) hx hb dL_levelOf_12 rfl hl (by decide) rfl (fun ls hl => ?_)
  refine lv_iconst (v := 1) hx hb dL_levelOf_13 (by decide) ?_
  obtain ⟨hP9, hD9⟩ := z_get hP hD [] (wc := []) rfl rfl
  exact W.iret (v := 1) hx hb hr (fun t ht hW => ⟨⟨1, (), rfl, rfl, by rw [ht]; exact hP9, hD9⟩, hS.F ht⟩) hS.2.2 dL_levelOf_14

set_option maxHeartbeats 4000000 in
set_option maxRecDepth 100000 in
/-- law: below -/
theorem w_below (l : Launch) (D : va_G) (cI cL : ClassId) (x st lv nm lb lk od pp le pa ppA ou : Nat) (p : Int32) (go8 : Nat → Int64) (sz : Nat) (hst : l.stackTraces = false)  : Met l yL_below wsL_below ({ frames := 8, cells := 1, slots := 6, locals := 133 }) (va_Pc [.ref x, .int p, .ref ou] (zPreX D [(cI, .int), (cL, .long)] [(x, .inr (11, [.ref st, .ref lv, .ref nm, .ref lb, .ref lk, .int 0])), (st, .inr (8, [.ref od, .ref pp, .ref le, .ref pa, .int 0])), (pp, .inr (7, [.ref ppA])), (ppA, .inl (cI, 60, .inl (fun _ => 0))), (ou, .inl (cL, 1, .inr (.inl go8)))] sz)) (va_Qi (fun rv (_ : Unit) => rv = 1) (fun (_ : Unit) => zB D [] (va_A [(x, .inr (11, [.ref st, .ref lv, .ref nm, .ref lb, .ref lk, .int 0])), (st, .inr (8, [.ref od, .ref pp, .ref le, .ref pa, .int 0])), (pp, .inr (7, [.ref ppA])), (ppA, .inl (cI, 60, .inl (fun _ => 0))), (ou, .inl (cL, 1, .inr (.inl go8)))] sz)) (va_A [(x, .inr (11, [.ref st, .ref lv, .ref nm, .ref lb, .ref lk, .int 0])), (st, .inr (8, [.ref od, .ref pp, .ref le, .ref pa, .int 0])), (pp, .inr (7, [.ref ppA])), (ppA, .inl (cI, 60, .inl (fun _ => 0))), (ou, .inl (cL, 1, .inr (.inl go8)))] sz)) 1 6 (va_A [(x, .inr (11, [.ref st, .ref lv, .ref nm, .ref lb, .ref lk, .int 0])), (st, .inr (8, [.ref od, .ref pp, .ref le, .ref pa, .int 0])), (pp, .inr (7, [.ref ppA])), (ppA, .inl (cI, 60, .inl (fun _ => 0))), (ou, .inl (cL, 1, .inr (.inl go8)))] sz) := by
  refine va_MetW (cc := cL_below) (maxL := 4) (ret := (some .int)) (by decide) rfl ?_
  intro P0 E0 s m args below meth C9 s₁ B hml hv
  obtain ⟨rfl, ⟨hsz, hP, hK, hD0⟩, ⟨hU, hN⟩, hKB⟩ := hv
  have hx := B.exec
  have hb := B.bytes
  have hr := B.returns
  have hts := atoms_spec (ws := wsL_below) B.pre
  have hown : s.vm.findClass RL = some m.cls := findClass_of_methodNamed B.named
  have hlocks := B.notSynchronized
  subst hsz
  have hD := hD0.self (sz := s.heap.size)
  generalize hAe : va_A [(x, .inr (11, [.ref st, .ref lv, .ref nm, .ref lb, .ref lk, .int 0])), (st, .inr (8, [.ref od, .ref pp, .ref le, .ref pa, .int 0])), (pp, .inr (7, [.ref ppA])), (ppA, .inl (cI, 60, .inl (fun _ => 0))), (ou, .inl (cL, 1, .inr (.inl go8)))] s.heap.size = A at hD hU hN ⊢
  have hA : ∀ q : Nat, s.heap.size ≤ q → A q := fun q h => by rw [← hAe]; exact Or.inr h
  have hS : va_S A s.heap s.heap [] := va_S.rf
  have hl := lv_entry ([.ref x, .int p, .ref ou]) (n := 4) (Nat.le_of_ble_eq_true rfl)
  rw [lg_entry_eq]
  generalize (lg_sl ([.ref x, .int p, .ref ou]) ++ List.replicate (4 - (lg_sl ([.ref x, .int p, .ref ou])).length) Slot.unset).toArray = ls at hl ⊢
  have hl : lv_has ls 4 [(0, .ref x), (1, .int p), (2, .ref ou)] := hl
  refine lv_aload_n hx hb dL_below_0 rfl (lv_at hl 2 rfl) ?_
  refine lv_iconst (v := 0) hx hb dL_below_1 (by decide) ?_
  refine lv_aload_n hx hb dL_below_2 rfl (lv_at hl 0 rfl) ?_
  refine lv_iload_n hx hb dL_below_3 rfl (lv_at hl 1 rfl) ?_
  refine zc_x (wc := [(x, .inr (11, [.ref st, .ref lv, .ref nm, .ref lb, .ref lk, .int 0])), (st, .inr (8, [.ref od, .ref pp, .ref le, .ref pa, .int 0])), (pp, .inr (7, [.ref ppA])), (ppA, .inl (cI, 60, .inl (fun _ => 0)))]) (wr := [(ou, .inl (cL, 1, .inr (.inl go8)))]) (fun st v t h => by obtain ⟨h1, -⟩ := h; obtain ⟨r, u, -, h2, -⟩ := h1; exact h2) (vx_runV (As := [.int p]) (rest := [.int 0, .ref ou]) ⟨hx, hb, hml, hown, hts⟩ (x_below l D cI x st lv nm lb lk od pp le pa ppA p s.heap.size hst) (cwV 1 hts gL_below_X8_below rfl rfl rfl (by decide +kernel) ⟨Nat.le_of_ble_eq_true rfl, Nat.le_of_ble_eq_true rfl⟩) (zPVX ⟨hU, hN⟩ hKB hS hA hK hP hD [0, 1, 2, 3] rfl rfl [0] rfl 0 rfl rfl rfl) rfl rfl hl.1 rfl (lv_room (Nat.le_of_ble_eq_true rfl)) dL_below_4 ⟨Nat.le_of_ble_eq_true rfl, Nat.le_of_ble_eq_true rfl⟩) hP hD hS hA [0, 1, 2, 3] [4] rfl rfl rfl (by decide) (fun ce q9 H locs hP hD hS hce hcv hcl => ?_)
  have htab := vx_table (x := objectInit) B (hts (.codeWith yL_below cL_below 4 (some .int) [(0, 9, 12, 22)]) (List.mem_of_getElem? (i := 0) rfl))
  refine vx_catch (own := RL) (name := "java/util/NoSuchElementException") hown [] ⟨0, 9, 12, 22⟩ [] (htab.trans rfl) (fun z h => absurd h List.not_mem_nil) rfl (by decide) (hts (.classLink RL 22 "java/util/NoSuchElementException") (List.mem_of_getElem? (i := 1) rfl)) (zW_use zKB_tab hKB.1 (.castable "java/util/NoSuchElementException" "java/util/NoSuchElementException") (List.mem_of_getElem? (i := 6) rfl)) hce hcv hcl ?_
  refine lv_astore_n (lv' := [(3, .ref q9), (0, .ref x), (1, .int p), (2, .ref ou)]) hx hb dL_below_12 rfl hl (by decide) rfl (fun ls hl => ?_)
  refine lv_iconst (v := 1) hx hb dL_below_13 (by decide) ?_
  obtain ⟨hP9, hD9⟩ := z_get hP hD [] (wc := []) rfl rfl
  exact W.iret (v := 1) hx hb hr (fun t ht hW => ⟨⟨1, (), rfl, rfl, by rw [ht]; exact hP9, hD9⟩, hS.F ht⟩) hS.2.2 dL_below_14

set_option maxHeartbeats 4000000 in
set_option maxRecDepth 100000 in
/-- law: isFrozen -/
theorem w_isFrozen (l : Launch) (D : va_G) (cI cL : ClassId) (x st lv nm lb lk od pp le pa ppA ou : Nat) (p : Int32) (go8 : Nat → Int64) (sz : Nat) (hst : l.stackTraces = false)  : Met l yL_isFrozen wsL_isFrozen ({ frames := 8, cells := 1, slots := 6, locals := 131 }) (va_Pc [.ref x, .int p, .ref ou] (zPreX D [(cI, .int), (cL, .long)] [(x, .inr (11, [.ref st, .ref lv, .ref nm, .ref lb, .ref lk, .int 0])), (st, .inr (8, [.ref od, .ref pp, .ref le, .ref pa, .int 0])), (pp, .inr (7, [.ref ppA])), (ppA, .inl (cI, 60, .inl (fun _ => 0))), (ou, .inl (cL, 1, .inr (.inl go8)))] sz)) (va_Qi (fun rv (_ : Unit) => rv = 1) (fun (_ : Unit) => zB D [] (va_A [(x, .inr (11, [.ref st, .ref lv, .ref nm, .ref lb, .ref lk, .int 0])), (st, .inr (8, [.ref od, .ref pp, .ref le, .ref pa, .int 0])), (pp, .inr (7, [.ref ppA])), (ppA, .inl (cI, 60, .inl (fun _ => 0))), (ou, .inl (cL, 1, .inr (.inl go8)))] sz)) (va_A [(x, .inr (11, [.ref st, .ref lv, .ref nm, .ref lb, .ref lk, .int 0])), (st, .inr (8, [.ref od, .ref pp, .ref le, .ref pa, .int 0])), (pp, .inr (7, [.ref ppA])), (ppA, .inl (cI, 60, .inl (fun _ => 0))), (ou, .inl (cL, 1, .inr (.inl go8)))] sz)) 1 6 (va_A [(x, .inr (11, [.ref st, .ref lv, .ref nm, .ref lb, .ref lk, .int 0])), (st, .inr (8, [.ref od, .ref pp, .ref le, .ref pa, .int 0])), (pp, .inr (7, [.ref ppA])), (ppA, .inl (cI, 60, .inl (fun _ => 0))), (ou, .inl (cL, 1, .inr (.inl go8)))] sz) := by
  refine va_MetW (cc := cL_isFrozen) (maxL := 4) (ret := (some .int)) (by decide) rfl ?_
  intro P0 E0 s m args below meth C9 s₁ B hml hv
  obtain ⟨rfl, ⟨hsz, hP, hK, hD0⟩, ⟨hU, hN⟩, hKB⟩ := hv
  have hx := B.exec
  have hb := B.bytes
  have hr := B.returns
  have hts := atoms_spec (ws := wsL_isFrozen) B.pre
  have hown : s.vm.findClass RL = some m.cls := findClass_of_methodNamed B.named
  have hlocks := B.notSynchronized
  subst hsz
  have hD := hD0.self (sz := s.heap.size)
  generalize hAe : va_A [(x, .inr (11, [.ref st, .ref lv, .ref nm, .ref lb, .ref lk, .int 0])), (st, .inr (8, [.ref od, .ref pp, .ref le, .ref pa, .int 0])), (pp, .inr (7, [.ref ppA])), (ppA, .inl (cI, 60, .inl (fun _ => 0))), (ou, .inl (cL, 1, .inr (.inl go8)))] s.heap.size = A at hD hU hN ⊢
  have hA : ∀ q : Nat, s.heap.size ≤ q → A q := fun q h => by rw [← hAe]; exact Or.inr h
  have hS : va_S A s.heap s.heap [] := va_S.rf
  have hl := lv_entry ([.ref x, .int p, .ref ou]) (n := 4) (Nat.le_of_ble_eq_true rfl)
  rw [lg_entry_eq]
  generalize (lg_sl ([.ref x, .int p, .ref ou]) ++ List.replicate (4 - (lg_sl ([.ref x, .int p, .ref ou])).length) Slot.unset).toArray = ls at hl ⊢
  have hl : lv_has ls 4 [(0, .ref x), (1, .int p), (2, .ref ou)] := hl
  refine lv_aload_n hx hb dL_isFrozen_0 rfl (lv_at hl 2 rfl) ?_
  refine lv_iconst (v := 0) hx hb dL_isFrozen_1 (by decide) ?_
  refine lv_aload_n hx hb dL_isFrozen_2 rfl (lv_at hl 0 rfl) ?_
  refine lv_iload_n hx hb dL_isFrozen_3 rfl (lv_at hl 1 rfl) ?_
  refine zc_x (wc := [(x, .inr (11, [.ref st, .ref lv, .ref nm, .ref lb, .ref lk, .int 0])), (st, .inr (8, [.ref od, .ref pp, .ref le, .ref pa, .int 0])), (pp, .inr (7, [.ref ppA])), (ppA, .inl (cI, 60, .inl (fun _ => 0)))]) (wr := [(ou, .inl (cL, 1, .inr (.inl go8)))]) (fun st v t h => by obtain ⟨h1, -⟩ := h; obtain ⟨r, u, -, h2, -⟩ := h1; exact h2) (vx_runV (As := [.int p]) (rest := [.int 0, .ref ou]) ⟨hx, hb, hml, hown, hts⟩ (x_isFrozen l D cI x st lv nm lb lk od pp le pa ppA p s.heap.size hst) (cwV 1 hts gL_isFrozen_X8_isFrozen rfl rfl rfl (by decide +kernel) ⟨Nat.le_of_ble_eq_true rfl, Nat.le_of_ble_eq_true rfl⟩) (zPVX ⟨hU, hN⟩ hKB hS hA hK hP hD [0, 1, 2, 3] rfl rfl [0] rfl 0 rfl rfl rfl) rfl rfl hl.1 rfl (lv_room (Nat.le_of_ble_eq_true rfl)) dL_isFrozen_4 ⟨Nat.le_of_ble_eq_true rfl, Nat.le_of_ble_eq_true rfl⟩) hP hD hS hA [0, 1, 2, 3] [4] rfl rfl rfl (by decide) (fun ce q9 H locs hP hD hS hce hcv hcl => ?_)
  have htab := vx_table (x := objectInit) B (hts (.codeWith yL_isFrozen cL_isFrozen 4 (some .int) [(0, 16, 19, 22)]) (List.mem_of_getElem? (i := 0) rfl))
  refine vx_catch (own := RL) (name := "java/util/NoSuchElementException") hown [] ⟨0, 16, 19, 22⟩ [] (htab.trans rfl) (fun z h => absurd h List.not_mem_nil) rfl (by decide) (hts (.classLink RL 22 "java/util/NoSuchElementException") (List.mem_of_getElem? (i := 1) rfl)) (zW_use zKB_tab hKB.1 (.castable "java/util/NoSuchElementException" "java/util/NoSuchElementException") (List.mem_of_getElem? (i := 6) rfl)) hce hcv hcl ?_
  refine lv_astore_n (lv' := [(3, .ref q9), (0, .ref x), (1, .int p), (2, .ref ou)]) hx hb dL_isFrozen_19 rfl hl (by decide) rfl (fun ls hl => ?_)
  refine lv_iconst (v := 1) hx hb dL_isFrozen_20 (by decide) ?_
  obtain ⟨hP9, hD9⟩ := z_get hP hD [] (wc := []) rfl rfl
  exact W.iret (v := 1) hx hb hr (fun t ht hW => ⟨⟨1, (), rfl, rfl, by rw [ht]; exact hP9, hD9⟩, hS.F ht⟩) hS.2.2 dL_isFrozen_21

set_option maxHeartbeats 4000000 in
set_option maxRecDepth 100000 in
/-- law: parentOf -/
theorem w_parentOf (l : Launch) (D : va_G) (cI cL : ClassId) (x st lv nm lb lk od pp le pa ppA ou : Nat) (p : Int32) (go8 : Nat → Int64) (sz : Nat) (hst : l.stackTraces = false)  : Met l yL_parentOf wsL_parentOf ({ frames := 9, cells := 1, slots := 6, locals := 152 }) (va_Pc [.ref x, .int p, .ref ou] (zPreX D [(cI, .int), (cL, .long)] [(x, .inr (11, [.ref st, .ref lv, .ref nm, .ref lb, .ref lk, .int 0])), (st, .inr (8, [.ref od, .ref pp, .ref le, .ref pa, .int 0])), (pp, .inr (7, [.ref ppA])), (ppA, .inl (cI, 60, .inl (fun _ => 0))), (ou, .inl (cL, 1, .inr (.inl go8)))] sz)) (va_Qi (fun rv (_ : Unit) => rv = 1) (fun (_ : Unit) => zB D [] (va_A [(x, .inr (11, [.ref st, .ref lv, .ref nm, .ref lb, .ref lk, .int 0])), (st, .inr (8, [.ref od, .ref pp, .ref le, .ref pa, .int 0])), (pp, .inr (7, [.ref ppA])), (ppA, .inl (cI, 60, .inl (fun _ => 0))), (ou, .inl (cL, 1, .inr (.inl go8)))] sz)) (va_A [(x, .inr (11, [.ref st, .ref lv, .ref nm, .ref lb, .ref lk, .int 0])), (st, .inr (8, [.ref od, .ref pp, .ref le, .ref pa, .int 0])), (pp, .inr (7, [.ref ppA])), (ppA, .inl (cI, 60, .inl (fun _ => 0))), (ou, .inl (cL, 1, .inr (.inl go8)))] sz)) 1 6 (va_A [(x, .inr (11, [.ref st, .ref lv, .ref nm, .ref lb, .ref lk, .int 0])), (st, .inr (8, [.ref od, .ref pp, .ref le, .ref pa, .int 0])), (pp, .inr (7, [.ref ppA])), (ppA, .inl (cI, 60, .inl (fun _ => 0))), (ou, .inl (cL, 1, .inr (.inl go8)))] sz) := by
  refine va_MetW (cc := cL_parentOf) (maxL := 4) (ret := (some .int)) (by decide) rfl ?_
  intro P0 E0 s m args below meth C9 s₁ B hml hv
  obtain ⟨rfl, ⟨hsz, hP, hK, hD0⟩, ⟨hU, hN⟩, hKB⟩ := hv
  have hx := B.exec
  have hb := B.bytes
  have hr := B.returns
  have hts := atoms_spec (ws := wsL_parentOf) B.pre
  have hown : s.vm.findClass RL = some m.cls := findClass_of_methodNamed B.named
  have hlocks := B.notSynchronized
  subst hsz
  have hD := hD0.self (sz := s.heap.size)
  generalize hAe : va_A [(x, .inr (11, [.ref st, .ref lv, .ref nm, .ref lb, .ref lk, .int 0])), (st, .inr (8, [.ref od, .ref pp, .ref le, .ref pa, .int 0])), (pp, .inr (7, [.ref ppA])), (ppA, .inl (cI, 60, .inl (fun _ => 0))), (ou, .inl (cL, 1, .inr (.inl go8)))] s.heap.size = A at hD hU hN ⊢
  have hA : ∀ q : Nat, s.heap.size ≤ q → A q := fun q h => by rw [← hAe]; exact Or.inr h
  have hS : va_S A s.heap s.heap [] := va_S.rf
  have hl := lv_entry ([.ref x, .int p, .ref ou]) (n := 4) (Nat.le_of_ble_eq_true rfl)
  rw [lg_entry_eq]
  generalize (lg_sl ([.ref x, .int p, .ref ou]) ++ List.replicate (4 - (lg_sl ([.ref x, .int p, .ref ou])).length) Slot.unset).toArray = ls at hl ⊢
  have hl : lv_has ls 4 [(0, .ref x), (1, .int p), (2, .ref ou)] := hl
  refine lv_aload_n hx hb dL_parentOf_0 rfl (lv_at hl 2 rfl) ?_
  refine lv_iconst (v := 0) hx hb dL_parentOf_1 (by decide) ?_
  refine lv_aload_n hx hb dL_parentOf_2 rfl (lv_at hl 0 rfl) ?_
  refine lv_iload_n hx hb dL_parentOf_3 rfl (lv_at hl 1 rfl) ?_
  refine zc_x (wc := [(x, .inr (11, [.ref st, .ref lv, .ref nm, .ref lb, .ref lk, .int 0])), (st, .inr (8, [.ref od, .ref pp, .ref le, .ref pa, .int 0])), (pp, .inr (7, [.ref ppA])), (ppA, .inl (cI, 60, .inl (fun _ => 0)))]) (wr := [(ou, .inl (cL, 1, .inr (.inl go8)))]) (fun st v t h => by obtain ⟨h1, -⟩ := h; obtain ⟨r, u, -, h2, -⟩ := h1; exact h2) (vx_runV (As := [.int p]) (rest := [.int 0, .ref ou]) ⟨hx, hb, hml, hown, hts⟩ (x_parentOf l D cI x st lv nm lb lk od pp le pa ppA p s.heap.size hst) (cwV 1 hts gL_parentOf_X8_parentOf rfl rfl rfl (by decide +kernel) ⟨Nat.le_of_ble_eq_true rfl, Nat.le_of_ble_eq_true rfl⟩) (zPVX ⟨hU, hN⟩ hKB hS hA hK hP hD [0, 1, 2, 3] rfl rfl [0] rfl 0 rfl rfl rfl) rfl rfl hl.1 rfl (lv_room (Nat.le_of_ble_eq_true rfl)) dL_parentOf_4 ⟨Nat.le_of_ble_eq_true rfl, Nat.le_of_ble_eq_true rfl⟩) hP hD hS hA [0, 1, 2, 3] [4] rfl rfl rfl (by decide) (fun ce q9 H locs hP hD hS hce hcv hcl => ?_)
  have htab := vx_table (x := objectInit) B (hts (.codeWith yL_parentOf cL_parentOf 4 (some .int) [(0, 9, 12, 22), (0, 9, 15, 15)]) (List.mem_of_getElem? (i := 0) rfl))
  refine vx_catch (own := RL) (name := "java/util/NoSuchElementException") hown [] ⟨0, 9, 12, 22⟩ [⟨0, 9, 15, 15⟩] (htab.trans rfl) (fun z h => absurd h List.not_mem_nil) rfl (by decide) (hts (.classLink RL 22 "java/util/NoSuchElementException") (List.mem_of_getElem? (i := 1) rfl)) (zW_use zKB_tab hKB.1 (.castable "java/util/NoSuchElementException" "java/util/NoSuchElementException") (List.mem_of_getElem? (i := 6) rfl)) hce hcv hcl ?_
  refine lv_astore_n (lv' := [(3, .ref q9), (0, .ref x), (1, .int p), (2, .ref ou)]) hx hb dL_parentOf_12 rfl hl (by decide) rfl (fun ls hl => ?_)
  refine lv_iconst (v := 1) hx hb dL_parentOf_13 (by decide) ?_
  obtain ⟨hP9, hD9⟩ := z_get hP hD [] (wc := []) rfl rfl
  exact W.iret (v := 1) hx hb hr (fun t ht hW => ⟨⟨1, (), rfl, rfl, by rw [ht]; exact hP9, hD9⟩, hS.F ht⟩) hS.2.2 dL_parentOf_14

set_option maxHeartbeats 4000000 in
set_option maxRecDepth 100000 in
/-- law: numberOf -/
theorem w_numberOf (l : Launch) (D : va_G) (cI cL : ClassId) (x st lv nm lb lk od pp le pa ppA ou : Nat) (p : Int32) (go8 : Nat → Int64) (sz : Nat) (hst : l.stackTraces = false)  : Met l yL_numberOf wsL_numberOf ({ frames := 9, cells := 1, slots := 6, locals := 152 }) (va_Pc [.ref x, .int p, .ref ou] (zPreX D [(cI, .int), (cL, .long)] [(x, .inr (11, [.ref st, .ref lv, .ref nm, .ref lb, .ref lk, .int 0])), (st, .inr (8, [.ref od, .ref pp, .ref le, .ref pa, .int 0])), (pp, .inr (7, [.ref ppA])), (ppA, .inl (cI, 60, .inl (fun _ => 0))), (ou, .inl (cL, 1, .inr (.inl go8)))] sz)) (va_Qi (fun rv (_ : Unit) => rv = 1) (fun (_ : Unit) => zB D [] (va_A [(x, .inr (11, [.ref st, .ref lv, .ref nm, .ref lb, .ref lk, .int 0])), (st, .inr (8, [.ref od, .ref pp, .ref le, .ref pa, .int 0])), (pp, .inr (7, [.ref ppA])), (ppA, .inl (cI, 60, .inl (fun _ => 0))), (ou, .inl (cL, 1, .inr (.inl go8)))] sz)) (va_A [(x, .inr (11, [.ref st, .ref lv, .ref nm, .ref lb, .ref lk, .int 0])), (st, .inr (8, [.ref od, .ref pp, .ref le, .ref pa, .int 0])), (pp, .inr (7, [.ref ppA])), (ppA, .inl (cI, 60, .inl (fun _ => 0))), (ou, .inl (cL, 1, .inr (.inl go8)))] sz)) 1 6 (va_A [(x, .inr (11, [.ref st, .ref lv, .ref nm, .ref lb, .ref lk, .int 0])), (st, .inr (8, [.ref od, .ref pp, .ref le, .ref pa, .int 0])), (pp, .inr (7, [.ref ppA])), (ppA, .inl (cI, 60, .inl (fun _ => 0))), (ou, .inl (cL, 1, .inr (.inl go8)))] sz) := by
  refine va_MetW (cc := cL_numberOf) (maxL := 4) (ret := (some .int)) (by decide) rfl ?_
  intro P0 E0 s m args below meth C9 s₁ B hml hv
  obtain ⟨rfl, ⟨hsz, hP, hK, hD0⟩, ⟨hU, hN⟩, hKB⟩ := hv
  have hx := B.exec
  have hb := B.bytes
  have hr := B.returns
  have hts := atoms_spec (ws := wsL_numberOf) B.pre
  have hown : s.vm.findClass RL = some m.cls := findClass_of_methodNamed B.named
  have hlocks := B.notSynchronized
  subst hsz
  have hD := hD0.self (sz := s.heap.size)
  generalize hAe : va_A [(x, .inr (11, [.ref st, .ref lv, .ref nm, .ref lb, .ref lk, .int 0])), (st, .inr (8, [.ref od, .ref pp, .ref le, .ref pa, .int 0])), (pp, .inr (7, [.ref ppA])), (ppA, .inl (cI, 60, .inl (fun _ => 0))), (ou, .inl (cL, 1, .inr (.inl go8)))] s.heap.size = A at hD hU hN ⊢
  have hA : ∀ q : Nat, s.heap.size ≤ q → A q := fun q h => by rw [← hAe]; exact Or.inr h
  have hS : va_S A s.heap s.heap [] := va_S.rf
  have hl := lv_entry ([.ref x, .int p, .ref ou]) (n := 4) (Nat.le_of_ble_eq_true rfl)
  rw [lg_entry_eq]
  generalize (lg_sl ([.ref x, .int p, .ref ou]) ++ List.replicate (4 - (lg_sl ([.ref x, .int p, .ref ou])).length) Slot.unset).toArray = ls at hl ⊢
  have hl : lv_has ls 4 [(0, .ref x), (1, .int p), (2, .ref ou)] := hl
  refine lv_aload_n hx hb dL_numberOf_0 rfl (lv_at hl 2 rfl) ?_
  refine lv_iconst (v := 0) hx hb dL_numberOf_1 (by decide) ?_
  refine lv_aload_n hx hb dL_numberOf_2 rfl (lv_at hl 0 rfl) ?_
  refine lv_iload_n hx hb dL_numberOf_3 rfl (lv_at hl 1 rfl) ?_
  refine zc_x (wc := [(x, .inr (11, [.ref st, .ref lv, .ref nm, .ref lb, .ref lk, .int 0])), (st, .inr (8, [.ref od, .ref pp, .ref le, .ref pa, .int 0])), (pp, .inr (7, [.ref ppA])), (ppA, .inl (cI, 60, .inl (fun _ => 0)))]) (wr := [(ou, .inl (cL, 1, .inr (.inl go8)))]) (fun st v t h => by obtain ⟨h1, -⟩ := h; obtain ⟨r, u, -, h2, -⟩ := h1; exact h2) (vx_runV (As := [.int p]) (rest := [.int 0, .ref ou]) ⟨hx, hb, hml, hown, hts⟩ (x_numberOf l D cI x st lv nm lb lk od pp le pa ppA p s.heap.size hst) (cwV 1 hts gL_numberOf_X8_numberOf rfl rfl rfl (by decide +kernel) ⟨Nat.le_of_ble_eq_true rfl, Nat.le_of_ble_eq_true rfl⟩) (zPVX ⟨hU, hN⟩ hKB hS hA hK hP hD [0, 1, 2, 3] rfl rfl [0] rfl 0 rfl rfl rfl) rfl rfl hl.1 rfl (lv_room (Nat.le_of_ble_eq_true rfl)) dL_numberOf_4 ⟨Nat.le_of_ble_eq_true rfl, Nat.le_of_ble_eq_true rfl⟩) hP hD hS hA [0, 1, 2, 3] [4] rfl rfl rfl (by decide) (fun ce q9 H locs hP hD hS hce hcv hcl => ?_)
  have htab := vx_table (x := objectInit) B (hts (.codeWith yL_numberOf cL_numberOf 4 (some .int) [(0, 9, 12, 22), (0, 9, 15, 15)]) (List.mem_of_getElem? (i := 0) rfl))
  refine vx_catch (own := RL) (name := "java/util/NoSuchElementException") hown [] ⟨0, 9, 12, 22⟩ [⟨0, 9, 15, 15⟩] (htab.trans rfl) (fun z h => absurd h List.not_mem_nil) rfl (by decide) (hts (.classLink RL 22 "java/util/NoSuchElementException") (List.mem_of_getElem? (i := 1) rfl)) (zW_use zKB_tab hKB.1 (.castable "java/util/NoSuchElementException" "java/util/NoSuchElementException") (List.mem_of_getElem? (i := 6) rfl)) hce hcv hcl ?_
  refine lv_astore_n (lv' := [(3, .ref q9), (0, .ref x), (1, .int p), (2, .ref ou)]) hx hb dL_numberOf_12 rfl hl (by decide) rfl (fun ls hl => ?_)
  refine lv_iconst (v := 1) hx hb dL_numberOf_13 (by decide) ?_
  obtain ⟨hP9, hD9⟩ := z_get hP hD [] (wc := []) rfl rfl
  exact W.iret (v := 1) hx hb hr (fun t ht hW => ⟨⟨1, (), rfl, rfl, by rw [ht]; exact hP9, hD9⟩, hS.F ht⟩) hS.2.2 dL_numberOf_14

set_option maxHeartbeats 4000000 in
set_option maxRecDepth 100000 in
/-- law: lettersOf -/
theorem w_lettersOf (l : Launch) (D : va_G) (cI cL : ClassId) (x st lv nm lb lk od pp le pa ppA ou : Nat) (p : Int32) (go8 : Nat → Int64) (sz : Nat) (hst : l.stackTraces = false)  : Met l yL_lettersOf wsL_lettersOf ({ frames := 9, cells := 1, slots := 6, locals := 152 }) (va_Pc [.ref x, .int p, .ref ou] (zPreX D [(cI, .int), (cL, .long)] [(x, .inr (11, [.ref st, .ref lv, .ref nm, .ref lb, .ref lk, .int 0])), (st, .inr (8, [.ref od, .ref pp, .ref le, .ref pa, .int 0])), (pp, .inr (7, [.ref ppA])), (ppA, .inl (cI, 60, .inl (fun _ => 0))), (ou, .inl (cL, 1, .inr (.inl go8)))] sz)) (va_Qi (fun rv (_ : Unit) => rv = 1) (fun (_ : Unit) => zB D [] (va_A [(x, .inr (11, [.ref st, .ref lv, .ref nm, .ref lb, .ref lk, .int 0])), (st, .inr (8, [.ref od, .ref pp, .ref le, .ref pa, .int 0])), (pp, .inr (7, [.ref ppA])), (ppA, .inl (cI, 60, .inl (fun _ => 0))), (ou, .inl (cL, 1, .inr (.inl go8)))] sz)) (va_A [(x, .inr (11, [.ref st, .ref lv, .ref nm, .ref lb, .ref lk, .int 0])), (st, .inr (8, [.ref od, .ref pp, .ref le, .ref pa, .int 0])), (pp, .inr (7, [.ref ppA])), (ppA, .inl (cI, 60, .inl (fun _ => 0))), (ou, .inl (cL, 1, .inr (.inl go8)))] sz)) 1 6 (va_A [(x, .inr (11, [.ref st, .ref lv, .ref nm, .ref lb, .ref lk, .int 0])), (st, .inr (8, [.ref od, .ref pp, .ref le, .ref pa, .int 0])), (pp, .inr (7, [.ref ppA])), (ppA, .inl (cI, 60, .inl (fun _ => 0))), (ou, .inl (cL, 1, .inr (.inl go8)))] sz) := by
  refine va_MetW (cc := cL_lettersOf) (maxL := 4) (ret := (some .int)) (by decide) rfl ?_
  intro P0 E0 s m args below meth C9 s₁ B hml hv
  obtain ⟨rfl, ⟨hsz, hP, hK, hD0⟩, ⟨hU, hN⟩, hKB⟩ := hv
  have hx := B.exec
  have hb := B.bytes
  have hr := B.returns
  have hts := atoms_spec (ws := wsL_lettersOf) B.pre
  have hown : s.vm.findClass RL = some m.cls := findClass_of_methodNamed B.named
  have hlocks := B.notSynchronized
  subst hsz
  have hD := hD0.self (sz := s.heap.size)
  generalize hAe : va_A [(x, .inr (11, [.ref st, .ref lv, .ref nm, .ref lb, .ref lk, .int 0])), (st, .inr (8, [.ref od, .ref pp, .ref le, .ref pa, .int 0])), (pp, .inr (7, [.ref ppA])), (ppA, .inl (cI, 60, .inl (fun _ => 0))), (ou, .inl (cL, 1, .inr (.inl go8)))] s.heap.size = A at hD hU hN ⊢
  have hA : ∀ q : Nat, s.heap.size ≤ q → A q := fun q h => by rw [← hAe]; exact Or.inr h
  have hS : va_S A s.heap s.heap [] := va_S.rf
  have hl := lv_entry ([.ref x, .int p, .ref ou]) (n := 4) (Nat.le_of_ble_eq_true rfl)
  rw [lg_entry_eq]
  generalize (lg_sl ([.ref x, .int p, .ref ou]) ++ List.replicate (4 - (lg_sl ([.ref x, .int p, .ref ou])).length) Slot.unset).toArray = ls at hl ⊢
  have hl : lv_has ls 4 [(0, .ref x), (1, .int p), (2, .ref ou)] := hl
  refine lv_aload_n hx hb dL_lettersOf_0 rfl (lv_at hl 2 rfl) ?_
  refine lv_iconst (v := 0) hx hb dL_lettersOf_1 (by decide) ?_
  refine lv_aload_n hx hb dL_lettersOf_2 rfl (lv_at hl 0 rfl) ?_
  refine lv_iload_n hx hb dL_lettersOf_3 rfl (lv_at hl 1 rfl) ?_
  refine zc_x (wc := [(x, .inr (11, [.ref st, .ref lv, .ref nm, .ref lb, .ref lk, .int 0])), (st, .inr (8, [.ref od, .ref pp, .ref le, .ref pa, .int 0])), (pp, .inr (7, [.ref ppA])), (ppA, .inl (cI, 60, .inl (fun _ => 0)))]) (wr := [(ou, .inl (cL, 1, .inr (.inl go8)))]) (fun st v t h => by obtain ⟨h1, -⟩ := h; obtain ⟨r, u, -, h2, -⟩ := h1; exact h2) (vx_runV (As := [.int p]) (rest := [.int 0, .ref ou]) ⟨hx, hb, hml, hown, hts⟩ (x_lettersOf l D cI x st lv nm lb lk od pp le pa ppA p s.heap.size hst) (cwV 1 hts gL_lettersOf_X8_lettersOf rfl rfl rfl (by decide +kernel) ⟨Nat.le_of_ble_eq_true rfl, Nat.le_of_ble_eq_true rfl⟩) (zPVX ⟨hU, hN⟩ hKB hS hA hK hP hD [0, 1, 2, 3] rfl rfl [0] rfl 0 rfl rfl rfl) rfl rfl hl.1 rfl (lv_room (Nat.le_of_ble_eq_true rfl)) dL_lettersOf_4 ⟨Nat.le_of_ble_eq_true rfl, Nat.le_of_ble_eq_true rfl⟩) hP hD hS hA [0, 1, 2, 3] [4] rfl rfl rfl (by decide) (fun ce q9 H locs hP hD hS hce hcv hcl => ?_)
  have htab := vx_table (x := objectInit) B (hts (.codeWith yL_lettersOf cL_lettersOf 4 (some .int) [(0, 9, 12, 22), (0, 9, 15, 15)]) (List.mem_of_getElem? (i := 0) rfl))
  refine vx_catch (own := RL) (name := "java/util/NoSuchElementException") hown [] ⟨0, 9, 12, 22⟩ [⟨0, 9, 15, 15⟩] (htab.trans rfl) (fun z h => absurd h List.not_mem_nil) rfl (by decide) (hts (.classLink RL 22 "java/util/NoSuchElementException") (List.mem_of_getElem? (i := 1) rfl)) (zW_use zKB_tab hKB.1 (.castable "java/util/NoSuchElementException" "java/util/NoSuchElementException") (List.mem_of_getElem? (i := 6) rfl)) hce hcv hcl ?_
  refine lv_astore_n (lv' := [(3, .ref q9), (0, .ref x), (1, .int p), (2, .ref ou)]) hx hb dL_lettersOf_12 rfl hl (by decide) rfl (fun ls hl => ?_)
  refine lv_iconst (v := 1) hx hb dL_lettersOf_13 (by decide) ?_
  obtain ⟨hP9, hD9⟩ := z_get hP hD [] (wc := []) rfl rfl
  exact W.iret (v := 1) hx hb hr (fun t ht hW => ⟨⟨1, (), rfl, rfl, by rw [ht]; exact hP9, hD9⟩, hS.F ht⟩) hS.2.2 dL_lettersOf_14

set_option maxHeartbeats 4000000 in
set_option maxRecDepth 100000 in
/-- law: numberByWalk -/
theorem w_numberByWalk (l : Launch) (D : va_G) (cI cL : ClassId) (x st lv nm lb lk od pp le pa ppA ou : Nat) (p : Int32) (go8 : Nat → Int64) (sz : Nat) (hst : l.stackTraces = false)  : Met l yL_numberByWalk wsL_numberByWalk ({ frames := 9, cells := 1, slots := 6, locals := 152 }) (va_Pc [.ref x, .int p, .ref ou] (zPreX D [(cI, .int), (cL, .long)] [(x, .inr (11, [.ref st, .ref lv, .ref nm, .ref lb, .ref lk, .int 0])), (st, .inr (8, [.ref od, .ref pp, .ref le, .ref pa, .int 0])), (pp, .inr (7, [.ref ppA])), (ppA, .inl (cI, 60, .inl (fun _ => 0))), (ou, .inl (cL, 1, .inr (.inl go8)))] sz)) (va_Qi (fun rv (_ : Unit) => rv = 1) (fun (_ : Unit) => zB D [] (va_A [(x, .inr (11, [.ref st, .ref lv, .ref nm, .ref lb, .ref lk, .int 0])), (st, .inr (8, [.ref od, .ref pp, .ref le, .ref pa, .int 0])), (pp, .inr (7, [.ref ppA])), (ppA, .inl (cI, 60, .inl (fun _ => 0))), (ou, .inl (cL, 1, .inr (.inl go8)))] sz)) (va_A [(x, .inr (11, [.ref st, .ref lv, .ref nm, .ref lb, .ref lk, .int 0])), (st, .inr (8, [.ref od, .ref pp, .ref le, .ref pa, .int 0])), (pp, .inr (7, [.ref ppA])), (ppA, .inl (cI, 60, .inl (fun _ => 0))), (ou, .inl (cL, 1, .inr (.inl go8)))] sz)) 1 6 (va_A [(x, .inr (11, [.ref st, .ref lv, .ref nm, .ref lb, .ref lk, .int 0])), (st, .inr (8, [.ref od, .ref pp, .ref le, .ref pa, .int 0])), (pp, .inr (7, [.ref ppA])), (ppA, .inl (cI, 60, .inl (fun _ => 0))), (ou, .inl (cL, 1, .inr (.inl go8)))] sz) := by
  refine va_MetW (cc := cL_numberByWalk) (maxL := 4) (ret := (some .int)) (by decide) rfl ?_
  intro P0 E0 s m args below meth C9 s₁ B hml hv
  obtain ⟨rfl, ⟨hsz, hP, hK, hD0⟩, ⟨hU, hN⟩, hKB⟩ := hv
  have hx := B.exec
  have hb := B.bytes
  have hr := B.returns
  have hts := atoms_spec (ws := wsL_numberByWalk) B.pre
  have hown : s.vm.findClass RL = some m.cls := findClass_of_methodNamed B.named
  have hlocks := B.notSynchronized
  subst hsz
  have hD := hD0.self (sz := s.heap.size)
  generalize hAe : va_A [(x, .inr (11, [.ref st, .ref lv, .ref nm, .ref lb, .ref lk, .int 0])), (st, .inr (8, [.ref od, .ref pp, .ref le, .ref pa, .int 0])), (pp, .inr (7, [.ref ppA])), (ppA, .inl (cI, 60, .inl (fun _ => 0))), (ou, .inl (cL, 1, .inr (.inl go8)))] s.heap.size = A at hD hU hN ⊢
  have hA : ∀ q : Nat, s.heap.size ≤ q → A q := fun q h => by rw [← hAe]; exact Or.inr h
  have hS : va_S A s.heap s.heap [] := va_S.rf
  have hl := lv_entry ([.ref x, .int p, .ref ou]) (n := 4) (Nat.le_of_ble_eq_true rfl)
  rw [lg_entry_eq]
  generalize (lg_sl ([.ref x, .int p, .ref ou]) ++ List.replicate (4 - (lg_sl ([.ref x, .int p, .ref ou])).length) Slot.unset).toArray = ls at hl ⊢
  have hl : lv_has ls 4 [(0, .ref x), (1, .int p), (2, .ref ou)] := hl
  refine lv_aload_n hx hb dL_numberByWalk_0 rfl (lv_at hl 2 rfl) ?_
  refine lv_iconst (v := 0) hx hb dL_numberByWalk_1 (by decide) ?_
  refine lv_aload_n hx hb dL_numberByWalk_2 rfl (lv_at hl 0 rfl) ?_
  refine lv_iload_n hx hb dL_numberByWalk_3 rfl (lv_at hl 1 rfl) ?_
  refine zc_x (wc := [(x, .inr (11, [.ref st, .ref lv, .ref nm, .ref lb, .ref lk, .int 0])), (st, .inr (8, [.ref od, .ref pp, .ref le, .ref pa, .int 0])), (pp, .inr (7, [.ref ppA])), (ppA, .inl (cI, 60, .inl (fun _ => 0)))]) (wr := [(ou, .inl (cL, 1, .inr (.inl go8)))]) (fun st v t h => by obtain ⟨h1, -⟩ := h; obtain ⟨r, u, -, h2, -⟩ := h1; exact h2) (vx_runV (As := [.int p]) (rest := [.int 0, .ref ou]) ⟨hx, hb, hml, hown, hts⟩ (x_numberByWalk l D cI x st lv nm lb lk od pp le pa ppA p s.heap.size hst) (cwV 1 hts gL_numberByWalk_X8_numberByWalk rfl rfl rfl (by decide +kernel) ⟨Nat.le_of_ble_eq_true rfl, Nat.le_of_ble_eq_true rfl⟩) (zPVX ⟨hU, hN⟩ hKB hS hA hK hP hD [0, 1, 2, 3] rfl rfl [0] rfl 0 rfl rfl rfl) rfl rfl hl.1 rfl (lv_room (Nat.le_of_ble_eq_true rfl)) dL_numberByWalk_4 ⟨Nat.le_of_ble_eq_true rfl, Nat.le_of_ble_eq_true rfl⟩) hP hD hS hA [0, 1, 2, 3] [4] rfl rfl rfl (by decide) (fun ce q9 H locs hP hD hS hce hcv hcl => ?_)
  have htab := vx_table (x := objectInit) B (hts (.codeWith yL_numberByWalk cL_numberByWalk 4 (some .int) [(0, 9, 12, 22), (0, 9, 15, 15)]) (List.mem_of_getElem? (i := 0) rfl))
  refine vx_catch (own := RL) (name := "java/util/NoSuchElementException") hown [] ⟨0, 9, 12, 22⟩ [⟨0, 9, 15, 15⟩] (htab.trans rfl) (fun z h => absurd h List.not_mem_nil) rfl (by decide) (hts (.classLink RL 22 "java/util/NoSuchElementException") (List.mem_of_getElem? (i := 1) rfl)) (zW_use zKB_tab hKB.1 (.castable "java/util/NoSuchElementException" "java/util/NoSuchElementException") (List.mem_of_getElem? (i := 6) rfl)) hce hcv hcl ?_
  refine lv_astore_n (lv' := [(3, .ref q9), (0, .ref x), (1, .int p), (2, .ref ou)]) hx hb dL_numberByWalk_12 rfl hl (by decide) rfl (fun ls hl => ?_)
  refine lv_iconst (v := 1) hx hb dL_numberByWalk_13 (by decide) ?_
  obtain ⟨hP9, hD9⟩ := z_get hP hD [] (wc := []) rfl rfl
  exact W.iret (v := 1) hx hb hr (fun t ht hW => ⟨⟨1, (), rfl, rfl, by rw [ht]; exact hP9, hD9⟩, hS.F ht⟩) hS.2.2 dL_numberByWalk_14

set_option maxHeartbeats 4000000 in
set_option maxRecDepth 100000 in
/-- law: lettersByWalk -/
theorem w_lettersByWalk (l : Launch) (D : va_G) (cI cL : ClassId) (x st lv nm lb lk od pp le pa ppA ou : Nat) (p : Int32) (go8 : Nat → Int64) (sz : Nat) (hst : l.stackTraces = false)  : Met l yL_lettersByWalk wsL_lettersByWalk ({ frames := 9, cells := 1, slots := 6, locals := 152 }) (va_Pc [.ref x, .int p, .ref ou] (zPreX D [(cI, .int), (cL, .long)] [(x, .inr (11, [.ref st, .ref lv, .ref nm, .ref lb, .ref lk, .int 0])), (st, .inr (8, [.ref od, .ref pp, .ref le, .ref pa, .int 0])), (pp, .inr (7, [.ref ppA])), (ppA, .inl (cI, 60, .inl (fun _ => 0))), (ou, .inl (cL, 1, .inr (.inl go8)))] sz)) (va_Qi (fun rv (_ : Unit) => rv = 1) (fun (_ : Unit) => zB D [] (va_A [(x, .inr (11, [.ref st, .ref lv, .ref nm, .ref lb, .ref lk, .int 0])), (st, .inr (8, [.ref od, .ref pp, .ref le, .ref pa, .int 0])), (pp, .inr (7, [.ref ppA])), (ppA, .inl (cI, 60, .inl (fun _ => 0))), (ou, .inl (cL, 1, .inr (.inl go8)))] sz)) (va_A [(x, .inr (11, [.ref st, .ref lv, .ref nm, .ref lb, .ref lk, .int 0])), (st, .inr (8, [.ref od, .ref pp, .ref le, .ref pa, .int 0])), (pp, .inr (7, [.ref ppA])), (ppA, .inl (cI, 60, .inl (fun _ => 0))), (ou, .inl (cL, 1, .inr (.inl go8)))] sz)) 1 6 (va_A [(x, .inr (11, [.ref st, .ref lv, .ref nm, .ref lb, .ref lk, .int 0])), (st, .inr (8, [.ref od, .ref pp, .ref le, .ref pa, .int 0])), (pp, .inr (7, [.ref ppA])), (ppA, .inl (cI, 60, .inl (fun _ => 0))), (ou, .inl (cL, 1, .inr (.inl go8)))] sz) := by
  refine va_MetW (cc := cL_lettersByWalk) (maxL := 4) (ret := (some .int)) (by decide) rfl ?_
  intro P0 E0 s m args below meth C9 s₁ B hml hv
  obtain ⟨rfl, ⟨hsz, hP, hK, hD0⟩, ⟨hU, hN⟩, hKB⟩ := hv
  have hx := B.exec
  have hb := B.bytes
  have hr := B.returns
  have hts := atoms_spec (ws := wsL_lettersByWalk) B.pre
  have hown : s.vm.findClass RL = some m.cls := findClass_of_methodNamed B.named
  have hlocks := B.notSynchronized
  subst hsz
  have hD := hD0.self (sz := s.heap.size)
  generalize hAe : va_A [(x, .inr (11, [.ref st, .ref lv, .ref nm, .ref lb, .ref lk, .int 0])), (st, .inr (8, [.ref od, .ref pp, .ref le, .ref pa, .int 0])), (pp, .inr (7, [.ref ppA])), (ppA, .inl (cI, 60, .inl (fun _ => 0))), (ou, .inl (cL, 1, .inr (.inl go8)))] s.heap.size = A at hD hU hN ⊢
  have hA : ∀ q : Nat, s.heap.size ≤ q → A q := fun q h => by rw [← hAe]; exact Or.inr h
  have hS : va_S A s.heap s.heap [] := va_S.rf
  have hl := lv_entry ([.ref x, .int p, .ref ou]) (n := 4) (Nat.le_of_ble_eq_true rfl)
  rw [lg_entry_eq]
  generalize (lg_sl ([.ref x, .int p, .ref ou]) ++ List.replicate (4 - (lg_sl ([.ref x, .int p, .ref ou])).length) Slot.unset).toArray = ls at hl ⊢
  have hl : lv_has ls 4 [(0, .ref x), (1, .int p), (2, .ref ou)] := hl
  refine lv_aload_n hx hb dL_lettersByWalk_0 rfl (lv_at hl 2 rfl) ?_
  refine lv_iconst (v := 0) hx hb dL_lettersByWalk_1 (by decide) ?_
  refine lv_aload_n hx hb dL_lettersByWalk_2 rfl (lv_at hl 0 rfl) ?_
  refine lv_iload_n hx hb dL_lettersByWalk_3 rfl (lv_at hl 1 rfl) ?_
  refine zc_x (wc := [(x, .inr (11, [.ref st, .ref lv, .ref nm, .ref lb, .ref lk, .int 0])), (st, .inr (8, [.ref od, .ref pp, .ref le, .ref pa, .int 0])), (pp, .inr (7, [.ref ppA])), (ppA, .inl (cI, 60, .inl (fun _ => 0)))]) (wr := [(ou, .inl (cL, 1, .inr (.inl go8)))]) (fun st v t h => by obtain ⟨h1, -⟩ := h; obtain ⟨r, u, -, h2, -⟩ := h1; exact h2) (vx_runV (As := [.int p]) (rest := [.int 0, .ref ou]) ⟨hx, hb, hml, hown, hts⟩ (x_lettersByWalk l D cI x st lv nm lb lk od pp le pa ppA p s.heap.size hst) (cwV 1 hts gL_lettersByWalk_X8_lettersByWalk rfl rfl rfl (by decide +kernel) ⟨Nat.le_of_ble_eq_true rfl, Nat.le_of_ble_eq_true rfl⟩) (zPVX ⟨hU, hN⟩ hKB hS hA hK hP hD [0, 1, 2, 3] rfl rfl [0] rfl 0 rfl rfl rfl) rfl rfl hl.1 rfl (lv_room (Nat.le_of_ble_eq_true rfl)) dL_lettersByWalk_4 ⟨Nat.le_of_ble_eq_true rfl, Nat.le_of_ble_eq_true rfl⟩) hP hD hS hA [0, 1, 2, 3] [4] rfl rfl rfl (by decide) (fun ce q9 H locs hP hD hS hce hcv hcl => ?_)
  have htab := vx_table (x := objectInit) B (hts (.codeWith yL_lettersByWalk cL_lettersByWalk 4 (some .int) [(0, 9, 12, 22), (0, 9, 15, 15)]) (List.mem_of_getElem? (i := 0) rfl))
  refine vx_catch (own := RL) (name := "java/util/NoSuchElementException") hown [] ⟨0, 9, 12, 22⟩ [⟨0, 9, 15, 15⟩] (htab.trans rfl) (fun z h => absurd h List.not_mem_nil) rfl (by decide) (hts (.classLink RL 22 "java/util/NoSuchElementException") (List.mem_of_getElem? (i := 1) rfl)) (zW_use zKB_tab hKB.1 (.castable "java/util/NoSuchElementException" "java/util/NoSuchElementException") (List.mem_of_getElem? (i := 6) rfl)) hce hcv hcl ?_
  refine lv_astore_n (lv' := [(3, .ref q9), (0, .ref x), (1, .int p), (2, .ref ou)]) hx hb dL_lettersByWalk_12 rfl hl (by decide) rfl (fun ls hl => ?_)
  refine lv_iconst (v := 1) hx hb dL_lettersByWalk_13 (by decide) ?_
  obtain ⟨hP9, hD9⟩ := z_get hP hD [] (wc := []) rfl rfl
  exact W.iret (v := 1) hx hb hr (fun t ht hW => ⟨⟨1, (), rfl, rfl, by rw [ht]; exact hP9, hD9⟩, hS.F ht⟩) hS.2.2 dL_lettersByWalk_14

set_option maxHeartbeats 4000000 in
set_option maxRecDepth 100000 in
/-- law: ahead -/
theorem w_ahead (l : Launch) (D : va_G) (cI cL : ClassId) (x st lv nm lb lk od pp le pa ppA ou : Nat) (p : Int32) (go8 : Nat → Int64) (sz : Nat) (hst : l.stackTraces = false)  : Met l yL_ahead wsL_ahead ({ frames := 9, cells := 1, slots := 6, locals := 152 }) (va_Pc [.ref x, .int p, .ref ou] (zPreX D [(cI, .int), (cL, .long)] [(x, .inr (11, [.ref st, .ref lv, .ref nm, .ref lb, .ref lk, .int 0])), (st, .inr (8, [.ref od, .ref pp, .ref le, .ref pa, .int 0])), (pp, .inr (7, [.ref ppA])), (ppA, .inl (cI, 60, .inl (fun _ => 0))), (ou, .inl (cL, 1, .inr (.inl go8)))] sz)) (va_Qi (fun rv (_ : Unit) => rv = 1) (fun (_ : Unit) => zB D [] (va_A [(x, .inr (11, [.ref st, .ref lv, .ref nm, .ref lb, .ref lk, .int 0])), (st, .inr (8, [.ref od, .ref pp, .ref le, .ref pa, .int 0])), (pp, .inr (7, [.ref ppA])), (ppA, .inl (cI, 60, .inl (fun _ => 0))), (ou, .inl (cL, 1, .inr (.inl go8)))] sz)) (va_A [(x, .inr (11, [.ref st, .ref lv, .ref nm, .ref lb, .ref lk, .int 0])), (st, .inr (8, [.ref od, .ref pp, .ref le, .ref pa, .int 0])), (pp, .inr (7, [.ref ppA])), (ppA, .inl (cI, 60, .inl (fun _ => 0))), (ou, .inl (cL, 1, .inr (.inl go8)))] sz)) 1 6 (va_A [(x, .inr (11, [.ref st, .ref lv, .ref nm, .ref lb, .ref lk, .int 0])), (st, .inr (8, [.ref od, .ref pp, .ref le, .ref pa, .int 0])), (pp, .inr (7, [.ref ppA])), (ppA, .inl (cI, 60, .inl (fun _ => 0))), (ou, .inl (cL, 1, .inr (.inl go8)))] sz) := by
  refine va_MetW (cc := cL_ahead) (maxL := 4) (ret := (some .int)) (by decide) rfl ?_
  intro P0 E0 s m args below meth C9 s₁ B hml hv
  obtain ⟨rfl, ⟨hsz, hP, hK, hD0⟩, ⟨hU, hN⟩, hKB⟩ := hv
  have hx := B.exec
  have hb := B.bytes
  have hr := B.returns
  have hts := atoms_spec (ws := wsL_ahead) B.pre
  have hown : s.vm.findClass RL = some m.cls := findClass_of_methodNamed B.named
  have hlocks := B.notSynchronized
  subst hsz
  have hD := hD0.self (sz := s.heap.size)
  generalize hAe : va_A [(x, .inr (11, [.ref st, .ref lv, .ref nm, .ref lb, .ref lk, .int 0])), (st, .inr (8, [.ref od, .ref pp, .ref le, .ref pa, .int 0])), (pp, .inr (7, [.ref ppA])), (ppA, .inl (cI, 60, .inl (fun _ => 0))), (ou, .inl (cL, 1, .inr (.inl go8)))] s.heap.size = A at hD hU hN ⊢
  have hA : ∀ q : Nat, s.heap.size ≤ q → A q := fun q h => by rw [← hAe]; exact Or.inr h
  have hS : va_S A s.heap s.heap [] := va_S.rf
  have hl := lv_entry ([.ref x, .int p, .ref ou]) (n := 4) (Nat.le_of_ble_eq_true rfl)
  rw [lg_entry_eq]
  generalize (lg_sl ([.ref x, .int p, .ref ou]) ++ List.replicate (4 - (lg_sl ([.ref x, .int p, .ref ou])).length) Slot.unset).toArray = ls at hl ⊢
  have hl : lv_has ls 4 [(0, .ref x), (1, .int p), (2, .ref ou)] := hl
  refine lv_aload_n hx hb dL_ahead_0 rfl (lv_at hl 2 rfl) ?_
  refine lv_iconst (v := 0) hx hb dL_ahead_1 (by decide) ?_
  refine lv_aload_n hx hb dL_ahead_2 rfl (lv_at hl 0 rfl) ?_
  refine lv_iload_n hx hb dL_ahead_3 rfl (lv_at hl 1 rfl) ?_
  refine zc_x (wc := [(x, .inr (11, [.ref st, .ref lv, .ref nm, .ref lb, .ref lk, .int 0])), (st, .inr (8, [.ref od, .ref pp, .ref le, .ref pa, .int 0])), (pp, .inr (7, [.ref ppA])), (ppA, .inl (cI, 60, .inl (fun _ => 0)))]) (wr := [(ou, .inl (cL, 1, .inr (.inl go8)))]) (fun st v t h => by obtain ⟨h1, -⟩ := h; obtain ⟨r, u, -, h2, -⟩ := h1; exact h2) (vx_runV (As := [.int p]) (rest := [.int 0, .ref ou]) ⟨hx, hb, hml, hown, hts⟩ (x_ahead l D cI x st lv nm lb lk od pp le pa ppA p s.heap.size hst) (cwV 1 hts gL_ahead_X8_ahead rfl rfl rfl (by decide +kernel) ⟨Nat.le_of_ble_eq_true rfl, Nat.le_of_ble_eq_true rfl⟩) (zPVX ⟨hU, hN⟩ hKB hS hA hK hP hD [0, 1, 2, 3] rfl rfl [0] rfl 0 rfl rfl rfl) rfl rfl hl.1 rfl (lv_room (Nat.le_of_ble_eq_true rfl)) dL_ahead_4 ⟨Nat.le_of_ble_eq_true rfl, Nat.le_of_ble_eq_true rfl⟩) hP hD hS hA [0, 1, 2, 3] [4] rfl rfl rfl (by decide) (fun ce q9 H locs hP hD hS hce hcv hcl => ?_)
  have htab := vx_table (x := objectInit) B (hts (.codeWith yL_ahead cL_ahead 4 (some .int) [(0, 9, 12, 22), (0, 9, 15, 15)]) (List.mem_of_getElem? (i := 0) rfl))
  refine vx_catch (own := RL) (name := "java/util/NoSuchElementException") hown [] ⟨0, 9, 12, 22⟩ [⟨0, 9, 15, 15⟩] (htab.trans rfl) (fun z h => absurd h List.not_mem_nil) rfl (by decide) (hts (.classLink RL 22 "java/util/NoSuchElementException") (List.mem_of_getElem? (i := 1) rfl)) (zW_use zKB_tab hKB.1 (.castable "java/util/NoSuchElementException" "java/util/NoSuchElementException") (List.mem_of_getElem? (i := 6) rfl)) hce hcv hcl ?_
  refine lv_astore_n (lv' := [(3, .ref q9), (0, .ref x), (1, .int p), (2, .ref ou)]) hx hb dL_ahead_12 rfl hl (by decide) rfl (fun ls hl => ?_)
  refine lv_iconst (v := 1) hx hb dL_ahead_13 (by decide) ?_
  obtain ⟨hP9, hD9⟩ := z_get hP hD [] (wc := []) rfl rfl
  exact W.iret (v := 1) hx hb hr (fun t ht hW => ⟨⟨1, (), rfl, rfl, by rw [ht]; exact hP9, hD9⟩, hS.F ht⟩) hS.2.2 dL_ahead_14

set_option maxHeartbeats 4000000 in
set_option maxRecDepth 100000 in
/-- law: labelLength -/
theorem w_labelLength (l : Launch) (D : va_G) (cI cL : ClassId) (x st lv nm lb lk od pp le pa ppA ou : Nat) (p : Int32) (go8 : Nat → Int64) (sz : Nat) (hst : l.stackTraces = false)  : Met l yL_labelLength wsL_labelLength ({ frames := 9, cells := 1, slots := 6, locals := 152 }) (va_Pc [.ref x, .int p, .ref ou] (zPreX D [(cI, .int), (cL, .long)] [(x, .inr (11, [.ref st, .ref lv, .ref nm, .ref lb, .ref lk, .int 0])), (st, .inr (8, [.ref od, .ref pp, .ref le, .ref pa, .int 0])), (pp, .inr (7, [.ref ppA])), (ppA, .inl (cI, 60, .inl (fun _ => 0))), (ou, .inl (cL, 1, .inr (.inl go8)))] sz)) (va_Qi (fun rv (_ : Unit) => rv = 1) (fun (_ : Unit) => zB D [] (va_A [(x, .inr (11, [.ref st, .ref lv, .ref nm, .ref lb, .ref lk, .int 0])), (st, .inr (8, [.ref od, .ref pp, .ref le, .ref pa, .int 0])), (pp, .inr (7, [.ref ppA])), (ppA, .inl (cI, 60, .inl (fun _ => 0))), (ou, .inl (cL, 1, .inr (.inl go8)))] sz)) (va_A [(x, .inr (11, [.ref st, .ref lv, .ref nm, .ref lb, .ref lk, .int 0])), (st, .inr (8, [.ref od, .ref pp, .ref le, .ref pa, .int 0])), (pp, .inr (7, [.ref ppA])), (ppA, .inl (cI, 60, .inl (fun _ => 0))), (ou, .inl (cL, 1, .inr (.inl go8)))] sz)) 1 6 (va_A [(x, .inr (11, [.ref st, .ref lv, .ref nm, .ref lb, .ref lk, .int 0])), (st, .inr (8, [.ref od, .ref pp, .ref le, .ref pa, .int 0])), (pp, .inr (7, [.ref ppA])), (ppA, .inl (cI, 60, .inl (fun _ => 0))), (ou, .inl (cL, 1, .inr (.inl go8)))] sz) := by
  refine va_MetW (cc := cL_labelLength) (maxL := 4) (ret := (some .int)) (by decide) rfl ?_
  intro P0 E0 s m args below meth C9 s₁ B hml hv
  obtain ⟨rfl, ⟨hsz, hP, hK, hD0⟩, ⟨hU, hN⟩, hKB⟩ := hv
  have hx := B.exec
  have hb := B.bytes
  have hr := B.returns
  have hts := atoms_spec (ws := wsL_labelLength) B.pre
  have hown : s.vm.findClass RL = some m.cls := findClass_of_methodNamed B.named
  have hlocks := B.notSynchronized
  subst hsz
  have hD := hD0.self (sz := s.heap.size)
  generalize hAe : va_A [(x, .inr (11, [.ref st, .ref lv, .ref nm, .ref lb, .ref lk, .int 0])), (st, .inr (8, [.ref od, .ref pp, .ref le, .ref pa, .int 0])), (pp, .inr (7, [.ref ppA])), (ppA, .inl (cI, 60, .inl (fun _ => 0))), (ou, .inl (cL, 1, .inr (.inl go8)))] s.heap.size = A at hD hU hN ⊢
  have hA : ∀ q : Nat, s.heap.size ≤ q → A q := fun q h => by rw [← hAe]; exact Or.inr h
  have hS : va_S A s.heap s.heap [] := va_S.rf
  have hl := lv_entry ([.ref x, .int p, .ref ou]) (n := 4) (Nat.le_of_ble_eq_true rfl)
  rw [lg_entry_eq]
  generalize (lg_sl ([.ref x, .int p, .ref ou]) ++ List.replicate (4 - (lg_sl ([.ref x, .int p, .ref ou])).length) Slot.unset).toArray = ls at hl ⊢
  have hl : lv_has ls 4 [(0, .ref x), (1, .int p), (2, .ref ou)] := hl
  refine lv_aload_n hx hb dL_labelLength_0 rfl (lv_at hl 2 rfl) ?_
  refine lv_iconst (v := 0) hx hb dL_labelLength_1 (by decide) ?_
  refine lv_aload_n hx hb dL_labelLength_2 rfl (lv_at hl 0 rfl) ?_
  refine lv_iload_n hx hb dL_labelLength_3 rfl (lv_at hl 1 rfl) ?_
  refine zc_x (wc := [(x, .inr (11, [.ref st, .ref lv, .ref nm, .ref lb, .ref lk, .int 0])), (st, .inr (8, [.ref od, .ref pp, .ref le, .ref pa, .int 0])), (pp, .inr (7, [.ref ppA])), (ppA, .inl (cI, 60, .inl (fun _ => 0)))]) (wr := [(ou, .inl (cL, 1, .inr (.inl go8)))]) (fun st v t h => by obtain ⟨h1, -⟩ := h; obtain ⟨r, u, -, h2, -⟩ := h1; exact h2) (vx_runV (As := [.int p]) (rest := [.int 0, .ref ou]) ⟨hx, hb, hml, hown, hts⟩ (x_labelLength l D cI x st lv nm lb lk od pp le pa ppA p s.heap.size hst) (cwV 1 hts gL_labelLength_X8_labelLength rfl rfl rfl (by decide +kernel) ⟨Nat.le_of_ble_eq_true rfl, Nat.le_of_ble_eq_true rfl⟩) (zPVX ⟨hU, hN⟩ hKB hS hA hK hP hD [0, 1, 2, 3] rfl rfl [0] rfl 0 rfl rfl rfl) rfl rfl hl.1 rfl (lv_room (Nat.le_of_ble_eq_true rfl)) dL_labelLength_4 ⟨Nat.le_of_ble_eq_true rfl, Nat.le_of_ble_eq_true rfl⟩) hP hD hS hA [0, 1, 2, 3] [4] rfl rfl rfl (by decide) (fun ce q9 H locs hP hD hS hce hcv hcl => ?_)
  have htab := vx_table (x := objectInit) B (hts (.codeWith yL_labelLength cL_labelLength 4 (some .int) [(0, 9, 12, 22), (0, 9, 15, 15)]) (List.mem_of_getElem? (i := 0) rfl))
  refine vx_catch (own := RL) (name := "java/util/NoSuchElementException") hown [] ⟨0, 9, 12, 22⟩ [⟨0, 9, 15, 15⟩] (htab.trans rfl) (fun z h => absurd h List.not_mem_nil) rfl (by decide) (hts (.classLink RL 22 "java/util/NoSuchElementException") (List.mem_of_getElem? (i := 1) rfl)) (zW_use zKB_tab hKB.1 (.castable "java/util/NoSuchElementException" "java/util/NoSuchElementException") (List.mem_of_getElem? (i := 6) rfl)) hce hcv hcl ?_
  refine lv_astore_n (lv' := [(3, .ref q9), (0, .ref x), (1, .int p), (2, .ref ou)]) hx hb dL_labelLength_12 rfl hl (by decide) rfl (fun ls hl => ?_)
  refine lv_iconst (v := 1) hx hb dL_labelLength_13 (by decide) ?_
  obtain ⟨hP9, hD9⟩ := z_get hP hD [] (wc := []) rfl rfl
  exact W.iret (v := 1) hx hb hr (fun t ht hW => ⟨⟨1, (), rfl, rfl, by rw [ht]; exact hP9, hD9⟩, hS.F ht⟩) hS.2.2 dL_labelLength_14

set_option maxHeartbeats 4000000 in
set_option maxRecDepth 100000 in
/-- law: labelAt -/
theorem w_labelAt (l : Launch) (D : va_G) (cI cL : ClassId) (x st lv nm lb lk od pp le pa ppA ou : Nat) (p q : Int32) (go8 : Nat → Int64) (sz : Nat) (hst : l.stackTraces = false)  : Met l yL_labelAt wsL_labelAt ({ frames := 9, cells := 1, slots := 6, locals := 153 }) (va_Pc [.ref x, .int p, .int q, .ref ou] (zPreX D [(cI, .int), (cL, .long)] [(x, .inr (11, [.ref st, .ref lv, .ref nm, .ref lb, .ref lk, .int 0])), (st, .inr (8, [.ref od, .ref pp, .ref le, .ref pa, .int 0])), (pp, .inr (7, [.ref ppA])), (ppA, .inl (cI, 60, .inl (fun _ => 0))), (ou, .inl (cL, 1, .inr (.inl go8)))] sz)) (va_Qi (fun rv (_ : Unit) => rv = 1) (fun (_ : Unit) => zB D [] (va_A [(x, .inr (11, [.ref st, .ref lv, .ref nm, .ref lb, .ref lk, .int 0])), (st, .inr (8, [.ref od, .ref pp, .ref le, .ref pa, .int 0])), (pp, .inr (7, [.ref ppA])), (ppA, .inl (cI, 60, .inl (fun _ => 0))), (ou, .inl (cL, 1, .inr (.inl go8)))] sz)) (va_A [(x, .inr (11, [.ref st, .ref lv, .ref nm, .ref lb, .ref lk, .int 0])), (st, .inr (8, [.ref od, .ref pp, .ref le, .ref pa, .int 0])), (pp, .inr (7, [.ref ppA])), (ppA, .inl (cI, 60, .inl (fun _ => 0))), (ou, .inl (cL, 1, .inr (.inl go8)))] sz)) 1 6 (va_A [(x, .inr (11, [.ref st, .ref lv, .ref nm, .ref lb, .ref lk, .int 0])), (st, .inr (8, [.ref od, .ref pp, .ref le, .ref pa, .int 0])), (pp, .inr (7, [.ref ppA])), (ppA, .inl (cI, 60, .inl (fun _ => 0))), (ou, .inl (cL, 1, .inr (.inl go8)))] sz) := by
  refine va_MetW (cc := cL_labelAt) (maxL := 5) (ret := (some .int)) (by decide) rfl ?_
  intro P0 E0 s m args below meth C9 s₁ B hml hv
  obtain ⟨rfl, ⟨hsz, hP, hK, hD0⟩, ⟨hU, hN⟩, hKB⟩ := hv
  have hx := B.exec
  have hb := B.bytes
  have hr := B.returns
  have hts := atoms_spec (ws := wsL_labelAt) B.pre
  have hown : s.vm.findClass RL = some m.cls := findClass_of_methodNamed B.named
  have hlocks := B.notSynchronized
  subst hsz
  have hD := hD0.self (sz := s.heap.size)
  generalize hAe : va_A [(x, .inr (11, [.ref st, .ref lv, .ref nm, .ref lb, .ref lk, .int 0])), (st, .inr (8, [.ref od, .ref pp, .ref le, .ref pa, .int 0])), (pp, .inr (7, [.ref ppA])), (ppA, .inl (cI, 60, .inl (fun _ => 0))), (ou, .inl (cL, 1, .inr (.inl go8)))] s.heap.size = A at hD hU hN ⊢
  have hA : ∀ q : Nat, s.heap.size ≤ q → A q := fun q h => by rw [← hAe]; exact Or.inr h
  have hS : va_S A s.heap s.heap [] := va_S.rf
  have hl := lv_entry ([.ref x, .int p, .int q, .ref ou]) (n := 5) (Nat.le_of_ble_eq_true rfl)
  rw [lg_entry_eq]
  generalize (lg_sl ([.ref x, .int p, .int q, .ref ou]) ++ List.replicate (5 - (lg_sl ([.ref x, .int p, .int q, .ref ou])).length) Slot.unset).toArray = ls at hl ⊢
  have hl : lv_has ls 5 [(0, .ref x), (1, .int p), (2, .int q), (3, .ref ou)] := hl
  refine lv_aload_n hx hb dL_labelAt_0 rfl (lv_at hl 3 rfl) ?_
  refine lv_iconst (v := 0) hx hb dL_labelAt_1 (by decide) ?_
  refine lv_aload_n hx hb dL_labelAt_2 rfl (lv_at hl 0 rfl) ?_
  refine lv_iload_n hx hb dL_labelAt_3 rfl (lv_at hl 1 rfl) ?_
  refine lv_iload_n hx hb dL_labelAt_4 rfl (lv_at hl 2 rfl) ?_
  refine zc_x (wc := [(x, .inr (11, [.ref st, .ref lv, .ref nm, .ref lb, .ref lk, .int 0])), (st, .inr (8, [.ref od, .ref pp, .ref le, .ref pa, .int 0])), (pp, .inr (7, [.ref ppA])), (ppA, .inl (cI, 60, .inl (fun _ => 0)))]) (wr := [(ou, .inl (cL, 1, .inr (.inl go8)))]) (fun st v t h => by obtain ⟨h1, -⟩ := h; obtain ⟨r, u, -, h2, -⟩ := h1; exact h2) (vx_runV (As := [.int p, .int q]) (rest := [.int 0, .ref ou]) ⟨hx, hb, hml, hown, hts⟩ (x_labelAt l D cI x st lv nm lb lk od pp le pa ppA p q s.heap.size hst) (cwV 2 hts gL_labelAt_X8_labelAt rfl rfl rfl (by decide +kernel) ⟨Nat.le_of_ble_eq_true rfl, Nat.le_of_ble_eq_true rfl⟩) (zPVX ⟨hU, hN⟩ hKB hS hA hK hP hD [0, 1, 2, 3] rfl rfl [0] rfl 0 rfl rfl rfl) rfl rfl hl.1 rfl (lv_room (Nat.le_of_ble_eq_true rfl)) dL_labelAt_5 ⟨Nat.le_of_ble_eq_true rfl, Nat.le_of_ble_eq_true rfl⟩) hP hD hS hA [0, 1, 2, 3] [4] rfl rfl rfl (by decide) (fun ce q9 H locs hP hD hS hce hcv hcl => ?_)
  have htab := vx_table (x := objectInit) B (hts (.codeWith yL_labelAt cL_labelAt 5 (some .int) [(0, 10, 13, 22), (0, 10, 17, 15), (0, 10, 21, 57)]) (List.mem_of_getElem? (i := 0) rfl))
  refine vx_catch (own := RL) (name := "java/util/NoSuchElementException") hown [] ⟨0, 10, 13, 22⟩ [⟨0, 10, 17, 15⟩, ⟨0, 10, 21, 57⟩] (htab.trans rfl) (fun z h => absurd h List.not_mem_nil) rfl (by decide) (hts (.classLink RL 22 "java/util/NoSuchElementException") (List.mem_of_getElem? (i := 1) rfl)) (zW_use zKB_tab hKB.1 (.castable "java/util/NoSuchElementException" "java/util/NoSuchElementException") (List.mem_of_getElem? (i := 6) rfl)) hce hcv hcl ?_
  refine lv_astore (lv' := [(4, .ref q9), (0, .ref x), (1, .int p), (2, .int q), (3, .ref ou)]) hx hb dL_labelAt_13 hl (by decide) rfl (fun ls hl => ?_)
  refine lv_iconst (v := 1) hx hb dL_labelAt_15 (by decide) ?_
  obtain ⟨hP9, hD9⟩ := z_get hP hD [] (wc := []) rfl rfl
  exact W.iret (v := 1) hx hb hr (fun t ht hW => ⟨⟨1, (), rfl, rfl, by rw [ht]; exact hP9, hD9⟩, hS.F ht⟩) hS.2.2 dL_labelAt_16

set_option maxHeartbeats 4000000 in
set_option maxRecDepth 100000 in
/-- law: targetOf -/
theorem w_targetOf (l : Launch) (D : va_G) (cI cL : ClassId) (x st lv nm lb lk ls1 ls2 ou : Nat) (p : Int32) (go8 : Nat → Int64) (sz : Nat) (hst : l.stackTraces = false)  : Met l yL_targetOf wsL_targetOf ({ frames := 8, cells := 1, slots := 6, locals := 131 }) (va_Pc [.ref x, .int p, .ref ou] (zPreX D [(cI, .int), (cL, .long)] [(x, .inr (11, [.ref st, .ref lv, .ref nm, .ref lb, .ref lk, .int 0])), (lk, .inr (5, [.ref ls1, .ref ls2, .int 0])), (ou, .inl (cL, 1, .inr (.inl go8)))] sz)) (va_Qi (fun rv (_ : Unit) => rv = 1) (fun (_ : Unit) => zB D [] (va_A [(x, .inr (11, [.ref st, .ref lv, .ref nm, .ref lb, .ref lk, .int 0])), (lk, .inr (5, [.ref ls1, .ref ls2, .int 0])), (ou, .inl (cL, 1, .inr (.inl go8)))] sz)) (va_A [(x, .inr (11, [.ref st, .ref lv, .ref nm, .ref lb, .ref lk, .int 0])), (lk, .inr (5, [.ref ls1, .ref ls2, .int 0])), (ou, .inl (cL, 1, .inr (.inl go8)))] sz)) 1 6 (va_A [(x, .inr (11, [.ref st, .ref lv, .ref nm, .ref lb, .ref lk, .int 0])), (lk, .inr (5, [.ref ls1, .ref ls2, .int 0])), (ou, .inl (cL, 1, .inr (.inl go8)))] sz) := by
  refine va_MetW (cc := cL_targetOf) (maxL := 4) (ret := (some .int)) (by decide) rfl ?_
  intro P0 E0 s m args below meth C9 s₁ B hml hv
  obtain ⟨rfl, ⟨hsz, hP, hK, hD0⟩, ⟨hU, hN⟩, hKB⟩ := hv
  have hx := B.exec
  have hb := B.bytes
  have hr := B.returns
  have hts := atoms_spec (ws := wsL_targetOf) B.pre
  have hown : s.vm.findClass RL = some m.cls := findClass_of_methodNamed B.named
  have hlocks := B.notSynchronized
  subst hsz
  have hD := hD0.self (sz := s.heap.size)
  generalize hAe : va_A [(x, .inr (11, [.ref st, .ref lv, .ref nm, .ref lb, .ref lk, .int 0])), (lk, .inr (5, [.ref ls1, .ref ls2, .int 0])), (ou, .inl (cL, 1, .inr (.inl go8)))] s.heap.size = A at hD hU hN ⊢
  have hA : ∀ q : Nat, s.heap.size ≤ q → A q := fun q h => by rw [← hAe]; exact Or.inr h
  have hS : va_S A s.heap s.heap [] := va_S.rf
  have hl := lv_entry ([.ref x, .int p, .ref ou]) (n := 4) (Nat.le_of_ble_eq_true rfl)
  rw [lg_entry_eq]
  generalize (lg_sl ([.ref x, .int p, .ref ou]) ++ List.replicate (4 - (lg_sl ([.ref x, .int p, .ref ou])).length) Slot.unset).toArray = ls at hl ⊢
  have hl : lv_has ls 4 [(0, .ref x), (1, .int p), (2, .ref ou)] := hl
  refine lv_aload_n hx hb dL_targetOf_0 rfl (lv_at hl 2 rfl) ?_
  refine lv_iconst (v := 0) hx hb dL_targetOf_1 (by decide) ?_
  refine lv_aload_n hx hb dL_targetOf_2 rfl (lv_at hl 0 rfl) ?_
  refine lv_iload_n hx hb dL_targetOf_3 rfl (lv_at hl 1 rfl) ?_
  refine zc_x (wc := [(x, .inr (11, [.ref st, .ref lv, .ref nm, .ref lb, .ref lk, .int 0])), (lk, .inr (5, [.ref ls1, .ref ls2, .int 0]))]) (wr := [(ou, .inl (cL, 1, .inr (.inl go8)))]) (fun st v t h => by obtain ⟨h1, -⟩ := h; obtain ⟨r, u, -, h2, -⟩ := h1; exact h2) (vx_runV (As := [.int p]) (rest := [.int 0, .ref ou]) ⟨hx, hb, hml, hown, hts⟩ (x_targetOf l D cI x st lv nm lb lk ls1 ls2 p s.heap.size hst) (cwV 1 hts gL_targetOf_X8_targetOf rfl rfl rfl (by decide +kernel) ⟨Nat.le_of_ble_eq_true rfl, Nat.le_of_ble_eq_true rfl⟩) (zPVX ⟨hU, hN⟩ hKB hS hA hK hP hD [0, 1] rfl rfl [0] rfl 0 rfl rfl rfl) rfl rfl hl.1 rfl (lv_room (Nat.le_of_ble_eq_true rfl)) dL_targetOf_4 ⟨Nat.le_of_ble_eq_true rfl, Nat.le_of_ble_eq_true rfl⟩) hP hD hS hA [0, 1] [2] rfl rfl rfl (by decide) (fun ce q9 H locs hP hD hS hce hcv hcl => ?_)
  have htab := vx_table (x := objectInit) B (hts (.codeWith yL_targetOf cL_targetOf 4 (some .int) [(0, 9, 12, 22)]) (List.mem_of_getElem? (i := 0) rfl))
  refine vx_catch (own := RL) (name := "java/util/NoSuchElementException") hown [] ⟨0, 9, 12, 22⟩ [] (htab.trans rfl) (fun z h => absurd h List.not_mem_nil) rfl (by decide) (hts (.classLink RL 22 "java/util/NoSuchElementException") (List.mem_of_getElem? (i := 1) rfl)) (zW_use zKB_tab hKB.1 (.castable "java/util/NoSuchElementException" "java/util/NoSuchElementException") (List.mem_of_getElem? (i := 6) rfl)) hce hcv hcl ?_
  refine lv_astore_n (lv' := [(3, .ref q9), (0, .ref x), (1, .int p), (2, .ref ou)]) hx hb dL_targetOf_12 rfl hl (by decide) rfl (fun ls hl => ?_)
  refine lv_iconst (v := 1) hx hb dL_targetOf_13 (by decide) ?_
  obtain ⟨hP9, hD9⟩ := z_get hP hD [] (wc := []) rfl rfl
  exact W.iret (v := 1) hx hb hr (fun t ht hW => ⟨⟨1, (), rfl, rfl, by rw [ht]; exact hP9, hD9⟩, hS.F ht⟩) hS.2.2 dL_targetOf_14

set_option maxHeartbeats 4000000 in
set_option maxRecDepth 100000 in
/-- law: isBroken -/
theorem w_isBroken (l : Launch) (D : va_G) (cI cL : ClassId) (x st lv nm lb lk ls1 ls2 ou : Nat) (p : Int32) (go8 : Nat → Int64) (sz : Nat) (hst : l.stackTraces = false)  : Met l yL_isBroken wsL_isBroken ({ frames := 8, cells := 1, slots := 6, locals := 131 }) (va_Pc [.ref x, .int p, .ref ou] (zPreX D [(cI, .int), (cL, .long)] [(x, .inr (11, [.ref st, .ref lv, .ref nm, .ref lb, .ref lk, .int 0])), (lk, .inr (5, [.ref ls1, .ref ls2, .int 0])), (ou, .inl (cL, 1, .inr (.inl go8)))] sz)) (va_Qi (fun rv (_ : Unit) => rv = 1) (fun (_ : Unit) => zB D [] (va_A [(x, .inr (11, [.ref st, .ref lv, .ref nm, .ref lb, .ref lk, .int 0])), (lk, .inr (5, [.ref ls1, .ref ls2, .int 0])), (ou, .inl (cL, 1, .inr (.inl go8)))] sz)) (va_A [(x, .inr (11, [.ref st, .ref lv, .ref nm, .ref lb, .ref lk, .int 0])), (lk, .inr (5, [.ref ls1, .ref ls2, .int 0])), (ou, .inl (cL, 1, .inr (.inl go8)))] sz)) 1 6 (va_A [(x, .inr (11, [.ref st, .ref lv, .ref nm, .ref lb, .ref lk, .int 0])), (lk, .inr (5, [.ref ls1, .ref ls2, .int 0])), (ou, .inl (cL, 1, .inr (.inl go8)))] sz) := by
  refine va_MetW (cc := cL_isBroken) (maxL := 4) (ret := (some .int)) (by decide) rfl ?_
  intro P0 E0 s m args below meth C9 s₁ B hml hv
  obtain ⟨rfl, ⟨hsz, hP, hK, hD0⟩, ⟨hU, hN⟩, hKB⟩ := hv
  have hx := B.exec
  have hb := B.bytes
  have hr := B.returns
  have hts := atoms_spec (ws := wsL_isBroken) B.pre
  have hown : s.vm.findClass RL = some m.cls := findClass_of_methodNamed B.named
  have hlocks := B.notSynchronized
  subst hsz
  have hD := hD0.self (sz := s.heap.size)
  generalize hAe : va_A [(x, .inr (11, [.ref st, .ref lv, .ref nm, .ref lb, .ref lk, .int 0])), (lk, .inr (5, [.ref ls1, .ref ls2, .int 0])), (ou, .inl (cL, 1, .inr (.inl go8)))] s.heap.size = A at hD hU hN ⊢
  have hA : ∀ q : Nat, s.heap.size ≤ q → A q := fun q h => by rw [← hAe]; exact Or.inr h
  have hS : va_S A s.heap s.heap [] := va_S.rf
  have hl := lv_entry ([.ref x, .int p, .ref ou]) (n := 4) (Nat.le_of_ble_eq_true rfl)
  rw [lg_entry_eq]
  generalize (lg_sl ([.ref x, .int p, .ref ou]) ++ List.replicate (4 - (lg_sl ([.ref x, .int p, .ref ou])).length) Slot.unset).toArray = ls at hl ⊢
  have hl : lv_has ls 4 [(0, .ref x), (1, .int p), (2, .ref ou)] := hl
  refine lv_aload_n hx hb dL_isBroken_0 rfl (lv_at hl 2 rfl) ?_
  refine lv_iconst (v := 0) hx hb dL_isBroken_1 (by decide) ?_
  refine lv_aload_n hx hb dL_isBroken_2 rfl (lv_at hl 0 rfl) ?_
  refine lv_iload_n hx hb dL_isBroken_3 rfl (lv_at hl 1 rfl) ?_
  refine zc_x (wc := [(x, .inr (11, [.ref st, .ref lv, .ref nm, .ref lb, .ref lk, .int 0])), (lk, .inr (5, [.ref ls1, .ref ls2, .int 0]))]) (wr := [(ou, .inl (cL, 1, .inr (.inl go8)))]) (fun st v t h => by obtain ⟨h1, -⟩ := h; obtain ⟨r, u, -, h2, -⟩ := h1; exact h2) (vx_runV (As := [.int p]) (rest := [.int 0, .ref ou]) ⟨hx, hb, hml, hown, hts⟩ (x_isBroken l D cI x st lv nm lb lk ls1 ls2 p s.heap.size hst) (cwV 1 hts gL_isBroken_X8_isBroken rfl rfl rfl (by decide +kernel) ⟨Nat.le_of_ble_eq_true rfl, Nat.le_of_ble_eq_true rfl⟩) (zPVX ⟨hU, hN⟩ hKB hS hA hK hP hD [0, 1] rfl rfl [0] rfl 0 rfl rfl rfl) rfl rfl hl.1 rfl (lv_room (Nat.le_of_ble_eq_true rfl)) dL_isBroken_4 ⟨Nat.le_of_ble_eq_true rfl, Nat.le_of_ble_eq_true rfl⟩) hP hD hS hA [0, 1] [2] rfl rfl rfl (by decide) (fun ce q9 H locs hP hD hS hce hcv hcl => ?_)
  have htab := vx_table (x := objectInit) B (hts (.codeWith yL_isBroken cL_isBroken 4 (some .int) [(0, 16, 19, 22)]) (List.mem_of_getElem? (i := 0) rfl))
  refine vx_catch (own := RL) (name := "java/util/NoSuchElementException") hown [] ⟨0, 16, 19, 22⟩ [] (htab.trans rfl) (fun z h => absurd h List.not_mem_nil) rfl (by decide) (hts (.classLink RL 22 "java/util/NoSuchElementException") (List.mem_of_getElem? (i := 1) rfl)) (zW_use zKB_tab hKB.1 (.castable "java/util/NoSuchElementException" "java/util/NoSuchElementException") (List.mem_of_getElem? (i := 6) rfl)) hce hcv hcl ?_
  refine lv_astore_n (lv' := [(3, .ref q9), (0, .ref x), (1, .int p), (2, .ref ou)]) hx hb dL_isBroken_19 rfl hl (by decide) rfl (fun ls hl => ?_)
  refine lv_iconst (v := 1) hx hb dL_isBroken_20 (by decide) ?_
  obtain ⟨hP9, hD9⟩ := z_get hP hD [] (wc := []) rfl rfl
  exact W.iret (v := 1) hx hb hr (fun t ht hW => ⟨⟨1, (), rfl, rfl, by rw [ht]; exact hP9, hD9⟩, hS.F ht⟩) hS.2.2 dL_isBroken_21

set_option maxHeartbeats 4000000 in
set_option maxRecDepth 100000 in
/-- law: referenceLength -/
theorem w_referenceLength (l : Launch) (D : va_G) (cI cL : ClassId) (x st lv nm lb lk ls1 ls2 ou : Nat) (p : Int32) (go8 : Nat → Int64) (sz : Nat) (hst : l.stackTraces = false)  : Met l yL_referenceLength wsL_referenceLength ({ frames := 9, cells := 1, slots := 6, locals := 152 }) (va_Pc [.ref x, .int p, .ref ou] (zPreX D [(cI, .int), (cL, .long)] [(x, .inr (11, [.ref st, .ref lv, .ref nm, .ref lb, .ref lk, .int 0])), (lk, .inr (5, [.ref ls1, .ref ls2, .int 0])), (ou, .inl (cL, 1, .inr (.inl go8)))] sz)) (va_Qi (fun rv (_ : Unit) => rv = 1) (fun (_ : Unit) => zB D [] (va_A [(x, .inr (11, [.ref st, .ref lv, .ref nm, .ref lb, .ref lk, .int 0])), (lk, .inr (5, [.ref ls1, .ref ls2, .int 0])), (ou, .inl (cL, 1, .inr (.inl go8)))] sz)) (va_A [(x, .inr (11, [.ref st, .ref lv, .ref nm, .ref lb, .ref lk, .int 0])), (lk, .inr (5, [.ref ls1, .ref ls2, .int 0])), (ou, .inl (cL, 1, .inr (.inl go8)))] sz)) 1 6 (va_A [(x, .inr (11, [.ref st, .ref lv, .ref nm, .ref lb, .ref lk, .int 0])), (lk, .inr (5, [.ref ls1, .ref ls2, .int 0])), (ou, .inl (cL, 1, .inr (.inl go8)))] sz) := by
  refine va_MetW (cc := cL_referenceLength) (maxL := 4) (ret := (some .int)) (by decide) rfl ?_
  intro P0 E0 s m args below meth C9 s₁ B hml hv
  obtain ⟨rfl, ⟨hsz, hP, hK, hD0⟩, ⟨hU, hN⟩, hKB⟩ := hv
  have hx := B.exec
  have hb := B.bytes
  have hr := B.returns
  have hts := atoms_spec (ws := wsL_referenceLength) B.pre
  have hown : s.vm.findClass RL = some m.cls := findClass_of_methodNamed B.named
  have hlocks := B.notSynchronized
  subst hsz
  have hD := hD0.self (sz := s.heap.size)
  generalize hAe : va_A [(x, .inr (11, [.ref st, .ref lv, .ref nm, .ref lb, .ref lk, .int 0])), (lk, .inr (5, [.ref ls1, .ref ls2, .int 0])), (ou, .inl (cL, 1, .inr (.inl go8)))] s.heap.size = A at hD hU hN ⊢
  have hA : ∀ q : Nat, s.heap.size ≤ q → A q := fun q h => by rw [← hAe]; exact Or.inr h
  have hS : va_S A s.heap s.heap [] := va_S.rf
  have hl := lv_entry ([.ref x, .int p, .ref ou]) (n := 4) (Nat.le_of_ble_eq_true rfl)
  rw [lg_entry_eq]
  generalize (lg_sl ([.ref x, .int p, .ref ou]) ++ List.replicate (4 - (lg_sl ([.ref x, .int p, .ref ou])).length) Slot.unset).toArray = ls at hl ⊢
  have hl : lv_has ls 4 [(0, .ref x), (1, .int p), (2, .ref ou)] := hl
  refine lv_aload_n hx hb dL_referenceLength_0 rfl (lv_at hl 2 rfl) ?_
  refine lv_iconst (v := 0) hx hb dL_referenceLength_1 (by decide) ?_
  refine lv_aload_n hx hb dL_referenceLength_2 rfl (lv_at hl 0 rfl) ?_
  refine lv_iload_n hx hb dL_referenceLength_3 rfl (lv_at hl 1 rfl) ?_
  refine zc_x (wc := [(x, .inr (11, [.ref st, .ref lv, .ref nm, .ref lb, .ref lk, .int 0])), (lk, .inr (5, [.ref ls1, .ref ls2, .int 0]))]) (wr := [(ou, .inl (cL, 1, .inr (.inl go8)))]) (fun st v t h => by obtain ⟨h1, -⟩ := h; obtain ⟨r, u, -, h2, -⟩ := h1; exact h2) (vx_runV (As := [.int p]) (rest := [.int 0, .ref ou]) ⟨hx, hb, hml, hown, hts⟩ (x_referenceLength l D cI x st lv nm lb lk ls1 ls2 p s.heap.size hst) (cwV 1 hts gL_referenceLength_X8_referenceLength rfl rfl rfl (by decide +kernel) ⟨Nat.le_of_ble_eq_true rfl, Nat.le_of_ble_eq_true rfl⟩) (zPVX ⟨hU, hN⟩ hKB hS hA hK hP hD [0, 1] rfl rfl [0] rfl 0 rfl rfl rfl) rfl rfl hl.1 rfl (lv_room (Nat.le_of_ble_eq_true rfl)) dL_referenceLength_4 ⟨Nat.le_of_ble_eq_true rfl, Nat.le_of_ble_eq_true rfl⟩) hP hD hS hA [0, 1] [2] rfl rfl rfl (by decide) (fun ce q9 H locs hP hD hS hce hcv hcl => ?_)
  have htab := vx_table (x := objectInit) B (hts (.codeWith yL_referenceLength cL_referenceLength 4 (some .int) [(0, 9, 12, 22), (0, 9, 15, 15)]) (List.mem_of_getElem? (i := 0) rfl))
  refine vx_catch (own := RL) (name := "java/util/NoSuchElementException") hown [] ⟨0, 9, 12, 22⟩ [⟨0, 9, 15, 15⟩] (htab.trans rfl) (fun z h => absurd h List.not_mem_nil) rfl (by decide) (hts (.classLink RL 22 "java/util/NoSuchElementException") (List.mem_of_getElem? (i := 1) rfl)) (zW_use zKB_tab hKB.1 (.castable "java/util/NoSuchElementException" "java/util/NoSuchElementException") (List.mem_of_getElem? (i := 6) rfl)) hce hcv hcl ?_
  refine lv_astore_n (lv' := [(3, .ref q9), (0, .ref x), (1, .int p), (2, .ref ou)]) hx hb dL_referenceLength_12 rfl hl (by decide) rfl (fun ls hl => ?_)
  refine lv_iconst (v := 1) hx hb dL_referenceLength_13 (by decide) ?_
  obtain ⟨hP9, hD9⟩ := z_get hP hD [] (wc := []) rfl rfl
  exact W.iret (v := 1) hx hb hr (fun t ht hW => ⟨⟨1, (), rfl, rfl, by rw [ht]; exact hP9, hD9⟩, hS.F ht⟩) hS.2.2 dL_referenceLength_14

set_option maxHeartbeats 4000000 in
set_option maxRecDepth 100000 in
/-- law: referenceAt -/
theorem w_referenceAt (l : Launch) (D : va_G) (cI cL : ClassId) (x st lv nm lb lk ls1 ls2 ou : Nat) (p q : Int32) (go8 : Nat → Int64) (sz : Nat) (hst : l.stackTraces = false)  : Met l yL_referenceAt wsL_referenceAt ({ frames := 9, cells := 1, slots := 6, locals := 153 }) (va_Pc [.ref x, .int p, .int q, .ref ou] (zPreX D [(cI, .int), (cL, .long)] [(x, .inr (11, [.ref st, .ref lv, .ref nm, .ref lb, .ref lk, .int 0])), (lk, .inr (5, [.ref ls1, .ref ls2, .int 0])), (ou, .inl (cL, 1, .inr (.inl go8)))] sz)) (va_Qi (fun rv (_ : Unit) => rv = 1) (fun (_ : Unit) => zB D [] (va_A [(x, .inr (11, [.ref st, .ref lv, .ref nm, .ref lb, .ref lk, .int 0])), (lk, .inr (5, [.ref ls1, .ref ls2, .int 0])), (ou, .inl (cL, 1, .inr (.inl go8)))] sz)) (va_A [(x, .inr (11, [.ref st, .ref lv, .ref nm, .ref lb, .ref lk, .int 0])), (lk, .inr (5, [.ref ls1, .ref ls2, .int 0])), (ou, .inl (cL, 1, .inr (.inl go8)))] sz)) 1 6 (va_A [(x, .inr (11, [.ref st, .ref lv, .ref nm, .ref lb, .ref lk, .int 0])), (lk, .inr (5, [.ref ls1, .ref ls2, .int 0])), (ou, .inl (cL, 1, .inr (.inl go8)))] sz) := by
  refine va_MetW (cc := cL_referenceAt) (maxL := 5) (ret := (some .int)) (by decide) rfl ?_
  intro P0 E0 s m args below meth C9 s₁ B hml hv
  obtain ⟨rfl, ⟨hsz, hP, hK, hD0⟩, ⟨hU, hN⟩, hKB⟩ := hv
  have hx := B.exec
  have hb := B.bytes
  have hr := B.returns
  have hts := atoms_spec (ws := wsL_referenceAt) B.pre
  have hown : s.vm.findClass RL = some m.cls := findClass_of_methodNamed B.named
  have hlocks := B.notSynchronized
  subst hsz
  have hD := hD0.self (sz := s.heap.size)
  generalize hAe : va_A [(x, .inr (11, [.ref st, .ref lv, .ref nm, .ref lb, .ref lk, .int 0])), (lk, .inr (5, [.ref ls1, .ref ls2, .int 0])), (ou, .inl (cL, 1, .inr (.inl go8)))] s.heap.size = A at hD hU hN ⊢
  have hA : ∀ q : Nat, s.heap.size ≤ q → A q := fun q h => by rw [← hAe]; exact Or.inr h
  have hS : va_S A s.heap s.heap [] := va_S.rf
  have hl := lv_entry ([.ref x, .int p, .int q, .ref ou]) (n := 5) (Nat.le_of_ble_eq_true rfl)
  rw [lg_entry_eq]
  generalize (lg_sl ([.ref x, .int p, .int q, .ref ou]) ++ List.replicate (5 - (lg_sl ([.ref x, .int p, .int q, .ref ou])).length) Slot.unset).toArray = ls at hl ⊢
  have hl : lv_has ls 5 [(0, .ref x), (1, .int p), (2, .int q), (3, .ref ou)] := hl
  refine lv_aload_n hx hb dL_referenceAt_0 rfl (lv_at hl 3 rfl) ?_
  refine lv_iconst (v := 0) hx hb dL_referenceAt_1 (by decide) ?_
  refine lv_aload_n hx hb dL_referenceAt_2 rfl (lv_at hl 0 rfl) ?_
  refine lv_iload_n hx hb dL_referenceAt_3 rfl (lv_at hl 1 rfl) ?_
  refine lv_iload_n hx hb dL_referenceAt_4 rfl (lv_at hl 2 rfl) ?_
  refine zc_x (wc := [(x, .inr (11, [.ref st, .ref lv, .ref nm, .ref lb, .ref lk, .int 0])), (lk, .inr (5, [.ref ls1, .ref ls2, .int 0]))]) (wr := [(ou, .inl (cL, 1, .inr (.inl go8)))]) (fun st v t h => by obtain ⟨h1, -⟩ := h; obtain ⟨r, u, -, h2, -⟩ := h1; exact h2) (vx_runV (As := [.int p, .int q]) (rest := [.int 0, .ref ou]) ⟨hx, hb, hml, hown, hts⟩ (x_referenceAt l D cI x st lv nm lb lk ls1 ls2 p q s.heap.size hst) (cwV 2 hts gL_referenceAt_X8_referenceAt rfl rfl rfl (by decide +kernel) ⟨Nat.le_of_ble_eq_true rfl, Nat.le_of_ble_eq_true rfl⟩) (zPVX ⟨hU, hN⟩ hKB hS hA hK hP hD [0, 1] rfl rfl [0] rfl 0 rfl rfl rfl) rfl rfl hl.1 rfl (lv_room (Nat.le_of_ble_eq_true rfl)) dL_referenceAt_5 ⟨Nat.le_of_ble_eq_true rfl, Nat.le_of_ble_eq_true rfl⟩) hP hD hS hA [0, 1] [2] rfl rfl rfl (by decide) (fun ce q9 H locs hP hD hS hce hcv hcl => ?_)
  have htab := vx_table (x := objectInit) B (hts (.codeWith yL_referenceAt cL_referenceAt 5 (some .int) [(0, 10, 13, 22), (0, 10, 17, 15), (0, 10, 21, 57)]) (List.mem_of_getElem? (i := 0) rfl))
  refine vx_catch (own := RL) (name := "java/util/NoSuchElementException") hown [] ⟨0, 10, 13, 22⟩ [⟨0, 10, 17, 15⟩, ⟨0, 10, 21, 57⟩] (htab.trans rfl) (fun z h => absurd h List.not_mem_nil) rfl (by decide) (hts (.classLink RL 22 "java/util/NoSuchElementException") (List.mem_of_getElem? (i := 1) rfl)) (zW_use zKB_tab hKB.1 (.castable "java/util/NoSuchElementException" "java/util/NoSuchElementException") (List.mem_of_getElem? (i := 6) rfl)) hce hcv hcl ?_
  refine lv_astore (lv' := [(4, .ref q9), (0, .ref x), (1, .int p), (2, .int q), (3, .ref ou)]) hx hb dL_referenceAt_13 hl (by decide) rfl (fun ls hl => ?_)
  refine lv_iconst (v := 1) hx hb dL_referenceAt_15 (by decide) ?_
  obtain ⟨hP9, hD9⟩ := z_get hP hD [] (wc := []) rfl rfl
  exact W.iret (v := 1) hx hb hr (fun t ht hW => ⟨⟨1, (), rfl, rfl, by rw [ht]; exact hP9, hD9⟩, hS.F ht⟩) hS.2.2 dL_referenceAt_16

set_option maxHeartbeats 4000000 in
set_option maxRecDepth 100000 in
/-- law: paragraphAt -/
theorem w_paragraphAt (l : Launch) (D : va_G) (cI cL : ClassId) (x st lv nm lb lk od pp le pa ou : Nat) (p : Int32) (go8 : Nat → Int64) (sz : Nat) (hst : l.stackTraces = false)  : Met l yL_paragraphAt wsL_paragraphAt ({ frames := 7, cells := 1, slots := 6, locals := 110 }) (va_Pc [.ref x, .int p, .ref ou] (zPreX D [(cI, .int), (cL, .long)] [(x, .inr (11, [.ref st, .ref lv, .ref nm, .ref lb, .ref lk, .int 0])), (st, .inr (8, [.ref od, .ref pp, .ref le, .ref pa, .int 0])), (ou, .inl (cL, 1, .inr (.inl go8)))] sz)) (va_Qi (fun rv (_ : Unit) => rv = 1) (fun (_ : Unit) => zB D [] (va_A [(x, .inr (11, [.ref st, .ref lv, .ref nm, .ref lb, .ref lk, .int 0])), (st, .inr (8, [.ref od, .ref pp, .ref le, .ref pa, .int 0])), (ou, .inl (cL, 1, .inr (.inl go8)))] sz)) (va_A [(x, .inr (11, [.ref st, .ref lv, .ref nm, .ref lb, .ref lk, .int 0])), (st, .inr (8, [.ref od, .ref pp, .ref le, .ref pa, .int 0])), (ou, .inl (cL, 1, .inr (.inl go8)))] sz)) 1 6 (va_A [(x, .inr (11, [.ref st, .ref lv, .ref nm, .ref lb, .ref lk, .int 0])), (st, .inr (8, [.ref od, .ref pp, .ref le, .ref pa, .int 0])), (ou, .inl (cL, 1, .inr (.inl go8)))] sz) := by
  refine va_MetW (cc := cL_paragraphAt) (maxL := 4) (ret := (some .int)) (by decide) rfl ?_
  intro P0 E0 s m args below meth C9 s₁ B hml hv
  obtain ⟨rfl, ⟨hsz, hP, hK, hD0⟩, ⟨hU, hN⟩, hKB⟩ := hv
  have hx := B.exec
  have hb := B.bytes
  have hr := B.returns
  have hts := atoms_spec (ws := wsL_paragraphAt) B.pre
  have hown : s.vm.findClass RL = some m.cls := findClass_of_methodNamed B.named
  have hlocks := B.notSynchronized
  subst hsz
  have hD := hD0.self (sz := s.heap.size)
  generalize hAe : va_A [(x, .inr (11, [.ref st, .ref lv, .ref nm, .ref lb, .ref lk, .int 0])), (st, .inr (8, [.ref od, .ref pp, .ref le, .ref pa, .int 0])), (ou, .inl (cL, 1, .inr (.inl go8)))] s.heap.size = A at hD hU hN ⊢
  have hA : ∀ q : Nat, s.heap.size ≤ q → A q := fun q h => by rw [← hAe]; exact Or.inr h
  have hS : va_S A s.heap s.heap [] := va_S.rf
  have hl := lv_entry ([.ref x, .int p, .ref ou]) (n := 4) (Nat.le_of_ble_eq_true rfl)
  rw [lg_entry_eq]
  generalize (lg_sl ([.ref x, .int p, .ref ou]) ++ List.replicate (4 - (lg_sl ([.ref x, .int p, .ref ou])).length) Slot.unset).toArray = ls at hl ⊢
  have hl : lv_has ls 4 [(0, .ref x), (1, .int p), (2, .ref ou)] := hl
  refine lv_aload_n hx hb dL_paragraphAt_0 rfl (lv_at hl 2 rfl) ?_
  refine lv_iconst (v := 0) hx hb dL_paragraphAt_1 (by decide) ?_
  refine lv_aload_n hx hb dL_paragraphAt_2 rfl (lv_at hl 0 rfl) ?_
  refine lv_iload_n hx hb dL_paragraphAt_3 rfl (lv_at hl 1 rfl) ?_
  refine zc_x (wc := [(x, .inr (11, [.ref st, .ref lv, .ref nm, .ref lb, .ref lk, .int 0])), (st, .inr (8, [.ref od, .ref pp, .ref le, .ref pa, .int 0]))]) (wr := [(ou, .inl (cL, 1, .inr (.inl go8)))]) (fun st v t h => by obtain ⟨h1, -⟩ := h; obtain ⟨r, u, -, h2, -⟩ := h1; exact h2) (vx_runV (As := [.int p]) (rest := [.int 0, .ref ou]) ⟨hx, hb, hml, hown, hts⟩ (x_paragraphAt l D cI x st lv nm lb lk od pp le pa p s.heap.size hst) (cwV 1 hts gL_paragraphAt_X8_paragraphAt rfl rfl rfl (by decide +kernel) ⟨Nat.le_of_ble_eq_true rfl, Nat.le_of_ble_eq_true rfl⟩) (zPVX ⟨hU, hN⟩ hKB hS hA hK hP hD [0, 1] rfl rfl [0] rfl 0 rfl rfl rfl) rfl rfl hl.1 rfl (lv_room (Nat.le_of_ble_eq_true rfl)) dL_paragraphAt_4 ⟨Nat.le_of_ble_eq_true rfl, Nat.le_of_ble_eq_true rfl⟩) hP hD hS hA [0, 1] [2] rfl rfl rfl (by decide) (fun ce q9 H locs hP hD hS hce hcv hcl => ?_)
  have htab := vx_table (x := objectInit) B (hts (.codeWith yL_paragraphAt cL_paragraphAt 4 (some .int) [(0, 9, 12, 57)]) (List.mem_of_getElem? (i := 0) rfl))
  refine vx_catch (own := RL) (name := "java/lang/IndexOutOfBoundsException") hown [] ⟨0, 9, 12, 57⟩ [] (htab.trans rfl) (fun z h => absurd h List.not_mem_nil) rfl (by decide) (hts (.classLink RL 57 "java/lang/IndexOutOfBoundsException") (List.mem_of_getElem? (i := 1) rfl)) (zW_use zKB_tab hKB.1 (.castable "java/lang/IndexOutOfBoundsException" "java/lang/IndexOutOfBoundsException") (List.mem_of_getElem? (i := 7) rfl)) hce hcv hcl ?_
  refine lv_astore_n (lv' := [(3, .ref q9), (0, .ref x), (1, .int p), (2, .ref ou)]) hx hb dL_paragraphAt_12 rfl hl (by decide) rfl (fun ls hl => ?_)
  refine lv_iconst (v := 1) hx hb dL_paragraphAt_13 (by decide) ?_
  obtain ⟨hP9, hD9⟩ := z_get hP hD [] (wc := []) rfl rfl
  exact W.iret (v := 1) hx hb hr (fun t ht hW => ⟨⟨1, (), rfl, rfl, by rw [ht]; exact hP9, hD9⟩, hS.F ht⟩) hS.2.2 dL_paragraphAt_14

set_option maxHeartbeats 4000000 in
set_option maxRecDepth 100000 in
/-- law: frozenShare -/
theorem w_frozenShare (l : Launch) (D : va_G) (cD cI : ClassId) (x st lv nm lb lk od pp le pa ou : Nat) (go8 : Nat → UInt64) (sz : Nat) (hst : l.stackTraces = false)  : Met l yL_frozenShare wsL_frozenShare ({ frames := 8, cells := 1, slots := 6, locals := 129 }) (va_Pc [.ref x, .ref ou] (zPreX D [(cI, .int), (cD, .double)] [(x, .inr (11, [.ref st, .ref lv, .ref nm, .ref lb, .ref lk, .int 0])), (st, .inr (8, [.ref od, .ref pp, .ref le, .ref pa, .int 0])), (ou, .inl (cD, 1, .inr (.inr (.inr (.inl go8)))))] sz)) (va_Qi (fun rv (_ : Unit) => rv = 1) (fun (_ : Unit) => zB D [] (va_A [(x, .inr (11, [.ref st, .ref lv, .ref nm, .ref lb, .ref lk, .int 0])), (st, .inr (8, [.ref od, .ref pp, .ref le, .ref pa, .int 0])), (ou, .inl (cD, 1, .inr (.inr (.inr (.inl go8)))))] sz)) (va_A [(x, .inr (11, [.ref st, .ref lv, .ref nm, .ref lb, .ref lk, .int 0])), (st, .inr (8, [.ref od, .ref pp, .ref le, .ref pa, .int 0])), (ou, .inl (cD, 1, .inr (.inr (.inr (.inl go8)))))] sz)) 1 6 (va_A [(x, .inr (11, [.ref st, .ref lv, .ref nm, .ref lb, .ref lk, .int 0])), (st, .inr (8, [.ref od, .ref pp, .ref le, .ref pa, .int 0])), (ou, .inl (cD, 1, .inr (.inr (.inr (.inl go8)))))] sz) := by
  refine va_MetW (cc := cL_frozenShare) (maxL := 3) (ret := (some .int)) (by decide) rfl ?_
  intro P0 E0 s m args below meth C9 s₁ B hml hv
  obtain ⟨rfl, ⟨hsz, hP, hK, hD0⟩, ⟨hU, hN⟩, hKB⟩ := hv
  have hx := B.exec
  have hb := B.bytes
  have hr := B.returns
  have hts := atoms_spec (ws := wsL_frozenShare) B.pre
  have hown : s.vm.findClass RL = some m.cls := findClass_of_methodNamed B.named
  have hlocks := B.notSynchronized
  subst hsz
  have hD := hD0.self (sz := s.heap.size)
  generalize hAe : va_A [(x, .inr (11, [.ref st, .ref lv, .ref nm, .ref lb, .ref lk, .int 0])), (st, .inr (8, [.ref od, .ref pp, .ref le, .ref pa, .int 0])), (ou, .inl (cD, 1, .inr (.inr (.inr (.inl go8)))))] s.heap.size = A at hD hU hN ⊢
  have hA : ∀ q : Nat, s.heap.size ≤ q → A q := fun q h => by rw [← hAe]; exact Or.inr h
  have hS : va_S A s.heap s.heap [] := va_S.rf
  have hl := lv_entry ([.ref x, .ref ou]) (n := 3) (Nat.le_of_ble_eq_true rfl)
  rw [lg_entry_eq]
  generalize (lg_sl ([.ref x, .ref ou]) ++ List.replicate (3 - (lg_sl ([.ref x, .ref ou])).length) Slot.unset).toArray = ls at hl ⊢
  have hl : lv_has ls 3 [(0, .ref x), (1, .ref ou)] := hl
  refine lv_aload_n hx hb dL_frozenShare_0 rfl (lv_at hl 1 rfl) ?_
  refine lv_iconst (v := 0) hx hb dL_frozenShare_1 (by decide) ?_
  refine lv_aload_n hx hb dL_frozenShare_2 rfl (lv_at hl 0 rfl) ?_
  refine zc_x (wc := [(x, .inr (11, [.ref st, .ref lv, .ref nm, .ref lb, .ref lk, .int 0])), (st, .inr (8, [.ref od, .ref pp, .ref le, .ref pa, .int 0]))]) (wr := [(ou, .inl (cD, 1, .inr (.inr (.inr (.inl go8)))))]) (fun st v t h => by obtain ⟨h1, -⟩ := h; obtain ⟨r, u, -, h2, -⟩ := h1; exact h2) (vx_runV (As := []) (rest := [.int 0, .ref ou]) ⟨hx, hb, hml, hown, hts⟩ (x_frozenShare l D cI x st lv nm lb lk od pp le pa s.heap.size hst) (cwV 0 hts gL_frozenShare_X8_frozenShare rfl rfl rfl (by decide +kernel) ⟨Nat.le_of_ble_eq_true rfl, Nat.le_of_ble_eq_true rfl⟩) (zPVX ⟨hU, hN⟩ hKB hS hA hK hP hD [0, 1] rfl rfl [0] rfl 0 rfl rfl rfl) rfl rfl hl.1 rfl (lv_room (Nat.le_of_ble_eq_true rfl)) dL_frozenShare_3 ⟨Nat.le_of_ble_eq_true rfl, Nat.le_of_ble_eq_true rfl⟩) hP hD hS hA [0, 1] [2] rfl rfl rfl (by decide) (fun ce q9 H locs hP hD hS hce hcv hcl => ?_)
  have htab := vx_table (x := objectInit) B (hts (.codeWith yL_frozenShare cL_frozenShare 3 (some .int) [(0, 8, 11, 120)]) (List.mem_of_getElem? (i := 0) rfl))
  refine vx_catch (own := RL) (name := "java/lang/ArithmeticException") hown [] ⟨0, 8, 11, 120⟩ [] (htab.trans rfl) (fun z h => absurd h List.not_mem_nil) rfl (by decide) (hts (.classLink RL 120 "java/lang/ArithmeticException") (List.mem_of_getElem? (i := 1) rfl)) (zW_use zKB_tab hKB.1 (.castable "java/lang/ArithmeticException" "java/lang/ArithmeticException") (List.mem_of_getElem? (i := 8) rfl)) hce hcv hcl ?_
  refine lv_astore_n (lv' := [(2, .ref q9), (0, .ref x), (1, .ref ou)]) hx hb dL_frozenShare_11 rfl hl (by decide) rfl (fun ls hl => ?_)
  refine lv_iconst (v := 1) hx hb dL_frozenShare_12 (by decide) ?_
  obtain ⟨hP9, hD9⟩ := z_get hP hD [] (wc := []) rfl rfl
  exact W.iret (v := 1) hx hb hr (fun t ht hW => ⟨⟨1, (), rfl, rfl, by rw [ht]; exact hP9, hD9⟩, hS.F ht⟩) hS.2.2 dL_frozenShare_13

set_option maxHeartbeats 4000000 in
set_option maxRecDepth 100000 in
/-- law: shareBits -/
theorem w_shareBits (l : Launch) (D : va_G) (cI cL : ClassId) (x st lv nm lb lk od pp le pa ou : Nat) (go8 : Nat → Int64) (sz : Nat) (hst : l.stackTraces = false)  : Met l yL_shareBits wsL_shareBits ({ frames := 8, cells := 1, slots := 6, locals := 129 }) (va_Pc [.ref x, .ref ou] (zPreX D [(cI, .int), (cL, .long)] [(x, .inr (11, [.ref st, .ref lv, .ref nm, .ref lb, .ref lk, .int 0])), (st, .inr (8, [.ref od, .ref pp, .ref le, .ref pa, .int 0])), (ou, .inl (cL, 1, .inr (.inl go8)))] sz)) (va_Qi (fun rv (_ : Unit) => rv = 1) (fun (_ : Unit) => zB D [] (va_A [(x, .inr (11, [.ref st, .ref lv, .ref nm, .ref lb, .ref lk, .int 0])), (st, .inr (8, [.ref od, .ref pp, .ref le, .ref pa, .int 0])), (ou, .inl (cL, 1, .inr (.inl go8)))] sz)) (va_A [(x, .inr (11, [.ref st, .ref lv, .ref nm, .ref lb, .ref lk, .int 0])), (st, .inr (8, [.ref od, .ref pp, .ref le, .ref pa, .int 0])), (ou, .inl (cL, 1, .inr (.inl go8)))] sz)) 1 6 (va_A [(x, .inr (11, [.ref st, .ref lv, .ref nm, .ref lb, .ref lk, .int 0])), (st, .inr (8, [.ref od, .ref pp, .ref le, .ref pa, .int 0])), (ou, .inl (cL, 1, .inr (.inl go8)))] sz) := by
  refine va_MetW (cc := cL_shareBits) (maxL := 3) (ret := (some .int)) (by decide) rfl ?_
  intro P0 E0 s m args below meth C9 s₁ B hml hv
  obtain ⟨rfl, ⟨hsz, hP, hK, hD0⟩, ⟨hU, hN⟩, hKB⟩ := hv
  have hx := B.exec
  have hb := B.bytes
  have hr := B.returns
  have hts := atoms_spec (ws := wsL_shareBits) B.pre
  have hown : s.vm.findClass RL = some m.cls := findClass_of_methodNamed B.named
  have hlocks := B.notSynchronized
  subst hsz
  have hD := hD0.self (sz := s.heap.size)
  generalize hAe : va_A [(x, .inr (11, [.ref st, .ref lv, .ref nm, .ref lb, .ref lk, .int 0])), (st, .inr (8, [.ref od, .ref pp, .ref le, .ref pa, .int 0])), (ou, .inl (cL, 1, .inr (.inl go8)))] s.heap.size = A at hD hU hN ⊢
  have hA : ∀ q : Nat, s.heap.size ≤ q → A q := fun q h => by rw [← hAe]; exact Or.inr h
  have hS : va_S A s.heap s.heap [] := va_S.rf
  have hl := lv_entry ([.ref x, .ref ou]) (n := 3) (Nat.le_of_ble_eq_true rfl)
  rw [lg_entry_eq]
  generalize (lg_sl ([.ref x, .ref ou]) ++ List.replicate (3 - (lg_sl ([.ref x, .ref ou])).length) Slot.unset).toArray = ls at hl ⊢
  have hl : lv_has ls 3 [(0, .ref x), (1, .ref ou)] := hl
  refine lv_aload_n hx hb dL_shareBits_0 rfl (lv_at hl 1 rfl) ?_
  refine lv_iconst (v := 0) hx hb dL_shareBits_1 (by decide) ?_
  refine lv_aload_n hx hb dL_shareBits_2 rfl (lv_at hl 0 rfl) ?_
  refine zc_x (wc := [(x, .inr (11, [.ref st, .ref lv, .ref nm, .ref lb, .ref lk, .int 0])), (st, .inr (8, [.ref od, .ref pp, .ref le, .ref pa, .int 0]))]) (wr := [(ou, .inl (cL, 1, .inr (.inl go8)))]) (fun st v t h => by obtain ⟨h1, -⟩ := h; obtain ⟨r, u, -, h2, -⟩ := h1; exact h2) (vx_runV (As := []) (rest := [.int 0, .ref ou]) ⟨hx, hb, hml, hown, hts⟩ (x_shareBits l D cI x st lv nm lb lk od pp le pa s.heap.size hst) (cwV 0 hts gL_shareBits_X8_shareBits rfl rfl rfl (by decide +kernel) ⟨Nat.le_of_ble_eq_true rfl, Nat.le_of_ble_eq_true rfl⟩) (zPVX ⟨hU, hN⟩ hKB hS hA hK hP hD [0, 1] rfl rfl [0] rfl 0 rfl rfl rfl) rfl rfl hl.1 rfl (lv_room (Nat.le_of_ble_eq_true rfl)) dL_shareBits_3 ⟨Nat.le_of_ble_eq_true rfl, Nat.le_of_ble_eq_true rfl⟩) hP hD hS hA [0, 1] [2] rfl rfl rfl (by decide) (fun ce q9 H locs hP hD hS hce hcv hcl => ?_)
  have htab := vx_table (x := objectInit) B (hts (.codeWith yL_shareBits cL_shareBits 3 (some .int) [(0, 8, 11, 120)]) (List.mem_of_getElem? (i := 0) rfl))
  refine vx_catch (own := RL) (name := "java/lang/ArithmeticException") hown [] ⟨0, 8, 11, 120⟩ [] (htab.trans rfl) (fun z h => absurd h List.not_mem_nil) rfl (by decide) (hts (.classLink RL 120 "java/lang/ArithmeticException") (List.mem_of_getElem? (i := 1) rfl)) (zW_use zKB_tab hKB.1 (.castable "java/lang/ArithmeticException" "java/lang/ArithmeticException") (List.mem_of_getElem? (i := 8) rfl)) hce hcv hcl ?_
  refine lv_astore_n (lv' := [(2, .ref q9), (0, .ref x), (1, .ref ou)]) hx hb dL_shareBits_11 rfl hl (by decide) rfl (fun ls hl => ?_)
  refine lv_iconst (v := 1) hx hb dL_shareBits_12 (by decide) ?_
  obtain ⟨hP9, hD9⟩ := z_get hP hD [] (wc := []) rfl rfl
  exact W.iret (v := 1) hx hb hr (fun t ht hW => ⟨⟨1, (), rfl, rfl, by rw [ht]; exact hP9, hD9⟩, hS.F ht⟩) hS.2.2 dL_shareBits_13

set_option maxHeartbeats 4000000 in
set_option maxRecDepth 100000 in
/-- law: insert -/
theorem w_insertF (l : Launch) (D : va_G) (cI cL : ClassId) (x st lv nm lb lk od pp le pa ou : Nat) (p q : Int32) (go8 : Nat → Int64) (sz : Nat) (hst : l.stackTraces = false) (hp : ¬ zIn p q) : Met l yL_insert wsL_insert ({ frames := 7, cells := 1, slots := 6, locals := 112 }) (va_Pc [.ref x, .int p, .int q, .ref ou] (zPreX D [(cI, .int), (cL, .long)] [(x, .inr (11, [.ref st, .ref lv, .ref nm, .ref lb, .ref lk, .int 0])), (st, .inr (8, [.ref od, .ref pp, .ref le, .ref pa, .int 0])), (ou, .inl (cL, 1, .inr (.inl go8)))] sz)) (va_Qi (fun rv (_ : Unit) => rv = 1) (fun (_ : Unit) => zB D [] (va_A [(x, .inr (11, [.ref st, .ref lv, .ref nm, .ref lb, .ref lk, .int 0])), (st, .inr (8, [.ref od, .ref pp, .ref le, .ref pa, .int 0])), (ou, .inl (cL, 1, .inr (.inl go8)))] sz)) (va_A [(x, .inr (11, [.ref st, .ref lv, .ref nm, .ref lb, .ref lk, .int 0])), (st, .inr (8, [.ref od, .ref pp, .ref le, .ref pa, .int 0])), (ou, .inl (cL, 1, .inr (.inl go8)))] sz)) 1 6 (va_A [(x, .inr (11, [.ref st, .ref lv, .ref nm, .ref lb, .ref lk, .int 0])), (st, .inr (8, [.ref od, .ref pp, .ref le, .ref pa, .int 0])), (ou, .inl (cL, 1, .inr (.inl go8)))] sz) := by
  refine va_MetW (cc := cL_insert) (maxL := 5) (ret := (some .int)) (by decide) rfl ?_
  intro P0 E0 s m args below meth C9 s₁ B hml hv
  obtain ⟨rfl, ⟨hsz, hP, hK, hD0⟩, ⟨hU, hN⟩, hKB⟩ := hv
  have hx := B.exec
  have hb := B.bytes
  have hr := B.returns
  have hts := atoms_spec (ws := wsL_insert) B.pre
  have hown : s.vm.findClass RL = some m.cls := findClass_of_methodNamed B.named
  have hlocks := B.notSynchronized
  subst hsz
  have hD := hD0.self (sz := s.heap.size)
  generalize hAe : va_A [(x, .inr (11, [.ref st, .ref lv, .ref nm, .ref lb, .ref lk, .int 0])), (st, .inr (8, [.ref od, .ref pp, .ref le, .ref pa, .int 0])), (ou, .inl (cL, 1, .inr (.inl go8)))] s.heap.size = A at hD hU hN ⊢
  have hA : ∀ q : Nat, s.heap.size ≤ q → A q := fun q h => by rw [← hAe]; exact Or.inr h
  have hS : va_S A s.heap s.heap [] := va_S.rf
  have hl := lv_entry ([.ref x, .int p, .int q, .ref ou]) (n := 5) (Nat.le_of_ble_eq_true rfl)
  rw [lg_entry_eq]
  generalize (lg_sl ([.ref x, .int p, .int q, .ref ou]) ++ List.replicate (5 - (lg_sl ([.ref x, .int p, .int q, .ref ou])).length) Slot.unset).toArray = ls at hl ⊢
  have hl : lv_has ls 5 [(0, .ref x), (1, .int p), (2, .int q), (3, .ref ou)] := hl
  refine lv_aload_n hx hb dL_insert_0 rfl (lv_at hl 3 rfl) ?_
  refine lv_iconst (v := 0) hx hb dL_insert_1 (by decide) ?_
  refine lv_aload_n hx hb dL_insert_2 rfl (lv_at hl 0 rfl) ?_
  refine lv_iload_n hx hb dL_insert_3 rfl (lv_at hl 1 rfl) ?_
  refine lv_iload_n hx hb dL_insert_4 rfl (lv_at hl 2 rfl) ?_
  refine zc_x (wc := [(x, .inr (11, [.ref st, .ref lv, .ref nm, .ref lb, .ref lk, .int 0])), (st, .inr (8, [.ref od, .ref pp, .ref le, .ref pa, .int 0]))]) (wr := [(ou, .inl (cL, 1, .inr (.inl go8)))]) (fun st v t h => by obtain ⟨h1, -⟩ := h; obtain ⟨r, u, -, h2, -⟩ := h1; exact h2) (vx_runV (As := [.int p, .int q]) (rest := [.int 0, .ref ou]) ⟨hx, hb, hml, hown, hts⟩ (x_insert l D cI x st lv nm lb lk od pp le pa p q s.heap.size hst hp) (cwV 2 hts gL_insert_X8_insert rfl rfl rfl (by decide +kernel) ⟨Nat.le_of_ble_eq_true rfl, Nat.le_of_ble_eq_true rfl⟩) (zPVX ⟨hU, hN⟩ hKB hS hA hK hP hD [0, 1] rfl rfl [0] rfl 0 rfl rfl rfl) rfl rfl hl.1 rfl (lv_room (Nat.le_of_ble_eq_true rfl)) dL_insert_5 ⟨Nat.le_of_ble_eq_true rfl, Nat.le_of_ble_eq_true rfl⟩) hP hD hS hA [0, 1] [2] rfl rfl rfl (by decide) (fun ce q9 H locs hP hD hS hce hcv hcl => ?_)
  have htab := vx_table (x := objectInit) B (hts (.codeWith yL_insert cL_insert 5 (some .int) [(0, 10, 13, 13), (0, 10, 17, 15), (0, 10, 21, 17)]) (List.mem_of_getElem? (i := 0) rfl))
  refine vx_catch (own := RL) (name := "java/lang/IllegalArgumentException") hown [] ⟨0, 10, 13, 13⟩ [⟨0, 10, 17, 15⟩, ⟨0, 10, 21, 17⟩] (htab.trans rfl) (fun z h => absurd h List.not_mem_nil) rfl (by decide) (hts (.classLink RL 13 "java/lang/IllegalArgumentException") (List.mem_of_getElem? (i := 1) rfl)) (zW_use zKB_tab hKB.1 (.castable "java/lang/IllegalArgumentException" "java/lang/IllegalArgumentException") (List.mem_of_getElem? (i := 3) rfl)) hce hcv hcl ?_
  refine lv_astore (lv' := [(4, .ref q9), (0, .ref x), (1, .int p), (2, .int q), (3, .ref ou)]) hx hb dL_insert_13 hl (by decide) rfl (fun ls hl => ?_)
  refine lv_iconst (v := 1) hx hb dL_insert_15 (by decide) ?_
  obtain ⟨hP9, hD9⟩ := z_get hP hD [] (wc := []) rfl rfl
  exact W.iret (v := 1) hx hb hr (fun t ht hW => ⟨⟨1, (), rfl, rfl, by rw [ht]; exact hP9, hD9⟩, hS.F ht⟩) hS.2.2 dL_insert_16

set_option maxHeartbeats 4000000 in
set_option maxRecDepth 100000 in
/-- law: skip -/
theorem w_skipF (l : Launch) (D : va_G) (cI cL : ClassId) (x st lv nm lb lk ou : Nat) (p q : Int32) (go8 : Nat → Int64) (sz : Nat) (hst : l.stackTraces = false) (hp : ¬ zSk p q) : Met l yL_skip wsL_skip ({ frames := 9, cells := 1, slots := 6, locals := 154 }) (va_Pc [.ref x, .int p, .int q, .ref ou] (zPreX D [(cI, .int), (cL, .long)] [(x, .inr (11, [.ref st, .ref lv, .ref nm, .ref lb, .ref lk, .int 0])), (ou, .inl (cL, 1, .inr (.inl go8)))] sz)) (va_Qi (fun rv (_ : Unit) => rv = 1) (fun (_ : Unit) => zB D [] (va_A [(x, .inr (11, [.ref st, .ref lv, .ref nm, .ref lb, .ref lk, .int 0])), (ou, .inl (cL, 1, .inr (.inl go8)))] sz)) (va_A [(x, .inr (11, [.ref st, .ref lv, .ref nm, .ref lb, .ref lk, .int 0])), (ou, .inl (cL, 1, .inr (.inl go8)))] sz)) 1 6 (va_A [(x, .inr (11, [.ref st, .ref lv, .ref nm, .ref lb, .ref lk, .int 0])), (ou, .inl (cL, 1, .inr (.inl go8)))] sz) := by
  refine va_MetW (cc := cL_skip) (maxL := 5) (ret := (some .int)) (by decide) rfl ?_
  intro P0 E0 s m args below meth C9 s₁ B hml hv
  obtain ⟨rfl, ⟨hsz, hP, hK, hD0⟩, ⟨hU, hN⟩, hKB⟩ := hv
  have hx := B.exec
  have hb := B.bytes
  have hr := B.returns
  have hts := atoms_spec (ws := wsL_skip) B.pre
  have hown : s.vm.findClass RL = some m.cls := findClass_of_methodNamed B.named
  have hlocks := B.notSynchronized
  subst hsz
  have hD := hD0.self (sz := s.heap.size)
  generalize hAe : va_A [(x, .inr (11, [.ref st, .ref lv, .ref nm, .ref lb, .ref lk, .int 0])), (ou, .inl (cL, 1, .inr (.inl go8)))] s.heap.size = A at hD hU hN ⊢
  have hA : ∀ q : Nat, s.heap.size ≤ q → A q := fun q h => by rw [← hAe]; exact Or.inr h
  have hS : va_S A s.heap s.heap [] := va_S.rf
  have hl := lv_entry ([.ref x, .int p, .int q, .ref ou]) (n := 5) (Nat.le_of_ble_eq_true rfl)
  rw [lg_entry_eq]
  generalize (lg_sl ([.ref x, .int p, .int q, .ref ou]) ++ List.replicate (5 - (lg_sl ([.ref x, .int p, .int q, .ref ou])).length) Slot.unset).toArray = ls at hl ⊢
  have hl : lv_has ls 5 [(0, .ref x), (1, .int p), (2, .int q), (3, .ref ou)] := hl
  refine lv_aload_n hx hb dL_skip_0 rfl (lv_at hl 3 rfl) ?_
  refine lv_iconst (v := 0) hx hb dL_skip_1 (by decide) ?_
  refine lv_aload_n hx hb dL_skip_2 rfl (lv_at hl 0 rfl) ?_
  refine lv_iload_n hx hb dL_skip_3 rfl (lv_at hl 1 rfl) ?_
  refine lv_iload_n hx hb dL_skip_4 rfl (lv_at hl 2 rfl) ?_
  refine zc_x (wc := [(x, .inr (11, [.ref st, .ref lv, .ref nm, .ref lb, .ref lk, .int 0]))]) (wr := [(ou, .inl (cL, 1, .inr (.inl go8)))]) (fun st v t h => by obtain ⟨h1, -⟩ := h; obtain ⟨r, u, -, h2, -⟩ := h1; exact h2) (vx_runV (As := [.int p, .int q]) (rest := [.int 0, .ref ou]) ⟨hx, hb, hml, hown, hts⟩ (x_skip l D cI x st lv nm lb lk p q s.heap.size hst hp) (cwV 2 hts gL_skip_X8_skip rfl rfl rfl (by decide +kernel) ⟨Nat.le_of_ble_eq_true rfl, Nat.le_of_ble_eq_true rfl⟩) (zPVX ⟨hU, hN⟩ hKB hS hA hK hP hD [0] rfl rfl [0] rfl 0 rfl rfl rfl) rfl rfl hl.1 rfl (lv_room (Nat.le_of_ble_eq_true rfl)) dL_skip_5 ⟨Nat.le_of_ble_eq_true rfl, Nat.le_of_ble_eq_true rfl⟩) hP hD hS hA [0] [1] rfl rfl rfl (by decide) (fun ce q9 H locs hP hD hS hce hcv hcl => ?_)
  have htab := vx_table (x := objectInit) B (hts (.codeWith yL_skip cL_skip 5 (some .int) [(0, 10, 13, 13), (0, 10, 17, 15)]) (List.mem_of_getElem? (i := 0) rfl))
  refine vx_catch (own := RL) (name := "java/lang/IllegalArgumentException") hown [] ⟨0, 10, 13, 13⟩ [⟨0, 10, 17, 15⟩] (htab.trans rfl) (fun z h => absurd h List.not_mem_nil) rfl (by decide) (hts (.classLink RL 13 "java/lang/IllegalArgumentException") (List.mem_of_getElem? (i := 1) rfl)) (zW_use zKB_tab hKB.1 (.castable "java/lang/IllegalArgumentException" "java/lang/IllegalArgumentException") (List.mem_of_getElem? (i := 3) rfl)) hce hcv hcl ?_
  refine lv_astore (lv' := [(4, .ref q9), (0, .ref x), (1, .int p), (2, .int q), (3, .ref ou)]) hx hb dL_skip_13 hl (by decide) rfl (fun ls hl => ?_)
  refine lv_iconst (v := 1) hx hb dL_skip_15 (by decide) ?_
  obtain ⟨hP9, hD9⟩ := z_get hP hD [] (wc := []) rfl rfl
  exact W.iret (v := 1) hx hb hr (fun t ht hW => ⟨⟨1, (), rfl, rfl, by rw [ht]; exact hP9, hD9⟩, hS.F ht⟩) hS.2.2 dL_skip_16

set_option maxHeartbeats 4000000 in
set_option maxRecDepth 100000 in
/-- law: unskip -/
theorem w_unskipF (l : Launch) (D : va_G) (cI cL : ClassId) (x st lv nm lb lk ou : Nat) (p q : Int32) (go8 : Nat → Int64) (sz : Nat) (hst : l.stackTraces = false) (hp : ¬ zSk p q) : Met l yL_unskip wsL_unskip ({ frames := 9, cells := 1, slots := 6, locals := 154 }) (va_Pc [.ref x, .int p, .int q, .ref ou] (zPreX D [(cI, .int), (cL, .long)] [(x, .inr (11, [.ref st, .ref lv, .ref nm, .ref lb, .ref lk, .int 0])), (ou, .inl (cL, 1, .inr (.inl go8)))] sz)) (va_Qi (fun rv (_ : Unit) => rv = 1) (fun (_ : Unit) => zB D [] (va_A [(x, .inr (11, [.ref st, .ref lv, .ref nm, .ref lb, .ref lk, .int 0])), (ou, .inl (cL, 1, .inr (.inl go8)))] sz)) (va_A [(x, .inr (11, [.ref st, .ref lv, .ref nm, .ref lb, .ref lk, .int 0])), (ou, .inl (cL, 1, .inr (.inl go8)))] sz)) 1 6 (va_A [(x, .inr (11, [.ref st, .ref lv, .ref nm, .ref lb, .ref lk, .int 0])), (ou, .inl (cL, 1, .inr (.inl go8)))] sz) := by
  refine va_MetW (cc := cL_unskip) (maxL := 5) (ret := (some .int)) (by decide) rfl ?_
  intro P0 E0 s m args below meth C9 s₁ B hml hv
  obtain ⟨rfl, ⟨hsz, hP, hK, hD0⟩, ⟨hU, hN⟩, hKB⟩ := hv
  have hx := B.exec
  have hb := B.bytes
  have hr := B.returns
  have hts := atoms_spec (ws := wsL_unskip) B.pre
  have hown : s.vm.findClass RL = some m.cls := findClass_of_methodNamed B.named
  have hlocks := B.notSynchronized
  subst hsz
  have hD := hD0.self (sz := s.heap.size)
  generalize hAe : va_A [(x, .inr (11, [.ref st, .ref lv, .ref nm, .ref lb, .ref lk, .int 0])), (ou, .inl (cL, 1, .inr (.inl go8)))] s.heap.size = A at hD hU hN ⊢
  have hA : ∀ q : Nat, s.heap.size ≤ q → A q := fun q h => by rw [← hAe]; exact Or.inr h
  have hS : va_S A s.heap s.heap [] := va_S.rf
  have hl := lv_entry ([.ref x, .int p, .int q, .ref ou]) (n := 5) (Nat.le_of_ble_eq_true rfl)
  rw [lg_entry_eq]
  generalize (lg_sl ([.ref x, .int p, .int q, .ref ou]) ++ List.replicate (5 - (lg_sl ([.ref x, .int p, .int q, .ref ou])).length) Slot.unset).toArray = ls at hl ⊢
  have hl : lv_has ls 5 [(0, .ref x), (1, .int p), (2, .int q), (3, .ref ou)] := hl
  refine lv_aload_n hx hb dL_unskip_0 rfl (lv_at hl 3 rfl) ?_
  refine lv_iconst (v := 0) hx hb dL_unskip_1 (by decide) ?_
  refine lv_aload_n hx hb dL_unskip_2 rfl (lv_at hl 0 rfl) ?_
  refine lv_iload_n hx hb dL_unskip_3 rfl (lv_at hl 1 rfl) ?_
  refine lv_iload_n hx hb dL_unskip_4 rfl (lv_at hl 2 rfl) ?_
  refine zc_x (wc := [(x, .inr (11, [.ref st, .ref lv, .ref nm, .ref lb, .ref lk, .int 0]))]) (wr := [(ou, .inl (cL, 1, .inr (.inl go8)))]) (fun st v t h => by obtain ⟨h1, -⟩ := h; obtain ⟨r, u, -, h2, -⟩ := h1; exact h2) (vx_runV (As := [.int p, .int q]) (rest := [.int 0, .ref ou]) ⟨hx, hb, hml, hown, hts⟩ (x_unskip l D cI x st lv nm lb lk p q s.heap.size hst hp) (cwV 2 hts gL_unskip_X8_unskip rfl rfl rfl (by decide +kernel) ⟨Nat.le_of_ble_eq_true rfl, Nat.le_of_ble_eq_true rfl⟩) (zPVX ⟨hU, hN⟩ hKB hS hA hK hP hD [0] rfl rfl [0] rfl 0 rfl rfl rfl) rfl rfl hl.1 rfl (lv_room (Nat.le_of_ble_eq_true rfl)) dL_unskip_5 ⟨Nat.le_of_ble_eq_true rfl, Nat.le_of_ble_eq_true rfl⟩) hP hD hS hA [0] [1] rfl rfl rfl (by decide) (fun ce q9 H locs hP hD hS hce hcv hcl => ?_)
  have htab := vx_table (x := objectInit) B (hts (.codeWith yL_unskip cL_unskip 5 (some .int) [(0, 10, 13, 13), (0, 10, 17, 15)]) (List.mem_of_getElem? (i := 0) rfl))
  refine vx_catch (own := RL) (name := "java/lang/IllegalArgumentException") hown [] ⟨0, 10, 13, 13⟩ [⟨0, 10, 17, 15⟩] (htab.trans rfl) (fun z h => absurd h List.not_mem_nil) rfl (by decide) (hts (.classLink RL 13 "java/lang/IllegalArgumentException") (List.mem_of_getElem? (i := 1) rfl)) (zW_use zKB_tab hKB.1 (.castable "java/lang/IllegalArgumentException" "java/lang/IllegalArgumentException") (List.mem_of_getElem? (i := 3) rfl)) hce hcv hcl ?_
  refine lv_astore (lv' := [(4, .ref q9), (0, .ref x), (1, .int p), (2, .int q), (3, .ref ou)]) hx hb dL_unskip_13 hl (by decide) rfl (fun ls hl => ?_)
  refine lv_iconst (v := 1) hx hb dL_unskip_15 (by decide) ?_
  obtain ⟨hP9, hD9⟩ := z_get hP hD [] (wc := []) rfl rfl
  exact W.iret (v := 1) hx hb hr (fun t ht hW => ⟨⟨1, (), rfl, rfl, by rw [ht]; exact hP9, hD9⟩, hS.F ht⟩) hS.2.2 dL_unskip_16

set_option maxHeartbeats 4000000 in
set_option maxRecDepth 100000 in
/-- law: unskip -/
theorem w_unskip2 (l : Launch) (D : va_G) (cI cL : ClassId) (x st lv nm lb lk fm go sk sa skA ou : Nat) (p q : Int32) (go8 : Nat → Int64) (sz : Nat) (hst : l.stackTraces = false) (hp : zSk p q) : Met l yL_unskip wsL_unskip ({ frames := 7, cells := 1, slots := 6, locals := 111 }) (va_Pc [.ref x, .int p, .int q, .ref ou] (zPreX D [(cI, .int), (cL, .long)] [(x, .inr (11, [.ref st, .ref lv, .ref nm, .ref lb, .ref lk, .int 0])), (lv, .inr (4, [.ref fm, .ref go, .ref sk, .ref sa])), (sk, .inr (7, [.ref skA])), (skA, .inl (cI, 500, .inl (fun _ => 0))), (ou, .inl (cL, 1, .inr (.inl go8)))] sz)) (va_Qi (fun rv (_ : Unit) => rv = 2) (fun (_ : Unit) => zB D [] (va_A [(x, .inr (11, [.ref st, .ref lv, .ref nm, .ref lb, .ref lk, .int 0])), (lv, .inr (4, [.ref fm, .ref go, .ref sk, .ref sa])), (sk, .inr (7, [.ref skA])), (skA, .inl (cI, 500, .inl (fun _ => 0))), (ou, .inl (cL, 1, .inr (.inl go8)))] sz)) (va_A [(x, .inr (11, [.ref st, .ref lv, .ref nm, .ref lb, .ref lk, .int 0])), (lv, .inr (4, [.ref fm, .ref go, .ref sk, .ref sa])), (sk, .inr (7, [.ref skA])), (skA, .inl (cI, 500, .inl (fun _ => 0))), (ou, .inl (cL, 1, .inr (.inl go8)))] sz)) 1 6 (va_A [(x, .inr (11, [.ref st, .ref lv, .ref nm, .ref lb, .ref lk, .int 0])), (lv, .inr (4, [.ref fm, .ref go, .ref sk, .ref sa])), (sk, .inr (7, [.ref skA])), (skA, .inl (cI, 500, .inl (fun _ => 0))), (ou, .inl (cL, 1, .inr (.inl go8)))] sz) := by
  refine va_MetW (cc := cL_unskip) (maxL := 5) (ret := (some .int)) (by decide) rfl ?_
  intro P0 E0 s m args below meth C9 s₁ B hml hv
  obtain ⟨rfl, ⟨hsz, hP, hK, hD0⟩, ⟨hU, hN⟩, hKB⟩ := hv
  have hx := B.exec
  have hb := B.bytes
  have hr := B.returns
  have hts := atoms_spec (ws := wsL_unskip) B.pre
  have hown : s.vm.findClass RL = some m.cls := findClass_of_methodNamed B.named
  have hlocks := B.notSynchronized
  subst hsz
  have hD := hD0.self (sz := s.heap.size)
  generalize hAe : va_A [(x, .inr (11, [.ref st, .ref lv, .ref nm, .ref lb, .ref lk, .int 0])), (lv, .inr (4, [.ref fm, .ref go, .ref sk, .ref sa])), (sk, .inr (7, [.ref skA])), (skA, .inl (cI, 500, .inl (fun _ => 0))), (ou, .inl (cL, 1, .inr (.inl go8)))] s.heap.size = A at hD hU hN ⊢
  have hA : ∀ q : Nat, s.heap.size ≤ q → A q := fun q h => by rw [← hAe]; exact Or.inr h
  have hS : va_S A s.heap s.heap [] := va_S.rf
  have hl := lv_entry ([.ref x, .int p, .int q, .ref ou]) (n := 5) (Nat.le_of_ble_eq_true rfl)
  rw [lg_entry_eq]
  generalize (lg_sl ([.ref x, .int p, .int q, .ref ou]) ++ List.replicate (5 - (lg_sl ([.ref x, .int p, .int q, .ref ou])).length) Slot.unset).toArray = ls at hl ⊢
  have hl : lv_has ls 5 [(0, .ref x), (1, .int p), (2, .int q), (3, .ref ou)] := hl
  refine lv_aload_n hx hb dL_unskip_0 rfl (lv_at hl 3 rfl) ?_
  refine lv_iconst (v := 0) hx hb dL_unskip_1 (by decide) ?_
  refine lv_aload_n hx hb dL_unskip_2 rfl (lv_at hl 0 rfl) ?_
  refine lv_iload_n hx hb dL_unskip_3 rfl (lv_at hl 1 rfl) ?_
  refine lv_iload_n hx hb dL_unskip_4 rfl (lv_at hl 2 rfl) ?_
  refine zc_x (wc := [(x, .inr (11, [.ref st, .ref lv, .ref nm, .ref lb, .ref lk, .int 0])), (lv, .inr (4, [.ref fm, .ref go, .ref sk, .ref sa])), (sk, .inr (7, [.ref skA])), (skA, .inl (cI, 500, .inl (fun _ => 0)))]) (wr := [(ou, .inl (cL, 1, .inr (.inl go8)))]) (fun st v t h => by obtain ⟨h1, -⟩ := h; obtain ⟨r, u, -, h2, -⟩ := h1; exact h2) (vx_runV (As := [.int p, .int q]) (rest := [.int 0, .ref ou]) ⟨hx, hb, hml, hown, hts⟩ (x_unskip2 l D cI x st lv nm lb lk fm go sk sa skA p q s.heap.size hst hp) (cwV 2 hts gL_unskip_X8_unskip rfl rfl rfl (by decide +kernel) ⟨Nat.le_of_ble_eq_true rfl, Nat.le_of_ble_eq_true rfl⟩) (zPVX ⟨hU, hN⟩ hKB hS hA hK hP hD [0, 1, 2, 3] rfl rfl [0] rfl 0 rfl rfl rfl) rfl rfl hl.1 rfl (lv_room (Nat.le_of_ble_eq_true rfl)) dL_unskip_5 ⟨Nat.le_of_ble_eq_true rfl, Nat.le_of_ble_eq_true rfl⟩) hP hD hS hA [0, 1, 2, 3] [4] rfl rfl rfl (by decide) (fun ce q9 H locs hP hD hS hce hcv hcl => ?_)
  have htab := vx_table (x := objectInit) B (hts (.codeWith yL_unskip cL_unskip 5 (some .int) [(0, 10, 13, 13), (0, 10, 17, 15)]) (List.mem_of_getElem? (i := 0) rfl))
  refine vx_catch (own := RL) (name := "java/lang/IllegalStateException") hown [⟨0, 10, 13, 13⟩] ⟨0, 10, 17, 15⟩ [] (htab.trans rfl) (fun z h => by rw [List.mem_singleton.mp h]; exact Or.inr ⟨by decide, "java/lang/IllegalArgumentException", (hts (.classLink RL 13 "java/lang/IllegalArgumentException") (List.mem_of_getElem? (i := 1) rfl)), hKB.2 ("java/lang/IllegalStateException", "java/lang/IllegalArgumentException") (by decide)⟩) rfl (by decide) (hts (.classLink RL 15 "java/lang/IllegalStateException") (List.mem_of_getElem? (i := 2) rfl)) (zW_use zKB_tab hKB.1 (.castable "java/lang/IllegalStateException" "java/lang/IllegalStateException") (List.mem_of_getElem? (i := 4) rfl)) hce hcv hcl ?_
  refine lv_astore (lv' := [(4, .ref q9), (0, .ref x), (1, .int p), (2, .int q), (3, .ref ou)]) hx hb dL_unskip_17 hl (by decide) rfl (fun ls hl => ?_)
  refine lv_iconst (v := 2) hx hb dL_unskip_19 (by decide) ?_
  obtain ⟨hP9, hD9⟩ := z_get hP hD [] (wc := []) rfl rfl
  exact W.iret (v := 2) hx hb hr (fun t ht hW => ⟨⟨2, (), rfl, rfl, by rw [ht]; exact hP9, hD9⟩, hS.F ht⟩) hS.2.2 dL_unskip_20

set_option maxHeartbeats 4000000 in
set_option maxRecDepth 100000 in
/-- law: setFormat -/
theorem w_setFormatF (l : Launch) (D : va_G) (cI cL : ClassId) (x st lv nm lb lk ou : Nat) (p q : Int32) (go8 : Nat → Int64) (sz : Nat) (hst : l.stackTraces = false) (hp : ¬ (zLv p ∧ zFo q)) : Met l yL_setFormat wsL_setFormat ({ frames := 8, cells := 1, slots := 6, locals := 133 }) (va_Pc [.ref x, .int p, .int q, .ref ou] (zPreX D [(cI, .int), (cL, .long)] [(x, .inr (11, [.ref st, .ref lv, .ref nm, .ref lb, .ref lk, .int 0])), (ou, .inl (cL, 1, .inr (.inl go8)))] sz)) (va_Qi (fun rv (_ : Unit) => rv = 1) (fun (_ : Unit) => zB D [] (va_A [(x, .inr (11, [.ref st, .ref lv, .ref nm, .ref lb, .ref lk, .int 0])), (ou, .inl (cL, 1, .inr (.inl go8)))] sz)) (va_A [(x, .inr (11, [.ref st, .ref lv, .ref nm, .ref lb, .ref lk, .int 0])), (ou, .inl (cL, 1, .inr (.inl go8)))] sz)) 1 6 (va_A [(x, .inr (11, [.ref st, .ref lv, .ref nm, .ref lb, .ref lk, .int 0])), (ou, .inl (cL, 1, .inr (.inl go8)))] sz) := by
  refine va_MetW (cc := cL_setFormat) (maxL := 5) (ret := (some .int)) (by decide) rfl ?_
  intro P0 E0 s m args below meth C9 s₁ B hml hv
  obtain ⟨rfl, ⟨hsz, hP, hK, hD0⟩, ⟨hU, hN⟩, hKB⟩ := hv
  have hx := B.exec
  have hb := B.bytes
  have hr := B.returns
  have hts := atoms_spec (ws := wsL_setFormat) B.pre
  have hown : s.vm.findClass RL = some m.cls := findClass_of_methodNamed B.named
  have hlocks := B.notSynchronized
  subst hsz
  have hD := hD0.self (sz := s.heap.size)
  generalize hAe : va_A [(x, .inr (11, [.ref st, .ref lv, .ref nm, .ref lb, .ref lk, .int 0])), (ou, .inl (cL, 1, .inr (.inl go8)))] s.heap.size = A at hD hU hN ⊢
  have hA : ∀ q : Nat, s.heap.size ≤ q → A q := fun q h => by rw [← hAe]; exact Or.inr h
  have hS : va_S A s.heap s.heap [] := va_S.rf
  have hl := lv_entry ([.ref x, .int p, .int q, .ref ou]) (n := 5) (Nat.le_of_ble_eq_true rfl)
  rw [lg_entry_eq]
  generalize (lg_sl ([.ref x, .int p, .int q, .ref ou]) ++ List.replicate (5 - (lg_sl ([.ref x, .int p, .int q, .ref ou])).length) Slot.unset).toArray = ls at hl ⊢
  have hl : lv_has ls 5 [(0, .ref x), (1, .int p), (2, .int q), (3, .ref ou)] := hl
  refine lv_aload_n hx hb dL_setFormat_0 rfl (lv_at hl 3 rfl) ?_
  refine lv_iconst (v := 0) hx hb dL_setFormat_1 (by decide) ?_
  refine lv_aload_n hx hb dL_setFormat_2 rfl (lv_at hl 0 rfl) ?_
  refine lv_iload_n hx hb dL_setFormat_3 rfl (lv_at hl 1 rfl) ?_
  refine lv_iload_n hx hb dL_setFormat_4 rfl (lv_at hl 2 rfl) ?_
  refine zc_x (wc := [(x, .inr (11, [.ref st, .ref lv, .ref nm, .ref lb, .ref lk, .int 0]))]) (wr := [(ou, .inl (cL, 1, .inr (.inl go8)))]) (fun st v t h => by obtain ⟨h1, -⟩ := h; obtain ⟨r, u, -, h2, -⟩ := h1; exact h2) (vx_runV (As := [.int p, .int q]) (rest := [.int 0, .ref ou]) ⟨hx, hb, hml, hown, hts⟩ (x_setFormat l D cI x st lv nm lb lk p q s.heap.size hst hp) (cwV 2 hts gL_setFormat_X8_setFormat rfl rfl rfl (by decide +kernel) ⟨Nat.le_of_ble_eq_true rfl, Nat.le_of_ble_eq_true rfl⟩) (zPVX ⟨hU, hN⟩ hKB hS hA hK hP hD [0] rfl rfl [0] rfl 0 rfl rfl rfl) rfl rfl hl.1 rfl (lv_room (Nat.le_of_ble_eq_true rfl)) dL_setFormat_5 ⟨Nat.le_of_ble_eq_true rfl, Nat.le_of_ble_eq_true rfl⟩) hP hD hS hA [0] [1] rfl rfl rfl (by decide) (fun ce q9 H locs hP hD hS hce hcv hcl => ?_)
  have htab := vx_table (x := objectInit) B (hts (.codeWith yL_setFormat cL_setFormat 5 (some .int) [(0, 10, 13, 13)]) (List.mem_of_getElem? (i := 0) rfl))
  refine vx_catch (own := RL) (name := "java/lang/IllegalArgumentException") hown [] ⟨0, 10, 13, 13⟩ [] (htab.trans rfl) (fun z h => absurd h List.not_mem_nil) rfl (by decide) (hts (.classLink RL 13 "java/lang/IllegalArgumentException") (List.mem_of_getElem? (i := 1) rfl)) (zW_use zKB_tab hKB.1 (.castable "java/lang/IllegalArgumentException" "java/lang/IllegalArgumentException") (List.mem_of_getElem? (i := 3) rfl)) hce hcv hcl ?_
  refine lv_astore (lv' := [(4, .ref q9), (0, .ref x), (1, .int p), (2, .int q), (3, .ref ou)]) hx hb dL_setFormat_13 hl (by decide) rfl (fun ls hl => ?_)
  refine lv_iconst (v := 1) hx hb dL_setFormat_15 (by decide) ?_
  obtain ⟨hP9, hD9⟩ := z_get hP hD [] (wc := []) rfl rfl
  exact W.iret (v := 1) hx hb hr (fun t ht hW => ⟨⟨1, (), rfl, rfl, by rw [ht]; exact hP9, hD9⟩, hS.F ht⟩) hS.2.2 dL_setFormat_16

set_option maxHeartbeats 4000000 in
set_option maxRecDepth 100000 in
/-- law: setGoingOn -/
theorem w_setGoingOnF (l : Launch) (D : va_G) (cI cL : ClassId) (x st lv nm lb lk ou : Nat) (p q : Int32) (go8 : Nat → Int64) (sz : Nat) (hst : l.stackTraces = false) (hp : ¬ zLv p) : Met l yL_setGoingOn wsL_setGoingOn ({ frames := 8, cells := 1, slots := 6, locals := 133 }) (va_Pc [.ref x, .int p, .int q, .ref ou] (zPreX D [(cI, .int), (cL, .long)] [(x, .inr (11, [.ref st, .ref lv, .ref nm, .ref lb, .ref lk, .int 0])), (ou, .inl (cL, 1, .inr (.inl go8)))] sz)) (va_Qi (fun rv (_ : Unit) => rv = 1) (fun (_ : Unit) => zB D [] (va_A [(x, .inr (11, [.ref st, .ref lv, .ref nm, .ref lb, .ref lk, .int 0])), (ou, .inl (cL, 1, .inr (.inl go8)))] sz)) (va_A [(x, .inr (11, [.ref st, .ref lv, .ref nm, .ref lb, .ref lk, .int 0])), (ou, .inl (cL, 1, .inr (.inl go8)))] sz)) 1 6 (va_A [(x, .inr (11, [.ref st, .ref lv, .ref nm, .ref lb, .ref lk, .int 0])), (ou, .inl (cL, 1, .inr (.inl go8)))] sz) := by
  refine va_MetW (cc := cL_setGoingOn) (maxL := 5) (ret := (some .int)) (by decide) rfl ?_
  intro P0 E0 s m args below meth C9 s₁ B hml hv
  obtain ⟨rfl, ⟨hsz, hP, hK, hD0⟩, ⟨hU, hN⟩, hKB⟩ := hv
  have hx := B.exec
  have hb := B.bytes
  have hr := B.returns
  have hts := atoms_spec (ws := wsL_setGoingOn) B.pre
  have hown : s.vm.findClass RL = some m.cls := findClass_of_methodNamed B.named
  have hlocks := B.notSynchronized
  subst hsz
  have hD := hD0.self (sz := s.heap.size)
  generalize hAe : va_A [(x, .inr (11, [.ref st, .ref lv, .ref nm, .ref lb, .ref lk, .int 0])), (ou, .inl (cL, 1, .inr (.inl go8)))] s.heap.size = A at hD hU hN ⊢
  have hA : ∀ q : Nat, s.heap.size ≤ q → A q := fun q h => by rw [← hAe]; exact Or.inr h
  have hS : va_S A s.heap s.heap [] := va_S.rf
  have hl := lv_entry ([.ref x, .int p, .int q, .ref ou]) (n := 5) (Nat.le_of_ble_eq_true rfl)
  rw [lg_entry_eq]
  generalize (lg_sl ([.ref x, .int p, .int q, .ref ou]) ++ List.replicate (5 - (lg_sl ([.ref x, .int p, .int q, .ref ou])).length) Slot.unset).toArray = ls at hl ⊢
  have hl : lv_has ls 5 [(0, .ref x), (1, .int p), (2, .int q), (3, .ref ou)] := hl
  refine lv_aload_n hx hb dL_setGoingOn_0 rfl (lv_at hl 3 rfl) ?_
  refine lv_iconst (v := 0) hx hb dL_setGoingOn_1 (by decide) ?_
  refine lv_aload_n hx hb dL_setGoingOn_2 rfl (lv_at hl 0 rfl) ?_
  refine lv_iload_n hx hb dL_setGoingOn_3 rfl (lv_at hl 1 rfl) ?_
  refine lv_iload_n hx hb dL_setGoingOn_4 rfl (lv_at hl 2 rfl) ?_
  refine zc_x (wc := [(x, .inr (11, [.ref st, .ref lv, .ref nm, .ref lb, .ref lk, .int 0]))]) (wr := [(ou, .inl (cL, 1, .inr (.inl go8)))]) (fun st v t h => by obtain ⟨h1, -⟩ := h; obtain ⟨r, u, -, h2, -⟩ := h1; exact h2) (vx_runV (As := [.int p, .int q]) (rest := [.int 0, .ref ou]) ⟨hx, hb, hml, hown, hts⟩ (x_setGoingOn l D cI x st lv nm lb lk p q s.heap.size hst hp) (cwV 2 hts gL_setGoingOn_X8_setGoingOn rfl rfl rfl (by decide +kernel) ⟨Nat.le_of_ble_eq_true rfl, Nat.le_of_ble_eq_true rfl⟩) (zPVX ⟨hU, hN⟩ hKB hS hA hK hP hD [0] rfl rfl [0] rfl 0 rfl rfl rfl) rfl rfl hl.1 rfl (lv_room (Nat.le_of_ble_eq_true rfl)) dL_setGoingOn_5 ⟨Nat.le_of_ble_eq_true rfl, Nat.le_of_ble_eq_true rfl⟩) hP hD hS hA [0] [1] rfl rfl rfl (by decide) (fun ce q9 H locs hP hD hS hce hcv hcl => ?_)
  have htab := vx_table (x := objectInit) B (hts (.codeWith yL_setGoingOn cL_setGoingOn 5 (some .int) [(0, 17, 20, 13), (0, 17, 24, 17)]) (List.mem_of_getElem? (i := 0) rfl))
  refine vx_catch (own := RL) (name := "java/lang/IllegalArgumentException") hown [] ⟨0, 17, 20, 13⟩ [⟨0, 17, 24, 17⟩] (htab.trans rfl) (fun z h => absurd h List.not_mem_nil) rfl (by decide) (hts (.classLink RL 13 "java/lang/IllegalArgumentException") (List.mem_of_getElem? (i := 1) rfl)) (zW_use zKB_tab hKB.1 (.castable "java/lang/IllegalArgumentException" "java/lang/IllegalArgumentException") (List.mem_of_getElem? (i := 3) rfl)) hce hcv hcl ?_
  refine lv_astore (lv' := [(4, .ref q9), (0, .ref x), (1, .int p), (2, .int q), (3, .ref ou)]) hx hb dL_setGoingOn_20 hl (by decide) rfl (fun ls hl => ?_)
  refine lv_iconst (v := 1) hx hb dL_setGoingOn_22 (by decide) ?_
  obtain ⟨hP9, hD9⟩ := z_get hP hD [] (wc := []) rfl rfl
  exact W.iret (v := 1) hx hb hr (fun t ht hW => ⟨⟨1, (), rfl, rfl, by rw [ht]; exact hP9, hD9⟩, hS.F ht⟩) hS.2.2 dL_setGoingOn_23

set_option maxHeartbeats 4000000 in
set_option maxRecDepth 100000 in
/-- law: count -/
theorem w_countF (l : Launch) (D : va_G) (cI cL : ClassId) (x st lv nm lb lk ou : Nat) (p : Int32) (go8 : Nat → Int64) (sz : Nat) (hst : l.stackTraces = false) (hp : ¬ zKi p) : Met l yL_count wsL_count ({ frames := 7, cells := 1, slots := 6, locals := 110 }) (va_Pc [.ref x, .int p, .ref ou] (zPreX D [(cI, .int), (cL, .long)] [(x, .inr (11, [.ref st, .ref lv, .ref nm, .ref lb, .ref lk, .int 0])), (ou, .inl (cL, 1, .inr (.inl go8)))] sz)) (va_Qi (fun rv (_ : Unit) => rv = 1) (fun (_ : Unit) => zB D [] (va_A [(x, .inr (11, [.ref st, .ref lv, .ref nm, .ref lb, .ref lk, .int 0])), (ou, .inl (cL, 1, .inr (.inl go8)))] sz)) (va_A [(x, .inr (11, [.ref st, .ref lv, .ref nm, .ref lb, .ref lk, .int 0])), (ou, .inl (cL, 1, .inr (.inl go8)))] sz)) 1 6 (va_A [(x, .inr (11, [.ref st, .ref lv, .ref nm, .ref lb, .ref lk, .int 0])), (ou, .inl (cL, 1, .inr (.inl go8)))] sz) := by
  refine va_MetW (cc := cL_count) (maxL := 4) (ret := (some .int)) (by decide) rfl ?_
  intro P0 E0 s m args below meth C9 s₁ B hml hv
  obtain ⟨rfl, ⟨hsz, hP, hK, hD0⟩, ⟨hU, hN⟩, hKB⟩ := hv
  have hx := B.exec
  have hb := B.bytes
  have hr := B.returns
  have hts := atoms_spec (ws := wsL_count) B.pre
  have hown : s.vm.findClass RL = some m.cls := findClass_of_methodNamed B.named
  have hlocks := B.notSynchronized
  subst hsz
  have hD := hD0.self (sz := s.heap.size)
  generalize hAe : va_A [(x, .inr (11, [.ref st, .ref lv, .ref nm, .ref lb, .ref lk, .int 0])), (ou, .inl (cL, 1, .inr (.inl go8)))] s.heap.size = A at hD hU hN ⊢
  have hA : ∀ q : Nat, s.heap.size ≤ q → A q := fun q h => by rw [← hAe]; exact Or.inr h
  have hS : va_S A s.heap s.heap [] := va_S.rf
  have hl := lv_entry ([.ref x, .int p, .ref ou]) (n := 4) (Nat.le_of_ble_eq_true rfl)
  rw [lg_entry_eq]
  generalize (lg_sl ([.ref x, .int p, .ref ou]) ++ List.replicate (4 - (lg_sl ([.ref x, .int p, .ref ou])).length) Slot.unset).toArray = ls at hl ⊢
  have hl : lv_has ls 4 [(0, .ref x), (1, .int p), (2, .ref ou)] := hl
  refine lv_aload_n hx hb dL_count_0 rfl (lv_at hl 2 rfl) ?_
  refine lv_iconst (v := 0) hx hb dL_count_1 (by decide) ?_
  refine lv_aload_n hx hb dL_count_2 rfl (lv_at hl 0 rfl) ?_
  refine lv_iload_n hx hb dL_count_3 rfl (lv_at hl 1 rfl) ?_
  refine zc_x (wc := [(x, .inr (11, [.ref st, .ref lv, .ref nm, .ref lb, .ref lk, .int 0]))]) (wr := [(ou, .inl (cL, 1, .inr (.inl go8)))]) (fun st v t h => by obtain ⟨h1, -⟩ := h; obtain ⟨r, u, -, h2, -⟩ := h1; exact h2) (vx_runV (As := [.int p]) (rest := [.int 0, .ref ou]) ⟨hx, hb, hml, hown, hts⟩ (x_count l D cI x st lv nm lb lk p s.heap.size hst hp) (cwV 1 hts gL_count_X8_count rfl rfl rfl (by decide +kernel) ⟨Nat.le_of_ble_eq_true rfl, Nat.le_of_ble_eq_true rfl⟩) (zPVX ⟨hU, hN⟩ hKB hS hA hK hP hD [0] rfl rfl [0] rfl 0 rfl rfl rfl) rfl rfl hl.1 rfl (lv_room (Nat.le_of_ble_eq_true rfl)) dL_count_4 ⟨Nat.le_of_ble_eq_true rfl, Nat.le_of_ble_eq_true rfl⟩) hP hD hS hA [0] [1] rfl rfl rfl (by decide) (fun ce q9 H locs hP hD hS hce hcv hcl => ?_)
  have htab := vx_table (x := objectInit) B (hts (.codeWith yL_count cL_count 4 (some .int) [(0, 9, 12, 13)]) (List.mem_of_getElem? (i := 0) rfl))
  refine vx_catch (own := RL) (name := "java/lang/IllegalArgumentException") hown [] ⟨0, 9, 12, 13⟩ [] (htab.trans rfl) (fun z h => absurd h List.not_mem_nil) rfl (by decide) (hts (.classLink RL 13 "java/lang/IllegalArgumentException") (List.mem_of_getElem? (i := 1) rfl)) (zW_use zKB_tab hKB.1 (.castable "java/lang/IllegalArgumentException" "java/lang/IllegalArgumentException") (List.mem_of_getElem? (i := 3) rfl)) hce hcv hcl ?_
  refine lv_astore_n (lv' := [(3, .ref q9), (0, .ref x), (1, .int p), (2, .ref ou)]) hx hb dL_count_12 rfl hl (by decide) rfl (fun ls hl => ?_)
  refine lv_iconst (v := 1) hx hb dL_count_13 (by decide) ?_
  obtain ⟨hP9, hD9⟩ := z_get hP hD [] (wc := []) rfl rfl
  exact W.iret (v := 1) hx hb hr (fun t ht hW => ⟨⟨1, (), rfl, rfl, by rw [ht]; exact hP9, hD9⟩, hS.F ht⟩) hS.2.2 dL_count_14

set_option maxHeartbeats 4000000 in
set_option maxRecDepth 100000 in
/-- law: find -/
theorem w_findF (l : Launch) (D : va_G) (cI cL : ClassId) (x st lv nm lb lk ou : Nat) (p q : Int32) (go8 : Nat → Int64) (sz : Nat) (hst : l.stackTraces = false) (hp : ¬ zLv p) : Met l yL_find wsL_find ({ frames := 8, cells := 1, slots := 6, locals := 134 }) (va_Pc [.ref x, .int p, .int q, .ref ou] (zPreX D [(cI, .int), (cL, .long)] [(x, .inr (11, [.ref st, .ref lv, .ref nm, .ref lb, .ref lk, .int 0])), (ou, .inl (cL, 1, .inr (.inl go8)))] sz)) (va_Qi (fun rv (_ : Unit) => rv = 1) (fun (_ : Unit) => zB D [] (va_A [(x, .inr (11, [.ref st, .ref lv, .ref nm, .ref lb, .ref lk, .int 0])), (ou, .inl (cL, 1, .inr (.inl go8)))] sz)) (va_A [(x, .inr (11, [.ref st, .ref lv, .ref nm, .ref lb, .ref lk, .int 0])), (ou, .inl (cL, 1, .inr (.inl go8)))] sz)) 1 6 (va_A [(x, .inr (11, [.ref st, .ref lv, .ref nm, .ref lb, .ref lk, .int 0])), (ou, .inl (cL, 1, .inr (.inl go8)))] sz) := by
  refine va_MetW (cc := cL_find) (maxL := 5) (ret := (some .int)) (by decide) rfl ?_
  intro P0 E0 s m args below meth C9 s₁ B hml hv
  obtain ⟨rfl, ⟨hsz, hP, hK, hD0⟩, ⟨hU, hN⟩, hKB⟩ := hv
  have hx := B.exec
  have hb := B.bytes
  have hr := B.returns
  have hts := atoms_spec (ws := wsL_find) B.pre
  have hown : s.vm.findClass RL = some m.cls := findClass_of_methodNamed B.named
  have hlocks := B.notSynchronized
  subst hsz
  have hD := hD0.self (sz := s.heap.size)
  generalize hAe : va_A [(x, .inr (11, [.ref st, .ref lv, .ref nm, .ref lb, .ref lk, .int 0])), (ou, .inl (cL, 1, .inr (.inl go8)))] s.heap.size = A at hD hU hN ⊢
  have hA : ∀ q : Nat, s.heap.size ≤ q → A q := fun q h => by rw [← hAe]; exact Or.inr h
  have hS : va_S A s.heap s.heap [] := va_S.rf
  have hl := lv_entry ([.ref x, .int p, .int q, .ref ou]) (n := 5) (Nat.le_of_ble_eq_true rfl)
  rw [lg_entry_eq]
  generalize (lg_sl ([.ref x, .int p, .int q, .ref ou]) ++ List.replicate (5 - (lg_sl ([.ref x, .int p, .int q, .ref ou])).length) Slot.unset).toArray = ls at hl ⊢
  have hl : lv_has ls 5 [(0, .ref x), (1, .int p), (2, .int q), (3, .ref ou)] := hl
  refine lv_aload_n hx hb dL_find_0 rfl (lv_at hl 3 rfl) ?_
  refine lv_iconst (v := 0) hx hb dL_find_1 (by decide) ?_
  refine lv_aload_n hx hb dL_find_2 rfl (lv_at hl 0 rfl) ?_
  refine lv_iload_n hx hb dL_find_3 rfl (lv_at hl 1 rfl) ?_
  refine lv_iload_n hx hb dL_find_4 rfl (lv_at hl 2 rfl) ?_
  refine zc_x (wc := [(x, .inr (11, [.ref st, .ref lv, .ref nm, .ref lb, .ref lk, .int 0]))]) (wr := [(ou, .inl (cL, 1, .inr (.inl go8)))]) (fun st v t h => by obtain ⟨h1, -⟩ := h; obtain ⟨r, u, -, h2, -⟩ := h1; exact h2) (vx_runV (As := [.int p, .int q]) (rest := [.int 0, .ref ou]) ⟨hx, hb, hml, hown, hts⟩ (x_findL l D cI x st lv nm lb lk p q s.heap.size hst hp) (cwV 2 hts gL_find_X8_find rfl rfl rfl (by decide +kernel) ⟨Nat.le_of_ble_eq_true rfl, Nat.le_of_ble_eq_true rfl⟩) (zPVX ⟨hU, hN⟩ hKB hS hA hK hP hD [0] rfl rfl [0] rfl 0 rfl rfl rfl) rfl rfl hl.1 rfl (lv_room (Nat.le_of_ble_eq_true rfl)) dL_find_5 ⟨Nat.le_of_ble_eq_true rfl, Nat.le_of_ble_eq_true rfl⟩) hP hD hS hA [0] [1] rfl rfl rfl (by decide) (fun ce q9 H locs hP hD hS hce hcv hcl => ?_)
  have htab := vx_table (x := objectInit) B (hts (.codeWith yL_find cL_find 5 (some .int) [(0, 10, 13, 13), (0, 10, 17, 22)]) (List.mem_of_getElem? (i := 0) rfl))
  refine vx_catch (own := RL) (name := "java/lang/IllegalArgumentException") hown [] ⟨0, 10, 13, 13⟩ [⟨0, 10, 17, 22⟩] (htab.trans rfl) (fun z h => absurd h List.not_mem_nil) rfl (by decide) (hts (.classLink RL 13 "java/lang/IllegalArgumentException") (List.mem_of_getElem? (i := 1) rfl)) (zW_use zKB_tab hKB.1 (.castable "java/lang/IllegalArgumentException" "java/lang/IllegalArgumentException") (List.mem_of_getElem? (i := 3) rfl)) hce hcv hcl ?_
  refine lv_astore (lv' := [(4, .ref q9), (0, .ref x), (1, .int p), (2, .int q), (3, .ref ou)]) hx hb dL_find_13 hl (by decide) rfl (fun ls hl => ?_)
  refine lv_iconst (v := 1) hx hb dL_find_15 (by decide) ?_
  obtain ⟨hP9, hD9⟩ := z_get hP hD [] (wc := []) rfl rfl
  exact W.iret (v := 1) hx hb hr (fun t ht hW => ⟨⟨1, (), rfl, rfl, by rw [ht]; exact hP9, hD9⟩, hS.F ht⟩) hS.2.2 dL_find_16

set_option maxHeartbeats 4000000 in
set_option maxRecDepth 100000 in
/-- law: find -/
theorem w_findT (l : Launch) (D : va_G) (cI cL : ClassId) (x st lv nm lb lk od pp le pa ou : Nat) (p q : Int32) (go8 : Nat → Int64) (sz : Nat) (hst : l.stackTraces = false) (hp : zLv p) : Met l yL_find wsL_find ({ frames := 7, cells := 1, slots := 6, locals := 113 }) (va_Pc [.ref x, .int p, .int q, .ref ou] (zPreX D [(cI, .int), (cL, .long)] [(x, .inr (11, [.ref st, .ref lv, .ref nm, .ref lb, .ref lk, .int 0])), (st, .inr (8, [.ref od, .ref pp, .ref le, .ref pa, .int 0])), (ou, .inl (cL, 1, .inr (.inl go8)))] sz)) (va_Qi (fun rv (_ : Unit) => rv = 2) (fun (_ : Unit) => zB D [] (va_A [(x, .inr (11, [.ref st, .ref lv, .ref nm, .ref lb, .ref lk, .int 0])), (st, .inr (8, [.ref od, .ref pp, .ref le, .ref pa, .int 0])), (ou, .inl (cL, 1, .inr (.inl go8)))] sz)) (va_A [(x, .inr (11, [.ref st, .ref lv, .ref nm, .ref lb, .ref lk, .int 0])), (st, .inr (8, [.ref od, .ref pp, .ref le, .ref pa, .int 0])), (ou, .inl (cL, 1, .inr (.inl go8)))] sz)) 1 6 (va_A [(x, .inr (11, [.ref st, .ref lv, .ref nm, .ref lb, .ref lk, .int 0])), (st, .inr (8, [.ref od, .ref pp, .ref le, .ref pa, .int 0])), (ou, .inl (cL, 1, .inr (.inl go8)))] sz) := by
  refine va_MetW (cc := cL_find) (maxL := 5) (ret := (some .int)) (by decide) rfl ?_
  intro P0 E0 s m args below meth C9 s₁ B hml hv
  obtain ⟨rfl, ⟨hsz, hP, hK, hD0⟩, ⟨hU, hN⟩, hKB⟩ := hv
  have hx := B.exec
  have hb := B.bytes
  have hr := B.returns
  have hts := atoms_spec (ws := wsL_find) B.pre
  have hown : s.vm.findClass RL = some m.cls := findClass_of_methodNamed B.named
  have hlocks := B.notSynchronized
  subst hsz
  have hD := hD0.self (sz := s.heap.size)
  generalize hAe : va_A [(x, .inr (11, [.ref st, .ref lv, .ref nm, .ref lb, .ref lk, .int 0])), (st, .inr (8, [.ref od, .ref pp, .ref le, .ref pa, .int 0])), (ou, .inl (cL, 1, .inr (.inl go8)))] s.heap.size = A at hD hU hN ⊢
  have hA : ∀ q : Nat, s.heap.size ≤ q → A q := fun q h => by rw [← hAe]; exact Or.inr h
  have hS : va_S A s.heap s.heap [] := va_S.rf
  have hl := lv_entry ([.ref x, .int p, .int q, .ref ou]) (n := 5) (Nat.le_of_ble_eq_true rfl)
  rw [lg_entry_eq]
  generalize (lg_sl ([.ref x, .int p, .int q, .ref ou]) ++ List.replicate (5 - (lg_sl ([.ref x, .int p, .int q, .ref ou])).length) Slot.unset).toArray = ls at hl ⊢
  have hl : lv_has ls 5 [(0, .ref x), (1, .int p), (2, .int q), (3, .ref ou)] := hl
  refine lv_aload_n hx hb dL_find_0 rfl (lv_at hl 3 rfl) ?_
  refine lv_iconst (v := 0) hx hb dL_find_1 (by decide) ?_
  refine lv_aload_n hx hb dL_find_2 rfl (lv_at hl 0 rfl) ?_
  refine lv_iload_n hx hb dL_find_3 rfl (lv_at hl 1 rfl) ?_
  refine lv_iload_n hx hb dL_find_4 rfl (lv_at hl 2 rfl) ?_
  refine zc_x (wc := [(x, .inr (11, [.ref st, .ref lv, .ref nm, .ref lb, .ref lk, .int 0])), (st, .inr (8, [.ref od, .ref pp, .ref le, .ref pa, .int 0]))]) (wr := [(ou, .inl (cL, 1, .inr (.inl go8)))]) (fun st v t h => by obtain ⟨h1, -⟩ := h; obtain ⟨r, u, -, h2, -⟩ := h1; exact h2) (vx_runV (As := [.int p, .int q]) (rest := [.int 0, .ref ou]) ⟨hx, hb, hml, hown, hts⟩ (x_find l D cI x st lv nm lb lk od pp le pa p q s.heap.size hst hp) (cwV 2 hts gL_find_X8_find rfl rfl rfl (by decide +kernel) ⟨Nat.le_of_ble_eq_true rfl, Nat.le_of_ble_eq_true rfl⟩) (zPVX ⟨hU, hN⟩ hKB hS hA hK hP hD [0, 1] rfl rfl [0] rfl 0 rfl rfl rfl) rfl rfl hl.1 rfl (lv_room (Nat.le_of_ble_eq_true rfl)) dL_find_5 ⟨Nat.le_of_ble_eq_true rfl, Nat.le_of_ble_eq_true rfl⟩) hP hD hS hA [0, 1] [2] rfl rfl rfl (by decide) (fun ce q9 H locs hP hD hS hce hcv hcl => ?_)
  have htab := vx_table (x := objectInit) B (hts (.codeWith yL_find cL_find 5 (some .int) [(0, 10, 13, 13), (0, 10, 17, 22)]) (List.mem_of_getElem? (i := 0) rfl))
  refine vx_catch (own := RL) (name := "java/util/NoSuchElementException") hown [⟨0, 10, 13, 13⟩] ⟨0, 10, 17, 22⟩ [] (htab.trans rfl) (fun z h => by rw [List.mem_singleton.mp h]; exact Or.inr ⟨by decide, "java/lang/IllegalArgumentException", (hts (.classLink RL 13 "java/lang/IllegalArgumentException") (List.mem_of_getElem? (i := 1) rfl)), hKB.2 ("java/util/NoSuchElementException", "java/lang/IllegalArgumentException") (by decide)⟩) rfl (by decide) (hts (.classLink RL 22 "java/util/NoSuchElementException") (List.mem_of_getElem? (i := 2) rfl)) (zW_use zKB_tab hKB.1 (.castable "java/util/NoSuchElementException" "java/util/NoSuchElementException") (List.mem_of_getElem? (i := 6) rfl)) hce hcv hcl ?_
  refine lv_astore (lv' := [(4, .ref q9), (0, .ref x), (1, .int p), (2, .int q), (3, .ref ou)]) hx hb dL_find_17 hl (by decide) rfl (fun ls hl => ?_)
  refine lv_iconst (v := 2) hx hb dL_find_19 (by decide) ?_
  obtain ⟨hP9, hD9⟩ := z_get hP hD [] (wc := []) rfl rfl
  exact W.iret (v := 2) hx hb hr (fun t ht hW => ⟨⟨2, (), rfl, rfl, by rw [ht]; exact hP9, hD9⟩, hS.F ht⟩) hS.2.2 dL_find_20

set_option maxHeartbeats 4000000 in
set_option maxRecDepth 100000 in
/-- law: meanNumber -/
theorem w_meanF (l : Launch) (D : va_G) (cD cI : ClassId) (x st lv nm lb lk ou : Nat) (p : Int32) (go8 : Nat → UInt64) (sz : Nat) (hst : l.stackTraces = false) (hp : ¬ zLv p) : Met l yL_meanNumber wsL_meanNumber ({ frames := 8, cells := 1, slots := 6, locals := 132 }) (va_Pc [.ref x, .int p, .ref ou] (zPreX D [(cI, .int), (cD, .double)] [(x, .inr (11, [.ref st, .ref lv, .ref nm, .ref lb, .ref lk, .int 0])), (ou, .inl (cD, 1, .inr (.inr (.inr (.inl go8)))))] sz)) (va_Qi (fun rv (_ : Unit) => rv = 1) (fun (_ : Unit) => zB D [] (va_A [(x, .inr (11, [.ref st, .ref lv, .ref nm, .ref lb, .ref lk, .int 0])), (ou, .inl (cD, 1, .inr (.inr (.inr (.inl go8)))))] sz)) (va_A [(x, .inr (11, [.ref st, .ref lv, .ref nm, .ref lb, .ref lk, .int 0])), (ou, .inl (cD, 1, .inr (.inr (.inr (.inl go8)))))] sz)) 1 6 (va_A [(x, .inr (11, [.ref st, .ref lv, .ref nm, .ref lb, .ref lk, .int 0])), (ou, .inl (cD, 1, .inr (.inr (.inr (.inl go8)))))] sz) := by
  refine va_MetW (cc := cL_meanNumber) (maxL := 4) (ret := (some .int)) (by decide) rfl ?_
  intro P0 E0 s m args below meth C9 s₁ B hml hv
  obtain ⟨rfl, ⟨hsz, hP, hK, hD0⟩, ⟨hU, hN⟩, hKB⟩ := hv
  have hx := B.exec
  have hb := B.bytes
  have hr := B.returns
  have hts := atoms_spec (ws := wsL_meanNumber) B.pre
  have hown : s.vm.findClass RL = some m.cls := findClass_of_methodNamed B.named
  have hlocks := B.notSynchronized
  subst hsz
  have hD := hD0.self (sz := s.heap.size)
  generalize hAe : va_A [(x, .inr (11, [.ref st, .ref lv, .ref nm, .ref lb, .ref lk, .int 0])), (ou, .inl (cD, 1, .inr (.inr (.inr (.inl go8)))))] s.heap.size = A at hD hU hN ⊢
  have hA : ∀ q : Nat, s.heap.size ≤ q → A q := fun q h => by rw [← hAe]; exact Or.inr h
  have hS : va_S A s.heap s.heap [] := va_S.rf
  have hl := lv_entry ([.ref x, .int p, .ref ou]) (n := 4) (Nat.le_of_ble_eq_true rfl)
  rw [lg_entry_eq]
  generalize (lg_sl ([.ref x, .int p, .ref ou]) ++ List.replicate (4 - (lg_sl ([.ref x, .int p, .ref ou])).length) Slot.unset).toArray = ls at hl ⊢
  have hl : lv_has ls 4 [(0, .ref x), (1, .int p), (2, .ref ou)] := hl
  refine lv_aload_n hx hb dL_meanNumber_0 rfl (lv_at hl 2 rfl) ?_
  refine lv_iconst (v := 0) hx hb dL_meanNumber_1 (by decide) ?_
  refine lv_aload_n hx hb dL_meanNumber_2 rfl (lv_at hl 0 rfl) ?_
  refine lv_iload_n hx hb dL_meanNumber_3 rfl (lv_at hl 1 rfl) ?_
  refine zc_x (wc := [(x, .inr (11, [.ref st, .ref lv, .ref nm, .ref lb, .ref lk, .int 0]))]) (wr := [(ou, .inl (cD, 1, .inr (.inr (.inr (.inl go8)))))]) (fun st v t h => by obtain ⟨h1, -⟩ := h; obtain ⟨r, u, -, h2, -⟩ := h1; exact h2) (vx_runV (As := [.int p]) (rest := [.int 0, .ref ou]) ⟨hx, hb, hml, hown, hts⟩ (x_meanNumberL l D cI x st lv nm lb lk p s.heap.size hst hp) (cwV 1 hts gL_meanNumber_X8_meanNumber rfl rfl rfl (by decide +kernel) ⟨Nat.le_of_ble_eq_true rfl, Nat.le_of_ble_eq_true rfl⟩) (zPVX ⟨hU, hN⟩ hKB hS hA hK hP hD [0] rfl rfl [0] rfl 0 rfl rfl rfl) rfl rfl hl.1 rfl (lv_room (Nat.le_of_ble_eq_true rfl)) dL_meanNumber_4 ⟨Nat.le_of_ble_eq_true rfl, Nat.le_of_ble_eq_true rfl⟩) hP hD hS hA [0] [1] rfl rfl rfl (by decide) (fun ce q9 H locs hP hD hS hce hcv hcl => ?_)
  have htab := vx_table (x := objectInit) B (hts (.codeWith yL_meanNumber cL_meanNumber 4 (some .int) [(0, 8, 11, 13), (0, 8, 14, 120)]) (List.mem_of_getElem? (i := 0) rfl))
  refine vx_catch (own := RL) (name := "java/lang/IllegalArgumentException") hown [] ⟨0, 8, 11, 13⟩ [⟨0, 8, 14, 120⟩] (htab.trans rfl) (fun z h => absurd h List.not_mem_nil) rfl (by decide) (hts (.classLink RL 13 "java/lang/IllegalArgumentException") (List.mem_of_getElem? (i := 1) rfl)) (zW_use zKB_tab hKB.1 (.castable "java/lang/IllegalArgumentException" "java/lang/IllegalArgumentException") (List.mem_of_getElem? (i := 3) rfl)) hce hcv hcl ?_
  refine lv_astore_n (lv' := [(3, .ref q9), (0, .ref x), (1, .int p), (2, .ref ou)]) hx hb dL_meanNumber_11 rfl hl (by decide) rfl (fun ls hl => ?_)
  refine lv_iconst (v := 1) hx hb dL_meanNumber_12 (by decide) ?_
  obtain ⟨hP9, hD9⟩ := z_get hP hD [] (wc := []) rfl rfl
  exact W.iret (v := 1) hx hb hr (fun t ht hW => ⟨⟨1, (), rfl, rfl, by rw [ht]; exact hP9, hD9⟩, hS.F ht⟩) hS.2.2 dL_meanNumber_13

set_option maxHeartbeats 4000000 in
set_option maxRecDepth 100000 in
/-- law: meanNumber -/
theorem w_meanT (l : Launch) (D : va_G) (cD cI : ClassId) (x st lv nm lb lk od pp le pa ou : Nat) (p : Int32) (go8 : Nat → UInt64) (sz : Nat) (hst : l.stackTraces = false) (hp : zLv p) : Met l yL_meanNumber wsL_meanNumber ({ frames := 7, cells := 1, slots := 6, locals := 111 }) (va_Pc [.ref x, .int p, .ref ou] (zPreX D [(cI, .int), (cD, .double)] [(x, .inr (11, [.ref st, .ref lv, .ref nm, .ref lb, .ref lk, .int 0])), (st, .inr (8, [.ref od, .ref pp, .ref le, .ref pa, .int 0])), (ou, .inl (cD, 1, .inr (.inr (.inr (.inl go8)))))] sz)) (va_Qi (fun rv (_ : Unit) => rv = 2) (fun (_ : Unit) => zB D [] (va_A [(x, .inr (11, [.ref st, .ref lv, .ref nm, .ref lb, .ref lk, .int 0])), (st, .inr (8, [.ref od, .ref pp, .ref le, .ref pa, .int 0])), (ou, .inl (cD, 1, .inr (.inr (.inr (.inl go8)))))] sz)) (va_A [(x, .inr (11, [.ref st, .ref lv, .ref nm, .ref lb, .ref lk, .int 0])), (st, .inr (8, [.ref od, .ref pp, .ref le, .ref pa, .int 0])), (ou, .inl (cD, 1, .inr (.inr (.inr (.inl go8)))))] sz)) 1 6 (va_A [(x, .inr (11, [.ref st, .ref lv, .ref nm, .ref lb, .ref lk, .int 0])), (st, .inr (8, [.ref od, .ref pp, .ref le, .ref pa, .int 0])), (ou, .inl (cD, 1, .inr (.inr (.inr (.inl go8)))))] sz) := by
  refine va_MetW (cc := cL_meanNumber) (maxL := 4) (ret := (some .int)) (by decide) rfl ?_
  intro P0 E0 s m args below meth C9 s₁ B hml hv
  obtain ⟨rfl, ⟨hsz, hP, hK, hD0⟩, ⟨hU, hN⟩, hKB⟩ := hv
  have hx := B.exec
  have hb := B.bytes
  have hr := B.returns
  have hts := atoms_spec (ws := wsL_meanNumber) B.pre
  have hown : s.vm.findClass RL = some m.cls := findClass_of_methodNamed B.named
  have hlocks := B.notSynchronized
  subst hsz
  have hD := hD0.self (sz := s.heap.size)
  generalize hAe : va_A [(x, .inr (11, [.ref st, .ref lv, .ref nm, .ref lb, .ref lk, .int 0])), (st, .inr (8, [.ref od, .ref pp, .ref le, .ref pa, .int 0])), (ou, .inl (cD, 1, .inr (.inr (.inr (.inl go8)))))] s.heap.size = A at hD hU hN ⊢
  have hA : ∀ q : Nat, s.heap.size ≤ q → A q := fun q h => by rw [← hAe]; exact Or.inr h
  have hS : va_S A s.heap s.heap [] := va_S.rf
  have hl := lv_entry ([.ref x, .int p, .ref ou]) (n := 4) (Nat.le_of_ble_eq_true rfl)
  rw [lg_entry_eq]
  generalize (lg_sl ([.ref x, .int p, .ref ou]) ++ List.replicate (4 - (lg_sl ([.ref x, .int p, .ref ou])).length) Slot.unset).toArray = ls at hl ⊢
  have hl : lv_has ls 4 [(0, .ref x), (1, .int p), (2, .ref ou)] := hl
  refine lv_aload_n hx hb dL_meanNumber_0 rfl (lv_at hl 2 rfl) ?_
  refine lv_iconst (v := 0) hx hb dL_meanNumber_1 (by decide) ?_
  refine lv_aload_n hx hb dL_meanNumber_2 rfl (lv_at hl 0 rfl) ?_
  refine lv_iload_n hx hb dL_meanNumber_3 rfl (lv_at hl 1 rfl) ?_
  refine zc_x (wc := [(x, .inr (11, [.ref st, .ref lv, .ref nm, .ref lb, .ref lk, .int 0])), (st, .inr (8, [.ref od, .ref pp, .ref le, .ref pa, .int 0]))]) (wr := [(ou, .inl (cD, 1, .inr (.inr (.inr (.inl go8)))))]) (fun st v t h => by obtain ⟨h1, -⟩ := h; obtain ⟨r, u, -, h2, -⟩ := h1; exact h2) (vx_runV (As := [.int p]) (rest := [.int 0, .ref ou]) ⟨hx, hb, hml, hown, hts⟩ (x_meanNumber l D cI x st lv nm lb lk od pp le pa p s.heap.size hst hp) (cwV 1 hts gL_meanNumber_X8_meanNumber rfl rfl rfl (by decide +kernel) ⟨Nat.le_of_ble_eq_true rfl, Nat.le_of_ble_eq_true rfl⟩) (zPVX ⟨hU, hN⟩ hKB hS hA hK hP hD [0, 1] rfl rfl [0] rfl 0 rfl rfl rfl) rfl rfl hl.1 rfl (lv_room (Nat.le_of_ble_eq_true rfl)) dL_meanNumber_4 ⟨Nat.le_of_ble_eq_true rfl, Nat.le_of_ble_eq_true rfl⟩) hP hD hS hA [0, 1] [2] rfl rfl rfl (by decide) (fun ce q9 H locs hP hD hS hce hcv hcl => ?_)
  have htab := vx_table (x := objectInit) B (hts (.codeWith yL_meanNumber cL_meanNumber 4 (some .int) [(0, 8, 11, 13), (0, 8, 14, 120)]) (List.mem_of_getElem? (i := 0) rfl))
  refine vx_catch (own := RL) (name := "java/lang/ArithmeticException") hown [⟨0, 8, 11, 13⟩] ⟨0, 8, 14, 120⟩ [] (htab.trans rfl) (fun z h => by rw [List.mem_singleton.mp h]; exact Or.inr ⟨by decide, "java/lang/IllegalArgumentException", (hts (.classLink RL 13 "java/lang/IllegalArgumentException") (List.mem_of_getElem? (i := 1) rfl)), hKB.2 ("java/lang/ArithmeticException", "java/lang/IllegalArgumentException") (by decide)⟩) rfl (by decide) (hts (.classLink RL 120 "java/lang/ArithmeticException") (List.mem_of_getElem? (i := 2) rfl)) (zW_use zKB_tab hKB.1 (.castable "java/lang/ArithmeticException" "java/lang/ArithmeticException") (List.mem_of_getElem? (i := 8) rfl)) hce hcv hcl ?_
  refine lv_astore_n (lv' := [(3, .ref q9), (0, .ref x), (1, .int p), (2, .ref ou)]) hx hb dL_meanNumber_14 rfl hl (by decide) rfl (fun ls hl => ?_)
  refine lv_iconst (v := 2) hx hb dL_meanNumber_15 (by decide) ?_
  obtain ⟨hP9, hD9⟩ := z_get hP hD [] (wc := []) rfl rfl
  exact W.iret (v := 2) hx hb hr (fun t ht hW => ⟨⟨2, (), rfl, rfl, by rw [ht]; exact hP9, hD9⟩, hS.F ht⟩) hS.2.2 dL_meanNumber_16

set_option maxHeartbeats 4000000 in
set_option maxRecDepth 100000 in
/-- law: insert -/
theorem w_insertP (l : Launch) (D : va_G) (cI cL : ClassId) (x st lv nm lb lk us gr nu lt li fx sr rs wk od pp le pa fm go sk sa ug un odA leA paA goA grA fxA rsA srA skA ppA liA ltA nuA ou : Nat) (q : Int32) (go8 : Nat → Int64) (sz : Nat) (hp : zIn 0 q) (hq : q = 0) : Met l yL_insert wsL_insert ({ frames := 6, cells := 0, slots := 0, locals := 131 }) (va_Pc [.ref x, .int 0, .int q, .ref ou] (zPre D [(cI, .int), (cL, .long)] [(x, .inr (11, [.ref st, .ref lv, .ref nm, .ref lb, .ref lk, .int 0])), (nm, .inr (6, [.ref st, .ref lv, .ref us, .ref gr, .ref nu, .ref lt, .ref li, .ref fx, .ref sr, .ref rs, .ref wk, .int 0, .int 0])), (st, .inr (8, [.ref od, .ref pp, .ref le, .ref pa, .int 0])), (lv, .inr (4, [.ref fm, .ref go, .ref sk, .ref sa])), (us, .inr (10, [.ref ug, .ref un, .int 0])), (od, .inr (7, [.ref odA])), (odA, .inl (cI, 60, .inl (fun _ => 0))), (le, .inr (7, [.ref leA])), (leA, .inl (cI, 60, .inl (fun _ => 0))), (pa, .inr (7, [.ref paA])), (paA, .inl (cI, 60, .inl (fun _ => 0))), (go, .inr (7, [.ref goA])), (goA, .inl (cI, 5, .inl (fun _ => 0))), (gr, .inr (7, [.ref grA])), (grA, .inl (cI, 60, .inl (fun _ => 0))), (fx, .inr (7, [.ref fxA])), (fxA, .inl (cI, 60, .inl (fun _ => 0))), (rs, .inr (7, [.ref rsA])), (rsA, .inl (cI, 60, .inl (fun _ => 0))), (sr, .inr (7, [.ref srA])), (srA, .inl (cI, 60, .inl (fun _ => 0))), (sk, .inr (7, [.ref skA])), (skA, .inl (cI, 500, .inl (fun _ => 0))), (pp, .inr (7, [.ref ppA])), (ppA, .inl (cI, 60, .inl (fun _ => 0))), (li, .inr (7, [.ref liA])), (liA, .inl (cI, 60, .inl (fun _ => 0))), (lt, .inr (7, [.ref ltA])), (ltA, .inl (cI, 60, .inl (fun _ => 0))), (nu, .inr (7, [.ref nuA])), (nuA, .inl (cI, 60, .inl (fun _ => 0))), (ou, .inl (cL, 1, .inr (.inl go8)))] sz)) (va_Qi (fun rv (_ : Unit) => rv = 0) (fun (_ : Unit) => zB D [(ou, .inl (cL, 1, .inr (.inl (vp_updL go8 0 0))))] (va_A [(x, .inr (11, [.ref st, .ref lv, .ref nm, .ref lb, .ref lk, .int 0])), (nm, .inr (6, [.ref st, .ref lv, .ref us, .ref gr, .ref nu, .ref lt, .ref li, .ref fx, .ref sr, .ref rs, .ref wk, .int 0, .int 0])), (st, .inr (8, [.ref od, .ref pp, .ref le, .ref pa, .int 0])), (lv, .inr (4, [.ref fm, .ref go, .ref sk, .ref sa])), (us, .inr (10, [.ref ug, .ref un, .int 0])), (od, .inr (7, [.ref odA])), (odA, .inl (cI, 60, .inl (fun _ => 0))), (le, .inr (7, [.ref leA])), (leA, .inl (cI, 60, .inl (fun _ => 0))), (pa, .inr (7, [.ref paA])), (paA, .inl (cI, 60, .inl (fun _ => 0))), (go, .inr (7, [.ref goA])), (goA, .inl (cI, 5, .inl (fun _ => 0))), (gr, .inr (7, [.ref grA])), (grA, .inl (cI, 60, .inl (fun _ => 0))), (fx, .inr (7, [.ref fxA])), (fxA, .inl (cI, 60, .inl (fun _ => 0))), (rs, .inr (7, [.ref rsA])), (rsA, .inl (cI, 60, .inl (fun _ => 0))), (sr, .inr (7, [.ref srA])), (srA, .inl (cI, 60, .inl (fun _ => 0))), (sk, .inr (7, [.ref skA])), (skA, .inl (cI, 500, .inl (fun _ => 0))), (pp, .inr (7, [.ref ppA])), (ppA, .inl (cI, 60, .inl (fun _ => 0))), (li, .inr (7, [.ref liA])), (liA, .inl (cI, 60, .inl (fun _ => 0))), (lt, .inr (7, [.ref ltA])), (ltA, .inl (cI, 60, .inl (fun _ => 0))), (nu, .inr (7, [.ref nuA])), (nuA, .inl (cI, 60, .inl (fun _ => 0))), (ou, .inl (cL, 1, .inr (.inl go8)))] sz)) (va_A [(x, .inr (11, [.ref st, .ref lv, .ref nm, .ref lb, .ref lk, .int 0])), (nm, .inr (6, [.ref st, .ref lv, .ref us, .ref gr, .ref nu, .ref lt, .ref li, .ref fx, .ref sr, .ref rs, .ref wk, .int 0, .int 0])), (st, .inr (8, [.ref od, .ref pp, .ref le, .ref pa, .int 0])), (lv, .inr (4, [.ref fm, .ref go, .ref sk, .ref sa])), (us, .inr (10, [.ref ug, .ref un, .int 0])), (od, .inr (7, [.ref odA])), (odA, .inl (cI, 60, .inl (fun _ => 0))), (le, .inr (7, [.ref leA])), (leA, .inl (cI, 60, .inl (fun _ => 0))), (pa, .inr (7, [.ref paA])), (paA, .inl (cI, 60, .inl (fun _ => 0))), (go, .inr (7, [.ref goA])), (goA, .inl (cI, 5, .inl (fun _ => 0))), (gr, .inr (7, [.ref grA])), (grA, .inl (cI, 60, .inl (fun _ => 0))), (fx, .inr (7, [.ref fxA])), (fxA, .inl (cI, 60, .inl (fun _ => 0))), (rs, .inr (7, [.ref rsA])), (rsA, .inl (cI, 60, .inl (fun _ => 0))), (sr, .inr (7, [.ref srA])), (srA, .inl (cI, 60, .inl (fun _ => 0))), (sk, .inr (7, [.ref skA])), (skA, .inl (cI, 500, .inl (fun _ => 0))), (pp, .inr (7, [.ref ppA])), (ppA, .inl (cI, 60, .inl (fun _ => 0))), (li, .inr (7, [.ref liA])), (liA, .inl (cI, 60, .inl (fun _ => 0))), (lt, .inr (7, [.ref ltA])), (ltA, .inl (cI, 60, .inl (fun _ => 0))), (nu, .inr (7, [.ref nuA])), (nuA, .inl (cI, 60, .inl (fun _ => 0))), (ou, .inl (cL, 1, .inr (.inl go8)))] sz)) 0 0 (va_A [(x, .inr (11, [.ref st, .ref lv, .ref nm, .ref lb, .ref lk, .int 0])), (nm, .inr (6, [.ref st, .ref lv, .ref us, .ref gr, .ref nu, .ref lt, .ref li, .ref fx, .ref sr, .ref rs, .ref wk, .int 0, .int 0])), (st, .inr (8, [.ref od, .ref pp, .ref le, .ref pa, .int 0])), (lv, .inr (4, [.ref fm, .ref go, .ref sk, .ref sa])), (us, .inr (10, [.ref ug, .ref un, .int 0])), (od, .inr (7, [.ref odA])), (odA, .inl (cI, 60, .inl (fun _ => 0))), (le, .inr (7, [.ref leA])), (leA, .inl (cI, 60, .inl (fun _ => 0))), (pa, .inr (7, [.ref paA])), (paA, .inl (cI, 60, .inl (fun _ => 0))), (go, .inr (7, [.ref goA])), (goA, .inl (cI, 5, .inl (fun _ => 0))), (gr, .inr (7, [.ref grA])), (grA, .inl (cI, 60, .inl (fun _ => 0))), (fx, .inr (7, [.ref fxA])), (fxA, .inl (cI, 60, .inl (fun _ => 0))), (rs, .inr (7, [.ref rsA])), (rsA, .inl (cI, 60, .inl (fun _ => 0))), (sr, .inr (7, [.ref srA])), (srA, .inl (cI, 60, .inl (fun _ => 0))), (sk, .inr (7, [.ref skA])), (skA, .inl (cI, 500, .inl (fun _ => 0))), (pp, .inr (7, [.ref ppA])), (ppA, .inl (cI, 60, .inl (fun _ => 0))), (li, .inr (7, [.ref liA])), (liA, .inl (cI, 60, .inl (fun _ => 0))), (lt, .inr (7, [.ref ltA])), (ltA, .inl (cI, 60, .inl (fun _ => 0))), (nu, .inr (7, [.ref nuA])), (nuA, .inl (cI, 60, .inl (fun _ => 0))), (ou, .inl (cL, 1, .inr (.inl go8)))] sz) := by
  refine va_MetW (cc := cL_insert) (maxL := 5) (ret := (some .int)) (by decide) rfl ?_
  intro P0 E0 s m args below meth C9 s₁ B hml hv
  obtain ⟨rfl, hsz, hP, hK, hD0⟩ := hv
  have hx := B.exec
  have hb := B.bytes
  have hr := B.returns
  have hts := atoms_spec (ws := wsL_insert) B.pre
  have hown : s.vm.findClass RL = some m.cls := findClass_of_methodNamed B.named
  have hlocks := B.notSynchronized
  subst hsz
  have hD := hD0.self (sz := s.heap.size)
  generalize hAe : va_A [(x, .inr (11, [.ref st, .ref lv, .ref nm, .ref lb, .ref lk, .int 0])), (nm, .inr (6, [.ref st, .ref lv, .ref us, .ref gr, .ref nu, .ref lt, .ref li, .ref fx, .ref sr, .ref rs, .ref wk, .int 0, .int 0])), (st, .inr (8, [.ref od, .ref pp, .ref le, .ref pa, .int 0])), (lv, .inr (4, [.ref fm, .ref go, .ref sk, .ref sa])), (us, .inr (10, [.ref ug, .ref un, .int 0])), (od, .inr (7, [.ref odA])), (odA, .inl (cI, 60, .inl (fun _ => 0))), (le, .inr (7, [.ref leA])), (leA, .inl (cI, 60, .inl (fun _ => 0))), (pa, .inr (7, [.ref paA])), (paA, .inl (cI, 60, .inl (fun _ => 0))), (go, .inr (7, [.ref goA])), (goA, .inl (cI, 5, .inl (fun _ => 0))), (gr, .inr (7, [.ref grA])), (grA, .inl (cI, 60, .inl (fun _ => 0))), (fx, .inr (7, [.ref fxA])), (fxA, .inl (cI, 60, .inl (fun _ => 0))), (rs, .inr (7, [.ref rsA])), (rsA, .inl (cI, 60, .inl (fun _ => 0))), (sr, .inr (7, [.ref srA])), (srA, .inl (cI, 60, .inl (fun _ => 0))), (sk, .inr (7, [.ref skA])), (skA, .inl (cI, 500, .inl (fun _ => 0))), (pp, .inr (7, [.ref ppA])), (ppA, .inl (cI, 60, .inl (fun _ => 0))), (li, .inr (7, [.ref liA])), (liA, .inl (cI, 60, .inl (fun _ => 0))), (lt, .inr (7, [.ref ltA])), (ltA, .inl (cI, 60, .inl (fun _ => 0))), (nu, .inr (7, [.ref nuA])), (nuA, .inl (cI, 60, .inl (fun _ => 0))), (ou, .inl (cL, 1, .inr (.inl go8)))] s.heap.size = A at hD ⊢
  have hA : ∀ q : Nat, s.heap.size ≤ q → A q := fun q h => by rw [← hAe]; exact Or.inr h
  have hS : va_S A s.heap s.heap [] := va_S.rf
  have hl := lv_entry ([.ref x, .int 0, .int q, .ref ou]) (n := 5) (Nat.le_of_ble_eq_true rfl)
  rw [lg_entry_eq]
  generalize (lg_sl ([.ref x, .int 0, .int q, .ref ou]) ++ List.replicate (5 - (lg_sl ([.ref x, .int 0, .int q, .ref ou])).length) Slot.unset).toArray = ls at hl ⊢
  have hl : lv_has ls 5 [(0, .ref x), (1, .int 0), (2, .int q), (3, .ref ou)] := hl
  refine lv_aload_n hx hb dL_insert_0 rfl (lv_at hl 3 rfl) ?_
  refine lv_iconst (v := 0) hx hb dL_insert_1 (by decide) ?_
  refine lv_aload_n hx hb dL_insert_2 rfl (lv_at hl 0 rfl) ?_
  refine lv_iload_n hx hb dL_insert_3 rfl (lv_at hl 1 rfl) ?_
  refine lv_iload_n hx hb dL_insert_4 rfl (lv_at hl 2 rfl) ?_
  refine zc_i (wc := [(x, .inr (11, [.ref st, .ref lv, .ref nm, .ref lb, .ref lk, .int 0])), (nm, .inr (6, [.ref st, .ref lv, .ref us, .ref gr, .ref nu, .ref lt, .ref li, .ref fx, .ref sr, .ref rs, .ref wk, .int 0, .int 0])), (st, .inr (8, [.ref od, .ref pp, .ref le, .ref pa, .int 0])), (lv, .inr (4, [.ref fm, .ref go, .ref sk, .ref sa])), (us, .inr (10, [.ref ug, .ref un, .int 0])), (od, .inr (7, [.ref odA])), (odA, .inl (cI, 60, .inl (fun _ => 0))), (le, .inr (7, [.ref leA])), (leA, .inl (cI, 60, .inl (fun _ => 0))), (pa, .inr (7, [.ref paA])), (paA, .inl (cI, 60, .inl (fun _ => 0))), (go, .inr (7, [.ref goA])), (goA, .inl (cI, 5, .inl (fun _ => 0))), (gr, .inr (7, [.ref grA])), (grA, .inl (cI, 60, .inl (fun _ => 0))), (fx, .inr (7, [.ref fxA])), (fxA, .inl (cI, 60, .inl (fun _ => 0))), (rs, .inr (7, [.ref rsA])), (rsA, .inl (cI, 60, .inl (fun _ => 0))), (sr, .inr (7, [.ref srA])), (srA, .inl (cI, 60, .inl (fun _ => 0))), (sk, .inr (7, [.ref skA])), (skA, .inl (cI, 500, .inl (fun _ => 0))), (pp, .inr (7, [.ref ppA])), (ppA, .inl (cI, 60, .inl (fun _ => 0))), (li, .inr (7, [.ref liA])), (liA, .inl (cI, 60, .inl (fun _ => 0))), (lt, .inr (7, [.ref ltA])), (ltA, .inl (cI, 60, .inl (fun _ => 0))), (nu, .inr (7, [.ref nuA])), (nuA, .inl (cI, 60, .inl (fun _ => 0)))]) (wr := [(ou, .inl (cL, 1, .inr (.inl go8)))]) (va_runV (As := [.int 0, .int q]) (rest := [.int 0, .ref ou]) ⟨hx, hb, hml, hown, hts⟩ (k_insertP l D cI x st lv nm lb lk us gr nu lt li fx sr rs wk od pp le pa fm go sk sa ug un odA leA paA goA grA fxA rsA srA skA ppA liA ltA nuA q s.heap.size hp hq) (cwV 2 hts gL_insert_X8_insert rfl rfl rfl (by decide +kernel) ⟨Nat.le_of_ble_eq_true rfl, Nat.le_of_ble_eq_true rfl⟩) (zPV hK hP hD [0, 1, 2, 3, 4, 5, 6, 7, 8, 9, 10, 11, 12, 13, 14, 15, 16, 17, 18, 19, 20, 21, 22, 23, 24, 25, 26, 27, 28, 29, 30] rfl rfl [0] rfl 0 rfl rfl rfl) rfl rfl hl.1 rfl (lv_room (Nat.le_of_ble_eq_true rfl)) dL_insert_5 ⟨Nat.le_of_ble_eq_true rfl, Nat.le_of_ble_eq_true rfl⟩) hP hD hS hA [0, 1, 2, 3, 4, 5, 6, 7, 8, 9, 10, 11, 12, 13, 14, 15, 16, 17, 18, 19, 20, 21, 22, 23, 24, 25, 26, 27, 28, 29, 30] [31] rfl rfl rfl (by decide) (fun r _ H locs hw hP hD hS => ?_)
  have hP : va_P D vwCl [(ou, .inl (cL, 1, .inr (.inl go8)))] H := hP
  have hD : va_D A [(ou, .inl (cL, 1, .inr (.inl go8)))] := hD
  subst hw
  refine lv_i2l (v := 0) hx hb dL_insert_8 (by decide) ?_
  refine va_last hx hb hK hP hD hS 0 1 rfl rfl (vp_in_nI (n := 0) (by decide) (by decide)) dL_insert_9 (fun H locs hP hD hS => ?_)
  have hP : va_P D vwCl [(ou, .inl (cL, 1, .inr (.inl (vp_updL go8 0 0))))] H := hP
  have hD : va_D A [(ou, .inl (cL, 1, .inr (.inl (vp_updL go8 0 0))))] := hD
  refine lv_goto (tgt := 25) hx hb dL_insert_10 (by decide) ?_
  refine lv_iconst (v := 0) hx hb dL_insert_25 (by decide) ?_
  obtain ⟨hP9, hD9⟩ := z_get hP hD [0] (wc := [(ou, .inl (cL, 1, .inr (.inl (vp_updL go8 0 0))))]) rfl rfl
  exact W.iret (v := 0) hx hb hr (fun t ht hW => ⟨⟨0, (), rfl, rfl, by rw [ht]; exact hP9, hD9⟩, hS.F ht⟩) hS.2.2 dL_insert_26

set_option maxHeartbeats 4000000 in
set_option maxRecDepth 100000 in
/-- law: insert -/
theorem w_insertN (l : Launch) (D : va_G) (cI cL : ClassId) (x st lv nm lb lk us gr nu lt li fx sr rs wk od pp le pa fm go sk sa ug un odA leA paA goA grA fxA rsA srA skA ppA liA ltA nuA ou : Nat) (q : Int32) (go8 : Nat → Int64) (sz : Nat) (hp : zIn 0 q) (hq : ¬ q = 0) : Met l yL_insert wsL_insert ({ frames := 7, cells := 0, slots := 0, locals := 161 }) (va_Pc [.ref x, .int 0, .int q, .ref ou] (zPre D [(cI, .int), (cL, .long)] [(x, .inr (11, [.ref st, .ref lv, .ref nm, .ref lb, .ref lk, .int 0])), (nm, .inr (6, [.ref st, .ref lv, .ref us, .ref gr, .ref nu, .ref lt, .ref li, .ref fx, .ref sr, .ref rs, .ref wk, .int 0, .int 0])), (st, .inr (8, [.ref od, .ref pp, .ref le, .ref pa, .int 0])), (lv, .inr (4, [.ref fm, .ref go, .ref sk, .ref sa])), (us, .inr (10, [.ref ug, .ref un, .int 0])), (od, .inr (7, [.ref odA])), (odA, .inl (cI, 60, .inl (fun _ => 0))), (le, .inr (7, [.ref leA])), (leA, .inl (cI, 60, .inl (fun _ => 0))), (pa, .inr (7, [.ref paA])), (paA, .inl (cI, 60, .inl (fun _ => 0))), (go, .inr (7, [.ref goA])), (goA, .inl (cI, 5, .inl (fun _ => 0))), (gr, .inr (7, [.ref grA])), (grA, .inl (cI, 60, .inl (fun _ => 0))), (fx, .inr (7, [.ref fxA])), (fxA, .inl (cI, 60, .inl (fun _ => 0))), (rs, .inr (7, [.ref rsA])), (rsA, .inl (cI, 60, .inl (fun _ => 0))), (sr, .inr (7, [.ref srA])), (srA, .inl (cI, 60, .inl (fun _ => 0))), (sk, .inr (7, [.ref skA])), (skA, .inl (cI, 500, .inl (fun _ => 0))), (pp, .inr (7, [.ref ppA])), (ppA, .inl (cI, 60, .inl (fun _ => 0))), (li, .inr (7, [.ref liA])), (liA, .inl (cI, 60, .inl (fun _ => 0))), (lt, .inr (7, [.ref ltA])), (ltA, .inl (cI, 60, .inl (fun _ => 0))), (nu, .inr (7, [.ref nuA])), (nuA, .inl (cI, 60, .inl (fun _ => 0))), (ou, .inl (cL, 1, .inr (.inl go8)))] sz)) (va_Qi (fun rv (_ : Unit) => rv = 0) (fun (_ : Unit) => zB D [(ou, .inl (cL, 1, .inr (.inl (vp_updL go8 0 0))))] (va_A [(x, .inr (11, [.ref st, .ref lv, .ref nm, .ref lb, .ref lk, .int 0])), (nm, .inr (6, [.ref st, .ref lv, .ref us, .ref gr, .ref nu, .ref lt, .ref li, .ref fx, .ref sr, .ref rs, .ref wk, .int 0, .int 0])), (st, .inr (8, [.ref od, .ref pp, .ref le, .ref pa, .int 0])), (lv, .inr (4, [.ref fm, .ref go, .ref sk, .ref sa])), (us, .inr (10, [.ref ug, .ref un, .int 0])), (od, .inr (7, [.ref odA])), (odA, .inl (cI, 60, .inl (fun _ => 0))), (le, .inr (7, [.ref leA])), (leA, .inl (cI, 60, .inl (fun _ => 0))), (pa, .inr (7, [.ref paA])), (paA, .inl (cI, 60, .inl (fun _ => 0))), (go, .inr (7, [.ref goA])), (goA, .inl (cI, 5, .inl (fun _ => 0))), (gr, .inr (7, [.ref grA])), (grA, .inl (cI, 60, .inl (fun _ => 0))), (fx, .inr (7, [.ref fxA])), (fxA, .inl (cI, 60, .inl (fun _ => 0))), (rs, .inr (7, [.ref rsA])), (rsA, .inl (cI, 60, .inl (fun _ => 0))), (sr, .inr (7, [.ref srA])), (srA, .inl (cI, 60, .inl (fun _ => 0))), (sk, .inr (7, [.ref skA])), (skA, .inl (cI, 500, .inl (fun _ => 0))), (pp, .inr (7, [.ref ppA])), (ppA, .inl (cI, 60, .inl (fun _ => 0))), (li, .inr (7, [.ref liA])), (liA, .inl (cI, 60, .inl (fun _ => 0))), (lt, .inr (7, [.ref ltA])), (ltA, .inl (cI, 60, .inl (fun _ => 0))), (nu, .inr (7, [.ref nuA])), (nuA, .inl (cI, 60, .inl (fun _ => 0))), (ou, .inl (cL, 1, .inr (.inl go8)))] sz)) (va_A [(x, .inr (11, [.ref st, .ref lv, .ref nm, .ref lb, .ref lk, .int 0])), (nm, .inr (6, [.ref st, .ref lv, .ref us, .ref gr, .ref nu, .ref lt, .ref li, .ref fx, .ref sr, .ref rs, .ref wk, .int 0, .int 0])), (st, .inr (8, [.ref od, .ref pp, .ref le, .ref pa, .int 0])), (lv, .inr (4, [.ref fm, .ref go, .ref sk, .ref sa])), (us, .inr (10, [.ref ug, .ref un, .int 0])), (od, .inr (7, [.ref odA])), (odA, .inl (cI, 60, .inl (fun _ => 0))), (le, .inr (7, [.ref leA])), (leA, .inl (cI, 60, .inl (fun _ => 0))), (pa, .inr (7, [.ref paA])), (paA, .inl (cI, 60, .inl (fun _ => 0))), (go, .inr (7, [.ref goA])), (goA, .inl (cI, 5, .inl (fun _ => 0))), (gr, .inr (7, [.ref grA])), (grA, .inl (cI, 60, .inl (fun _ => 0))), (fx, .inr (7, [.ref fxA])), (fxA, .inl (cI, 60, .inl (fun _ => 0))), (rs, .inr (7, [.ref rsA])), (rsA, .inl (cI, 60, .inl (fun _ => 0))), (sr, .inr (7, [.ref srA])), (srA, .inl (cI, 60, .inl (fun _ => 0))), (sk, .inr (7, [.ref skA])), (skA, .inl (cI, 500, .inl (fun _ => 0))), (pp, .inr (7, [.ref ppA])), (ppA, .inl (cI, 60, .inl (fun _ => 0))), (li, .inr (7, [.ref liA])), (liA, .inl (cI, 60, .inl (fun _ => 0))), (lt, .inr (7, [.ref ltA])), (ltA, .inl (cI, 60, .inl (fun _ => 0))), (nu, .inr (7, [.ref nuA])), (nuA, .inl (cI, 60, .inl (fun _ => 0))), (ou, .inl (cL, 1, .inr (.inl go8)))] sz)) 0 0 (va_A [(x, .inr (11, [.ref st, .ref lv, .ref nm, .ref lb, .ref lk, .int 0])), (nm, .inr (6, [.ref st, .ref lv, .ref us, .ref gr, .ref nu, .ref lt, .ref li, .ref fx, .ref sr, .ref rs, .ref wk, .int 0, .int 0])), (st, .inr (8, [.ref od, .ref pp, .ref le, .ref pa, .int 0])), (lv, .inr (4, [.ref fm, .ref go, .ref sk, .ref sa])), (us, .inr (10, [.ref ug, .ref un, .int 0])), (od, .inr (7, [.ref odA])), (odA, .inl (cI, 60, .inl (fun _ => 0))), (le, .inr (7, [.ref leA])), (leA, .inl (cI, 60, .inl (fun _ => 0))), (pa, .inr (7, [.ref paA])), (paA, .inl (cI, 60, .inl (fun _ => 0))), (go, .inr (7, [.ref goA])), (goA, .inl (cI, 5, .inl (fun _ => 0))), (gr, .inr (7, [.ref grA])), (grA, .inl (cI, 60, .inl (fun _ => 0))), (fx, .inr (7, [.ref fxA])), (fxA, .inl (cI, 60, .inl (fun _ => 0))), (rs, .inr (7, [.ref rsA])), (rsA, .inl (cI, 60, .inl (fun _ => 0))), (sr, .inr (7, [.ref srA])), (srA, .inl (cI, 60, .inl (fun _ => 0))), (sk, .inr (7, [.ref skA])), (skA, .inl (cI, 500, .inl (fun _ => 0))), (pp, .inr (7, [.ref ppA])), (ppA, .inl (cI, 60, .inl (fun _ => 0))), (li, .inr (7, [.ref liA])), (liA, .inl (cI, 60, .inl (fun _ => 0))), (lt, .inr (7, [.ref ltA])), (ltA, .inl (cI, 60, .inl (fun _ => 0))), (nu, .inr (7, [.ref nuA])), (nuA, .inl (cI, 60, .inl (fun _ => 0))), (ou, .inl (cL, 1, .inr (.inl go8)))] sz) := by
  refine va_MetW (cc := cL_insert) (maxL := 5) (ret := (some .int)) (by decide) rfl ?_
  intro P0 E0 s m args below meth C9 s₁ B hml hv
  obtain ⟨rfl, hsz, hP, hK, hD0⟩ := hv
  have hx := B.exec
  have hb := B.bytes
  have hr := B.returns
  have hts := atoms_spec (ws := wsL_insert) B.pre
  have hown : s.vm.findClass RL = some m.cls := findClass_of_methodNamed B.named
  have hlocks := B.notSynchronized
  subst hsz
  have hD := hD0.self (sz := s.heap.size)
  generalize hAe : va_A [(x, .inr (11, [.ref st, .ref lv, .ref nm, .ref lb, .ref lk, .int 0])), (nm, .inr (6, [.ref st, .ref lv, .ref us, .ref gr, .ref nu, .ref lt, .ref li, .ref fx, .ref sr, .ref rs, .ref wk, .int 0, .int 0])), (st, .inr (8, [.ref od, .ref pp, .ref le, .ref pa, .int 0])), (lv, .inr (4, [.ref fm, .ref go, .ref sk, .ref sa])), (us, .inr (10, [.ref ug, .ref un, .int 0])), (od, .inr (7, [.ref odA])), (odA, .inl (cI, 60, .inl (fun _ => 0))), (le, .inr (7, [.ref leA])), (leA, .inl (cI, 60, .inl (fun _ => 0))), (pa, .inr (7, [.ref paA])), (paA, .inl (cI, 60, .inl (fun _ => 0))), (go, .inr (7, [.ref goA])), (goA, .inl (cI, 5, .inl (fun _ => 0))), (gr, .inr (7, [.ref grA])), (grA, .inl (cI, 60, .inl (fun _ => 0))), (fx, .inr (7, [.ref fxA])), (fxA, .inl (cI, 60, .inl (fun _ => 0))), (rs, .inr (7, [.ref rsA])), (rsA, .inl (cI, 60, .inl (fun _ => 0))), (sr, .inr (7, [.ref srA])), (srA, .inl (cI, 60, .inl (fun _ => 0))), (sk, .inr (7, [.ref skA])), (skA, .inl (cI, 500, .inl (fun _ => 0))), (pp, .inr (7, [.ref ppA])), (ppA, .inl (cI, 60, .inl (fun _ => 0))), (li, .inr (7, [.ref liA])), (liA, .inl (cI, 60, .inl (fun _ => 0))), (lt, .inr (7, [.ref ltA])), (ltA, .inl (cI, 60, .inl (fun _ => 0))), (nu, .inr (7, [.ref nuA])), (nuA, .inl (cI, 60, .inl (fun _ => 0))), (ou, .inl (cL, 1, .inr (.inl go8)))] s.heap.size = A at hD ⊢
  have hA : ∀ q : Nat, s.heap.size ≤ q → A q := fun q h => by rw [← hAe]; exact Or.inr h
  have hS : va_S A s.heap s.heap [] := va_S.rf
  have hl := lv_entry ([.ref x, .int 0, .int q, .ref ou]) (n := 5) (Nat.le_of_ble_eq_true rfl)
  rw [lg_entry_eq]
  generalize (lg_sl ([.ref x, .int 0, .int q, .ref ou]) ++ List.replicate (5 - (lg_sl ([.ref x, .int 0, .int q, .ref ou])).length) Slot.unset).toArray = ls at hl ⊢
  have hl : lv_has ls 5 [(0, .ref x), (1, .int 0), (2, .int q), (3, .ref ou)] := hl
  refine lv_aload_n hx hb dL_insert_0 rfl (lv_at hl 3 rfl) ?_
  refine lv_iconst (v := 0) hx hb dL_insert_1 (by decide) ?_
  refine lv_aload_n hx hb dL_insert_2 rfl (lv_at hl 0 rfl) ?_
  refine lv_iload_n hx hb dL_insert_3 rfl (lv_at hl 1 rfl) ?_
  refine lv_iload_n hx hb dL_insert_4 rfl (lv_at hl 2 rfl) ?_
  refine zc_i (wc := [(x, .inr (11, [.ref st, .ref lv, .ref nm, .ref lb, .ref lk, .int 0])), (nm, .inr (6, [.ref st, .ref lv, .ref us, .ref gr, .ref nu, .ref lt, .ref li, .ref fx, .ref sr, .ref rs, .ref wk, .int 0, .int 0])), (st, .inr (8, [.ref od, .ref pp, .ref le, .ref pa, .int 0])), (lv, .inr (4, [.ref fm, .ref go, .ref sk, .ref sa])), (us, .inr (10, [.ref ug, .ref un, .int 0])), (od, .inr (7, [.ref odA])), (odA, .inl (cI, 60, .inl (fun _ => 0))), (le, .inr (7, [.ref leA])), (leA, .inl (cI, 60, .inl (fun _ => 0))), (pa, .inr (7, [.ref paA])), (paA, .inl (cI, 60, .inl (fun _ => 0))), (go, .inr (7, [.ref goA])), (goA, .inl (cI, 5, .inl (fun _ => 0))), (gr, .inr (7, [.ref grA])), (grA, .inl (cI, 60, .inl (fun _ => 0))), (fx, .inr (7, [.ref fxA])), (fxA, .inl (cI, 60, .inl (fun _ => 0))), (rs, .inr (7, [.ref rsA])), (rsA, .inl (cI, 60, .inl (fun _ => 0))), (sr, .inr (7, [.ref srA])), (srA, .inl (cI, 60, .inl (fun _ => 0))), (sk, .inr (7, [.ref skA])), (skA, .inl (cI, 500, .inl (fun _ => 0))), (pp, .inr (7, [.ref ppA])), (ppA, .inl (cI, 60, .inl (fun _ => 0))), (li, .inr (7, [.ref liA])), (liA, .inl (cI, 60, .inl (fun _ => 0))), (lt, .inr (7, [.ref ltA])), (ltA, .inl (cI, 60, .inl (fun _ => 0))), (nu, .inr (7, [.ref nuA])), (nuA, .inl (cI, 60, .inl (fun _ => 0)))]) (wr := [(ou, .inl (cL, 1, .inr (.inl go8)))]) (va_runV (As := [.int 0, .int q]) (rest := [.int 0, .ref ou]) ⟨hx, hb, hml, hown, hts⟩ (k_insertN l D cI x st lv nm lb lk us gr nu lt li fx sr rs wk od pp le pa fm go sk sa ug un odA leA paA goA grA fxA rsA srA skA ppA liA ltA nuA q s.heap.size hp hq) (cwV 2 hts gL_insert_X8_insert rfl rfl rfl (by decide +kernel) ⟨Nat.le_of_ble_eq_true rfl, Nat.le_of_ble_eq_true rfl⟩) (zPV hK hP hD [0, 1, 2, 3, 4, 5, 6, 7, 8, 9, 10, 11, 12, 13, 14, 15, 16, 17, 18, 19, 20, 21, 22, 23, 24, 25, 26, 27, 28, 29, 30] rfl rfl [0] rfl 0 rfl rfl rfl) rfl rfl hl.1 rfl (lv_room (Nat.le_of_ble_eq_true rfl)) dL_insert_5 ⟨Nat.le_of_ble_eq_true rfl, Nat.le_of_ble_eq_true rfl⟩) hP hD hS hA [0, 1, 2, 3, 4, 5, 6, 7, 8, 9, 10, 11, 12, 13, 14, 15, 16, 17, 18, 19, 20, 21, 22, 23, 24, 25, 26, 27, 28, 29, 30] [31] rfl rfl rfl (by decide) (fun r _ H locs hw hP hD hS => ?_)
  have hP : va_P D vwCl [(ou, .inl (cL, 1, .inr (.inl go8)))] H := hP
  have hD : va_D A [(ou, .inl (cL, 1, .inr (.inl go8)))] := hD
  subst hw
  refine lv_i2l (v := 0) hx hb dL_insert_8 (by decide) ?_
  refine va_last hx hb hK hP hD hS 0 1 rfl rfl (vp_in_nI (n := 0) (by decide) (by decide)) dL_insert_9 (fun H locs hP hD hS => ?_)
  have hP : va_P D vwCl [(ou, .inl (cL, 1, .inr (.inl (vp_updL go8 0 0))))] H := hP
  have hD : va_D A [(ou, .inl (cL, 1, .inr (.inl (vp_updL go8 0 0))))] := hD
  refine lv_goto (tgt := 25) hx hb dL_insert_10 (by decide) ?_
  refine lv_iconst (v := 0) hx hb dL_insert_25 (by decide) ?_
  obtain ⟨hP9, hD9⟩ := z_get hP hD [0] (wc := [(ou, .inl (cL, 1, .inr (.inl (vp_updL go8 0 0))))]) rfl rfl
  exact W.iret (v := 0) hx hb hr (fun t ht hW => ⟨⟨0, (), rfl, rfl, by rw [ht]; exact hP9, hD9⟩, hS.F ht⟩) hS.2.2 dL_insert_26

set_option maxHeartbeats 4000000 in
set_option maxRecDepth 100000 in
/-- law: skip -/
theorem w_skip (l : Launch) (D : va_G) (cI cL : ClassId) (x st lv nm lb lk fm go sk sa skA saA us gr nu lt li fx sr rs wk od pp le pa ou : Nat) (p q : Int32) (go8 : Nat → Int64) (sz : Nat) (hp : zSk p q) : Met l yL_skip wsL_skip ({ frames := 4, cells := 0, slots := 0, locals := 88 }) (va_Pc [.ref x, .int p, .int q, .ref ou] (zPre D [(cI, .int), (cL, .long)] [(x, .inr (11, [.ref st, .ref lv, .ref nm, .ref lb, .ref lk, .int 0])), (lv, .inr (4, [.ref fm, .ref go, .ref sk, .ref sa])), (sk, .inr (7, [.ref skA])), (skA, .inl (cI, 500, .inl (fun _ => 0))), (sa, .inr (7, [.ref saA])), (saA, .inl (cI, 5, .inl (fun _ => 0))), (nm, .inr (6, [.ref st, .ref lv, .ref us, .ref gr, .ref nu, .ref lt, .ref li, .ref fx, .ref sr, .ref rs, .ref wk, .int 0, .int 0])), (st, .inr (8, [.ref od, .ref pp, .ref le, .ref pa, .int 0])), (ou, .inl (cL, 1, .inr (.inl go8)))] sz)) (va_Qi (fun rv (_ : Unit) => rv = 0) (fun (_ : Unit) => zB D [(ou, .inl (cL, 1, .inr (.inl (vp_updL go8 0 1))))] (va_A [(x, .inr (11, [.ref st, .ref lv, .ref nm, .ref lb, .ref lk, .int 0])), (lv, .inr (4, [.ref fm, .ref go, .ref sk, .ref sa])), (sk, .inr (7, [.ref skA])), (skA, .inl (cI, 500, .inl (fun _ => 0))), (sa, .inr (7, [.ref saA])), (saA, .inl (cI, 5, .inl (fun _ => 0))), (nm, .inr (6, [.ref st, .ref lv, .ref us, .ref gr, .ref nu, .ref lt, .ref li, .ref fx, .ref sr, .ref rs, .ref wk, .int 0, .int 0])), (st, .inr (8, [.ref od, .ref pp, .ref le, .ref pa, .int 0])), (ou, .inl (cL, 1, .inr (.inl go8)))] sz)) (va_A [(x, .inr (11, [.ref st, .ref lv, .ref nm, .ref lb, .ref lk, .int 0])), (lv, .inr (4, [.ref fm, .ref go, .ref sk, .ref sa])), (sk, .inr (7, [.ref skA])), (skA, .inl (cI, 500, .inl (fun _ => 0))), (sa, .inr (7, [.ref saA])), (saA, .inl (cI, 5, .inl (fun _ => 0))), (nm, .inr (6, [.ref st, .ref lv, .ref us, .ref gr, .ref nu, .ref lt, .ref li, .ref fx, .ref sr, .ref rs, .ref wk, .int 0, .int 0])), (st, .inr (8, [.ref od, .ref pp, .ref le, .ref pa, .int 0])), (ou, .inl (cL, 1, .inr (.inl go8)))] sz)) 0 0 (va_A [(x, .inr (11, [.ref st, .ref lv, .ref nm, .ref lb, .ref lk, .int 0])), (lv, .inr (4, [.ref fm, .ref go, .ref sk, .ref sa])), (sk, .inr (7, [.ref skA])), (skA, .inl (cI, 500, .inl (fun _ => 0))), (sa, .inr (7, [.ref saA])), (saA, .inl (cI, 5, .inl (fun _ => 0))), (nm, .inr (6, [.ref st, .ref lv, .ref us, .ref gr, .ref nu, .ref lt, .ref li, .ref fx, .ref sr, .ref rs, .ref wk, .int 0, .int 0])), (st, .inr (8, [.ref od, .ref pp, .ref le, .ref pa, .int 0])), (ou, .inl (cL, 1, .inr (.inl go8)))] sz) := by
  refine va_MetW (cc := cL_skip) (maxL := 5) (ret := (some .int)) (by decide) rfl ?_
  intro P0 E0 s m args below meth C9 s₁ B hml hv
  obtain ⟨rfl, hsz, hP, hK, hD0⟩ := hv
  have hx := B.exec
  have hb := B.bytes
  have hr := B.returns
  have hts := atoms_spec (ws := wsL_skip) B.pre
  have hown : s.vm.findClass RL = some m.cls := findClass_of_methodNamed B.named
  have hlocks := B.notSynchronized
  subst hsz
  have hD := hD0.self (sz := s.heap.size)
  generalize hAe : va_A [(x, .inr (11, [.ref st, .ref lv, .ref nm, .ref lb, .ref lk, .int 0])), (lv, .inr (4, [.ref fm, .ref go, .ref sk, .ref sa])), (sk, .inr (7, [.ref skA])), (skA, .inl (cI, 500, .inl (fun _ => 0))), (sa, .inr (7, [.ref saA])), (saA, .inl (cI, 5, .inl (fun _ => 0))), (nm, .inr (6, [.ref st, .ref lv, .ref us, .ref gr, .ref nu, .ref lt, .ref li, .ref fx, .ref sr, .ref rs, .ref wk, .int 0, .int 0])), (st, .inr (8, [.ref od, .ref pp, .ref le, .ref pa, .int 0])), (ou, .inl (cL, 1, .inr (.inl go8)))] s.heap.size = A at hD ⊢
  have hA : ∀ q : Nat, s.heap.size ≤ q → A q := fun q h => by rw [← hAe]; exact Or.inr h
  have hS : va_S A s.heap s.heap [] := va_S.rf
  have hl := lv_entry ([.ref x, .int p, .int q, .ref ou]) (n := 5) (Nat.le_of_ble_eq_true rfl)
  rw [lg_entry_eq]
  generalize (lg_sl ([.ref x, .int p, .int q, .ref ou]) ++ List.replicate (5 - (lg_sl ([.ref x, .int p, .int q, .ref ou])).length) Slot.unset).toArray = ls at hl ⊢
  have hl : lv_has ls 5 [(0, .ref x), (1, .int p), (2, .int q), (3, .ref ou)] := hl
  refine lv_aload_n hx hb dL_skip_0 rfl (lv_at hl 3 rfl) ?_
  refine lv_iconst (v := 0) hx hb dL_skip_1 (by decide) ?_
  refine lv_aload_n hx hb dL_skip_2 rfl (lv_at hl 0 rfl) ?_
  refine lv_iload_n hx hb dL_skip_3 rfl (lv_at hl 1 rfl) ?_
  refine lv_iload_n hx hb dL_skip_4 rfl (lv_at hl 2 rfl) ?_
  refine zc_i (wc := [(x, .inr (11, [.ref st, .ref lv, .ref nm, .ref lb, .ref lk, .int 0])), (lv, .inr (4, [.ref fm, .ref go, .ref sk, .ref sa])), (sk, .inr (7, [.ref skA])), (skA, .inl (cI, 500, .inl (fun _ => 0))), (sa, .inr (7, [.ref saA])), (saA, .inl (cI, 5, .inl (fun _ => 0))), (nm, .inr (6, [.ref st, .ref lv, .ref us, .ref gr, .ref nu, .ref lt, .ref li, .ref fx, .ref sr, .ref rs, .ref wk, .int 0, .int 0])), (st, .inr (8, [.ref od, .ref pp, .ref le, .ref pa, .int 0]))]) (wr := [(ou, .inl (cL, 1, .inr (.inl go8)))]) (va_runV (As := [.int p, .int q]) (rest := [.int 0, .ref ou]) ⟨hx, hb, hml, hown, hts⟩ (k_skip l D cI x st lv nm lb lk fm go sk sa skA saA us gr nu lt li fx sr rs wk od pp le pa p q s.heap.size hp) (cwV 2 hts gL_skip_X8_skip rfl rfl rfl (by decide +kernel) ⟨Nat.le_of_ble_eq_true rfl, Nat.le_of_ble_eq_true rfl⟩) (zPV hK hP hD [0, 1, 2, 3, 4, 5, 6, 7] rfl rfl [0] rfl 0 rfl rfl rfl) rfl rfl hl.1 rfl (lv_room (Nat.le_of_ble_eq_true rfl)) dL_skip_5 ⟨Nat.le_of_ble_eq_true rfl, Nat.le_of_ble_eq_true rfl⟩) hP hD hS hA [0, 1, 2, 3, 4, 5, 6, 7] [8] rfl rfl rfl (by decide) (fun r _ H locs hw hP hD hS => ?_)
  have hP : va_P D vwCl [(ou, .inl (cL, 1, .inr (.inl go8)))] H := hP
  have hD : va_D A [(ou, .inl (cL, 1, .inr (.inl go8)))] := hD
  subst hw
  refine lv_i2l (v := 1) hx hb dL_skip_8 (by decide) ?_
  refine va_last hx hb hK hP hD hS 0 1 rfl rfl (vp_in_nI (n := 0) (by decide) (by decide)) dL_skip_9 (fun H locs hP hD hS => ?_)
  have hP : va_P D vwCl [(ou, .inl (cL, 1, .inr (.inl (vp_updL go8 0 1))))] H := hP
  have hD : va_D A [(ou, .inl (cL, 1, .inr (.inl (vp_updL go8 0 1))))] := hD
  refine lv_goto (tgt := 21) hx hb dL_skip_10 (by decide) ?_
  refine lv_iconst (v := 0) hx hb dL_skip_21 (by decide) ?_
  obtain ⟨hP9, hD9⟩ := z_get hP hD [0] (wc := [(ou, .inl (cL, 1, .inr (.inl (vp_updL go8 0 1))))]) rfl rfl
  exact W.iret (v := 0) hx hb hr (fun t ht hW => ⟨⟨0, (), rfl, rfl, by rw [ht]; exact hP9, hD9⟩, hS.F ht⟩) hS.2.2 dL_skip_22

set_option maxHeartbeats 4000000 in
set_option maxRecDepth 100000 in
/-- law: setFormat -/
theorem w_setFormat (l : Launch) (D : va_G) (cI cL : ClassId) (x st lv nm lb lk fm go sk sa fmA ou : Nat) (p q : Int32) (go8 : Nat → Int64) (sz : Nat) (hp : zLv p) (hq : zFo q) : Met l yL_setFormat wsL_setFormat ({ frames := 3, cells := 0, slots := 0, locals := 67 }) (va_Pc [.ref x, .int p, .int q, .ref ou] (zPre D [(cI, .int), (cL, .long)] [(x, .inr (11, [.ref st, .ref lv, .ref nm, .ref lb, .ref lk, .int 0])), (lv, .inr (4, [.ref fm, .ref go, .ref sk, .ref sa])), (fm, .inr (7, [.ref fmA])), (fmA, .inl (cI, 5, .inl (zPut 5 (zPut 5 (zPut 5 (zPut 5 (fun _ => 0) 1 100) 2 100) 3 100) 4 100))), (ou, .inl (cL, 1, .inr (.inl go8)))] sz)) (va_Qi (fun rv (_ : Unit) => rv = 0) (fun (_ : Unit) => zB D [(ou, .inl (cL, 1, .inr (.inl (vp_updL go8 0 100))))] (va_A [(x, .inr (11, [.ref st, .ref lv, .ref nm, .ref lb, .ref lk, .int 0])), (lv, .inr (4, [.ref fm, .ref go, .ref sk, .ref sa])), (fm, .inr (7, [.ref fmA])), (fmA, .inl (cI, 5, .inl (zPut 5 (zPut 5 (zPut 5 (zPut 5 (fun _ => 0) 1 100) 2 100) 3 100) 4 100))), (ou, .inl (cL, 1, .inr (.inl go8)))] sz)) (va_A [(x, .inr (11, [.ref st, .ref lv, .ref nm, .ref lb, .ref lk, .int 0])), (lv, .inr (4, [.ref fm, .ref go, .ref sk, .ref sa])), (fm, .inr (7, [.ref fmA])), (fmA, .inl (cI, 5, .inl (zPut 5 (zPut 5 (zPut 5 (zPut 5 (fun _ => 0) 1 100) 2 100) 3 100) 4 100))), (ou, .inl (cL, 1, .inr (.inl go8)))] sz)) 0 0 (va_A [(x, .inr (11, [.ref st, .ref lv, .ref nm, .ref lb, .ref lk, .int 0])), (lv, .inr (4, [.ref fm, .ref go, .ref sk, .ref sa])), (fm, .inr (7, [.ref fmA])), (fmA, .inl (cI, 5, .inl (zPut 5 (zPut 5 (zPut 5 (zPut 5 (fun _ => 0) 1 100) 2 100) 3 100) 4 100))), (ou, .inl (cL, 1, .inr (.inl go8)))] sz) := by
  refine va_MetW (cc := cL_setFormat) (maxL := 5) (ret := (some .int)) (by decide) rfl ?_
  intro P0 E0 s m args below meth C9 s₁ B hml hv
  obtain ⟨rfl, hsz, hP, hK, hD0⟩ := hv
  have hx := B.exec
  have hb := B.bytes
  have hr := B.returns
  have hts := atoms_spec (ws := wsL_setFormat) B.pre
  have hown : s.vm.findClass RL = some m.cls := findClass_of_methodNamed B.named
  have hlocks := B.notSynchronized
  subst hsz
  have hD := hD0.self (sz := s.heap.size)
  generalize hAe : va_A [(x, .inr (11, [.ref st, .ref lv, .ref nm, .ref lb, .ref lk, .int 0])), (lv, .inr (4, [.ref fm, .ref go, .ref sk, .ref sa])), (fm, .inr (7, [.ref fmA])), (fmA, .inl (cI, 5, .inl (zPut 5 (zPut 5 (zPut 5 (zPut 5 (fun _ => 0) 1 100) 2 100) 3 100) 4 100))), (ou, .inl (cL, 1, .inr (.inl go8)))] s.heap.size = A at hD ⊢
  have hA : ∀ q : Nat, s.heap.size ≤ q → A q := fun q h => by rw [← hAe]; exact Or.inr h
  have hS : va_S A s.heap s.heap [] := va_S.rf
  have hl := lv_entry ([.ref x, .int p, .int q, .ref ou]) (n := 5) (Nat.le_of_ble_eq_true rfl)
  rw [lg_entry_eq]
  generalize (lg_sl ([.ref x, .int p, .int q, .ref ou]) ++ List.replicate (5 - (lg_sl ([.ref x, .int p, .int q, .ref ou])).length) Slot.unset).toArray = ls at hl ⊢
  have hl : lv_has ls 5 [(0, .ref x), (1, .int p), (2, .int q), (3, .ref ou)] := hl
  refine lv_aload_n hx hb dL_setFormat_0 rfl (lv_at hl 3 rfl) ?_
  refine lv_iconst (v := 0) hx hb dL_setFormat_1 (by decide) ?_
  refine lv_aload_n hx hb dL_setFormat_2 rfl (lv_at hl 0 rfl) ?_
  refine lv_iload_n hx hb dL_setFormat_3 rfl (lv_at hl 1 rfl) ?_
  refine lv_iload_n hx hb dL_setFormat_4 rfl (lv_at hl 2 rfl) ?_
  refine zc_i (wc := [(x, .inr (11, [.ref st, .ref lv, .ref nm, .ref lb, .ref lk, .int 0])), (lv, .inr (4, [.ref fm, .ref go, .ref sk, .ref sa])), (fm, .inr (7, [.ref fmA])), (fmA, .inl (cI, 5, .inl (zPut 5 (zPut 5 (zPut 5 (zPut 5 (fun _ => 0) 1 100) 2 100) 3 100) 4 100)))]) (wr := [(ou, .inl (cL, 1, .inr (.inl go8)))]) (va_runV (As := [.int p, .int q]) (rest := [.int 0, .ref ou]) ⟨hx, hb, hml, hown, hts⟩ (k_setFormat l D cI x st lv nm lb lk fm go sk sa fmA p q s.heap.size hp hq) (cwV 2 hts gL_setFormat_X8_setFormat rfl rfl rfl (by decide +kernel) ⟨Nat.le_of_ble_eq_true rfl, Nat.le_of_ble_eq_true rfl⟩) (zPV hK hP hD [0, 1, 2, 3] rfl rfl [0] rfl 0 rfl rfl rfl) rfl rfl hl.1 rfl (lv_room (Nat.le_of_ble_eq_true rfl)) dL_setFormat_5 ⟨Nat.le_of_ble_eq_true rfl, Nat.le_of_ble_eq_true rfl⟩) hP hD hS hA [0, 1, 2, 3] [4] rfl rfl rfl (by decide) (fun r _ H locs hw hP hD hS => ?_)
  have hP : va_P D vwCl [(ou, .inl (cL, 1, .inr (.inl go8)))] H := hP
  have hD : va_D A [(ou, .inl (cL, 1, .inr (.inl go8)))] := hD
  subst hw
  refine lv_i2l (v := 100) hx hb dL_setFormat_8 (by decide) ?_
  refine va_last hx hb hK hP hD hS 0 1 rfl rfl (vp_in_nI (n := 0) (by decide) (by decide)) dL_setFormat_9 (fun H locs hP hD hS => ?_)
  have hP : va_P D vwCl [(ou, .inl (cL, 1, .inr (.inl (vp_updL go8 0 100))))] H := hP
  have hD : va_D A [(ou, .inl (cL, 1, .inr (.inl (vp_updL go8 0 100))))] := hD
  refine lv_goto (tgt := 17) hx hb dL_setFormat_10 (by decide) ?_
  refine lv_iconst (v := 0) hx hb dL_setFormat_17 (by decide) ?_
  obtain ⟨hP9, hD9⟩ := z_get hP hD [0] (wc := [(ou, .inl (cL, 1, .inr (.inl (vp_updL go8 0 100))))]) rfl rfl
  exact W.iret (v := 0) hx hb hr (fun t ht hW => ⟨⟨0, (), rfl, rfl, by rw [ht]; exact hP9, hD9⟩, hS.F ht⟩) hS.2.2 dL_setFormat_18

set_option maxHeartbeats 4000000 in
set_option maxRecDepth 100000 in
/-- law: setGoingOn -/
theorem w_setGoingOn (l : Launch) (D : va_G) (cI cL : ClassId) (x st lv nm lb lk fm go sk sa goA us gr nu lt li fx sr rs wk od pp le pa ou : Nat) (p q : Int32) (go8 : Nat → Int64) (sz : Nat) (hp : zLv p) : Met l yL_setGoingOn wsL_setGoingOn ({ frames := 4, cells := 0, slots := 0, locals := 89 }) (va_Pc [.ref x, .int p, .int q, .ref ou] (zPre D [(cI, .int), (cL, .long)] [(x, .inr (11, [.ref st, .ref lv, .ref nm, .ref lb, .ref lk, .int 0])), (lv, .inr (4, [.ref fm, .ref go, .ref sk, .ref sa])), (go, .inr (7, [.ref goA])), (goA, .inl (cI, 5, .inl (fun _ => 0))), (nm, .inr (6, [.ref st, .ref lv, .ref us, .ref gr, .ref nu, .ref lt, .ref li, .ref fx, .ref sr, .ref rs, .ref wk, .int 0, .int 0])), (st, .inr (8, [.ref od, .ref pp, .ref le, .ref pa, .int 0])), (ou, .inl (cL, 1, .inr (.inl go8)))] sz)) (va_Qi (fun rv (_ : Unit) => rv = 0) (fun (_ : Unit) => zB D [(ou, .inl (cL, 1, .inr (.inl (vp_updL go8 0 0))))] (va_A [(x, .inr (11, [.ref st, .ref lv, .ref nm, .ref lb, .ref lk, .int 0])), (lv, .inr (4, [.ref fm, .ref go, .ref sk, .ref sa])), (go, .inr (7, [.ref goA])), (goA, .inl (cI, 5, .inl (fun _ => 0))), (nm, .inr (6, [.ref st, .ref lv, .ref us, .ref gr, .ref nu, .ref lt, .ref li, .ref fx, .ref sr, .ref rs, .ref wk, .int 0, .int 0])), (st, .inr (8, [.ref od, .ref pp, .ref le, .ref pa, .int 0])), (ou, .inl (cL, 1, .inr (.inl go8)))] sz)) (va_A [(x, .inr (11, [.ref st, .ref lv, .ref nm, .ref lb, .ref lk, .int 0])), (lv, .inr (4, [.ref fm, .ref go, .ref sk, .ref sa])), (go, .inr (7, [.ref goA])), (goA, .inl (cI, 5, .inl (fun _ => 0))), (nm, .inr (6, [.ref st, .ref lv, .ref us, .ref gr, .ref nu, .ref lt, .ref li, .ref fx, .ref sr, .ref rs, .ref wk, .int 0, .int 0])), (st, .inr (8, [.ref od, .ref pp, .ref le, .ref pa, .int 0])), (ou, .inl (cL, 1, .inr (.inl go8)))] sz)) 0 0 (va_A [(x, .inr (11, [.ref st, .ref lv, .ref nm, .ref lb, .ref lk, .int 0])), (lv, .inr (4, [.ref fm, .ref go, .ref sk, .ref sa])), (go, .inr (7, [.ref goA])), (goA, .inl (cI, 5, .inl (fun _ => 0))), (nm, .inr (6, [.ref st, .ref lv, .ref us, .ref gr, .ref nu, .ref lt, .ref li, .ref fx, .ref sr, .ref rs, .ref wk, .int 0, .int 0])), (st, .inr (8, [.ref od, .ref pp, .ref le, .ref pa, .int 0])), (ou, .inl (cL, 1, .inr (.inl go8)))] sz) := by
  refine va_MetW (cc := cL_setGoingOn) (maxL := 5) (ret := (some .int)) (by decide) rfl ?_
  intro P0 E0 s m args below meth C9 s₁ B hml hv
  obtain ⟨rfl, hsz, hP, hK, hD0⟩ := hv
  have hx := B.exec
  have hb := B.bytes
  have hr := B.returns
  have hts := atoms_spec (ws := wsL_setGoingOn) B.pre
  have hown : s.vm.findClass RL = some m.cls := findClass_of_methodNamed B.named
  have hlocks := B.notSynchronized
  subst hsz
  have hD := hD0.self (sz := s.heap.size)
  generalize hAe : va_A [(x, .inr (11, [.ref st, .ref lv, .ref nm, .ref lb, .ref lk, .int 0])), (lv, .inr (4, [.ref fm, .ref go, .ref sk, .ref sa])), (go, .inr (7, [.ref goA])), (goA, .inl (cI, 5, .inl (fun _ => 0))), (nm, .inr (6, [.ref st, .ref lv, .ref us, .ref gr, .ref nu, .ref lt, .ref li, .ref fx, .ref sr, .ref rs, .ref wk, .int 0, .int 0])), (st, .inr (8, [.ref od, .ref pp, .ref le, .ref pa, .int 0])), (ou, .inl (cL, 1, .inr (.inl go8)))] s.heap.size = A at hD ⊢
  have hA : ∀ q : Nat, s.heap.size ≤ q → A q := fun q h => by rw [← hAe]; exact Or.inr h
  have hS : va_S A s.heap s.heap [] := va_S.rf
  have hl := lv_entry ([.ref x, .int p, .int q, .ref ou]) (n := 5) (Nat.le_of_ble_eq_true rfl)
  rw [lg_entry_eq]
  generalize (lg_sl ([.ref x, .int p, .int q, .ref ou]) ++ List.replicate (5 - (lg_sl ([.ref x, .int p, .int q, .ref ou])).length) Slot.unset).toArray = ls at hl ⊢
  have hl : lv_has ls 5 [(0, .ref x), (1, .int p), (2, .int q), (3, .ref ou)] := hl
  refine lv_aload_n hx hb dL_setGoingOn_0 rfl (lv_at hl 3 rfl) ?_
  refine lv_iconst (v := 0) hx hb dL_setGoingOn_1 (by decide) ?_
  refine lv_aload_n hx hb dL_setGoingOn_2 rfl (lv_at hl 0 rfl) ?_
  refine lv_iload_n hx hb dL_setGoingOn_3 rfl (lv_at hl 1 rfl) ?_
  refine lv_iload_n hx hb dL_setGoingOn_4 rfl (lv_at hl 2 rfl) ?_
  refine zc_i (wc := [(x, .inr (11, [.ref st, .ref lv, .ref nm, .ref lb, .ref lk, .int 0])), (lv, .inr (4, [.ref fm, .ref go, .ref sk, .ref sa])), (go, .inr (7, [.ref goA])), (goA, .inl (cI, 5, .inl (fun _ => 0))), (nm, .inr (6, [.ref st, .ref lv, .ref us, .ref gr, .ref nu, .ref lt, .ref li, .ref fx, .ref sr, .ref rs, .ref wk, .int 0, .int 0])), (st, .inr (8, [.ref od, .ref pp, .ref le, .ref pa, .int 0]))]) (wr := [(ou, .inl (cL, 1, .inr (.inl go8)))]) (va_runV (As := [.int p, .int q]) (rest := [.int 0, .ref ou]) ⟨hx, hb, hml, hown, hts⟩ (k_setGoingOn l D cI x st lv nm lb lk fm go sk sa goA us gr nu lt li fx sr rs wk od pp le pa p q s.heap.size hp) (cwV 2 hts gL_setGoingOn_X8_setGoingOn rfl rfl rfl (by decide +kernel) ⟨Nat.le_of_ble_eq_true rfl, Nat.le_of_ble_eq_true rfl⟩) (zPV hK hP hD [0, 1, 2, 3, 4, 5] rfl rfl [0] rfl 0 rfl rfl rfl) rfl rfl hl.1 rfl (lv_room (Nat.le_of_ble_eq_true rfl)) dL_setGoingOn_5 ⟨Nat.le_of_ble_eq_true rfl, Nat.le_of_ble_eq_true rfl⟩) hP hD hS hA [0, 1, 2, 3, 4, 5] [6] rfl rfl rfl (by decide) (fun r _ H locs hw hP hD hS => ?_)
  have hP : va_P D vwCl [(ou, .inl (cL, 1, .inr (.inl go8)))] H := hP
  have hD : va_D A [(ou, .inl (cL, 1, .inr (.inl go8)))] := hD
  subst hw
  refine lv_if_eq (tgt := 15) hx hb dL_setGoingOn_8 (by decide) (fun _ => ?_) (fun q => absurd q (by decide))
  refine lv_lconst (v := 0) hx hb dL_setGoingOn_15 (by decide) ?_
  refine va_last hx hb hK hP hD hS 0 1 rfl rfl (vp_in_nI (n := 0) (by decide) (by decide)) dL_setGoingOn_16 (fun H locs hP hD hS => ?_)
  have hP : va_P D vwCl [(ou, .inl (cL, 1, .inr (.inl (vp_updL go8 0 0))))] H := hP
  have hD : va_D A [(ou, .inl (cL, 1, .inr (.inl (vp_updL go8 0 0))))] := hD
  refine lv_goto (tgt := 28) hx hb dL_setGoingOn_17 (by decide) ?_
  refine lv_iconst (v := 0) hx hb dL_setGoingOn_28 (by decide) ?_
  obtain ⟨hP9, hD9⟩ := z_get hP hD [0] (wc := [(ou, .inl (cL, 1, .inr (.inl (vp_updL go8 0 0))))]) rfl rfl
  exact W.iret (v := 0) hx hb hr (fun t ht hW => ⟨⟨0, (), rfl, rfl, by rw [ht]; exact hP9, hD9⟩, hS.F ht⟩) hS.2.2 dL_setGoingOn_29

set_option maxHeartbeats 4000000 in
set_option maxRecDepth 100000 in
/-- law: count -/
theorem w_count (l : Launch) (D : va_G) (cI cL : ClassId) (x st lv nm lb lk od pp le pa ou : Nat) (p : Int32) (go8 : Nat → Int64) (sz : Nat) (hp : zKi p) : Met l yL_count wsL_count ({ frames := 3, cells := 0, slots := 0, locals := 64 }) (va_Pc [.ref x, .int p, .ref ou] (zPre D [(cI, .int), (cL, .long)] [(x, .inr (11, [.ref st, .ref lv, .ref nm, .ref lb, .ref lk, .int 0])), (st, .inr (8, [.ref od, .ref pp, .ref le, .ref pa, .int 0])), (ou, .inl (cL, 1, .inr (.inl go8)))] sz)) (va_Qi (fun rv (_ : Unit) => rv = 0) (fun (_ : Unit) => zB D [(ou, .inl (cL, 1, .inr (.inl (vp_updL go8 0 0))))] (va_A [(x, .inr (11, [.ref st, .ref lv, .ref nm, .ref lb, .ref lk, .int 0])), (st, .inr (8, [.ref od, .ref pp, .ref le, .ref pa, .int 0])), (ou, .inl (cL, 1, .inr (.inl go8)))] sz)) (va_A [(x, .inr (11, [.ref st, .ref lv, .ref nm, .ref lb, .ref lk, .int 0])), (st, .inr (8, [.ref od, .ref pp, .ref le, .ref pa, .int 0])), (ou, .inl (cL, 1, .inr (.inl go8)))] sz)) 0 0 (va_A [(x, .inr (11, [.ref st, .ref lv, .ref nm, .ref lb, .ref lk, .int 0])), (st, .inr (8, [.ref od, .ref pp, .ref le, .ref pa, .int 0])), (ou, .inl (cL, 1, .inr (.inl go8)))] sz) := by
  refine va_MetW (cc := cL_count) (maxL := 4) (ret := (some .int)) (by decide) rfl ?_
  intro P0 E0 s m args below meth C9 s₁ B hml hv
  obtain ⟨rfl, hsz, hP, hK, hD0⟩ := hv
  have hx := B.exec
  have hb := B.bytes
  have hr := B.returns
  have hts := atoms_spec (ws := wsL_count) B.pre
  have hown : s.vm.findClass RL = some m.cls := findClass_of_methodNamed B.named
  have hlocks := B.notSynchronized
  subst hsz
  have hD := hD0.self (sz := s.heap.size)
  generalize hAe : va_A [(x, .inr (11, [.ref st, .ref lv, .ref nm, .ref lb, .ref lk, .int 0])), (st, .inr (8, [.ref od, .ref pp, .ref le, .ref pa, .int 0])), (ou, .inl (cL, 1, .inr (.inl go8)))] s.heap.size = A at hD ⊢
  have hA : ∀ q : Nat, s.heap.size ≤ q → A q := fun q h => by rw [← hAe]; exact Or.inr h
  have hS : va_S A s.heap s.heap [] := va_S.rf
  have hl := lv_entry ([.ref x, .int p, .ref ou]) (n := 4) (Nat.le_of_ble_eq_true rfl)
  rw [lg_entry_eq]
  generalize (lg_sl ([.ref x, .int p, .ref ou]) ++ List.replicate (4 - (lg_sl ([.ref x, .int p, .ref ou])).length) Slot.unset).toArray = ls at hl ⊢
  have hl : lv_has ls 4 [(0, .ref x), (1, .int p), (2, .ref ou)] := hl
  refine lv_aload_n hx hb dL_count_0 rfl (lv_at hl 2 rfl) ?_
  refine lv_iconst (v := 0) hx hb dL_count_1 (by decide) ?_
  refine lv_aload_n hx hb dL_count_2 rfl (lv_at hl 0 rfl) ?_
  refine lv_iload_n hx hb dL_count_3 rfl (lv_at hl 1 rfl) ?_
  refine zc_i (wc := [(x, .inr (11, [.ref st, .ref lv, .ref nm, .ref lb, .ref lk, .int 0])), (st, .inr (8, [.ref od, .ref pp, .ref le, .ref pa, .int 0]))]) (wr := [(ou, .inl (cL, 1, .inr (.inl go8)))]) (va_runV (As := [.int p]) (rest := [.int 0, .ref ou]) ⟨hx, hb, hml, hown, hts⟩ (k_count l D cI x st lv nm lb lk od pp le pa p s.heap.size hp) (cwV 1 hts gL_count_X8_count rfl rfl rfl (by decide +kernel) ⟨Nat.le_of_ble_eq_true rfl, Nat.le_of_ble_eq_true rfl⟩) (zPV hK hP hD [0, 1] rfl rfl [0] rfl 0 rfl rfl rfl) rfl rfl hl.1 rfl (lv_room (Nat.le_of_ble_eq_true rfl)) dL_count_4 ⟨Nat.le_of_ble_eq_true rfl, Nat.le_of_ble_eq_true rfl⟩) hP hD hS hA [0, 1] [2] rfl rfl rfl (by decide) (fun r _ H locs hw hP hD hS => ?_)
  have hP : va_P D vwCl [(ou, .inl (cL, 1, .inr (.inl go8)))] H := hP
  have hD : va_D A [(ou, .inl (cL, 1, .inr (.inl go8)))] := hD
  subst hw
  refine lv_i2l (v := 0) hx hb dL_count_7 (by decide) ?_
  refine va_last hx hb hK hP hD hS 0 1 rfl rfl (vp_in_nI (n := 0) (by decide) (by decide)) dL_count_8 (fun H locs hP hD hS => ?_)
  have hP : va_P D vwCl [(ou, .inl (cL, 1, .inr (.inl (vp_updL go8 0 0))))] H := hP
  have hD : va_D A [(ou, .inl (cL, 1, .inr (.inl (vp_updL go8 0 0))))] := hD
  refine lv_goto (tgt := 15) hx hb dL_count_9 (by decide) ?_
  refine lv_iconst (v := 0) hx hb dL_count_15 (by decide) ?_
  obtain ⟨hP9, hD9⟩ := z_get hP hD [0] (wc := [(ou, .inl (cL, 1, .inr (.inl (vp_updL go8 0 0))))]) rfl rfl
  exact W.iret (v := 0) hx hb hr (fun t ht hW => ⟨⟨0, (), rfl, rfl, by rw [ht]; exact hP9, hD9⟩, hS.F ht⟩) hS.2.2 dL_count_16

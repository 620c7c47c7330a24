set_option maxHeartbeats 4000000 in
set_option maxRecDepth 100000 in
theorem k_reqLevel (l : Launch) (D : va_G) (cI : ClassId) (x st lv nm lb lk : Nat) (p : Int32) (sz : Nat) (hp : zLv p) : Met l yX8_requireNumberedLevel wsX8_requireNumberedLevel ({ frames := 0, cells := 0, slots := 0, locals := 0 }) (va_Pc [.ref x, .int p] (zPre D [(cI, .int)] [(x, .inr (11, [.ref st, .ref lv, .ref nm, .ref lb, .ref lk, .int 0]))] sz)) (va_Qv (fun (_ : Unit) => True) (fun (_ : Unit) => zB D [(x, .inr (11, [.ref st, .ref lv, .ref nm, .ref lb, .ref lk, .int 0]))] (va_A [(x, .inr (11, [.ref st, .ref lv, .ref nm, .ref lb, .ref lk, .int 0]))] sz)) (va_A [(x, .inr (11, [.ref st, .ref lv, .ref nm, .ref lb, .ref lk, .int 0]))] sz)) 0 0 (va_A [(x, .inr (11, [.ref st, .ref lv, .ref nm, .ref lb, .ref lk, .int 0]))] sz) := by
  refine Met.ofW (cc := cX8_requireNumberedLevel) (maxL := 2) (ret := none) (by decide) rfl ?_
  intro P0 E0 s m args below meth C9 s₁ B hml hv
  obtain ⟨rfl, hsz, hP, hK, hD0⟩ := hv
  have hx := B.exec
  have hb := B.bytes
  have hr := B.returns
  have hts := atoms_spec (ws := wsX8_requireNumberedLevel) B.pre
  have hown : s.vm.findClass RX8 = some m.cls := findClass_of_methodNamed B.named
  have hlocks := B.notSynchronized
  subst hsz
  have hD := hD0.self (sz := s.heap.size)
  generalize hAe : va_A [(x, .inr (11, [.ref st, .ref lv, .ref nm, .ref lb, .ref lk, .int 0]))] s.heap.size = A at hD ⊢
  have hA : ∀ q : Nat, s.heap.size ≤ q → A q := fun q h => by rw [← hAe]; exact Or.inr h
  have hS : va_S A s.heap s.heap [] := va_S.rf
  have hl := lv_entry ([.ref x, .int p]) (n := 2) (Nat.le_of_ble_eq_true rfl)
  rw [lg_entry_eq]
  generalize (lg_sl ([.ref x, .int p]) ++ List.replicate (2 - (lg_sl ([.ref x, .int p])).length) Slot.unset).toArray = ls at hl ⊢
  have hl : lv_has ls 2 [(0, .ref x), (1, .int p)] := hl
  refine lv_iload_n hx hb dX8_requireNumberedLevel_0 rfl (lv_at hl 1 rfl) ?_
  refine lv_if_le (tgt := 9) hx hb dX8_requireNumberedLevel_1 (by decide) (fun q => absurd q hp.1) (fun _ => ?_)
  refine lv_iload_n hx hb dX8_requireNumberedLevel_4 rfl (lv_at hl 1 rfl) ?_
  refine lv_iconst (v := 4) hx hb dX8_requireNumberedLevel_5 (by decide) ?_
  refine lv_icmp_le (tgt := 17) hx hb dX8_requireNumberedLevel_6 (by decide) (fun _ => ?_) (fun q => absurd q (fun h => h hp.2))
  obtain ⟨hP9, hD9⟩ := z_get hP hD [0] (wc := [(x, .inr (11, [.ref st, .ref lv, .ref nm, .ref lb, .ref lk, .int 0]))]) rfl rfl
  exact W.vret hx hb hr (fun t ht hW => ⟨⟨(), rfl, trivial, by rw [ht]; exact hP9, hD9⟩, hS.F ht⟩) hS.2.2 dX8_requireNumberedLevel_17

set_option maxHeartbeats 4000000 in
set_option maxRecDepth 100000 in
theorem x_reqLevel (l : Launch) (D : va_G) (cI : ClassId) (x st lv nm lb lk : Nat) (p : Int32) (sz : Nat) (hst : l.stackTraces = false) (hp : ¬ zLv p) : vx_Met l yX8_requireNumberedLevel wsX8_requireNumberedLevel ({ frames := 6, cells := 1, slots := 6, locals := 89 }) (va_Pc [.ref x, .int p] (zPreX D [(cI, .int)] [(x, .inr (11, [.ref st, .ref lv, .ref nm, .ref lb, .ref lk, .int 0]))] sz)) (va_Qv (fun (_ : Unit) => False) (fun _ _ => True) (va_A [(x, .inr (11, [.ref st, .ref lv, .ref nm, .ref lb, .ref lk, .int 0]))] sz)) (zX "java/lang/IllegalArgumentException" (va_A [(x, .inr (11, [.ref st, .ref lv, .ref nm, .ref lb, .ref lk, .int 0]))] sz)) 1 6 (va_A [(x, .inr (11, [.ref st, .ref lv, .ref nm, .ref lb, .ref lk, .int 0]))] sz) := by
  refine vx_ofW (cc := cX8_requireNumberedLevel) (maxL := 2) (ret := none) (by decide) rfl ?_
  intro P0 E0 s m args below meth C9 s₁ B hml hout hv
  obtain ⟨rfl, ⟨hsz, hP, hK, hD0⟩, ⟨hU, hN⟩, hKB⟩ := hv
  have hx := B.exec
  have hb := B.bytes
  have hr := B.returns
  have hts := atoms_spec (ws := wsX8_requireNumberedLevel) B.pre
  have hown : s.vm.findClass RX8 = some m.cls := findClass_of_methodNamed B.named
  have hlocks := B.notSynchronized
  subst hsz
  have hD := hD0.self (sz := s.heap.size)
  generalize hAe : va_A [(x, .inr (11, [.ref st, .ref lv, .ref nm, .ref lb, .ref lk, .int 0]))] s.heap.size = A at hD hU hN ⊢
  have hA : ∀ q : Nat, s.heap.size ≤ q → A q := fun q h => by rw [← hAe]; exact Or.inr h
  have hS : va_S A s.heap s.heap [] := va_S.rf
  have hl := lv_entry ([.ref x, .int p]) (n := 2) (Nat.le_of_ble_eq_true rfl)
  rw [lg_entry_eq]
  generalize (lg_sl ([.ref x, .int p]) ++ List.replicate (2 - (lg_sl ([.ref x, .int p])).length) Slot.unset).toArray = ls at hl ⊢
  have hl : lv_has ls 2 [(0, .ref x), (1, .int p)] := hl
  refine lv_iload_n hx hb dX8_requireNumberedLevel_0 rfl (lv_at hl 1 rfl) ?_
  refine lv_if_le (tgt := 9) hx hb dX8_requireNumberedLevel_1 (by decide) (fun c1 => ?_) (fun c1 => ?_)
  · exact vx_throw0 (own := RX8) (cls := "java/lang/IllegalArgumentException") (names := ["java/lang/RuntimeException", "java/lang/Exception"]) (ik := 52) (ic := 54) hx hb hst hown (by decide +kernel) (by decide +kernel) (hts (.classLink RX8 52 "java/lang/IllegalArgumentException") (List.mem_of_getElem? (i := 1) rfl)) (hts (.initialized "java/lang/IllegalArgumentException") (List.mem_of_getElem? (i := 2) rfl)) (zhat0 (fun w h => hts w ((fun _ h => List.mem_cons_of_mem _ (List.mem_append_right _ h)) w h)) hKB (by decide +kernel)) (by decide +kernel) hU hN hS (hl.1.trans hml.symm) dX8_requireNumberedLevel_9 dX8_requireNumberedLevel_12 dX8_requireNumberedLevel_13 dX8_requireNumberedLevel_16 (fun x h => (hout x h).elim) (Nat.lt_of_succ_le (Nat.le_of_ble_eq_true rfl)) (Nat.le_of_ble_eq_true rfl) (Nat.le_of_ble_eq_true rfl) (Nat.le_of_ble_eq_true rfl) hlocks (fun t hvm hz hk => ⟨(), trivial, rfl, zF_throw hS hz hk⟩) hS.2.2 (Nat.le_of_ble_eq_true rfl) (Nat.le_of_ble_eq_true rfl)
  · refine lv_iload_n hx hb dX8_requireNumberedLevel_4 rfl (lv_at hl 1 rfl) ?_
    refine lv_iconst (v := 4) hx hb dX8_requireNumberedLevel_5 (by decide) ?_
    refine lv_icmp_le (tgt := 17) hx hb dX8_requireNumberedLevel_6 (by decide) (fun q => absurd q (fun h => hp ⟨c1, h⟩)) (fun _ => ?_)
    exact vx_throw0 (own := RX8) (cls := "java/lang/IllegalArgumentException") (names := ["java/lang/RuntimeException", "java/lang/Exception"]) (ik := 52) (ic := 54) hx hb hst hown (by decide +kernel) (by decide +kernel) (hts (.classLink RX8 52 "java/lang/IllegalArgumentException") (List.mem_of_getElem? (i := 1) rfl)) (hts (.initialized "java/lang/IllegalArgumentException") (List.mem_of_getElem? (i := 2) rfl)) (zhat0 (fun w h => hts w ((fun _ h => List.mem_cons_of_mem _ (List.mem_append_right _ h)) w h)) hKB (by decide +kernel)) (by decide +kernel) hU hN hS (hl.1.trans hml.symm) dX8_requireNumberedLevel_9 dX8_requireNumberedLevel_12 dX8_requireNumberedLevel_13 dX8_requireNumberedLevel_16 (fun x h => (hout x h).elim) (Nat.lt_of_succ_le (Nat.le_of_ble_eq_true rfl)) (Nat.le_of_ble_eq_true rfl) (Nat.le_of_ble_eq_true rfl) (Nat.le_of_ble_eq_true rfl) hlocks (fun t hvm hz hk => ⟨(), trivial, rfl, zF_throw hS hz hk⟩) hS.2.2 (Nat.le_of_ble_eq_true rfl) (Nat.le_of_ble_eq_true rfl)

set_option maxHeartbeats 4000000 in
set_option maxRecDepth 100000 in
theorem k_reqSkip (l : Launch) (D : va_G) (cI : ClassId) (x st lv nm lb lk : Nat) (p q : Int32) (sz : Nat) (hp : zSk p q) : Met l yX8_requireSkippable wsX8_requireSkippable ({ frames := 1, cells := 0, slots := 0, locals := 21 }) (va_Pc [.ref x, .int p, .int q] (zPre D [(cI, .int)] [(x, .inr (11, [.ref st, .ref lv, .ref nm, .ref lb, .ref lk, .int 0]))] sz)) (va_Qv (fun (_ : Unit) => True) (fun (_ : Unit) => zB D [(x, .inr (11, [.ref st, .ref lv, .ref nm, .ref lb, .ref lk, .int 0]))] (va_A [(x, .inr (11, [.ref st, .ref lv, .ref nm, .ref lb, .ref lk, .int 0]))] sz)) (va_A [(x, .inr (11, [.ref st, .ref lv, .ref nm, .ref lb, .ref lk, .int 0]))] sz)) 0 0 (va_A [(x, .inr (11, [.ref st, .ref lv, .ref nm, .ref lb, .ref lk, .int 0]))] sz) := by
  refine Met.ofW (cc := cX8_requireSkippable) (maxL := 3) (ret := none) (by decide) rfl ?_
  intro P0 E0 s m args below meth C9 s₁ B hml hv
  obtain ⟨rfl, hsz, hP, hK, hD0⟩ := hv
  have hx := B.exec
  have hb := B.bytes
  have hr := B.returns
  have hts := atoms_spec (ws := wsX8_requireSkippable) B.pre
  have hown : s.vm.findClass RX8 = some m.cls := findClass_of_methodNamed B.named
  have hlocks := B.notSynchronized
  subst hsz
  have hD := hD0.self (sz := s.heap.size)
  generalize hAe : va_A [(x, .inr (11, [.ref st, .ref lv, .ref nm, .ref lb, .ref lk, .int 0]))] s.heap.size = A at hD ⊢
  have hA : ∀ q : Nat, s.heap.size ≤ q → A q := fun q h => by rw [← hAe]; exact Or.inr h
  have hS : va_S A s.heap s.heap [] := va_S.rf
  have hl := lv_entry ([.ref x, .int p, .int q]) (n := 3) (Nat.le_of_ble_eq_true rfl)
  rw [lg_entry_eq]
  generalize (lg_sl ([.ref x, .int p, .int q]) ++ List.replicate (3 - (lg_sl ([.ref x, .int p, .int q])).length) Slot.unset).toArray = ls at hl ⊢
  have hl : lv_has ls 3 [(0, .ref x), (1, .int p), (2, .int q)] := hl
  refine lv_aload_n hx hb dX8_requireSkippable_0 rfl (lv_at hl 0 rfl) ?_
  refine lv_iload_n hx hb dX8_requireSkippable_1 rfl (lv_at hl 1 rfl) ?_
  refine zc_v (wc := [(x, .inr (11, [.ref st, .ref lv, .ref nm, .ref lb, .ref lk, .int 0]))]) (wr := []) (va_runV (As := [.int p]) (rest := []) ⟨hx, hb, hml, hown, hts⟩ (k_reqLevel l D cI x st lv nm lb lk p s.heap.size hp.1) (cwV 1 hts gX8_requireSkippable_X8_requireNumberedLevel rfl rfl rfl (by decide +kernel) ⟨Nat.le_of_ble_eq_true rfl, Nat.le_of_ble_eq_true rfl⟩) (zPV hK hP hD [0] rfl rfl [0] rfl 0 rfl rfl rfl) rfl rfl hl.1 rfl (lv_room (Nat.le_of_ble_eq_true rfl)) dX8_requireSkippable_2 ⟨Nat.le_of_ble_eq_true rfl, Nat.le_of_ble_eq_true rfl⟩) hP hD hS hA [0] [] rfl rfl rfl (by decide) (fun  _ H locs hw hP hD hS => ?_)
  have hP : va_P D vwCl [(x, .inr (11, [.ref st, .ref lv, .ref nm, .ref lb, .ref lk, .int 0]))] H := hP
  have hD : va_D A [(x, .inr (11, [.ref st, .ref lv, .ref nm, .ref lb, .ref lk, .int 0]))] := hD
  refine lv_iload_n hx hb dX8_requireSkippable_5 rfl (lv_at hl 2 rfl) ?_
  refine lv_iconst (v := 1) hx hb dX8_requireSkippable_6 (by decide) ?_
  refine lv_icmp_lt (tgt := 16) hx hb dX8_requireSkippable_7 (by decide) (fun q => absurd q hp.2.1) (fun _ => ?_)
  refine lv_iload_n hx hb dX8_requireSkippable_10 rfl (lv_at hl 2 rfl) ?_
  refine lv_bipush (v := 99) hx hb dX8_requireSkippable_11 (by decide) ?_
  refine lv_icmp_le (tgt := 24) hx hb dX8_requireSkippable_13 (by decide) (fun _ => ?_) (fun q => absurd q (fun h => h hp.2.2))
  obtain ⟨hP9, hD9⟩ := z_get hP hD [0] (wc := [(x, .inr (11, [.ref st, .ref lv, .ref nm, .ref lb, .ref lk, .int 0]))]) rfl rfl
  exact W.vret hx hb hr (fun t ht hW => ⟨⟨(), rfl, trivial, by rw [ht]; exact hP9, hD9⟩, hS.F ht⟩) hS.2.2 dX8_requireSkippable_24

set_option maxHeartbeats 4000000 in
set_option maxRecDepth 100000 in
theorem x_reqSkip (l : Launch) (D : va_G) (cI : ClassId) (x st lv nm lb lk : Nat) (p q : Int32) (sz : Nat) (hst : l.stackTraces = false) (hp : ¬ zSk p q) : vx_Met l yX8_requireSkippable wsX8_requireSkippable ({ frames := 7, cells := 1, slots := 6, locals := 110 }) (va_Pc [.ref x, .int p, .int q] (zPreX D [(cI, .int)] [(x, .inr (11, [.ref st, .ref lv, .ref nm, .ref lb, .ref lk, .int 0]))] sz)) (va_Qv (fun (_ : Unit) => False) (fun _ _ => True) (va_A [(x, .inr (11, [.ref st, .ref lv, .ref nm, .ref lb, .ref lk, .int 0]))] sz)) (zX "java/lang/IllegalArgumentException" (va_A [(x, .inr (11, [.ref st, .ref lv, .ref nm, .ref lb, .ref lk, .int 0]))] sz)) 1 6 (va_A [(x, .inr (11, [.ref st, .ref lv, .ref nm, .ref lb, .ref lk, .int 0]))] sz) := by
  refine vx_ofW (cc := cX8_requireSkippable) (maxL := 3) (ret := none) (by decide) rfl ?_
  intro P0 E0 s m args below meth C9 s₁ B hml hout hv
  obtain ⟨rfl, ⟨hsz, hP, hK, hD0⟩, ⟨hU, hN⟩, hKB⟩ := hv
  have hx := B.exec
  have hb := B.bytes
  have hr := B.returns
  have hts := atoms_spec (ws := wsX8_requireSkippable) B.pre
  have hown : s.vm.findClass RX8 = some m.cls := findClass_of_methodNamed B.named
  have hlocks := B.notSynchronized
  subst hsz
  have hD := hD0.self (sz := s.heap.size)
  generalize hAe : va_A [(x, .inr (11, [.ref st, .ref lv, .ref nm, .ref lb, .ref lk, .int 0]))] s.heap.size = A at hD hU hN ⊢
  have hA : ∀ q : Nat, s.heap.size ≤ q → A q := fun q h => by rw [← hAe]; exact Or.inr h
  have hS : va_S A s.heap s.heap [] := va_S.rf
  have hl := lv_entry ([.ref x, .int p, .int q]) (n := 3) (Nat.le_of_ble_eq_true rfl)
  rw [lg_entry_eq]
  generalize (lg_sl ([.ref x, .int p, .int q]) ++ List.replicate (3 - (lg_sl ([.ref x, .int p, .int q])).length) Slot.unset).toArray = ls at hl ⊢
  have hl : lv_has ls 3 [(0, .ref x), (1, .int p), (2, .int q)] := hl
  refine lv_aload_n hx hb dX8_requireSkippable_0 rfl (lv_at hl 0 rfl) ?_
  refine lv_iload_n hx hb dX8_requireSkippable_1 rfl (lv_at hl 1 rfl) ?_
  by_cases hc : zLv p
  · refine zc_v (wc := [(x, .inr (11, [.ref st, .ref lv, .ref nm, .ref lb, .ref lk, .int 0]))]) (wr := []) (va_runV (As := [.int p]) (rest := []) ⟨hx, hb, hml, hown, hts⟩ (k_reqLevel l D cI x st lv nm lb lk p s.heap.size hc) (cwV 1 hts gX8_requireSkippable_X8_requireNumberedLevel rfl rfl rfl (by decide +kernel) ⟨Nat.le_of_ble_eq_true rfl, Nat.le_of_ble_eq_true rfl⟩) (zPV hK hP hD [0] rfl rfl [0] rfl 0 rfl rfl rfl) rfl rfl hl.1 rfl (lv_room (Nat.le_of_ble_eq_true rfl)) dX8_requireSkippable_2 ⟨Nat.le_of_ble_eq_true rfl, Nat.le_of_ble_eq_true rfl⟩) hP hD hS hA [0] [] rfl rfl rfl (by decide) (fun  _ H locs hw hP hD hS => ?_)
    have hP : va_P D vwCl [(x, .inr (11, [.ref st, .ref lv, .ref nm, .ref lb, .ref lk, .int 0]))] H := hP
    have hD : va_D A [(x, .inr (11, [.ref st, .ref lv, .ref nm, .ref lb, .ref lk, .int 0]))] := hD
    refine lv_iload_n hx hb dX8_requireSkippable_5 rfl (lv_at hl 2 rfl) ?_
    refine lv_iconst (v := 1) hx hb dX8_requireSkippable_6 (by decide) ?_
    refine lv_icmp_lt (tgt := 16) hx hb dX8_requireSkippable_7 (by decide) (fun c1 => ?_) (fun c1 => ?_)
    · exact vx_throw0 (own := RX8) (cls := "java/lang/IllegalArgumentException") (names := ["java/lang/RuntimeException", "java/lang/Exception"]) (ik := 52) (ic := 54) hx hb hst hown (by decide +kernel) (by decide +kernel) (hts (.classLink RX8 52 "java/lang/IllegalArgumentException") (List.mem_of_getElem? (i := 1) rfl)) (hts (.initialized "java/lang/IllegalArgumentException") (List.mem_of_getElem? (i := 2) rfl)) (zhat0 (fun w h => hts w ((fun _ h => List.mem_cons_of_mem _ (List.mem_append_right _ h)) w h)) hKB (by decide +kernel)) (by decide +kernel) hU hN hS (hl.1.trans hml.symm) dX8_requireSkippable_16 dX8_requireSkippable_19 dX8_requireSkippable_20 dX8_requireSkippable_23 (fun x h => (hout x h).elim) (Nat.lt_of_succ_le (Nat.le_of_ble_eq_true rfl)) (Nat.le_of_ble_eq_true rfl) (Nat.le_of_ble_eq_true rfl) (Nat.le_of_ble_eq_true rfl) hlocks (fun t hvm hz hk => ⟨(), trivial, rfl, zF_throw hS hz hk⟩) hS.2.2 (Nat.le_of_ble_eq_true rfl) (Nat.le_of_ble_eq_true rfl)
    · refine lv_iload_n hx hb dX8_requireSkippable_10 rfl (lv_at hl 2 rfl) ?_
      refine lv_bipush (v := 99) hx hb dX8_requireSkippable_11 (by decide) ?_
      refine lv_icmp_le (tgt := 24) hx hb dX8_requireSkippable_13 (by decide) (fun q => absurd q (fun h => hp ⟨hc, c1, h⟩)) (fun _ => ?_)
      exact vx_throw0 (own := RX8) (cls := "java/lang/IllegalArgumentException") (names := ["java/lang/RuntimeException", "java/lang/Exception"]) (ik := 52) (ic := 54) hx hb hst hown (by decide +kernel) (by decide +kernel) (hts (.classLink RX8 52 "java/lang/IllegalArgumentException") (List.mem_of_getElem? (i := 1) rfl)) (hts (.initialized "java/lang/IllegalArgumentException") (List.mem_of_getElem? (i := 2) rfl)) (zhat0 (fun w h => hts w ((fun _ h => List.mem_cons_of_mem _ (List.mem_append_right _ h)) w h)) hKB (by decide +kernel)) (by decide +kernel) hU hN hS (hl.1.trans hml.symm) dX8_requireSkippable_16 dX8_requireSkippable_19 dX8_requireSkippable_20 dX8_requireSkippable_23 (fun x h => (hout x h).elim) (Nat.lt_of_succ_le (Nat.le_of_ble_eq_true rfl)) (Nat.le_of_ble_eq_true rfl) (Nat.le_of_ble_eq_true rfl) (Nat.le_of_ble_eq_true rfl) hlocks (fun t hvm hz hk => ⟨(), trivial, rfl, zF_throw hS hz hk⟩) hS.2.2 (Nat.le_of_ble_eq_true rfl) (Nat.le_of_ble_eq_true rfl)
  · refine zc_x (wc := [(x, .inr (11, [.ref st, .ref lv, .ref nm, .ref lb, .ref lk, .int 0]))]) (wr := []) (fun st v t h => by obtain ⟨h1, -⟩ := h; obtain ⟨u, -, h2, -⟩ := h1; exact h2) (vx_runV (As := [.int p]) (rest := []) ⟨hx, hb, hml, hown, hts⟩ (x_reqLevel l D cI x st lv nm lb lk p s.heap.size hst hc) (cwV 1 hts gX8_requireSkippable_X8_requireNumberedLevel rfl rfl rfl (by decide +kernel) ⟨Nat.le_of_ble_eq_true rfl, Nat.le_of_ble_eq_true rfl⟩) (zPVX ⟨hU, hN⟩ hKB hS hA hK hP hD [0] rfl rfl [0] rfl 0 rfl rfl rfl) rfl rfl hl.1 rfl (lv_room (Nat.le_of_ble_eq_true rfl)) dX8_requireSkippable_2 ⟨Nat.le_of_ble_eq_true rfl, Nat.le_of_ble_eq_true rfl⟩) hP hD hS hA [0] [] rfl rfl rfl (by decide) (fun ce q9 H locs hP hD hS hce hcv hcl => ?_)
    exact vx_out (fun x h => (hout x h).elim) hlocks hce hcv hcl (fun t ht hvm => ⟨(), trivial, rfl, hS.F ht⟩) hS.2.2 (Nat.le_refl _) (Nat.le_refl _)

set_option maxHeartbeats 4000000 in
set_option maxRecDepth 100000 in
theorem k_findGroups0 (l : Launch) (D : va_G) (cI : ClassId) (nm st lv us gr nu lt li fx sr rs wk od pp le pa : Nat) (sz : Nat) : Met l yX3_findGroups wsX3_findGroups ({ frames := 1, cells := 0, slots := 0, locals := 20 }) (va_Pc [.ref nm] (zPre D [(cI, .int)] [(nm, .inr (6, [.ref st, .ref lv, .ref us, .ref gr, .ref nu, .ref lt, .ref li, .ref fx, .ref sr, .ref rs, .ref wk, .int 0, .int 0])), (st, .inr (8, [.ref od, .ref pp, .ref le, .ref pa, .int 0]))] sz)) (va_Qv (fun (_ : Unit) => True) (fun (_ : Unit) => zB D [(nm, .inr (6, [.ref st, .ref lv, .ref us, .ref gr, .ref nu, .ref lt, .ref li, .ref fx, .ref sr, .ref rs, .ref wk, .int 0, .int 0])), (st, .inr (8, [.ref od, .ref pp, .ref le, .ref pa, .int 0]))] (va_A [(nm, .inr (6, [.ref st, .ref lv, .ref us, .ref gr, .ref nu, .ref lt, .ref li, .ref fx, .ref sr, .ref rs, .ref wk, .int 0, .int 0])), (st, .inr (8, [.ref od, .ref pp, .ref le, .ref pa, .int 0]))] sz)) (va_A [(nm, .inr (6, [.ref st, .ref lv, .ref us, .ref gr, .ref nu, .ref lt, .ref li, .ref fx, .ref sr, .ref rs, .ref wk, .int 0, .int 0])), (st, .inr (8, [.ref od, .ref pp, .ref le, .ref pa, .int 0]))] sz)) 0 0 (va_A [(nm, .inr (6, [.ref st, .ref lv, .ref us, .ref gr, .ref nu, .ref lt, .ref li, .ref fx, .ref sr, .ref rs, .ref wk, .int 0, .int 0])), (st, .inr (8, [.ref od, .ref pp, .ref le, .ref pa, .int 0]))] sz) := by
  refine Met.ofW (cc := cX3_findGroups) (maxL := 5) (ret := none) (by decide) rfl ?_
  intro P0 E0 s m args below meth C9 s₁ B hml hv
  obtain ⟨rfl, hsz, hP, hK, hD0⟩ := hv
  have hx := B.exec
  have hb := B.bytes
  have hr := B.returns
  have hts := atoms_spec (ws := wsX3_findGroups) B.pre
  have hown : s.vm.findClass RX3 = some m.cls := findClass_of_methodNamed B.named
  have hlocks := B.notSynchronized
  subst hsz
  have hD := hD0.self (sz := s.heap.size)
  generalize hAe : va_A [(nm, .inr (6, [.ref st, .ref lv, .ref us, .ref gr, .ref nu, .ref lt, .ref li, .ref fx, .ref sr, .ref rs, .ref wk, .int 0, .int 0])), (st, .inr (8, [.ref od, .ref pp, .ref le, .ref pa, .int 0]))] s.heap.size = A at hD ⊢
  have hA : ∀ q : Nat, s.heap.size ≤ q → A q := fun q h => by rw [← hAe]; exact Or.inr h
  have hS : va_S A s.heap s.heap [] := va_S.rf
  have hl := lv_entry ([.ref nm]) (n := 5) (Nat.le_of_ble_eq_true rfl)
  rw [lg_entry_eq]
  generalize (lg_sl ([.ref nm]) ++ List.replicate (5 - (lg_sl ([.ref nm])).length) Slot.unset).toArray = ls at hl ⊢
  have hl : lv_has ls 5 [(0, .ref nm)] := hl
  refine lv_iconst (v := 0) hx hb dX3_findGroups_0 (by decide) ?_
  refine lv_istore_n (lv' := [(1, .int 0), (0, .ref nm)]) hx hb dX3_findGroups_1 rfl hl (by decide) rfl (fun ls hl => ?_)
  refine lv_iload_n hx hb dX3_findGroups_2 rfl (lv_at hl 0 rfl) ?_
  refine lv_aload_n hx hb dX3_findGroups_3 rfl (lv_at hl 1 rfl) ?_
  refine va_get (D := D) (ci := 6) (v := .ref st) (C := RX3) (T := TX3) (N := 13) hx hb hts (fun _ h => List.mem_cons_of_mem _ (List.mem_append_left _ (List.mem_append_left _ (List.mem_append_left _ (List.mem_append_left _ (List.mem_append_right _ h)))))) hown hK hP 0 rfl rfl 0 (by decide) (hts (.fieldLink RX3 48 "NumberingTree$Numbers" "standing" "LNumberingTree$Standing;") (List.mem_of_getElem? (i := 1) rfl)) (fun _ h9 => h9) rfl dX3_findGroups_4 ?_
  refine zc_i (wc := [(st, .inr (8, [.ref od, .ref pp, .ref le, .ref pa, .int 0]))]) (wr := [(nm, .inr (6, [.ref st, .ref lv, .ref us, .ref gr, .ref nu, .ref lt, .ref li, .ref fx, .ref sr, .ref rs, .ref wk, .int 0, .int 0]))]) (va_runV (As := []) (rest := [.int 0]) ⟨hx, hb, hml, hown, hts⟩ (k_amount l D cI st od pp le pa 0 s.heap.size) (cwV 0 hts gX3_findGroups_X5_amount rfl rfl rfl (by decide +kernel) ⟨Nat.le_of_ble_eq_true rfl, Nat.le_of_ble_eq_true rfl⟩) (zPV hK hP hD [1] rfl rfl [0] rfl 0 rfl rfl rfl) rfl rfl hl.1 rfl (lv_room (Nat.le_of_ble_eq_true rfl)) dX3_findGroups_7 ⟨Nat.le_of_ble_eq_true rfl, Nat.le_of_ble_eq_true rfl⟩) hP hD hS hA [1] [0] rfl rfl rfl (by decide) (fun r _ H locs hw hP hD hS => ?_)
  have hP : va_P D vwCl [(nm, .inr (6, [.ref st, .ref lv, .ref us, .ref gr, .ref nu, .ref lt, .ref li, .ref fx, .ref sr, .ref rs, .ref wk, .int 0, .int 0])), (st, .inr (8, [.ref od, .ref pp, .ref le, .ref pa, .int 0]))] H := hP
  have hD : va_D A [(nm, .inr (6, [.ref st, .ref lv, .ref us, .ref gr, .ref nu, .ref lt, .ref li, .ref fx, .ref sr, .ref rs, .ref wk, .int 0, .int 0])), (st, .inr (8, [.ref od, .ref pp, .ref le, .ref pa, .int 0]))] := hD
  subst hw
  refine lv_icmp_ge (tgt := 79) hx hb dX3_findGroups_10 (by decide) (fun _ => ?_) (fun q => absurd q (by decide))
  obtain ⟨hP9, hD9⟩ := z_get hP hD [0, 1] (wc := [(nm, .inr (6, [.ref st, .ref lv, .ref us, .ref gr, .ref nu, .ref lt, .ref li, .ref fx, .ref sr, .ref rs, .ref wk, .int 0, .int 0])), (st, .inr (8, [.ref od, .ref pp, .ref le, .ref pa, .int 0]))]) rfl rfl
  exact W.vret hx hb hr (fun t ht hW => ⟨⟨(), rfl, trivial, by rw [ht]; exact hP9, hD9⟩, hS.F ht⟩) hS.2.2 dX3_findGroups_79

set_option maxHeartbeats 4000000 in
set_option maxRecDepth 100000 in
theorem k_renumber0 (l : Launch) (D : va_G) (cI : ClassId) (nm st lv us gr nu lt li fx sr rs wk od pp le pa : Nat) (sz : Nat) : Met l yX3_renumber wsX3_renumber ({ frames := 2, cells := 0, slots := 0, locals := 44 }) (va_Pc [.ref nm] (zPre D [(cI, .int)] [(nm, .inr (6, [.ref st, .ref lv, .ref us, .ref gr, .ref nu, .ref lt, .ref li, .ref fx, .ref sr, .ref rs, .ref wk, .int 0, .int 0])), (st, .inr (8, [.ref od, .ref pp, .ref le, .ref pa, .int 0]))] sz)) (va_Qv (fun (_ : Unit) => True) (fun (_ : Unit) => zB D [(nm, .inr (6, [.ref st, .ref lv, .ref us, .ref gr, .ref nu, .ref lt, .ref li, .ref fx, .ref sr, .ref rs, .ref wk, .int 0, .int 0])), (st, .inr (8, [.ref od, .ref pp, .ref le, .ref pa, .int 0]))] (va_A [(nm, .inr (6, [.ref st, .ref lv, .ref us, .ref gr, .ref nu, .ref lt, .ref li, .ref fx, .ref sr, .ref rs, .ref wk, .int 0, .int 0])), (st, .inr (8, [.ref od, .ref pp, .ref le, .ref pa, .int 0]))] sz)) (va_A [(nm, .inr (6, [.ref st, .ref lv, .ref us, .ref gr, .ref nu, .ref lt, .ref li, .ref fx, .ref sr, .ref rs, .ref wk, .int 0, .int 0])), (st, .inr (8, [.ref od, .ref pp, .ref le, .ref pa, .int 0]))] sz)) 0 0 (va_A [(nm, .inr (6, [.ref st, .ref lv, .ref us, .ref gr, .ref nu, .ref lt, .ref li, .ref fx, .ref sr, .ref rs, .ref wk, .int 0, .int 0])), (st, .inr (8, [.ref od, .ref pp, .ref le, .ref pa, .int 0]))] sz) := by
  refine Met.ofW (cc := cX3_renumber) (maxL := 3) (ret := none) (by decide) rfl ?_
  intro P0 E0 s m args below meth C9 s₁ B hml hv
  obtain ⟨rfl, hsz, hP, hK, hD0⟩ := hv
  have hx := B.exec
  have hb := B.bytes
  have hr := B.returns
  have hts := atoms_spec (ws := wsX3_renumber) B.pre
  have hown : s.vm.findClass RX3 = some m.cls := findClass_of_methodNamed B.named
  have hlocks := B.notSynchronized
  subst hsz
  have hD := hD0.self (sz := s.heap.size)
  generalize hAe : va_A [(nm, .inr (6, [.ref st, .ref lv, .ref us, .ref gr, .ref nu, .ref lt, .ref li, .ref fx, .ref sr, .ref rs, .ref wk, .int 0, .int 0])), (st, .inr (8, [.ref od, .ref pp, .ref le, .ref pa, .int 0]))] s.heap.size = A at hD ⊢
  have hA : ∀ q : Nat, s.heap.size ≤ q → A q := fun q h => by rw [← hAe]; exact Or.inr h
  have hS : va_S A s.heap s.heap [] := va_S.rf
  have hl := lv_entry ([.ref nm]) (n := 3) (Nat.le_of_ble_eq_true rfl)
  rw [lg_entry_eq]
  generalize (lg_sl ([.ref nm]) ++ List.replicate (3 - (lg_sl ([.ref nm])).length) Slot.unset).toArray = ls at hl ⊢
  have hl : lv_has ls 3 [(0, .ref nm)] := hl
  refine lv_aload_n hx hb dX3_renumber_0 rfl (lv_at hl 0 rfl) ?_
  refine zc_v (wc := [(nm, .inr (6, [.ref st, .ref lv, .ref us, .ref gr, .ref nu, .ref lt, .ref li, .ref fx, .ref sr, .ref rs, .ref wk, .int 0, .int 0])), (st, .inr (8, [.ref od, .ref pp, .ref le, .ref pa, .int 0]))]) (wr := []) (va_runV (As := []) (rest := []) ⟨hx, hb, hml, hown, hts⟩ (k_findGroups0 l D cI nm st lv us gr nu lt li fx sr rs wk od pp le pa s.heap.size) (cwV 0 hts gX3_renumber_X3_findGroups rfl rfl rfl (by decide +kernel) ⟨Nat.le_of_ble_eq_true rfl, Nat.le_of_ble_eq_true rfl⟩) (zPV hK hP hD [0, 1] rfl rfl [0] rfl 0 rfl rfl rfl) rfl rfl hl.1 rfl (lv_room (Nat.le_of_ble_eq_true rfl)) dX3_renumber_1 ⟨Nat.le_of_ble_eq_true rfl, Nat.le_of_ble_eq_true rfl⟩) hP hD hS hA [0, 1] [] rfl rfl rfl (by decide) (fun  _ H locs hw hP hD hS => ?_)
  have hP : va_P D vwCl [(nm, .inr (6, [.ref st, .ref lv, .ref us, .ref gr, .ref nu, .ref lt, .ref li, .ref fx, .ref sr, .ref rs, .ref wk, .int 0, .int 0])), (st, .inr (8, [.ref od, .ref pp, .ref le, .ref pa, .int 0]))] H := hP
  have hD : va_D A [(nm, .inr (6, [.ref st, .ref lv, .ref us, .ref gr, .ref nu, .ref lt, .ref li, .ref fx, .ref sr, .ref rs, .ref wk, .int 0, .int 0])), (st, .inr (8, [.ref od, .ref pp, .ref le, .ref pa, .int 0]))] := hD
  refine lv_iconst (v := 0) hx hb dX3_renumber_4 (by decide) ?_
  refine lv_istore_n (lv' := [(1, .int 0), (0, .ref nm)]) hx hb dX3_renumber_5 rfl hl (by decide) rfl (fun ls hl => ?_)
  refine lv_iload_n hx hb dX3_renumber_6 rfl (lv_at hl 0 rfl) ?_
  refine lv_aload_n hx hb dX3_renumber_7 rfl (lv_at hl 1 rfl) ?_
  refine va_get (D := D) (ci := 6) (v := .ref st) (C := RX3) (T := TX3) (N := 13) hx hb hts (fun _ h => List.mem_cons_of_mem _ (List.mem_append_left _ (List.mem_append_left _ (List.mem_append_left _ (List.mem_append_left _ (List.mem_append_left _ (List.mem_append_right _ h))))))) hown hK hP 0 rfl rfl 0 (by decide) (hts (.fieldLink RX3 48 "NumberingTree$Numbers" "standing" "LNumberingTree$Standing;") (List.mem_of_getElem? (i := 1) rfl)) (fun _ h9 => h9) rfl dX3_renumber_8 ?_
  refine zc_i (wc := [(st, .inr (8, [.ref od, .ref pp, .ref le, .ref pa, .int 0]))]) (wr := [(nm, .inr (6, [.ref st, .ref lv, .ref us, .ref gr, .ref nu, .ref lt, .ref li, .ref fx, .ref sr, .ref rs, .ref wk, .int 0, .int 0]))]) (va_runV (As := []) (rest := [.int 0]) ⟨hx, hb, hml, hown, hts⟩ (k_amount l D cI st od pp le pa 0 H.size) (cwV 0 hts gX3_renumber_X5_amount rfl rfl rfl (by decide +kernel) ⟨Nat.le_of_ble_eq_true rfl, Nat.le_of_ble_eq_true rfl⟩) (zPV hK hP hD [1] rfl rfl [0] rfl 0 rfl rfl rfl) rfl rfl hl.1 rfl (lv_room (Nat.le_of_ble_eq_true rfl)) dX3_renumber_11 ⟨Nat.le_of_ble_eq_true rfl, Nat.le_of_ble_eq_true rfl⟩) hP hD hS hA [1] [0] rfl rfl rfl (by decide) (fun r _ H locs hw hP hD hS => ?_)
  have hP : va_P D vwCl [(nm, .inr (6, [.ref st, .ref lv, .ref us, .ref gr, .ref nu, .ref lt, .ref li, .ref fx, .ref sr, .ref rs, .ref wk, .int 0, .int 0])), (st, .inr (8, [.ref od, .ref pp, .ref le, .ref pa, .int 0]))] H := hP
  have hD : va_D A [(nm, .inr (6, [.ref st, .ref lv, .ref us, .ref gr, .ref nu, .ref lt, .ref li, .ref fx, .ref sr, .ref rs, .ref wk, .int 0, .int 0])), (st, .inr (8, [.ref od, .ref pp, .ref le, .ref pa, .int 0]))] := hD
  subst hw
  refine lv_icmp_ge (tgt := 56) hx hb dX3_renumber_14 (by decide) (fun _ => ?_) (fun q => absurd q (by decide))
  obtain ⟨hP9, hD9⟩ := z_get hP hD [0, 1] (wc := [(nm, .inr (6, [.ref st, .ref lv, .ref us, .ref gr, .ref nu, .ref lt, .ref li, .ref fx, .ref sr, .ref rs, .ref wk, .int 0, .int 0])), (st, .inr (8, [.ref od, .ref pp, .ref le, .ref pa, .int 0]))]) rfl rfl
  exact W.vret hx hb hr (fun t ht hW => ⟨⟨(), rfl, trivial, by rw [ht]; exact hP9, hD9⟩, hS.F ht⟩) hS.2.2 dX3_renumber_56

set_option maxHeartbeats 4000000 in
set_option maxRecDepth 100000 in
theorem k_fix0 (l : Launch) (D : va_G) (cI : ClassId) (nm st lv us gr nu lt li fx sr rs wk od pp le pa : Nat) (sz : Nat) : Met l yX3_fix wsX3_fix ({ frames := 3, cells := 0, slots := 0, locals := 66 }) (va_Pc [.ref nm] (zPre D [(cI, .int)] [(nm, .inr (6, [.ref st, .ref lv, .ref us, .ref gr, .ref nu, .ref lt, .ref li, .ref fx, .ref sr, .ref rs, .ref wk, .int 0, .int 0])), (st, .inr (8, [.ref od, .ref pp, .ref le, .ref pa, .int 0]))] sz)) (va_Qi (fun rv (_ : Unit) => rv = 0) (fun (_ : Unit) => zB D [(nm, .inr (6, [.ref st, .ref lv, .ref us, .ref gr, .ref nu, .ref lt, .ref li, .ref fx, .ref sr, .ref rs, .ref wk, .int 0, .int 0])), (st, .inr (8, [.ref od, .ref pp, .ref le, .ref pa, .int 0]))] (va_A [(nm, .inr (6, [.ref st, .ref lv, .ref us, .ref gr, .ref nu, .ref lt, .ref li, .ref fx, .ref sr, .ref rs, .ref wk, .int 0, .int 0])), (st, .inr (8, [.ref od, .ref pp, .ref le, .ref pa, .int 0]))] sz)) (va_A [(nm, .inr (6, [.ref st, .ref lv, .ref us, .ref gr, .ref nu, .ref lt, .ref li, .ref fx, .ref sr, .ref rs, .ref wk, .int 0, .int 0])), (st, .inr (8, [.ref od, .ref pp, .ref le, .ref pa, .int 0]))] sz)) 0 0 (va_A [(nm, .inr (6, [.ref st, .ref lv, .ref us, .ref gr, .ref nu, .ref lt, .ref li, .ref fx, .ref sr, .ref rs, .ref wk, .int 0, .int 0])), (st, .inr (8, [.ref od, .ref pp, .ref le, .ref pa, .int 0]))] sz) := by
  refine Met.ofW (cc := cX3_fix) (maxL := 4) (ret := (some .int)) (by decide) rfl ?_
  intro P0 E0 s m args below meth C9 s₁ B hml hv
  obtain ⟨rfl, hsz, hP, hK, hD0⟩ := hv
  have hx := B.exec
  have hb := B.bytes
  have hr := B.returns
  have hts := atoms_spec (ws := wsX3_fix) B.pre
  have hown : s.vm.findClass RX3 = some m.cls := findClass_of_methodNamed B.named
  have hlocks := B.notSynchronized
  subst hsz
  have hD := hD0.self (sz := s.heap.size)
  generalize hAe : va_A [(nm, .inr (6, [.ref st, .ref lv, .ref us, .ref gr, .ref nu, .ref lt, .ref li, .ref fx, .ref sr, .ref rs, .ref wk, .int 0, .int 0])), (st, .inr (8, [.ref od, .ref pp, .ref le, .ref pa, .int 0]))] s.heap.size = A at hD ⊢
  have hA : ∀ q : Nat, s.heap.size ≤ q → A q := fun q h => by rw [← hAe]; exact Or.inr h
  have hS : va_S A s.heap s.heap [] := va_S.rf
  have hl := lv_entry ([.ref nm]) (n := 4) (Nat.le_of_ble_eq_true rfl)
  rw [lg_entry_eq]
  generalize (lg_sl ([.ref nm]) ++ List.replicate (4 - (lg_sl ([.ref nm])).length) Slot.unset).toArray = ls at hl ⊢
  have hl : lv_has ls 4 [(0, .ref nm)] := hl
  refine lv_iconst (v := 0) hx hb dX3_fix_0 (by decide) ?_
  refine lv_istore_n (lv' := [(1, .int 0), (0, .ref nm)]) hx hb dX3_fix_1 rfl hl (by decide) rfl (fun ls hl => ?_)
  refine lv_iconst (v := 0) hx hb dX3_fix_2 (by decide) ?_
  refine lv_istore_n (lv' := [(2, .int 0), (1, .int 0), (0, .ref nm)]) hx hb dX3_fix_3 rfl hl (by decide) rfl (fun ls hl => ?_)
  refine lv_iload_n hx hb dX3_fix_4 rfl (lv_at hl 0 rfl) ?_
  refine lv_aload_n hx hb dX3_fix_5 rfl (lv_at hl 2 rfl) ?_
  refine va_get (D := D) (ci := 6) (v := .ref st) (C := RX3) (T := TX3) (N := 13) hx hb hts (fun _ h => List.mem_cons_of_mem _ (List.mem_append_left _ (List.mem_append_left _ (List.mem_append_left _ (List.mem_append_left _ (List.mem_append_left _ (List.mem_append_right _ h))))))) hown hK hP 0 rfl rfl 0 (by decide) (hts (.fieldLink RX3 48 "NumberingTree$Numbers" "standing" "LNumberingTree$Standing;") (List.mem_of_getElem? (i := 1) rfl)) (fun _ h9 => h9) rfl dX3_fix_6 ?_
  refine zc_i (wc := [(st, .inr (8, [.ref od, .ref pp, .ref le, .ref pa, .int 0]))]) (wr := [(nm, .inr (6, [.ref st, .ref lv, .ref us, .ref gr, .ref nu, .ref lt, .ref li, .ref fx, .ref sr, .ref rs, .ref wk, .int 0, .int 0]))]) (va_runV (As := []) (rest := [.int 0]) ⟨hx, hb, hml, hown, hts⟩ (k_amount l D cI st od pp le pa 0 s.heap.size) (cwV 0 hts gX3_fix_X5_amount rfl rfl rfl (by decide +kernel) ⟨Nat.le_of_ble_eq_true rfl, Nat.le_of_ble_eq_true rfl⟩) (zPV hK hP hD [1] rfl rfl [0] rfl 0 rfl rfl rfl) rfl rfl hl.1 rfl (lv_room (Nat.le_of_ble_eq_true rfl)) dX3_fix_9 ⟨Nat.le_of_ble_eq_true rfl, Nat.le_of_ble_eq_true rfl⟩) hP hD hS hA [1] [0] rfl rfl rfl (by decide) (fun r _ H locs hw hP hD hS => ?_)
  have hP : va_P D vwCl [(nm, .inr (6, [.ref st, .ref lv, .ref us, .ref gr, .ref nu, .ref lt, .ref li, .ref fx, .ref sr, .ref rs, .ref wk, .int 0, .int 0])), (st, .inr (8, [.ref od, .ref pp, .ref le, .ref pa, .int 0]))] H := hP
  have hD : va_D A [(nm, .inr (6, [.ref st, .ref lv, .ref us, .ref gr, .ref nu, .ref lt, .ref li, .ref fx, .ref sr, .ref rs, .ref wk, .int 0, .int 0])), (st, .inr (8, [.ref od, .ref pp, .ref le, .ref pa, .int 0]))] := hD
  subst hw
  refine lv_icmp_ge (tgt := 70) hx hb dX3_fix_12 (by decide) (fun _ => ?_) (fun q => absurd q (by decide))
  refine lv_aload_n hx hb dX3_fix_70 rfl (lv_at hl 2 rfl) ?_
  refine zc_v (wc := [(nm, .inr (6, [.ref st, .ref lv, .ref us, .ref gr, .ref nu, .ref lt, .ref li, .ref fx, .ref sr, .ref rs, .ref wk, .int 0, .int 0])), (st, .inr (8, [.ref od, .ref pp, .ref le, .ref pa, .int 0]))]) (wr := []) (va_runV (As := []) (rest := []) ⟨hx, hb, hml, hown, hts⟩ (k_renumber0 l D cI nm st lv us gr nu lt li fx sr rs wk od pp le pa H.size) (cwV 0 hts gX3_fix_X3_renumber rfl rfl rfl (by decide +kernel) ⟨Nat.le_of_ble_eq_true rfl, Nat.le_of_ble_eq_true rfl⟩) (zPV hK hP hD [0, 1] rfl rfl [0] rfl 0 rfl rfl rfl) rfl rfl hl.1 rfl (lv_room (Nat.le_of_ble_eq_true rfl)) dX3_fix_71 ⟨Nat.le_of_ble_eq_true rfl, Nat.le_of_ble_eq_true rfl⟩) hP hD hS hA [0, 1] [] rfl rfl rfl (by decide) (fun  _ H locs hw hP hD hS => ?_)
  have hP : va_P D vwCl [(nm, .inr (6, [.ref st, .ref lv, .ref us, .ref gr, .ref nu, .ref lt, .ref li, .ref fx, .ref sr, .ref rs, .ref wk, .int 0, .int 0])), (st, .inr (8, [.ref od, .ref pp, .ref le, .ref pa, .int 0]))] H := hP
  have hD : va_D A [(nm, .inr (6, [.ref st, .ref lv, .ref us, .ref gr, .ref nu, .ref lt, .ref li, .ref fx, .ref sr, .ref rs, .ref wk, .int 0, .int 0])), (st, .inr (8, [.ref od, .ref pp, .ref le, .ref pa, .int 0]))] := hD
  refine lv_iload_n hx hb dX3_fix_74 rfl (lv_at hl 1 rfl) ?_
  obtain ⟨hP9, hD9⟩ := z_get hP hD [0, 1] (wc := [(nm, .inr (6, [.ref st, .ref lv, .ref us, .ref gr, .ref nu, .ref lt, .ref li, .ref fx, .ref sr, .ref rs, .ref wk, .int 0, .int 0])), (st, .inr (8, [.ref od, .ref pp, .ref le, .ref pa, .int 0]))]) rfl rfl
  exact W.iret (v := 0) hx hb hr (fun t ht hW => ⟨⟨0, (), rfl, rfl, by rw [ht]; exact hP9, hD9⟩, hS.F ht⟩) hS.2.2 dX3_fix_75

set_option maxHeartbeats 4000000 in
set_option maxRecDepth 100000 in
theorem k_freeze (l : Launch) (D : va_G) (cI : ClassId) (x st lv nm lb lk us gr nu lt li fx sr rs wk od pp le pa : Nat) (sz : Nat) : Met l yX8_freeze wsX8_freeze ({ frames := 4, cells := 0, slots := 0, locals := 89 }) (va_Pc [.ref x] (zPre D [(cI, .int)] [(x, .inr (11, [.ref st, .ref lv, .ref nm, .ref lb, .ref lk, .int 0])), (nm, .inr (6, [.ref st, .ref lv, .ref us, .ref gr, .ref nu, .ref lt, .ref li, .ref fx, .ref sr, .ref rs, .ref wk, .int 0, .int 0])), (st, .inr (8, [.ref od, .ref pp, .ref le, .ref pa, .int 0]))] sz)) (va_Qi (fun rv (_ : Unit) => rv = 0) (fun (_ : Unit) => zB D [] (va_A [(x, .inr (11, [.ref st, .ref lv, .ref nm, .ref lb, .ref lk, .int 0])), (nm, .inr (6, [.ref st, .ref lv, .ref us, .ref gr, .ref nu, .ref lt, .ref li, .ref fx, .ref sr, .ref rs, .ref wk, .int 0, .int 0])), (st, .inr (8, [.ref od, .ref pp, .ref le, .ref pa, .int 0]))] sz)) (va_A [(x, .inr (11, [.ref st, .ref lv, .ref nm, .ref lb, .ref lk, .int 0])), (nm, .inr (6, [.ref st, .ref lv, .ref us, .ref gr, .ref nu, .ref lt, .ref li, .ref fx, .ref sr, .ref rs, .ref wk, .int 0, .int 0])), (st, .inr (8, [.ref od, .ref pp, .ref le, .ref pa, .int 0]))] sz)) 0 0 (va_A [(x, .inr (11, [.ref st, .ref lv, .ref nm, .ref lb, .ref lk, .int 0])), (nm, .inr (6, [.ref st, .ref lv, .ref us, .ref gr, .ref nu, .ref lt, .ref li, .ref fx, .ref sr, .ref rs, .ref wk, .int 0, .int 0])), (st, .inr (8, [.ref od, .ref pp, .ref le, .ref pa, .int 0]))] sz) := by
  refine Met.ofW (cc := cX8_freeze) (maxL := 1) (ret := (some .int)) (by decide) rfl ?_
  intro P0 E0 s m args below meth C9 s₁ B hml hv
  obtain ⟨rfl, hsz, hP, hK, hD0⟩ := hv
  have hx := B.exec
  have hb := B.bytes
  have hr := B.returns
  have hts := atoms_spec (ws := wsX8_freeze) B.pre
  have hown : s.vm.findClass RX8 = some m.cls := findClass_of_methodNamed B.named
  have hlocks := B.notSynchronized
  subst hsz
  have hD := hD0.self (sz := s.heap.size)
  generalize hAe : va_A [(x, .inr (11, [.ref st, .ref lv, .ref nm, .ref lb, .ref lk, .int 0])), (nm, .inr (6, [.ref st, .ref lv, .ref us, .ref gr, .ref nu, .ref lt, .ref li, .ref fx, .ref sr, .ref rs, .ref wk, .int 0, .int 0])), (st, .inr (8, [.ref od, .ref pp, .ref le, .ref pa, .int 0]))] s.heap.size = A at hD ⊢
  have hA : ∀ q : Nat, s.heap.size ≤ q → A q := fun q h => by rw [← hAe]; exact Or.inr h
  have hS : va_S A s.heap s.heap [] := va_S.rf
  have hl := lv_entry ([.ref x]) (n := 1) (Nat.le_of_ble_eq_true rfl)
  rw [lg_entry_eq]
  generalize (lg_sl ([.ref x]) ++ List.replicate (1 - (lg_sl ([.ref x])).length) Slot.unset).toArray = ls at hl ⊢
  have hl : lv_has ls 1 [(0, .ref x)] := hl
  refine lv_aload_n hx hb dX8_freeze_0 rfl (lv_at hl 0 rfl) ?_
  refine va_get (D := D) (ci := 11) (v := .ref nm) (C := RX8) (T := TX8) (N := 6) hx hb hts (fun _ h => List.mem_cons_of_mem _ (List.mem_append_left _ (List.mem_append_left _ (List.mem_append_left _ (List.mem_append_left _ (List.mem_append_left _ (List.mem_append_left _ (List.mem_append_right _ h)))))))) hown hK hP 0 rfl rfl 2 (by decide) (hts (.fieldLink RX8 28 "NumberingTree" "numbers" "LNumberingTree$Numbers;") (List.mem_of_getElem? (i := 1) rfl)) (fun _ h9 => h9) rfl dX8_freeze_1 ?_
  refine zc_i (wc := [(nm, .inr (6, [.ref st, .ref lv, .ref us, .ref gr, .ref nu, .ref lt, .ref li, .ref fx, .ref sr, .ref rs, .ref wk, .int 0, .int 0])), (st, .inr (8, [.ref od, .ref pp, .ref le, .ref pa, .int 0]))]) (wr := [(x, .inr (11, [.ref st, .ref lv, .ref nm, .ref lb, .ref lk, .int 0]))]) (va_runV (As := []) (rest := []) ⟨hx, hb, hml, hown, hts⟩ (k_fix0 l D cI nm st lv us gr nu lt li fx sr rs wk od pp le pa s.heap.size) (cwV 0 hts gX8_freeze_X3_fix rfl rfl rfl (by decide +kernel) ⟨Nat.le_of_ble_eq_true rfl, Nat.le_of_ble_eq_true rfl⟩) (zPV hK hP hD [1, 2] rfl rfl [0] rfl 0 rfl rfl rfl) rfl rfl hl.1 rfl (lv_room (Nat.le_of_ble_eq_true rfl)) dX8_freeze_4 ⟨Nat.le_of_ble_eq_true rfl, Nat.le_of_ble_eq_true rfl⟩) hP hD hS hA [1, 2] [0] rfl rfl rfl (by decide) (fun r _ H locs hw hP hD hS => ?_)
  have hP : va_P D vwCl [(x, .inr (11, [.ref st, .ref lv, .ref nm, .ref lb, .ref lk, .int 0])), (nm, .inr (6, [.ref st, .ref lv, .ref us, .ref gr, .ref nu, .ref lt, .ref li, .ref fx, .ref sr, .ref rs, .ref wk, .int 0, .int 0])), (st, .inr (8, [.ref od, .ref pp, .ref le, .ref pa, .int 0]))] H := hP
  have hD : va_D A [(x, .inr (11, [.ref st, .ref lv, .ref nm, .ref lb, .ref lk, .int 0])), (nm, .inr (6, [.ref st, .ref lv, .ref us, .ref gr, .ref nu, .ref lt, .ref li, .ref fx, .ref sr, .ref rs, .ref wk, .int 0, .int 0])), (st, .inr (8, [.ref od, .ref pp, .ref le, .ref pa, .int 0]))] := hD
  subst hw
  obtain ⟨hP9, hD9⟩ := z_get hP hD [] (wc := []) rfl rfl
  exact W.iret (v := 0) hx hb hr (fun t ht hW => ⟨⟨0, (), rfl, rfl, by rw [ht]; exact hP9, hD9⟩, hS.F ht⟩) hS.2.2 dX8_freeze_7

set_option maxHeartbeats 4000000 in
set_option maxRecDepth 100000 in
theorem k_cell (l : Launch) (D : va_G) (cI : ClassId) (p q : Int32) (sz : Nat) : Met l yX1_cell wsX1_cell ({ frames := 0, cells := 0, slots := 0, locals := 0 }) (va_Pc [.int p, .int q] (zPre D [(cI, .int)] [] sz)) (va_Qi (fun rv (_ : Unit) => rv = p * 100 + q) (fun (_ : Unit) => zB D [] (va_A [] sz)) (va_A [] sz)) 0 0 (va_A [] sz) := by
  refine Met.ofW (cc := cX1_cell) (maxL := 2) (ret := (some .int)) (by decide) rfl ?_
  intro P0 E0 s m args below meth C9 s₁ B hml hv
  obtain ⟨rfl, hsz, hP, hK, hD0⟩ := hv
  have hx := B.exec
  have hb := B.bytes
  have hr := B.returns
  have hts := atoms_spec (ws := wsX1_cell) B.pre
  have hown : s.vm.findClass RX1 = some m.cls := findClass_of_methodNamed B.named
  have hlocks := B.notSynchronized
  subst hsz
  have hD := hD0.self (sz := s.heap.size)
  generalize hAe : va_A [] s.heap.size = A at hD ⊢
  have hA : ∀ q : Nat, s.heap.size ≤ q → A q := fun q h => by rw [← hAe]; exact Or.inr h
  have hS : va_S A s.heap s.heap [] := va_S.rf
  have hl := lv_entry ([.int p, .int q]) (n := 2) (Nat.le_of_ble_eq_true rfl)
  rw [lg_entry_eq]
  generalize (lg_sl ([.int p, .int q]) ++ List.replicate (2 - (lg_sl ([.int p, .int q])).length) Slot.unset).toArray = ls at hl ⊢
  have hl : lv_has ls 2 [(0, .int p), (1, .int q)] := hl
  refine lv_iload_n hx hb dX1_cell_0 rfl (lv_at hl 0 rfl) ?_
  refine lv_bipush (v := 100) hx hb dX1_cell_1 (by decide) ?_
  refine lv_imul hx hb dX1_cell_3 ?_
  refine lv_iload_n hx hb dX1_cell_4 rfl (lv_at hl 1 rfl) ?_
  refine lv_iadd hx hb dX1_cell_5 ?_
  obtain ⟨hP9, hD9⟩ := z_get hP hD [] (wc := []) rfl rfl
  exact W.iret (v := (p * 100) + q) hx hb hr (fun t ht hW => ⟨⟨(p * 100) + q, (), rfl, rfl, by rw [ht]; exact hP9, hD9⟩, hS.F ht⟩) hS.2.2 dX1_cell_6

set_option maxHeartbeats 4000000 in
set_option maxRecDepth 100000 in
theorem k_isSkipped0 (l : Launch) (D : va_G) (cI : ClassId) (lv fm go sk sa skA : Nat) (p q : Int32) (sz : Nat) : Met l yX1_isSkipped wsX1_isSkipped ({ frames := 1, cells := 0, slots := 0, locals := 21 }) (va_Pc [.ref lv, .int p, .int q] (zPre D [(cI, .int)] [(lv, .inr (4, [.ref fm, .ref go, .ref sk, .ref sa])), (sk, .inr (7, [.ref skA])), (skA, .inl (cI, 500, .inl (fun _ => 0)))] sz)) (va_Qi (fun rv (_ : Unit) => rv = 0) (fun (_ : Unit) => zB D [(lv, .inr (4, [.ref fm, .ref go, .ref sk, .ref sa])), (sk, .inr (7, [.ref skA])), (skA, .inl (cI, 500, .inl (fun _ => 0)))] (va_A [(lv, .inr (4, [.ref fm, .ref go, .ref sk, .ref sa])), (sk, .inr (7, [.ref skA])), (skA, .inl (cI, 500, .inl (fun _ => 0)))] sz)) (va_A [(lv, .inr (4, [.ref fm, .ref go, .ref sk, .ref sa])), (sk, .inr (7, [.ref skA])), (skA, .inl (cI, 500, .inl (fun _ => 0)))] sz)) 0 0 (va_A [(lv, .inr (4, [.ref fm, .ref go, .ref sk, .ref sa])), (sk, .inr (7, [.ref skA])), (skA, .inl (cI, 500, .inl (fun _ => 0)))] sz) := by
  refine Met.ofW (cc := cX1_isSkipped) (maxL := 3) (ret := (some .boolean)) (by decide) rfl ?_
  intro P0 E0 s m args below meth C9 s₁ B hml hv
  obtain ⟨rfl, hsz, hP, hK, hD0⟩ := hv
  have hx := B.exec
  have hb := B.bytes
  have hr := B.returns
  have hts := atoms_spec (ws := wsX1_isSkipped) B.pre
  have hown : s.vm.findClass RX1 = some m.cls := findClass_of_methodNamed B.named
  have hlocks := B.notSynchronized
  subst hsz
  have hD := hD0.self (sz := s.heap.size)
  generalize hAe : va_A [(lv, .inr (4, [.ref fm, .ref go, .ref sk, .ref sa])), (sk, .inr (7, [.ref skA])), (skA, .inl (cI, 500, .inl (fun _ => 0)))] s.heap.size = A at hD ⊢
  have hA : ∀ q : Nat, s.heap.size ≤ q → A q := fun q h => by rw [← hAe]; exact Or.inr h
  have hS : va_S A s.heap s.heap [] := va_S.rf
  have hl := lv_entry ([.ref lv, .int p, .int q]) (n := 3) (Nat.le_of_ble_eq_true rfl)
  rw [lg_entry_eq]
  generalize (lg_sl ([.ref lv, .int p, .int q]) ++ List.replicate (3 - (lg_sl ([.ref lv, .int p, .int q])).length) Slot.unset).toArray = ls at hl ⊢
  have hl : lv_has ls 3 [(0, .ref lv), (1, .int p), (2, .int q)] := hl
  refine lv_iload_n hx hb dX1_isSkipped_0 rfl (lv_at hl 2 rfl) ?_
  refine lv_bipush (v := 99) hx hb dX1_isSkipped_1 (by decide) ?_
  refine lv_icmp_gt (tgt := 25) hx hb dX1_isSkipped_3 (by decide) (fun c1 => ?_) (fun c1 => ?_)
  · refine lv_iconst (v := 0) hx hb dX1_isSkipped_25 (by decide) ?_
    obtain ⟨hP9, hD9⟩ := z_get hP hD [0, 1, 2] (wc := [(lv, .inr (4, [.ref fm, .ref go, .ref sk, .ref sa])), (sk, .inr (7, [.ref skA])), (skA, .inl (cI, 500, .inl (fun _ => 0)))]) rfl rfl
    exact W.zret (ty := .boolean) (v := 0) hx hb hr rfl (fun t ht hW => ⟨⟨0, (), rfl, rfl, by rw [ht]; exact hP9, hD9⟩, hS.F ht⟩) hS.2.2 dX1_isSkipped_26
  · refine lv_aload_n hx hb dX1_isSkipped_6 rfl (lv_at hl 0 rfl) ?_
    refine va_get (D := D) (ci := 4) (v := .ref sk) (C := RX1) (T := TX1) (N := 4) hx hb hts (fun _ h => List.mem_cons_of_mem _ (List.mem_append_left _ (List.mem_append_left _ (List.mem_append_right _ h)))) hown hK hP 0 rfl rfl 2 (by decide) (hts (.fieldLink RX1 23 "NumberingTree$Levels" "skipped" "LNumberingTree$Row;") (List.mem_of_getElem? (i := 1) rfl)) (fun _ h9 => h9) rfl dX1_isSkipped_7 ?_
    refine lv_iload_n hx hb dX1_isSkipped_10 rfl (lv_at hl 1 rfl) ?_
    refine lv_iload_n hx hb dX1_isSkipped_11 rfl (lv_at hl 2 rfl) ?_
    refine zc_i (wc := []) (wr := [(lv, .inr (4, [.ref fm, .ref go, .ref sk, .ref sa])), (sk, .inr (7, [.ref skA])), (skA, .inl (cI, 500, .inl (fun _ => 0)))]) (va_runS (As := [.int p, .int q]) (rest := [.ref sk]) ⟨hx, hb, hml, hown, hts⟩ (k_cell l D cI p q s.heap.size) (va_cwS 2 hts gX1_isSkipped_X1_cell rfl rfl rfl (by decide +kernel) ⟨Nat.le_of_ble_eq_true rfl, Nat.le_of_ble_eq_true rfl⟩) (zPS hK hP hD [] rfl rfl [0] rfl) rfl rfl hl.1 rfl (lv_room (Nat.le_of_ble_eq_true rfl)) dX1_isSkipped_12 ⟨Nat.le_of_ble_eq_true rfl, Nat.le_of_ble_eq_true rfl⟩) hP hD hS hA [] [0, 1, 2] rfl rfl rfl (by decide) (fun r _ H locs hw hP hD hS => ?_)
    have hP : va_P D vwCl [(lv, .inr (4, [.ref fm, .ref go, .ref sk, .ref sa])), (sk, .inr (7, [.ref skA])), (skA, .inl (cI, 500, .inl (fun _ => 0)))] H := hP
    have hD : va_D A [(lv, .inr (4, [.ref fm, .ref go, .ref sk, .ref sa])), (sk, .inr (7, [.ref skA])), (skA, .inl (cI, 500, .inl (fun _ => 0)))] := hD
    subst hw
    refine zc_i (wc := [(sk, .inr (7, [.ref skA])), (skA, .inl (cI, 500, .inl (fun _ => 0)))]) (wr := [(lv, .inr (4, [.ref fm, .ref go, .ref sk, .ref sa]))]) (va_runV (As := [.int (p * 100 + q)]) (rest := []) ⟨hx, hb, hml, hown, hts⟩ (k_at l D cI sk skA 500 (fun _ => 0) (p * 100 + q) H.size (by decide)) (cwV 1 hts gX1_isSkipped_X4_at rfl rfl rfl (by decide +kernel) ⟨Nat.le_of_ble_eq_true rfl, Nat.le_of_ble_eq_true rfl⟩) (zPV hK hP hD [1, 2] rfl rfl [0] rfl 0 rfl rfl rfl) rfl rfl hl.1 rfl (lv_room (Nat.le_of_ble_eq_true rfl)) dX1_isSkipped_15 ⟨Nat.le_of_ble_eq_true rfl, Nat.le_of_ble_eq_true rfl⟩) hP hD hS hA [1, 2] [0] rfl rfl rfl (by decide) (fun r _ H locs hw hP hD hS => ?_)
    have hP : va_P D vwCl [(lv, .inr (4, [.ref fm, .ref go, .ref sk, .ref sa])), (sk, .inr (7, [.ref skA])), (skA, .inl (cI, 500, .inl (fun _ => 0)))] H := hP
    have hD : va_D A [(lv, .inr (4, [.ref fm, .ref go, .ref sk, .ref sa])), (sk, .inr (7, [.ref skA])), (skA, .inl (cI, 500, .inl (fun _ => 0)))] := hD
    subst hw
    refine zt_i 0 (zAt_0 _ _) ?_
    refine lv_if_eq (tgt := 25) hx hb dX1_isSkipped_18 (by decide) (fun _ => ?_) (fun q => absurd q (by decide))
    refine lv_iconst (v := 0) hx hb dX1_isSkipped_25 (by decide) ?_
    obtain ⟨hP9, hD9⟩ := z_get hP hD [0, 1, 2] (wc := [(lv, .inr (4, [.ref fm, .ref go, .ref sk, .ref sa])), (sk, .inr (7, [.ref skA])), (skA, .inl (cI, 500, .inl (fun _ => 0)))]) rfl rfl
    exact W.zret (ty := .boolean) (v := 0) hx hb hr rfl (fun t ht hW => ⟨⟨0, (), rfl, rfl, by rw [ht]; exact hP9, hD9⟩, hS.F ht⟩) hS.2.2 dX1_isSkipped_26

set_option maxHeartbeats 4000000 in
set_option maxRecDepth 100000 in
theorem k_putSkipped0 (l : Launch) (D : va_G) (cI : ClassId) (lv fm go sk sa skA saA : Nat) (p q : Int32) (sz : Nat) : Met l yX1_putSkipped wsX1_putSkipped ({ frames := 1, cells := 0, slots := 0, locals := 22 }) (va_Pc [.ref lv, .int p, .int q, .int 1] (zPre D [(cI, .int)] [(lv, .inr (4, [.ref fm, .ref go, .ref sk, .ref sa])), (sk, .inr (7, [.ref skA])), (skA, .inl (cI, 500, .inl (fun _ => 0))), (sa, .inr (7, [.ref saA])), (saA, .inl (cI, 5, .inl (fun _ => 0)))] sz)) (va_Qv (fun (_ : Unit) => True) (fun (_ : Unit) => zB D [(lv, .inr (4, [.ref fm, .ref go, .ref sk, .ref sa])), (sa, .inr (7, [.ref saA])), (saA, .inl (cI, 5, .inl (zPut 5 (fun _ => 0) p 1)))] (va_A [(lv, .inr (4, [.ref fm, .ref go, .ref sk, .ref sa])), (sk, .inr (7, [.ref skA])), (skA, .inl (cI, 500, .inl (fun _ => 0))), (sa, .inr (7, [.ref saA])), (saA, .inl (cI, 5, .inl (fun _ => 0)))] sz)) (va_A [(lv, .inr (4, [.ref fm, .ref go, .ref sk, .ref sa])), (sk, .inr (7, [.ref skA])), (skA, .inl (cI, 500, .inl (fun _ => 0))), (sa, .inr (7, [.ref saA])), (saA, .inl (cI, 5, .inl (fun _ => 0)))] sz)) 0 0 (va_A [(lv, .inr (4, [.ref fm, .ref go, .ref sk, .ref sa])), (sk, .inr (7, [.ref skA])), (skA, .inl (cI, 500, .inl (fun _ => 0))), (sa, .inr (7, [.ref saA])), (saA, .inl (cI, 5, .inl (fun _ => 0)))] sz) := by
  refine Met.ofW (cc := cX1_putSkipped) (maxL := 4) (ret := none) (by decide) rfl ?_
  intro P0 E0 s m args below meth C9 s₁ B hml hv
  obtain ⟨rfl, hsz, hP, hK, hD0⟩ := hv
  have hx := B.exec
  have hb := B.bytes
  have hr := B.returns
  have hts := atoms_spec (ws := wsX1_putSkipped) B.pre
  have hown : s.vm.findClass RX1 = some m.cls := findClass_of_methodNamed B.named
  have hlocks := B.notSynchronized
  subst hsz
  have hD := hD0.self (sz := s.heap.size)
  generalize hAe : va_A [(lv, .inr (4, [.ref fm, .ref go, .ref sk, .ref sa])), (sk, .inr (7, [.ref skA])), (skA, .inl (cI, 500, .inl (fun _ => 0))), (sa, .inr (7, [.ref saA])), (saA, .inl (cI, 5, .inl (fun _ => 0)))] s.heap.size = A at hD ⊢
  have hA : ∀ q : Nat, s.heap.size ≤ q → A q := fun q h => by rw [← hAe]; exact Or.inr h
  have hS : va_S A s.heap s.heap [] := va_S.rf
  have hl := lv_entry ([.ref lv, .int p, .int q, .int 1]) (n := 4) (Nat.le_of_ble_eq_true rfl)
  rw [lg_entry_eq]
  generalize (lg_sl ([.ref lv, .int p, .int q, .int 1]) ++ List.replicate (4 - (lg_sl ([.ref lv, .int p, .int q, .int 1])).length) Slot.unset).toArray = ls at hl ⊢
  have hl : lv_has ls 4 [(0, .ref lv), (1, .int p), (2, .int q), (3, .int 1)] := hl
  refine lv_aload_n hx hb dX1_putSkipped_0 rfl (lv_at hl 0 rfl) ?_
  refine va_get (D := D) (ci := 4) (v := .ref sk) (C := RX1) (T := TX1) (N := 4) hx hb hts (fun _ h => List.mem_cons_of_mem _ (List.mem_append_left _ (List.mem_append_left _ (List.mem_append_right _ h)))) hown hK hP 0 rfl rfl 2 (by decide) (hts (.fieldLink RX1 23 "NumberingTree$Levels" "skipped" "LNumberingTree$Row;") (List.mem_of_getElem? (i := 1) rfl)) (fun _ h9 => h9) rfl dX1_putSkipped_1 ?_
  refine lv_iload_n hx hb dX1_putSkipped_4 rfl (lv_at hl 1 rfl) ?_
  refine lv_iload_n hx hb dX1_putSkipped_5 rfl (lv_at hl 2 rfl) ?_
  refine zc_i (wc := []) (wr := [(lv, .inr (4, [.ref fm, .ref go, .ref sk, .ref sa])), (sk, .inr (7, [.ref skA])), (skA, .inl (cI, 500, .inl (fun _ => 0))), (sa, .inr (7, [.ref saA])), (saA, .inl (cI, 5, .inl (fun _ => 0)))]) (va_runS (As := [.int p, .int q]) (rest := [.ref sk]) ⟨hx, hb, hml, hown, hts⟩ (k_cell l D cI p q s.heap.size) (va_cwS 2 hts gX1_putSkipped_X1_cell rfl rfl rfl (by decide +kernel) ⟨Nat.le_of_ble_eq_true rfl, Nat.le_of_ble_eq_true rfl⟩) (zPS hK hP hD [] rfl rfl [0] rfl) rfl rfl hl.1 rfl (lv_room (Nat.le_of_ble_eq_true rfl)) dX1_putSkipped_6 ⟨Nat.le_of_ble_eq_true rfl, Nat.le_of_ble_eq_true rfl⟩) hP hD hS hA [] [0, 1, 2, 3, 4] rfl rfl rfl (by decide) (fun r _ H locs hw hP hD hS => ?_)
  have hP : va_P D vwCl [(lv, .inr (4, [.ref fm, .ref go, .ref sk, .ref sa])), (sk, .inr (7, [.ref skA])), (skA, .inl (cI, 500, .inl (fun _ => 0))), (sa, .inr (7, [.ref saA])), (saA, .inl (cI, 5, .inl (fun _ => 0)))] H := hP
  have hD : va_D A [(lv, .inr (4, [.ref fm, .ref go, .ref sk, .ref sa])), (sk, .inr (7, [.ref skA])), (skA, .inl (cI, 500, .inl (fun _ => 0))), (sa, .inr (7, [.ref saA])), (saA, .inl (cI, 5, .inl (fun _ => 0)))] := hD
  subst hw
  refine lv_iload_n hx hb dX1_putSkipped_9 rfl (lv_at hl 3 rfl) ?_
  refine lv_if_eq (tgt := 17) hx hb dX1_putSkipped_10 (by decide) (fun q => absurd q (by decide)) (fun _ => ?_)
  refine lv_iconst (v := 1) hx hb dX1_putSkipped_13 (by decide) ?_
  refine lv_goto (tgt := 18) hx hb dX1_putSkipped_14 (by decide) ?_
  refine zc_v (wc := [(sk, .inr (7, [.ref skA])), (skA, .inl (cI, 500, .inl (fun _ => 0)))]) (wr := [(lv, .inr (4, [.ref fm, .ref go, .ref sk, .ref sa])), (sa, .inr (7, [.ref saA])), (saA, .inl (cI, 5, .inl (fun _ => 0)))]) (va_runV (As := [.int (p * 100 + q), .int 1]) (rest := []) ⟨hx, hb, hml, hown, hts⟩ (k_put l D cI sk skA 500 (fun _ => 0) (p * 100 + q) 1 H.size (by decide)) (cwV 2 hts gX1_putSkipped_X4_put rfl rfl rfl (by decide +kernel) ⟨Nat.le_of_ble_eq_true rfl, Nat.le_of_ble_eq_true rfl⟩) (zPV hK hP hD [1, 2] rfl rfl [0] rfl 0 rfl rfl rfl) rfl rfl hl.1 rfl (lv_room (Nat.le_of_ble_eq_true rfl)) dX1_putSkipped_18 ⟨Nat.le_of_ble_eq_true rfl, Nat.le_of_ble_eq_true rfl⟩) hP hD hS hA [1, 2] [0, 3, 4] rfl rfl rfl (by decide) (fun  _ H locs hw hP hD hS => ?_)
  have hP : va_P D vwCl [(lv, .inr (4, [.ref fm, .ref go, .ref sk, .ref sa])), (sa, .inr (7, [.ref saA])), (saA, .inl (cI, 5, .inl (fun _ => 0))), (sk, .inr (7, [.ref skA])), (skA, .inl (cI, 500, .inl (zPut 500 (fun _ => 0) (p * 100 + q) 1)))] H := hP
  have hD : va_D A [(lv, .inr (4, [.ref fm, .ref go, .ref sk, .ref sa])), (sa, .inr (7, [.ref saA])), (saA, .inl (cI, 5, .inl (fun _ => 0))), (sk, .inr (7, [.ref skA])), (skA, .inl (cI, 500, .inl (zPut 500 (fun _ => 0) (p * 100 + q) 1)))] := hD
  refine lv_aload_n hx hb dX1_putSkipped_21 rfl (lv_at hl 0 rfl) ?_
  refine va_get (D := D) (ci := 4) (v := .ref sa) (C := RX1) (T := TX1) (N := 4) hx hb hts (fun _ h => List.mem_cons_of_mem _ (List.mem_append_left _ (List.mem_append_left _ (List.mem_append_right _ h)))) hown hK hP 0 rfl rfl 3 (by decide) (hts (.fieldLink RX1 26 "NumberingTree$Levels" "skippedAmounts" "LNumberingTree$Row;") (List.mem_of_getElem? (i := 2) rfl)) (fun _ h9 => h9) rfl dX1_putSkipped_22 ?_
  refine lv_iload_n hx hb dX1_putSkipped_25 rfl (lv_at hl 1 rfl) ?_
  refine lv_aload_n hx hb dX1_putSkipped_26 rfl (lv_at hl 0 rfl) ?_
  refine va_get (D := D) (ci := 4) (v := .ref sa) (C := RX1) (T := TX1) (N := 4) hx hb hts (fun _ h => List.mem_cons_of_mem _ (List.mem_append_left _ (List.mem_append_left _ (List.mem_append_right _ h)))) hown hK hP 0 rfl rfl 3 (by decide) (hts (.fieldLink RX1 26 "NumberingTree$Levels" "skippedAmounts" "LNumberingTree$Row;") (List.mem_of_getElem? (i := 2) rfl)) (fun _ h9 => h9) rfl dX1_putSkipped_27 ?_
  refine lv_iload_n hx hb dX1_putSkipped_30 rfl (lv_at hl 1 rfl) ?_
  refine zc_i (wc := [(sa, .inr (7, [.ref saA])), (saA, .inl (cI, 5, .inl (fun _ => 0)))]) (wr := [(lv, .inr (4, [.ref fm, .ref go, .ref sk, .ref sa])), (sk, .inr (7, [.ref skA])), (skA, .inl (cI, 500, .inl (zPut 500 (fun _ => 0) (p * 100 + q) 1)))]) (va_runV (As := [.int p]) (rest := [.int p, .ref sa]) ⟨hx, hb, hml, hown, hts⟩ (k_at l D cI sa saA 5 (fun _ => 0) p H.size (by decide)) (cwV 1 hts gX1_putSkipped_X4_at rfl rfl rfl (by decide +kernel) ⟨Nat.le_of_ble_eq_true rfl, Nat.le_of_ble_eq_true rfl⟩) (zPV hK hP hD [1, 2] rfl rfl [0] rfl 0 rfl rfl rfl) rfl rfl hl.1 rfl (lv_room (Nat.le_of_ble_eq_true rfl)) dX1_putSkipped_31 ⟨Nat.le_of_ble_eq_true rfl, Nat.le_of_ble_eq_true rfl⟩) hP hD hS hA [1, 2] [0, 3, 4] rfl rfl rfl (by decide) (fun r _ H locs hw hP hD hS => ?_)
  have hP : va_P D vwCl [(lv, .inr (4, [.ref fm, .ref go, .ref sk, .ref sa])), (sk, .inr (7, [.ref skA])), (skA, .inl (cI, 500, .inl (zPut 500 (fun _ => 0) (p * 100 + q) 1))), (sa, .inr (7, [.ref saA])), (saA, .inl (cI, 5, .inl (fun _ => 0)))] H := hP
  have hD : va_D A [(lv, .inr (4, [.ref fm, .ref go, .ref sk, .ref sa])), (sk, .inr (7, [.ref skA])), (skA, .inl (cI, 500, .inl (zPut 500 (fun _ => 0) (p * 100 + q) 1))), (sa, .inr (7, [.ref saA])), (saA, .inl (cI, 5, .inl (fun _ => 0)))] := hD
  subst hw
  refine zt_i 0 (zAt_0 _ _) ?_
  refine lv_iload_n hx hb dX1_putSkipped_34 rfl (lv_at hl 3 rfl) ?_
  refine lv_if_eq (tgt := 42) hx hb dX1_putSkipped_35 (by decide) (fun q => absurd q (by decide)) (fun _ => ?_)
  refine lv_iconst (v := 1) hx hb dX1_putSkipped_38 (by decide) ?_
  refine lv_goto (tgt := 43) hx hb dX1_putSkipped_39 (by decide) ?_
  refine lv_iadd hx hb dX1_putSkipped_43 ?_
  refine zt_i 1 (by decide) ?_
  refine zc_v (wc := [(sa, .inr (7, [.ref saA])), (saA, .inl (cI, 5, .inl (fun _ => 0)))]) (wr := [(lv, .inr (4, [.ref fm, .ref go, .ref sk, .ref sa])), (sk, .inr (7, [.ref skA])), (skA, .inl (cI, 500, .inl (zPut 500 (fun _ => 0) (p * 100 + q) 1)))]) (va_runV (As := [.int p, .int 1]) (rest := []) ⟨hx, hb, hml, hown, hts⟩ (k_put l D cI sa saA 5 (fun _ => 0) p 1 H.size (by decide)) (cwV 2 hts gX1_putSkipped_X4_put rfl rfl rfl (by decide +kernel) ⟨Nat.le_of_ble_eq_true rfl, Nat.le_of_ble_eq_true rfl⟩) (zPV hK hP hD [3, 4] rfl rfl [0] rfl 0 rfl rfl rfl) rfl rfl hl.1 rfl (lv_room (Nat.le_of_ble_eq_true rfl)) dX1_putSkipped_44 ⟨Nat.le_of_ble_eq_true rfl, Nat.le_of_ble_eq_true rfl⟩) hP hD hS hA [3, 4] [0, 1, 2] rfl rfl rfl (by decide) (fun  _ H locs hw hP hD hS => ?_)
  have hP : va_P D vwCl [(lv, .inr (4, [.ref fm, .ref go, .ref sk, .ref sa])), (sk, .inr (7, [.ref skA])), (skA, .inl (cI, 500, .inl (zPut 500 (fun _ => 0) (p * 100 + q) 1))), (sa, .inr (7, [.ref saA])), (saA, .inl (cI, 5, .inl (zPut 5 (fun _ => 0) p 1)))] H := hP
  have hD : va_D A [(lv, .inr (4, [.ref fm, .ref go, .ref sk, .ref sa])), (sk, .inr (7, [.ref skA])), (skA, .inl (cI, 500, .inl (zPut 500 (fun _ => 0) (p * 100 + q) 1))), (sa, .inr (7, [.ref saA])), (saA, .inl (cI, 5, .inl (zPut 5 (fun _ => 0) p 1)))] := hD
  obtain ⟨hP9, hD9⟩ := z_get hP hD [0, 3, 4] (wc := [(lv, .inr (4, [.ref fm, .ref go, .ref sk, .ref sa])), (sa, .inr (7, [.ref saA])), (saA, .inl (cI, 5, .inl (zPut 5 (fun _ => 0) p 1)))]) rfl rfl
  exact W.vret hx hb hr (fun t ht hW => ⟨⟨(), rfl, trivial, by rw [ht]; exact hP9, hD9⟩, hS.F ht⟩) hS.2.2 dX1_putSkipped_47

set_option maxHeartbeats 4000000 in
set_option maxRecDepth 100000 in
theorem k_skippedAmount (l : Launch) (D : va_G) (cI : ClassId) (lv fm go sk sa saA : Nat) (f : Nat → Int32) (p : Int32) (sz : Nat) : Met l yX1_skippedAmount wsX1_skippedAmount ({ frames := 1, cells := 0, slots := 0, locals := 21 }) (va_Pc [.ref lv, .int p] (zPre D [(cI, .int)] [(lv, .inr (4, [.ref fm, .ref go, .ref sk, .ref sa])), (sa, .inr (7, [.ref saA])), (saA, .inl (cI, 5, .inl f))] sz)) (va_Qi (fun rv (_ : Unit) => rv = zAt 5 f p) (fun (_ : Unit) => zB D [] (va_A [(lv, .inr (4, [.ref fm, .ref go, .ref sk, .ref sa])), (sa, .inr (7, [.ref saA])), (saA, .inl (cI, 5, .inl f))] sz)) (va_A [(lv, .inr (4, [.ref fm, .ref go, .ref sk, .ref sa])), (sa, .inr (7, [.ref saA])), (saA, .inl (cI, 5, .inl f))] sz)) 0 0 (va_A [(lv, .inr (4, [.ref fm, .ref go, .ref sk, .ref sa])), (sa, .inr (7, [.ref saA])), (saA, .inl (cI, 5, .inl f))] sz) := by
  refine Met.ofW (cc := cX1_skippedAmount) (maxL := 2) (ret := (some .int)) (by decide) rfl ?_
  intro P0 E0 s m args below meth C9 s₁ B hml hv
  obtain ⟨rfl, hsz, hP, hK, hD0⟩ := hv
  have hx := B.exec
  have hb := B.bytes
  have hr := B.returns
  have hts := atoms_spec (ws := wsX1_skippedAmount) B.pre
  have hown : s.vm.findClass RX1 = some m.cls := findClass_of_methodNamed B.named
  have hlocks := B.notSynchronized
  subst hsz
  have hD := hD0.self (sz := s.heap.size)
  generalize hAe : va_A [(lv, .inr (4, [.ref fm, .ref go, .ref sk, .ref sa])), (sa, .inr (7, [.ref saA])), (saA, .inl (cI, 5, .inl f))] s.heap.size = A at hD ⊢
  have hA : ∀ q : Nat, s.heap.size ≤ q → A q := fun q h => by rw [← hAe]; exact Or.inr h
  have hS : va_S A s.heap s.heap [] := va_S.rf
  have hl := lv_entry ([.ref lv, .int p]) (n := 2) (Nat.le_of_ble_eq_true rfl)
  rw [lg_entry_eq]
  generalize (lg_sl ([.ref lv, .int p]) ++ List.replicate (2 - (lg_sl ([.ref lv, .int p])).length) Slot.unset).toArray = ls at hl ⊢
  have hl : lv_has ls 2 [(0, .ref lv), (1, .int p)] := hl
  refine lv_aload_n hx hb dX1_skippedAmount_0 rfl (lv_at hl 0 rfl) ?_
  refine va_get (D := D) (ci := 4) (v := .ref sa) (C := RX1) (T := TX1) (N := 4) hx hb hts (fun _ h => List.mem_cons_of_mem _ (List.mem_append_left _ (List.mem_append_left _ (List.mem_append_right _ h)))) hown hK hP 0 rfl rfl 3 (by decide) (hts (.fieldLink RX1 26 "NumberingTree$Levels" "skippedAmounts" "LNumberingTree$Row;") (List.mem_of_getElem? (i := 1) rfl)) (fun _ h9 => h9) rfl dX1_skippedAmount_1 ?_
  refine lv_iload_n hx hb dX1_skippedAmount_4 rfl (lv_at hl 1 rfl) ?_
  refine zc_i (wc := [(sa, .inr (7, [.ref saA])), (saA, .inl (cI, 5, .inl f))]) (wr := [(lv, .inr (4, [.ref fm, .ref go, .ref sk, .ref sa]))]) (va_runV (As := [.int p]) (rest := []) ⟨hx, hb, hml, hown, hts⟩ (k_at l D cI sa saA 5 f p s.heap.size (by decide)) (cwV 1 hts gX1_skippedAmount_X4_at rfl rfl rfl (by decide +kernel) ⟨Nat.le_of_ble_eq_true rfl, Nat.le_of_ble_eq_true rfl⟩) (zPV hK hP hD [1, 2] rfl rfl [0] rfl 0 rfl rfl rfl) rfl rfl hl.1 rfl (lv_room (Nat.le_of_ble_eq_true rfl)) dX1_skippedAmount_5 ⟨Nat.le_of_ble_eq_true rfl, Nat.le_of_ble_eq_true rfl⟩) hP hD hS hA [1, 2] [0] rfl rfl rfl (by decide) (fun r _ H locs hw hP hD hS => ?_)
  have hP : va_P D vwCl [(lv, .inr (4, [.ref fm, .ref go, .ref sk, .ref sa])), (sa, .inr (7, [.ref saA])), (saA, .inl (cI, 5, .inl f))] H := hP
  have hD : va_D A [(lv, .inr (4, [.ref fm, .ref go, .ref sk, .ref sa])), (sa, .inr (7, [.ref saA])), (saA, .inl (cI, 5, .inl f))] := hD
  subst hw
  obtain ⟨hP9, hD9⟩ := z_get hP hD [] (wc := []) rfl rfl
  exact W.iret (v := zAt 5 f p) hx hb hr (fun t ht hW => ⟨⟨zAt 5 f p, (), rfl, rfl, by rw [ht]; exact hP9, hD9⟩, hS.F ht⟩) hS.2.2 dX1_skippedAmount_8

set_option maxHeartbeats 4000000 in
set_option maxRecDepth 100000 in
theorem k_skip (l : Launch) (D : va_G) (cI : ClassId) (x st lv nm lb lk fm go sk sa skA saA us gr nu lt li fx sr rs wk od pp le pa : Nat) (p q : Int32) (sz : Nat) (hp : zSk p q) : Met l yX8_skip wsX8_skip ({ frames := 3, cells := 0, slots := 0, locals := 66 }) (va_Pc [.ref x, .int p, .int q] (zPre D [(cI, .int)] [(x, .inr (11, [.ref st, .ref lv, .ref nm, .ref lb, .ref lk, .int 0])), (lv, .inr (4, [.ref fm, .ref go, .ref sk, .ref sa])), (sk, .inr (7, [.ref skA])), (skA, .inl (cI, 500, .inl (fun _ => 0))), (sa, .inr (7, [.ref saA])), (saA, .inl (cI, 5, .inl (fun _ => 0))), (nm, .inr (6, [.ref st, .ref lv, .ref us, .ref gr, .ref nu, .ref lt, .ref li, .ref fx, .ref sr, .ref rs, .ref wk, .int 0, .int 0])), (st, .inr (8, [.ref od, .ref pp, .ref le, .ref pa, .int 0]))] sz)) (va_Qi (fun rv (_ : Unit) => rv = 1) (fun (_ : Unit) => zB D [] (va_A [(x, .inr (11, [.ref st, .ref lv, .ref nm, .ref lb, .ref lk, .int 0])), (lv, .inr (4, [.ref fm, .ref go, .ref sk, .ref sa])), (sk, .inr (7, [.ref skA])), (skA, .inl (cI, 500, .inl (fun _ => 0))), (sa, .inr (7, [.ref saA])), (saA, .inl (cI, 5, .inl (fun _ => 0))), (nm, .inr (6, [.ref st, .ref lv, .ref us, .ref gr, .ref nu, .ref lt, .ref li, .ref fx, .ref sr, .ref rs, .ref wk, .int 0, .int 0])), (st, .inr (8, [.ref od, .ref pp, .ref le, .ref pa, .int 0]))] sz)) (va_A [(x, .inr (11, [.ref st, .ref lv, .ref nm, .ref lb, .ref lk, .int 0])), (lv, .inr (4, [.ref fm, .ref go, .ref sk, .ref sa])), (sk, .inr (7, [.ref skA])), (skA, .inl (cI, 500, .inl (fun _ => 0))), (sa, .inr (7, [.ref saA])), (saA, .inl (cI, 5, .inl (fun _ => 0))), (nm, .inr (6, [.ref st, .ref lv, .ref us, .ref gr, .ref nu, .ref lt, .ref li, .ref fx, .ref sr, .ref rs, .ref wk, .int 0, .int 0])), (st, .inr (8, [.ref od, .ref pp, .ref le, .ref pa, .int 0]))] sz)) 0 0 (va_A [(x, .inr (11, [.ref st, .ref lv, .ref nm, .ref lb, .ref lk, .int 0])), (lv, .inr (4, [.ref fm, .ref go, .ref sk, .ref sa])), (sk, .inr (7, [.ref skA])), (skA, .inl (cI, 500, .inl (fun _ => 0))), (sa, .inr (7, [.ref saA])), (saA, .inl (cI, 5, .inl (fun _ => 0))), (nm, .inr (6, [.ref st, .ref lv, .ref us, .ref gr, .ref nu, .ref lt, .ref li, .ref fx, .ref sr, .ref rs, .ref wk, .int 0, .int 0])), (st, .inr (8, [.ref od, .ref pp, .ref le, .ref pa, .int 0]))] sz) := by
  refine Met.ofW (cc := cX8_skip) (maxL := 3) (ret := (some .int)) (by decide) rfl ?_
  intro P0 E0 s m args below meth C9 s₁ B hml hv
  obtain ⟨rfl, hsz, hP, hK, hD0⟩ := hv
  have hx := B.exec
  have hb := B.bytes
  have hr := B.returns
  have hts := atoms_spec (ws := wsX8_skip) B.pre
  have hown : s.vm.findClass RX8 = some m.cls := findClass_of_methodNamed B.named
  have hlocks := B.notSynchronized
  subst hsz
  have hD := hD0.self (sz := s.heap.size)
  generalize hAe : va_A [(x, .inr (11, [.ref st, .ref lv, .ref nm, .ref lb, .ref lk, .int 0])), (lv, .inr (4, [.ref fm, .ref go, .ref sk, .ref sa])), (sk, .inr (7, [.ref skA])), (skA, .inl (cI, 500, .inl (fun _ => 0))), (sa, .inr (7, [.ref saA])), (saA, .inl (cI, 5, .inl (fun _ => 0))), (nm, .inr (6, [.ref st, .ref lv, .ref us, .ref gr, .ref nu, .ref lt, .ref li, .ref fx, .ref sr, .ref rs, .ref wk, .int 0, .int 0])), (st, .inr (8, [.ref od, .ref pp, .ref le, .ref pa, .int 0]))] s.heap.size = A at hD ⊢
  have hA : ∀ q : Nat, s.heap.size ≤ q → A q := fun q h => by rw [← hAe]; exact Or.inr h
  have hS : va_S A s.heap s.heap [] := va_S.rf
  have hl := lv_entry ([.ref x, .int p, .int q]) (n := 3) (Nat.le_of_ble_eq_true rfl)
  rw [lg_entry_eq]
  generalize (lg_sl ([.ref x, .int p, .int q]) ++ List.replicate (3 - (lg_sl ([.ref x, .int p, .int q])).length) Slot.unset).toArray = ls at hl ⊢
  have hl : lv_has ls 3 [(0, .ref x), (1, .int p), (2, .int q)] := hl
  refine lv_aload_n hx hb dX8_skip_0 rfl (lv_at hl 0 rfl) ?_
  refine lv_iload_n hx hb dX8_skip_1 rfl (lv_at hl 1 rfl) ?_
  refine lv_iload_n hx hb dX8_skip_2 rfl (lv_at hl 2 rfl) ?_
  refine zc_v (wc := [(x, .inr (11, [.ref st, .ref lv, .ref nm, .ref lb, .ref lk, .int 0]))]) (wr := [(lv, .inr (4, [.ref fm, .ref go, .ref sk, .ref sa])), (sk, .inr (7, [.ref skA])), (skA, .inl (cI, 500, .inl (fun _ => 0))), (sa, .inr (7, [.ref saA])), (saA, .inl (cI, 5, .inl (fun _ => 0))), (nm, .inr (6, [.ref st, .ref lv, .ref us, .ref gr, .ref nu, .ref lt, .ref li, .ref fx, .ref sr, .ref rs, .ref wk, .int 0, .int 0])), (st, .inr (8, [.ref od, .ref pp, .ref le, .ref pa, .int 0]))]) (va_runV (As := [.int p, .int q]) (rest := []) ⟨hx, hb, hml, hown, hts⟩ (k_reqSkip l D cI x st lv nm lb lk p q s.heap.size hp) (cwV 2 hts gX8_skip_X8_requireSkippable rfl rfl rfl (by decide +kernel) ⟨Nat.le_of_ble_eq_true rfl, Nat.le_of_ble_eq_true rfl⟩) (zPV hK hP hD [0] rfl rfl [0] rfl 0 rfl rfl rfl) rfl rfl hl.1 rfl (lv_room (Nat.le_of_ble_eq_true rfl)) dX8_skip_3 ⟨Nat.le_of_ble_eq_true rfl, Nat.le_of_ble_eq_true rfl⟩) hP hD hS hA [0] [1, 2, 3, 4, 5, 6, 7] rfl rfl rfl (by decide) (fun  _ H locs hw hP hD hS => ?_)
  have hP : va_P D vwCl [(lv, .inr (4, [.ref fm, .ref go, .ref sk, .ref sa])), (sk, .inr (7, [.ref skA])), (skA, .inl (cI, 500, .inl (fun _ => 0))), (sa, .inr (7, [.ref saA])), (saA, .inl (cI, 5, .inl (fun _ => 0))), (nm, .inr (6, [.ref st, .ref lv, .ref us, .ref gr, .ref nu, .ref lt, .ref li, .ref fx, .ref sr, .ref rs, .ref wk, .int 0, .int 0])), (st, .inr (8, [.ref od, .ref pp, .ref le, .ref pa, .int 0])), (x, .inr (11, [.ref st, .ref lv, .ref nm, .ref lb, .ref lk, .int 0]))] H := hP
  have hD : va_D A [(lv, .inr (4, [.ref fm, .ref go, .ref sk, .ref sa])), (sk, .inr (7, [.ref skA])), (skA, .inl (cI, 500, .inl (fun _ => 0))), (sa, .inr (7, [.ref saA])), (saA, .inl (cI, 5, .inl (fun _ => 0))), (nm, .inr (6, [.ref st, .ref lv, .ref us, .ref gr, .ref nu, .ref lt, .ref li, .ref fx, .ref sr, .ref rs, .ref wk, .int 0, .int 0])), (st, .inr (8, [.ref od, .ref pp, .ref le, .ref pa, .int 0])), (x, .inr (11, [.ref st, .ref lv, .ref nm, .ref lb, .ref lk, .int 0]))] := hD
  refine lv_aload_n hx hb dX8_skip_6 rfl (lv_at hl 0 rfl) ?_
  refine va_get (D := D) (ci := 11) (v := .ref lv) (C := RX8) (T := TX8) (N := 6) hx hb hts (fun _ h => List.mem_cons_of_mem _ (List.mem_append_left _ (List.mem_append_left _ (List.mem_append_left _ (List.mem_append_left _ (List.mem_append_left _ (List.mem_append_left _ (List.mem_append_left _ (List.mem_append_left _ (List.mem_append_right _ h)))))))))) hown hK hP 7 rfl rfl 1 (by decide) (hts (.fieldLink RX8 19 "NumberingTree" "levels" "LNumberingTree$Levels;") (List.mem_of_getElem? (i := 3) rfl)) (fun _ h9 => h9) rfl dX8_skip_7 ?_
  refine lv_iload_n hx hb dX8_skip_10 rfl (lv_at hl 1 rfl) ?_
  refine lv_iload_n hx hb dX8_skip_11 rfl (lv_at hl 2 rfl) ?_
  refine zc_i (wc := [(lv, .inr (4, [.ref fm, .ref go, .ref sk, .ref sa])), (sk, .inr (7, [.ref skA])), (skA, .inl (cI, 500, .inl (fun _ => 0)))]) (wr := [(sa, .inr (7, [.ref saA])), (saA, .inl (cI, 5, .inl (fun _ => 0))), (nm, .inr (6, [.ref st, .ref lv, .ref us, .ref gr, .ref nu, .ref lt, .ref li, .ref fx, .ref sr, .ref rs, .ref wk, .int 0, .int 0])), (st, .inr (8, [.ref od, .ref pp, .ref le, .ref pa, .int 0])), (x, .inr (11, [.ref st, .ref lv, .ref nm, .ref lb, .ref lk, .int 0]))]) (va_runV (As := [.int p, .int q]) (rest := []) ⟨hx, hb, hml, hown, hts⟩ (k_isSkipped0 l D cI lv fm go sk sa skA p q H.size) (cwV 2 hts gX8_skip_X1_isSkipped rfl rfl rfl (by decide +kernel) ⟨Nat.le_of_ble_eq_true rfl, Nat.le_of_ble_eq_true rfl⟩) (zPV hK hP hD [0, 1, 2] rfl rfl [0] rfl 0 rfl rfl rfl) rfl rfl hl.1 rfl (lv_room (Nat.le_of_ble_eq_true rfl)) dX8_skip_12 ⟨Nat.le_of_ble_eq_true rfl, Nat.le_of_ble_eq_true rfl⟩) hP hD hS hA [0, 1, 2] [3, 4, 5, 6, 7] rfl rfl rfl (by decide) (fun r _ H locs hw hP hD hS => ?_)
  have hP : va_P D vwCl [(sa, .inr (7, [.ref saA])), (saA, .inl (cI, 5, .inl (fun _ => 0))), (nm, .inr (6, [.ref st, .ref lv, .ref us, .ref gr, .ref nu, .ref lt, .ref li, .ref fx, .ref sr, .ref rs, .ref wk, .int 0, .int 0])), (st, .inr (8, [.ref od, .ref pp, .ref le, .ref pa, .int 0])), (x, .inr (11, [.ref st, .ref lv, .ref nm, .ref lb, .ref lk, .int 0])), (lv, .inr (4, [.ref fm, .ref go, .ref sk, .ref sa])), (sk, .inr (7, [.ref skA])), (skA, .inl (cI, 500, .inl (fun _ => 0)))] H := hP
  have hD : va_D A [(sa, .inr (7, [.ref saA])), (saA, .inl (cI, 5, .inl (fun _ => 0))), (nm, .inr (6, [.ref st, .ref lv, .ref us, .ref gr, .ref nu, .ref lt, .ref li, .ref fx, .ref sr, .ref rs, .ref wk, .int 0, .int 0])), (st, .inr (8, [.ref od, .ref pp, .ref le, .ref pa, .int 0])), (x, .inr (11, [.ref st, .ref lv, .ref nm, .ref lb, .ref lk, .int 0])), (lv, .inr (4, [.ref fm, .ref go, .ref sk, .ref sa])), (sk, .inr (7, [.ref skA])), (skA, .inl (cI, 500, .inl (fun _ => 0)))] := hD
  subst hw
  refine lv_if_eq (tgt := 26) hx hb dX8_skip_15 (by decide) (fun _ => ?_) (fun q => absurd q (by decide))
  refine lv_aload_n hx hb dX8_skip_26 rfl (lv_at hl 0 rfl) ?_
  refine va_get (D := D) (ci := 11) (v := .ref lv) (C := RX8) (T := TX8) (N := 6) hx hb hts (fun _ h => List.mem_cons_of_mem _ (List.mem_append_left _ (List.mem_append_left _ (List.mem_append_left _ (List.mem_append_left _ (List.mem_append_left _ (List.mem_append_left _ (List.mem_append_left _ (List.mem_append_left _ (List.mem_append_right _ h)))))))))) hown hK hP 4 rfl rfl 1 (by decide) (hts (.fieldLink RX8 19 "NumberingTree" "levels" "LNumberingTree$Levels;") (List.mem_of_getElem? (i := 3) rfl)) (fun _ h9 => h9) rfl dX8_skip_27 ?_
  refine lv_iload_n hx hb dX8_skip_30 rfl (lv_at hl 1 rfl) ?_
  refine lv_iload_n hx hb dX8_skip_31 rfl (lv_at hl 2 rfl) ?_
  refine lv_iconst (v := 1) hx hb dX8_skip_32 (by decide) ?_
  refine zc_v (wc := [(lv, .inr (4, [.ref fm, .ref go, .ref sk, .ref sa])), (sk, .inr (7, [.ref skA])), (skA, .inl (cI, 500, .inl (fun _ => 0))), (sa, .inr (7, [.ref saA])), (saA, .inl (cI, 5, .inl (fun _ => 0)))]) (wr := [(nm, .inr (6, [.ref st, .ref lv, .ref us, .ref gr, .ref nu, .ref lt, .ref li, .ref fx, .ref sr, .ref rs, .ref wk, .int 0, .int 0])), (st, .inr (8, [.ref od, .ref pp, .ref le, .ref pa, .int 0])), (x, .inr (11, [.ref st, .ref lv, .ref nm, .ref lb, .ref lk, .int 0]))]) (va_runV (As := [.int p, .int q, .int 1]) (rest := []) ⟨hx, hb, hml, hown, hts⟩ (k_putSkipped0 l D cI lv fm go sk sa skA saA p q H.size) (cwV 3 hts gX8_skip_X1_putSkipped rfl rfl rfl (by decide +kernel) ⟨Nat.le_of_ble_eq_true rfl, Nat.le_of_ble_eq_true rfl⟩) (zPV hK hP hD [5, 6, 7, 0, 1] rfl rfl [0] rfl 0 rfl rfl rfl) rfl rfl hl.1 rfl (lv_room (Nat.le_of_ble_eq_true rfl)) dX8_skip_33 ⟨Nat.le_of_ble_eq_true rfl, Nat.le_of_ble_eq_true rfl⟩) hP hD hS hA [5, 6, 7, 0, 1] [2, 3, 4] rfl rfl rfl (by decide) (fun  _ H locs hw hP hD hS => ?_)
  have hP : va_P D vwCl [(nm, .inr (6, [.ref st, .ref lv, .ref us, .ref gr, .ref nu, .ref lt, .ref li, .ref fx, .ref sr, .ref rs, .ref wk, .int 0, .int 0])), (st, .inr (8, [.ref od, .ref pp, .ref le, .ref pa, .int 0])), (x, .inr (11, [.ref st, .ref lv, .ref nm, .ref lb, .ref lk, .int 0])), (lv, .inr (4, [.ref fm, .ref go, .ref sk, .ref sa])), (sa, .inr (7, [.ref saA])), (saA, .inl (cI, 5, .inl (zPut 5 (fun _ => 0) p 1)))] H := hP
  have hD : va_D A [(nm, .inr (6, [.ref st, .ref lv, .ref us, .ref gr, .ref nu, .ref lt, .ref li, .ref fx, .ref sr, .ref rs, .ref wk, .int 0, .int 0])), (st, .inr (8, [.ref od, .ref pp, .ref le, .ref pa, .int 0])), (x, .inr (11, [.ref st, .ref lv, .ref nm, .ref lb, .ref lk, .int 0])), (lv, .inr (4, [.ref fm, .ref go, .ref sk, .ref sa])), (sa, .inr (7, [.ref saA])), (saA, .inl (cI, 5, .inl (zPut 5 (fun _ => 0) p 1)))] := hD
  refine lv_aload_n hx hb dX8_skip_36 rfl (lv_at hl 0 rfl) ?_
  refine va_get (D := D) (ci := 11) (v := .ref nm) (C := RX8) (T := TX8) (N := 6) hx hb hts (fun _ h => List.mem_cons_of_mem _ (List.mem_append_left _ (List.mem_append_left _ (List.mem_append_left _ (List.mem_append_left _ (List.mem_append_left _ (List.mem_append_left _ (List.mem_append_left _ (List.mem_append_left _ (List.mem_append_right _ h)))))))))) hown hK hP 2 rfl rfl 2 (by decide) (hts (.fieldLink RX8 28 "NumberingTree" "numbers" "LNumberingTree$Numbers;") (List.mem_of_getElem? (i := 4) rfl)) (fun _ h9 => h9) rfl dX8_skip_37 ?_
  refine zc_v (wc := [(nm, .inr (6, [.ref st, .ref lv, .ref us, .ref gr, .ref nu, .ref lt, .ref li, .ref fx, .ref sr, .ref rs, .ref wk, .int 0, .int 0])), (st, .inr (8, [.ref od, .ref pp, .ref le, .ref pa, .int 0]))]) (wr := [(x, .inr (11, [.ref st, .ref lv, .ref nm, .ref lb, .ref lk, .int 0])), (lv, .inr (4, [.ref fm, .ref go, .ref sk, .ref sa])), (sa, .inr (7, [.ref saA])), (saA, .inl (cI, 5, .inl (zPut 5 (fun _ => 0) p 1)))]) (va_runV (As := []) (rest := []) ⟨hx, hb, hml, hown, hts⟩ (k_renumber0 l D cI nm st lv us gr nu lt li fx sr rs wk od pp le pa H.size) (cwV 0 hts gX8_skip_X3_renumber rfl rfl rfl (by decide +kernel) ⟨Nat.le_of_ble_eq_true rfl, Nat.le_of_ble_eq_true rfl⟩) (zPV hK hP hD [0, 1] rfl rfl [0] rfl 0 rfl rfl rfl) rfl rfl hl.1 rfl (lv_room (Nat.le_of_ble_eq_true rfl)) dX8_skip_40 ⟨Nat.le_of_ble_eq_true rfl, Nat.le_of_ble_eq_true rfl⟩) hP hD hS hA [0, 1] [2, 3, 4, 5] rfl rfl rfl (by decide) (fun  _ H locs hw hP hD hS => ?_)
  have hP : va_P D vwCl [(x, .inr (11, [.ref st, .ref lv, .ref nm, .ref lb, .ref lk, .int 0])), (lv, .inr (4, [.ref fm, .ref go, .ref sk, .ref sa])), (sa, .inr (7, [.ref saA])), (saA, .inl (cI, 5, .inl (zPut 5 (fun _ => 0) p 1))), (nm, .inr (6, [.ref st, .ref lv, .ref us, .ref gr, .ref nu, .ref lt, .ref li, .ref fx, .ref sr, .ref rs, .ref wk, .int 0, .int 0])), (st, .inr (8, [.ref od, .ref pp, .ref le, .ref pa, .int 0]))] H := hP
  have hD : va_D A [(x, .inr (11, [.ref st, .ref lv, .ref nm, .ref lb, .ref lk, .int 0])), (lv, .inr (4, [.ref fm, .ref go, .ref sk, .ref sa])), (sa, .inr (7, [.ref saA])), (saA, .inl (cI, 5, .inl (zPut 5 (fun _ => 0) p 1))), (nm, .inr (6, [.ref st, .ref lv, .ref us, .ref gr, .ref nu, .ref lt, .ref li, .ref fx, .ref sr, .ref rs, .ref wk, .int 0, .int 0])), (st, .inr (8, [.ref od, .ref pp, .ref le, .ref pa, .int 0]))] := hD
  refine lv_aload_n hx hb dX8_skip_43 rfl (lv_at hl 0 rfl) ?_
  refine va_get (D := D) (ci := 11) (v := .ref lv) (C := RX8) (T := TX8) (N := 6) hx hb hts (fun _ h => List.mem_cons_of_mem _ (List.mem_append_left _ (List.mem_append_left _ (List.mem_append_left _ (List.mem_append_left _ (List.mem_append_left _ (List.mem_append_left _ (List.mem_append_left _ (List.mem_append_left _ (List.mem_append_right _ h)))))))))) hown hK hP 0 rfl rfl 1 (by decide) (hts (.fieldLink RX8 19 "NumberingTree" "levels" "LNumberingTree$Levels;") (List.mem_of_getElem? (i := 3) rfl)) (fun _ h9 => h9) rfl dX8_skip_44 ?_
  refine lv_iload_n hx hb dX8_skip_47 rfl (lv_at hl 1 rfl) ?_
  refine zc_i (wc := [(lv, .inr (4, [.ref fm, .ref go, .ref sk, .ref sa])), (sa, .inr (7, [.ref saA])), (saA, .inl (cI, 5, .inl (zPut 5 (fun _ => 0) p 1)))]) (wr := [(x, .inr (11, [.ref st, .ref lv, .ref nm, .ref lb, .ref lk, .int 0])), (nm, .inr (6, [.ref st, .ref lv, .ref us, .ref gr, .ref nu, .ref lt, .ref li, .ref fx, .ref sr, .ref rs, .ref wk, .int 0, .int 0])), (st, .inr (8, [.ref od, .ref pp, .ref le, .ref pa, .int 0]))]) (va_runV (As := [.int p]) (rest := []) ⟨hx, hb, hml, hown, hts⟩ (k_skippedAmount l D cI lv fm go sk sa saA (zPut 5 (fun _ => 0) p 1) p H.size) (cwV 1 hts gX8_skip_X1_skippedAmount rfl rfl rfl (by decide +kernel) ⟨Nat.le_of_ble_eq_true rfl, Nat.le_of_ble_eq_true rfl⟩) (zPV hK hP hD [1, 2, 3] rfl rfl [0] rfl 0 rfl rfl rfl) rfl rfl hl.1 rfl (lv_room (Nat.le_of_ble_eq_true rfl)) dX8_skip_48 ⟨Nat.le_of_ble_eq_true rfl, Nat.le_of_ble_eq_true rfl⟩) hP hD hS hA [1, 2, 3] [0, 4, 5] rfl rfl rfl (by decide) (fun r _ H locs hw hP hD hS => ?_)
  have hP : va_P D vwCl [(x, .inr (11, [.ref st, .ref lv, .ref nm, .ref lb, .ref lk, .int 0])), (nm, .inr (6, [.ref st, .ref lv, .ref us, .ref gr, .ref nu, .ref lt, .ref li, .ref fx, .ref sr, .ref rs, .ref wk, .int 0, .int 0])), (st, .inr (8, [.ref od, .ref pp, .ref le, .ref pa, .int 0]))] H := hP
  have hD : va_D A [(x, .inr (11, [.ref st, .ref lv, .ref nm, .ref lb, .ref lk, .int 0])), (nm, .inr (6, [.ref st, .ref lv, .ref us, .ref gr, .ref nu, .ref lt, .ref li, .ref fx, .ref sr, .ref rs, .ref wk, .int 0, .int 0])), (st, .inr (8, [.ref od, .ref pp, .ref le, .ref pa, .int 0]))] := hD
  subst hw
  obtain ⟨hP9, hD9⟩ := z_get hP hD [] (wc := []) rfl rfl
  exact W.iret (v := zAt 5 (zPut 5 (fun _ => 0) p 1) p) hx hb hr (fun t ht hW => ⟨⟨zAt 5 (zPut 5 (fun _ => 0) p 1) p, (), rfl, (zAt_lv hp.1), by rw [ht]; exact hP9, hD9⟩, hS.F ht⟩) hS.2.2 dX8_skip_51

set_option maxHeartbeats 4000000 in
set_option maxRecDepth 100000 in
theorem x_skip (l : Launch) (D : va_G) (cI : ClassId) (x st lv nm lb lk : Nat) (p q : Int32) (sz : Nat) (hst : l.stackTraces = false) (hp : ¬ zSk p q) : vx_Met l yX8_skip wsX8_skip ({ frames := 8, cells := 1, slots := 6, locals := 132 }) (va_Pc [.ref x, .int p, .int q] (zPreX D [(cI, .int)] [(x, .inr (11, [.ref st, .ref lv, .ref nm, .ref lb, .ref lk, .int 0]))] sz)) (va_Qi (fun _ (_ : Unit) => False) (fun _ _ => True) (va_A [(x, .inr (11, [.ref st, .ref lv, .ref nm, .ref lb, .ref lk, .int 0]))] sz)) (zX "java/lang/IllegalArgumentException" (va_A [(x, .inr (11, [.ref st, .ref lv, .ref nm, .ref lb, .ref lk, .int 0]))] sz)) 1 6 (va_A [(x, .inr (11, [.ref st, .ref lv, .ref nm, .ref lb, .ref lk, .int 0]))] sz) := by
  refine vx_ofW (cc := cX8_skip) (maxL := 3) (ret := (some .int)) (by decide) rfl ?_
  intro P0 E0 s m args below meth C9 s₁ B hml hout hv
  obtain ⟨rfl, ⟨hsz, hP, hK, hD0⟩, ⟨hU, hN⟩, hKB⟩ := hv
  have hx := B.exec
  have hb := B.bytes
  have hr := B.returns
  have hts := atoms_spec (ws := wsX8_skip) B.pre
  have hown : s.vm.findClass RX8 = some m.cls := findClass_of_methodNamed B.named
  have hlocks := B.notSynchronized
  subst hsz
  have hD := hD0.self (sz := s.heap.size)
  generalize hAe : va_A [(x, .inr (11, [.ref st, .ref lv, .ref nm, .ref lb, .ref lk, .int 0]))] s.heap.size = A at hD hU hN ⊢
  have hA : ∀ q : Nat, s.heap.size ≤ q → A q := fun q h => by rw [← hAe]; exact Or.inr h
  have hS : va_S A s.heap s.heap [] := va_S.rf
  have hl := lv_entry ([.ref x, .int p, .int q]) (n := 3) (Nat.le_of_ble_eq_true rfl)
  rw [lg_entry_eq]
  generalize (lg_sl ([.ref x, .int p, .int q]) ++ List.replicate (3 - (lg_sl ([.ref x, .int p, .int q])).length) Slot.unset).toArray = ls at hl ⊢
  have hl : lv_has ls 3 [(0, .ref x), (1, .int p), (2, .int q)] := hl
  refine lv_aload_n hx hb dX8_skip_0 rfl (lv_at hl 0 rfl) ?_
  refine lv_iload_n hx hb dX8_skip_1 rfl (lv_at hl 1 rfl) ?_
  refine lv_iload_n hx hb dX8_skip_2 rfl (lv_at hl 2 rfl) ?_
  refine zc_x (wc := [(x, .inr (11, [.ref st, .ref lv, .ref nm, .ref lb, .ref lk, .int 0]))]) (wr := []) (fun st v t h => by obtain ⟨h1, -⟩ := h; obtain ⟨u, -, h2, -⟩ := h1; exact h2) (vx_runV (As := [.int p, .int q]) (rest := []) ⟨hx, hb, hml, hown, hts⟩ (x_reqSkip l D cI x st lv nm lb lk p q s.heap.size hst hp) (cwV 2 hts gX8_skip_X8_requireSkippable rfl rfl rfl (by decide +kernel) ⟨Nat.le_of_ble_eq_true rfl, Nat.le_of_ble_eq_true rfl⟩) (zPVX ⟨hU, hN⟩ hKB hS hA hK hP hD [0] rfl rfl [0] rfl 0 rfl rfl rfl) rfl rfl hl.1 rfl (lv_room (Nat.le_of_ble_eq_true rfl)) dX8_skip_3 ⟨Nat.le_of_ble_eq_true rfl, Nat.le_of_ble_eq_true rfl⟩) hP hD hS hA [0] [] rfl rfl rfl (by decide) (fun ce q9 H locs hP hD hS hce hcv hcl => ?_)
  exact vx_out (fun x h => (hout x h).elim) hlocks hce hcv hcl (fun t ht hvm => ⟨(), trivial, rfl, hS.F ht⟩) hS.2.2 (Nat.le_refl _) (Nat.le_refl _)

set_option maxHeartbeats 4000000 in
set_option maxRecDepth 100000 in
theorem x_unskip (l : Launch) (D : va_G) (cI : ClassId) (x st lv nm lb lk : Nat) (p q : Int32) (sz : Nat) (hst : l.stackTraces = false) (hp : ¬ zSk p q) : vx_Met l yX8_unskip wsX8_unskip ({ frames := 8, cells := 1, slots := 6, locals := 132 }) (va_Pc [.ref x, .int p, .int q] (zPreX D [(cI, .int)] [(x, .inr (11, [.ref st, .ref lv, .ref nm, .ref lb, .ref lk, .int 0]))] sz)) (va_Qi (fun _ (_ : Unit) => False) (fun _ _ => True) (va_A [(x, .inr (11, [.ref st, .ref lv, .ref nm, .ref lb, .ref lk, .int 0]))] sz)) (zX "java/lang/IllegalArgumentException" (va_A [(x, .inr (11, [.ref st, .ref lv, .ref nm, .ref lb, .ref lk, .int 0]))] sz)) 1 6 (va_A [(x, .inr (11, [.ref st, .ref lv, .ref nm, .ref lb, .ref lk, .int 0]))] sz) := by
  refine vx_ofW (cc := cX8_unskip) (maxL := 3) (ret := (some .int)) (by decide) rfl ?_
  intro P0 E0 s m args below meth C9 s₁ B hml hout hv
  obtain ⟨rfl, ⟨hsz, hP, hK, hD0⟩, ⟨hU, hN⟩, hKB⟩ := hv
  have hx := B.exec
  have hb := B.bytes
  have hr := B.returns
  have hts := atoms_spec (ws := wsX8_unskip) B.pre
  have hown : s.vm.findClass RX8 = some m.cls := findClass_of_methodNamed B.named
  have hlocks := B.notSynchronized
  subst hsz
  have hD := hD0.self (sz := s.heap.size)
  generalize hAe : va_A [(x, .inr (11, [.ref st, .ref lv, .ref nm, .ref lb, .ref lk, .int 0]))] s.heap.size = A at hD hU hN ⊢
  have hA : ∀ q : Nat, s.heap.size ≤ q → A q := fun q h => by rw [← hAe]; exact Or.inr h
  have hS : va_S A s.heap s.heap [] := va_S.rf
  have hl := lv_entry ([.ref x, .int p, .int q]) (n := 3) (Nat.le_of_ble_eq_true rfl)
  rw [lg_entry_eq]
  generalize (lg_sl ([.ref x, .int p, .int q]) ++ List.replicate (3 - (lg_sl ([.ref x, .int p, .int q])).length) Slot.unset).toArray = ls at hl ⊢
  have hl : lv_has ls 3 [(0, .ref x), (1, .int p), (2, .int q)] := hl
  refine lv_aload_n hx hb dX8_unskip_0 rfl (lv_at hl 0 rfl) ?_
  refine lv_iload_n hx hb dX8_unskip_1 rfl (lv_at hl 1 rfl) ?_
  refine lv_iload_n hx hb dX8_unskip_2 rfl (lv_at hl 2 rfl) ?_
  refine zc_x (wc := [(x, .inr (11, [.ref st, .ref lv, .ref nm, .ref lb, .ref lk, .int 0]))]) (wr := []) (fun st v t h => by obtain ⟨h1, -⟩ := h; obtain ⟨u, -, h2, -⟩ := h1; exact h2) (vx_runV (As := [.int p, .int q]) (rest := []) ⟨hx, hb, hml, hown, hts⟩ (x_reqSkip l D cI x st lv nm lb lk p q s.heap.size hst hp) (cwV 2 hts gX8_unskip_X8_requireSkippable rfl rfl rfl (by decide +kernel) ⟨Nat.le_of_ble_eq_true rfl, Nat.le_of_ble_eq_true rfl⟩) (zPVX ⟨hU, hN⟩ hKB hS hA hK hP hD [0] rfl rfl [0] rfl 0 rfl rfl rfl) rfl rfl hl.1 rfl (lv_room (Nat.le_of_ble_eq_true rfl)) dX8_unskip_3 ⟨Nat.le_of_ble_eq_true rfl, Nat.le_of_ble_eq_true rfl⟩) hP hD hS hA [0] [] rfl rfl rfl (by decide) (fun ce q9 H locs hP hD hS hce hcv hcl => ?_)
  exact vx_out (fun x h => (hout x h).elim) hlocks hce hcv hcl (fun t ht hvm => ⟨(), trivial, rfl, hS.F ht⟩) hS.2.2 (Nat.le_refl _) (Nat.le_refl _)

set_option maxHeartbeats 4000000 in
set_option maxRecDepth 100000 in
theorem x_unskip2 (l : Launch) (D : va_G) (cI : ClassId) (x st lv nm lb lk fm go sk sa skA : Nat) (p q : Int32) (sz : Nat) (hst : l.stackTraces = false) (hp : zSk p q) : vx_Met l yX8_unskip wsX8_unskip ({ frames := 6, cells := 1, slots := 6, locals := 89 }) (va_Pc [.ref x, .int p, .int q] (zPreX D [(cI, .int)] [(x, .inr (11, [.ref st, .ref lv, .ref nm, .ref lb, .ref lk, .int 0])), (lv, .inr (4, [.ref fm, .ref go, .ref sk, .ref sa])), (sk, .inr (7, [.ref skA])), (skA, .inl (cI, 500, .inl (fun _ => 0)))] sz)) (va_Qi (fun _ (_ : Unit) => False) (fun _ _ => True) (va_A [(x, .inr (11, [.ref st, .ref lv, .ref nm, .ref lb, .ref lk, .int 0])), (lv, .inr (4, [.ref fm, .ref go, .ref sk, .ref sa])), (sk, .inr (7, [.ref skA])), (skA, .inl (cI, 500, .inl (fun _ => 0)))] sz)) (zX "java/lang/IllegalStateException" (va_A [(x, .inr (11, [.ref st, .ref lv, .ref nm, .ref lb, .ref lk, .int 0])), (lv, .inr (4, [.ref fm, .ref go, .ref sk, .ref sa])), (sk, .inr (7, [.ref skA])), (skA, .inl (cI, 500, .inl (fun _ => 0)))] sz)) 1 6 (va_A [(x, .inr (11, [.ref st, .ref lv, .ref nm, .ref lb, .ref lk, .int 0])), (lv, .inr (4, [.ref fm, .ref go, .ref sk, .ref sa])), (sk, .inr (7, [.ref skA])), (skA, .inl (cI, 500, .inl (fun _ => 0)))] sz) := by
  refine vx_ofW (cc := cX8_unskip) (maxL := 3) (ret := (some .int)) (by decide) rfl ?_
  intro P0 E0 s m args below meth C9 s₁ B hml hout hv
  obtain ⟨rfl, ⟨hsz, hP, hK, hD0⟩, ⟨hU, hN⟩, hKB⟩ := hv
  have hx := B.exec
  have hb := B.bytes
  have hr := B.returns
  have hts := atoms_spec (ws := wsX8_unskip) B.pre
  have hown : s.vm.findClass RX8 = some m.cls := findClass_of_methodNamed B.named
  have hlocks := B.notSynchronized
  subst hsz
  have hD := hD0.self (sz := s.heap.size)
  generalize hAe : va_A [(x, .inr (11, [.ref st, .ref lv, .ref nm, .ref lb, .ref lk, .int 0])), (lv, .inr (4, [.ref fm, .ref go, .ref sk, .ref sa])), (sk, .inr (7, [.ref skA])), (skA, .inl (cI, 500, .inl (fun _ => 0)))] s.heap.size = A at hD hU hN ⊢
  have hA : ∀ q : Nat, s.heap.size ≤ q → A q := fun q h => by rw [← hAe]; exact Or.inr h
  have hS : va_S A s.heap s.heap [] := va_S.rf
  have hl := lv_entry ([.ref x, .int p, .int q]) (n := 3) (Nat.le_of_ble_eq_true rfl)
  rw [lg_entry_eq]
  generalize (lg_sl ([.ref x, .int p, .int q]) ++ List.replicate (3 - (lg_sl ([.ref x, .int p, .int q])).length) Slot.unset).toArray = ls at hl ⊢
  have hl : lv_has ls 3 [(0, .ref x), (1, .int p), (2, .int q)] := hl
  refine lv_aload_n hx hb dX8_unskip_0 rfl (lv_at hl 0 rfl) ?_
  refine lv_iload_n hx hb dX8_unskip_1 rfl (lv_at hl 1 rfl) ?_
  refine lv_iload_n hx hb dX8_unskip_2 rfl (lv_at hl 2 rfl) ?_
  refine zc_v (wc := [(x, .inr (11, [.ref st, .ref lv, .ref nm, .ref lb, .ref lk, .int 0]))]) (wr := [(lv, .inr (4, [.ref fm, .ref go, .ref sk, .ref sa])), (sk, .inr (7, [.ref skA])), (skA, .inl (cI, 500, .inl (fun _ => 0)))]) (va_runV (As := [.int p, .int q]) (rest := []) ⟨hx, hb, hml, hown, hts⟩ (k_reqSkip l D cI x st lv nm lb lk p q s.heap.size hp) (cwV 2 hts gX8_unskip_X8_requireSkippable rfl rfl rfl (by decide +kernel) ⟨Nat.le_of_ble_eq_true rfl, Nat.le_of_ble_eq_true rfl⟩) (zPV hK hP hD [0] rfl rfl [0] rfl 0 rfl rfl rfl) rfl rfl hl.1 rfl (lv_room (Nat.le_of_ble_eq_true rfl)) dX8_unskip_3 ⟨Nat.le_of_ble_eq_true rfl, Nat.le_of_ble_eq_true rfl⟩) hP hD hS hA [0] [1, 2, 3] rfl rfl rfl (by decide) (fun  _ H locs hw hP hD hS => ?_)
  have hP : va_P D vwCl [(lv, .inr (4, [.ref fm, .ref go, .ref sk, .ref sa])), (sk, .inr (7, [.ref skA])), (skA, .inl (cI, 500, .inl (fun _ => 0))), (x, .inr (11, [.ref st, .ref lv, .ref nm, .ref lb, .ref lk, .int 0]))] H := hP
  have hD : va_D A [(lv, .inr (4, [.ref fm, .ref go, .ref sk, .ref sa])), (sk, .inr (7, [.ref skA])), (skA, .inl (cI, 500, .inl (fun _ => 0))), (x, .inr (11, [.ref st, .ref lv, .ref nm, .ref lb, .ref lk, .int 0]))] := hD
  refine lv_aload_n hx hb dX8_unskip_6 rfl (lv_at hl 0 rfl) ?_
  refine va_get (D := D) (ci := 11) (v := .ref lv) (C := RX8) (T := TX8) (N := 6) hx hb hts (fun _ h => List.mem_cons_of_mem _ (List.mem_append_left _ (List.mem_append_left _ (List.mem_append_left _ (List.mem_append_left _ (List.mem_append_left _ (List.mem_append_left _ (List.mem_append_left _ (List.mem_append_left _ (List.mem_append_right _ h)))))))))) hown hK hP 3 rfl rfl 1 (by decide) (hts (.fieldLink RX8 19 "NumberingTree" "levels" "LNumberingTree$Levels;") (List.mem_of_getElem? (i := 3) rfl)) (fun _ h9 => h9) rfl dX8_unskip_7 ?_
  refine lv_iload_n hx hb dX8_unskip_10 rfl (lv_at hl 1 rfl) ?_
  refine lv_iload_n hx hb dX8_unskip_11 rfl (lv_at hl 2 rfl) ?_
  refine zc_i (wc := [(lv, .inr (4, [.ref fm, .ref go, .ref sk, .ref sa])), (sk, .inr (7, [.ref skA])), (skA, .inl (cI, 500, .inl (fun _ => 0)))]) (wr := [(x, .inr (11, [.ref st, .ref lv, .ref nm, .ref lb, .ref lk, .int 0]))]) (va_runV (As := [.int p, .int q]) (rest := []) ⟨hx, hb, hml, hown, hts⟩ (k_isSkipped0 l D cI lv fm go sk sa skA p q H.size) (cwV 2 hts gX8_unskip_X1_isSkipped rfl rfl rfl (by decide +kernel) ⟨Nat.le_of_ble_eq_true rfl, Nat.le_of_ble_eq_true rfl⟩) (zPV hK hP hD [0, 1, 2] rfl rfl [0] rfl 0 rfl rfl rfl) rfl rfl hl.1 rfl (lv_room (Nat.le_of_ble_eq_true rfl)) dX8_unskip_12 ⟨Nat.le_of_ble_eq_true rfl, Nat.le_of_ble_eq_true rfl⟩) hP hD hS hA [0, 1, 2] [3] rfl rfl rfl (by decide) (fun r _ H locs hw hP hD hS => ?_)
  have hP : va_P D vwCl [(x, .inr (11, [.ref st, .ref lv, .ref nm, .ref lb, .ref lk, .int 0])), (lv, .inr (4, [.ref fm, .ref go, .ref sk, .ref sa])), (sk, .inr (7, [.ref skA])), (skA, .inl (cI, 500, .inl (fun _ => 0)))] H := hP
  have hD : va_D A [(x, .inr (11, [.ref st, .ref lv, .ref nm, .ref lb, .ref lk, .int 0])), (lv, .inr (4, [.ref fm, .ref go, .ref sk, .ref sa])), (sk, .inr (7, [.ref skA])), (skA, .inl (cI, 500, .inl (fun _ => 0)))] := hD
  subst hw
  refine lv_if_ne (tgt := 26) hx hb dX8_unskip_15 (by decide) (fun q => absurd q (by decide)) (fun _ => ?_)
  exact vx_throw0 (own := RX8) (cls := "java/lang/IllegalStateException") (names := ["java/lang/RuntimeException", "java/lang/Exception"]) (ik := 59) (ic := 61) hx hb hst hown (by decide +kernel) (by decide +kernel) (hts (.classLink RX8 59 "java/lang/IllegalStateException") (List.mem_of_getElem? (i := 1) rfl)) (hts (.initialized "java/lang/IllegalStateException") (List.mem_of_getElem? (i := 2) rfl)) (zhat0 (fun w h => hts w ((fun _ h => List.mem_cons_of_mem _ (List.mem_append_left _ (List.mem_append_left _ (List.mem_append_right _ h)))) w h)) hKB (by decide +kernel)) (by decide +kernel) hU hN hS (hl.1.trans hml.symm) dX8_unskip_18 dX8_unskip_21 dX8_unskip_22 dX8_unskip_25 (fun x h => (hout x h).elim) (Nat.lt_of_succ_le (Nat.le_of_ble_eq_true rfl)) (Nat.le_of_ble_eq_true rfl) (Nat.le_of_ble_eq_true rfl) (Nat.le_of_ble_eq_true rfl) hlocks (fun t hvm hz hk => ⟨(), trivial, rfl, zF_throw hS hz hk⟩) hS.2.2 (Nat.le_of_ble_eq_true rfl) (Nat.le_of_ble_eq_true rfl)

set_option maxHeartbeats 4000000 in
set_option maxRecDepth 100000 in
theorem k_format (l : Launch) (D : va_G) (cI : ClassId) (lv fm go sk sa fmA : Nat) (p : Int32) (sz : Nat) (hp : zLv p) : Met l yX1_format wsX1_format ({ frames := 1, cells := 0, slots := 0, locals := 21 }) (va_Pc [.ref lv, .int p] (zPre D [(cI, .int)] [(lv, .inr (4, [.ref fm, .ref go, .ref sk, .ref sa])), (fm, .inr (7, [.ref fmA])), (fmA, .inl (cI, 5, .inl (zPut 5 (zPut 5 (zPut 5 (zPut 5 (fun _ => 0) 1 100) 2 100) 3 100) 4 100)))] sz)) (va_Qi (fun rv (_ : Unit) => rv = 100) (fun (_ : Unit) => zB D [(lv, .inr (4, [.ref fm, .ref go, .ref sk, .ref sa])), (fm, .inr (7, [.ref fmA])), (fmA, .inl (cI, 5, .inl (zPut 5 (zPut 5 (zPut 5 (zPut 5 (fun _ => 0) 1 100) 2 100) 3 100) 4 100)))] (va_A [(lv, .inr (4, [.ref fm, .ref go, .ref sk, .ref sa])), (fm, .inr (7, [.ref fmA])), (fmA, .inl (cI, 5, .inl (zPut 5 (zPut 5 (zPut 5 (zPut 5 (fun _ => 0) 1 100) 2 100) 3 100) 4 100)))] sz)) (va_A [(lv, .inr (4, [.ref fm, .ref go, .ref sk, .ref sa])), (fm, .inr (7, [.ref fmA])), (fmA, .inl (cI, 5, .inl (zPut 5 (zPut 5 (zPut 5 (zPut 5 (fun _ => 0) 1 100) 2 100) 3 100) 4 100)))] sz)) 0 0 (va_A [(lv, .inr (4, [.ref fm, .ref go, .ref sk, .ref sa])), (fm, .inr (7, [.ref fmA])), (fmA, .inl (cI, 5, .inl (zPut 5 (zPut 5 (zPut 5 (zPut 5 (fun _ => 0) 1 100) 2 100) 3 100) 4 100)))] sz) := by
  refine Met.ofW (cc := cX1_format) (maxL := 2) (ret := (some .char)) (by decide) rfl ?_
  intro P0 E0 s m args below meth C9 s₁ B hml hv
  obtain ⟨rfl, hsz, hP, hK, hD0⟩ := hv
  have hx := B.exec
  have hb := B.bytes
  have hr := B.returns
  have hts := atoms_spec (ws := wsX1_format) B.pre
  have hown : s.vm.findClass RX1 = some m.cls := findClass_of_methodNamed B.named
  have hlocks := B.notSynchronized
  subst hsz
  have hD := hD0.self (sz := s.heap.size)
  generalize hAe : va_A [(lv, .inr (4, [.ref fm, .ref go, .ref sk, .ref sa])), (fm, .inr (7, [.ref fmA])), (fmA, .inl (cI, 5, .inl (zPut 5 (zPut 5 (zPut 5 (zPut 5 (fun _ => 0) 1 100) 2 100) 3 100) 4 100)))] s.heap.size = A at hD ⊢
  have hA : ∀ q : Nat, s.heap.size ≤ q → A q := fun q h => by rw [← hAe]; exact Or.inr h
  have hS : va_S A s.heap s.heap [] := va_S.rf
  have hl := lv_entry ([.ref lv, .int p]) (n := 2) (Nat.le_of_ble_eq_true rfl)
  rw [lg_entry_eq]
  generalize (lg_sl ([.ref lv, .int p]) ++ List.replicate (2 - (lg_sl ([.ref lv, .int p])).length) Slot.unset).toArray = ls at hl ⊢
  have hl : lv_has ls 2 [(0, .ref lv), (1, .int p)] := hl
  refine lv_aload_n hx hb dX1_format_0 rfl (lv_at hl 0 rfl) ?_
  refine va_get (D := D) (ci := 4) (v := .ref fm) (C := RX1) (T := TX1) (N := 4) hx hb hts (fun _ h => List.mem_cons_of_mem _ (List.mem_append_left _ (List.mem_append_left _ (List.mem_append_right _ h)))) hown hK hP 0 rfl rfl 0 (by decide) (hts (.fieldLink RX1 14 "NumberingTree$Levels" "formats" "LNumberingTree$Row;") (List.mem_of_getElem? (i := 1) rfl)) (fun _ h9 => h9) rfl dX1_format_1 ?_
  refine lv_iload_n hx hb dX1_format_4 rfl (lv_at hl 1 rfl) ?_
  refine zc_i (wc := [(fm, .inr (7, [.ref fmA])), (fmA, .inl (cI, 5, .inl (zPut 5 (zPut 5 (zPut 5 (zPut 5 (fun _ => 0) 1 100) 2 100) 3 100) 4 100)))]) (wr := [(lv, .inr (4, [.ref fm, .ref go, .ref sk, .ref sa]))]) (va_runV (As := [.int p]) (rest := []) ⟨hx, hb, hml, hown, hts⟩ (k_at l D cI fm fmA 5 (zPut 5 (zPut 5 (zPut 5 (zPut 5 (fun _ => 0) 1 100) 2 100) 3 100) 4 100) p s.heap.size (by decide)) (cwV 1 hts gX1_format_X4_at rfl rfl rfl (by decide +kernel) ⟨Nat.le_of_ble_eq_true rfl, Nat.le_of_ble_eq_true rfl⟩) (zPV hK hP hD [1, 2] rfl rfl [0] rfl 0 rfl rfl rfl) rfl rfl hl.1 rfl (lv_room (Nat.le_of_ble_eq_true rfl)) dX1_format_5 ⟨Nat.le_of_ble_eq_true rfl, Nat.le_of_ble_eq_true rfl⟩) hP hD hS hA [1, 2] [0] rfl rfl rfl (by decide) (fun r _ H locs hw hP hD hS => ?_)
  have hP : va_P D vwCl [(lv, .inr (4, [.ref fm, .ref go, .ref sk, .ref sa])), (fm, .inr (7, [.ref fmA])), (fmA, .inl (cI, 5, .inl (zPut 5 (zPut 5 (zPut 5 (zPut 5 (fun _ => 0) 1 100) 2 100) 3 100) 4 100)))] H := hP
  have hD : va_D A [(lv, .inr (4, [.ref fm, .ref go, .ref sk, .ref sa])), (fm, .inr (7, [.ref fmA])), (fmA, .inl (cI, 5, .inl (zPut 5 (zPut 5 (zPut 5 (zPut 5 (fun _ => 0) 1 100) 2 100) 3 100) 4 100)))] := hD
  subst hw
  refine zt_i 100 (zAt_fmt hp) ?_
  refine lv_i2c (v := 100) hx hb dX1_format_8 (by decide) ?_
  obtain ⟨hP9, hD9⟩ := z_get hP hD [0, 1, 2] (wc := [(lv, .inr (4, [.ref fm, .ref go, .ref sk, .ref sa])), (fm, .inr (7, [.ref fmA])), (fmA, .inl (cI, 5, .inl (zPut 5 (zPut 5 (zPut 5 (zPut 5 (fun _ => 0) 1 100) 2 100) 3 100) 4 100)))]) rfl rfl
  exact W.zret (ty := .char) (v := 100) hx hb hr rfl (fun t ht hW => ⟨⟨100, (), rfl, rfl, by rw [ht]; exact hP9, hD9⟩, hS.F ht⟩) hS.2.2 dX1_format_9

set_option maxHeartbeats 4000000 in
set_option maxRecDepth 100000 in
theorem k_putFormat (l : Launch) (D : va_G) (cI : ClassId) (lv fm go sk sa fmA : Nat) (f : Nat → Int32) (p q : Int32) (sz : Nat) : Met l yX1_putFormat wsX1_putFormat ({ frames := 1, cells := 0, slots := 0, locals := 22 }) (va_Pc [.ref lv, .int p, .int q] (zPre D [(cI, .int)] [(lv, .inr (4, [.ref fm, .ref go, .ref sk, .ref sa])), (fm, .inr (7, [.ref fmA])), (fmA, .inl (cI, 5, .inl f))] sz)) (va_Qv (fun (_ : Unit) => True) (fun (_ : Unit) => zB D [] (va_A [(lv, .inr (4, [.ref fm, .ref go, .ref sk, .ref sa])), (fm, .inr (7, [.ref fmA])), (fmA, .inl (cI, 5, .inl f))] sz)) (va_A [(lv, .inr (4, [.ref fm, .ref go, .ref sk, .ref sa])), (fm, .inr (7, [.ref fmA])), (fmA, .inl (cI, 5, .inl f))] sz)) 0 0 (va_A [(lv, .inr (4, [.ref fm, .ref go, .ref sk, .ref sa])), (fm, .inr (7, [.ref fmA])), (fmA, .inl (cI, 5, .inl f))] sz) := by
  refine Met.ofW (cc := cX1_putFormat) (maxL := 3) (ret := none) (by decide) rfl ?_
  intro P0 E0 s m args below meth C9 s₁ B hml hv
  obtain ⟨rfl, hsz, hP, hK, hD0⟩ := hv
  have hx := B.exec
  have hb := B.bytes
  have hr := B.returns
  have hts := atoms_spec (ws := wsX1_putFormat) B.pre
  have hown : s.vm.findClass RX1 = some m.cls := findClass_of_methodNamed B.named
  have hlocks := B.notSynchronized
  subst hsz
  have hD := hD0.self (sz := s.heap.size)
  generalize hAe : va_A [(lv, .inr (4, [.ref fm, .ref go, .ref sk, .ref sa])), (fm, .inr (7, [.ref fmA])), (fmA, .inl (cI, 5, .inl f))] s.heap.size = A at hD ⊢
  have hA : ∀ q : Nat, s.heap.size ≤ q → A q := fun q h => by rw [← hAe]; exact Or.inr h
  have hS : va_S A s.heap s.heap [] := va_S.rf
  have hl := lv_entry ([.ref lv, .int p, .int q]) (n := 3) (Nat.le_of_ble_eq_true rfl)
  rw [lg_entry_eq]
  generalize (lg_sl ([.ref lv, .int p, .int q]) ++ List.replicate (3 - (lg_sl ([.ref lv, .int p, .int q])).length) Slot.unset).toArray = ls at hl ⊢
  have hl : lv_has ls 3 [(0, .ref lv), (1, .int p), (2, .int q)] := hl
  refine lv_aload_n hx hb dX1_putFormat_0 rfl (lv_at hl 0 rfl) ?_
  refine va_get (D := D) (ci := 4) (v := .ref fm) (C := RX1) (T := TX1) (N := 4) hx hb hts (fun _ h => List.mem_cons_of_mem _ (List.mem_append_left _ (List.mem_append_left _ (List.mem_append_right _ h)))) hown hK hP 0 rfl rfl 0 (by decide) (hts (.fieldLink RX1 14 "NumberingTree$Levels" "formats" "LNumberingTree$Row;") (List.mem_of_getElem? (i := 1) rfl)) (fun _ h9 => h9) rfl dX1_putFormat_1 ?_
  refine lv_iload_n hx hb dX1_putFormat_4 rfl (lv_at hl 1 rfl) ?_
  refine lv_iload_n hx hb dX1_putFormat_5 rfl (lv_at hl 2 rfl) ?_
  refine zc_v (wc := [(fm, .inr (7, [.ref fmA])), (fmA, .inl (cI, 5, .inl f))]) (wr := [(lv, .inr (4, [.ref fm, .ref go, .ref sk, .ref sa]))]) (va_runV (As := [.int p, .int q]) (rest := []) ⟨hx, hb, hml, hown, hts⟩ (k_put l D cI fm fmA 5 f p q s.heap.size (by decide)) (cwV 2 hts gX1_putFormat_X4_put rfl rfl rfl (by decide +kernel) ⟨Nat.le_of_ble_eq_true rfl, Nat.le_of_ble_eq_true rfl⟩) (zPV hK hP hD [1, 2] rfl rfl [0] rfl 0 rfl rfl rfl) rfl rfl hl.1 rfl (lv_room (Nat.le_of_ble_eq_true rfl)) dX1_putFormat_6 ⟨Nat.le_of_ble_eq_true rfl, Nat.le_of_ble_eq_true rfl⟩) hP hD hS hA [1, 2] [0] rfl rfl rfl (by decide) (fun  _ H locs hw hP hD hS => ?_)
  have hP : va_P D vwCl [(lv, .inr (4, [.ref fm, .ref go, .ref sk, .ref sa])), (fm, .inr (7, [.ref fmA])), (fmA, .inl (cI, 5, .inl (zPut 5 f p q)))] H := hP
  have hD : va_D A [(lv, .inr (4, [.ref fm, .ref go, .ref sk, .ref sa])), (fm, .inr (7, [.ref fmA])), (fmA, .inl (cI, 5, .inl (zPut 5 f p q)))] := hD
  obtain ⟨hP9, hD9⟩ := z_get hP hD [] (wc := []) rfl rfl
  exact W.vret hx hb hr (fun t ht hW => ⟨⟨(), rfl, trivial, by rw [ht]; exact hP9, hD9⟩, hS.F ht⟩) hS.2.2 dX1_putFormat_9

set_option maxHeartbeats 4000000 in
set_option maxRecDepth 100000 in
theorem k_setFormat (l : Launch) (D : va_G) (cI : ClassId) (x st lv nm lb lk fm go sk sa fmA : Nat) (p q : Int32) (sz : Nat) (hp : zLv p) (hq : zFo q) : Met l yX8_setFormat wsX8_setFormat ({ frames := 2, cells := 0, slots := 0, locals := 44 }) (va_Pc [.ref x, .int p, .int q] (zPre D [(cI, .int)] [(x, .inr (11, [.ref st, .ref lv, .ref nm, .ref lb, .ref lk, .int 0])), (lv, .inr (4, [.ref fm, .ref go, .ref sk, .ref sa])), (fm, .inr (7, [.ref fmA])), (fmA, .inl (cI, 5, .inl (zPut 5 (zPut 5 (zPut 5 (zPut 5 (fun _ => 0) 1 100) 2 100) 3 100) 4 100)))] sz)) (va_Qi (fun rv (_ : Unit) => rv = 100) (fun (_ : Unit) => zB D [] (va_A [(x, .inr (11, [.ref st, .ref lv, .ref nm, .ref lb, .ref lk, .int 0])), (lv, .inr (4, [.ref fm, .ref go, .ref sk, .ref sa])), (fm, .inr (7, [.ref fmA])), (fmA, .inl (cI, 5, .inl (zPut 5 (zPut 5 (zPut 5 (zPut 5 (fun _ => 0) 1 100) 2 100) 3 100) 4 100)))] sz)) (va_A [(x, .inr (11, [.ref st, .ref lv, .ref nm, .ref lb, .ref lk, .int 0])), (lv, .inr (4, [.ref fm, .ref go, .ref sk, .ref sa])), (fm, .inr (7, [.ref fmA])), (fmA, .inl (cI, 5, .inl (zPut 5 (zPut 5 (zPut 5 (zPut 5 (fun _ => 0) 1 100) 2 100) 3 100) 4 100)))] sz)) 0 0 (va_A [(x, .inr (11, [.ref st, .ref lv, .ref nm, .ref lb, .ref lk, .int 0])), (lv, .inr (4, [.ref fm, .ref go, .ref sk, .ref sa])), (fm, .inr (7, [.ref fmA])), (fmA, .inl (cI, 5, .inl (zPut 5 (zPut 5 (zPut 5 (zPut 5 (fun _ => 0) 1 100) 2 100) 3 100) 4 100)))] sz) := by
  refine Met.ofW (cc := cX8_setFormat) (maxL := 4) (ret := (some .char)) (by decide) rfl ?_
  intro P0 E0 s m args below meth C9 s₁ B hml hv
  obtain ⟨rfl, hsz, hP, hK, hD0⟩ := hv
  have hx := B.exec
  have hb := B.bytes
  have hr := B.returns
  have hts := atoms_spec (ws := wsX8_setFormat) B.pre
  have hown : s.vm.findClass RX8 = some m.cls := findClass_of_methodNamed B.named
  have hlocks := B.notSynchronized
  subst hsz
  have hD := hD0.self (sz := s.heap.size)
  generalize hAe : va_A [(x, .inr (11, [.ref st, .ref lv, .ref nm, .ref lb, .ref lk, .int 0])), (lv, .inr (4, [.ref fm, .ref go, .ref sk, .ref sa])), (fm, .inr (7, [.ref fmA])), (fmA, .inl (cI, 5, .inl (zPut 5 (zPut 5 (zPut 5 (zPut 5 (fun _ => 0) 1 100) 2 100) 3 100) 4 100)))] s.heap.size = A at hD ⊢
  have hA : ∀ q : Nat, s.heap.size ≤ q → A q := fun q h => by rw [← hAe]; exact Or.inr h
  have hS : va_S A s.heap s.heap [] := va_S.rf
  have hl := lv_entry ([.ref x, .int p, .int q]) (n := 4) (Nat.le_of_ble_eq_true rfl)
  rw [lg_entry_eq]
  generalize (lg_sl ([.ref x, .int p, .int q]) ++ List.replicate (4 - (lg_sl ([.ref x, .int p, .int q])).length) Slot.unset).toArray = ls at hl ⊢
  have hl : lv_has ls 4 [(0, .ref x), (1, .int p), (2, .int q)] := hl
  refine lv_aload_n hx hb dX8_setFormat_0 rfl (lv_at hl 0 rfl) ?_
  refine lv_iload_n hx hb dX8_setFormat_1 rfl (lv_at hl 1 rfl) ?_
  refine zc_v (wc := [(x, .inr (11, [.ref st, .ref lv, .ref nm, .ref lb, .ref lk, .int 0]))]) (wr := [(lv, .inr (4, [.ref fm, .ref go, .ref sk, .ref sa])), (fm, .inr (7, [.ref fmA])), (fmA, .inl (cI, 5, .inl (zPut 5 (zPut 5 (zPut 5 (zPut 5 (fun _ => 0) 1 100) 2 100) 3 100) 4 100)))]) (va_runV (As := [.int p]) (rest := []) ⟨hx, hb, hml, hown, hts⟩ (k_reqLevel l D cI x st lv nm lb lk p s.heap.size hp) (cwV 1 hts gX8_setFormat_X8_requireNumberedLevel rfl rfl rfl (by decide +kernel) ⟨Nat.le_of_ble_eq_true rfl, Nat.le_of_ble_eq_true rfl⟩) (zPV hK hP hD [0] rfl rfl [0] rfl 0 rfl rfl rfl) rfl rfl hl.1 rfl (lv_room (Nat.le_of_ble_eq_true rfl)) dX8_setFormat_2 ⟨Nat.le_of_ble_eq_true rfl, Nat.le_of_ble_eq_true rfl⟩) hP hD hS hA [0] [1, 2, 3] rfl rfl rfl (by decide) (fun  _ H locs hw hP hD hS => ?_)
  have hP : va_P D vwCl [(lv, .inr (4, [.ref fm, .ref go, .ref sk, .ref sa])), (fm, .inr (7, [.ref fmA])), (fmA, .inl (cI, 5, .inl (zPut 5 (zPut 5 (zPut 5 (zPut 5 (fun _ => 0) 1 100) 2 100) 3 100) 4 100))), (x, .inr (11, [.ref st, .ref lv, .ref nm, .ref lb, .ref lk, .int 0]))] H := hP
  have hD : va_D A [(lv, .inr (4, [.ref fm, .ref go, .ref sk, .ref sa])), (fm, .inr (7, [.ref fmA])), (fmA, .inl (cI, 5, .inl (zPut 5 (zPut 5 (zPut 5 (zPut 5 (fun _ => 0) 1 100) 2 100) 3 100) 4 100))), (x, .inr (11, [.ref st, .ref lv, .ref nm, .ref lb, .ref lk, .int 0]))] := hD
  refine lv_iload_n hx hb dX8_setFormat_5 rfl (lv_at hl 2 rfl) ?_
  refine lv_bipush (v := 100) hx hb dX8_setFormat_6 (by decide) ?_
  refine lv_icmp_eq (tgt := 37) hx hb dX8_setFormat_8 (by decide) (fun c1 => ?_) (fun c1 => ?_)
  · refine lv_aload_n hx hb dX8_setFormat_37 rfl (lv_at hl 0 rfl) ?_
    refine va_get (D := D) (ci := 11) (v := .ref lv) (C := RX8) (T := TX8) (N := 6) hx hb hts (fun _ h => List.mem_cons_of_mem _ (List.mem_append_left _ (List.mem_append_left _ (List.mem_append_left _ (List.mem_append_left _ (List.mem_append_right _ h)))))) hown hK hP 3 rfl rfl 1 (by decide) (hts (.fieldLink RX8 19 "NumberingTree" "levels" "LNumberingTree$Levels;") (List.mem_of_getElem? (i := 3) rfl)) (fun _ h9 => h9) rfl dX8_setFormat_38 ?_
    refine lv_iload_n hx hb dX8_setFormat_41 rfl (lv_at hl 1 rfl) ?_
    refine zc_i (wc := [(lv, .inr (4, [.ref fm, .ref go, .ref sk, .ref sa])), (fm, .inr (7, [.ref fmA])), (fmA, .inl (cI, 5, .inl (zPut 5 (zPut 5 (zPut 5 (zPut 5 (fun _ => 0) 1 100) 2 100) 3 100) 4 100)))]) (wr := [(x, .inr (11, [.ref st, .ref lv, .ref nm, .ref lb, .ref lk, .int 0]))]) (va_runV (As := [.int p]) (rest := []) ⟨hx, hb, hml, hown, hts⟩ (k_format l D cI lv fm go sk sa fmA p H.size hp) (cwV 1 hts gX8_setFormat_X1_format rfl rfl rfl (by decide +kernel) ⟨Nat.le_of_ble_eq_true rfl, Nat.le_of_ble_eq_true rfl⟩) (zPV hK hP hD [0, 1, 2] rfl rfl [0] rfl 0 rfl rfl rfl) rfl rfl hl.1 rfl (lv_room (Nat.le_of_ble_eq_true rfl)) dX8_setFormat_42 ⟨Nat.le_of_ble_eq_true rfl, Nat.le_of_ble_eq_true rfl⟩) hP hD hS hA [0, 1, 2] [3] rfl rfl rfl (by decide) (fun r _ H locs hw hP hD hS => ?_)
    have hP : va_P D vwCl [(x, .inr (11, [.ref st, .ref lv, .ref nm, .ref lb, .ref lk, .int 0])), (lv, .inr (4, [.ref fm, .ref go, .ref sk, .ref sa])), (fm, .inr (7, [.ref fmA])), (fmA, .inl (cI, 5, .inl (zPut 5 (zPut 5 (zPut 5 (zPut 5 (fun _ => 0) 1 100) 2 100) 3 100) 4 100)))] H := hP
    have hD : va_D A [(x, .inr (11, [.ref st, .ref lv, .ref nm, .ref lb, .ref lk, .int 0])), (lv, .inr (4, [.ref fm, .ref go, .ref sk, .ref sa])), (fm, .inr (7, [.ref fmA])), (fmA, .inl (cI, 5, .inl (zPut 5 (zPut 5 (zPut 5 (zPut 5 (fun _ => 0) 1 100) 2 100) 3 100) 4 100)))] := hD
    subst hw
    refine lv_istore_n (lv' := [(3, .int 100), (0, .ref x), (1, .int p), (2, .int q)]) hx hb dX8_setFormat_45 rfl hl (by decide) rfl (fun ls hl => ?_)
    refine lv_aload_n hx hb dX8_setFormat_46 rfl (lv_at hl 1 rfl) ?_
    refine va_get (D := D) (ci := 11) (v := .ref lv) (C := RX8) (T := TX8) (N := 6) hx hb hts (fun _ h => List.mem_cons_of_mem _ (List.mem_append_left _ (List.mem_append_left _ (List.mem_append_left _ (List.mem_append_left _ (List.mem_append_right _ h)))))) hown hK hP 0 rfl rfl 1 (by decide) (hts (.fieldLink RX8 19 "NumberingTree" "levels" "LNumberingTree$Levels;") (List.mem_of_getElem? (i := 3) rfl)) (fun _ h9 => h9) rfl dX8_setFormat_47 ?_
    refine lv_iload_n hx hb dX8_setFormat_50 rfl (lv_at hl 2 rfl) ?_
    refine lv_iload_n hx hb dX8_setFormat_51 rfl (lv_at hl 3 rfl) ?_
    refine zc_v (wc := [(lv, .inr (4, [.ref fm, .ref go, .ref sk, .ref sa])), (fm, .inr (7, [.ref fmA])), (fmA, .inl (cI, 5, .inl (zPut 5 (zPut 5 (zPut 5 (zPut 5 (fun _ => 0) 1 100) 2 100) 3 100) 4 100)))]) (wr := [(x, .inr (11, [.ref st, .ref lv, .ref nm, .ref lb, .ref lk, .int 0]))]) (va_runV (As := [.int p, .int q]) (rest := []) ⟨hx, hb, hml, hown, hts⟩ (k_putFormat l D cI lv fm go sk sa fmA (zPut 5 (zPut 5 (zPut 5 (zPut 5 (fun _ => 0) 1 100) 2 100) 3 100) 4 100) p q H.size) (cwV 2 hts gX8_setFormat_X1_putFormat rfl rfl rfl (by decide +kernel) ⟨Nat.le_of_ble_eq_true rfl, Nat.le_of_ble_eq_true rfl⟩) (zPV hK hP hD [1, 2, 3] rfl rfl [0] rfl 0 rfl rfl rfl) rfl rfl hl.1 rfl (lv_room (Nat.le_of_ble_eq_true rfl)) dX8_setFormat_52 ⟨Nat.le_of_ble_eq_true rfl, Nat.le_of_ble_eq_true rfl⟩) hP hD hS hA [1, 2, 3] [0] rfl rfl rfl (by decide) (fun  _ H locs hw hP hD hS => ?_)
    have hP : va_P D vwCl [(x, .inr (11, [.ref st, .ref lv, .ref nm, .ref lb, .ref lk, .int 0]))] H := hP
    have hD : va_D A [(x, .inr (11, [.ref st, .ref lv, .ref nm, .ref lb, .ref lk, .int 0]))] := hD
    refine lv_iload_n hx hb dX8_setFormat_55 rfl (lv_at hl 0 rfl) ?_
    obtain ⟨hP9, hD9⟩ := z_get hP hD [] (wc := []) rfl rfl
    exact W.zret (ty := .char) (v := 100) hx hb hr rfl (fun t ht hW => ⟨⟨100, (), rfl, rfl, by rw [ht]; exact hP9, hD9⟩, hS.F ht⟩) hS.2.2 dX8_setFormat_56
  · refine lv_iload_n hx hb dX8_setFormat_11 rfl (lv_at hl 2 rfl) ?_
    refine lv_bipush (v := 108) hx hb dX8_setFormat_12 (by decide) ?_
    refine lv_icmp_eq (tgt := 37) hx hb dX8_setFormat_14 (by decide) (fun c2 => ?_) (fun c2 => ?_)
    · refine lv_aload_n hx hb dX8_setFormat_37 rfl (lv_at hl 0 rfl) ?_
      refine va_get (D := D) (ci := 11) (v := .ref lv) (C := RX8) (T := TX8) (N := 6) hx hb hts (fun _ h => List.mem_cons_of_mem _ (List.mem_append_left _ (List.mem_append_left _ (List.mem_append_left _ (List.mem_append_left _ (List.mem_append_right _ h)))))) hown hK hP 3 rfl rfl 1 (by decide) (hts (.fieldLink RX8 19 "NumberingTree" "levels" "LNumberingTree$Levels;") (List.mem_of_getElem? (i := 3) rfl)) (fun _ h9 => h9) rfl dX8_setFormat_38 ?_
      refine lv_iload_n hx hb dX8_setFormat_41 rfl (lv_at hl 1 rfl) ?_
      refine zc_i (wc := [(lv, .inr (4, [.ref fm, .ref go, .ref sk, .ref sa])), (fm, .inr (7, [.ref fmA])), (fmA, .inl (cI, 5, .inl (zPut 5 (zPut 5 (zPut 5 (zPut 5 (fun _ => 0) 1 100) 2 100) 3 100) 4 100)))]) (wr := [(x, .inr (11, [.ref st, .ref lv, .ref nm, .ref lb, .ref lk, .int 0]))]) (va_runV (As := [.int p]) (rest := []) ⟨hx, hb, hml, hown, hts⟩ (k_format l D cI lv fm go sk sa fmA p H.size hp) (cwV 1 hts gX8_setFormat_X1_format rfl rfl rfl (by decide +kernel) ⟨Nat.le_of_ble_eq_true rfl, Nat.le_of_ble_eq_true rfl⟩) (zPV hK hP hD [0, 1, 2] rfl rfl [0] rfl 0 rfl rfl rfl) rfl rfl hl.1 rfl (lv_room (Nat.le_of_ble_eq_true rfl)) dX8_setFormat_42 ⟨Nat.le_of_ble_eq_true rfl, Nat.le_of_ble_eq_true rfl⟩) hP hD hS hA [0, 1, 2] [3] rfl rfl rfl (by decide) (fun r _ H locs hw hP hD hS => ?_)
      have hP : va_P D vwCl [(x, .inr (11, [.ref st, .ref lv, .ref nm, .ref lb, .ref lk, .int 0])), (lv, .inr (4, [.ref fm, .ref go, .ref sk, .ref sa])), (fm, .inr (7, [.ref fmA])), (fmA, .inl (cI, 5, .inl (zPut 5 (zPut 5 (zPut 5 (zPut 5 (fun _ => 0) 1 100) 2 100) 3 100) 4 100)))] H := hP
      have hD : va_D A [(x, .inr (11, [.ref st, .ref lv, .ref nm, .ref lb, .ref lk, .int 0])), (lv, .inr (4, [.ref fm, .ref go, .ref sk, .ref sa])), (fm, .inr (7, [.ref fmA])), (fmA, .inl (cI, 5, .inl (zPut 5 (zPut 5 (zPut 5 (zPut 5 (fun _ => 0) 1 100) 2 100) 3 100) 4 100)))] := hD
      subst hw
      refine lv_istore_n (lv' := [(3, .int 100), (0, .ref x), (1, .int p), (2, .int q)]) hx hb dX8_setFormat_45 rfl hl (by decide) rfl (fun ls hl => ?_)
      refine lv_aload_n hx hb dX8_setFormat_46 rfl (lv_at hl 1 rfl) ?_
      refine va_get (D := D) (ci := 11) (v := .ref lv) (C := RX8) (T := TX8) (N := 6) hx hb hts (fun _ h => List.mem_cons_of_mem _ (List.mem_append_left _ (List.mem_append_left _ (List.mem_append_left _ (List.mem_append_left _ (List.mem_append_right _ h)))))) hown hK hP 0 rfl rfl 1 (by decide) (hts (.fieldLink RX8 19 "NumberingTree" "levels" "LNumberingTree$Levels;") (List.mem_of_getElem? (i := 3) rfl)) (fun _ h9 => h9) rfl dX8_setFormat_47 ?_
      refine lv_iload_n hx hb dX8_setFormat_50 rfl (lv_at hl 2 rfl) ?_
      refine lv_iload_n hx hb dX8_setFormat_51 rfl (lv_at hl 3 rfl) ?_
      refine zc_v (wc := [(lv, .inr (4, [.ref fm, .ref go, .ref sk, .ref sa])), (fm, .inr (7, [.ref fmA])), (fmA, .inl (cI, 5, .inl (zPut 5 (zPut 5 (zPut 5 (zPut 5 (fun _ => 0) 1 100) 2 100) 3 100) 4 100)))]) (wr := [(x, .inr (11, [.ref st, .ref lv, .ref nm, .ref lb, .ref lk, .int 0]))]) (va_runV (As := [.int p, .int q]) (rest := []) ⟨hx, hb, hml, hown, hts⟩ (k_putFormat l D cI lv fm go sk sa fmA (zPut 5 (zPut 5 (zPut 5 (zPut 5 (fun _ => 0) 1 100) 2 100) 3 100) 4 100) p q H.size) (cwV 2 hts gX8_setFormat_X1_putFormat rfl rfl rfl (by decide +kernel) ⟨Nat.le_of_ble_eq_true rfl, Nat.le_of_ble_eq_true rfl⟩) (zPV hK hP hD [1, 2, 3] rfl rfl [0] rfl 0 rfl rfl rfl) rfl rfl hl.1 rfl (lv_room (Nat.le_of_ble_eq_true rfl)) dX8_setFormat_52 ⟨Nat.le_of_ble_eq_true rfl, Nat.le_of_ble_eq_true rfl⟩) hP hD hS hA [1, 2, 3] [0] rfl rfl rfl (by decide) (fun  _ H locs hw hP hD hS => ?_)
      have hP : va_P D vwCl [(x, .inr (11, [.ref st, .ref lv, .ref nm, .ref lb, .ref lk, .int 0]))] H := hP
      have hD : va_D A [(x, .inr (11, [.ref st, .ref lv, .ref nm, .ref lb, .ref lk, .int 0]))] := hD
      refine lv_iload_n hx hb dX8_setFormat_55 rfl (lv_at hl 0 rfl) ?_
      obtain ⟨hP9, hD9⟩ := z_get hP hD [] (wc := []) rfl rfl
      exact W.zret (ty := .char) (v := 100) hx hb hr rfl (fun t ht hW => ⟨⟨100, (), rfl, rfl, by rw [ht]; exact hP9, hD9⟩, hS.F ht⟩) hS.2.2 dX8_setFormat_56
    · refine lv_iload_n hx hb dX8_setFormat_17 rfl (lv_at hl 2 rfl) ?_
      refine lv_bipush (v := 114) hx hb dX8_setFormat_18 (by decide) ?_
      refine lv_icmp_eq (tgt := 37) hx hb dX8_setFormat_20 (by decide) (fun c3 => ?_) (fun c3 => ?_)
      · refine lv_aload_n hx hb dX8_setFormat_37 rfl (lv_at hl 0 rfl) ?_
        refine va_get (D := D) (ci := 11) (v := .ref lv) (C := RX8) (T := TX8) (N := 6) hx hb hts (fun _ h => List.mem_cons_of_mem _ (List.mem_append_left _ (List.mem_append_left _ (List.mem_append_left _ (List.mem_append_left _ (List.mem_append_right _ h)))))) hown hK hP 3 rfl rfl 1 (by decide) (hts (.fieldLink RX8 19 "NumberingTree" "levels" "LNumberingTree$Levels;") (List.mem_of_getElem? (i := 3) rfl)) (fun _ h9 => h9) rfl dX8_setFormat_38 ?_
        refine lv_iload_n hx hb dX8_setFormat_41 rfl (lv_at hl 1 rfl) ?_
        refine zc_i (wc := [(lv, .inr (4, [.ref fm, .ref go, .ref sk, .ref sa])), (fm, .inr (7, [.ref fmA])), (fmA, .inl (cI, 5, .inl (zPut 5 (zPut 5 (zPut 5 (zPut 5 (fun _ => 0) 1 100) 2 100) 3 100) 4 100)))]) (wr := [(x, .inr (11, [.ref st, .ref lv, .ref nm, .ref lb, .ref lk, .int 0]))]) (va_runV (As := [.int p]) (rest := []) ⟨hx, hb, hml, hown, hts⟩ (k_format l D cI lv fm go sk sa fmA p H.size hp) (cwV 1 hts gX8_setFormat_X1_format rfl rfl rfl (by decide +kernel) ⟨Nat.le_of_ble_eq_true rfl, Nat.le_of_ble_eq_true rfl⟩) (zPV hK hP hD [0, 1, 2] rfl rfl [0] rfl 0 rfl rfl rfl) rfl rfl hl.1 rfl (lv_room (Nat.le_of_ble_eq_true rfl)) dX8_setFormat_42 ⟨Nat.le_of_ble_eq_true rfl, Nat.le_of_ble_eq_true rfl⟩) hP hD hS hA [0, 1, 2] [3] rfl rfl rfl (by decide) (fun r _ H locs hw hP hD hS => ?_)
        have hP : va_P D vwCl [(x, .inr (11, [.ref st, .ref lv, .ref nm, .ref lb, .ref lk, .int 0])), (lv, .inr (4, [.ref fm, .ref go, .ref sk, .ref sa])), (fm, .inr (7, [.ref fmA])), (fmA, .inl (cI, 5, .inl (zPut 5 (zPut 5 (zPut 5 (zPut 5 (fun _ => 0) 1 100) 2 100) 3 100) 4 100)))] H := hP
        have hD : va_D A [(x, .inr (11, [.ref st, .ref lv, .ref nm, .ref lb, .ref lk, .int 0])), (lv, .inr (4, [.ref fm, .ref go, .ref sk, .ref sa])), (fm, .inr (7, [.ref fmA])), (fmA, .inl (cI, 5, .inl (zPut 5 (zPut 5 (zPut 5 (zPut 5 (fun _ => 0) 1 100) 2 100) 3 100) 4 100)))] := hD
        subst hw
        refine lv_istore_n (lv' := [(3, .int 100), (0, .ref x), (1, .int p), (2, .int q)]) hx hb dX8_setFormat_45 rfl hl (by decide) rfl (fun ls hl => ?_)
        refine lv_aload_n hx hb dX8_setFormat_46 rfl (lv_at hl 1 rfl) ?_
        refine va_get (D := D) (ci := 11) (v := .ref lv) (C := RX8) (T := TX8) (N := 6) hx hb hts (fun _ h => List.mem_cons_of_mem _ (List.mem_append_left _ (List.mem_append_left _ (List.mem_append_left _ (List.mem_append_left _ (List.mem_append_right _ h)))))) hown hK hP 0 rfl rfl 1 (by decide) (hts (.fieldLink RX8 19 "NumberingTree" "levels" "LNumberingTree$Levels;") (List.mem_of_getElem? (i := 3) rfl)) (fun _ h9 => h9) rfl dX8_setFormat_47 ?_
        refine lv_iload_n hx hb dX8_setFormat_50 rfl (lv_at hl 2 rfl) ?_
        refine lv_iload_n hx hb dX8_setFormat_51 rfl (lv_at hl 3 rfl) ?_
        refine zc_v (wc := [(lv, .inr (4, [.ref fm, .ref go, .ref sk, .ref sa])), (fm, .inr (7, [.ref fmA])), (fmA, .inl (cI, 5, .inl (zPut 5 (zPut 5 (zPut 5 (zPut 5 (fun _ => 0) 1 100) 2 100) 3 100) 4 100)))]) (wr := [(x, .inr (11, [.ref st, .ref lv, .ref nm, .ref lb, .ref lk, .int 0]))]) (va_runV (As := [.int p, .int q]) (rest := []) ⟨hx, hb, hml, hown, hts⟩ (k_putFormat l D cI lv fm go sk sa fmA (zPut 5 (zPut 5 (zPut 5 (zPut 5 (fun _ => 0) 1 100) 2 100) 3 100) 4 100) p q H.size) (cwV 2 hts gX8_setFormat_X1_putFormat rfl rfl rfl (by decide +kernel) ⟨Nat.le_of_ble_eq_true rfl, Nat.le_of_ble_eq_true rfl⟩) (zPV hK hP hD [1, 2, 3] rfl rfl [0] rfl 0 rfl rfl rfl) rfl rfl hl.1 rfl (lv_room (Nat.le_of_ble_eq_true rfl)) dX8_setFormat_52 ⟨Nat.le_of_ble_eq_true rfl, Nat.le_of_ble_eq_true rfl⟩) hP hD hS hA [1, 2, 3] [0] rfl rfl rfl (by decide) (fun  _ H locs hw hP hD hS => ?_)
        have hP : va_P D vwCl [(x, .inr (11, [.ref st, .ref lv, .ref nm, .ref lb, .ref lk, .int 0]))] H := hP
        have hD : va_D A [(x, .inr (11, [.ref st, .ref lv, .ref nm, .ref lb, .ref lk, .int 0]))] := hD
        refine lv_iload_n hx hb dX8_setFormat_55 rfl (lv_at hl 0 rfl) ?_
        obtain ⟨hP9, hD9⟩ := z_get hP hD [] (wc := []) rfl rfl
        exact W.zret (ty := .char) (v := 100) hx hb hr rfl (fun t ht hW => ⟨⟨100, (), rfl, rfl, by rw [ht]; exact hP9, hD9⟩, hS.F ht⟩) hS.2.2 dX8_setFormat_56
      · refine lv_iload_n hx hb dX8_setFormat_23 rfl (lv_at hl 2 rfl) ?_
        refine lv_bipush (v := 82) hx hb dX8_setFormat_24 (by decide) ?_
        refine lv_icmp_eq (tgt := 37) hx hb dX8_setFormat_26 (by decide) (fun _ => ?_) (fun q => absurd q (fun h => hq.elim c1 (fun z => z.elim c2 (fun z => z.elim c3 h))))
        refine lv_aload_n hx hb dX8_setFormat_37 rfl (lv_at hl 0 rfl) ?_
        refine va_get (D := D) (ci := 11) (v := .ref lv) (C := RX8) (T := TX8) (N := 6) hx hb hts (fun _ h => List.mem_cons_of_mem _ (List.mem_append_left _ (List.mem_append_left _ (List.mem_append_left _ (List.mem_append_left _ (List.mem_append_right _ h)))))) hown hK hP 3 rfl rfl 1 (by decide) (hts (.fieldLink RX8 19 "NumberingTree" "levels" "LNumberingTree$Levels;") (List.mem_of_getElem? (i := 3) rfl)) (fun _ h9 => h9) rfl dX8_setFormat_38 ?_
        refine lv_iload_n hx hb dX8_setFormat_41 rfl (lv_at hl 1 rfl) ?_
        refine zc_i (wc := [(lv, .inr (4, [.ref fm, .ref go, .ref sk, .ref sa])), (fm, .inr (7, [.ref fmA])), (fmA, .inl (cI, 5, .inl (zPut 5 (zPut 5 (zPut 5 (zPut 5 (fun _ => 0) 1 100) 2 100) 3 100) 4 100)))]) (wr := [(x, .inr (11, [.ref st, .ref lv, .ref nm, .ref lb, .ref lk, .int 0]))]) (va_runV (As := [.int p]) (rest := []) ⟨hx, hb, hml, hown, hts⟩ (k_format l D cI lv fm go sk sa fmA p H.size hp) (cwV 1 hts gX8_setFormat_X1_format rfl rfl rfl (by decide +kernel) ⟨Nat.le_of_ble_eq_true rfl, Nat.le_of_ble_eq_true rfl⟩) (zPV hK hP hD [0, 1, 2] rfl rfl [0] rfl 0 rfl rfl rfl) rfl rfl hl.1 rfl (lv_room (Nat.le_of_ble_eq_true rfl)) dX8_setFormat_42 ⟨Nat.le_of_ble_eq_true rfl, Nat.le_of_ble_eq_true rfl⟩) hP hD hS hA [0, 1, 2] [3] rfl rfl rfl (by decide) (fun r _ H locs hw hP hD hS => ?_)
        have hP : va_P D vwCl [(x, .inr (11, [.ref st, .ref lv, .ref nm, .ref lb, .ref lk, .int 0])), (lv, .inr (4, [.ref fm, .ref go, .ref sk, .ref sa])), (fm, .inr (7, [.ref fmA])), (fmA, .inl (cI, 5, .inl (zPut 5 (zPut 5 (zPut 5 (zPut 5 (fun _ => 0) 1 100) 2 100) 3 100) 4 100)))] H := hP
        have hD : va_D A [(x, .inr (11, [.ref st, .ref lv, .ref nm, .ref lb, .ref lk, .int 0])), (lv, .inr (4, [.ref fm, .ref go, .ref sk, .ref sa])), (fm, .inr (7, [.ref fmA])), (fmA, .inl (cI, 5, .inl (zPut 5 (zPut 5 (zPut 5 (zPut 5 (fun _ => 0) 1 100) 2 100) 3 100) 4 100)))] := hD
        subst hw
        refine lv_istore_n (lv' := [(3, .int 100), (0, .ref x), (1, .int p), (2, .int q)]) hx hb dX8_setFormat_45 rfl hl (by decide) rfl (fun ls hl => ?_)
        refine lv_aload_n hx hb dX8_setFormat_46 rfl (lv_at hl 1 rfl) ?_
        refine va_get (D := D) (ci := 11) (v := .ref lv) (C := RX8) (T := TX8) (N := 6) hx hb hts (fun _ h => List.mem_cons_of_mem _ (List.mem_append_left _ (List.mem_append_left _ (List.mem_append_left _ (List.mem_append_left _ (List.mem_append_right _ h)))))) hown hK hP 0 rfl rfl 1 (by decide) (hts (.fieldLink RX8 19 "NumberingTree" "levels" "LNumberingTree$Levels;") (List.mem_of_getElem? (i := 3) rfl)) (fun _ h9 => h9) rfl dX8_setFormat_47 ?_
        refine lv_iload_n hx hb dX8_setFormat_50 rfl (lv_at hl 2 rfl) ?_
        refine lv_iload_n hx hb dX8_setFormat_51 rfl (lv_at hl 3 rfl) ?_
        refine zc_v (wc := [(lv, .inr (4, [.ref fm, .ref go, .ref sk, .ref sa])), (fm, .inr (7, [.ref fmA])), (fmA, .inl (cI, 5, .inl (zPut 5 (zPut 5 (zPut 5 (zPut 5 (fun _ => 0) 1 100) 2 100) 3 100) 4 100)))]) (wr := [(x, .inr (11, [.ref st, .ref lv, .ref nm, .ref lb, .ref lk, .int 0]))]) (va_runV (As := [.int p, .int q]) (rest := []) ⟨hx, hb, hml, hown, hts⟩ (k_putFormat l D cI lv fm go sk sa fmA (zPut 5 (zPut 5 (zPut 5 (zPut 5 (fun _ => 0) 1 100) 2 100) 3 100) 4 100) p q H.size) (cwV 2 hts gX8_setFormat_X1_putFormat rfl rfl rfl (by decide +kernel) ⟨Nat.le_of_ble_eq_true rfl, Nat.le_of_ble_eq_true rfl⟩) (zPV hK hP hD [1, 2, 3] rfl rfl [0] rfl 0 rfl rfl rfl) rfl rfl hl.1 rfl (lv_room (Nat.le_of_ble_eq_true rfl)) dX8_setFormat_52 ⟨Nat.le_of_ble_eq_true rfl, Nat.le_of_ble_eq_true rfl⟩) hP hD hS hA [1, 2, 3] [0] rfl rfl rfl (by decide) (fun  _ H locs hw hP hD hS => ?_)
        have hP : va_P D vwCl [(x, .inr (11, [.ref st, .ref lv, .ref nm, .ref lb, .ref lk, .int 0]))] H := hP
        have hD : va_D A [(x, .inr (11, [.ref st, .ref lv, .ref nm, .ref lb, .ref lk, .int 0]))] := hD
        refine lv_iload_n hx hb dX8_setFormat_55 rfl (lv_at hl 0 rfl) ?_
        obtain ⟨hP9, hD9⟩ := z_get hP hD [] (wc := []) rfl rfl
        exact W.zret (ty := .char) (v := 100) hx hb hr rfl (fun t ht hW => ⟨⟨100, (), rfl, rfl, by rw [ht]; exact hP9, hD9⟩, hS.F ht⟩) hS.2.2 dX8_setFormat_56

set_option maxHeartbeats 4000000 in
set_option maxRecDepth 100000 in
theorem x_setFormat (l : Launch) (D : va_G) (cI : ClassId) (x st lv nm lb lk : Nat) (p q : Int32) (sz : Nat) (hst : l.stackTraces = false) (hp : ¬ (zLv p ∧ zFo q)) : vx_Met l yX8_setFormat wsX8_setFormat ({ frames := 7, cells := 1, slots := 6, locals := 110 }) (va_Pc [.ref x, .int p, .int q] (zPreX D [(cI, .int)] [(x, .inr (11, [.ref st, .ref lv, .ref nm, .ref lb, .ref lk, .int 0]))] sz)) (va_Qi (fun _ (_ : Unit) => False) (fun _ _ => True) (va_A [(x, .inr (11, [.ref st, .ref lv, .ref nm, .ref lb, .ref lk, .int 0]))] sz)) (zX "java/lang/IllegalArgumentException" (va_A [(x, .inr (11, [.ref st, .ref lv, .ref nm, .ref lb, .ref lk, .int 0]))] sz)) 1 6 (va_A [(x, .inr (11, [.ref st, .ref lv, .ref nm, .ref lb, .ref lk, .int 0]))] sz) := by
  refine vx_ofW (cc := cX8_setFormat) (maxL := 4) (ret := (some .char)) (by decide) rfl ?_
  intro P0 E0 s m args below meth C9 s₁ B hml hout hv
  obtain ⟨rfl, ⟨hsz, hP, hK, hD0⟩, ⟨hU, hN⟩, hKB⟩ := hv
  have hx := B.exec
  have hb := B.bytes
  have hr := B.returns
  have hts := atoms_spec (ws := wsX8_setFormat) B.pre
  have hown : s.vm.findClass RX8 = some m.cls := findClass_of_methodNamed B.named
  have hlocks := B.notSynchronized
  subst hsz
  have hD := hD0.self (sz := s.heap.size)
  generalize hAe : va_A [(x, .inr (11, [.ref st, .ref lv, .ref nm, .ref lb, .ref lk, .int 0]))] s.heap.size = A at hD hU hN ⊢
  have hA : ∀ q : Nat, s.heap.size ≤ q → A q := fun q h => by rw [← hAe]; exact Or.inr h
  have hS : va_S A s.heap s.heap [] := va_S.rf
  have hl := lv_entry ([.ref x, .int p, .int q]) (n := 4) (Nat.le_of_ble_eq_true rfl)
  rw [lg_entry_eq]
  generalize (lg_sl ([.ref x, .int p, .int q]) ++ List.replicate (4 - (lg_sl ([.ref x, .int p, .int q])).length) Slot.unset).toArray = ls at hl ⊢
  have hl : lv_has ls 4 [(0, .ref x), (1, .int p), (2, .int q)] := hl
  refine lv_aload_n hx hb dX8_setFormat_0 rfl (lv_at hl 0 rfl) ?_
  refine lv_iload_n hx hb dX8_setFormat_1 rfl (lv_at hl 1 rfl) ?_
  by_cases hc : zLv p
  · refine zc_v (wc := [(x, .inr (11, [.ref st, .ref lv, .ref nm, .ref lb, .ref lk, .int 0]))]) (wr := []) (va_runV (As := [.int p]) (rest := []) ⟨hx, hb, hml, hown, hts⟩ (k_reqLevel l D cI x st lv nm lb lk p s.heap.size hc) (cwV 1 hts gX8_setFormat_X8_requireNumberedLevel rfl rfl rfl (by decide +kernel) ⟨Nat.le_of_ble_eq_true rfl, Nat.le_of_ble_eq_true rfl⟩) (zPV hK hP hD [0] rfl rfl [0] rfl 0 rfl rfl rfl) rfl rfl hl.1 rfl (lv_room (Nat.le_of_ble_eq_true rfl)) dX8_setFormat_2 ⟨Nat.le_of_ble_eq_true rfl, Nat.le_of_ble_eq_true rfl⟩) hP hD hS hA [0] [] rfl rfl rfl (by decide) (fun  _ H locs hw hP hD hS => ?_)
    have hP : va_P D vwCl [(x, .inr (11, [.ref st, .ref lv, .ref nm, .ref lb, .ref lk, .int 0]))] H := hP
    have hD : va_D A [(x, .inr (11, [.ref st, .ref lv, .ref nm, .ref lb, .ref lk, .int 0]))] := hD
    refine lv_iload_n hx hb dX8_setFormat_5 rfl (lv_at hl 2 rfl) ?_
    refine lv_bipush (v := 100) hx hb dX8_setFormat_6 (by decide) ?_
    refine lv_icmp_eq (tgt := 37) hx hb dX8_setFormat_8 (by decide) (fun q => absurd q (fun h => hp ⟨hc, Or.inl h⟩)) (fun _ => ?_)
    refine lv_iload_n hx hb dX8_setFormat_11 rfl (lv_at hl 2 rfl) ?_
    refine lv_bipush (v := 108) hx hb dX8_setFormat_12 (by decide) ?_
    refine lv_icmp_eq (tgt := 37) hx hb dX8_setFormat_14 (by decide) (fun q => absurd q (fun h => hp ⟨hc, Or.inr (Or.inl h)⟩)) (fun _ => ?_)
    refine lv_iload_n hx hb dX8_setFormat_17 rfl (lv_at hl 2 rfl) ?_
    refine lv_bipush (v := 114) hx hb dX8_setFormat_18 (by decide) ?_
    refine lv_icmp_eq (tgt := 37) hx hb dX8_setFormat_20 (by decide) (fun q => absurd q (fun h => hp ⟨hc, Or.inr (Or.inr (Or.inl h))⟩)) (fun _ => ?_)
    refine lv_iload_n hx hb dX8_setFormat_23 rfl (lv_at hl 2 rfl) ?_
    refine lv_bipush (v := 82) hx hb dX8_setFormat_24 (by decide) ?_
    refine lv_icmp_eq (tgt := 37) hx hb dX8_setFormat_26 (by decide) (fun q => absurd q (fun h => hp ⟨hc, Or.inr (Or.inr (Or.inr h))⟩)) (fun _ => ?_)
    exact vx_throw0 (own := RX8) (cls := "java/lang/IllegalArgumentException") (names := ["java/lang/RuntimeException", "java/lang/Exception"]) (ik := 52) (ic := 54) hx hb hst hown (by decide +kernel) (by decide +kernel) (hts (.classLink RX8 52 "java/lang/IllegalArgumentException") (List.mem_of_getElem? (i := 1) rfl)) (hts (.initialized "java/lang/IllegalArgumentException") (List.mem_of_getElem? (i := 2) rfl)) (zhat0 (fun w h => hts w ((fun _ h => List.mem_cons_of_mem _ (List.mem_append_left _ (List.mem_append_right _ h))) w h)) hKB (by decide +kernel)) (by decide +kernel) hU hN hS (hl.1.trans hml.symm) dX8_setFormat_29 dX8_setFormat_32 dX8_setFormat_33 dX8_setFormat_36 (fun x h => (hout x h).elim) (Nat.lt_of_succ_le (Nat.le_of_ble_eq_true rfl)) (Nat.le_of_ble_eq_true rfl) (Nat.le_of_ble_eq_true rfl) (Nat.le_of_ble_eq_true rfl) hlocks (fun t hvm hz hk => ⟨(), trivial, rfl, zF_throw hS hz hk⟩) hS.2.2 (Nat.le_of_ble_eq_true rfl) (Nat.le_of_ble_eq_true rfl)
  · refine zc_x (wc := [(x, .inr (11, [.ref st, .ref lv, .ref nm, .ref lb, .ref lk, .int 0]))]) (wr := []) (fun st v t h => by obtain ⟨h1, -⟩ := h; obtain ⟨u, -, h2, -⟩ := h1; exact h2) (vx_runV (As := [.int p]) (rest := []) ⟨hx, hb, hml, hown, hts⟩ (x_reqLevel l D cI x st lv nm lb lk p s.heap.size hst hc) (cwV 1 hts gX8_setFormat_X8_requireNumberedLevel rfl rfl rfl (by decide +kernel) ⟨Nat.le_of_ble_eq_true rfl, Nat.le_of_ble_eq_true rfl⟩) (zPVX ⟨hU, hN⟩ hKB hS hA hK hP hD [0] rfl rfl [0] rfl 0 rfl rfl rfl) rfl rfl hl.1 rfl (lv_room (Nat.le_of_ble_eq_true rfl)) dX8_setFormat_2 ⟨Nat.le_of_ble_eq_true rfl, Nat.le_of_ble_eq_true rfl⟩) hP hD hS hA [0] [] rfl rfl rfl (by decide) (fun ce q9 H locs hP hD hS hce hcv hcl => ?_)
    exact vx_out (fun x h => (hout x h).elim) hlocks hce hcv hcl (fun t ht hvm => ⟨(), trivial, rfl, hS.F ht⟩) hS.2.2 (Nat.le_refl _) (Nat.le_refl _)

set_option maxHeartbeats 4000000 in
set_option maxRecDepth 100000 in
theorem k_goesOn0 (l : Launch) (D : va_G) (cI : ClassId) (lv fm go sk sa goA : Nat) (p : Int32) (sz : Nat) : Met l yX1_goesOn wsX1_goesOn ({ frames := 1, cells := 0, slots := 0, locals := 21 }) (va_Pc [.ref lv, .int p] (zPre D [(cI, .int)] [(lv, .inr (4, [.ref fm, .ref go, .ref sk, .ref sa])), (go, .inr (7, [.ref goA])), (goA, .inl (cI, 5, .inl (fun _ => 0)))] sz)) (va_Qi (fun rv (_ : Unit) => rv = 0) (fun (_ : Unit) => zB D [(lv, .inr (4, [.ref fm, .ref go, .ref sk, .ref sa])), (go, .inr (7, [.ref goA])), (goA, .inl (cI, 5, .inl (fun _ => 0)))] (va_A [(lv, .inr (4, [.ref fm, .ref go, .ref sk, .ref sa])), (go, .inr (7, [.ref goA])), (goA, .inl (cI, 5, .inl (fun _ => 0)))] sz)) (va_A [(lv, .inr (4, [.ref fm, .ref go, .ref sk, .ref sa])), (go, .inr (7, [.ref goA])), (goA, .inl (cI, 5, .inl (fun _ => 0)))] sz)) 0 0 (va_A [(lv, .inr (4, [.ref fm, .ref go, .ref sk, .ref sa])), (go, .inr (7, [.ref goA])), (goA, .inl (cI, 5, .inl (fun _ => 0)))] sz) := by
  refine Met.ofW (cc := cX1_goesOn) (maxL := 2) (ret := (some .boolean)) (by decide) rfl ?_
  intro P0 E0 s m args below meth C9 s₁ B hml hv
  obtain ⟨rfl, hsz, hP, hK, hD0⟩ := hv
  have hx := B.exec
  have hb := B.bytes
  have hr := B.returns
  have hts := atoms_spec (ws := wsX1_goesOn) B.pre
  have hown : s.vm.findClass RX1 = some m.cls := findClass_of_methodNamed B.named
  have hlocks := B.notSynchronized
  subst hsz
  have hD := hD0.self (sz := s.heap.size)
  generalize hAe : va_A [(lv, .inr (4, [.ref fm, .ref go, .ref sk, .ref sa])), (go, .inr (7, [.ref goA])), (goA, .inl (cI, 5, .inl (fun _ => 0)))] s.heap.size = A at hD ⊢
  have hA : ∀ q : Nat, s.heap.size ≤ q → A q := fun q h => by rw [← hAe]; exact Or.inr h
  have hS : va_S A s.heap s.heap [] := va_S.rf
  have hl := lv_entry ([.ref lv, .int p]) (n := 2) (Nat.le_of_ble_eq_true rfl)
  rw [lg_entry_eq]
  generalize (lg_sl ([.ref lv, .int p]) ++ List.replicate (2 - (lg_sl ([.ref lv, .int p])).length) Slot.unset).toArray = ls at hl ⊢
  have hl : lv_has ls 2 [(0, .ref lv), (1, .int p)] := hl
  refine lv_aload_n hx hb dX1_goesOn_0 rfl (lv_at hl 0 rfl) ?_
  refine va_get (D := D) (ci := 4) (v := .ref go) (C := RX1) (T := TX1) (N := 4) hx hb hts (fun _ h => List.mem_cons_of_mem _ (List.mem_append_left _ (List.mem_append_left _ (List.mem_append_right _ h)))) hown hK hP 0 rfl rfl 1 (by decide) (hts (.fieldLink RX1 20 "NumberingTree$Levels" "goingOn" "LNumberingTree$Row;") (List.mem_of_getElem? (i := 1) rfl)) (fun _ h9 => h9) rfl dX1_goesOn_1 ?_
  refine lv_iload_n hx hb dX1_goesOn_4 rfl (lv_at hl 1 rfl) ?_
  refine zc_i (wc := [(go, .inr (7, [.ref goA])), (goA, .inl (cI, 5, .inl (fun _ => 0)))]) (wr := [(lv, .inr (4, [.ref fm, .ref go, .ref sk, .ref sa]))]) (va_runV (As := [.int p]) (rest := []) ⟨hx, hb, hml, hown, hts⟩ (k_at l D cI go goA 5 (fun _ => 0) p s.heap.size (by decide)) (cwV 1 hts gX1_goesOn_X4_at rfl rfl rfl (by decide +kernel) ⟨Nat.le_of_ble_eq_true rfl, Nat.le_of_ble_eq_true rfl⟩) (zPV hK hP hD [1, 2] rfl rfl [0] rfl 0 rfl rfl rfl) rfl rfl hl.1 rfl (lv_room (Nat.le_of_ble_eq_true rfl)) dX1_goesOn_5 ⟨Nat.le_of_ble_eq_true rfl, Nat.le_of_ble_eq_true rfl⟩) hP hD hS hA [1, 2] [0] rfl rfl rfl (by decide) (fun r _ H locs hw hP hD hS => ?_)
  have hP : va_P D vwCl [(lv, .inr (4, [.ref fm, .ref go, .ref sk, .ref sa])), (go, .inr (7, [.ref goA])), (goA, .inl (cI, 5, .inl (fun _ => 0)))] H := hP
  have hD : va_D A [(lv, .inr (4, [.ref fm, .ref go, .ref sk, .ref sa])), (go, .inr (7, [.ref goA])), (goA, .inl (cI, 5, .inl (fun _ => 0)))] := hD
  subst hw
  refine zt_i 0 (zAt_0 _ _) ?_
  refine lv_if_eq (tgt := 15) hx hb dX1_goesOn_8 (by decide) (fun _ => ?_) (fun q => absurd q (by decide))
  refine lv_iconst (v := 0) hx hb dX1_goesOn_15 (by decide) ?_
  obtain ⟨hP9, hD9⟩ := z_get hP hD [0, 1, 2] (wc := [(lv, .inr (4, [.ref fm, .ref go, .ref sk, .ref sa])), (go, .inr (7, [.ref goA])), (goA, .inl (cI, 5, .inl (fun _ => 0)))]) rfl rfl
  exact W.zret (ty := .boolean) (v := 0) hx hb hr rfl (fun t ht hW => ⟨⟨0, (), rfl, rfl, by rw [ht]; exact hP9, hD9⟩, hS.F ht⟩) hS.2.2 dX1_goesOn_16

set_option maxHeartbeats 4000000 in
set_option maxRecDepth 100000 in
theorem k_putGoingOn (l : Launch) (D : va_G) (cI : ClassId) (lv fm go sk sa goA : Nat) (p q : Int32) (sz : Nat) : Met l yX1_putGoingOn wsX1_putGoingOn ({ frames := 1, cells := 0, slots := 0, locals := 22 }) (va_Pc [.ref lv, .int p, .int q] (zPre D [(cI, .int)] [(lv, .inr (4, [.ref fm, .ref go, .ref sk, .ref sa])), (go, .inr (7, [.ref goA])), (goA, .inl (cI, 5, .inl (fun _ => 0)))] sz)) (va_Qv (fun (_ : Unit) => True) (fun (_ : Unit) => zB D [] (va_A [(lv, .inr (4, [.ref fm, .ref go, .ref sk, .ref sa])), (go, .inr (7, [.ref goA])), (goA, .inl (cI, 5, .inl (fun _ => 0)))] sz)) (va_A [(lv, .inr (4, [.ref fm, .ref go, .ref sk, .ref sa])), (go, .inr (7, [.ref goA])), (goA, .inl (cI, 5, .inl (fun _ => 0)))] sz)) 0 0 (va_A [(lv, .inr (4, [.ref fm, .ref go, .ref sk, .ref sa])), (go, .inr (7, [.ref goA])), (goA, .inl (cI, 5, .inl (fun _ => 0)))] sz) := by
  refine Met.ofW (cc := cX1_putGoingOn) (maxL := 3) (ret := none) (by decide) rfl ?_
  intro P0 E0 s m args below meth C9 s₁ B hml hv
  obtain ⟨rfl, hsz, hP, hK, hD0⟩ := hv
  have hx := B.exec
  have hb := B.bytes
  have hr := B.returns
  have hts := atoms_spec (ws := wsX1_putGoingOn) B.pre
  have hown : s.vm.findClass RX1 = some m.cls := findClass_of_methodNamed B.named
  have hlocks := B.notSynchronized
  subst hsz
  have hD := hD0.self (sz := s.heap.size)
  generalize hAe : va_A [(lv, .inr (4, [.ref fm, .ref go, .ref sk, .ref sa])), (go, .inr (7, [.ref goA])), (goA, .inl (cI, 5, .inl (fun _ => 0)))] s.heap.size = A at hD ⊢
  have hA : ∀ q : Nat, s.heap.size ≤ q → A q := fun q h => by rw [← hAe]; exact Or.inr h
  have hS : va_S A s.heap s.heap [] := va_S.rf
  have hl := lv_entry ([.ref lv, .int p, .int q]) (n := 3) (Nat.le_of_ble_eq_true rfl)
  rw [lg_entry_eq]
  generalize (lg_sl ([.ref lv, .int p, .int q]) ++ List.replicate (3 - (lg_sl ([.ref lv, .int p, .int q])).length) Slot.unset).toArray = ls at hl ⊢
  have hl : lv_has ls 3 [(0, .ref lv), (1, .int p), (2, .int q)] := hl
  refine lv_aload_n hx hb dX1_putGoingOn_0 rfl (lv_at hl 0 rfl) ?_
  refine va_get (D := D) (ci := 4) (v := .ref go) (C := RX1) (T := TX1) (N := 4) hx hb hts (fun _ h => List.mem_cons_of_mem _ (List.mem_append_left _ (List.mem_append_left _ (List.mem_append_right _ h)))) hown hK hP 0 rfl rfl 1 (by decide) (hts (.fieldLink RX1 20 "NumberingTree$Levels" "goingOn" "LNumberingTree$Row;") (List.mem_of_getElem? (i := 1) rfl)) (fun _ h9 => h9) rfl dX1_putGoingOn_1 ?_
  refine lv_iload_n hx hb dX1_putGoingOn_4 rfl (lv_at hl 1 rfl) ?_
  refine lv_iload_n hx hb dX1_putGoingOn_5 rfl (lv_at hl 2 rfl) ?_
  refine lv_if_eq (tgt := 13) hx hb dX1_putGoingOn_6 (by decide) (fun c1 => ?_) (fun c1 => ?_)
  · refine lv_iconst (v := 0) hx hb dX1_putGoingOn_13 (by decide) ?_
    refine zc_v (wc := [(go, .inr (7, [.ref goA])), (goA, .inl (cI, 5, .inl (fun _ => 0)))]) (wr := [(lv, .inr (4, [.ref fm, .ref go, .ref sk, .ref sa]))]) (va_runV (As := [.int p, .int 0]) (rest := []) ⟨hx, hb, hml, hown, hts⟩ (k_put l D cI go goA 5 (fun _ => 0) p 0 s.heap.size (by decide)) (cwV 2 hts gX1_putGoingOn_X4_put rfl rfl rfl (by decide +kernel) ⟨Nat.le_of_ble_eq_true rfl, Nat.le_of_ble_eq_true rfl⟩) (zPV hK hP hD [1, 2] rfl rfl [0] rfl 0 rfl rfl rfl) rfl rfl hl.1 rfl (lv_room (Nat.le_of_ble_eq_true rfl)) dX1_putGoingOn_14 ⟨Nat.le_of_ble_eq_true rfl, Nat.le_of_ble_eq_true rfl⟩) hP hD hS hA [1, 2] [0] rfl rfl rfl (by decide) (fun  _ H locs hw hP hD hS => ?_)
    have hP : va_P D vwCl [(lv, .inr (4, [.ref fm, .ref go, .ref sk, .ref sa])), (go, .inr (7, [.ref goA])), (goA, .inl (cI, 5, .inl (zPut 5 (fun _ => 0) p 0)))] H := hP
    have hD : va_D A [(lv, .inr (4, [.ref fm, .ref go, .ref sk, .ref sa])), (go, .inr (7, [.ref goA])), (goA, .inl (cI, 5, .inl (zPut 5 (fun _ => 0) p 0)))] := hD
    obtain ⟨hP9, hD9⟩ := z_get hP hD [] (wc := []) rfl rfl
    exact W.vret hx hb hr (fun t ht hW => ⟨⟨(), rfl, trivial, by rw [ht]; exact hP9, hD9⟩, hS.F ht⟩) hS.2.2 dX1_putGoingOn_17
  · refine lv_iconst (v := 1) hx hb dX1_putGoingOn_9 (by decide) ?_
    refine lv_goto (tgt := 14) hx hb dX1_putGoingOn_10 (by decide) ?_
    refine zc_v (wc := [(go, .inr (7, [.ref goA])), (goA, .inl (cI, 5, .inl (fun _ => 0)))]) (wr := [(lv, .inr (4, [.ref fm, .ref go, .ref sk, .ref sa]))]) (va_runV (As := [.int p, .int 1]) (rest := []) ⟨hx, hb, hml, hown, hts⟩ (k_put l D cI go goA 5 (fun _ => 0) p 1 s.heap.size (by decide)) (cwV 2 hts gX1_putGoingOn_X4_put rfl rfl rfl (by decide +kernel) ⟨Nat.le_of_ble_eq_true rfl, Nat.le_of_ble_eq_true rfl⟩) (zPV hK hP hD [1, 2] rfl rfl [0] rfl 0 rfl rfl rfl) rfl rfl hl.1 rfl (lv_room (Nat.le_of_ble_eq_true rfl)) dX1_putGoingOn_14 ⟨Nat.le_of_ble_eq_true rfl, Nat.le_of_ble_eq_true rfl⟩) hP hD hS hA [1, 2] [0] rfl rfl rfl (by decide) (fun  _ H locs hw hP hD hS => ?_)
    have hP : va_P D vwCl [(lv, .inr (4, [.ref fm, .ref go, .ref sk, .ref sa])), (go, .inr (7, [.ref goA])), (goA, .inl (cI, 5, .inl (zPut 5 (fun _ => 0) p 1)))] H := hP
    have hD : va_D A [(lv, .inr (4, [.ref fm, .ref go, .ref sk, .ref sa])), (go, .inr (7, [.ref goA])), (goA, .inl (cI, 5, .inl (zPut 5 (fun _ => 0) p 1)))] := hD
    obtain ⟨hP9, hD9⟩ := z_get hP hD [] (wc := []) rfl rfl
    exact W.vret hx hb hr (fun t ht hW => ⟨⟨(), rfl, trivial, by rw [ht]; exact hP9, hD9⟩, hS.F ht⟩) hS.2.2 dX1_putGoingOn_17

set_option maxHeartbeats 4000000 in
set_option maxRecDepth 100000 in
theorem k_hasFrozen0 (l : Launch) (D : va_G) (cI : ClassId) (x st lv nm lb lk od pp le pa : Nat) (p : Int32) (sz : Nat) : Met l yX8_hasFrozen wsX8_hasFrozen ({ frames := 1, cells := 0, slots := 0, locals := 20 }) (va_Pc [.ref x, .int p] (zPre D [(cI, .int)] [(x, .inr (11, [.ref st, .ref lv, .ref nm, .ref lb, .ref lk, .int 0])), (st, .inr (8, [.ref od, .ref pp, .ref le, .ref pa, .int 0]))] sz)) (va_Qi (fun rv (_ : Unit) => rv = 0) (fun (_ : Unit) => zB D [(x, .inr (11, [.ref st, .ref lv, .ref nm, .ref lb, .ref lk, .int 0])), (st, .inr (8, [.ref od, .ref pp, .ref le, .ref pa, .int 0]))] (va_A [(x, .inr (11, [.ref st, .ref lv, .ref nm, .ref lb, .ref lk, .int 0])), (st, .inr (8, [.ref od, .ref pp, .ref le, .ref pa, .int 0]))] sz)) (va_A [(x, .inr (11, [.ref st, .ref lv, .ref nm, .ref lb, .ref lk, .int 0])), (st, .inr (8, [.ref od, .ref pp, .ref le, .ref pa, .int 0]))] sz)) 0 0 (va_A [(x, .inr (11, [.ref st, .ref lv, .ref nm, .ref lb, .ref lk, .int 0])), (st, .inr (8, [.ref od, .ref pp, .ref le, .ref pa, .int 0]))] sz) := by
  refine Met.ofW (cc := cX8_hasFrozen) (maxL := 4) (ret := (some .boolean)) (by decide) rfl ?_
  intro P0 E0 s m args below meth C9 s₁ B hml hv
  obtain ⟨rfl, hsz, hP, hK, hD0⟩ := hv
  have hx := B.exec
  have hb := B.bytes
  have hr := B.returns
  have hts := atoms_spec (ws := wsX8_hasFrozen) B.pre
  have hown : s.vm.findClass RX8 = some m.cls := findClass_of_methodNamed B.named
  have hlocks := B.notSynchronized
  subst hsz
  have hD := hD0.self (sz := s.heap.size)
  generalize hAe : va_A [(x, .inr (11, [.ref st, .ref lv, .ref nm, .ref lb, .ref lk, .int 0])), (st, .inr (8, [.ref od, .ref pp, .ref le, .ref pa, .int 0]))] s.heap.size = A at hD ⊢
  have hA : ∀ q : Nat, s.heap.size ≤ q → A q := fun q h => by rw [← hAe]; exact Or.inr h
  have hS : va_S A s.heap s.heap [] := va_S.rf
  have hl := lv_entry ([.ref x, .int p]) (n := 4) (Nat.le_of_ble_eq_true rfl)
  rw [lg_entry_eq]
  generalize (lg_sl ([.ref x, .int p]) ++ List.replicate (4 - (lg_sl ([.ref x, .int p])).length) Slot.unset).toArray = ls at hl ⊢
  have hl : lv_has ls 4 [(0, .ref x), (1, .int p)] := hl
  refine lv_iconst (v := 0) hx hb dX8_hasFrozen_0 (by decide) ?_
  refine lv_istore_n (lv' := [(2, .int 0), (0, .ref x), (1, .int p)]) hx hb dX8_hasFrozen_1 rfl hl (by decide) rfl (fun ls hl => ?_)
  refine lv_iload_n hx hb dX8_hasFrozen_2 rfl (lv_at hl 0 rfl) ?_
  refine lv_aload_n hx hb dX8_hasFrozen_3 rfl (lv_at hl 1 rfl) ?_
  refine va_get (D := D) (ci := 11) (v := .ref st) (C := RX8) (T := TX8) (N := 6) hx hb hts (fun _ h => List.mem_cons_of_mem _ (List.mem_append_left _ (List.mem_append_left _ (List.mem_append_left _ (List.mem_append_left _ (List.mem_append_right _ h)))))) hown hK hP 0 rfl rfl 0 (by decide) (hts (.fieldLink RX8 10 "NumberingTree" "standing" "LNumberingTree$Standing;") (List.mem_of_getElem? (i := 1) rfl)) (fun _ h9 => h9) rfl dX8_hasFrozen_4 ?_
  refine zc_i (wc := [(st, .inr (8, [.ref od, .ref pp, .ref le, .ref pa, .int 0]))]) (wr := [(x, .inr (11, [.ref st, .ref lv, .ref nm, .ref lb, .ref lk, .int 0]))]) (va_runV (As := []) (rest := [.int 0]) ⟨hx, hb, hml, hown, hts⟩ (k_amount l D cI st od pp le pa 0 s.heap.size) (cwV 0 hts gX8_hasFrozen_X5_amount rfl rfl rfl (by decide +kernel) ⟨Nat.le_of_ble_eq_true rfl, Nat.le_of_ble_eq_true rfl⟩) (zPV hK hP hD [1] rfl rfl [0] rfl 0 rfl rfl rfl) rfl rfl hl.1 rfl (lv_room (Nat.le_of_ble_eq_true rfl)) dX8_hasFrozen_7 ⟨Nat.le_of_ble_eq_true rfl, Nat.le_of_ble_eq_true rfl⟩) hP hD hS hA [1] [0] rfl rfl rfl (by decide) (fun r _ H locs hw hP hD hS => ?_)
  have hP : va_P D vwCl [(x, .inr (11, [.ref st, .ref lv, .ref nm, .ref lb, .ref lk, .int 0])), (st, .inr (8, [.ref od, .ref pp, .ref le, .ref pa, .int 0]))] H := hP
  have hD : va_D A [(x, .inr (11, [.ref st, .ref lv, .ref nm, .ref lb, .ref lk, .int 0])), (st, .inr (8, [.ref od, .ref pp, .ref le, .ref pa, .int 0]))] := hD
  subst hw
  refine lv_icmp_ge (tgt := 53) hx hb dX8_hasFrozen_10 (by decide) (fun _ => ?_) (fun q => absurd q (by decide))
  refine lv_iconst (v := 0) hx hb dX8_hasFrozen_53 (by decide) ?_
  obtain ⟨hP9, hD9⟩ := z_get hP hD [0, 1] (wc := [(x, .inr (11, [.ref st, .ref lv, .ref nm, .ref lb, .ref lk, .int 0])), (st, .inr (8, [.ref od, .ref pp, .ref le, .ref pa, .int 0]))]) rfl rfl
  exact W.zret (ty := .boolean) (v := 0) hx hb hr rfl (fun t ht hW => ⟨⟨0, (), rfl, rfl, by rw [ht]; exact hP9, hD9⟩, hS.F ht⟩) hS.2.2 dX8_hasFrozen_54

set_option maxHeartbeats 4000000 in
set_option maxRecDepth 100000 in
theorem k_setGoingOn (l : Launch) (D : va_G) (cI : ClassId) (x st lv nm lb lk fm go sk sa goA us gr nu lt li fx sr rs wk od pp le pa : Nat) (p q : Int32) (sz : Nat) (hp : zLv p) : Met l yX8_setGoingOn wsX8_setGoingOn ({ frames := 3, cells := 0, slots := 0, locals := 66 }) (va_Pc [.ref x, .int p, .int q] (zPre D [(cI, .int)] [(x, .inr (11, [.ref st, .ref lv, .ref nm, .ref lb, .ref lk, .int 0])), (lv, .inr (4, [.ref fm, .ref go, .ref sk, .ref sa])), (go, .inr (7, [.ref goA])), (goA, .inl (cI, 5, .inl (fun _ => 0))), (nm, .inr (6, [.ref st, .ref lv, .ref us, .ref gr, .ref nu, .ref lt, .ref li, .ref fx, .ref sr, .ref rs, .ref wk, .int 0, .int 0])), (st, .inr (8, [.ref od, .ref pp, .ref le, .ref pa, .int 0]))] sz)) (va_Qi (fun rv (_ : Unit) => rv = 0) (fun (_ : Unit) => zB D [] (va_A [(x, .inr (11, [.ref st, .ref lv, .ref nm, .ref lb, .ref lk, .int 0])), (lv, .inr (4, [.ref fm, .ref go, .ref sk, .ref sa])), (go, .inr (7, [.ref goA])), (goA, .inl (cI, 5, .inl (fun _ => 0))), (nm, .inr (6, [.ref st, .ref lv, .ref us, .ref gr, .ref nu, .ref lt, .ref li, .ref fx, .ref sr, .ref rs, .ref wk, .int 0, .int 0])), (st, .inr (8, [.ref od, .ref pp, .ref le, .ref pa, .int 0]))] sz)) (va_A [(x, .inr (11, [.ref st, .ref lv, .ref nm, .ref lb, .ref lk, .int 0])), (lv, .inr (4, [.ref fm, .ref go, .ref sk, .ref sa])), (go, .inr (7, [.ref goA])), (goA, .inl (cI, 5, .inl (fun _ => 0))), (nm, .inr (6, [.ref st, .ref lv, .ref us, .ref gr, .ref nu, .ref lt, .ref li, .ref fx, .ref sr, .ref rs, .ref wk, .int 0, .int 0])), (st, .inr (8, [.ref od, .ref pp, .ref le, .ref pa, .int 0]))] sz)) 0 0 (va_A [(x, .inr (11, [.ref st, .ref lv, .ref nm, .ref lb, .ref lk, .int 0])), (lv, .inr (4, [.ref fm, .ref go, .ref sk, .ref sa])), (go, .inr (7, [.ref goA])), (goA, .inl (cI, 5, .inl (fun _ => 0))), (nm, .inr (6, [.ref st, .ref lv, .ref us, .ref gr, .ref nu, .ref lt, .ref li, .ref fx, .ref sr, .ref rs, .ref wk, .int 0, .int 0])), (st, .inr (8, [.ref od, .ref pp, .ref le, .ref pa, .int 0]))] sz) := by
  refine Met.ofW (cc := cX8_setGoingOn) (maxL := 4) (ret := (some .boolean)) (by decide) rfl ?_
  intro P0 E0 s m args below meth C9 s₁ B hml hv
  obtain ⟨rfl, hsz, hP, hK, hD0⟩ := hv
  have hx := B.exec
  have hb := B.bytes
  have hr := B.returns
  have hts := atoms_spec (ws := wsX8_setGoingOn) B.pre
  have hown : s.vm.findClass RX8 = some m.cls := findClass_of_methodNamed B.named
  have hlocks := B.notSynchronized
  subst hsz
  have hD := hD0.self (sz := s.heap.size)
  generalize hAe : va_A [(x, .inr (11, [.ref st, .ref lv, .ref nm, .ref lb, .ref lk, .int 0])), (lv, .inr (4, [.ref fm, .ref go, .ref sk, .ref sa])), (go, .inr (7, [.ref goA])), (goA, .inl (cI, 5, .inl (fun _ => 0))), (nm, .inr (6, [.ref st, .ref lv, .ref us, .ref gr, .ref nu, .ref lt, .ref li, .ref fx, .ref sr, .ref rs, .ref wk, .int 0, .int 0])), (st, .inr (8, [.ref od, .ref pp, .ref le, .ref pa, .int 0]))] s.heap.size = A at hD ⊢
  have hA : ∀ q : Nat, s.heap.size ≤ q → A q := fun q h => by rw [← hAe]; exact Or.inr h
  have hS : va_S A s.heap s.heap [] := va_S.rf
  have hl := lv_entry ([.ref x, .int p, .int q]) (n := 4) (Nat.le_of_ble_eq_true rfl)
  rw [lg_entry_eq]
  generalize (lg_sl ([.ref x, .int p, .int q]) ++ List.replicate (4 - (lg_sl ([.ref x, .int p, .int q])).length) Slot.unset).toArray = ls at hl ⊢
  have hl : lv_has ls 4 [(0, .ref x), (1, .int p), (2, .int q)] := hl
  refine lv_aload_n hx hb dX8_setGoingOn_0 rfl (lv_at hl 0 rfl) ?_
  refine lv_iload_n hx hb dX8_setGoingOn_1 rfl (lv_at hl 1 rfl) ?_
  refine zc_v (wc := [(x, .inr (11, [.ref st, .ref lv, .ref nm, .ref lb, .ref lk, .int 0]))]) (wr := [(lv, .inr (4, [.ref fm, .ref go, .ref sk, .ref sa])), (go, .inr (7, [.ref goA])), (goA, .inl (cI, 5, .inl (fun _ => 0))), (nm, .inr (6, [.ref st, .ref lv, .ref us, .ref gr, .ref nu, .ref lt, .ref li, .ref fx, .ref sr, .ref rs, .ref wk, .int 0, .int 0])), (st, .inr (8, [.ref od, .ref pp, .ref le, .ref pa, .int 0]))]) (va_runV (As := [.int p]) (rest := []) ⟨hx, hb, hml, hown, hts⟩ (k_reqLevel l D cI x st lv nm lb lk p s.heap.size hp) (cwV 1 hts gX8_setGoingOn_X8_requireNumberedLevel rfl rfl rfl (by decide +kernel) ⟨Nat.le_of_ble_eq_true rfl, Nat.le_of_ble_eq_true rfl⟩) (zPV hK hP hD [0] rfl rfl [0] rfl 0 rfl rfl rfl) rfl rfl hl.1 rfl (lv_room (Nat.le_of_ble_eq_true rfl)) dX8_setGoingOn_2 ⟨Nat.le_of_ble_eq_true rfl, Nat.le_of_ble_eq_true rfl⟩) hP hD hS hA [0] [1, 2, 3, 4, 5] rfl rfl rfl (by decide) (fun  _ H locs hw hP hD hS => ?_)
  have hP : va_P D vwCl [(lv, .inr (4, [.ref fm, .ref go, .ref sk, .ref sa])), (go, .inr (7, [.ref goA])), (goA, .inl (cI, 5, .inl (fun _ => 0))), (nm, .inr (6, [.ref st, .ref lv, .ref us, .ref gr, .ref nu, .ref lt, .ref li, .ref fx, .ref sr, .ref rs, .ref wk, .int 0, .int 0])), (st, .inr (8, [.ref od, .ref pp, .ref le, .ref pa, .int 0])), (x, .inr (11, [.ref st, .ref lv, .ref nm, .ref lb, .ref lk, .int 0]))] H := hP
  have hD : va_D A [(lv, .inr (4, [.ref fm, .ref go, .ref sk, .ref sa])), (go, .inr (7, [.ref goA])), (goA, .inl (cI, 5, .inl (fun _ => 0))), (nm, .inr (6, [.ref st, .ref lv, .ref us, .ref gr, .ref nu, .ref lt, .ref li, .ref fx, .ref sr, .ref rs, .ref wk, .int 0, .int 0])), (st, .inr (8, [.ref od, .ref pp, .ref le, .ref pa, .int 0])), (x, .inr (11, [.ref st, .ref lv, .ref nm, .ref lb, .ref lk, .int 0]))] := hD
  refine lv_aload_n hx hb dX8_setGoingOn_5 rfl (lv_at hl 0 rfl) ?_
  refine lv_iload_n hx hb dX8_setGoingOn_6 rfl (lv_at hl 1 rfl) ?_
  refine zc_i (wc := [(x, .inr (11, [.ref st, .ref lv, .ref nm, .ref lb, .ref lk, .int 0])), (st, .inr (8, [.ref od, .ref pp, .ref le, .ref pa, .int 0]))]) (wr := [(lv, .inr (4, [.ref fm, .ref go, .ref sk, .ref sa])), (go, .inr (7, [.ref goA])), (goA, .inl (cI, 5, .inl (fun _ => 0))), (nm, .inr (6, [.ref st, .ref lv, .ref us, .ref gr, .ref nu, .ref lt, .ref li, .ref fx, .ref sr, .ref rs, .ref wk, .int 0, .int 0]))]) (va_runV (As := [.int p]) (rest := []) ⟨hx, hb, hml, hown, hts⟩ (k_hasFrozen0 l D cI x st lv nm lb lk od pp le pa p H.size) (cwV 1 hts gX8_setGoingOn_X8_hasFrozen rfl rfl rfl (by decide +kernel) ⟨Nat.le_of_ble_eq_true rfl, Nat.le_of_ble_eq_true rfl⟩) (zPV hK hP hD [5, 4] rfl rfl [0] rfl 0 rfl rfl rfl) rfl rfl hl.1 rfl (lv_room (Nat.le_of_ble_eq_true rfl)) dX8_setGoingOn_7 ⟨Nat.le_of_ble_eq_true rfl, Nat.le_of_ble_eq_true rfl⟩) hP hD hS hA [5, 4] [0, 1, 2, 3] rfl rfl rfl (by decide) (fun r _ H locs hw hP hD hS => ?_)
  have hP : va_P D vwCl [(lv, .inr (4, [.ref fm, .ref go, .ref sk, .ref sa])), (go, .inr (7, [.ref goA])), (goA, .inl (cI, 5, .inl (fun _ => 0))), (nm, .inr (6, [.ref st, .ref lv, .ref us, .ref gr, .ref nu, .ref lt, .ref li, .ref fx, .ref sr, .ref rs, .ref wk, .int 0, .int 0])), (x, .inr (11, [.ref st, .ref lv, .ref nm, .ref lb, .ref lk, .int 0])), (st, .inr (8, [.ref od, .ref pp, .ref le, .ref pa, .int 0]))] H := hP
  have hD : va_D A [(lv, .inr (4, [.ref fm, .ref go, .ref sk, .ref sa])), (go, .inr (7, [.ref goA])), (goA, .inl (cI, 5, .inl (fun _ => 0))), (nm, .inr (6, [.ref st, .ref lv, .ref us, .ref gr, .ref nu, .ref lt, .ref li, .ref fx, .ref sr, .ref rs, .ref wk, .int 0, .int 0])), (x, .inr (11, [.ref st, .ref lv, .ref nm, .ref lb, .ref lk, .int 0])), (st, .inr (8, [.ref od, .ref pp, .ref le, .ref pa, .int 0]))] := hD
  subst hw
  refine lv_if_eq (tgt := 21) hx hb dX8_setGoingOn_10 (by decide) (fun _ => ?_) (fun q => absurd q (by decide))
  refine lv_aload_n hx hb dX8_setGoingOn_21 rfl (lv_at hl 0 rfl) ?_
  refine va_get (D := D) (ci := 11) (v := .ref lv) (C := RX8) (T := TX8) (N := 6) hx hb hts (fun _ h => List.mem_cons_of_mem _ (List.mem_append_left _ (List.mem_append_left _ (List.mem_append_left _ (List.mem_append_left _ (List.mem_append_left _ (List.mem_append_left _ (List.mem_append_left _ (List.mem_append_left _ (List.mem_append_right _ h)))))))))) hown hK hP 4 rfl rfl 1 (by decide) (hts (.fieldLink RX8 19 "NumberingTree" "levels" "LNumberingTree$Levels;") (List.mem_of_getElem? (i := 3) rfl)) (fun _ h9 => h9) rfl dX8_setGoingOn_22 ?_
  refine lv_iload_n hx hb dX8_setGoingOn_25 rfl (lv_at hl 1 rfl) ?_
  refine zc_i (wc := [(lv, .inr (4, [.ref fm, .ref go, .ref sk, .ref sa])), (go, .inr (7, [.ref goA])), (goA, .inl (cI, 5, .inl (fun _ => 0)))]) (wr := [(nm, .inr (6, [.ref st, .ref lv, .ref us, .ref gr, .ref nu, .ref lt, .ref li, .ref fx, .ref sr, .ref rs, .ref wk, .int 0, .int 0])), (x, .inr (11, [.ref st, .ref lv, .ref nm, .ref lb, .ref lk, .int 0])), (st, .inr (8, [.ref od, .ref pp, .ref le, .ref pa, .int 0]))]) (va_runV (As := [.int p]) (rest := []) ⟨hx, hb, hml, hown, hts⟩ (k_goesOn0 l D cI lv fm go sk sa goA p H.size) (cwV 1 hts gX8_setGoingOn_X1_goesOn rfl rfl rfl (by decide +kernel) ⟨Nat.le_of_ble_eq_true rfl, Nat.le_of_ble_eq_true rfl⟩) (zPV hK hP hD [0, 1, 2] rfl rfl [0] rfl 0 rfl rfl rfl) rfl rfl hl.1 rfl (lv_room (Nat.le_of_ble_eq_true rfl)) dX8_setGoingOn_26 ⟨Nat.le_of_ble_eq_true rfl, Nat.le_of_ble_eq_true rfl⟩) hP hD hS hA [0, 1, 2] [3, 4, 5] rfl rfl rfl (by decide) (fun r _ H locs hw hP hD hS => ?_)
  have hP : va_P D vwCl [(nm, .inr (6, [.ref st, .ref lv, .ref us, .ref gr, .ref nu, .ref lt, .ref li, .ref fx, .ref sr, .ref rs, .ref wk, .int 0, .int 0])), (x, .inr (11, [.ref st, .ref lv, .ref nm, .ref lb, .ref lk, .int 0])), (st, .inr (8, [.ref od, .ref pp, .ref le, .ref pa, .int 0])), (lv, .inr (4, [.ref fm, .ref go, .ref sk, .ref sa])), (go, .inr (7, [.ref goA])), (goA, .inl (cI, 5, .inl (fun _ => 0)))] H := hP
  have hD : va_D A [(nm, .inr (6, [.ref st, .ref lv, .ref us, .ref gr, .ref nu, .ref lt, .ref li, .ref fx, .ref sr, .ref rs, .ref wk, .int 0, .int 0])), (x, .inr (11, [.ref st, .ref lv, .ref nm, .ref lb, .ref lk, .int 0])), (st, .inr (8, [.ref od, .ref pp, .ref le, .ref pa, .int 0])), (lv, .inr (4, [.ref fm, .ref go, .ref sk, .ref sa])), (go, .inr (7, [.ref goA])), (goA, .inl (cI, 5, .inl (fun _ => 0)))] := hD
  subst hw
  refine lv_istore_n (lv' := [(3, .int 0), (0, .ref x), (1, .int p), (2, .int q)]) hx hb dX8_setGoingOn_29 rfl hl (by decide) rfl (fun ls hl => ?_)
  refine lv_aload_n hx hb dX8_setGoingOn_30 rfl (lv_at hl 1 rfl) ?_
  refine va_get (D := D) (ci := 11) (v := .ref lv) (C := RX8) (T := TX8) (N := 6) hx hb hts (fun _ h => List.mem_cons_of_mem _ (List.mem_append_left _ (List.mem_append_left _ (List.mem_append_left _ (List.mem_append_left _ (List.mem_append_left _ (List.mem_append_left _ (List.mem_append_left _ (List.mem_append_left _ (List.mem_append_right _ h)))))))))) hown hK hP 1 rfl rfl 1 (by decide) (hts (.fieldLink RX8 19 "NumberingTree" "levels" "LNumberingTree$Levels;") (List.mem_of_getElem? (i := 3) rfl)) (fun _ h9 => h9) rfl dX8_setGoingOn_31 ?_
  refine lv_iload_n hx hb dX8_setGoingOn_34 rfl (lv_at hl 2 rfl) ?_
  refine lv_iload_n hx hb dX8_setGoingOn_35 rfl (lv_at hl 3 rfl) ?_
  refine zc_v (wc := [(lv, .inr (4, [.ref fm, .ref go, .ref sk, .ref sa])), (go, .inr (7, [.ref goA])), (goA, .inl (cI, 5, .inl (fun _ => 0)))]) (wr := [(nm, .inr (6, [.ref st, .ref lv, .ref us, .ref gr, .ref nu, .ref lt, .ref li, .ref fx, .ref sr, .ref rs, .ref wk, .int 0, .int 0])), (x, .inr (11, [.ref st, .ref lv, .ref nm, .ref lb, .ref lk, .int 0])), (st, .inr (8, [.ref od, .ref pp, .ref le, .ref pa, .int 0]))]) (va_runV (As := [.int p, .int q]) (rest := []) ⟨hx, hb, hml, hown, hts⟩ (k_putGoingOn l D cI lv fm go sk sa goA p q H.size) (cwV 2 hts gX8_setGoingOn_X1_putGoingOn rfl rfl rfl (by decide +kernel) ⟨Nat.le_of_ble_eq_true rfl, Nat.le_of_ble_eq_true rfl⟩) (zPV hK hP hD [3, 4, 5] rfl rfl [0] rfl 0 rfl rfl rfl) rfl rfl hl.1 rfl (lv_room (Nat.le_of_ble_eq_true rfl)) dX8_setGoingOn_36 ⟨Nat.le_of_ble_eq_true rfl, Nat.le_of_ble_eq_true rfl⟩) hP hD hS hA [3, 4, 5] [0, 1, 2] rfl rfl rfl (by decide) (fun  _ H locs hw hP hD hS => ?_)
  have hP : va_P D vwCl [(nm, .inr (6, [.ref st, .ref lv, .ref us, .ref gr, .ref nu, .ref lt, .ref li, .ref fx, .ref sr, .ref rs, .ref wk, .int 0, .int 0])), (x, .inr (11, [.ref st, .ref lv, .ref nm, .ref lb, .ref lk, .int 0])), (st, .inr (8, [.ref od, .ref pp, .ref le, .ref pa, .int 0]))] H := hP
  have hD : va_D A [(nm, .inr (6, [.ref st, .ref lv, .ref us, .ref gr, .ref nu, .ref lt, .ref li, .ref fx, .ref sr, .ref rs, .ref wk, .int 0, .int 0])), (x, .inr (11, [.ref st, .ref lv, .ref nm, .ref lb, .ref lk, .int 0])), (st, .inr (8, [.ref od, .ref pp, .ref le, .ref pa, .int 0]))] := hD
  refine lv_aload_n hx hb dX8_setGoingOn_39 rfl (lv_at hl 1 rfl) ?_
  refine va_get (D := D) (ci := 11) (v := .ref nm) (C := RX8) (T := TX8) (N := 6) hx hb hts (fun _ h => List.mem_cons_of_mem _ (List.mem_append_left _ (List.mem_append_left _ (List.mem_append_left _ (List.mem_append_left _ (List.mem_append_left _ (List.mem_append_left _ (List.mem_append_left _ (List.mem_append_left _ (List.mem_append_right _ h)))))))))) hown hK hP 1 rfl rfl 2 (by decide) (hts (.fieldLink RX8 28 "NumberingTree" "numbers" "LNumberingTree$Numbers;") (List.mem_of_getElem? (i := 4) rfl)) (fun _ h9 => h9) rfl dX8_setGoingOn_40 ?_
  refine zc_v (wc := [(nm, .inr (6, [.ref st, .ref lv, .ref us, .ref gr, .ref nu, .ref lt, .ref li, .ref fx, .ref sr, .ref rs, .ref wk, .int 0, .int 0])), (st, .inr (8, [.ref od, .ref pp, .ref le, .ref pa, .int 0]))]) (wr := [(x, .inr (11, [.ref st, .ref lv, .ref nm, .ref lb, .ref lk, .int 0]))]) (va_runV (As := []) (rest := []) ⟨hx, hb, hml, hown, hts⟩ (k_renumber0 l D cI nm st lv us gr nu lt li fx sr rs wk od pp le pa H.size) (cwV 0 hts gX8_setGoingOn_X3_renumber rfl rfl rfl (by decide +kernel) ⟨Nat.le_of_ble_eq_true rfl, Nat.le_of_ble_eq_true rfl⟩) (zPV hK hP hD [0, 2] rfl rfl [0] rfl 0 rfl rfl rfl) rfl rfl hl.1 rfl (lv_room (Nat.le_of_ble_eq_true rfl)) dX8_setGoingOn_43 ⟨Nat.le_of_ble_eq_true rfl, Nat.le_of_ble_eq_true rfl⟩) hP hD hS hA [0, 2] [1] rfl rfl rfl (by decide) (fun  _ H locs hw hP hD hS => ?_)
  have hP : va_P D vwCl [(x, .inr (11, [.ref st, .ref lv, .ref nm, .ref lb, .ref lk, .int 0])), (nm, .inr (6, [.ref st, .ref lv, .ref us, .ref gr, .ref nu, .ref lt, .ref li, .ref fx, .ref sr, .ref rs, .ref wk, .int 0, .int 0])), (st, .inr (8, [.ref od, .ref pp, .ref le, .ref pa, .int 0]))] H := hP
  have hD : va_D A [(x, .inr (11, [.ref st, .ref lv, .ref nm, .ref lb, .ref lk, .int 0])), (nm, .inr (6, [.ref st, .ref lv, .ref us, .ref gr, .ref nu, .ref lt, .ref li, .ref fx, .ref sr, .ref rs, .ref wk, .int 0, .int 0])), (st, .inr (8, [.ref od, .ref pp, .ref le, .ref pa, .int 0]))] := hD
  refine lv_iload_n hx hb dX8_setGoingOn_46 rfl (lv_at hl 0 rfl) ?_
  obtain ⟨hP9, hD9⟩ := z_get hP hD [] (wc := []) rfl rfl
  exact W.zret (ty := .boolean) (v := 0) hx hb hr rfl (fun t ht hW => ⟨⟨0, (), rfl, rfl, by rw [ht]; exact hP9, hD9⟩, hS.F ht⟩) hS.2.2 dX8_setGoingOn_47

set_option maxHeartbeats 4000000 in
set_option maxRecDepth 100000 in
theorem x_setGoingOn (l : Launch) (D : va_G) (cI : ClassId) (x st lv nm lb lk : Nat) (p q : Int32) (sz : Nat) (hst : l.stackTraces = false) (hp : ¬ zLv p) : vx_Met l yX8_setGoingOn wsX8_setGoingOn ({ frames := 7, cells := 1, slots := 6, locals := 110 }) (va_Pc [.ref x, .int p, .int q] (zPreX D [(cI, .int)] [(x, .inr (11, [.ref st, .ref lv, .ref nm, .ref lb, .ref lk, .int 0]))] sz)) (va_Qi (fun _ (_ : Unit) => False) (fun _ _ => True) (va_A [(x, .inr (11, [.ref st, .ref lv, .ref nm, .ref lb, .ref lk, .int 0]))] sz)) (zX "java/lang/IllegalArgumentException" (va_A [(x, .inr (11, [.ref st, .ref lv, .ref nm, .ref lb, .ref lk, .int 0]))] sz)) 1 6 (va_A [(x, .inr (11, [.ref st, .ref lv, .ref nm, .ref lb, .ref lk, .int 0]))] sz) := by
  refine vx_ofW (cc := cX8_setGoingOn) (maxL := 4) (ret := (some .boolean)) (by decide) rfl ?_
  intro P0 E0 s m args below meth C9 s₁ B hml hout hv
  obtain ⟨rfl, ⟨hsz, hP, hK, hD0⟩, ⟨hU, hN⟩, hKB⟩ := hv
  have hx := B.exec
  have hb := B.bytes
  have hr := B.returns
  have hts := atoms_spec (ws := wsX8_setGoingOn) B.pre
  have hown : s.vm.findClass RX8 = some m.cls := findClass_of_methodNamed B.named
  have hlocks := B.notSynchronized
  subst hsz
  have hD := hD0.self (sz := s.heap.size)
  generalize hAe : va_A [(x, .inr (11, [.ref st, .ref lv, .ref nm, .ref lb, .ref lk, .int 0]))] s.heap.size = A at hD hU hN ⊢
  have hA : ∀ q : Nat, s.heap.size ≤ q → A q := fun q h => by rw [← hAe]; exact Or.inr h
  have hS : va_S A s.heap s.heap [] := va_S.rf
  have hl := lv_entry ([.ref x, .int p, .int q]) (n := 4) (Nat.le_of_ble_eq_true rfl)
  rw [lg_entry_eq]
  generalize (lg_sl ([.ref x, .int p, .int q]) ++ List.replicate (4 - (lg_sl ([.ref x, .int p, .int q])).length) Slot.unset).toArray = ls at hl ⊢
  have hl : lv_has ls 4 [(0, .ref x), (1, .int p), (2, .int q)] := hl
  refine lv_aload_n hx hb dX8_setGoingOn_0 rfl (lv_at hl 0 rfl) ?_
  refine lv_iload_n hx hb dX8_setGoingOn_1 rfl (lv_at hl 1 rfl) ?_
  refine zc_x (wc := [(x, .inr (11, [.ref st, .ref lv, .ref nm, .ref lb, .ref lk, .int 0]))]) (wr := []) (fun st v t h => by obtain ⟨h1, -⟩ := h; obtain ⟨u, -, h2, -⟩ := h1; exact h2) (vx_runV (As := [.int p]) (rest := []) ⟨hx, hb, hml, hown, hts⟩ (x_reqLevel l D cI x st lv nm lb lk p s.heap.size hst hp) (cwV 1 hts gX8_setGoingOn_X8_requireNumberedLevel rfl rfl rfl (by decide +kernel) ⟨Nat.le_of_ble_eq_true rfl, Nat.le_of_ble_eq_true rfl⟩) (zPVX ⟨hU, hN⟩ hKB hS hA hK hP hD [0] rfl rfl [0] rfl 0 rfl rfl rfl) rfl rfl hl.1 rfl (lv_room (Nat.le_of_ble_eq_true rfl)) dX8_setGoingOn_2 ⟨Nat.le_of_ble_eq_true rfl, Nat.le_of_ble_eq_true rfl⟩) hP hD hS hA [0] [] rfl rfl rfl (by decide) (fun ce q9 H locs hP hD hS hce hcv hcl => ?_)
  exact vx_out (fun x h => (hout x h).elim) hlocks hce hcv hcl (fun t ht hvm => ⟨(), trivial, rfl, hS.F ht⟩) hS.2.2 (Nat.le_refl _) (Nat.le_refl _)

set_option maxHeartbeats 4000000 in
set_option maxRecDepth 100000 in
theorem k_size (l : Launch) (D : va_G) (cI : ClassId) (x st lv nm lb lk od pp le pa : Nat) (sz : Nat) : Met l yX8_size wsX8_size ({ frames := 1, cells := 0, slots := 0, locals := 20 }) (va_Pc [.ref x] (zPre D [(cI, .int)] [(x, .inr (11, [.ref st, .ref lv, .ref nm, .ref lb, .ref lk, .int 0])), (st, .inr (8, [.ref od, .ref pp, .ref le, .ref pa, .int 0]))] sz)) (va_Qi (fun rv (_ : Unit) => rv = 0) (fun (_ : Unit) => zB D [] (va_A [(x, .inr (11, [.ref st, .ref lv, .ref nm, .ref lb, .ref lk, .int 0])), (st, .inr (8, [.ref od, .ref pp, .ref le, .ref pa, .int 0]))] sz)) (va_A [(x, .inr (11, [.ref st, .ref lv, .ref nm, .ref lb, .ref lk, .int 0])), (st, .inr (8, [.ref od, .ref pp, .ref le, .ref pa, .int 0]))] sz)) 0 0 (va_A [(x, .inr (11, [.ref st, .ref lv, .ref nm, .ref lb, .ref lk, .int 0])), (st, .inr (8, [.ref od, .ref pp, .ref le, .ref pa, .int 0]))] sz) := by
  refine Met.ofW (cc := cX8_size) (maxL := 1) (ret := (some .int)) (by decide) rfl ?_
  intro P0 E0 s m args below meth C9 s₁ B hml hv
  obtain ⟨rfl, hsz, hP, hK, hD0⟩ := hv
  have hx := B.exec
  have hb := B.bytes
  have hr := B.returns
  have hts := atoms_spec (ws := wsX8_size) B.pre
  have hown : s.vm.findClass RX8 = some m.cls := findClass_of_methodNamed B.named
  have hlocks := B.notSynchronized
  subst hsz
  have hD := hD0.self (sz := s.heap.size)
  generalize hAe : va_A [(x, .inr (11, [.ref st, .ref lv, .ref nm, .ref lb, .ref lk, .int 0])), (st, .inr (8, [.ref od, .ref pp, .ref le, .ref pa, .int 0]))] s.heap.size = A at hD ⊢
  have hA : ∀ q : Nat, s.heap.size ≤ q → A q := fun q h => by rw [← hAe]; exact Or.inr h
  have hS : va_S A s.heap s.heap [] := va_S.rf
  have hl := lv_entry ([.ref x]) (n := 1) (Nat.le_of_ble_eq_true rfl)
  rw [lg_entry_eq]
  generalize (lg_sl ([.ref x]) ++ List.replicate (1 - (lg_sl ([.ref x])).length) Slot.unset).toArray = ls at hl ⊢
  have hl : lv_has ls 1 [(0, .ref x)] := hl
  refine lv_aload_n hx hb dX8_size_0 rfl (lv_at hl 0 rfl) ?_
  refine va_get (D := D) (ci := 11) (v := .ref st) (C := RX8) (T := TX8) (N := 6) hx hb hts (fun _ h => List.mem_cons_of_mem _ (List.mem_append_left _ (List.mem_append_right _ h))) hown hK hP 0 rfl rfl 0 (by decide) (hts (.fieldLink RX8 10 "NumberingTree" "standing" "LNumberingTree$Standing;") (List.mem_of_getElem? (i := 1) rfl)) (fun _ h9 => h9) rfl dX8_size_1 ?_
  refine zc_i (wc := [(st, .inr (8, [.ref od, .ref pp, .ref le, .ref pa, .int 0]))]) (wr := [(x, .inr (11, [.ref st, .ref lv, .ref nm, .ref lb, .ref lk, .int 0]))]) (va_runV (As := []) (rest := []) ⟨hx, hb, hml, hown, hts⟩ (k_amount l D cI st od pp le pa 0 s.heap.size) (cwV 0 hts gX8_size_X5_amount rfl rfl rfl (by decide +kernel) ⟨Nat.le_of_ble_eq_true rfl, Nat.le_of_ble_eq_true rfl⟩) (zPV hK hP hD [1] rfl rfl [0] rfl 0 rfl rfl rfl) rfl rfl hl.1 rfl (lv_room (Nat.le_of_ble_eq_true rfl)) dX8_size_4 ⟨Nat.le_of_ble_eq_true rfl, Nat.le_of_ble_eq_true rfl⟩) hP hD hS hA [1] [0] rfl rfl rfl (by decide) (fun r _ H locs hw hP hD hS => ?_)
  have hP : va_P D vwCl [(x, .inr (11, [.ref st, .ref lv, .ref nm, .ref lb, .ref lk, .int 0])), (st, .inr (8, [.ref od, .ref pp, .ref le, .ref pa, .int 0]))] H := hP
  have hD : va_D A [(x, .inr (11, [.ref st, .ref lv, .ref nm, .ref lb, .ref lk, .int 0])), (st, .inr (8, [.ref od, .ref pp, .ref le, .ref pa, .int 0]))] := hD
  subst hw
  obtain ⟨hP9, hD9⟩ := z_get hP hD [] (wc := []) rfl rfl
  exact W.iret (v := 0) hx hb hr (fun t ht hW => ⟨⟨0, (), rfl, rfl, by rw [ht]; exact hP9, hD9⟩, hS.F ht⟩) hS.2.2 dX8_size_7

set_option maxHeartbeats 4000000 in
set_option maxRecDepth 100000 in
theorem x_paragraphAt (l : Launch) (D : va_G) (cI : ClassId) (x st lv nm lb lk od pp le pa : Nat) (p : Int32) (sz : Nat) (hst : l.stackTraces = false) : vx_Met l yX8_paragraphAt wsX8_paragraphAt ({ frames := 6, cells := 1, slots := 6, locals := 89 }) (va_Pc [.ref x, .int p] (zPreX D [(cI, .int)] [(x, .inr (11, [.ref st, .ref lv, .ref nm, .ref lb, .ref lk, .int 0])), (st, .inr (8, [.ref od, .ref pp, .ref le, .ref pa, .int 0]))] sz)) (va_Qi (fun _ (_ : Unit) => False) (fun _ _ => True) (va_A [(x, .inr (11, [.ref st, .ref lv, .ref nm, .ref lb, .ref lk, .int 0])), (st, .inr (8, [.ref od, .ref pp, .ref le, .ref pa, .int 0]))] sz)) (zX "java/lang/IndexOutOfBoundsException" (va_A [(x, .inr (11, [.ref st, .ref lv, .ref nm, .ref lb, .ref lk, .int 0])), (st, .inr (8, [.ref od, .ref pp, .ref le, .ref pa, .int 0]))] sz)) 1 6 (va_A [(x, .inr (11, [.ref st, .ref lv, .ref nm, .ref lb, .ref lk, .int 0])), (st, .inr (8, [.ref od, .ref pp, .ref le, .ref pa, .int 0]))] sz) := by
  refine vx_ofW (cc := cX8_paragraphAt) (maxL := 2) (ret := (some .int)) (by decide) rfl ?_
  intro P0 E0 s m args below meth C9 s₁ B hml hout hv
  obtain ⟨rfl, ⟨hsz, hP, hK, hD0⟩, ⟨hU, hN⟩, hKB⟩ := hv
  have hx := B.exec
  have hb := B.bytes
  have hr := B.returns
  have hts := atoms_spec (ws := wsX8_paragraphAt) B.pre
  have hown : s.vm.findClass RX8 = some m.cls := findClass_of_methodNamed B.named
  have hlocks := B.notSynchronized
  subst hsz
  have hD := hD0.self (sz := s.heap.size)
  generalize hAe : va_A [(x, .inr (11, [.ref st, .ref lv, .ref nm, .ref lb, .ref lk, .int 0])), (st, .inr (8, [.ref od, .ref pp, .ref le, .ref pa, .int 0]))] s.heap.size = A at hD hU hN ⊢
  have hA : ∀ q : Nat, s.heap.size ≤ q → A q := fun q h => by rw [← hAe]; exact Or.inr h
  have hS : va_S A s.heap s.heap [] := va_S.rf
  have hl := lv_entry ([.ref x, .int p]) (n := 2) (Nat.le_of_ble_eq_true rfl)
  rw [lg_entry_eq]
  generalize (lg_sl ([.ref x, .int p]) ++ List.replicate (2 - (lg_sl ([.ref x, .int p])).length) Slot.unset).toArray = ls at hl ⊢
  have hl : lv_has ls 2 [(0, .ref x), (1, .int p)] := hl
  refine lv_iload_n hx hb dX8_paragraphAt_0 rfl (lv_at hl 1 rfl) ?_
  refine lv_if_lt (tgt := 15) hx hb dX8_paragraphAt_1 (by decide) (fun c1 => ?_) (fun c1 => ?_)
  · exact vx_throw0 (own := RX8) (cls := "java/lang/IndexOutOfBoundsException") (names := ["java/lang/RuntimeException", "java/lang/Exception"]) (ik := 162) (ic := 164) hx hb hst hown (by decide +kernel) (by decide +kernel) (hts (.classLink RX8 162 "java/lang/IndexOutOfBoundsException") (List.mem_of_getElem? (i := 1) rfl)) (hts (.initialized "java/lang/IndexOutOfBoundsException") (List.mem_of_getElem? (i := 2) rfl)) (zhat0 (fun w h => hts w ((fun _ h => List.mem_cons_of_mem _ (List.mem_append_left _ (List.mem_append_right _ h))) w h)) hKB (by decide +kernel)) (by decide +kernel) hU hN hS (hl.1.trans hml.symm) dX8_paragraphAt_15 dX8_paragraphAt_18 dX8_paragraphAt_19 dX8_paragraphAt_22 (fun x h => (hout x h).elim) (Nat.lt_of_succ_le (Nat.le_of_ble_eq_true rfl)) (Nat.le_of_ble_eq_true rfl) (Nat.le_of_ble_eq_true rfl) (Nat.le_of_ble_eq_true rfl) hlocks (fun t hvm hz hk => ⟨(), trivial, rfl, zF_throw hS hz hk⟩) hS.2.2 (Nat.le_of_ble_eq_true rfl) (Nat.le_of_ble_eq_true rfl)
  · refine lv_iload_n hx hb dX8_paragraphAt_4 rfl (lv_at hl 1 rfl) ?_
    refine lv_aload_n hx hb dX8_paragraphAt_5 rfl (lv_at hl 0 rfl) ?_
    refine va_get (D := D) (ci := 11) (v := .ref st) (C := RX8) (T := TX8) (N := 6) hx hb hts (fun _ h => List.mem_cons_of_mem _ (List.mem_append_left _ (List.mem_append_left _ (List.mem_append_left _ (List.mem_append_left _ (List.mem_append_right _ h)))))) hown hK hP 0 rfl rfl 0 (by decide) (hts (.fieldLink RX8 10 "NumberingTree" "standing" "LNumberingTree$Standing;") (List.mem_of_getElem? (i := 3) rfl)) (fun _ h9 => h9) rfl dX8_paragraphAt_6 ?_
    refine zc_i (wc := [(st, .inr (8, [.ref od, .ref pp, .ref le, .ref pa, .int 0]))]) (wr := [(x, .inr (11, [.ref st, .ref lv, .ref nm, .ref lb, .ref lk, .int 0]))]) (va_runV (As := []) (rest := [.int p]) ⟨hx, hb, hml, hown, hts⟩ (k_amount l D cI st od pp le pa 0 s.heap.size) (cwV 0 hts gX8_paragraphAt_X5_amount rfl rfl rfl (by decide +kernel) ⟨Nat.le_of_ble_eq_true rfl, Nat.le_of_ble_eq_true rfl⟩) (zPV hK hP hD [1] rfl rfl [0] rfl 0 rfl rfl rfl) rfl rfl hl.1 rfl (lv_room (Nat.le_of_ble_eq_true rfl)) dX8_paragraphAt_9 ⟨Nat.le_of_ble_eq_true rfl, Nat.le_of_ble_eq_true rfl⟩) hP hD hS hA [1] [0] rfl rfl rfl (by decide) (fun r _ H locs hw hP hD hS => ?_)
    have hP : va_P D vwCl [(x, .inr (11, [.ref st, .ref lv, .ref nm, .ref lb, .ref lk, .int 0])), (st, .inr (8, [.ref od, .ref pp, .ref le, .ref pa, .int 0]))] H := hP
    have hD : va_D A [(x, .inr (11, [.ref st, .ref lv, .ref nm, .ref lb, .ref lk, .int 0])), (st, .inr (8, [.ref od, .ref pp, .ref le, .ref pa, .int 0]))] := hD
    subst hw
    refine lv_icmp_lt (tgt := 23) hx hb dX8_paragraphAt_12 (by decide) (fun q => absurd q c1) (fun _ => ?_)
    exact vx_throw0 (own := RX8) (cls := "java/lang/IndexOutOfBoundsException") (names := ["java/lang/RuntimeException", "java/lang/Exception"]) (ik := 162) (ic := 164) hx hb hst hown (by decide +kernel) (by decide +kernel) (hts (.classLink RX8 162 "java/lang/IndexOutOfBoundsException") (List.mem_of_getElem? (i := 1) rfl)) (hts (.initialized "java/lang/IndexOutOfBoundsException") (List.mem_of_getElem? (i := 2) rfl)) (zhat0 (fun w h => hts w ((fun _ h => List.mem_cons_of_mem _ (List.mem_append_left _ (List.mem_append_right _ h))) w h)) hKB (by decide +kernel)) (by decide +kernel) hU hN hS (hl.1.trans hml.symm) dX8_paragraphAt_15 dX8_paragraphAt_18 dX8_paragraphAt_19 dX8_paragraphAt_22 (fun x h => (hout x h).elim) (Nat.lt_of_succ_le (Nat.le_of_ble_eq_true rfl)) (Nat.le_of_ble_eq_true rfl) (Nat.le_of_ble_eq_true rfl) (Nat.le_of_ble_eq_true rfl) hlocks (fun t hvm hz hk => ⟨(), trivial, rfl, zF_throw hS hz hk⟩) hS.2.2 (Nat.le_of_ble_eq_true rfl) (Nat.le_of_ble_eq_true rfl)

set_option maxHeartbeats 4000000 in
set_option maxRecDepth 100000 in
theorem k_lkamount (l : Launch) (D : va_G) (cI : ClassId) (lk ls1 ls2 : Nat) (sz : Nat) : Met l yX2_amount wsX2_amount ({ frames := 0, cells := 0, slots := 0, locals := 0 }) (va_Pc [.ref lk] (zPre D [(cI, .int)] [(lk, .inr (5, [.ref ls1, .ref ls2, .int 0]))] sz)) (va_Qi (fun rv (_ : Unit) => rv = 0) (fun (_ : Unit) => zB D [(lk, .inr (5, [.ref ls1, .ref ls2, .int 0]))] (va_A [(lk, .inr (5, [.ref ls1, .ref ls2, .int 0]))] sz)) (va_A [(lk, .inr (5, [.ref ls1, .ref ls2, .int 0]))] sz)) 0 0 (va_A [(lk, .inr (5, [.ref ls1, .ref ls2, .int 0]))] sz) := by
  refine Met.ofW (cc := cX2_amount) (maxL := 1) (ret := (some .int)) (by decide) rfl ?_
  intro P0 E0 s m args below meth C9 s₁ B hml hv
  obtain ⟨rfl, hsz, hP, hK, hD0⟩ := hv
  have hx := B.exec
  have hb := B.bytes
  have hr := B.returns
  have hts := atoms_spec (ws := wsX2_amount) B.pre
  have hown : s.vm.findClass RX2 = some m.cls := findClass_of_methodNamed B.named
  have hlocks := B.notSynchronized
  subst hsz
  have hD := hD0.self (sz := s.heap.size)
  generalize hAe : va_A [(lk, .inr (5, [.ref ls1, .ref ls2, .int 0]))] s.heap.size = A at hD ⊢
  have hA : ∀ q : Nat, s.heap.size ≤ q → A q := fun q h => by rw [← hAe]; exact Or.inr h
  have hS : va_S A s.heap s.heap [] := va_S.rf
  have hl := lv_entry ([.ref lk]) (n := 1) (Nat.le_of_ble_eq_true rfl)
  rw [lg_entry_eq]
  generalize (lg_sl ([.ref lk]) ++ List.replicate (1 - (lg_sl ([.ref lk])).length) Slot.unset).toArray = ls at hl ⊢
  have hl : lv_has ls 1 [(0, .ref lk)] := hl
  refine lv_aload_n hx hb dX2_amount_0 rfl (lv_at hl 0 rfl) ?_
  refine va_get (D := D) (ci := 5) (v := .int 0) (C := RX2) (T := TX2) (N := 3) hx hb hts (fun _ h => List.mem_cons_of_mem _ (List.mem_append_right _ h)) hown hK hP 0 rfl rfl 2 (by decide) (hts (.fieldLink RX2 23 "NumberingTree$Links" "amount" "I") (List.mem_of_getElem? (i := 1) rfl)) (fun _ h9 => h9) rfl dX2_amount_1 ?_
  obtain ⟨hP9, hD9⟩ := z_get hP hD [0] (wc := [(lk, .inr (5, [.ref ls1, .ref ls2, .int 0]))]) rfl rfl
  exact W.iret (v := 0) hx hb hr (fun t ht hW => ⟨⟨0, (), rfl, rfl, by rw [ht]; exact hP9, hD9⟩, hS.F ht⟩) hS.2.2 dX2_amount_4

set_option maxHeartbeats 4000000 in
set_option maxRecDepth 100000 in
theorem k_references (l : Launch) (D : va_G) (cI : ClassId) (x st lv nm lb lk ls1 ls2 : Nat) (sz : Nat) : Met l yX8_references wsX8_references ({ frames := 1, cells := 0, slots := 0, locals := 20 }) (va_Pc [.ref x] (zPre D [(cI, .int)] [(x, .inr (11, [.ref st, .ref lv, .ref nm, .ref lb, .ref lk, .int 0])), (lk, .inr (5, [.ref ls1, .ref ls2, .int 0]))] sz)) (va_Qi (fun rv (_ : Unit) => rv = 0) (fun (_ : Unit) => zB D [] (va_A [(x, .inr (11, [.ref st, .ref lv, .ref nm, .ref lb, .ref lk, .int 0])), (lk, .inr (5, [.ref ls1, .ref ls2, .int 0]))] sz)) (va_A [(x, .inr (11, [.ref st, .ref lv, .ref nm, .ref lb, .ref lk, .int 0])), (lk, .inr (5, [.ref ls1, .ref ls2, .int 0]))] sz)) 0 0 (va_A [(x, .inr (11, [.ref st, .ref lv, .ref nm, .ref lb, .ref lk, .int 0])), (lk, .inr (5, [.ref ls1, .ref ls2, .int 0]))] sz) := by
  refine Met.ofW (cc := cX8_references) (maxL := 1) (ret := (some .int)) (by decide) rfl ?_
  intro P0 E0 s m args below meth C9 s₁ B hml hv
  obtain ⟨rfl, hsz, hP, hK, hD0⟩ := hv
  have hx := B.exec
  have hb := B.bytes
  have hr := B.returns
  have hts := atoms_spec (ws := wsX8_references) B.pre
  have hown : s.vm.findClass RX8 = some m.cls := findClass_of_methodNamed B.named
  have hlocks := B.notSynchronized
  subst hsz
  have hD := hD0.self (sz := s.heap.size)
  generalize hAe : va_A [(x, .inr (11, [.ref st, .ref lv, .ref nm, .ref lb, .ref lk, .int 0])), (lk, .inr (5, [.ref ls1, .ref ls2, .int 0]))] s.heap.size = A at hD ⊢
  have hA : ∀ q : Nat, s.heap.size ≤ q → A q := fun q h => by rw [← hAe]; exact Or.inr h
  have hS : va_S A s.heap s.heap [] := va_S.rf
  have hl := lv_entry ([.ref x]) (n := 1) (Nat.le_of_ble_eq_true rfl)
  rw [lg_entry_eq]
  generalize (lg_sl ([.ref x]) ++ List.replicate (1 - (lg_sl ([.ref x])).length) Slot.unset).toArray = ls at hl ⊢
  have hl : lv_has ls 1 [(0, .ref x)] := hl
  refine lv_aload_n hx hb dX8_references_0 rfl (lv_at hl 0 rfl) ?_
  refine va_get (D := D) (ci := 11) (v := .ref lk) (C := RX8) (T := TX8) (N := 6) hx hb hts (fun _ h => List.mem_cons_of_mem _ (List.mem_append_left _ (List.mem_append_right _ h))) hown hK hP 0 rfl rfl 4 (by decide) (hts (.fieldLink RX8 44 "NumberingTree" "links" "LNumberingTree$Links;") (List.mem_of_getElem? (i := 1) rfl)) (fun _ h9 => h9) rfl dX8_references_1 ?_
  refine zc_i (wc := [(lk, .inr (5, [.ref ls1, .ref ls2, .int 0]))]) (wr := [(x, .inr (11, [.ref st, .ref lv, .ref nm, .ref lb, .ref lk, .int 0]))]) (va_runV (As := []) (rest := []) ⟨hx, hb, hml, hown, hts⟩ (k_lkamount l D cI lk ls1 ls2 s.heap.size) (cwV 0 hts gX8_references_X2_amount rfl rfl rfl (by decide +kernel) ⟨Nat.le_of_ble_eq_true rfl, Nat.le_of_ble_eq_true rfl⟩) (zPV hK hP hD [1] rfl rfl [0] rfl 0 rfl rfl rfl) rfl rfl hl.1 rfl (lv_room (Nat.le_of_ble_eq_true rfl)) dX8_references_4 ⟨Nat.le_of_ble_eq_true rfl, Nat.le_of_ble_eq_true rfl⟩) hP hD hS hA [1] [0] rfl rfl rfl (by decide) (fun r _ H locs hw hP hD hS => ?_)
  have hP : va_P D vwCl [(x, .inr (11, [.ref st, .ref lv, .ref nm, .ref lb, .ref lk, .int 0])), (lk, .inr (5, [.ref ls1, .ref ls2, .int 0]))] H := hP
  have hD : va_D A [(x, .inr (11, [.ref st, .ref lv, .ref nm, .ref lb, .ref lk, .int 0])), (lk, .inr (5, [.ref ls1, .ref ls2, .int 0]))] := hD
  subst hw
  obtain ⟨hP9, hD9⟩ := z_get hP hD [] (wc := []) rfl rfl
  exact W.iret (v := 0) hx hb hr (fun t ht hW => ⟨⟨0, (), rfl, rfl, by rw [ht]; exact hP9, hD9⟩, hS.F ht⟩) hS.2.2 dX8_references_7

set_option maxHeartbeats 4000000 in
set_option maxRecDepth 100000 in
theorem k_broken (l : Launch) (D : va_G) (cI : ClassId) (x st lv nm lb lk ls1 ls2 : Nat) (sz : Nat) : Met l yX8_broken wsX8_broken ({ frames := 1, cells := 0, slots := 0, locals := 20 }) (va_Pc [.ref x] (zPre D [(cI, .int)] [(x, .inr (11, [.ref st, .ref lv, .ref nm, .ref lb, .ref lk, .int 0])), (lk, .inr (5, [.ref ls1, .ref ls2, .int 0]))] sz)) (va_Qi (fun rv (_ : Unit) => rv = 0) (fun (_ : Unit) => zB D [] (va_A [(x, .inr (11, [.ref st, .ref lv, .ref nm, .ref lb, .ref lk, .int 0])), (lk, .inr (5, [.ref ls1, .ref ls2, .int 0]))] sz)) (va_A [(x, .inr (11, [.ref st, .ref lv, .ref nm, .ref lb, .ref lk, .int 0])), (lk, .inr (5, [.ref ls1, .ref ls2, .int 0]))] sz)) 0 0 (va_A [(x, .inr (11, [.ref st, .ref lv, .ref nm, .ref lb, .ref lk, .int 0])), (lk, .inr (5, [.ref ls1, .ref ls2, .int 0]))] sz) := by
  refine Met.ofW (cc := cX8_broken) (maxL := 3) (ret := (some .int)) (by decide) rfl ?_
  intro P0 E0 s m args below meth C9 s₁ B hml hv
  obtain ⟨rfl, hsz, hP, hK, hD0⟩ := hv
  have hx := B.exec
  have hb := B.bytes
  have hr := B.returns
  have hts := atoms_spec (ws := wsX8_broken) B.pre
  have hown : s.vm.findClass RX8 = some m.cls := findClass_of_methodNamed B.named
  have hlocks := B.notSynchronized
  subst hsz
  have hD := hD0.self (sz := s.heap.size)
  generalize hAe : va_A [(x, .inr (11, [.ref st, .ref lv, .ref nm, .ref lb, .ref lk, .int 0])), (lk, .inr (5, [.ref ls1, .ref ls2, .int 0]))] s.heap.size = A at hD ⊢
  have hA : ∀ q : Nat, s.heap.size ≤ q → A q := fun q h => by rw [← hAe]; exact Or.inr h
  have hS : va_S A s.heap s.heap [] := va_S.rf
  have hl := lv_entry ([.ref x]) (n := 3) (Nat.le_of_ble_eq_true rfl)
  rw [lg_entry_eq]
  generalize (lg_sl ([.ref x]) ++ List.replicate (3 - (lg_sl ([.ref x])).length) Slot.unset).toArray = ls at hl ⊢
  have hl : lv_has ls 3 [(0, .ref x)] := hl
  refine lv_iconst (v := 0) hx hb dX8_broken_0 (by decide) ?_
  refine lv_istore_n (lv' := [(1, .int 0), (0, .ref x)]) hx hb dX8_broken_1 rfl hl (by decide) rfl (fun ls hl => ?_)
  refine lv_iconst (v := 0) hx hb dX8_broken_2 (by decide) ?_
  refine lv_istore_n (lv' := [(2, .int 0), (1, .int 0), (0, .ref x)]) hx hb dX8_broken_3 rfl hl (by decide) rfl (fun ls hl => ?_)
  refine lv_iload_n hx hb dX8_broken_4 rfl (lv_at hl 0 rfl) ?_
  refine lv_aload_n hx hb dX8_broken_5 rfl (lv_at hl 2 rfl) ?_
  refine va_get (D := D) (ci := 11) (v := .ref lk) (C := RX8) (T := TX8) (N := 6) hx hb hts (fun _ h => List.mem_cons_of_mem _ (List.mem_append_left _ (List.mem_append_left _ (List.mem_append_left _ (List.mem_append_left _ (List.mem_append_right _ h)))))) hown hK hP 0 rfl rfl 4 (by decide) (hts (.fieldLink RX8 44 "NumberingTree" "links" "LNumberingTree$Links;") (List.mem_of_getElem? (i := 1) rfl)) (fun _ h9 => h9) rfl dX8_broken_6 ?_
  refine zc_i (wc := [(lk, .inr (5, [.ref ls1, .ref ls2, .int 0]))]) (wr := [(x, .inr (11, [.ref st, .ref lv, .ref nm, .ref lb, .ref lk, .int 0]))]) (va_runV (As := []) (rest := [.int 0]) ⟨hx, hb, hml, hown, hts⟩ (k_lkamount l D cI lk ls1 ls2 s.heap.size) (cwV 0 hts gX8_broken_X2_amount rfl rfl rfl (by decide +kernel) ⟨Nat.le_of_ble_eq_true rfl, Nat.le_of_ble_eq_true rfl⟩) (zPV hK hP hD [1] rfl rfl [0] rfl 0 rfl rfl rfl) rfl rfl hl.1 rfl (lv_room (Nat.le_of_ble_eq_true rfl)) dX8_broken_9 ⟨Nat.le_of_ble_eq_true rfl, Nat.le_of_ble_eq_true rfl⟩) hP hD hS hA [1] [0] rfl rfl rfl (by decide) (fun r _ H locs hw hP hD hS => ?_)
  have hP : va_P D vwCl [(x, .inr (11, [.ref st, .ref lv, .ref nm, .ref lb, .ref lk, .int 0])), (lk, .inr (5, [.ref ls1, .ref ls2, .int 0]))] H := hP
  have hD : va_D A [(x, .inr (11, [.ref st, .ref lv, .ref nm, .ref lb, .ref lk, .int 0])), (lk, .inr (5, [.ref ls1, .ref ls2, .int 0]))] := hD
  subst hw
  refine lv_icmp_ge (tgt := 32) hx hb dX8_broken_12 (by decide) (fun _ => ?_) (fun q => absurd q (by decide))
  refine lv_iload_n hx hb dX8_broken_32 rfl (lv_at hl 1 rfl) ?_
  obtain ⟨hP9, hD9⟩ := z_get hP hD [] (wc := []) rfl rfl
  exact W.iret (v := 0) hx hb hr (fun t ht hW => ⟨⟨0, (), rfl, rfl, by rw [ht]; exact hP9, hD9⟩, hS.F ht⟩) hS.2.2 dX8_broken_33

set_option maxHeartbeats 4000000 in
set_option maxRecDepth 100000 in
theorem x_reqRef (l : Launch) (D : va_G) (cI : ClassId) (x st lv nm lb lk ls1 ls2 : Nat) (p : Int32) (sz : Nat) (hst : l.stackTraces = false) : vx_Met l yX8_requireReference wsX8_requireReference ({ frames := 6, cells := 1, slots := 6, locals := 89 }) (va_Pc [.ref x, .int p] (zPreX D [(cI, .int)] [(x, .inr (11, [.ref st, .ref lv, .ref nm, .ref lb, .ref lk, .int 0])), (lk, .inr (5, [.ref ls1, .ref ls2, .int 0]))] sz)) (va_Qv (fun (_ : Unit) => False) (fun _ _ => True) (va_A [(x, .inr (11, [.ref st, .ref lv, .ref nm, .ref lb, .ref lk, .int 0])), (lk, .inr (5, [.ref ls1, .ref ls2, .int 0]))] sz)) (zX "java/util/NoSuchElementException" (va_A [(x, .inr (11, [.ref st, .ref lv, .ref nm, .ref lb, .ref lk, .int 0])), (lk, .inr (5, [.ref ls1, .ref ls2, .int 0]))] sz)) 1 6 (va_A [(x, .inr (11, [.ref st, .ref lv, .ref nm, .ref lb, .ref lk, .int 0])), (lk, .inr (5, [.ref ls1, .ref ls2, .int 0]))] sz) := by
  refine vx_ofW (cc := cX8_requireReference) (maxL := 2) (ret := none) (by decide) rfl ?_
  intro P0 E0 s m args below meth C9 s₁ B hml hout hv
  obtain ⟨rfl, ⟨hsz, hP, hK, hD0⟩, ⟨hU, hN⟩, hKB⟩ := hv
  have hx := B.exec
  have hb := B.bytes
  have hr := B.returns
  have hts := atoms_spec (ws := wsX8_requireReference) B.pre
  have hown : s.vm.findClass RX8 = some m.cls := findClass_of_methodNamed B.named
  have hlocks := B.notSynchronized
  subst hsz
  have hD := hD0.self (sz := s.heap.size)
  generalize hAe : va_A [(x, .inr (11, [.ref st, .ref lv, .ref nm, .ref lb, .ref lk, .int 0])), (lk, .inr (5, [.ref ls1, .ref ls2, .int 0]))] s.heap.size = A at hD hU hN ⊢
  have hA : ∀ q : Nat, s.heap.size ≤ q → A q := fun q h => by rw [← hAe]; exact Or.inr h
  have hS : va_S A s.heap s.heap [] := va_S.rf
  have hl := lv_entry ([.ref x, .int p]) (n := 2) (Nat.le_of_ble_eq_true rfl)
  rw [lg_entry_eq]
  generalize (lg_sl ([.ref x, .int p]) ++ List.replicate (2 - (lg_sl ([.ref x, .int p])).length) Slot.unset).toArray = ls at hl ⊢
  have hl : lv_has ls 2 [(0, .ref x), (1, .int p)] := hl
  refine lv_iload_n hx hb dX8_requireReference_0 rfl (lv_at hl 1 rfl) ?_
  refine lv_if_lt (tgt := 15) hx hb dX8_requireReference_1 (by decide) (fun c1 => ?_) (fun c1 => ?_)
  · exact vx_throw0 (own := RX8) (cls := "java/util/NoSuchElementException") (names := ["java/lang/RuntimeException", "java/lang/Exception"]) (ik := 204) (ic := 206) hx hb hst hown (by decide +kernel) (by decide +kernel) (hts (.classLink RX8 204 "java/util/NoSuchElementException") (List.mem_of_getElem? (i := 1) rfl)) (hts (.initialized "java/util/NoSuchElementException") (List.mem_of_getElem? (i := 2) rfl)) (zhat0 (fun w h => hts w ((fun _ h => List.mem_cons_of_mem _ (List.mem_append_right _ h)) w h)) hKB (by decide +kernel)) (by decide +kernel) hU hN hS (hl.1.trans hml.symm) dX8_requireReference_15 dX8_requireReference_18 dX8_requireReference_19 dX8_requireReference_22 (fun x h => (hout x h).elim) (Nat.lt_of_succ_le (Nat.le_of_ble_eq_true rfl)) (Nat.le_of_ble_eq_true rfl) (Nat.le_of_ble_eq_true rfl) (Nat.le_of_ble_eq_true rfl) hlocks (fun t hvm hz hk => ⟨(), trivial, rfl, zF_throw hS hz hk⟩) hS.2.2 (Nat.le_of_ble_eq_true rfl) (Nat.le_of_ble_eq_true rfl)
  · refine lv_iload_n hx hb dX8_requireReference_4 rfl (lv_at hl 1 rfl) ?_
    refine lv_aload_n hx hb dX8_requireReference_5 rfl (lv_at hl 0 rfl) ?_
    refine va_get (D := D) (ci := 11) (v := .ref lk) (C := RX8) (T := TX8) (N := 6) hx hb hts (fun _ h => List.mem_cons_of_mem _ (List.mem_append_left _ (List.mem_append_left _ (List.mem_append_right _ h)))) hown hK hP 0 rfl rfl 4 (by decide) (hts (.fieldLink RX8 44 "NumberingTree" "links" "LNumberingTree$Links;") (List.mem_of_getElem? (i := 3) rfl)) (fun _ h9 => h9) rfl dX8_requireReference_6 ?_
    refine zc_i (wc := [(lk, .inr (5, [.ref ls1, .ref ls2, .int 0]))]) (wr := [(x, .inr (11, [.ref st, .ref lv, .ref nm, .ref lb, .ref lk, .int 0]))]) (va_runV (As := []) (rest := [.int p]) ⟨hx, hb, hml, hown, hts⟩ (k_lkamount l D cI lk ls1 ls2 s.heap.size) (cwV 0 hts gX8_requireReference_X2_amount rfl rfl rfl (by decide +kernel) ⟨Nat.le_of_ble_eq_true rfl, Nat.le_of_ble_eq_true rfl⟩) (zPV hK hP hD [1] rfl rfl [0] rfl 0 rfl rfl rfl) rfl rfl hl.1 rfl (lv_room (Nat.le_of_ble_eq_true rfl)) dX8_requireReference_9 ⟨Nat.le_of_ble_eq_true rfl, Nat.le_of_ble_eq_true rfl⟩) hP hD hS hA [1] [0] rfl rfl rfl (by decide) (fun r _ H locs hw hP hD hS => ?_)
    have hP : va_P D vwCl [(x, .inr (11, [.ref st, .ref lv, .ref nm, .ref lb, .ref lk, .int 0])), (lk, .inr (5, [.ref ls1, .ref ls2, .int 0]))] H := hP
    have hD : va_D A [(x, .inr (11, [.ref st, .ref lv, .ref nm, .ref lb, .ref lk, .int 0])), (lk, .inr (5, [.ref ls1, .ref ls2, .int 0]))] := hD
    subst hw
    refine lv_icmp_lt (tgt := 23) hx hb dX8_requireReference_12 (by decide) (fun q => absurd q c1) (fun _ => ?_)
    exact vx_throw0 (own := RX8) (cls := "java/util/NoSuchElementException") (names := ["java/lang/RuntimeException", "java/lang/Exception"]) (ik := 204) (ic := 206) hx hb hst hown (by decide +kernel) (by decide +kernel) (hts (.classLink RX8 204 "java/util/NoSuchElementException") (List.mem_of_getElem? (i := 1) rfl)) (hts (.initialized "java/util/NoSuchElementException") (List.mem_of_getElem? (i := 2) rfl)) (zhat0 (fun w h => hts w ((fun _ h => List.mem_cons_of_mem _ (List.mem_append_right _ h)) w h)) hKB (by decide +kernel)) (by decide +kernel) hU hN hS (hl.1.trans hml.symm) dX8_requireReference_15 dX8_requireReference_18 dX8_requireReference_19 dX8_requireReference_22 (fun x h => (hout x h).elim) (Nat.lt_of_succ_le (Nat.le_of_ble_eq_true rfl)) (Nat.le_of_ble_eq_true rfl) (Nat.le_of_ble_eq_true rfl) (Nat.le_of_ble_eq_true rfl) hlocks (fun t hvm hz hk => ⟨(), trivial, rfl, zF_throw hS hz hk⟩) hS.2.2 (Nat.le_of_ble_eq_true rfl) (Nat.le_of_ble_eq_true rfl)

set_option maxHeartbeats 4000000 in
set_option maxRecDepth 100000 in
theorem x_reqWhole (l : Launch) (D : va_G) (cI : ClassId) (x st lv nm lb lk ls1 ls2 : Nat) (p : Int32) (sz : Nat) (hst : l.stackTraces = false) : vx_Met l yX8_requireWhole wsX8_requireWhole ({ frames := 7, cells := 1, slots := 6, locals := 110 }) (va_Pc [.ref x, .int p] (zPreX D [(cI, .int)] [(x, .inr (11, [.ref st, .ref lv, .ref nm, .ref lb, .ref lk, .int 0])), (lk, .inr (5, [.ref ls1, .ref ls2, .int 0]))] sz)) (va_Qv (fun (_ : Unit) => False) (fun _ _ => True) (va_A [(x, .inr (11, [.ref st, .ref lv, .ref nm, .ref lb, .ref lk, .int 0])), (lk, .inr (5, [.ref ls1, .ref ls2, .int 0]))] sz)) (zX "java/util/NoSuchElementException" (va_A [(x, .inr (11, [.ref st, .ref lv, .ref nm, .ref lb, .ref lk, .int 0])), (lk, .inr (5, [.ref ls1, .ref ls2, .int 0]))] sz)) 1 6 (va_A [(x, .inr (11, [.ref st, .ref lv, .ref nm, .ref lb, .ref lk, .int 0])), (lk, .inr (5, [.ref ls1, .ref ls2, .int 0]))] sz) := by
  refine vx_ofW (cc := cX8_requireWhole) (maxL := 2) (ret := none) (by decide) rfl ?_
  intro P0 E0 s m args below meth C9 s₁ B hml hout hv
  obtain ⟨rfl, ⟨hsz, hP, hK, hD0⟩, ⟨hU, hN⟩, hKB⟩ := hv
  have hx := B.exec
  have hb := B.bytes
  have hr := B.returns
  have hts := atoms_spec (ws := wsX8_requireWhole) B.pre
  have hown : s.vm.findClass RX8 = some m.cls := findClass_of_methodNamed B.named
  have hlocks := B.notSynchronized
  subst hsz
  have hD := hD0.self (sz := s.heap.size)
  generalize hAe : va_A [(x, .inr (11, [.ref st, .ref lv, .ref nm, .ref lb, .ref lk, .int 0])), (lk, .inr (5, [.ref ls1, .ref ls2, .int 0]))] s.heap.size = A at hD hU hN ⊢
  have hA : ∀ q : Nat, s.heap.size ≤ q → A q := fun q h => by rw [← hAe]; exact Or.inr h
  have hS : va_S A s.heap s.heap [] := va_S.rf
  have hl := lv_entry ([.ref x, .int p]) (n := 2) (Nat.le_of_ble_eq_true rfl)
  rw [lg_entry_eq]
  generalize (lg_sl ([.ref x, .int p]) ++ List.replicate (2 - (lg_sl ([.ref x, .int p])).length) Slot.unset).toArray = ls at hl ⊢
  have hl : lv_has ls 2 [(0, .ref x), (1, .int p)] := hl
  refine lv_aload_n hx hb dX8_requireWhole_0 rfl (lv_at hl 0 rfl) ?_
  refine lv_iload_n hx hb dX8_requireWhole_1 rfl (lv_at hl 1 rfl) ?_
  refine zc_x (wc := [(x, .inr (11, [.ref st, .ref lv, .ref nm, .ref lb, .ref lk, .int 0])), (lk, .inr (5, [.ref ls1, .ref ls2, .int 0]))]) (wr := []) (fun st v t h => by obtain ⟨h1, -⟩ := h; obtain ⟨u, -, h2, -⟩ := h1; exact h2) (vx_runV (As := [.int p]) (rest := []) ⟨hx, hb, hml, hown, hts⟩ (x_reqRef l D cI x st lv nm lb lk ls1 ls2 p s.heap.size hst) (cwV 1 hts gX8_requireWhole_X8_requireReference rfl rfl rfl (by decide +kernel) ⟨Nat.le_of_ble_eq_true rfl, Nat.le_of_ble_eq_true rfl⟩) (zPVX ⟨hU, hN⟩ hKB hS hA hK hP hD [0, 1] rfl rfl [0] rfl 0 rfl rfl rfl) rfl rfl hl.1 rfl (lv_room (Nat.le_of_ble_eq_true rfl)) dX8_requireWhole_2 ⟨Nat.le_of_ble_eq_true rfl, Nat.le_of_ble_eq_true rfl⟩) hP hD hS hA [0, 1] [] rfl rfl rfl (by decide) (fun ce q9 H locs hP hD hS hce hcv hcl => ?_)
  exact vx_out (fun x h => (hout x h).elim) hlocks hce hcv hcl (fun t ht hvm => ⟨(), trivial, rfl, hS.F ht⟩) hS.2.2 (Nat.le_refl _) (Nat.le_refl _)

set_option maxHeartbeats 4000000 in
set_option maxRecDepth 100000 in
theorem x_targetOf (l : Launch) (D : va_G) (cI : ClassId) (x st lv nm lb lk ls1 ls2 : Nat) (p : Int32) (sz : Nat) (hst : l.stackTraces = false) : vx_Met l yX8_targetOf wsX8_targetOf ({ frames := 7, cells := 1, slots := 6, locals := 110 }) (va_Pc [.ref x, .int p] (zPreX D [(cI, .int)] [(x, .inr (11, [.ref st, .ref lv, .ref nm, .ref lb, .ref lk, .int 0])), (lk, .inr (5, [.ref ls1, .ref ls2, .int 0]))] sz)) (va_Qi (fun _ (_ : Unit) => False) (fun _ _ => True) (va_A [(x, .inr (11, [.ref st, .ref lv, .ref nm, .ref lb, .ref lk, .int 0])), (lk, .inr (5, [.ref ls1, .ref ls2, .int 0]))] sz)) (zX "java/util/NoSuchElementException" (va_A [(x, .inr (11, [.ref st, .ref lv, .ref nm, .ref lb, .ref lk, .int 0])), (lk, .inr (5, [.ref ls1, .ref ls2, .int 0]))] sz)) 1 6 (va_A [(x, .inr (11, [.ref st, .ref lv, .ref nm, .ref lb, .ref lk, .int 0])), (lk, .inr (5, [.ref ls1, .ref ls2, .int 0]))] sz) := by
  refine vx_ofW (cc := cX8_targetOf) (maxL := 2) (ret := (some .int)) (by decide) rfl ?_
  intro P0 E0 s m args below meth C9 s₁ B hml hout hv
  obtain ⟨rfl, ⟨hsz, hP, hK, hD0⟩, ⟨hU, hN⟩, hKB⟩ := hv
  have hx := B.exec
  have hb := B.bytes
  have hr := B.returns
  have hts := atoms_spec (ws := wsX8_targetOf) B.pre
  have hown : s.vm.findClass RX8 = some m.cls := findClass_of_methodNamed B.named
  have hlocks := B.notSynchronized
  subst hsz
  have hD := hD0.self (sz := s.heap.size)
  generalize hAe : va_A [(x, .inr (11, [.ref st, .ref lv, .ref nm, .ref lb, .ref lk, .int 0])), (lk, .inr (5, [.ref ls1, .ref ls2, .int 0]))] s.heap.size = A at hD hU hN ⊢
  have hA : ∀ q : Nat, s.heap.size ≤ q → A q := fun q h => by rw [← hAe]; exact Or.inr h
  have hS : va_S A s.heap s.heap [] := va_S.rf
  have hl := lv_entry ([.ref x, .int p]) (n := 2) (Nat.le_of_ble_eq_true rfl)
  rw [lg_entry_eq]
  generalize (lg_sl ([.ref x, .int p]) ++ List.replicate (2 - (lg_sl ([.ref x, .int p])).length) Slot.unset).toArray = ls at hl ⊢
  have hl : lv_has ls 2 [(0, .ref x), (1, .int p)] := hl
  refine lv_aload_n hx hb dX8_targetOf_0 rfl (lv_at hl 0 rfl) ?_
  refine lv_iload_n hx hb dX8_targetOf_1 rfl (lv_at hl 1 rfl) ?_
  refine zc_x (wc := [(x, .inr (11, [.ref st, .ref lv, .ref nm, .ref lb, .ref lk, .int 0])), (lk, .inr (5, [.ref ls1, .ref ls2, .int 0]))]) (wr := []) (fun st v t h => by obtain ⟨h1, -⟩ := h; obtain ⟨u, -, h2, -⟩ := h1; exact h2) (vx_runV (As := [.int p]) (rest := []) ⟨hx, hb, hml, hown, hts⟩ (x_reqRef l D cI x st lv nm lb lk ls1 ls2 p s.heap.size hst) (cwV 1 hts gX8_targetOf_X8_requireReference rfl rfl rfl (by decide +kernel) ⟨Nat.le_of_ble_eq_true rfl, Nat.le_of_ble_eq_true rfl⟩) (zPVX ⟨hU, hN⟩ hKB hS hA hK hP hD [0, 1] rfl rfl [0] rfl 0 rfl rfl rfl) rfl rfl hl.1 rfl (lv_room (Nat.le_of_ble_eq_true rfl)) dX8_targetOf_2 ⟨Nat.le_of_ble_eq_true rfl, Nat.le_of_ble_eq_true rfl⟩) hP hD hS hA [0, 1] [] rfl rfl rfl (by decide) (fun ce q9 H locs hP hD hS hce hcv hcl => ?_)
  exact vx_out (fun x h => (hout x h).elim) hlocks hce hcv hcl (fun t ht hvm => ⟨(), trivial, rfl, hS.F ht⟩) hS.2.2 (Nat.le_refl _) (Nat.le_refl _)

set_option maxHeartbeats 4000000 in
set_option maxRecDepth 100000 in
theorem x_isBroken (l : Launch) (D : va_G) (cI : ClassId) (x st lv nm lb lk ls1 ls2 : Nat) (p : Int32) (sz : Nat) (hst : l.stackTraces = false) : vx_Met l yX8_isBroken wsX8_isBroken ({ frames := 7, cells := 1, slots := 6, locals := 110 }) (va_Pc [.ref x, .int p] (zPreX D [(cI, .int)] [(x, .inr (11, [.ref st, .ref lv, .ref nm, .ref lb, .ref lk, .int 0])), (lk, .inr (5, [.ref ls1, .ref ls2, .int 0]))] sz)) (va_Qi (fun _ (_ : Unit) => False) (fun _ _ => True) (va_A [(x, .inr (11, [.ref st, .ref lv, .ref nm, .ref lb, .ref lk, .int 0])), (lk, .inr (5, [.ref ls1, .ref ls2, .int 0]))] sz)) (zX "java/util/NoSuchElementException" (va_A [(x, .inr (11, [.ref st, .ref lv, .ref nm, .ref lb, .ref lk, .int 0])), (lk, .inr (5, [.ref ls1, .ref ls2, .int 0]))] sz)) 1 6 (va_A [(x, .inr (11, [.ref st, .ref lv, .ref nm, .ref lb, .ref lk, .int 0])), (lk, .inr (5, [.ref ls1, .ref ls2, .int 0]))] sz) := by
  refine vx_ofW (cc := cX8_isBroken) (maxL := 2) (ret := (some .boolean)) (by decide) rfl ?_
  intro P0 E0 s m args below meth C9 s₁ B hml hout hv
  obtain ⟨rfl, ⟨hsz, hP, hK, hD0⟩, ⟨hU, hN⟩, hKB⟩ := hv
  have hx := B.exec
  have hb := B.bytes
  have hr := B.returns
  have hts := atoms_spec (ws := wsX8_isBroken) B.pre
  have hown : s.vm.findClass RX8 = some m.cls := findClass_of_methodNamed B.named
  have hlocks := B.notSynchronized
  subst hsz
  have hD := hD0.self (sz := s.heap.size)
  generalize hAe : va_A [(x, .inr (11, [.ref st, .ref lv, .ref nm, .ref lb, .ref lk, .int 0])), (lk, .inr (5, [.ref ls1, .ref ls2, .int 0]))] s.heap.size = A at hD hU hN ⊢
  have hA : ∀ q : Nat, s.heap.size ≤ q → A q := fun q h => by rw [← hAe]; exact Or.inr h
  have hS : va_S A s.heap s.heap [] := va_S.rf
  have hl := lv_entry ([.ref x, .int p]) (n := 2) (Nat.le_of_ble_eq_true rfl)
  rw [lg_entry_eq]
  generalize (lg_sl ([.ref x, .int p]) ++ List.replicate (2 - (lg_sl ([.ref x, .int p])).length) Slot.unset).toArray = ls at hl ⊢
  have hl : lv_has ls 2 [(0, .ref x), (1, .int p)] := hl
  refine lv_aload_n hx hb dX8_isBroken_0 rfl (lv_at hl 0 rfl) ?_
  refine lv_iload_n hx hb dX8_isBroken_1 rfl (lv_at hl 1 rfl) ?_
  refine zc_x (wc := [(x, .inr (11, [.ref st, .ref lv, .ref nm, .ref lb, .ref lk, .int 0])), (lk, .inr (5, [.ref ls1, .ref ls2, .int 0]))]) (wr := []) (fun st v t h => by obtain ⟨h1, -⟩ := h; obtain ⟨u, -, h2, -⟩ := h1; exact h2) (vx_runV (As := [.int p]) (rest := []) ⟨hx, hb, hml, hown, hts⟩ (x_reqRef l D cI x st lv nm lb lk ls1 ls2 p s.heap.size hst) (cwV 1 hts gX8_isBroken_X8_requireReference rfl rfl rfl (by decide +kernel) ⟨Nat.le_of_ble_eq_true rfl, Nat.le_of_ble_eq_true rfl⟩) (zPVX ⟨hU, hN⟩ hKB hS hA hK hP hD [0, 1] rfl rfl [0] rfl 0 rfl rfl rfl) rfl rfl hl.1 rfl (lv_room (Nat.le_of_ble_eq_true rfl)) dX8_isBroken_2 ⟨Nat.le_of_ble_eq_true rfl, Nat.le_of_ble_eq_true rfl⟩) hP hD hS hA [0, 1] [] rfl rfl rfl (by decide) (fun ce q9 H locs hP hD hS hce hcv hcl => ?_)
  exact vx_out (fun x h => (hout x h).elim) hlocks hce hcv hcl (fun t ht hvm => ⟨(), trivial, rfl, hS.F ht⟩) hS.2.2 (Nat.le_refl _) (Nat.le_refl _)

set_option maxHeartbeats 4000000 in
set_option maxRecDepth 100000 in
theorem x_referenceLength (l : Launch) (D : va_G) (cI : ClassId) (x st lv nm lb lk ls1 ls2 : Nat) (p : Int32) (sz : Nat) (hst : l.stackTraces = false) : vx_Met l yX8_referenceLength wsX8_referenceLength ({ frames := 8, cells := 1, slots := 6, locals := 131 }) (va_Pc [.ref x, .int p] (zPreX D [(cI, .int)] [(x, .inr (11, [.ref st, .ref lv, .ref nm, .ref lb, .ref lk, .int 0])), (lk, .inr (5, [.ref ls1, .ref ls2, .int 0]))] sz)) (va_Qi (fun _ (_ : Unit) => False) (fun _ _ => True) (va_A [(x, .inr (11, [.ref st, .ref lv, .ref nm, .ref lb, .ref lk, .int 0])), (lk, .inr (5, [.ref ls1, .ref ls2, .int 0]))] sz)) (zX "java/util/NoSuchElementException" (va_A [(x, .inr (11, [.ref st, .ref lv, .ref nm, .ref lb, .ref lk, .int 0])), (lk, .inr (5, [.ref ls1, .ref ls2, .int 0]))] sz)) 1 6 (va_A [(x, .inr (11, [.ref st, .ref lv, .ref nm, .ref lb, .ref lk, .int 0])), (lk, .inr (5, [.ref ls1, .ref ls2, .int 0]))] sz) := by
  refine vx_ofW (cc := cX8_referenceLength) (maxL := 2) (ret := (some .int)) (by decide) rfl ?_
  intro P0 E0 s m args below meth C9 s₁ B hml hout hv
  obtain ⟨rfl, ⟨hsz, hP, hK, hD0⟩, ⟨hU, hN⟩, hKB⟩ := hv
  have hx := B.exec
  have hb := B.bytes
  have hr := B.returns
  have hts := atoms_spec (ws := wsX8_referenceLength) B.pre
  have hown : s.vm.findClass RX8 = some m.cls := findClass_of_methodNamed B.named
  have hlocks := B.notSynchronized
  subst hsz
  have hD := hD0.self (sz := s.heap.size)
  generalize hAe : va_A [(x, .inr (11, [.ref st, .ref lv, .ref nm, .ref lb, .ref lk, .int 0])), (lk, .inr (5, [.ref ls1, .ref ls2, .int 0]))] s.heap.size = A at hD hU hN ⊢
  have hA : ∀ q : Nat, s.heap.size ≤ q → A q := fun q h => by rw [← hAe]; exact Or.inr h
  have hS : va_S A s.heap s.heap [] := va_S.rf
  have hl := lv_entry ([.ref x, .int p]) (n := 2) (Nat.le_of_ble_eq_true rfl)
  rw [lg_entry_eq]
  generalize (lg_sl ([.ref x, .int p]) ++ List.replicate (2 - (lg_sl ([.ref x, .int p])).length) Slot.unset).toArray = ls at hl ⊢
  have hl : lv_has ls 2 [(0, .ref x), (1, .int p)] := hl
  refine lv_aload_n hx hb dX8_referenceLength_0 rfl (lv_at hl 0 rfl) ?_
  refine lv_iload_n hx hb dX8_referenceLength_1 rfl (lv_at hl 1 rfl) ?_
  refine zc_x (wc := [(x, .inr (11, [.ref st, .ref lv, .ref nm, .ref lb, .ref lk, .int 0])), (lk, .inr (5, [.ref ls1, .ref ls2, .int 0]))]) (wr := []) (fun st v t h => by obtain ⟨h1, -⟩ := h; obtain ⟨u, -, h2, -⟩ := h1; exact h2) (vx_runV (As := [.int p]) (rest := []) ⟨hx, hb, hml, hown, hts⟩ (x_reqWhole l D cI x st lv nm lb lk ls1 ls2 p s.heap.size hst) (cwV 1 hts gX8_referenceLength_X8_requireWhole rfl rfl rfl (by decide +kernel) ⟨Nat.le_of_ble_eq_true rfl, Nat.le_of_ble_eq_true rfl⟩) (zPVX ⟨hU, hN⟩ hKB hS hA hK hP hD [0, 1] rfl rfl [0] rfl 0 rfl rfl rfl) rfl rfl hl.1 rfl (lv_room (Nat.le_of_ble_eq_true rfl)) dX8_referenceLength_2 ⟨Nat.le_of_ble_eq_true rfl, Nat.le_of_ble_eq_true rfl⟩) hP hD hS hA [0, 1] [] rfl rfl rfl (by decide) (fun ce q9 H locs hP hD hS hce hcv hcl => ?_)
  exact vx_out (fun x h => (hout x h).elim) hlocks hce hcv hcl (fun t ht hvm => ⟨(), trivial, rfl, hS.F ht⟩) hS.2.2 (Nat.le_refl _) (Nat.le_refl _)

set_option maxHeartbeats 4000000 in
set_option maxRecDepth 100000 in
theorem x_referenceAt (l : Launch) (D : va_G) (cI : ClassId) (x st lv nm lb lk ls1 ls2 : Nat) (p q : Int32) (sz : Nat) (hst : l.stackTraces = false) : vx_Met l yX8_referenceAt wsX8_referenceAt ({ frames := 8, cells := 1, slots := 6, locals := 131 }) (va_Pc [.ref x, .int p, .int q] (zPreX D [(cI, .int)] [(x, .inr (11, [.ref st, .ref lv, .ref nm, .ref lb, .ref lk, .int 0])), (lk, .inr (5, [.ref ls1, .ref ls2, .int 0]))] sz)) (va_Qi (fun _ (_ : Unit) => False) (fun _ _ => True) (va_A [(x, .inr (11, [.ref st, .ref lv, .ref nm, .ref lb, .ref lk, .int 0])), (lk, .inr (5, [.ref ls1, .ref ls2, .int 0]))] sz)) (zX "java/util/NoSuchElementException" (va_A [(x, .inr (11, [.ref st, .ref lv, .ref nm, .ref lb, .ref lk, .int 0])), (lk, .inr (5, [.ref ls1, .ref ls2, .int 0]))] sz)) 1 6 (va_A [(x, .inr (11, [.ref st, .ref lv, .ref nm, .ref lb, .ref lk, .int 0])), (lk, .inr (5, [.ref ls1, .ref ls2, .int 0]))] sz) := by
  refine vx_ofW (cc := cX8_referenceAt) (maxL := 3) (ret := (some .char)) (by decide) rfl ?_
  intro P0 E0 s m args below meth C9 s₁ B hml hout hv
  obtain ⟨rfl, ⟨hsz, hP, hK, hD0⟩, ⟨hU, hN⟩, hKB⟩ := hv
  have hx := B.exec
  have hb := B.bytes
  have hr := B.returns
  have hts := atoms_spec (ws := wsX8_referenceAt) B.pre
  have hown : s.vm.findClass RX8 = some m.cls := findClass_of_methodNamed B.named
  have hlocks := B.notSynchronized
  subst hsz
  have hD := hD0.self (sz := s.heap.size)
  generalize hAe : va_A [(x, .inr (11, [.ref st, .ref lv, .ref nm, .ref lb, .ref lk, .int 0])), (lk, .inr (5, [.ref ls1, .ref ls2, .int 0]))] s.heap.size = A at hD hU hN ⊢
  have hA : ∀ q : Nat, s.heap.size ≤ q → A q := fun q h => by rw [← hAe]; exact Or.inr h
  have hS : va_S A s.heap s.heap [] := va_S.rf
  have hl := lv_entry ([.ref x, .int p, .int q]) (n := 3) (Nat.le_of_ble_eq_true rfl)
  rw [lg_entry_eq]
  generalize (lg_sl ([.ref x, .int p, .int q]) ++ List.replicate (3 - (lg_sl ([.ref x, .int p, .int q])).length) Slot.unset).toArray = ls at hl ⊢
  have hl : lv_has ls 3 [(0, .ref x), (1, .int p), (2, .int q)] := hl
  refine lv_aload_n hx hb dX8_referenceAt_0 rfl (lv_at hl 0 rfl) ?_
  refine lv_iload_n hx hb dX8_referenceAt_1 rfl (lv_at hl 1 rfl) ?_
  refine zc_x (wc := [(x, .inr (11, [.ref st, .ref lv, .ref nm, .ref lb, .ref lk, .int 0])), (lk, .inr (5, [.ref ls1, .ref ls2, .int 0]))]) (wr := []) (fun st v t h => by obtain ⟨h1, -⟩ := h; obtain ⟨u, -, h2, -⟩ := h1; exact h2) (vx_runV (As := [.int p]) (rest := []) ⟨hx, hb, hml, hown, hts⟩ (x_reqWhole l D cI x st lv nm lb lk ls1 ls2 p s.heap.size hst) (cwV 1 hts gX8_referenceAt_X8_requireWhole rfl rfl rfl (by decide +kernel) ⟨Nat.le_of_ble_eq_true rfl, Nat.le_of_ble_eq_true rfl⟩) (zPVX ⟨hU, hN⟩ hKB hS hA hK hP hD [0, 1] rfl rfl [0] rfl 0 rfl rfl rfl) rfl rfl hl.1 rfl (lv_room (Nat.le_of_ble_eq_true rfl)) dX8_referenceAt_2 ⟨Nat.le_of_ble_eq_true rfl, Nat.le_of_ble_eq_true rfl⟩) hP hD hS hA [0, 1] [] rfl rfl rfl (by decide) (fun ce q9 H locs hP hD hS hce hcv hcl => ?_)
  exact vx_out (fun x h => (hout x h).elim) hlocks hce hcv hcl (fun t ht hvm => ⟨(), trivial, rfl, hS.F ht⟩) hS.2.2 (Nat.le_refl _) (Nat.le_refl _)

set_option maxHeartbeats 4000000 in
set_option maxRecDepth 100000 in
theorem k_usamount (l : Launch) (D : va_G) (cI : ClassId) (us ug un : Nat) (sz : Nat) : Met l yX7_amount wsX7_amount ({ frames := 0, cells := 0, slots := 0, locals := 0 }) (va_Pc [.ref us] (zPre D [(cI, .int)] [(us, .inr (10, [.ref ug, .ref un, .int 0]))] sz)) (va_Qi (fun rv (_ : Unit) => rv = 0) (fun (_ : Unit) => zB D [(us, .inr (10, [.ref ug, .ref un, .int 0]))] (va_A [(us, .inr (10, [.ref ug, .ref un, .int 0]))] sz)) (va_A [(us, .inr (10, [.ref ug, .ref un, .int 0]))] sz)) 0 0 (va_A [(us, .inr (10, [.ref ug, .ref un, .int 0]))] sz) := by
  refine Met.ofW (cc := cX7_amount) (maxL := 1) (ret := (some .int)) (by decide) rfl ?_
  intro P0 E0 s m args below meth C9 s₁ B hml hv
  obtain ⟨rfl, hsz, hP, hK, hD0⟩ := hv
  have hx := B.exec
  have hb := B.bytes
  have hr := B.returns
  have hts := atoms_spec (ws := wsX7_amount) B.pre
  have hown : s.vm.findClass RX7 = some m.cls := findClass_of_methodNamed B.named
  have hlocks := B.notSynchronized
  subst hsz
  have hD := hD0.self (sz := s.heap.size)
  generalize hAe : va_A [(us, .inr (10, [.ref ug, .ref un, .int 0]))] s.heap.size = A at hD ⊢
  have hA : ∀ q : Nat, s.heap.size ≤ q → A q := fun q h => by rw [← hAe]; exact Or.inr h
  have hS : va_S A s.heap s.heap [] := va_S.rf
  have hl := lv_entry ([.ref us]) (n := 1) (Nat.le_of_ble_eq_true rfl)
  rw [lg_entry_eq]
  generalize (lg_sl ([.ref us]) ++ List.replicate (1 - (lg_sl ([.ref us])).length) Slot.unset).toArray = ls at hl ⊢
  have hl : lv_has ls 1 [(0, .ref us)] := hl
  refine lv_aload_n hx hb dX7_amount_0 rfl (lv_at hl 0 rfl) ?_
  refine va_get (D := D) (ci := 10) (v := .int 0) (C := RX7) (T := TX7) (N := 3) hx hb hts (fun _ h => List.mem_cons_of_mem _ (List.mem_append_right _ h)) hown hK hP 0 rfl rfl 2 (by decide) (hts (.fieldLink RX7 23 "NumberingTree$Used" "amount" "I") (List.mem_of_getElem? (i := 1) rfl)) (fun _ h9 => h9) rfl dX7_amount_1 ?_
  obtain ⟨hP9, hD9⟩ := z_get hP hD [0] (wc := [(us, .inr (10, [.ref ug, .ref un, .int 0]))]) rfl rfl
  exact W.iret (v := 0) hx hb hr (fun t ht hW => ⟨⟨0, (), rfl, rfl, by rw [ht]; exact hP9, hD9⟩, hS.F ht⟩) hS.2.2 dX7_amount_4

set_option maxHeartbeats 4000000 in
set_option maxRecDepth 100000 in
theorem k_usedAmount (l : Launch) (D : va_G) (cI : ClassId) (nm st lv us gr nu lt li fx sr rs wk ug un : Nat) (sz : Nat) : Met l yX3_usedAmount wsX3_usedAmount ({ frames := 1, cells := 0, slots := 0, locals := 20 }) (va_Pc [.ref nm] (zPre D [(cI, .int)] [(nm, .inr (6, [.ref st, .ref lv, .ref us, .ref gr, .ref nu, .ref lt, .ref li, .ref fx, .ref sr, .ref rs, .ref wk, .int 0, .int 0])), (us, .inr (10, [.ref ug, .ref un, .int 0]))] sz)) (va_Qi (fun rv (_ : Unit) => rv = 0) (fun (_ : Unit) => zB D [(nm, .inr (6, [.ref st, .ref lv, .ref us, .ref gr, .ref nu, .ref lt, .ref li, .ref fx, .ref sr, .ref rs, .ref wk, .int 0, .int 0])), (us, .inr (10, [.ref ug, .ref un, .int 0]))] (va_A [(nm, .inr (6, [.ref st, .ref lv, .ref us, .ref gr, .ref nu, .ref lt, .ref li, .ref fx, .ref sr, .ref rs, .ref wk, .int 0, .int 0])), (us, .inr (10, [.ref ug, .ref un, .int 0]))] sz)) (va_A [(nm, .inr (6, [.ref st, .ref lv, .ref us, .ref gr, .ref nu, .ref lt, .ref li, .ref fx, .ref sr, .ref rs, .ref wk, .int 0, .int 0])), (us, .inr (10, [.ref ug, .ref un, .int 0]))] sz)) 0 0 (va_A [(nm, .inr (6, [.ref st, .ref lv, .ref us, .ref gr, .ref nu, .ref lt, .ref li, .ref fx, .ref sr, .ref rs, .ref wk, .int 0, .int 0])), (us, .inr (10, [.ref ug, .ref un, .int 0]))] sz) := by
  refine Met.ofW (cc := cX3_usedAmount) (maxL := 1) (ret := (some .int)) (by decide) rfl ?_
  intro P0 E0 s m args below meth C9 s₁ B hml hv
  obtain ⟨rfl, hsz, hP, hK, hD0⟩ := hv
  have hx := B.exec
  have hb := B.bytes
  have hr := B.returns
  have hts := atoms_spec (ws := wsX3_usedAmount) B.pre
  have hown : s.vm.findClass RX3 = some m.cls := findClass_of_methodNamed B.named
  have hlocks := B.notSynchronized
  subst hsz
  have hD := hD0.self (sz := s.heap.size)
  generalize hAe : va_A [(nm, .inr (6, [.ref st, .ref lv, .ref us, .ref gr, .ref nu, .ref lt, .ref li, .ref fx, .ref sr, .ref rs, .ref wk, .int 0, .int 0])), (us, .inr (10, [.ref ug, .ref un, .int 0]))] s.heap.size = A at hD ⊢
  have hA : ∀ q : Nat, s.heap.size ≤ q → A q := fun q h => by rw [← hAe]; exact Or.inr h
  have hS : va_S A s.heap s.heap [] := va_S.rf
  have hl := lv_entry ([.ref nm]) (n := 1) (Nat.le_of_ble_eq_true rfl)
  rw [lg_entry_eq]
  generalize (lg_sl ([.ref nm]) ++ List.replicate (1 - (lg_sl ([.ref nm])).length) Slot.unset).toArray = ls at hl ⊢
  have hl : lv_has ls 1 [(0, .ref nm)] := hl
  refine lv_aload_n hx hb dX3_usedAmount_0 rfl (lv_at hl 0 rfl) ?_
  refine va_get (D := D) (ci := 6) (v := .ref us) (C := RX3) (T := TX3) (N := 13) hx hb hts (fun _ h => List.mem_cons_of_mem _ (List.mem_append_left _ (List.mem_append_right _ h))) hown hK hP 0 rfl rfl 2 (by decide) (hts (.fieldLink RX3 12 "NumberingTree$Numbers" "used" "LNumberingTree$Used;") (List.mem_of_getElem? (i := 1) rfl)) (fun _ h9 => h9) rfl dX3_usedAmount_1 ?_
  refine zc_i (wc := [(us, .inr (10, [.ref ug, .ref un, .int 0]))]) (wr := [(nm, .inr (6, [.ref st, .ref lv, .ref us, .ref gr, .ref nu, .ref lt, .ref li, .ref fx, .ref sr, .ref rs, .ref wk, .int 0, .int 0]))]) (va_runV (As := []) (rest := []) ⟨hx, hb, hml, hown, hts⟩ (k_usamount l D cI us ug un s.heap.size) (cwV 0 hts gX3_usedAmount_X7_amount rfl rfl rfl (by decide +kernel) ⟨Nat.le_of_ble_eq_true rfl, Nat.le_of_ble_eq_true rfl⟩) (zPV hK hP hD [1] rfl rfl [0] rfl 0 rfl rfl rfl) rfl rfl hl.1 rfl (lv_room (Nat.le_of_ble_eq_true rfl)) dX3_usedAmount_4 ⟨Nat.le_of_ble_eq_true rfl, Nat.le_of_ble_eq_true rfl⟩) hP hD hS hA [1] [0] rfl rfl rfl (by decide) (fun r _ H locs hw hP hD hS => ?_)
  have hP : va_P D vwCl [(nm, .inr (6, [.ref st, .ref lv, .ref us, .ref gr, .ref nu, .ref lt, .ref li, .ref fx, .ref sr, .ref rs, .ref wk, .int 0, .int 0])), (us, .inr (10, [.ref ug, .ref un, .int 0]))] H := hP
  have hD : va_D A [(nm, .inr (6, [.ref st, .ref lv, .ref us, .ref gr, .ref nu, .ref lt, .ref li, .ref fx, .ref sr, .ref rs, .ref wk, .int 0, .int 0])), (us, .inr (10, [.ref ug, .ref un, .int 0]))] := hD
  subst hw
  obtain ⟨hP9, hD9⟩ := z_get hP hD [0, 1] (wc := [(nm, .inr (6, [.ref st, .ref lv, .ref us, .ref gr, .ref nu, .ref lt, .ref li, .ref fx, .ref sr, .ref rs, .ref wk, .int 0, .int 0])), (us, .inr (10, [.ref ug, .ref un, .int 0]))]) rfl rfl
  exact W.iret (v := 0) hx hb hr (fun t ht hW => ⟨⟨0, (), rfl, rfl, by rw [ht]; exact hP9, hD9⟩, hS.F ht⟩) hS.2.2 dX3_usedAmount_7

set_option maxHeartbeats 4000000 in
set_option maxRecDepth 100000 in
theorem k_used (l : Launch) (D : va_G) (cI : ClassId) (x st lv nm lb lk us gr nu lt li fx sr rs wk ug un : Nat) (sz : Nat) : Met l yX8_used wsX8_used ({ frames := 2, cells := 0, slots := 0, locals := 40 }) (va_Pc [.ref x] (zPre D [(cI, .int)] [(x, .inr (11, [.ref st, .ref lv, .ref nm, .ref lb, .ref lk, .int 0])), (nm, .inr (6, [.ref st, .ref lv, .ref us, .ref gr, .ref nu, .ref lt, .ref li, .ref fx, .ref sr, .ref rs, .ref wk, .int 0, .int 0])), (us, .inr (10, [.ref ug, .ref un, .int 0]))] sz)) (va_Qi (fun rv (_ : Unit) => rv = 0) (fun (_ : Unit) => zB D [] (va_A [(x, .inr (11, [.ref st, .ref lv, .ref nm, .ref lb, .ref lk, .int 0])), (nm, .inr (6, [.ref st, .ref lv, .ref us, .ref gr, .ref nu, .ref lt, .ref li, .ref fx, .ref sr, .ref rs, .ref wk, .int 0, .int 0])), (us, .inr (10, [.ref ug, .ref un, .int 0]))] sz)) (va_A [(x, .inr (11, [.ref st, .ref lv, .ref nm, .ref lb, .ref lk, .int 0])), (nm, .inr (6, [.ref st, .ref lv, .ref us, .ref gr, .ref nu, .ref lt, .ref li, .ref fx, .ref sr, .ref rs, .ref wk, .int 0, .int 0])), (us, .inr (10, [.ref ug, .ref un, .int 0]))] sz)) 0 0 (va_A [(x, .inr (11, [.ref st, .ref lv, .ref nm, .ref lb, .ref lk, .int 0])), (nm, .inr (6, [.ref st, .ref lv, .ref us, .ref gr, .ref nu, .ref lt, .ref li, .ref fx, .ref sr, .ref rs, .ref wk, .int 0, .int 0])), (us, .inr (10, [.ref ug, .ref un, .int 0]))] sz) := by
  refine Met.ofW (cc := cX8_used) (maxL := 1) (ret := (some .int)) (by decide) rfl ?_
  intro P0 E0 s m args below meth C9 s₁ B hml hv
  obtain ⟨rfl, hsz, hP, hK, hD0⟩ := hv
  have hx := B.exec
  have hb := B.bytes
  have hr := B.returns
  have hts := atoms_spec (ws := wsX8_used) B.pre
  have hown : s.vm.findClass RX8 = some m.cls := findClass_of_methodNamed B.named
  have hlocks := B.notSynchronized
  subst hsz
  have hD := hD0.self (sz := s.heap.size)
  generalize hAe : va_A [(x, .inr (11, [.ref st, .ref lv, .ref nm, .ref lb, .ref lk, .int 0])), (nm, .inr (6, [.ref st, .ref lv, .ref us, .ref gr, .ref nu, .ref lt, .ref li, .ref fx, .ref sr, .ref rs, .ref wk, .int 0, .int 0])), (us, .inr (10, [.ref ug, .ref un, .int 0]))] s.heap.size = A at hD ⊢
  have hA : ∀ q : Nat, s.heap.size ≤ q → A q := fun q h => by rw [← hAe]; exact Or.inr h
  have hS : va_S A s.heap s.heap [] := va_S.rf
  have hl := lv_entry ([.ref x]) (n := 1) (Nat.le_of_ble_eq_true rfl)
  rw [lg_entry_eq]
  generalize (lg_sl ([.ref x]) ++ List.replicate (1 - (lg_sl ([.ref x])).length) Slot.unset).toArray = ls at hl ⊢
  have hl : lv_has ls 1 [(0, .ref x)] := hl
  refine lv_aload_n hx hb dX8_used_0 rfl (lv_at hl 0 rfl) ?_
  refine va_get (D := D) (ci := 11) (v := .ref nm) (C := RX8) (T := TX8) (N := 6) hx hb hts (fun _ h => List.mem_cons_of_mem _ (List.mem_append_left _ (List.mem_append_left _ (List.mem_append_right _ h)))) hown hK hP 0 rfl rfl 2 (by decide) (hts (.fieldLink RX8 28 "NumberingTree" "numbers" "LNumberingTree$Numbers;") (List.mem_of_getElem? (i := 1) rfl)) (fun _ h9 => h9) rfl dX8_used_1 ?_
  refine zc_i (wc := [(nm, .inr (6, [.ref st, .ref lv, .ref us, .ref gr, .ref nu, .ref lt, .ref li, .ref fx, .ref sr, .ref rs, .ref wk, .int 0, .int 0])), (us, .inr (10, [.ref ug, .ref un, .int 0]))]) (wr := [(x, .inr (11, [.ref st, .ref lv, .ref nm, .ref lb, .ref lk, .int 0]))]) (va_runV (As := []) (rest := []) ⟨hx, hb, hml, hown, hts⟩ (k_usedAmount l D cI nm st lv us gr nu lt li fx sr rs wk ug un s.heap.size) (cwV 0 hts gX8_used_X3_usedAmount rfl rfl rfl (by decide +kernel) ⟨Nat.le_of_ble_eq_true rfl, Nat.le_of_ble_eq_true rfl⟩) (zPV hK hP hD [1, 2] rfl rfl [0] rfl 0 rfl rfl rfl) rfl rfl hl.1 rfl (lv_room (Nat.le_of_ble_eq_true rfl)) dX8_used_4 ⟨Nat.le_of_ble_eq_true rfl, Nat.le_of_ble_eq_true rfl⟩) hP hD hS hA [1, 2] [0] rfl rfl rfl (by decide) (fun r _ H locs hw hP hD hS => ?_)
  have hP : va_P D vwCl [(x, .inr (11, [.ref st, .ref lv, .ref nm, .ref lb, .ref lk, .int 0])), (nm, .inr (6, [.ref st, .ref lv, .ref us, .ref gr, .ref nu, .ref lt, .ref li, .ref fx, .ref sr, .ref rs, .ref wk, .int 0, .int 0])), (us, .inr (10, [.ref ug, .ref un, .int 0]))] H := hP
  have hD : va_D A [(x, .inr (11, [.ref st, .ref lv, .ref nm, .ref lb, .ref lk, .int 0])), (nm, .inr (6, [.ref st, .ref lv, .ref us, .ref gr, .ref nu, .ref lt, .ref li, .ref fx, .ref sr, .ref rs, .ref wk, .int 0, .int 0])), (us, .inr (10, [.ref ug, .ref un, .int 0]))] := hD
  subst hw
  obtain ⟨hP9, hD9⟩ := z_get hP hD [] (wc := []) rfl rfl
  exact W.iret (v := 0) hx hb hr (fun t ht hW => ⟨⟨0, (), rfl, rfl, by rw [ht]; exact hP9, hD9⟩, hS.F ht⟩) hS.2.2 dX8_used_7

set_option maxHeartbeats 4000000 in
set_option maxRecDepth 100000 in
theorem k_kindAmount (l : Launch) (D : va_G) (cI : ClassId) (x st lv nm lb lk od pp le pa : Nat) (p : Int32) (sz : Nat) : Met l yX8_kindAmount wsX8_kindAmount ({ frames := 1, cells := 0, slots := 0, locals := 20 }) (va_Pc [.ref x, .int p] (zPre D [(cI, .int)] [(x, .inr (11, [.ref st, .ref lv, .ref nm, .ref lb, .ref lk, .int 0])), (st, .inr (8, [.ref od, .ref pp, .ref le, .ref pa, .int 0]))] sz)) (va_Qi (fun rv (_ : Unit) => rv = 0) (fun (_ : Unit) => zB D [(x, .inr (11, [.ref st, .ref lv, .ref nm, .ref lb, .ref lk, .int 0])), (st, .inr (8, [.ref od, .ref pp, .ref le, .ref pa, .int 0]))] (va_A [(x, .inr (11, [.ref st, .ref lv, .ref nm, .ref lb, .ref lk, .int 0])), (st, .inr (8, [.ref od, .ref pp, .ref le, .ref pa, .int 0]))] sz)) (va_A [(x, .inr (11, [.ref st, .ref lv, .ref nm, .ref lb, .ref lk, .int 0])), (st, .inr (8, [.ref od, .ref pp, .ref le, .ref pa, .int 0]))] sz)) 0 0 (va_A [(x, .inr (11, [.ref st, .ref lv, .ref nm, .ref lb, .ref lk, .int 0])), (st, .inr (8, [.ref od, .ref pp, .ref le, .ref pa, .int 0]))] sz) := by
  refine Met.ofW (cc := cX8_kindAmount) (maxL := 4) (ret := (some .int)) (by decide) rfl ?_
  intro P0 E0 s m args below meth C9 s₁ B hml hv
  obtain ⟨rfl, hsz, hP, hK, hD0⟩ := hv
  have hx := B.exec
  have hb := B.bytes
  have hr := B.returns
  have hts := atoms_spec (ws := wsX8_kindAmount) B.pre
  have hown : s.vm.findClass RX8 = some m.cls := findClass_of_methodNamed B.named
  have hlocks := B.notSynchronized
  subst hsz
  have hD := hD0.self (sz := s.heap.size)
  generalize hAe : va_A [(x, .inr (11, [.ref st, .ref lv, .ref nm, .ref lb, .ref lk, .int 0])), (st, .inr (8, [.ref od, .ref pp, .ref le, .ref pa, .int 0]))] s.heap.size = A at hD ⊢
  have hA : ∀ q : Nat, s.heap.size ≤ q → A q := fun q h => by rw [← hAe]; exact Or.inr h
  have hS : va_S A s.heap s.heap [] := va_S.rf
  have hl := lv_entry ([.ref x, .int p]) (n := 4) (Nat.le_of_ble_eq_true rfl)
  rw [lg_entry_eq]
  generalize (lg_sl ([.ref x, .int p]) ++ List.replicate (4 - (lg_sl ([.ref x, .int p])).length) Slot.unset).toArray = ls at hl ⊢
  have hl : lv_has ls 4 [(0, .ref x), (1, .int p)] := hl
  refine lv_iconst (v := 0) hx hb dX8_kindAmount_0 (by decide) ?_
  refine lv_istore_n (lv' := [(2, .int 0), (0, .ref x), (1, .int p)]) hx hb dX8_kindAmount_1 rfl hl (by decide) rfl (fun ls hl => ?_)
  refine lv_iconst (v := 0) hx hb dX8_kindAmount_2 (by decide) ?_
  refine lv_istore_n (lv' := [(3, .int 0), (2, .int 0), (0, .ref x), (1, .int p)]) hx hb dX8_kindAmount_3 rfl hl (by decide) rfl (fun ls hl => ?_)
  refine lv_iload_n hx hb dX8_kindAmount_4 rfl (lv_at hl 0 rfl) ?_
  refine lv_aload_n hx hb dX8_kindAmount_5 rfl (lv_at hl 2 rfl) ?_
  refine va_get (D := D) (ci := 11) (v := .ref st) (C := RX8) (T := TX8) (N := 6) hx hb hts (fun _ h => List.mem_cons_of_mem _ (List.mem_append_left _ (List.mem_append_left _ (List.mem_append_left _ (List.mem_append_left _ (List.mem_append_right _ h)))))) hown hK hP 0 rfl rfl 0 (by decide) (hts (.fieldLink RX8 10 "NumberingTree" "standing" "LNumberingTree$Standing;") (List.mem_of_getElem? (i := 1) rfl)) (fun _ h9 => h9) rfl dX8_kindAmount_6 ?_
  refine zc_i (wc := [(st, .inr (8, [.ref od, .ref pp, .ref le, .ref pa, .int 0]))]) (wr := [(x, .inr (11, [.ref st, .ref lv, .ref nm, .ref lb, .ref lk, .int 0]))]) (va_runV (As := []) (rest := [.int 0]) ⟨hx, hb, hml, hown, hts⟩ (k_amount l D cI st od pp le pa 0 s.heap.size) (cwV 0 hts gX8_kindAmount_X5_amount rfl rfl rfl (by decide +kernel) ⟨Nat.le_of_ble_eq_true rfl, Nat.le_of_ble_eq_true rfl⟩) (zPV hK hP hD [1] rfl rfl [0] rfl 0 rfl rfl rfl) rfl rfl hl.1 rfl (lv_room (Nat.le_of_ble_eq_true rfl)) dX8_kindAmount_9 ⟨Nat.le_of_ble_eq_true rfl, Nat.le_of_ble_eq_true rfl⟩) hP hD hS hA [1] [0] rfl rfl rfl (by decide) (fun r _ H locs hw hP hD hS => ?_)
  have hP : va_P D vwCl [(x, .inr (11, [.ref st, .ref lv, .ref nm, .ref lb, .ref lk, .int 0])), (st, .inr (8, [.ref od, .ref pp, .ref le, .ref pa, .int 0]))] H := hP
  have hD : va_D A [(x, .inr (11, [.ref st, .ref lv, .ref nm, .ref lb, .ref lk, .int 0])), (st, .inr (8, [.ref od, .ref pp, .ref le, .ref pa, .int 0]))] := hD
  subst hw
  refine lv_icmp_ge (tgt := 40) hx hb dX8_kindAmount_12 (by decide) (fun _ => ?_) (fun q => absurd q (by decide))
  refine lv_iload_n hx hb dX8_kindAmount_40 rfl (lv_at hl 1 rfl) ?_
  obtain ⟨hP9, hD9⟩ := z_get hP hD [0, 1] (wc := [(x, .inr (11, [.ref st, .ref lv, .ref nm, .ref lb, .ref lk, .int 0])), (st, .inr (8, [.ref od, .ref pp, .ref le, .ref pa, .int 0]))]) rfl rfl
  exact W.iret (v := 0) hx hb hr (fun t ht hW => ⟨⟨0, (), rfl, rfl, by rw [ht]; exact hP9, hD9⟩, hS.F ht⟩) hS.2.2 dX8_kindAmount_41

set_option maxHeartbeats 4000000 in
set_option maxRecDepth 100000 in
theorem k_count (l : Launch) (D : va_G) (cI : ClassId) (x st lv nm lb lk od pp le pa : Nat) (p : Int32) (sz : Nat) (hp : zKi p) : Met l yX8_count wsX8_count ({ frames := 2, cells := 0, slots := 0, locals := 43 }) (va_Pc [.ref x, .int p] (zPre D [(cI, .int)] [(x, .inr (11, [.ref st, .ref lv, .ref nm, .ref lb, .ref lk, .int 0])), (st, .inr (8, [.ref od, .ref pp, .ref le, .ref pa, .int 0]))] sz)) (va_Qi (fun rv (_ : Unit) => rv = 0) (fun (_ : Unit) => zB D [] (va_A [(x, .inr (11, [.ref st, .ref lv, .ref nm, .ref lb, .ref lk, .int 0])), (st, .inr (8, [.ref od, .ref pp, .ref le, .ref pa, .int 0]))] sz)) (va_A [(x, .inr (11, [.ref st, .ref lv, .ref nm, .ref lb, .ref lk, .int 0])), (st, .inr (8, [.ref od, .ref pp, .ref le, .ref pa, .int 0]))] sz)) 0 0 (va_A [(x, .inr (11, [.ref st, .ref lv, .ref nm, .ref lb, .ref lk, .int 0])), (st, .inr (8, [.ref od, .ref pp, .ref le, .ref pa, .int 0]))] sz) := by
  refine Met.ofW (cc := cX8_count) (maxL := 2) (ret := (some .int)) (by decide) rfl ?_
  intro P0 E0 s m args below meth C9 s₁ B hml hv
  obtain ⟨rfl, hsz, hP, hK, hD0⟩ := hv
  have hx := B.exec
  have hb := B.bytes
  have hr := B.returns
  have hts := atoms_spec (ws := wsX8_count) B.pre
  have hown : s.vm.findClass RX8 = some m.cls := findClass_of_methodNamed B.named
  have hlocks := B.notSynchronized
  subst hsz
  have hD := hD0.self (sz := s.heap.size)
  generalize hAe : va_A [(x, .inr (11, [.ref st, .ref lv, .ref nm, .ref lb, .ref lk, .int 0])), (st, .inr (8, [.ref od, .ref pp, .ref le, .ref pa, .int 0]))] s.heap.size = A at hD ⊢
  have hA : ∀ q : Nat, s.heap.size ≤ q → A q := fun q h => by rw [← hAe]; exact Or.inr h
  have hS : va_S A s.heap s.heap [] := va_S.rf
  have hl := lv_entry ([.ref x, .int p]) (n := 2) (Nat.le_of_ble_eq_true rfl)
  rw [lg_entry_eq]
  generalize (lg_sl ([.ref x, .int p]) ++ List.replicate (2 - (lg_sl ([.ref x, .int p])).length) Slot.unset).toArray = ls at hl ⊢
  have hl : lv_has ls 2 [(0, .ref x), (1, .int p)] := hl
  refine lv_iload_n hx hb dX8_count_0 rfl (lv_at hl 1 rfl) ?_
  refine lv_bipush (v := 112) hx hb dX8_count_1 (by decide) ?_
  refine lv_icmp_eq (tgt := 26) hx hb dX8_count_3 (by decide) (fun c1 => ?_) (fun c1 => ?_)
  · refine lv_aload_n hx hb dX8_count_26 rfl (lv_at hl 0 rfl) ?_
    refine lv_iload_n hx hb dX8_count_27 rfl (lv_at hl 1 rfl) ?_
    refine zc_i (wc := [(x, .inr (11, [.ref st, .ref lv, .ref nm, .ref lb, .ref lk, .int 0])), (st, .inr (8, [.ref od, .ref pp, .ref le, .ref pa, .int 0]))]) (wr := []) (va_runV (As := [.int p]) (rest := []) ⟨hx, hb, hml, hown, hts⟩ (k_kindAmount l D cI x st lv nm lb lk od pp le pa p s.heap.size) (cwV 1 hts gX8_count_X8_kindAmount rfl rfl rfl (by decide +kernel) ⟨Nat.le_of_ble_eq_true rfl, Nat.le_of_ble_eq_true rfl⟩) (zPV hK hP hD [0, 1] rfl rfl [0] rfl 0 rfl rfl rfl) rfl rfl hl.1 rfl (lv_room (Nat.le_of_ble_eq_true rfl)) dX8_count_28 ⟨Nat.le_of_ble_eq_true rfl, Nat.le_of_ble_eq_true rfl⟩) hP hD hS hA [0, 1] [] rfl rfl rfl (by decide) (fun r _ H locs hw hP hD hS => ?_)
    have hP : va_P D vwCl [(x, .inr (11, [.ref st, .ref lv, .ref nm, .ref lb, .ref lk, .int 0])), (st, .inr (8, [.ref od, .ref pp, .ref le, .ref pa, .int 0]))] H := hP
    have hD : va_D A [(x, .inr (11, [.ref st, .ref lv, .ref nm, .ref lb, .ref lk, .int 0])), (st, .inr (8, [.ref od, .ref pp, .ref le, .ref pa, .int 0]))] := hD
    subst hw
    obtain ⟨hP9, hD9⟩ := z_get hP hD [] (wc := []) rfl rfl
    exact W.iret (v := 0) hx hb hr (fun t ht hW => ⟨⟨0, (), rfl, rfl, by rw [ht]; exact hP9, hD9⟩, hS.F ht⟩) hS.2.2 dX8_count_31
  · refine lv_iload_n hx hb dX8_count_6 rfl (lv_at hl 1 rfl) ?_
    refine lv_bipush (v := 102) hx hb dX8_count_7 (by decide) ?_
    refine lv_icmp_eq (tgt := 26) hx hb dX8_count_9 (by decide) (fun c2 => ?_) (fun c2 => ?_)
    · refine lv_aload_n hx hb dX8_count_26 rfl (lv_at hl 0 rfl) ?_
      refine lv_iload_n hx hb dX8_count_27 rfl (lv_at hl 1 rfl) ?_
      refine zc_i (wc := [(x, .inr (11, [.ref st, .ref lv, .ref nm, .ref lb, .ref lk, .int 0])), (st, .inr (8, [.ref od, .ref pp, .ref le, .ref pa, .int 0]))]) (wr := []) (va_runV (As := [.int p]) (rest := []) ⟨hx, hb, hml, hown, hts⟩ (k_kindAmount l D cI x st lv nm lb lk od pp le pa p s.heap.size) (cwV 1 hts gX8_count_X8_kindAmount rfl rfl rfl (by decide +kernel) ⟨Nat.le_of_ble_eq_true rfl, Nat.le_of_ble_eq_true rfl⟩) (zPV hK hP hD [0, 1] rfl rfl [0] rfl 0 rfl rfl rfl) rfl rfl hl.1 rfl (lv_room (Nat.le_of_ble_eq_true rfl)) dX8_count_28 ⟨Nat.le_of_ble_eq_true rfl, Nat.le_of_ble_eq_true rfl⟩) hP hD hS hA [0, 1] [] rfl rfl rfl (by decide) (fun r _ H locs hw hP hD hS => ?_)
      have hP : va_P D vwCl [(x, .inr (11, [.ref st, .ref lv, .ref nm, .ref lb, .ref lk, .int 0])), (st, .inr (8, [.ref od, .ref pp, .ref le, .ref pa, .int 0]))] H := hP
      have hD : va_D A [(x, .inr (11, [.ref st, .ref lv, .ref nm, .ref lb, .ref lk, .int 0])), (st, .inr (8, [.ref od, .ref pp, .ref le, .ref pa, .int 0]))] := hD
      subst hw
      obtain ⟨hP9, hD9⟩ := z_get hP hD [] (wc := []) rfl rfl
      exact W.iret (v := 0) hx hb hr (fun t ht hW => ⟨⟨0, (), rfl, rfl, by rw [ht]; exact hP9, hD9⟩, hS.F ht⟩) hS.2.2 dX8_count_31
    · refine lv_iload_n hx hb dX8_count_12 rfl (lv_at hl 1 rfl) ?_
      refine lv_bipush (v := 111) hx hb dX8_count_13 (by decide) ?_
      refine lv_icmp_eq (tgt := 26) hx hb dX8_count_15 (by decide) (fun _ => ?_) (fun q => absurd q (fun h => hp.elim c1 (fun z => z.elim c2 h)))
      refine lv_aload_n hx hb dX8_count_26 rfl (lv_at hl 0 rfl) ?_
      refine lv_iload_n hx hb dX8_count_27 rfl (lv_at hl 1 rfl) ?_
      refine zc_i (wc := [(x, .inr (11, [.ref st, .ref lv, .ref nm, .ref lb, .ref lk, .int 0])), (st, .inr (8, [.ref od, .ref pp, .ref le, .ref pa, .int 0]))]) (wr := []) (va_runV (As := [.int p]) (rest := []) ⟨hx, hb, hml, hown, hts⟩ (k_kindAmount l D cI x st lv nm lb lk od pp le pa p s.heap.size) (cwV 1 hts gX8_count_X8_kindAmount rfl rfl rfl (by decide +kernel) ⟨Nat.le_of_ble_eq_true rfl, Nat.le_of_ble_eq_true rfl⟩) (zPV hK hP hD [0, 1] rfl rfl [0] rfl 0 rfl rfl rfl) rfl rfl hl.1 rfl (lv_room (Nat.le_of_ble_eq_true rfl)) dX8_count_28 ⟨Nat.le_of_ble_eq_true rfl, Nat.le_of_ble_eq_true rfl⟩) hP hD hS hA [0, 1] [] rfl rfl rfl (by decide) (fun r _ H locs hw hP hD hS => ?_)
      have hP : va_P D vwCl [(x, .inr (11, [.ref st, .ref lv, .ref nm, .ref lb, .ref lk, .int 0])), (st, .inr (8, [.ref od, .ref pp, .ref le, .ref pa, .int 0]))] H := hP
      have hD : va_D A [(x, .inr (11, [.ref st, .ref lv, .ref nm, .ref lb, .ref lk, .int 0])), (st, .inr (8, [.ref od, .ref pp, .ref le, .ref pa, .int 0]))] := hD
      subst hw
      obtain ⟨hP9, hD9⟩ := z_get hP hD [] (wc := []) rfl rfl
      exact W.iret (v := 0) hx hb hr (fun t ht hW => ⟨⟨0, (), rfl, rfl, by rw [ht]; exact hP9, hD9⟩, hS.F ht⟩) hS.2.2 dX8_count_31

set_option maxHeartbeats 4000000 in
set_option maxRecDepth 100000 in
theorem x_count (l : Launch) (D : va_G) (cI : ClassId) (x st lv nm lb lk : Nat) (p : Int32) (sz : Nat) (hst : l.stackTraces = false) (hp : ¬ zKi p) : vx_Met l yX8_count wsX8_count ({ frames := 6, cells := 1, slots := 6, locals := 89 }) (va_Pc [.ref x, .int p] (zPreX D [(cI, .int)] [(x, .inr (11, [.ref st, .ref lv, .ref nm, .ref lb, .ref lk, .int 0]))] sz)) (va_Qi (fun _ (_ : Unit) => False) (fun _ _ => True) (va_A [(x, .inr (11, [.ref st, .ref lv, .ref nm, .ref lb, .ref lk, .int 0]))] sz)) (zX "java/lang/IllegalArgumentException" (va_A [(x, .inr (11, [.ref st, .ref lv, .ref nm, .ref lb, .ref lk, .int 0]))] sz)) 1 6 (va_A [(x, .inr (11, [.ref st, .ref lv, .ref nm, .ref lb, .ref lk, .int 0]))] sz) := by
  refine vx_ofW (cc := cX8_count) (maxL := 2) (ret := (some .int)) (by decide) rfl ?_
  intro P0 E0 s m args below meth C9 s₁ B hml hout hv
  obtain ⟨rfl, ⟨hsz, hP, hK, hD0⟩, ⟨hU, hN⟩, hKB⟩ := hv
  have hx := B.exec
  have hb := B.bytes
  have hr := B.returns
  have hts := atoms_spec (ws := wsX8_count) B.pre
  have hown : s.vm.findClass RX8 = some m.cls := findClass_of_methodNamed B.named
  have hlocks := B.notSynchronized
  subst hsz
  have hD := hD0.self (sz := s.heap.size)
  generalize hAe : va_A [(x, .inr (11, [.ref st, .ref lv, .ref nm, .ref lb, .ref lk, .int 0]))] s.heap.size = A at hD hU hN ⊢
  have hA : ∀ q : Nat, s.heap.size ≤ q → A q := fun q h => by rw [← hAe]; exact Or.inr h
  have hS : va_S A s.heap s.heap [] := va_S.rf
  have hl := lv_entry ([.ref x, .int p]) (n := 2) (Nat.le_of_ble_eq_true rfl)
  rw [lg_entry_eq]
  generalize (lg_sl ([.ref x, .int p]) ++ List.replicate (2 - (lg_sl ([.ref x, .int p])).length) Slot.unset).toArray = ls at hl ⊢
  have hl : lv_has ls 2 [(0, .ref x), (1, .int p)] := hl
  refine lv_iload_n hx hb dX8_count_0 rfl (lv_at hl 1 rfl) ?_
  refine lv_bipush (v := 112) hx hb dX8_count_1 (by decide) ?_
  refine lv_icmp_eq (tgt := 26) hx hb dX8_count_3 (by decide) (fun q => absurd q (fun h => hp (Or.inl h))) (fun _ => ?_)
  refine lv_iload_n hx hb dX8_count_6 rfl (lv_at hl 1 rfl) ?_
  refine lv_bipush (v := 102) hx hb dX8_count_7 (by decide) ?_
  refine lv_icmp_eq (tgt := 26) hx hb dX8_count_9 (by decide) (fun q => absurd q (fun h => hp (Or.inr (Or.inl h)))) (fun _ => ?_)
  refine lv_iload_n hx hb dX8_count_12 rfl (lv_at hl 1 rfl) ?_
  refine lv_bipush (v := 111) hx hb dX8_count_13 (by decide) ?_
  refine lv_icmp_eq (tgt := 26) hx hb dX8_count_15 (by decide) (fun q => absurd q (fun h => hp (Or.inr (Or.inr h)))) (fun _ => ?_)
  exact vx_throw0 (own := RX8) (cls := "java/lang/IllegalArgumentException") (names := ["java/lang/RuntimeException", "java/lang/Exception"]) (ik := 52) (ic := 54) hx hb hst hown (by decide +kernel) (by decide +kernel) (hts (.classLink RX8 52 "java/lang/IllegalArgumentException") (List.mem_of_getElem? (i := 1) rfl)) (hts (.initialized "java/lang/IllegalArgumentException") (List.mem_of_getElem? (i := 2) rfl)) (zhat0 (fun w h => hts w ((fun _ h => List.mem_cons_of_mem _ (List.mem_append_left _ (List.mem_append_right _ h))) w h)) hKB (by decide +kernel)) (by decide +kernel) hU hN hS (hl.1.trans hml.symm) dX8_count_18 dX8_count_21 dX8_count_22 dX8_count_25 (fun x h => (hout x h).elim) (Nat.lt_of_succ_le (Nat.le_of_ble_eq_true rfl)) (Nat.le_of_ble_eq_true rfl) (Nat.le_of_ble_eq_true rfl) (Nat.le_of_ble_eq_true rfl) hlocks (fun t hvm hz hk => ⟨(), trivial, rfl, zF_throw hS hz hk⟩) hS.2.2 (Nat.le_of_ble_eq_true rfl) (Nat.le_of_ble_eq_true rfl)

set_option maxHeartbeats 4000000 in
set_option maxRecDepth 100000 in
theorem k_numberedAmount (l : Launch) (D : va_G) (cI : ClassId) (x st lv nm lb lk od pp le pa : Nat) (sz : Nat) : Met l yX8_numberedAmount wsX8_numberedAmount ({ frames := 2, cells := 0, slots := 0, locals := 43 }) (va_Pc [.ref x] (zPre D [(cI, .int)] [(x, .inr (11, [.ref st, .ref lv, .ref nm, .ref lb, .ref lk, .int 0])), (st, .inr (8, [.ref od, .ref pp, .ref le, .ref pa, .int 0]))] sz)) (va_Qi (fun rv (_ : Unit) => rv = 0) (fun (_ : Unit) => zB D [(x, .inr (11, [.ref st, .ref lv, .ref nm, .ref lb, .ref lk, .int 0])), (st, .inr (8, [.ref od, .ref pp, .ref le, .ref pa, .int 0]))] (va_A [(x, .inr (11, [.ref st, .ref lv, .ref nm, .ref lb, .ref lk, .int 0])), (st, .inr (8, [.ref od, .ref pp, .ref le, .ref pa, .int 0]))] sz)) (va_A [(x, .inr (11, [.ref st, .ref lv, .ref nm, .ref lb, .ref lk, .int 0])), (st, .inr (8, [.ref od, .ref pp, .ref le, .ref pa, .int 0]))] sz)) 0 0 (va_A [(x, .inr (11, [.ref st, .ref lv, .ref nm, .ref lb, .ref lk, .int 0])), (st, .inr (8, [.ref od, .ref pp, .ref le, .ref pa, .int 0]))] sz) := by
  refine Met.ofW (cc := cX8_numberedAmount) (maxL := 1) (ret := (some .int)) (by decide) rfl ?_
  intro P0 E0 s m args below meth C9 s₁ B hml hv
  obtain ⟨rfl, hsz, hP, hK, hD0⟩ := hv
  have hx := B.exec
  have hb := B.bytes
  have hr := B.returns
  have hts := atoms_spec (ws := wsX8_numberedAmount) B.pre
  have hown : s.vm.findClass RX8 = some m.cls := findClass_of_methodNamed B.named
  have hlocks := B.notSynchronized
  subst hsz
  have hD := hD0.self (sz := s.heap.size)
  generalize hAe : va_A [(x, .inr (11, [.ref st, .ref lv, .ref nm, .ref lb, .ref lk, .int 0])), (st, .inr (8, [.ref od, .ref pp, .ref le, .ref pa, .int 0]))] s.heap.size = A at hD ⊢
  have hA : ∀ q : Nat, s.heap.size ≤ q → A q := fun q h => by rw [← hAe]; exact Or.inr h
  have hS : va_S A s.heap s.heap [] := va_S.rf
  have hl := lv_entry ([.ref x]) (n := 1) (Nat.le_of_ble_eq_true rfl)
  rw [lg_entry_eq]
  generalize (lg_sl ([.ref x]) ++ List.replicate (1 - (lg_sl ([.ref x])).length) Slot.unset).toArray = ls at hl ⊢
  have hl : lv_has ls 1 [(0, .ref x)] := hl
  refine lv_aload_n hx hb dX8_numberedAmount_0 rfl (lv_at hl 0 rfl) ?_
  refine va_get (D := D) (ci := 11) (v := .ref st) (C := RX8) (T := TX8) (N := 6) hx hb hts (fun _ h => List.mem_cons_of_mem _ (List.mem_append_left _ (List.mem_append_left _ (List.mem_append_left _ (List.mem_append_left _ (List.mem_append_right _ h)))))) hown hK hP 0 rfl rfl 0 (by decide) (hts (.fieldLink RX8 10 "NumberingTree" "standing" "LNumberingTree$Standing;") (List.mem_of_getElem? (i := 1) rfl)) (fun _ h9 => h9) rfl dX8_numberedAmount_1 ?_
  refine zc_i (wc := [(st, .inr (8, [.ref od, .ref pp, .ref le, .ref pa, .int 0]))]) (wr := [(x, .inr (11, [.ref st, .ref lv, .ref nm, .ref lb, .ref lk, .int 0]))]) (va_runV (As := []) (rest := []) ⟨hx, hb, hml, hown, hts⟩ (k_amount l D cI st od pp le pa 0 s.heap.size) (cwV 0 hts gX8_numberedAmount_X5_amount rfl rfl rfl (by decide +kernel) ⟨Nat.le_of_ble_eq_true rfl, Nat.le_of_ble_eq_true rfl⟩) (zPV hK hP hD [1] rfl rfl [0] rfl 0 rfl rfl rfl) rfl rfl hl.1 rfl (lv_room (Nat.le_of_ble_eq_true rfl)) dX8_numberedAmount_4 ⟨Nat.le_of_ble_eq_true rfl, Nat.le_of_ble_eq_true rfl⟩) hP hD hS hA [1] [0] rfl rfl rfl (by decide) (fun r _ H locs hw hP hD hS => ?_)
  have hP : va_P D vwCl [(x, .inr (11, [.ref st, .ref lv, .ref nm, .ref lb, .ref lk, .int 0])), (st, .inr (8, [.ref od, .ref pp, .ref le, .ref pa, .int 0]))] H := hP
  have hD : va_D A [(x, .inr (11, [.ref st, .ref lv, .ref nm, .ref lb, .ref lk, .int 0])), (st, .inr (8, [.ref od, .ref pp, .ref le, .ref pa, .int 0]))] := hD
  subst hw
  refine lv_aload_n hx hb dX8_numberedAmount_7 rfl (lv_at hl 0 rfl) ?_
  refine lv_bipush (v := 112) hx hb dX8_numberedAmount_8 (by decide) ?_
  refine zc_i (wc := [(x, .inr (11, [.ref st, .ref lv, .ref nm, .ref lb, .ref lk, .int 0])), (st, .inr (8, [.ref od, .ref pp, .ref le, .ref pa, .int 0]))]) (wr := []) (va_runV (As := [.int 112]) (rest := [.int 0]) ⟨hx, hb, hml, hown, hts⟩ (k_kindAmount l D cI x st lv nm lb lk od pp le pa 112 H.size) (cwV 1 hts gX8_numberedAmount_X8_kindAmount rfl rfl rfl (by decide +kernel) ⟨Nat.le_of_ble_eq_true rfl, Nat.le_of_ble_eq_true rfl⟩) (zPV hK hP hD [0, 1] rfl rfl [0] rfl 0 rfl rfl rfl) rfl rfl hl.1 rfl (lv_room (Nat.le_of_ble_eq_true rfl)) dX8_numberedAmount_10 ⟨Nat.le_of_ble_eq_true rfl, Nat.le_of_ble_eq_true rfl⟩) hP hD hS hA [0, 1] [] rfl rfl rfl (by decide) (fun r _ H locs hw hP hD hS => ?_)
  have hP : va_P D vwCl [(x, .inr (11, [.ref st, .ref lv, .ref nm, .ref lb, .ref lk, .int 0])), (st, .inr (8, [.ref od, .ref pp, .ref le, .ref pa, .int 0]))] H := hP
  have hD : va_D A [(x, .inr (11, [.ref st, .ref lv, .ref nm, .ref lb, .ref lk, .int 0])), (st, .inr (8, [.ref od, .ref pp, .ref le, .ref pa, .int 0]))] := hD
  subst hw
  refine lv_isub hx hb dX8_numberedAmount_13 ?_
  refine zt_i 0 (by decide) ?_
  obtain ⟨hP9, hD9⟩ := z_get hP hD [0, 1] (wc := [(x, .inr (11, [.ref st, .ref lv, .ref nm, .ref lb, .ref lk, .int 0])), (st, .inr (8, [.ref od, .ref pp, .ref le, .ref pa, .int 0]))]) rfl rfl
  exact W.iret (v := 0) hx hb hr (fun t ht hW => ⟨⟨0, (), rfl, rfl, by rw [ht]; exact hP9, hD9⟩, hS.F ht⟩) hS.2.2 dX8_numberedAmount_14

set_option maxHeartbeats 4000000 in
set_option maxRecDepth 100000 in
theorem x_reqAny (l : Launch) (D : va_G) (cI : ClassId) (x st lv nm lb lk od pp le pa : Nat) (sz : Nat) (hst : l.stackTraces = false) : vx_Met l yX8_requireAnyNumbered wsX8_requireAnyNumbered ({ frames := 6, cells := 1, slots := 6, locals := 89 }) (va_Pc [.ref x] (zPreX D [(cI, .int)] [(x, .inr (11, [.ref st, .ref lv, .ref nm, .ref lb, .ref lk, .int 0])), (st, .inr (8, [.ref od, .ref pp, .ref le, .ref pa, .int 0]))] sz)) (va_Qv (fun (_ : Unit) => False) (fun _ _ => True) (va_A [(x, .inr (11, [.ref st, .ref lv, .ref nm, .ref lb, .ref lk, .int 0])), (st, .inr (8, [.ref od, .ref pp, .ref le, .ref pa, .int 0]))] sz)) (zX "java/lang/ArithmeticException" (va_A [(x, .inr (11, [.ref st, .ref lv, .ref nm, .ref lb, .ref lk, .int 0])), (st, .inr (8, [.ref od, .ref pp, .ref le, .ref pa, .int 0]))] sz)) 1 6 (va_A [(x, .inr (11, [.ref st, .ref lv, .ref nm, .ref lb, .ref lk, .int 0])), (st, .inr (8, [.ref od, .ref pp, .ref le, .ref pa, .int 0]))] sz) := by
  refine vx_ofW (cc := cX8_requireAnyNumbered) (maxL := 1) (ret := none) (by decide) rfl ?_
  intro P0 E0 s m args below meth C9 s₁ B hml hout hv
  obtain ⟨rfl, ⟨hsz, hP, hK, hD0⟩, ⟨hU, hN⟩, hKB⟩ := hv
  have hx := B.exec
  have hb := B.bytes
  have hr := B.returns
  have hts := atoms_spec (ws := wsX8_requireAnyNumbered) B.pre
  have hown : s.vm.findClass RX8 = some m.cls := findClass_of_methodNamed B.named
  have hlocks := B.notSynchronized
  subst hsz
  have hD := hD0.self (sz := s.heap.size)
  generalize hAe : va_A [(x, .inr (11, [.ref st, .ref lv, .ref nm, .ref lb, .ref lk, .int 0])), (st, .inr (8, [.ref od, .ref pp, .ref le, .ref pa, .int 0]))] s.heap.size = A at hD hU hN ⊢
  have hA : ∀ q : Nat, s.heap.size ≤ q → A q := fun q h => by rw [← hAe]; exact Or.inr h
  have hS : va_S A s.heap s.heap [] := va_S.rf
  have hl := lv_entry ([.ref x]) (n := 1) (Nat.le_of_ble_eq_true rfl)
  rw [lg_entry_eq]
  generalize (lg_sl ([.ref x]) ++ List.replicate (1 - (lg_sl ([.ref x])).length) Slot.unset).toArray = ls at hl ⊢
  have hl : lv_has ls 1 [(0, .ref x)] := hl
  refine lv_aload_n hx hb dX8_requireAnyNumbered_0 rfl (lv_at hl 0 rfl) ?_
  refine zc_i (wc := [(x, .inr (11, [.ref st, .ref lv, .ref nm, .ref lb, .ref lk, .int 0])), (st, .inr (8, [.ref od, .ref pp, .ref le, .ref pa, .int 0]))]) (wr := []) (va_runV (As := []) (rest := []) ⟨hx, hb, hml, hown, hts⟩ (k_numberedAmount l D cI x st lv nm lb lk od pp le pa s.heap.size) (cwV 0 hts gX8_requireAnyNumbered_X8_numberedAmount rfl rfl rfl (by decide +kernel) ⟨Nat.le_of_ble_eq_true rfl, Nat.le_of_ble_eq_true rfl⟩) (zPV hK hP hD [0, 1] rfl rfl [0] rfl 0 rfl rfl rfl) rfl rfl hl.1 rfl (lv_room (Nat.le_of_ble_eq_true rfl)) dX8_requireAnyNumbered_1 ⟨Nat.le_of_ble_eq_true rfl, Nat.le_of_ble_eq_true rfl⟩) hP hD hS hA [0, 1] [] rfl rfl rfl (by decide) (fun r _ H locs hw hP hD hS => ?_)
  have hP : va_P D vwCl [(x, .inr (11, [.ref st, .ref lv, .ref nm, .ref lb, .ref lk, .int 0])), (st, .inr (8, [.ref od, .ref pp, .ref le, .ref pa, .int 0]))] H := hP
  have hD : va_D A [(x, .inr (11, [.ref st, .ref lv, .ref nm, .ref lb, .ref lk, .int 0])), (st, .inr (8, [.ref od, .ref pp, .ref le, .ref pa, .int 0]))] := hD
  subst hw
  refine lv_if_ne (tgt := 15) hx hb dX8_requireAnyNumbered_4 (by decide) (fun q => absurd q (by decide)) (fun _ => ?_)
  exact vx_throw0 (own := RX8) (cls := "java/lang/ArithmeticException") (names := ["java/lang/RuntimeException", "java/lang/Exception"]) (ik := 253) (ic := 255) hx hb hst hown (by decide +kernel) (by decide +kernel) (hts (.classLink RX8 253 "java/lang/ArithmeticException") (List.mem_of_getElem? (i := 1) rfl)) (hts (.initialized "java/lang/ArithmeticException") (List.mem_of_getElem? (i := 2) rfl)) (zhat0 (fun w h => hts w ((fun _ h => List.mem_cons_of_mem _ (List.mem_append_left _ (List.mem_append_right _ h))) w h)) hKB (by decide +kernel)) (by decide +kernel) hU hN hS (hl.1.trans hml.symm) dX8_requireAnyNumbered_7 dX8_requireAnyNumbered_10 dX8_requireAnyNumbered_11 dX8_requireAnyNumbered_14 (fun x h => (hout x h).elim) (Nat.lt_of_succ_le (Nat.le_of_ble_eq_true rfl)) (Nat.le_of_ble_eq_true rfl) (Nat.le_of_ble_eq_true rfl) (Nat.le_of_ble_eq_true rfl) hlocks (fun t hvm hz hk => ⟨(), trivial, rfl, zF_throw hS hz hk⟩) hS.2.2 (Nat.le_of_ble_eq_true rfl) (Nat.le_of_ble_eq_true rfl)

set_option maxHeartbeats 4000000 in
set_option maxRecDepth 100000 in
theorem x_frozenShare (l : Launch) (D : va_G) (cI : ClassId) (x st lv nm lb lk od pp le pa : Nat) (sz : Nat) (hst : l.stackTraces = false) : vx_Met l yX8_frozenShare wsX8_frozenShare ({ frames := 7, cells := 1, slots := 6, locals := 109 }) (va_Pc [.ref x] (zPreX D [(cI, .int)] [(x, .inr (11, [.ref st, .ref lv, .ref nm, .ref lb, .ref lk, .int 0])), (st, .inr (8, [.ref od, .ref pp, .ref le, .ref pa, .int 0]))] sz)) (va_Qf (fun _ (_ : Unit) => False) (fun _ _ => True) (va_A [(x, .inr (11, [.ref st, .ref lv, .ref nm, .ref lb, .ref lk, .int 0])), (st, .inr (8, [.ref od, .ref pp, .ref le, .ref pa, .int 0]))] sz)) (zX "java/lang/ArithmeticException" (va_A [(x, .inr (11, [.ref st, .ref lv, .ref nm, .ref lb, .ref lk, .int 0])), (st, .inr (8, [.ref od, .ref pp, .ref le, .ref pa, .int 0]))] sz)) 1 6 (va_A [(x, .inr (11, [.ref st, .ref lv, .ref nm, .ref lb, .ref lk, .int 0])), (st, .inr (8, [.ref od, .ref pp, .ref le, .ref pa, .int 0]))] sz) := by
  refine vx_ofW (cc := cX8_frozenShare) (maxL := 1) (ret := (some .float)) (by decide) rfl ?_
  intro P0 E0 s m args below meth C9 s₁ B hml hout hv
  obtain ⟨rfl, ⟨hsz, hP, hK, hD0⟩, ⟨hU, hN⟩, hKB⟩ := hv
  have hx := B.exec
  have hb := B.bytes
  have hr := B.returns
  have hts := atoms_spec (ws := wsX8_frozenShare) B.pre
  have hown : s.vm.findClass RX8 = some m.cls := findClass_of_methodNamed B.named
  have hlocks := B.notSynchronized
  subst hsz
  have hD := hD0.self (sz := s.heap.size)
  generalize hAe : va_A [(x, .inr (11, [.ref st, .ref lv, .ref nm, .ref lb, .ref lk, .int 0])), (st, .inr (8, [.ref od, .ref pp, .ref le, .ref pa, .int 0]))] s.heap.size = A at hD hU hN ⊢
  have hA : ∀ q : Nat, s.heap.size ≤ q → A q := fun q h => by rw [← hAe]; exact Or.inr h
  have hS : va_S A s.heap s.heap [] := va_S.rf
  have hl := lv_entry ([.ref x]) (n := 1) (Nat.le_of_ble_eq_true rfl)
  rw [lg_entry_eq]
  generalize (lg_sl ([.ref x]) ++ List.replicate (1 - (lg_sl ([.ref x])).length) Slot.unset).toArray = ls at hl ⊢
  have hl : lv_has ls 1 [(0, .ref x)] := hl
  refine lv_aload_n hx hb dX8_frozenShare_0 rfl (lv_at hl 0 rfl) ?_
  refine zc_x (wc := [(x, .inr (11, [.ref st, .ref lv, .ref nm, .ref lb, .ref lk, .int 0])), (st, .inr (8, [.ref od, .ref pp, .ref le, .ref pa, .int 0]))]) (wr := []) (fun st v t h => by obtain ⟨h1, -⟩ := h; obtain ⟨u, -, h2, -⟩ := h1; exact h2) (vx_runV (As := []) (rest := []) ⟨hx, hb, hml, hown, hts⟩ (x_reqAny l D cI x st lv nm lb lk od pp le pa s.heap.size hst) (cwV 0 hts gX8_frozenShare_X8_requireAnyNumbered rfl rfl rfl (by decide +kernel) ⟨Nat.le_of_ble_eq_true rfl, Nat.le_of_ble_eq_true rfl⟩) (zPVX ⟨hU, hN⟩ hKB hS hA hK hP hD [0, 1] rfl rfl [0] rfl 0 rfl rfl rfl) rfl rfl hl.1 rfl (lv_room (Nat.le_of_ble_eq_true rfl)) dX8_frozenShare_1 ⟨Nat.le_of_ble_eq_true rfl, Nat.le_of_ble_eq_true rfl⟩) hP hD hS hA [0, 1] [] rfl rfl rfl (by decide) (fun ce q9 H locs hP hD hS hce hcv hcl => ?_)
  exact vx_out (fun x h => (hout x h).elim) hlocks hce hcv hcl (fun t ht hvm => ⟨(), trivial, rfl, hS.F ht⟩) hS.2.2 (Nat.le_refl _) (Nat.le_refl _)

set_option maxHeartbeats 4000000 in
set_option maxRecDepth 100000 in
theorem x_shareBits (l : Launch) (D : va_G) (cI : ClassId) (x st lv nm lb lk od pp le pa : Nat) (sz : Nat) (hst : l.stackTraces = false) : vx_Met l yX8_shareBits wsX8_shareBits ({ frames := 7, cells := 1, slots := 6, locals := 109 }) (va_Pc [.ref x] (zPreX D [(cI, .int)] [(x, .inr (11, [.ref st, .ref lv, .ref nm, .ref lb, .ref lk, .int 0])), (st, .inr (8, [.ref od, .ref pp, .ref le, .ref pa, .int 0]))] sz)) (va_Qi (fun _ (_ : Unit) => False) (fun _ _ => True) (va_A [(x, .inr (11, [.ref st, .ref lv, .ref nm, .ref lb, .ref lk, .int 0])), (st, .inr (8, [.ref od, .ref pp, .ref le, .ref pa, .int 0]))] sz)) (zX "java/lang/ArithmeticException" (va_A [(x, .inr (11, [.ref st, .ref lv, .ref nm, .ref lb, .ref lk, .int 0])), (st, .inr (8, [.ref od, .ref pp, .ref le, .ref pa, .int 0]))] sz)) 1 6 (va_A [(x, .inr (11, [.ref st, .ref lv, .ref nm, .ref lb, .ref lk, .int 0])), (st, .inr (8, [.ref od, .ref pp, .ref le, .ref pa, .int 0]))] sz) := by
  refine vx_ofW (cc := cX8_shareBits) (maxL := 1) (ret := (some .int)) (by decide) rfl ?_
  intro P0 E0 s m args below meth C9 s₁ B hml hout hv
  obtain ⟨rfl, ⟨hsz, hP, hK, hD0⟩, ⟨hU, hN⟩, hKB⟩ := hv
  have hx := B.exec
  have hb := B.bytes
  have hr := B.returns
  have hts := atoms_spec (ws := wsX8_shareBits) B.pre
  have hown : s.vm.findClass RX8 = some m.cls := findClass_of_methodNamed B.named
  have hlocks := B.notSynchronized
  subst hsz
  have hD := hD0.self (sz := s.heap.size)
  generalize hAe : va_A [(x, .inr (11, [.ref st, .ref lv, .ref nm, .ref lb, .ref lk, .int 0])), (st, .inr (8, [.ref od, .ref pp, .ref le, .ref pa, .int 0]))] s.heap.size = A at hD hU hN ⊢
  have hA : ∀ q : Nat, s.heap.size ≤ q → A q := fun q h => by rw [← hAe]; exact Or.inr h
  have hS : va_S A s.heap s.heap [] := va_S.rf
  have hl := lv_entry ([.ref x]) (n := 1) (Nat.le_of_ble_eq_true rfl)
  rw [lg_entry_eq]
  generalize (lg_sl ([.ref x]) ++ List.replicate (1 - (lg_sl ([.ref x])).length) Slot.unset).toArray = ls at hl ⊢
  have hl : lv_has ls 1 [(0, .ref x)] := hl
  refine lv_aload_n hx hb dX8_shareBits_0 rfl (lv_at hl 0 rfl) ?_
  refine zc_x (wc := [(x, .inr (11, [.ref st, .ref lv, .ref nm, .ref lb, .ref lk, .int 0])), (st, .inr (8, [.ref od, .ref pp, .ref le, .ref pa, .int 0]))]) (wr := []) (fun st v t h => by obtain ⟨h1, -⟩ := h; obtain ⟨u, -, h2, -⟩ := h1; exact h2) (vx_runV (As := []) (rest := []) ⟨hx, hb, hml, hown, hts⟩ (x_reqAny l D cI x st lv nm lb lk od pp le pa s.heap.size hst) (cwV 0 hts gX8_shareBits_X8_requireAnyNumbered rfl rfl rfl (by decide +kernel) ⟨Nat.le_of_ble_eq_true rfl, Nat.le_of_ble_eq_true rfl⟩) (zPVX ⟨hU, hN⟩ hKB hS hA hK hP hD [0, 1] rfl rfl [0] rfl 0 rfl rfl rfl) rfl rfl hl.1 rfl (lv_room (Nat.le_of_ble_eq_true rfl)) dX8_shareBits_1 ⟨Nat.le_of_ble_eq_true rfl, Nat.le_of_ble_eq_true rfl⟩) hP hD hS hA [0, 1] [] rfl rfl rfl (by decide) (fun ce q9 H locs hP hD hS hce hcv hcl => ?_)
  exact vx_out (fun x h => (hout x h).elim) hlocks hce hcv hcl (fun t ht hvm => ⟨(), trivial, rfl, hS.F ht⟩) hS.2.2 (Nat.le_refl _) (Nat.le_refl _)

set_option maxHeartbeats 4000000 in
set_option maxRecDepth 100000 in
theorem k_levelAmount (l : Launch) (D : va_G) (cI : ClassId) (x st lv nm lb lk od pp le pa : Nat) (p : Int32) (sz : Nat) : Met l yX8_levelAmount wsX8_levelAmount ({ frames := 1, cells := 0, slots := 0, locals := 20 }) (va_Pc [.ref x, .int p] (zPre D [(cI, .int)] [(x, .inr (11, [.ref st, .ref lv, .ref nm, .ref lb, .ref lk, .int 0])), (st, .inr (8, [.ref od, .ref pp, .ref le, .ref pa, .int 0]))] sz)) (va_Qi (fun rv (_ : Unit) => rv = 0) (fun (_ : Unit) => zB D [(x, .inr (11, [.ref st, .ref lv, .ref nm, .ref lb, .ref lk, .int 0])), (st, .inr (8, [.ref od, .ref pp, .ref le, .ref pa, .int 0]))] (va_A [(x, .inr (11, [.ref st, .ref lv, .ref nm, .ref lb, .ref lk, .int 0])), (st, .inr (8, [.ref od, .ref pp, .ref le, .ref pa, .int 0]))] sz)) (va_A [(x, .inr (11, [.ref st, .ref lv, .ref nm, .ref lb, .ref lk, .int 0])), (st, .inr (8, [.ref od, .ref pp, .ref le, .ref pa, .int 0]))] sz)) 0 0 (va_A [(x, .inr (11, [.ref st, .ref lv, .ref nm, .ref lb, .ref lk, .int 0])), (st, .inr (8, [.ref od, .ref pp, .ref le, .ref pa, .int 0]))] sz) := by
  refine Met.ofW (cc := cX8_levelAmount) (maxL := 4) (ret := (some .int)) (by decide) rfl ?_
  intro P0 E0 s m args below meth C9 s₁ B hml hv
  obtain ⟨rfl, hsz, hP, hK, hD0⟩ := hv
  have hx := B.exec
  have hb := B.bytes
  have hr := B.returns
  have hts := atoms_spec (ws := wsX8_levelAmount) B.pre
  have hown : s.vm.findClass RX8 = some m.cls := findClass_of_methodNamed B.named
  have hlocks := B.notSynchronized
  subst hsz
  have hD := hD0.self (sz := s.heap.size)
  generalize hAe : va_A [(x, .inr (11, [.ref st, .ref lv, .ref nm, .ref lb, .ref lk, .int 0])), (st, .inr (8, [.ref od, .ref pp, .ref le, .ref pa, .int 0]))] s.heap.size = A at hD ⊢
  have hA : ∀ q : Nat, s.heap.size ≤ q → A q := fun q h => by rw [← hAe]; exact Or.inr h
  have hS : va_S A s.heap s.heap [] := va_S.rf
  have hl := lv_entry ([.ref x, .int p]) (n := 4) (Nat.le_of_ble_eq_true rfl)
  rw [lg_entry_eq]
  generalize (lg_sl ([.ref x, .int p]) ++ List.replicate (4 - (lg_sl ([.ref x, .int p])).length) Slot.unset).toArray = ls at hl ⊢
  have hl : lv_has ls 4 [(0, .ref x), (1, .int p)] := hl
  refine lv_iconst (v := 0) hx hb dX8_levelAmount_0 (by decide) ?_
  refine lv_istore_n (lv' := [(2, .int 0), (0, .ref x), (1, .int p)]) hx hb dX8_levelAmount_1 rfl hl (by decide) rfl (fun ls hl => ?_)
  refine lv_iconst (v := 0) hx hb dX8_levelAmount_2 (by decide) ?_
  refine lv_istore_n (lv' := [(3, .int 0), (2, .int 0), (0, .ref x), (1, .int p)]) hx hb dX8_levelAmount_3 rfl hl (by decide) rfl (fun ls hl => ?_)
  refine lv_iload_n hx hb dX8_levelAmount_4 rfl (lv_at hl 0 rfl) ?_
  refine lv_aload_n hx hb dX8_levelAmount_5 rfl (lv_at hl 2 rfl) ?_
  refine va_get (D := D) (ci := 11) (v := .ref st) (C := RX8) (T := TX8) (N := 6) hx hb hts (fun _ h => List.mem_cons_of_mem _ (List.mem_append_left _ (List.mem_append_left _ (List.mem_append_left _ (List.mem_append_right _ h))))) hown hK hP 0 rfl rfl 0 (by decide) (hts (.fieldLink RX8 10 "NumberingTree" "standing" "LNumberingTree$Standing;") (List.mem_of_getElem? (i := 1) rfl)) (fun _ h9 => h9) rfl dX8_levelAmount_6 ?_
  refine zc_i (wc := [(st, .inr (8, [.ref od, .ref pp, .ref le, .ref pa, .int 0]))]) (wr := [(x, .inr (11, [.ref st, .ref lv, .ref nm, .ref lb, .ref lk, .int 0]))]) (va_runV (As := []) (rest := [.int 0]) ⟨hx, hb, hml, hown, hts⟩ (k_amount l D cI st od pp le pa 0 s.heap.size) (cwV 0 hts gX8_levelAmount_X5_amount rfl rfl rfl (by decide +kernel) ⟨Nat.le_of_ble_eq_true rfl, Nat.le_of_ble_eq_true rfl⟩) (zPV hK hP hD [1] rfl rfl [0] rfl 0 rfl rfl rfl) rfl rfl hl.1 rfl (lv_room (Nat.le_of_ble_eq_true rfl)) dX8_levelAmount_9 ⟨Nat.le_of_ble_eq_true rfl, Nat.le_of_ble_eq_true rfl⟩) hP hD hS hA [1] [0] rfl rfl rfl (by decide) (fun r _ H locs hw hP hD hS => ?_)
  have hP : va_P D vwCl [(x, .inr (11, [.ref st, .ref lv, .ref nm, .ref lb, .ref lk, .int 0])), (st, .inr (8, [.ref od, .ref pp, .ref le, .ref pa, .int 0]))] H := hP
  have hD : va_D A [(x, .inr (11, [.ref st, .ref lv, .ref nm, .ref lb, .ref lk, .int 0])), (st, .inr (8, [.ref od, .ref pp, .ref le, .ref pa, .int 0]))] := hD
  subst hw
  refine lv_icmp_ge (tgt := 43) hx hb dX8_levelAmount_12 (by decide) (fun _ => ?_) (fun q => absurd q (by decide))
  refine lv_iload_n hx hb dX8_levelAmount_43 rfl (lv_at hl 1 rfl) ?_
  obtain ⟨hP9, hD9⟩ := z_get hP hD [0, 1] (wc := [(x, .inr (11, [.ref st, .ref lv, .ref nm, .ref lb, .ref lk, .int 0])), (st, .inr (8, [.ref od, .ref pp, .ref le, .ref pa, .int 0]))]) rfl rfl
  exact W.iret (v := 0) hx hb hr (fun t ht hW => ⟨⟨0, (), rfl, rfl, by rw [ht]; exact hP9, hD9⟩, hS.F ht⟩) hS.2.2 dX8_levelAmount_44

set_option maxHeartbeats 4000000 in
set_option maxRecDepth 100000 in
theorem k_levelTotal (l : Launch) (D : va_G) (cI : ClassId) (x st lv nm lb lk od pp le pa : Nat) (p : Int32) (sz : Nat) : Met l yX8_levelTotal wsX8_levelTotal ({ frames := 1, cells := 0, slots := 0, locals := 20 }) (va_Pc [.ref x, .int p] (zPre D [(cI, .int)] [(x, .inr (11, [.ref st, .ref lv, .ref nm, .ref lb, .ref lk, .int 0])), (st, .inr (8, [.ref od, .ref pp, .ref le, .ref pa, .int 0]))] sz)) (va_Ql (fun rv (_ : Unit) => rv = 0) (fun (_ : Unit) => zB D [(x, .inr (11, [.ref st, .ref lv, .ref nm, .ref lb, .ref lk, .int 0])), (st, .inr (8, [.ref od, .ref pp, .ref le, .ref pa, .int 0]))] (va_A [(x, .inr (11, [.ref st, .ref lv, .ref nm, .ref lb, .ref lk, .int 0])), (st, .inr (8, [.ref od, .ref pp, .ref le, .ref pa, .int 0]))] sz)) (va_A [(x, .inr (11, [.ref st, .ref lv, .ref nm, .ref lb, .ref lk, .int 0])), (st, .inr (8, [.ref od, .ref pp, .ref le, .ref pa, .int 0]))] sz)) 0 0 (va_A [(x, .inr (11, [.ref st, .ref lv, .ref nm, .ref lb, .ref lk, .int 0])), (st, .inr (8, [.ref od, .ref pp, .ref le, .ref pa, .int 0]))] sz) := by
  refine Met.ofW (cc := cX8_levelTotal) (maxL := 6) (ret := (some .long)) (by decide) rfl ?_
  intro P0 E0 s m args below meth C9 s₁ B hml hv
  obtain ⟨rfl, hsz, hP, hK, hD0⟩ := hv
  have hx := B.exec
  have hb := B.bytes
  have hr := B.returns
  have hts := atoms_spec (ws := wsX8_levelTotal) B.pre
  have hown : s.vm.findClass RX8 = some m.cls := findClass_of_methodNamed B.named
  have hlocks := B.notSynchronized
  subst hsz
  have hD := hD0.self (sz := s.heap.size)
  generalize hAe : va_A [(x, .inr (11, [.ref st, .ref lv, .ref nm, .ref lb, .ref lk, .int 0])), (st, .inr (8, [.ref od, .ref pp, .ref le, .ref pa, .int 0]))] s.heap.size = A at hD ⊢
  have hA : ∀ q : Nat, s.heap.size ≤ q → A q := fun q h => by rw [← hAe]; exact Or.inr h
  have hS : va_S A s.heap s.heap [] := va_S.rf
  have hl := lv_entry ([.ref x, .int p]) (n := 6) (Nat.le_of_ble_eq_true rfl)
  rw [lg_entry_eq]
  generalize (lg_sl ([.ref x, .int p]) ++ List.replicate (6 - (lg_sl ([.ref x, .int p])).length) Slot.unset).toArray = ls at hl ⊢
  have hl : lv_has ls 6 [(0, .ref x), (1, .int p)] := hl
  refine lv_lconst (v := 0) hx hb dX8_levelTotal_0 (by decide) ?_
  refine lv_lstore_n (lv' := [(2, .long 0), (0, .ref x), (1, .int p)]) hx hb dX8_levelTotal_1 rfl hl (by decide) rfl (fun ls hl => ?_)
  refine lv_iconst (v := 0) hx hb dX8_levelTotal_2 (by decide) ?_
  refine lv_istore (lv' := [(4, .int 0), (2, .long 0), (0, .ref x), (1, .int p)]) hx hb dX8_levelTotal_3 hl (by decide) rfl (fun ls hl => ?_)
  refine lv_iload hx hb dX8_levelTotal_5 (lv_at hl 0 rfl) ?_
  refine lv_aload_n hx hb dX8_levelTotal_7 rfl (lv_at hl 2 rfl) ?_
  refine va_get (D := D) (ci := 11) (v := .ref st) (C := RX8) (T := TX8) (N := 6) hx hb hts (fun _ h => List.mem_cons_of_mem _ (List.mem_append_left _ (List.mem_append_left _ (List.mem_append_left _ (List.mem_append_left _ (List.mem_append_right _ h)))))) hown hK hP 0 rfl rfl 0 (by decide) (hts (.fieldLink RX8 10 "NumberingTree" "standing" "LNumberingTree$Standing;") (List.mem_of_getElem? (i := 1) rfl)) (fun _ h9 => h9) rfl dX8_levelTotal_8 ?_
  refine zc_i (wc := [(st, .inr (8, [.ref od, .ref pp, .ref le, .ref pa, .int 0]))]) (wr := [(x, .inr (11, [.ref st, .ref lv, .ref nm, .ref lb, .ref lk, .int 0]))]) (va_runV (As := []) (rest := [.int 0]) ⟨hx, hb, hml, hown, hts⟩ (k_amount l D cI st od pp le pa 0 s.heap.size) (cwV 0 hts gX8_levelTotal_X5_amount rfl rfl rfl (by decide +kernel) ⟨Nat.le_of_ble_eq_true rfl, Nat.le_of_ble_eq_true rfl⟩) (zPV hK hP hD [1] rfl rfl [0] rfl 0 rfl rfl rfl) rfl rfl hl.1 rfl (lv_room (Nat.le_of_ble_eq_true rfl)) dX8_levelTotal_11 ⟨Nat.le_of_ble_eq_true rfl, Nat.le_of_ble_eq_true rfl⟩) hP hD hS hA [1] [0] rfl rfl rfl (by decide) (fun r _ H locs hw hP hD hS => ?_)
  have hP : va_P D vwCl [(x, .inr (11, [.ref st, .ref lv, .ref nm, .ref lb, .ref lk, .int 0])), (st, .inr (8, [.ref od, .ref pp, .ref le, .ref pa, .int 0]))] H := hP
  have hD : va_D A [(x, .inr (11, [.ref st, .ref lv, .ref nm, .ref lb, .ref lk, .int 0])), (st, .inr (8, [.ref od, .ref pp, .ref le, .ref pa, .int 0]))] := hD
  subst hw
  refine lv_icmp_ge (tgt := 60) hx hb dX8_levelTotal_14 (by decide) (fun _ => ?_) (fun q => absurd q (by decide))
  refine lv_lload_n hx hb dX8_levelTotal_60 rfl (lv_at hl 1 rfl) ?_
  obtain ⟨hP9, hD9⟩ := z_get hP hD [0, 1] (wc := [(x, .inr (11, [.ref st, .ref lv, .ref nm, .ref lb, .ref lk, .int 0])), (st, .inr (8, [.ref od, .ref pp, .ref le, .ref pa, .int 0]))]) rfl rfl
  exact W.lret (v := 0) hx hb hr (fun t ht hW => ⟨⟨0, (), rfl, rfl, by rw [ht]; exact hP9, hD9⟩, hS.F ht⟩) hS.2.2 dX8_levelTotal_61

set_option maxHeartbeats 4000000 in
set_option maxRecDepth 100000 in
theorem x_meanNumber (l : Launch) (D : va_G) (cI : ClassId) (x st lv nm lb lk od pp le pa : Nat) (p : Int32) (sz : Nat) (hst : l.stackTraces = false) (hp : zLv p) : vx_Met l yX8_meanNumber wsX8_meanNumber ({ frames := 6, cells := 1, slots := 6, locals := 89 }) (va_Pc [.ref x, .int p] (zPreX D [(cI, .int)] [(x, .inr (11, [.ref st, .ref lv, .ref nm, .ref lb, .ref lk, .int 0])), (st, .inr (8, [.ref od, .ref pp, .ref le, .ref pa, .int 0]))] sz)) (va_Qd (fun _ (_ : Unit) => False) (fun _ _ => True) (va_A [(x, .inr (11, [.ref st, .ref lv, .ref nm, .ref lb, .ref lk, .int 0])), (st, .inr (8, [.ref od, .ref pp, .ref le, .ref pa, .int 0]))] sz)) (zX "java/lang/ArithmeticException" (va_A [(x, .inr (11, [.ref st, .ref lv, .ref nm, .ref lb, .ref lk, .int 0])), (st, .inr (8, [.ref od, .ref pp, .ref le, .ref pa, .int 0]))] sz)) 1 6 (va_A [(x, .inr (11, [.ref st, .ref lv, .ref nm, .ref lb, .ref lk, .int 0])), (st, .inr (8, [.ref od, .ref pp, .ref le, .ref pa, .int 0]))] sz) := by
  refine vx_ofW (cc := cX8_meanNumber) (maxL := 3) (ret := (some .double)) (by decide) rfl ?_
  intro P0 E0 s m args below meth C9 s₁ B hml hout hv
  obtain ⟨rfl, ⟨hsz, hP, hK, hD0⟩, ⟨hU, hN⟩, hKB⟩ := hv
  have hx := B.exec
  have hb := B.bytes
  have hr := B.returns
  have hts := atoms_spec (ws := wsX8_meanNumber) B.pre
  have hown : s.vm.findClass RX8 = some m.cls := findClass_of_methodNamed B.named
  have hlocks := B.notSynchronized
  subst hsz
  have hD := hD0.self (sz := s.heap.size)
  generalize hAe : va_A [(x, .inr (11, [.ref st, .ref lv, .ref nm, .ref lb, .ref lk, .int 0])), (st, .inr (8, [.ref od, .ref pp, .ref le, .ref pa, .int 0]))] s.heap.size = A at hD hU hN ⊢
  have hA : ∀ q : Nat, s.heap.size ≤ q → A q := fun q h => by rw [← hAe]; exact Or.inr h
  have hS : va_S A s.heap s.heap [] := va_S.rf
  have hl := lv_entry ([.ref x, .int p]) (n := 3) (Nat.le_of_ble_eq_true rfl)
  rw [lg_entry_eq]
  generalize (lg_sl ([.ref x, .int p]) ++ List.replicate (3 - (lg_sl ([.ref x, .int p])).length) Slot.unset).toArray = ls at hl ⊢
  have hl : lv_has ls 3 [(0, .ref x), (1, .int p)] := hl
  refine lv_aload_n hx hb dX8_meanNumber_0 rfl (lv_at hl 0 rfl) ?_
  refine lv_iload_n hx hb dX8_meanNumber_1 rfl (lv_at hl 1 rfl) ?_
  refine zc_v (wc := [(x, .inr (11, [.ref st, .ref lv, .ref nm, .ref lb, .ref lk, .int 0]))]) (wr := [(st, .inr (8, [.ref od, .ref pp, .ref le, .ref pa, .int 0]))]) (va_runV (As := [.int p]) (rest := []) ⟨hx, hb, hml, hown, hts⟩ (k_reqLevel l D cI x st lv nm lb lk p s.heap.size hp) (cwV 1 hts gX8_meanNumber_X8_requireNumberedLevel rfl rfl rfl (by decide +kernel) ⟨Nat.le_of_ble_eq_true rfl, Nat.le_of_ble_eq_true rfl⟩) (zPV hK hP hD [0] rfl rfl [0] rfl 0 rfl rfl rfl) rfl rfl hl.1 rfl (lv_room (Nat.le_of_ble_eq_true rfl)) dX8_meanNumber_2 ⟨Nat.le_of_ble_eq_true rfl, Nat.le_of_ble_eq_true rfl⟩) hP hD hS hA [0] [1] rfl rfl rfl (by decide) (fun  _ H locs hw hP hD hS => ?_)
  have hP : va_P D vwCl [(st, .inr (8, [.ref od, .ref pp, .ref le, .ref pa, .int 0])), (x, .inr (11, [.ref st, .ref lv, .ref nm, .ref lb, .ref lk, .int 0]))] H := hP
  have hD : va_D A [(st, .inr (8, [.ref od, .ref pp, .ref le, .ref pa, .int 0])), (x, .inr (11, [.ref st, .ref lv, .ref nm, .ref lb, .ref lk, .int 0]))] := hD
  refine lv_aload_n hx hb dX8_meanNumber_5 rfl (lv_at hl 0 rfl) ?_
  refine lv_iload_n hx hb dX8_meanNumber_6 rfl (lv_at hl 1 rfl) ?_
  refine zc_i (wc := [(x, .inr (11, [.ref st, .ref lv, .ref nm, .ref lb, .ref lk, .int 0])), (st, .inr (8, [.ref od, .ref pp, .ref le, .ref pa, .int 0]))]) (wr := []) (va_runV (As := [.int p]) (rest := []) ⟨hx, hb, hml, hown, hts⟩ (k_levelAmount l D cI x st lv nm lb lk od pp le pa p H.size) (cwV 1 hts gX8_meanNumber_X8_levelAmount rfl rfl rfl (by decide +kernel) ⟨Nat.le_of_ble_eq_true rfl, Nat.le_of_ble_eq_true rfl⟩) (zPV hK hP hD [1, 0] rfl rfl [0] rfl 0 rfl rfl rfl) rfl rfl hl.1 rfl (lv_room (Nat.le_of_ble_eq_true rfl)) dX8_meanNumber_7 ⟨Nat.le_of_ble_eq_true rfl, Nat.le_of_ble_eq_true rfl⟩) hP hD hS hA [1, 0] [] rfl rfl rfl (by decide) (fun r _ H locs hw hP hD hS => ?_)
  have hP : va_P D vwCl [(x, .inr (11, [.ref st, .ref lv, .ref nm, .ref lb, .ref lk, .int 0])), (st, .inr (8, [.ref od, .ref pp, .ref le, .ref pa, .int 0]))] H := hP
  have hD : va_D A [(x, .inr (11, [.ref st, .ref lv, .ref nm, .ref lb, .ref lk, .int 0])), (st, .inr (8, [.ref od, .ref pp, .ref le, .ref pa, .int 0]))] := hD
  subst hw
  refine lv_istore_n (lv' := [(2, .int 0), (0, .ref x), (1, .int p)]) hx hb dX8_meanNumber_10 rfl hl (by decide) rfl (fun ls hl => ?_)
  refine lv_iload_n hx hb dX8_meanNumber_11 rfl (lv_at hl 0 rfl) ?_
  refine lv_if_ne (tgt := 23) hx hb dX8_meanNumber_12 (by decide) (fun q => absurd q (by decide)) (fun _ => ?_)
  exact vx_throw0 (own := RX8) (cls := "java/lang/ArithmeticException") (names := ["java/lang/RuntimeException", "java/lang/Exception"]) (ik := 253) (ic := 255) hx hb hst hown (by decide +kernel) (by decide +kernel) (hts (.classLink RX8 253 "java/lang/ArithmeticException") (List.mem_of_getElem? (i := 1) rfl)) (hts (.initialized "java/lang/ArithmeticException") (List.mem_of_getElem? (i := 2) rfl)) (zhat0 (fun w h => hts w ((fun _ h => List.mem_cons_of_mem _ (List.mem_append_left _ (List.mem_append_left _ (List.mem_append_right _ h)))) w h)) hKB (by decide +kernel)) (by decide +kernel) hU hN hS (hl.1.trans hml.symm) dX8_meanNumber_15 dX8_meanNumber_18 dX8_meanNumber_19 dX8_meanNumber_22 (fun x h => (hout x h).elim) (Nat.lt_of_succ_le (Nat.le_of_ble_eq_true rfl)) (Nat.le_of_ble_eq_true rfl) (Nat.le_of_ble_eq_true rfl) (Nat.le_of_ble_eq_true rfl) hlocks (fun t hvm hz hk => ⟨(), trivial, rfl, zF_throw hS hz hk⟩) hS.2.2 (Nat.le_of_ble_eq_true rfl) (Nat.le_of_ble_eq_true rfl)

set_option maxHeartbeats 4000000 in
set_option maxRecDepth 100000 in
theorem x_meanNumberL (l : Launch) (D : va_G) (cI : ClassId) (x st lv nm lb lk : Nat) (p : Int32) (sz : Nat) (hst : l.stackTraces = false) (hp : ¬ zLv p) : vx_Met l yX8_meanNumber wsX8_meanNumber ({ frames := 7, cells := 1, slots := 6, locals := 110 }) (va_Pc [.ref x, .int p] (zPreX D [(cI, .int)] [(x, .inr (11, [.ref st, .ref lv, .ref nm, .ref lb, .ref lk, .int 0]))] sz)) (va_Qd (fun _ (_ : Unit) => False) (fun _ _ => True) (va_A [(x, .inr (11, [.ref st, .ref lv, .ref nm, .ref lb, .ref lk, .int 0]))] sz)) (zX "java/lang/IllegalArgumentException" (va_A [(x, .inr (11, [.ref st, .ref lv, .ref nm, .ref lb, .ref lk, .int 0]))] sz)) 1 6 (va_A [(x, .inr (11, [.ref st, .ref lv, .ref nm, .ref lb, .ref lk, .int 0]))] sz) := by
  refine vx_ofW (cc := cX8_meanNumber) (maxL := 3) (ret := (some .double)) (by decide) rfl ?_
  intro P0 E0 s m args below meth C9 s₁ B hml hout hv
  obtain ⟨rfl, ⟨hsz, hP, hK, hD0⟩, ⟨hU, hN⟩, hKB⟩ := hv
  have hx := B.exec
  have hb := B.bytes
  have hr := B.returns
  have hts := atoms_spec (ws := wsX8_meanNumber) B.pre
  have hown : s.vm.findClass RX8 = some m.cls := findClass_of_methodNamed B.named
  have hlocks := B.notSynchronized
  subst hsz
  have hD := hD0.self (sz := s.heap.size)
  generalize hAe : va_A [(x, .inr (11, [.ref st, .ref lv, .ref nm, .ref lb, .ref lk, .int 0]))] s.heap.size = A at hD hU hN ⊢
  have hA : ∀ q : Nat, s.heap.size ≤ q → A q := fun q h => by rw [← hAe]; exact Or.inr h
  have hS : va_S A s.heap s.heap [] := va_S.rf
  have hl := lv_entry ([.ref x, .int p]) (n := 3) (Nat.le_of_ble_eq_true rfl)
  rw [lg_entry_eq]
  generalize (lg_sl ([.ref x, .int p]) ++ List.replicate (3 - (lg_sl ([.ref x, .int p])).length) Slot.unset).toArray = ls at hl ⊢
  have hl : lv_has ls 3 [(0, .ref x), (1, .int p)] := hl
  refine lv_aload_n hx hb dX8_meanNumber_0 rfl (lv_at hl 0 rfl) ?_
  refine lv_iload_n hx hb dX8_meanNumber_1 rfl (lv_at hl 1 rfl) ?_
  refine zc_x (wc := [(x, .inr (11, [.ref st, .ref lv, .ref nm, .ref lb, .ref lk, .int 0]))]) (wr := []) (fun st v t h => by obtain ⟨h1, -⟩ := h; obtain ⟨u, -, h2, -⟩ := h1; exact h2) (vx_runV (As := [.int p]) (rest := []) ⟨hx, hb, hml, hown, hts⟩ (x_reqLevel l D cI x st lv nm lb lk p s.heap.size hst hp) (cwV 1 hts gX8_meanNumber_X8_requireNumberedLevel rfl rfl rfl (by decide +kernel) ⟨Nat.le_of_ble_eq_true rfl, Nat.le_of_ble_eq_true rfl⟩) (zPVX ⟨hU, hN⟩ hKB hS hA hK hP hD [0] rfl rfl [0] rfl 0 rfl rfl rfl) rfl rfl hl.1 rfl (lv_room (Nat.le_of_ble_eq_true rfl)) dX8_meanNumber_2 ⟨Nat.le_of_ble_eq_true rfl, Nat.le_of_ble_eq_true rfl⟩) hP hD hS hA [0] [] rfl rfl rfl (by decide) (fun ce q9 H locs hP hD hS hce hcv hcl => ?_)
  exact vx_out (fun x h => (hout x h).elim) hlocks hce hcv hcl (fun t ht hvm => ⟨(), trivial, rfl, hS.F ht⟩) hS.2.2 (Nat.le_refl _) (Nat.le_refl _)

set_option maxHeartbeats 4000000 in
set_option maxRecDepth 100000 in
theorem x_find (l : Launch) (D : va_G) (cI : ClassId) (x st lv nm lb lk od pp le pa : Nat) (p q : Int32) (sz : Nat) (hst : l.stackTraces = false) (hp : zLv p) : vx_Met l yX8_find wsX8_find ({ frames := 6, cells := 1, slots := 6, locals := 89 }) (va_Pc [.ref x, .int p, .int q] (zPreX D [(cI, .int)] [(x, .inr (11, [.ref st, .ref lv, .ref nm, .ref lb, .ref lk, .int 0])), (st, .inr (8, [.ref od, .ref pp, .ref le, .ref pa, .int 0]))] sz)) (va_Qi (fun _ (_ : Unit) => False) (fun _ _ => True) (va_A [(x, .inr (11, [.ref st, .ref lv, .ref nm, .ref lb, .ref lk, .int 0])), (st, .inr (8, [.ref od, .ref pp, .ref le, .ref pa, .int 0]))] sz)) (zX "java/util/NoSuchElementException" (va_A [(x, .inr (11, [.ref st, .ref lv, .ref nm, .ref lb, .ref lk, .int 0])), (st, .inr (8, [.ref od, .ref pp, .ref le, .ref pa, .int 0]))] sz)) 1 6 (va_A [(x, .inr (11, [.ref st, .ref lv, .ref nm, .ref lb, .ref lk, .int 0])), (st, .inr (8, [.ref od, .ref pp, .ref le, .ref pa, .int 0]))] sz) := by
  refine vx_ofW (cc := cX8_find) (maxL := 5) (ret := (some .int)) (by decide) rfl ?_
  intro P0 E0 s m args below meth C9 s₁ B hml hout hv
  obtain ⟨rfl, ⟨hsz, hP, hK, hD0⟩, ⟨hU, hN⟩, hKB⟩ := hv
  have hx := B.exec
  have hb := B.bytes
  have hr := B.returns
  have hts := atoms_spec (ws := wsX8_find) B.pre
  have hown : s.vm.findClass RX8 = some m.cls := findClass_of_methodNamed B.named
  have hlocks := B.notSynchronized
  subst hsz
  have hD := hD0.self (sz := s.heap.size)
  generalize hAe : va_A [(x, .inr (11, [.ref st, .ref lv, .ref nm, .ref lb, .ref lk, .int 0])), (st, .inr (8, [.ref od, .ref pp, .ref le, .ref pa, .int 0]))] s.heap.size = A at hD hU hN ⊢
  have hA : ∀ q : Nat, s.heap.size ≤ q → A q := fun q h => by rw [← hAe]; exact Or.inr h
  have hS : va_S A s.heap s.heap [] := va_S.rf
  have hl := lv_entry ([.ref x, .int p, .int q]) (n := 5) (Nat.le_of_ble_eq_true rfl)
  rw [lg_entry_eq]
  generalize (lg_sl ([.ref x, .int p, .int q]) ++ List.replicate (5 - (lg_sl ([.ref x, .int p, .int q])).length) Slot.unset).toArray = ls at hl ⊢
  have hl : lv_has ls 5 [(0, .ref x), (1, .int p), (2, .int q)] := hl
  refine lv_aload_n hx hb dX8_find_0 rfl (lv_at hl 0 rfl) ?_
  refine lv_iload_n hx hb dX8_find_1 rfl (lv_at hl 1 rfl) ?_
  refine zc_v (wc := [(x, .inr (11, [.ref st, .ref lv, .ref nm, .ref lb, .ref lk, .int 0]))]) (wr := [(st, .inr (8, [.ref od, .ref pp, .ref le, .ref pa, .int 0]))]) (va_runV (As := [.int p]) (rest := []) ⟨hx, hb, hml, hown, hts⟩ (k_reqLevel l D cI x st lv nm lb lk p s.heap.size hp) (cwV 1 hts gX8_find_X8_requireNumberedLevel rfl rfl rfl (by decide +kernel) ⟨Nat.le_of_ble_eq_true rfl, Nat.le_of_ble_eq_true rfl⟩) (zPV hK hP hD [0] rfl rfl [0] rfl 0 rfl rfl rfl) rfl rfl hl.1 rfl (lv_room (Nat.le_of_ble_eq_true rfl)) dX8_find_2 ⟨Nat.le_of_ble_eq_true rfl, Nat.le_of_ble_eq_true rfl⟩) hP hD hS hA [0] [1] rfl rfl rfl (by decide) (fun  _ H locs hw hP hD hS => ?_)
  have hP : va_P D vwCl [(st, .inr (8, [.ref od, .ref pp, .ref le, .ref pa, .int 0])), (x, .inr (11, [.ref st, .ref lv, .ref nm, .ref lb, .ref lk, .int 0]))] H := hP
  have hD : va_D A [(st, .inr (8, [.ref od, .ref pp, .ref le, .ref pa, .int 0])), (x, .inr (11, [.ref st, .ref lv, .ref nm, .ref lb, .ref lk, .int 0]))] := hD
  refine lv_iconst (v := 0) hx hb dX8_find_5 (by decide) ?_
  refine lv_istore_n (lv' := [(3, .int 0), (0, .ref x), (1, .int p), (2, .int q)]) hx hb dX8_find_6 rfl hl (by decide) rfl (fun ls hl => ?_)
  refine lv_iload_n hx hb dX8_find_7 rfl (lv_at hl 0 rfl) ?_
  refine lv_aload_n hx hb dX8_find_8 rfl (lv_at hl 1 rfl) ?_
  refine va_get (D := D) (ci := 11) (v := .ref st) (C := RX8) (T := TX8) (N := 6) hx hb hts (fun _ h => List.mem_cons_of_mem _ (List.mem_append_left _ (List.mem_append_left _ (List.mem_append_left _ (List.mem_append_left _ (List.mem_append_left _ (List.mem_append_left _ (List.mem_append_right _ h)))))))) hown hK hP 1 rfl rfl 0 (by decide) (hts (.fieldLink RX8 10 "NumberingTree" "standing" "LNumberingTree$Standing;") (List.mem_of_getElem? (i := 3) rfl)) (fun _ h9 => h9) rfl dX8_find_9 ?_
  refine zc_i (wc := [(st, .inr (8, [.ref od, .ref pp, .ref le, .ref pa, .int 0]))]) (wr := [(x, .inr (11, [.ref st, .ref lv, .ref nm, .ref lb, .ref lk, .int 0]))]) (va_runV (As := []) (rest := [.int 0]) ⟨hx, hb, hml, hown, hts⟩ (k_amount l D cI st od pp le pa 0 H.size) (cwV 0 hts gX8_find_X5_amount rfl rfl rfl (by decide +kernel) ⟨Nat.le_of_ble_eq_true rfl, Nat.le_of_ble_eq_true rfl⟩) (zPV hK hP hD [0] rfl rfl [0] rfl 0 rfl rfl rfl) rfl rfl hl.1 rfl (lv_room (Nat.le_of_ble_eq_true rfl)) dX8_find_12 ⟨Nat.le_of_ble_eq_true rfl, Nat.le_of_ble_eq_true rfl⟩) hP hD hS hA [0] [1] rfl rfl rfl (by decide) (fun r _ H locs hw hP hD hS => ?_)
  have hP : va_P D vwCl [(x, .inr (11, [.ref st, .ref lv, .ref nm, .ref lb, .ref lk, .int 0])), (st, .inr (8, [.ref od, .ref pp, .ref le, .ref pa, .int 0]))] H := hP
  have hD : va_D A [(x, .inr (11, [.ref st, .ref lv, .ref nm, .ref lb, .ref lk, .int 0])), (st, .inr (8, [.ref od, .ref pp, .ref le, .ref pa, .int 0]))] := hD
  subst hw
  refine lv_icmp_ge (tgt := 75) hx hb dX8_find_15 (by decide) (fun _ => ?_) (fun q => absurd q (by decide))
  exact vx_throw0 (own := RX8) (cls := "java/util/NoSuchElementException") (names := ["java/lang/RuntimeException", "java/lang/Exception"]) (ik := 204) (ic := 206) hx hb hst hown (by decide +kernel) (by decide +kernel) (hts (.classLink RX8 204 "java/util/NoSuchElementException") (List.mem_of_getElem? (i := 1) rfl)) (hts (.initialized "java/util/NoSuchElementException") (List.mem_of_getElem? (i := 2) rfl)) (zhat0 (fun w h => hts w ((fun _ h => List.mem_cons_of_mem _ (List.mem_append_left _ (List.mem_append_left _ (List.mem_append_right _ h)))) w h)) hKB (by decide +kernel)) (by decide +kernel) hU hN hS (hl.1.trans hml.symm) dX8_find_75 dX8_find_78 dX8_find_79 dX8_find_82 (fun x h => (hout x h).elim) (Nat.lt_of_succ_le (Nat.le_of_ble_eq_true rfl)) (Nat.le_of_ble_eq_true rfl) (Nat.le_of_ble_eq_true rfl) (Nat.le_of_ble_eq_true rfl) hlocks (fun t hvm hz hk => ⟨(), trivial, rfl, zF_throw hS hz hk⟩) hS.2.2 (Nat.le_of_ble_eq_true rfl) (Nat.le_of_ble_eq_true rfl)

set_option maxHeartbeats 4000000 in
set_option maxRecDepth 100000 in
theorem x_findL (l : Launch) (D : va_G) (cI : ClassId) (x st lv nm lb lk : Nat) (p q : Int32) (sz : Nat) (hst : l.stackTraces = false) (hp : ¬ zLv p) : vx_Met l yX8_find wsX8_find ({ frames := 7, cells := 1, slots := 6, locals := 110 }) (va_Pc [.ref x, .int p, .int q] (zPreX D [(cI, .int)] [(x, .inr (11, [.ref st, .ref lv, .ref nm, .ref lb, .ref lk, .int 0]))] sz)) (va_Qi (fun _ (_ : Unit) => False) (fun _ _ => True) (va_A [(x, .inr (11, [.ref st, .ref lv, .ref nm, .ref lb, .ref lk, .int 0]))] sz)) (zX "java/lang/IllegalArgumentException" (va_A [(x, .inr (11, [.ref st, .ref lv, .ref nm, .ref lb, .ref lk, .int 0]))] sz)) 1 6 (va_A [(x, .inr (11, [.ref st, .ref lv, .ref nm, .ref lb, .ref lk, .int 0]))] sz) := by
  refine vx_ofW (cc := cX8_find) (maxL := 5) (ret := (some .int)) (by decide) rfl ?_
  intro P0 E0 s m args below meth C9 s₁ B hml hout hv
  obtain ⟨rfl, ⟨hsz, hP, hK, hD0⟩, ⟨hU, hN⟩, hKB⟩ := hv
  have hx := B.exec
  have hb := B.bytes
  have hr := B.returns
  have hts := atoms_spec (ws := wsX8_find) B.pre
  have hown : s.vm.findClass RX8 = some m.cls := findClass_of_methodNamed B.named
  have hlocks := B.notSynchronized
  subst hsz
  have hD := hD0.self (sz := s.heap.size)
  generalize hAe : va_A [(x, .inr (11, [.ref st, .ref lv, .ref nm, .ref lb, .ref lk, .int 0]))] s.heap.size = A at hD hU hN ⊢
  have hA : ∀ q : Nat, s.heap.size ≤ q → A q := fun q h => by rw [← hAe]; exact Or.inr h
  have hS : va_S A s.heap s.heap [] := va_S.rf
  have hl := lv_entry ([.ref x, .int p, .int q]) (n := 5) (Nat.le_of_ble_eq_true rfl)
  rw [lg_entry_eq]
  generalize (lg_sl ([.ref x, .int p, .int q]) ++ List.replicate (5 - (lg_sl ([.ref x, .int p, .int q])).length) Slot.unset).toArray = ls at hl ⊢
  have hl : lv_has ls 5 [(0, .ref x), (1, .int p), (2, .int q)] := hl
  refine lv_aload_n hx hb dX8_find_0 rfl (lv_at hl 0 rfl) ?_
  refine lv_iload_n hx hb dX8_find_1 rfl (lv_at hl 1 rfl) ?_
  refine zc_x (wc := [(x, .inr (11, [.ref st, .ref lv, .ref nm, .ref lb, .ref lk, .int 0]))]) (wr := []) (fun st v t h => by obtain ⟨h1, -⟩ := h; obtain ⟨u, -, h2, -⟩ := h1; exact h2) (vx_runV (As := [.int p]) (rest := []) ⟨hx, hb, hml, hown, hts⟩ (x_reqLevel l D cI x st lv nm lb lk p s.heap.size hst hp) (cwV 1 hts gX8_find_X8_requireNumberedLevel rfl rfl rfl (by decide +kernel) ⟨Nat.le_of_ble_eq_true rfl, Nat.le_of_ble_eq_true rfl⟩) (zPVX ⟨hU, hN⟩ hKB hS hA hK hP hD [0] rfl rfl [0] rfl 0 rfl rfl rfl) rfl rfl hl.1 rfl (lv_room (Nat.le_of_ble_eq_true rfl)) dX8_find_2 ⟨Nat.le_of_ble_eq_true rfl, Nat.le_of_ble_eq_true rfl⟩) hP hD hS hA [0] [] rfl rfl rfl (by decide) (fun ce q9 H locs hP hD hS hce hcv hcl => ?_)
  exact vx_out (fun x h => (hout x h).elim) hlocks hce hcv hcl (fun t ht hvm => ⟨(), trivial, rfl, hS.F ht⟩) hS.2.2 (Nat.le_refl _) (Nat.le_refl _)

set_option maxHeartbeats 4000000 in
set_option maxRecDepth 100000 in
theorem k_sum (l : Launch) (D : va_G) (cI : ClassId) (x st lv nm lb lk od pp le pa : Nat) (sz : Nat) : Met l yX8_sum wsX8_sum ({ frames := 2, cells := 0, slots := 0, locals := 45 }) (va_Pc [.ref x] (zPre D [(cI, .int)] [(x, .inr (11, [.ref st, .ref lv, .ref nm, .ref lb, .ref lk, .int 0])), (st, .inr (8, [.ref od, .ref pp, .ref le, .ref pa, .int 0]))] sz)) (va_Ql (fun rv (_ : Unit) => rv = 0) (fun (_ : Unit) => zB D [] (va_A [(x, .inr (11, [.ref st, .ref lv, .ref nm, .ref lb, .ref lk, .int 0])), (st, .inr (8, [.ref od, .ref pp, .ref le, .ref pa, .int 0]))] sz)) (va_A [(x, .inr (11, [.ref st, .ref lv, .ref nm, .ref lb, .ref lk, .int 0])), (st, .inr (8, [.ref od, .ref pp, .ref le, .ref pa, .int 0]))] sz)) 0 0 (va_A [(x, .inr (11, [.ref st, .ref lv, .ref nm, .ref lb, .ref lk, .int 0])), (st, .inr (8, [.ref od, .ref pp, .ref le, .ref pa, .int 0]))] sz) := by
  refine Met.ofW (cc := cX8_sum) (maxL := 4) (ret := (some .long)) (by decide) rfl ?_
  intro P0 E0 s m args below meth C9 s₁ B hml hv
  obtain ⟨rfl, hsz, hP, hK, hD0⟩ := hv
  have hx := B.exec
  have hb := B.bytes
  have hr := B.returns
  have hts := atoms_spec (ws := wsX8_sum) B.pre
  have hown : s.vm.findClass RX8 = some m.cls := findClass_of_methodNamed B.named
  have hlocks := B.notSynchronized
  subst hsz
  have hD := hD0.self (sz := s.heap.size)
  generalize hAe : va_A [(x, .inr (11, [.ref st, .ref lv, .ref nm, .ref lb, .ref lk, .int 0])), (st, .inr (8, [.ref od, .ref pp, .ref le, .ref pa, .int 0]))] s.heap.size = A at hD ⊢
  have hA : ∀ q : Nat, s.heap.size ≤ q → A q := fun q h => by rw [← hAe]; exact Or.inr h
  have hS : va_S A s.heap s.heap [] := va_S.rf
  have hl := lv_entry ([.ref x]) (n := 4) (Nat.le_of_ble_eq_true rfl)
  rw [lg_entry_eq]
  generalize (lg_sl ([.ref x]) ++ List.replicate (4 - (lg_sl ([.ref x])).length) Slot.unset).toArray = ls at hl ⊢
  have hl : lv_has ls 4 [(0, .ref x)] := hl
  refine lv_lconst (v := 0) hx hb dX8_sum_0 (by decide) ?_
  refine lv_lstore_n (lv' := [(1, .long 0), (0, .ref x)]) hx hb dX8_sum_1 rfl hl (by decide) rfl (fun ls hl => ?_)
  refine lv_iconst (v := 1) hx hb dX8_sum_2 (by decide) ?_
  refine lv_istore_n (lv' := [(3, .int 1), (1, .long 0), (0, .ref x)]) hx hb dX8_sum_3 rfl hl (by decide) rfl (fun ls hl => ?_)
  refine lv_iload_n hx hb dX8_sum_4 rfl (lv_at hl 0 rfl) ?_
  refine lv_iconst (v := 4) hx hb dX8_sum_5 (by decide) ?_
  refine lv_icmp_gt (tgt := 23) hx hb dX8_sum_6 (by decide) (fun q => absurd q (by decide)) (fun _ => ?_)
  refine lv_lload_n hx hb dX8_sum_9 rfl (lv_at hl 1 rfl) ?_
  refine lv_aload_n hx hb dX8_sum_10 rfl (lv_at hl 2 rfl) ?_
  refine lv_iload_n hx hb dX8_sum_11 rfl (lv_at hl 0 rfl) ?_
  refine zc_l (wc := [(x, .inr (11, [.ref st, .ref lv, .ref nm, .ref lb, .ref lk, .int 0])), (st, .inr (8, [.ref od, .ref pp, .ref le, .ref pa, .int 0]))]) (wr := []) (va_runV (As := [.int 1]) (rest := [.long 0]) ⟨hx, hb, hml, hown, hts⟩ (k_levelTotal l D cI x st lv nm lb lk od pp le pa 1 s.heap.size) (cwV 1 hts gX8_sum_X8_levelTotal rfl rfl rfl (by decide +kernel) ⟨Nat.le_of_ble_eq_true rfl, Nat.le_of_ble_eq_true rfl⟩) (zPV hK hP hD [0, 1] rfl rfl [0] rfl 0 rfl rfl rfl) rfl rfl hl.1 rfl (lv_room (Nat.le_of_ble_eq_true rfl)) dX8_sum_12 ⟨Nat.le_of_ble_eq_true rfl, Nat.le_of_ble_eq_true rfl⟩) hP hD hS hA [0, 1] [] rfl rfl rfl (by decide) (fun r _ H locs hw hP hD hS => ?_)
  have hP : va_P D vwCl [(x, .inr (11, [.ref st, .ref lv, .ref nm, .ref lb, .ref lk, .int 0])), (st, .inr (8, [.ref od, .ref pp, .ref le, .ref pa, .int 0]))] H := hP
  have hD : va_D A [(x, .inr (11, [.ref st, .ref lv, .ref nm, .ref lb, .ref lk, .int 0])), (st, .inr (8, [.ref od, .ref pp, .ref le, .ref pa, .int 0]))] := hD
  subst hw
  refine lv_ladd hx hb dX8_sum_15 ?_
  refine zt_l 0 (by decide) ?_
  refine lv_lstore_n (lv' := [(1, .long 0), (3, .int 1), (0, .ref x)]) hx hb dX8_sum_16 rfl hl (by decide) rfl (fun ls hl => ?_)
  refine lv_iinc (v := 2) (lv' := [(3, .int 2), (1, .long 0), (0, .ref x)]) hx hb dX8_sum_17 hl (k := 1) rfl (by decide) (by decide) rfl (fun ls hl => ?_)
  refine lv_goto (tgt := 4) hx hb dX8_sum_20 (by decide) ?_
  refine lv_iload_n hx hb dX8_sum_4 rfl (lv_at hl 0 rfl) ?_
  refine lv_iconst (v := 4) hx hb dX8_sum_5 (by decide) ?_
  refine lv_icmp_gt (tgt := 23) hx hb dX8_sum_6 (by decide) (fun q => absurd q (by decide)) (fun _ => ?_)
  refine lv_lload_n hx hb dX8_sum_9 rfl (lv_at hl 1 rfl) ?_
  refine lv_aload_n hx hb dX8_sum_10 rfl (lv_at hl 2 rfl) ?_
  refine lv_iload_n hx hb dX8_sum_11 rfl (lv_at hl 0 rfl) ?_
  refine zc_l (wc := [(x, .inr (11, [.ref st, .ref lv, .ref nm, .ref lb, .ref lk, .int 0])), (st, .inr (8, [.ref od, .ref pp, .ref le, .ref pa, .int 0]))]) (wr := []) (va_runV (As := [.int 2]) (rest := [.long 0]) ⟨hx, hb, hml, hown, hts⟩ (k_levelTotal l D cI x st lv nm lb lk od pp le pa 2 H.size) (cwV 1 hts gX8_sum_X8_levelTotal rfl rfl rfl (by decide +kernel) ⟨Nat.le_of_ble_eq_true rfl, Nat.le_of_ble_eq_true rfl⟩) (zPV hK hP hD [0, 1] rfl rfl [0] rfl 0 rfl rfl rfl) rfl rfl hl.1 rfl (lv_room (Nat.le_of_ble_eq_true rfl)) dX8_sum_12 ⟨Nat.le_of_ble_eq_true rfl, Nat.le_of_ble_eq_true rfl⟩) hP hD hS hA [0, 1] [] rfl rfl rfl (by decide) (fun r _ H locs hw hP hD hS => ?_)
  have hP : va_P D vwCl [(x, .inr (11, [.ref st, .ref lv, .ref nm, .ref lb, .ref lk, .int 0])), (st, .inr (8, [.ref od, .ref pp, .ref le, .ref pa, .int 0]))] H := hP
  have hD : va_D A [(x, .inr (11, [.ref st, .ref lv, .ref nm, .ref lb, .ref lk, .int 0])), (st, .inr (8, [.ref od, .ref pp, .ref le, .ref pa, .int 0]))] := hD
  subst hw
  refine lv_ladd hx hb dX8_sum_15 ?_
  refine zt_l 0 (by decide) ?_
  refine lv_lstore_n (lv' := [(1, .long 0), (3, .int 2), (0, .ref x)]) hx hb dX8_sum_16 rfl hl (by decide) rfl (fun ls hl => ?_)
  refine lv_iinc (v := 3) (lv' := [(3, .int 3), (1, .long 0), (0, .ref x)]) hx hb dX8_sum_17 hl (k := 1) rfl (by decide) (by decide) rfl (fun ls hl => ?_)
  refine lv_goto (tgt := 4) hx hb dX8_sum_20 (by decide) ?_
  refine lv_iload_n hx hb dX8_sum_4 rfl (lv_at hl 0 rfl) ?_
  refine lv_iconst (v := 4) hx hb dX8_sum_5 (by decide) ?_
  refine lv_icmp_gt (tgt := 23) hx hb dX8_sum_6 (by decide) (fun q => absurd q (by decide)) (fun _ => ?_)
  refine lv_lload_n hx hb dX8_sum_9 rfl (lv_at hl 1 rfl) ?_
  refine lv_aload_n hx hb dX8_sum_10 rfl (lv_at hl 2 rfl) ?_
  refine lv_iload_n hx hb dX8_sum_11 rfl (lv_at hl 0 rfl) ?_
  refine zc_l (wc := [(x, .inr (11, [.ref st, .ref lv, .ref nm, .ref lb, .ref lk, .int 0])), (st, .inr (8, [.ref od, .ref pp, .ref le, .ref pa, .int 0]))]) (wr := []) (va_runV (As := [.int 3]) (rest := [.long 0]) ⟨hx, hb, hml, hown, hts⟩ (k_levelTotal l D cI x st lv nm lb lk od pp le pa 3 H.size) (cwV 1 hts gX8_sum_X8_levelTotal rfl rfl rfl (by decide +kernel) ⟨Nat.le_of_ble_eq_true rfl, Nat.le_of_ble_eq_true rfl⟩) (zPV hK hP hD [0, 1] rfl rfl [0] rfl 0 rfl rfl rfl) rfl rfl hl.1 rfl (lv_room (Nat.le_of_ble_eq_true rfl)) dX8_sum_12 ⟨Nat.le_of_ble_eq_true rfl, Nat.le_of_ble_eq_true rfl⟩) hP hD hS hA [0, 1] [] rfl rfl rfl (by decide) (fun r _ H locs hw hP hD hS => ?_)
  have hP : va_P D vwCl [(x, .inr (11, [.ref st, .ref lv, .ref nm, .ref lb, .ref lk, .int 0])), (st, .inr (8, [.ref od, .ref pp, .ref le, .ref pa, .int 0]))] H := hP
  have hD : va_D A [(x, .inr (11, [.ref st, .ref lv, .ref nm, .ref lb, .ref lk, .int 0])), (st, .inr (8, [.ref od, .ref pp, .ref le, .ref pa, .int 0]))] := hD
  subst hw
  refine lv_ladd hx hb dX8_sum_15 ?_
  refine zt_l 0 (by decide) ?_
  refine lv_lstore_n (lv' := [(1, .long 0), (3, .int 3), (0, .ref x)]) hx hb dX8_sum_16 rfl hl (by decide) rfl (fun ls hl => ?_)
  refine lv_iinc (v := 4) (lv' := [(3, .int 4), (1, .long 0), (0, .ref x)]) hx hb dX8_sum_17 hl (k := 1) rfl (by decide) (by decide) rfl (fun ls hl => ?_)
  refine lv_goto (tgt := 4) hx hb dX8_sum_20 (by decide) ?_
  refine lv_iload_n hx hb dX8_sum_4 rfl (lv_at hl 0 rfl) ?_
  refine lv_iconst (v := 4) hx hb dX8_sum_5 (by decide) ?_
  refine lv_icmp_gt (tgt := 23) hx hb dX8_sum_6 (by decide) (fun q => absurd q (by decide)) (fun _ => ?_)
  refine lv_lload_n hx hb dX8_sum_9 rfl (lv_at hl 1 rfl) ?_
  refine lv_aload_n hx hb dX8_sum_10 rfl (lv_at hl 2 rfl) ?_
  refine lv_iload_n hx hb dX8_sum_11 rfl (lv_at hl 0 rfl) ?_
  refine zc_l (wc := [(x, .inr (11, [.ref st, .ref lv, .ref nm, .ref lb, .ref lk, .int 0])), (st, .inr (8, [.ref od, .ref pp, .ref le, .ref pa, .int 0]))]) (wr := []) (va_runV (As := [.int 4]) (rest := [.long 0]) ⟨hx, hb, hml, hown, hts⟩ (k_levelTotal l D cI x st lv nm lb lk od pp le pa 4 H.size) (cwV 1 hts gX8_sum_X8_levelTotal rfl rfl rfl (by decide +kernel) ⟨Nat.le_of_ble_eq_true rfl, Nat.le_of_ble_eq_true rfl⟩) (zPV hK hP hD [0, 1] rfl rfl [0] rfl 0 rfl rfl rfl) rfl rfl hl.1 rfl (lv_room (Nat.le_of_ble_eq_true rfl)) dX8_sum_12 ⟨Nat.le_of_ble_eq_true rfl, Nat.le_of_ble_eq_true rfl⟩) hP hD hS hA [0, 1] [] rfl rfl rfl (by decide) (fun r _ H locs hw hP hD hS => ?_)
  have hP : va_P D vwCl [(x, .inr (11, [.ref st, .ref lv, .ref nm, .ref lb, .ref lk, .int 0])), (st, .inr (8, [.ref od, .ref pp, .ref le, .ref pa, .int 0]))] H := hP
  have hD : va_D A [(x, .inr (11, [.ref st, .ref lv, .ref nm, .ref lb, .ref lk, .int 0])), (st, .inr (8, [.ref od, .ref pp, .ref le, .ref pa, .int 0]))] := hD
  subst hw
  refine lv_ladd hx hb dX8_sum_15 ?_
  refine zt_l 0 (by decide) ?_
  refine lv_lstore_n (lv' := [(1, .long 0), (3, .int 4), (0, .ref x)]) hx hb dX8_sum_16 rfl hl (by decide) rfl (fun ls hl => ?_)
  refine lv_iinc (v := 5) (lv' := [(3, .int 5), (1, .long 0), (0, .ref x)]) hx hb dX8_sum_17 hl (k := 1) rfl (by decide) (by decide) rfl (fun ls hl => ?_)
  refine lv_goto (tgt := 4) hx hb dX8_sum_20 (by decide) ?_
  refine lv_iload_n hx hb dX8_sum_4 rfl (lv_at hl 0 rfl) ?_
  refine lv_iconst (v := 4) hx hb dX8_sum_5 (by decide) ?_
  refine lv_icmp_gt (tgt := 23) hx hb dX8_sum_6 (by decide) (fun _ => ?_) (fun q => absurd q (by decide))
  refine lv_lload_n hx hb dX8_sum_23 rfl (lv_at hl 1 rfl) ?_
  obtain ⟨hP9, hD9⟩ := z_get hP hD [] (wc := []) rfl rfl
  exact W.lret (v := 0) hx hb hr (fun t ht hW => ⟨⟨0, (), rfl, rfl, by rw [ht]; exact hP9, hD9⟩, hS.F ht⟩) hS.2.2 dX8_sum_24

set_option maxHeartbeats 4000000 in
set_option maxRecDepth 100000 in
theorem k_isUnique (l : Launch) (D : va_G) (cI : ClassId) (x st lv nm lb lk od pp le pa : Nat) (sz : Nat) : Met l yX8_isUnique wsX8_isUnique ({ frames := 1, cells := 0, slots := 0, locals := 20 }) (va_Pc [.ref x] (zPre D [(cI, .int)] [(x, .inr (11, [.ref st, .ref lv, .ref nm, .ref lb, .ref lk, .int 0])), (st, .inr (8, [.ref od, .ref pp, .ref le, .ref pa, .int 0]))] sz)) (va_Qi (fun rv (_ : Unit) => rv = 1) (fun (_ : Unit) => zB D [] (va_A [(x, .inr (11, [.ref st, .ref lv, .ref nm, .ref lb, .ref lk, .int 0])), (st, .inr (8, [.ref od, .ref pp, .ref le, .ref pa, .int 0]))] sz)) (va_A [(x, .inr (11, [.ref st, .ref lv, .ref nm, .ref lb, .ref lk, .int 0])), (st, .inr (8, [.ref od, .ref pp, .ref le, .ref pa, .int 0]))] sz)) 0 0 (va_A [(x, .inr (11, [.ref st, .ref lv, .ref nm, .ref lb, .ref lk, .int 0])), (st, .inr (8, [.ref od, .ref pp, .ref le, .ref pa, .int 0]))] sz) := by
  refine Met.ofW (cc := cX8_isUnique) (maxL := 2) (ret := (some .boolean)) (by decide) rfl ?_
  intro P0 E0 s m args below meth C9 s₁ B hml hv
  obtain ⟨rfl, hsz, hP, hK, hD0⟩ := hv
  have hx := B.exec
  have hb := B.bytes
  have hr := B.returns
  have hts := atoms_spec (ws := wsX8_isUnique) B.pre
  have hown : s.vm.findClass RX8 = some m.cls := findClass_of_methodNamed B.named
  have hlocks := B.notSynchronized
  subst hsz
  have hD := hD0.self (sz := s.heap.size)
  generalize hAe : va_A [(x, .inr (11, [.ref st, .ref lv, .ref nm, .ref lb, .ref lk, .int 0])), (st, .inr (8, [.ref od, .ref pp, .ref le, .ref pa, .int 0]))] s.heap.size = A at hD ⊢
  have hA : ∀ q : Nat, s.heap.size ≤ q → A q := fun q h => by rw [← hAe]; exact Or.inr h
  have hS : va_S A s.heap s.heap [] := va_S.rf
  have hl := lv_entry ([.ref x]) (n := 2) (Nat.le_of_ble_eq_true rfl)
  rw [lg_entry_eq]
  generalize (lg_sl ([.ref x]) ++ List.replicate (2 - (lg_sl ([.ref x])).length) Slot.unset).toArray = ls at hl ⊢
  have hl : lv_has ls 2 [(0, .ref x)] := hl
  refine lv_iconst (v := 0) hx hb dX8_isUnique_0 (by decide) ?_
  refine lv_istore_n (lv' := [(1, .int 0), (0, .ref x)]) hx hb dX8_isUnique_1 rfl hl (by decide) rfl (fun ls hl => ?_)
  refine lv_iload_n hx hb dX8_isUnique_2 rfl (lv_at hl 0 rfl) ?_
  refine lv_aload_n hx hb dX8_isUnique_3 rfl (lv_at hl 1 rfl) ?_
  refine va_get (D := D) (ci := 11) (v := .ref st) (C := RX8) (T := TX8) (N := 6) hx hb hts (fun _ h => List.mem_cons_of_mem _ (List.mem_append_left _ (List.mem_append_left _ (List.mem_append_left _ (List.mem_append_left _ (List.mem_append_left _ (List.mem_append_left _ (List.mem_append_left _ (List.mem_append_right _ h))))))))) hown hK hP 0 rfl rfl 0 (by decide) (hts (.fieldLink RX8 10 "NumberingTree" "standing" "LNumberingTree$Standing;") (List.mem_of_getElem? (i := 1) rfl)) (fun _ h9 => h9) rfl dX8_isUnique_4 ?_
  refine zc_i (wc := [(st, .inr (8, [.ref od, .ref pp, .ref le, .ref pa, .int 0]))]) (wr := [(x, .inr (11, [.ref st, .ref lv, .ref nm, .ref lb, .ref lk, .int 0]))]) (va_runV (As := []) (rest := [.int 0]) ⟨hx, hb, hml, hown, hts⟩ (k_amount l D cI st od pp le pa 0 s.heap.size) (cwV 0 hts gX8_isUnique_X5_amount rfl rfl rfl (by decide +kernel) ⟨Nat.le_of_ble_eq_true rfl, Nat.le_of_ble_eq_true rfl⟩) (zPV hK hP hD [1] rfl rfl [0] rfl 0 rfl rfl rfl) rfl rfl hl.1 rfl (lv_room (Nat.le_of_ble_eq_true rfl)) dX8_isUnique_7 ⟨Nat.le_of_ble_eq_true rfl, Nat.le_of_ble_eq_true rfl⟩) hP hD hS hA [1] [0] rfl rfl rfl (by decide) (fun r _ H locs hw hP hD hS => ?_)
  have hP : va_P D vwCl [(x, .inr (11, [.ref st, .ref lv, .ref nm, .ref lb, .ref lk, .int 0])), (st, .inr (8, [.ref od, .ref pp, .ref le, .ref pa, .int 0]))] H := hP
  have hD : va_D A [(x, .inr (11, [.ref st, .ref lv, .ref nm, .ref lb, .ref lk, .int 0])), (st, .inr (8, [.ref od, .ref pp, .ref le, .ref pa, .int 0]))] := hD
  subst hw
  refine lv_icmp_ge (tgt := 32) hx hb dX8_isUnique_10 (by decide) (fun _ => ?_) (fun q => absurd q (by decide))
  refine lv_iconst (v := 1) hx hb dX8_isUnique_32 (by decide) ?_
  obtain ⟨hP9, hD9⟩ := z_get hP hD [] (wc := []) rfl rfl
  exact W.zret (ty := .boolean) (v := 1) hx hb hr rfl (fun t ht hW => ⟨⟨1, (), rfl, rfl, by rw [ht]; exact hP9, hD9⟩, hS.F ht⟩) hS.2.2 dX8_isUnique_33

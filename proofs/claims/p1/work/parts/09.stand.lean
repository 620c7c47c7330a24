set_option maxHeartbeats 4000000 in
set_option maxRecDepth 100000 in
/-- Standing.amount() -/
theorem k_amount (l : Launch) (D : va_G) (cI : ClassId) (st od pp le pa : Nat) (k : Int32) (sz : Nat) : Met l yX5_amount wsX5_amount ({ frames := 0, cells := 0, slots := 0, locals := 0 }) (va_Pc [.ref st] (zPre D [(cI, .int)] [(st, .inr (8, [.ref od, .ref pp, .ref le, .ref pa, .int k]))] sz)) (va_Qi (fun rv (_ : Unit) => rv = k) (fun (_ : Unit) => zB D [(st, .inr (8, [.ref od, .ref pp, .ref le, .ref pa, .int k]))] (va_A [(st, .inr (8, [.ref od, .ref pp, .ref le, .ref pa, .int k]))] sz)) (va_A [(st, .inr (8, [.ref od, .ref pp, .ref le, .ref pa, .int k]))] sz)) 0 0 (va_A [(st, .inr (8, [.ref od, .ref pp, .ref le, .ref pa, .int k]))] sz) := by
  refine Met.ofW (cc := cX5_amount) (maxL := 1) (ret := (some .int)) (by decide) rfl ?_
  intro p e s m args below meth c s₁ B hml hv
  obtain ⟨rfl, hsz, hP, hK, hD0⟩ := hv
  have hx := B.exec
  have hb := B.bytes
  have hr := B.returns
  have hts := atoms_spec (ws := wsX5_amount) B.pre
  have hown : s.vm.findClass RX5 = some m.cls := findClass_of_methodNamed B.named
  have hlocks := B.notSynchronized
  subst hsz
  have hD := hD0.self (sz := s.heap.size)
  generalize hAe : va_A [(st, .inr (8, [.ref od, .ref pp, .ref le, .ref pa, .int k]))] s.heap.size = A at hD ⊢
  have hA : ∀ q : Nat, s.heap.size ≤ q → A q := fun q h => by rw [← hAe]; exact Or.inr h
  have hS : va_S A s.heap s.heap [] := va_S.rf
  have hl := lv_entry ([.ref st]) (n := 1) (Nat.le_of_ble_eq_true rfl)
  rw [lg_entry_eq]
  generalize (lg_sl ([.ref st]) ++ List.replicate (1 - (lg_sl ([.ref st])).length) Slot.unset).toArray = ls at hl ⊢
  have hl : lv_has ls 1 [(0, .ref st)] := hl
  refine lv_aload_n hx hb dX5_amount_0 rfl (lv_at hl 0 rfl) ?_
  refine va_get (D := D) (ci := 8) (v := .int k) (C := RX5) (T := TX5) (N := 5) hx hb hts (fun _ h => List.mem_cons_of_mem _ (List.mem_append_right _ h)) hown hK hP 0 rfl rfl 4 (by decide) (hts (.fieldLink RX5 29 "NumberingTree$Standing" "amount" "I") (List.mem_of_getElem? (i := 1) rfl)) (fun _ h9 => h9) rfl dX5_amount_1 ?_
  obtain ⟨hP9, hD9⟩ := z_get hP hD [0] (wc := [(st, .inr (8, [.ref od, .ref pp, .ref le, .ref pa, .int k]))]) rfl rfl
  exact W.iret (v := k) hx hb hr (fun t ht hW => ⟨⟨k, (), rfl, rfl, by rw [ht]; exact hP9, hD9⟩, hS.F ht⟩) hS.2.2 dX5_amount_4

set_option maxHeartbeats 4000000 in
set_option maxRecDepth 100000 in
/-- Standing.holds(i), fresh -/
theorem k_holds0 (l : Launch) (D : va_G) (cI : ClassId) (st od pp le pa ppA : Nat) (i : Int32) (sz : Nat) : Met l yX5_holds wsX5_holds ({ frames := 1, cells := 0, slots := 0, locals := 21 }) (va_Pc [.ref st, .int i] (zPre D [(cI, .int)] [(st, .inr (8, [.ref od, .ref pp, .ref le, .ref pa, .int 0])), (pp, .inr (7, [.ref ppA])), (ppA, .inl (cI, 60, .inl (fun _ => 0)))] sz)) (va_Qi (fun rv (_ : Unit) => rv = 0) (fun (_ : Unit) => zB D [(st, .inr (8, [.ref od, .ref pp, .ref le, .ref pa, .int 0])), (pp, .inr (7, [.ref ppA])), (ppA, .inl (cI, 60, .inl (fun _ => 0)))] (va_A [(st, .inr (8, [.ref od, .ref pp, .ref le, .ref pa, .int 0])), (pp, .inr (7, [.ref ppA])), (ppA, .inl (cI, 60, .inl (fun _ => 0)))] sz)) (va_A [(st, .inr (8, [.ref od, .ref pp, .ref le, .ref pa, .int 0])), (pp, .inr (7, [.ref ppA])), (ppA, .inl (cI, 60, .inl (fun _ => 0)))] sz)) 0 0 (va_A [(st, .inr (8, [.ref od, .ref pp, .ref le, .ref pa, .int 0])), (pp, .inr (7, [.ref ppA])), (ppA, .inl (cI, 60, .inl (fun _ => 0)))] sz) := by
  refine Met.ofW (cc := cX5_holds) (maxL := 2) (ret := (some .boolean)) (by decide) rfl ?_
  intro p e s m args below meth c s₁ B hml hv
  obtain ⟨rfl, hsz, hP, hK, hD0⟩ := hv
  have hx := B.exec
  have hb := B.bytes
  have hr := B.returns
  have hts := atoms_spec (ws := wsX5_holds) B.pre
  have hown : s.vm.findClass RX5 = some m.cls := findClass_of_methodNamed B.named
  have hlocks := B.notSynchronized
  subst hsz
  have hD := hD0.self (sz := s.heap.size)
  generalize hAe : va_A [(st, .inr (8, [.ref od, .ref pp, .ref le, .ref pa, .int 0])), (pp, .inr (7, [.ref ppA])), (ppA, .inl (cI, 60, .inl (fun _ => 0)))] s.heap.size = A at hD ⊢
  have hA : ∀ q : Nat, s.heap.size ≤ q → A q := fun q h => by rw [← hAe]; exact Or.inr h
  have hS : va_S A s.heap s.heap [] := va_S.rf
  have hl := lv_entry ([.ref st, .int i]) (n := 2) (Nat.le_of_ble_eq_true rfl)
  rw [lg_entry_eq]
  generalize (lg_sl ([.ref st, .int i]) ++ List.replicate (2 - (lg_sl ([.ref st, .int i])).length) Slot.unset).toArray = ls at hl ⊢
  have hl : lv_has ls 2 [(0, .ref st), (1, .int i)] := hl
  refine lv_aload_n hx hb dX5_holds_0 rfl (lv_at hl 0 rfl) ?_
  refine va_get (D := D) (ci := 8) (v := .ref pp) (C := RX5) (T := TX5) (N := 5) hx hb hts (fun _ h => List.mem_cons_of_mem _ (List.mem_append_left _ (List.mem_append_left _ (List.mem_append_right _ h)))) hown hK hP 0 rfl rfl 1 (by decide) (hts (.fieldLink RX5 20 "NumberingTree$Standing" "placesPlusOne" "LNumberingTree$Row;") (List.mem_of_getElem? (i := 1) rfl)) (fun _ h9 => h9) rfl dX5_holds_1 ?_
  refine lv_iload_n hx hb dX5_holds_4 rfl (lv_at hl 1 rfl) ?_
  refine zc_i (wc := [(pp, .inr (7, [.ref ppA])), (ppA, .inl (cI, 60, .inl (fun _ => 0)))]) (wr := [(st, .inr (8, [.ref od, .ref pp, .ref le, .ref pa, .int 0]))]) (va_runV (As := [.int i]) (rest := []) ⟨hx, hb, hml, hown, hts⟩ (k_at l D cI pp ppA 60 (fun _ => 0) i s.heap.size (by decide)) (cwV 1 hts gX5_holds_X4_at rfl rfl rfl (by decide +kernel) ⟨Nat.le_of_ble_eq_true rfl, Nat.le_of_ble_eq_true rfl⟩) (zPV hK hP hD [1, 2] rfl rfl [0] rfl 0 rfl rfl rfl) rfl rfl hl.1 rfl (lv_room (Nat.le_of_ble_eq_true rfl)) dX5_holds_5 ⟨Nat.le_of_ble_eq_true rfl, Nat.le_of_ble_eq_true rfl⟩) hP hD hS hA [1, 2] [0] rfl rfl rfl (by decide) (fun r _ H locs hw hP hD hS => ?_)
  have hP : va_P D vwCl [(st, .inr (8, [.ref od, .ref pp, .ref le, .ref pa, .int 0])), (pp, .inr (7, [.ref ppA])), (ppA, .inl (cI, 60, .inl (fun _ => 0)))] H := hP
  have hD : va_D A [(st, .inr (8, [.ref od, .ref pp, .ref le, .ref pa, .int 0])), (pp, .inr (7, [.ref ppA])), (ppA, .inl (cI, 60, .inl (fun _ => 0)))] := hD
  subst hw
  refine zt_i 0 (zAt_0 _ _) ?_
  refine lv_if_le (tgt := 15) hx hb dX5_holds_8 (by decide) (fun _ => ?_) (fun q => absurd q (by decide))
  refine lv_iconst (v := 0) hx hb dX5_holds_15 (by decide) ?_
  obtain ⟨hP9, hD9⟩ := z_get hP hD [0, 1, 2] (wc := [(st, .inr (8, [.ref od, .ref pp, .ref le, .ref pa, .int 0])), (pp, .inr (7, [.ref ppA])), (ppA, .inl (cI, 60, .inl (fun _ => 0)))]) rfl rfl
  exact W.zret (ty := .boolean) (v := 0) hx hb hr rfl (fun t ht hW => ⟨⟨0, (), rfl, rfl, by rw [ht]; exact hP9, hD9⟩, hS.F ht⟩) hS.2.2 dX5_holds_16

set_option maxHeartbeats 4000000 in
set_option maxRecDepth 100000 in
/-- requireStanding(i), fresh -/
theorem x_requireStanding (l : Launch) (D : va_G) (cI : ClassId) (x st lv nm lb lk od pp le pa ppA : Nat) (i : Int32) (sz : Nat) (hst : l.stackTraces = false) : vx_Met l yX8_requireStanding wsX8_requireStanding ({ frames := 6, cells := 1, slots := 6, locals := 89 }) (va_Pc [.ref x, .int i] (zPreX D [(cI, .int)] [(x, .inr (11, [.ref st, .ref lv, .ref nm, .ref lb, .ref lk, .int 0])), (st, .inr (8, [.ref od, .ref pp, .ref le, .ref pa, .int 0])), (pp, .inr (7, [.ref ppA])), (ppA, .inl (cI, 60, .inl (fun _ => 0)))] sz)) (va_Qv (fun (_ : Unit) => False) (fun _ _ => True) (va_A [(x, .inr (11, [.ref st, .ref lv, .ref nm, .ref lb, .ref lk, .int 0])), (st, .inr (8, [.ref od, .ref pp, .ref le, .ref pa, .int 0])), (pp, .inr (7, [.ref ppA])), (ppA, .inl (cI, 60, .inl (fun _ => 0)))] sz)) (zX "java/util/NoSuchElementException" (va_A [(x, .inr (11, [.ref st, .ref lv, .ref nm, .ref lb, .ref lk, .int 0])), (st, .inr (8, [.ref od, .ref pp, .ref le, .ref pa, .int 0])), (pp, .inr (7, [.ref ppA])), (ppA, .inl (cI, 60, .inl (fun _ => 0)))] sz)) 1 6 (va_A [(x, .inr (11, [.ref st, .ref lv, .ref nm, .ref lb, .ref lk, .int 0])), (st, .inr (8, [.ref od, .ref pp, .ref le, .ref pa, .int 0])), (pp, .inr (7, [.ref ppA])), (ppA, .inl (cI, 60, .inl (fun _ => 0)))] sz) := by
  refine vx_ofW (cc := cX8_requireStanding) (maxL := 2) (ret := none) (by decide) rfl ?_
  intro p e s m args below meth c s₁ B hml hout hv
  obtain ⟨rfl, ⟨hsz, hP, hK, hD0⟩, ⟨hU, hN⟩, hKB⟩ := hv
  have hx := B.exec
  have hb := B.bytes
  have hr := B.returns
  have hts := atoms_spec (ws := wsX8_requireStanding) B.pre
  have hown : s.vm.findClass RX8 = some m.cls := findClass_of_methodNamed B.named
  have hlocks := B.notSynchronized
  subst hsz
  have hD := hD0.self (sz := s.heap.size)
  generalize hAe : va_A [(x, .inr (11, [.ref st, .ref lv, .ref nm, .ref lb, .ref lk, .int 0])), (st, .inr (8, [.ref od, .ref pp, .ref le, .ref pa, .int 0])), (pp, .inr (7, [.ref ppA])), (ppA, .inl (cI, 60, .inl (fun _ => 0)))] s.heap.size = A at hD hU hN ⊢
  have hA : ∀ q : Nat, s.heap.size ≤ q → A q := fun q h => by rw [← hAe]; exact Or.inr h
  have hS : va_S A s.heap s.heap [] := va_S.rf
  have hl := lv_entry ([.ref x, .int i]) (n := 2) (Nat.le_of_ble_eq_true rfl)
  rw [lg_entry_eq]
  generalize (lg_sl ([.ref x, .int i]) ++ List.replicate (2 - (lg_sl ([.ref x, .int i])).length) Slot.unset).toArray = ls at hl ⊢
  have hl : lv_has ls 2 [(0, .ref x), (1, .int i)] := hl
  refine lv_aload_n hx hb dX8_requireStanding_0 rfl (lv_at hl 0 rfl) ?_
  refine va_get (D := D) (ci := 11) (v := .ref st) (C := RX8) (T := TX8) (N := 6) hx hb hts (fun _ h => List.mem_cons_of_mem _ (List.mem_append_left _ (List.mem_append_left _ (List.mem_append_left _ (List.mem_append_left _ (List.mem_append_right _ h)))))) hown hK hP 0 rfl rfl 0 (by decide) (hts (.fieldLink RX8 10 "NumberingTree" "standing" "LNumberingTree$Standing;") (List.mem_of_getElem? (i := 3) rfl)) (fun _ h9 => h9) rfl dX8_requireStanding_1 ?_
  refine lv_iload_n hx hb dX8_requireStanding_4 rfl (lv_at hl 1 rfl) ?_
  refine zc_i (wc := [(st, .inr (8, [.ref od, .ref pp, .ref le, .ref pa, .int 0])), (pp, .inr (7, [.ref ppA])), (ppA, .inl (cI, 60, .inl (fun _ => 0)))]) (wr := [(x, .inr (11, [.ref st, .ref lv, .ref nm, .ref lb, .ref lk, .int 0]))]) (va_runV (As := [.int i]) (rest := []) ⟨hx, hb, hml, hown, hts⟩ (k_holds0 l D cI st od pp le pa ppA i s.heap.size) (cwV 1 hts gX8_requireStanding_X5_holds rfl rfl rfl (by decide +kernel) ⟨Nat.le_of_ble_eq_true rfl, Nat.le_of_ble_eq_true rfl⟩) (zPV hK hP hD [1, 2, 3] rfl rfl [0] rfl 0 rfl rfl rfl) rfl rfl hl.1 rfl (lv_room (Nat.le_of_ble_eq_true rfl)) dX8_requireStanding_5 ⟨Nat.le_of_ble_eq_true rfl, Nat.le_of_ble_eq_true rfl⟩) hP hD hS hA [1, 2, 3] [0] rfl rfl rfl (by decide) (fun r _ H locs hw hP hD hS => ?_)
  have hP : va_P D vwCl [(x, .inr (11, [.ref st, .ref lv, .ref nm, .ref lb, .ref lk, .int 0])), (st, .inr (8, [.ref od, .ref pp, .ref le, .ref pa, .int 0])), (pp, .inr (7, [.ref ppA])), (ppA, .inl (cI, 60, .inl (fun _ => 0)))] H := hP
  have hD : va_D A [(x, .inr (11, [.ref st, .ref lv, .ref nm, .ref lb, .ref lk, .int 0])), (st, .inr (8, [.ref od, .ref pp, .ref le, .ref pa, .int 0])), (pp, .inr (7, [.ref ppA])), (ppA, .inl (cI, 60, .inl (fun _ => 0)))] := hD
  subst hw
  refine lv_if_ne (tgt := 19) hx hb dX8_requireStanding_8 (by decide) (fun q => absurd q (by decide)) (fun _ => ?_)
  exact vx_throw0 (own := RX8) (cls := "java/util/NoSuchElementException") (names := ["java/lang/RuntimeException", "java/lang/Exception"]) (ik := 204) (ic := 206) hx hb hst hown (by decide +kernel) (by decide +kernel) (hts (.classLink RX8 204 "java/util/NoSuchElementException") (List.mem_of_getElem? (i := 1) rfl)) (hts (.initialized "java/util/NoSuchElementException") (List.mem_of_getElem? (i := 2) rfl)) (zhat0 (fun w h => hts w ((fun _ h => List.mem_cons_of_mem _ (List.mem_append_left _ (List.mem_append_right _ h))) w h)) hKB (by decide +kernel)) (by decide +kernel) hU hN hS (hl.1.trans hml.symm) dX8_requireStanding_11 dX8_requireStanding_14 dX8_requireStanding_15 dX8_requireStanding_18 (fun x h => (hout x h).elim) (Nat.lt_of_succ_le (Nat.le_of_ble_eq_true rfl)) (Nat.le_of_ble_eq_true rfl) (Nat.le_of_ble_eq_true rfl) (Nat.le_of_ble_eq_true rfl) hlocks (fun t hvm hz hk => ⟨(), trivial, rfl, zF_throw hS hz hk⟩) hS.2.2 (Nat.le_of_ble_eq_true rfl) (Nat.le_of_ble_eq_true rfl)

set_option maxHeartbeats 4000000 in
set_option maxRecDepth 100000 in
/-- requireNumbered(i), fresh -/
theorem x_requireNumbered (l : Launch) (D : va_G) (cI : ClassId) (x st lv nm lb lk od pp le pa ppA : Nat) (i : Int32) (sz : Nat) (hst : l.stackTraces = false) : vx_Met l yX8_requireNumbered wsX8_requireNumbered ({ frames := 7, cells := 1, slots := 6, locals := 110 }) (va_Pc [.ref x, .int i] (zPreX D [(cI, .int)] [(x, .inr (11, [.ref st, .ref lv, .ref nm, .ref lb, .ref lk, .int 0])), (st, .inr (8, [.ref od, .ref pp, .ref le, .ref pa, .int 0])), (pp, .inr (7, [.ref ppA])), (ppA, .inl (cI, 60, .inl (fun _ => 0)))] sz)) (va_Qv (fun (_ : Unit) => False) (fun _ _ => True) (va_A [(x, .inr (11, [.ref st, .ref lv, .ref nm, .ref lb, .ref lk, .int 0])), (st, .inr (8, [.ref od, .ref pp, .ref le, .ref pa, .int 0])), (pp, .inr (7, [.ref ppA])), (ppA, .inl (cI, 60, .inl (fun _ => 0)))] sz)) (zX "java/util/NoSuchElementException" (va_A [(x, .inr (11, [.ref st, .ref lv, .ref nm, .ref lb, .ref lk, .int 0])), (st, .inr (8, [.ref od, .ref pp, .ref le, .ref pa, .int 0])), (pp, .inr (7, [.ref ppA])), (ppA, .inl (cI, 60, .inl (fun _ => 0)))] sz)) 1 6 (va_A [(x, .inr (11, [.ref st, .ref lv, .ref nm, .ref lb, .ref lk, .int 0])), (st, .inr (8, [.ref od, .ref pp, .ref le, .ref pa, .int 0])), (pp, .inr (7, [.ref ppA])), (ppA, .inl (cI, 60, .inl (fun _ => 0)))] sz) := by
  refine vx_ofW (cc := cX8_requireNumbered) (maxL := 2) (ret := none) (by decide) rfl ?_
  intro p e s m args below meth c s₁ B hml hout hv
  obtain ⟨rfl, ⟨hsz, hP, hK, hD0⟩, ⟨hU, hN⟩, hKB⟩ := hv
  have hx := B.exec
  have hb := B.bytes
  have hr := B.returns
  have hts := atoms_spec (ws := wsX8_requireNumbered) B.pre
  have hown : s.vm.findClass RX8 = some m.cls := findClass_of_methodNamed B.named
  have hlocks := B.notSynchronized
  subst hsz
  have hD := hD0.self (sz := s.heap.size)
  generalize hAe : va_A [(x, .inr (11, [.ref st, .ref lv, .ref nm, .ref lb, .ref lk, .int 0])), (st, .inr (8, [.ref od, .ref pp, .ref le, .ref pa, .int 0])), (pp, .inr (7, [.ref ppA])), (ppA, .inl (cI, 60, .inl (fun _ => 0)))] s.heap.size = A at hD hU hN ⊢
  have hA : ∀ q : Nat, s.heap.size ≤ q → A q := fun q h => by rw [← hAe]; exact Or.inr h
  have hS : va_S A s.heap s.heap [] := va_S.rf
  have hl := lv_entry ([.ref x, .int i]) (n := 2) (Nat.le_of_ble_eq_true rfl)
  rw [lg_entry_eq]
  generalize (lg_sl ([.ref x, .int i]) ++ List.replicate (2 - (lg_sl ([.ref x, .int i])).length) Slot.unset).toArray = ls at hl ⊢
  have hl : lv_has ls 2 [(0, .ref x), (1, .int i)] := hl
  refine lv_aload_n hx hb dX8_requireNumbered_0 rfl (lv_at hl 0 rfl) ?_
  refine lv_iload_n hx hb dX8_requireNumbered_1 rfl (lv_at hl 1 rfl) ?_
  refine zc_x (wc := [(x, .inr (11, [.ref st, .ref lv, .ref nm, .ref lb, .ref lk, .int 0])), (st, .inr (8, [.ref od, .ref pp, .ref le, .ref pa, .int 0])), (pp, .inr (7, [.ref ppA])), (ppA, .inl (cI, 60, .inl (fun _ => 0)))]) (wr := []) (fun st v t h => by obtain ⟨h1, -⟩ := h; obtain ⟨u, -, h2, -⟩ := h1; exact h2) (vx_runV (As := [.int i]) (rest := []) ⟨hx, hb, hml, hown, hts⟩ (x_requireStanding l D cI x st lv nm lb lk od pp le pa ppA i s.heap.size hst) (cwV 1 hts gX8_requireNumbered_X8_requireStanding rfl rfl rfl (by decide +kernel) ⟨Nat.le_of_ble_eq_true rfl, Nat.le_of_ble_eq_true rfl⟩) (zPVX ⟨hU, hN⟩ hKB hS hA hK hP hD [0, 1, 2, 3] rfl rfl [0] rfl 0 rfl rfl rfl) rfl rfl hl.1 rfl (lv_room (Nat.le_of_ble_eq_true rfl)) dX8_requireNumbered_2 ⟨Nat.le_of_ble_eq_true rfl, Nat.le_of_ble_eq_true rfl⟩) hP hD hS hA [0, 1, 2, 3] [] rfl rfl rfl (by decide) (fun ce q9 H locs hP hD hS hce hcv hcl => ?_)
  exact vx_out (fun x h => (hout x h).elim) hlocks hce hcv hcl (fun t ht hvm => ⟨(), trivial, rfl, hS.F ht⟩) hS.2.2 (Nat.le_refl _) (Nat.le_refl _)

set_option maxHeartbeats 4000000 in
set_option maxRecDepth 100000 in
/-- move, fresh -/
theorem x_move (l : Launch) (D : va_G) (cI : ClassId) (x st lv nm lb lk od pp le pa ppA : Nat) (i j : Int32) (sz : Nat) (hst : l.stackTraces = false) : vx_Met l yX8_move wsX8_move ({ frames := 7, cells := 1, slots := 6, locals := 110 }) (va_Pc [.ref x, .int i, .int j] (zPreX D [(cI, .int)] [(x, .inr (11, [.ref st, .ref lv, .ref nm, .ref lb, .ref lk, .int 0])), (st, .inr (8, [.ref od, .ref pp, .ref le, .ref pa, .int 0])), (pp, .inr (7, [.ref ppA])), (ppA, .inl (cI, 60, .inl (fun _ => 0)))] sz)) (va_Qi (fun _ (_ : Unit) => False) (fun _ _ => True) (va_A [(x, .inr (11, [.ref st, .ref lv, .ref nm, .ref lb, .ref lk, .int 0])), (st, .inr (8, [.ref od, .ref pp, .ref le, .ref pa, .int 0])), (pp, .inr (7, [.ref ppA])), (ppA, .inl (cI, 60, .inl (fun _ => 0)))] sz)) (zX "java/util/NoSuchElementException" (va_A [(x, .inr (11, [.ref st, .ref lv, .ref nm, .ref lb, .ref lk, .int 0])), (st, .inr (8, [.ref od, .ref pp, .ref le, .ref pa, .int 0])), (pp, .inr (7, [.ref ppA])), (ppA, .inl (cI, 60, .inl (fun _ => 0)))] sz)) 1 6 (va_A [(x, .inr (11, [.ref st, .ref lv, .ref nm, .ref lb, .ref lk, .int 0])), (st, .inr (8, [.ref od, .ref pp, .ref le, .ref pa, .int 0])), (pp, .inr (7, [.ref ppA])), (ppA, .inl (cI, 60, .inl (fun _ => 0)))] sz) := by
  refine vx_ofW (cc := cX8_move) (maxL := 4) (ret := (some .int)) (by decide) rfl ?_
  intro p e s m args below meth c s₁ B hml hout hv
  obtain ⟨rfl, ⟨hsz, hP, hK, hD0⟩, ⟨hU, hN⟩, hKB⟩ := hv
  have hx := B.exec
  have hb := B.bytes
  have hr := B.returns
  have hts := atoms_spec (ws := wsX8_move) B.pre
  have hown : s.vm.findClass RX8 = some m.cls := findClass_of_methodNamed B.named
  have hlocks := B.notSynchronized
  subst hsz
  have hD := hD0.self (sz := s.heap.size)
  generalize hAe : va_A [(x, .inr (11, [.ref st, .ref lv, .ref nm, .ref lb, .ref lk, .int 0])), (st, .inr (8, [.ref od, .ref pp, .ref le, .ref pa, .int 0])), (pp, .inr (7, [.ref ppA])), (ppA, .inl (cI, 60, .inl (fun _ => 0)))] s.heap.size = A at hD hU hN ⊢
  have hA : ∀ q : Nat, s.heap.size ≤ q → A q := fun q h => by rw [← hAe]; exact Or.inr h
  have hS : va_S A s.heap s.heap [] := va_S.rf
  have hl := lv_entry ([.ref x, .int i, .int j]) (n := 4) (Nat.le_of_ble_eq_true rfl)
  rw [lg_entry_eq]
  generalize (lg_sl ([.ref x, .int i, .int j]) ++ List.replicate (4 - (lg_sl ([.ref x, .int i, .int j])).length) Slot.unset).toArray = ls at hl ⊢
  have hl : lv_has ls 4 [(0, .ref x), (1, .int i), (2, .int j)] := hl
  refine lv_aload_n hx hb dX8_move_0 rfl (lv_at hl 0 rfl) ?_
  refine lv_iload_n hx hb dX8_move_1 rfl (lv_at hl 1 rfl) ?_
  refine zc_x (wc := [(x, .inr (11, [.ref st, .ref lv, .ref nm, .ref lb, .ref lk, .int 0])), (st, .inr (8, [.ref od, .ref pp, .ref le, .ref pa, .int 0])), (pp, .inr (7, [.ref ppA])), (ppA, .inl (cI, 60, .inl (fun _ => 0)))]) (wr := []) (fun st v t h => by obtain ⟨h1, -⟩ := h; obtain ⟨u, -, h2, -⟩ := h1; exact h2) (vx_runV (As := [.int i]) (rest := []) ⟨hx, hb, hml, hown, hts⟩ (x_requireStanding l D cI x st lv nm lb lk od pp le pa ppA i s.heap.size hst) (cwV 1 hts gX8_move_X8_requireStanding rfl rfl rfl (by decide +kernel) ⟨Nat.le_of_ble_eq_true rfl, Nat.le_of_ble_eq_true rfl⟩) (zPVX ⟨hU, hN⟩ hKB hS hA hK hP hD [0, 1, 2, 3] rfl rfl [0] rfl 0 rfl rfl rfl) rfl rfl hl.1 rfl (lv_room (Nat.le_of_ble_eq_true rfl)) dX8_move_2 ⟨Nat.le_of_ble_eq_true rfl, Nat.le_of_ble_eq_true rfl⟩) hP hD hS hA [0, 1, 2, 3] [] rfl rfl rfl (by decide) (fun ce q9 H locs hP hD hS hce hcv hcl => ?_)
  exact vx_out (fun x h => (hout x h).elim) hlocks hce hcv hcl (fun t ht hvm => ⟨(), trivial, rfl, hS.F ht⟩) hS.2.2 (Nat.le_refl _) (Nat.le_refl _)

set_option maxHeartbeats 4000000 in
set_option maxRecDepth 100000 in
/-- setLevel, fresh -/
theorem x_setLevel (l : Launch) (D : va_G) (cI : ClassId) (x st lv nm lb lk od pp le pa ppA : Nat) (i j : Int32) (sz : Nat) (hst : l.stackTraces = false) : vx_Met l yX8_setLevel wsX8_setLevel ({ frames := 7, cells := 1, slots := 6, locals := 110 }) (va_Pc [.ref x, .int i, .int j] (zPreX D [(cI, .int)] [(x, .inr (11, [.ref st, .ref lv, .ref nm, .ref lb, .ref lk, .int 0])), (st, .inr (8, [.ref od, .ref pp, .ref le, .ref pa, .int 0])), (pp, .inr (7, [.ref ppA])), (ppA, .inl (cI, 60, .inl (fun _ => 0)))] sz)) (va_Qi (fun _ (_ : Unit) => False) (fun _ _ => True) (va_A [(x, .inr (11, [.ref st, .ref lv, .ref nm, .ref lb, .ref lk, .int 0])), (st, .inr (8, [.ref od, .ref pp, .ref le, .ref pa, .int 0])), (pp, .inr (7, [.ref ppA])), (ppA, .inl (cI, 60, .inl (fun _ => 0)))] sz)) (zX "java/util/NoSuchElementException" (va_A [(x, .inr (11, [.ref st, .ref lv, .ref nm, .ref lb, .ref lk, .int 0])), (st, .inr (8, [.ref od, .ref pp, .ref le, .ref pa, .int 0])), (pp, .inr (7, [.ref ppA])), (ppA, .inl (cI, 60, .inl (fun _ => 0)))] sz)) 1 6 (va_A [(x, .inr (11, [.ref st, .ref lv, .ref nm, .ref lb, .ref lk, .int 0])), (st, .inr (8, [.ref od, .ref pp, .ref le, .ref pa, .int 0])), (pp, .inr (7, [.ref ppA])), (ppA, .inl (cI, 60, .inl (fun _ => 0)))] sz) := by
  refine vx_ofW (cc := cX8_setLevel) (maxL := 4) (ret := (some .int)) (by decide) rfl ?_
  intro p e s m args below meth c s₁ B hml hout hv
  obtain ⟨rfl, ⟨hsz, hP, hK, hD0⟩, ⟨hU, hN⟩, hKB⟩ := hv
  have hx := B.exec
  have hb := B.bytes
  have hr := B.returns
  have hts := atoms_spec (ws := wsX8_setLevel) B.pre
  have hown : s.vm.findClass RX8 = some m.cls := findClass_of_methodNamed B.named
  have hlocks := B.notSynchronized
  subst hsz
  have hD := hD0.self (sz := s.heap.size)
  generalize hAe : va_A [(x, .inr (11, [.ref st, .ref lv, .ref nm, .ref lb, .ref lk, .int 0])), (st, .inr (8, [.ref od, .ref pp, .ref le, .ref pa, .int 0])), (pp, .inr (7, [.ref ppA])), (ppA, .inl (cI, 60, .inl (fun _ => 0)))] s.heap.size = A at hD hU hN ⊢
  have hA : ∀ q : Nat, s.heap.size ≤ q → A q := fun q h => by rw [← hAe]; exact Or.inr h
  have hS : va_S A s.heap s.heap [] := va_S.rf
  have hl := lv_entry ([.ref x, .int i, .int j]) (n := 4) (Nat.le_of_ble_eq_true rfl)
  rw [lg_entry_eq]
  generalize (lg_sl ([.ref x, .int i, .int j]) ++ List.replicate (4 - (lg_sl ([.ref x, .int i, .int j])).length) Slot.unset).toArray = ls at hl ⊢
  have hl : lv_has ls 4 [(0, .ref x), (1, .int i), (2, .int j)] := hl
  refine lv_aload_n hx hb dX8_setLevel_0 rfl (lv_at hl 0 rfl) ?_
  refine lv_iload_n hx hb dX8_setLevel_1 rfl (lv_at hl 1 rfl) ?_
  refine zc_x (wc := [(x, .inr (11, [.ref st, .ref lv, .ref nm, .ref lb, .ref lk, .int 0])), (st, .inr (8, [.ref od, .ref pp, .ref le, .ref pa, .int 0])), (pp, .inr (7, [.ref ppA])), (ppA, .inl (cI, 60, .inl (fun _ => 0)))]) (wr := []) (fun st v t h => by obtain ⟨h1, -⟩ := h; obtain ⟨u, -, h2, -⟩ := h1; exact h2) (vx_runV (As := [.int i]) (rest := []) ⟨hx, hb, hml, hown, hts⟩ (x_requireStanding l D cI x st lv nm lb lk od pp le pa ppA i s.heap.size hst) (cwV 1 hts gX8_setLevel_X8_requireStanding rfl rfl rfl (by decide +kernel) ⟨Nat.le_of_ble_eq_true rfl, Nat.le_of_ble_eq_true rfl⟩) (zPVX ⟨hU, hN⟩ hKB hS hA hK hP hD [0, 1, 2, 3] rfl rfl [0] rfl 0 rfl rfl rfl) rfl rfl hl.1 rfl (lv_room (Nat.le_of_ble_eq_true rfl)) dX8_setLevel_2 ⟨Nat.le_of_ble_eq_true rfl, Nat.le_of_ble_eq_true rfl⟩) hP hD hS hA [0, 1, 2, 3] [] rfl rfl rfl (by decide) (fun ce q9 H locs hP hD hS hce hcv hcl => ?_)
  exact vx_out (fun x h => (hout x h).elim) hlocks hce hcv hcl (fun t ht hvm => ⟨(), trivial, rfl, hS.F ht⟩) hS.2.2 (Nat.le_refl _) (Nat.le_refl _)

set_option maxHeartbeats 4000000 in
set_option maxRecDepth 100000 in
/-- startAt, fresh -/
theorem x_startAt (l : Launch) (D : va_G) (cI : ClassId) (x st lv nm lb lk od pp le pa ppA : Nat) (i j : Int32) (sz : Nat) (hst : l.stackTraces = false) : vx_Met l yX8_startAt wsX8_startAt ({ frames := 7, cells := 1, slots := 6, locals := 110 }) (va_Pc [.ref x, .int i, .int j] (zPreX D [(cI, .int)] [(x, .inr (11, [.ref st, .ref lv, .ref nm, .ref lb, .ref lk, .int 0])), (st, .inr (8, [.ref od, .ref pp, .ref le, .ref pa, .int 0])), (pp, .inr (7, [.ref ppA])), (ppA, .inl (cI, 60, .inl (fun _ => 0)))] sz)) (va_Qi (fun _ (_ : Unit) => False) (fun _ _ => True) (va_A [(x, .inr (11, [.ref st, .ref lv, .ref nm, .ref lb, .ref lk, .int 0])), (st, .inr (8, [.ref od, .ref pp, .ref le, .ref pa, .int 0])), (pp, .inr (7, [.ref ppA])), (ppA, .inl (cI, 60, .inl (fun _ => 0)))] sz)) (zX "java/util/NoSuchElementException" (va_A [(x, .inr (11, [.ref st, .ref lv, .ref nm, .ref lb, .ref lk, .int 0])), (st, .inr (8, [.ref od, .ref pp, .ref le, .ref pa, .int 0])), (pp, .inr (7, [.ref ppA])), (ppA, .inl (cI, 60, .inl (fun _ => 0)))] sz)) 1 6 (va_A [(x, .inr (11, [.ref st, .ref lv, .ref nm, .ref lb, .ref lk, .int 0])), (st, .inr (8, [.ref od, .ref pp, .ref le, .ref pa, .int 0])), (pp, .inr (7, [.ref ppA])), (ppA, .inl (cI, 60, .inl (fun _ => 0)))] sz) := by
  refine vx_ofW (cc := cX8_startAt) (maxL := 4) (ret := (some .int)) (by decide) rfl ?_
  intro p e s m args below meth c s₁ B hml hout hv
  obtain ⟨rfl, ⟨hsz, hP, hK, hD0⟩, ⟨hU, hN⟩, hKB⟩ := hv
  have hx := B.exec
  have hb := B.bytes
  have hr := B.returns
  have hts := atoms_spec (ws := wsX8_startAt) B.pre
  have hown : s.vm.findClass RX8 = some m.cls := findClass_of_methodNamed B.named
  have hlocks := B.notSynchronized
  subst hsz
  have hD := hD0.self (sz := s.heap.size)
  generalize hAe : va_A [(x, .inr (11, [.ref st, .ref lv, .ref nm, .ref lb, .ref lk, .int 0])), (st, .inr (8, [.ref od, .ref pp, .ref le, .ref pa, .int 0])), (pp, .inr (7, [.ref ppA])), (ppA, .inl (cI, 60, .inl (fun _ => 0)))] s.heap.size = A at hD hU hN ⊢
  have hA : ∀ q : Nat, s.heap.size ≤ q → A q := fun q h => by rw [← hAe]; exact Or.inr h
  have hS : va_S A s.heap s.heap [] := va_S.rf
  have hl := lv_entry ([.ref x, .int i, .int j]) (n := 4) (Nat.le_of_ble_eq_true rfl)
  rw [lg_entry_eq]
  generalize (lg_sl ([.ref x, .int i, .int j]) ++ List.replicate (4 - (lg_sl ([.ref x, .int i, .int j])).length) Slot.unset).toArray = ls at hl ⊢
  have hl : lv_has ls 4 [(0, .ref x), (1, .int i), (2, .int j)] := hl
  refine lv_aload_n hx hb dX8_startAt_0 rfl (lv_at hl 0 rfl) ?_
  refine lv_iload_n hx hb dX8_startAt_1 rfl (lv_at hl 1 rfl) ?_
  refine zc_x (wc := [(x, .inr (11, [.ref st, .ref lv, .ref nm, .ref lb, .ref lk, .int 0])), (st, .inr (8, [.ref od, .ref pp, .ref le, .ref pa, .int 0])), (pp, .inr (7, [.ref ppA])), (ppA, .inl (cI, 60, .inl (fun _ => 0)))]) (wr := []) (fun st v t h => by obtain ⟨h1, -⟩ := h; obtain ⟨u, -, h2, -⟩ := h1; exact h2) (vx_runV (As := [.int i]) (rest := []) ⟨hx, hb, hml, hown, hts⟩ (x_requireStanding l D cI x st lv nm lb lk od pp le pa ppA i s.heap.size hst) (cwV 1 hts gX8_startAt_X8_requireStanding rfl rfl rfl (by decide +kernel) ⟨Nat.le_of_ble_eq_true rfl, Nat.le_of_ble_eq_true rfl⟩) (zPVX ⟨hU, hN⟩ hKB hS hA hK hP hD [0, 1, 2, 3] rfl rfl [0] rfl 0 rfl rfl rfl) rfl rfl hl.1 rfl (lv_room (Nat.le_of_ble_eq_true rfl)) dX8_startAt_2 ⟨Nat.le_of_ble_eq_true rfl, Nat.le_of_ble_eq_true rfl⟩) hP hD hS hA [0, 1, 2, 3] [] rfl rfl rfl (by decide) (fun ce q9 H locs hP hD hS hce hcv hcl => ?_)
  exact vx_out (fun x h => (hout x h).elim) hlocks hce hcv hcl (fun t ht hvm => ⟨(), trivial, rfl, hS.F ht⟩) hS.2.2 (Nat.le_refl _) (Nat.le_refl _)

set_option maxHeartbeats 4000000 in
set_option maxRecDepth 100000 in
/-- reserve, fresh -/
theorem x_reserve (l : Launch) (D : va_G) (cI : ClassId) (x st lv nm lb lk od pp le pa ppA : Nat) (i j : Int32) (sz : Nat) (hst : l.stackTraces = false) : vx_Met l yX8_reserve wsX8_reserve ({ frames := 7, cells := 1, slots := 6, locals := 110 }) (va_Pc [.ref x, .int i, .int j] (zPreX D [(cI, .int)] [(x, .inr (11, [.ref st, .ref lv, .ref nm, .ref lb, .ref lk, .int 0])), (st, .inr (8, [.ref od, .ref pp, .ref le, .ref pa, .int 0])), (pp, .inr (7, [.ref ppA])), (ppA, .inl (cI, 60, .inl (fun _ => 0)))] sz)) (va_Qi (fun _ (_ : Unit) => False) (fun _ _ => True) (va_A [(x, .inr (11, [.ref st, .ref lv, .ref nm, .ref lb, .ref lk, .int 0])), (st, .inr (8, [.ref od, .ref pp, .ref le, .ref pa, .int 0])), (pp, .inr (7, [.ref ppA])), (ppA, .inl (cI, 60, .inl (fun _ => 0)))] sz)) (zX "java/util/NoSuchElementException" (va_A [(x, .inr (11, [.ref st, .ref lv, .ref nm, .ref lb, .ref lk, .int 0])), (st, .inr (8, [.ref od, .ref pp, .ref le, .ref pa, .int 0])), (pp, .inr (7, [.ref ppA])), (ppA, .inl (cI, 60, .inl (fun _ => 0)))] sz)) 1 6 (va_A [(x, .inr (11, [.ref st, .ref lv, .ref nm, .ref lb, .ref lk, .int 0])), (st, .inr (8, [.ref od, .ref pp, .ref le, .ref pa, .int 0])), (pp, .inr (7, [.ref ppA])), (ppA, .inl (cI, 60, .inl (fun _ => 0)))] sz) := by
  refine vx_ofW (cc := cX8_reserve) (maxL := 4) (ret := (some .int)) (by decide) rfl ?_
  intro p e s m args below meth c s₁ B hml hout hv
  obtain ⟨rfl, ⟨hsz, hP, hK, hD0⟩, ⟨hU, hN⟩, hKB⟩ := hv
  have hx := B.exec
  have hb := B.bytes
  have hr := B.returns
  have hts := atoms_spec (ws := wsX8_reserve) B.pre
  have hown : s.vm.findClass RX8 = some m.cls := findClass_of_methodNamed B.named
  have hlocks := B.notSynchronized
  subst hsz
  have hD := hD0.self (sz := s.heap.size)
  generalize hAe : va_A [(x, .inr (11, [.ref st, .ref lv, .ref nm, .ref lb, .ref lk, .int 0])), (st, .inr (8, [.ref od, .ref pp, .ref le, .ref pa, .int 0])), (pp, .inr (7, [.ref ppA])), (ppA, .inl (cI, 60, .inl (fun _ => 0)))] s.heap.size = A at hD hU hN ⊢
  have hA : ∀ q : Nat, s.heap.size ≤ q → A q := fun q h => by rw [← hAe]; exact Or.inr h
  have hS : va_S A s.heap s.heap [] := va_S.rf
  have hl := lv_entry ([.ref x, .int i, .int j]) (n := 4) (Nat.le_of_ble_eq_true rfl)
  rw [lg_entry_eq]
  generalize (lg_sl ([.ref x, .int i, .int j]) ++ List.replicate (4 - (lg_sl ([.ref x, .int i, .int j])).length) Slot.unset).toArray = ls at hl ⊢
  have hl : lv_has ls 4 [(0, .ref x), (1, .int i), (2, .int j)] := hl
  refine lv_aload_n hx hb dX8_reserve_0 rfl (lv_at hl 0 rfl) ?_
  refine lv_iload_n hx hb dX8_reserve_1 rfl (lv_at hl 1 rfl) ?_
  refine zc_x (wc := [(x, .inr (11, [.ref st, .ref lv, .ref nm, .ref lb, .ref lk, .int 0])), (st, .inr (8, [.ref od, .ref pp, .ref le, .ref pa, .int 0])), (pp, .inr (7, [.ref ppA])), (ppA, .inl (cI, 60, .inl (fun _ => 0)))]) (wr := []) (fun st v t h => by obtain ⟨h1, -⟩ := h; obtain ⟨u, -, h2, -⟩ := h1; exact h2) (vx_runV (As := [.int i]) (rest := []) ⟨hx, hb, hml, hown, hts⟩ (x_requireStanding l D cI x st lv nm lb lk od pp le pa ppA i s.heap.size hst) (cwV 1 hts gX8_reserve_X8_requireStanding rfl rfl rfl (by decide +kernel) ⟨Nat.le_of_ble_eq_true rfl, Nat.le_of_ble_eq_true rfl⟩) (zPVX ⟨hU, hN⟩ hKB hS hA hK hP hD [0, 1, 2, 3] rfl rfl [0] rfl 0 rfl rfl rfl) rfl rfl hl.1 rfl (lv_room (Nat.le_of_ble_eq_true rfl)) dX8_reserve_2 ⟨Nat.le_of_ble_eq_true rfl, Nat.le_of_ble_eq_true rfl⟩) hP hD hS hA [0, 1, 2, 3] [] rfl rfl rfl (by decide) (fun ce q9 H locs hP hD hS hce hcv hcl => ?_)
  exact vx_out (fun x h => (hout x h).elim) hlocks hce hcv hcl (fun t ht hvm => ⟨(), trivial, rfl, hS.F ht⟩) hS.2.2 (Nat.le_refl _) (Nat.le_refl _)

set_option maxHeartbeats 4000000 in
set_option maxRecDepth 100000 in
/-- refer, fresh -/
theorem x_refer (l : Launch) (D : va_G) (cI : ClassId) (x st lv nm lb lk od pp le pa ppA : Nat) (i j : Int32) (sz : Nat) (hst : l.stackTraces = false) : vx_Met l yX8_refer wsX8_refer ({ frames := 7, cells := 1, slots := 6, locals := 110 }) (va_Pc [.ref x, .int i, .int j] (zPreX D [(cI, .int)] [(x, .inr (11, [.ref st, .ref lv, .ref nm, .ref lb, .ref lk, .int 0])), (st, .inr (8, [.ref od, .ref pp, .ref le, .ref pa, .int 0])), (pp, .inr (7, [.ref ppA])), (ppA, .inl (cI, 60, .inl (fun _ => 0)))] sz)) (va_Qi (fun _ (_ : Unit) => False) (fun _ _ => True) (va_A [(x, .inr (11, [.ref st, .ref lv, .ref nm, .ref lb, .ref lk, .int 0])), (st, .inr (8, [.ref od, .ref pp, .ref le, .ref pa, .int 0])), (pp, .inr (7, [.ref ppA])), (ppA, .inl (cI, 60, .inl (fun _ => 0)))] sz)) (zX "java/util/NoSuchElementException" (va_A [(x, .inr (11, [.ref st, .ref lv, .ref nm, .ref lb, .ref lk, .int 0])), (st, .inr (8, [.ref od, .ref pp, .ref le, .ref pa, .int 0])), (pp, .inr (7, [.ref ppA])), (ppA, .inl (cI, 60, .inl (fun _ => 0)))] sz)) 1 6 (va_A [(x, .inr (11, [.ref st, .ref lv, .ref nm, .ref lb, .ref lk, .int 0])), (st, .inr (8, [.ref od, .ref pp, .ref le, .ref pa, .int 0])), (pp, .inr (7, [.ref ppA])), (ppA, .inl (cI, 60, .inl (fun _ => 0)))] sz) := by
  refine vx_ofW (cc := cX8_refer) (maxL := 3) (ret := (some .int)) (by decide) rfl ?_
  intro p e s m args below meth c s₁ B hml hout hv
  obtain ⟨rfl, ⟨hsz, hP, hK, hD0⟩, ⟨hU, hN⟩, hKB⟩ := hv
  have hx := B.exec
  have hb := B.bytes
  have hr := B.returns
  have hts := atoms_spec (ws := wsX8_refer) B.pre
  have hown : s.vm.findClass RX8 = some m.cls := findClass_of_methodNamed B.named
  have hlocks := B.notSynchronized
  subst hsz
  have hD := hD0.self (sz := s.heap.size)
  generalize hAe : va_A [(x, .inr (11, [.ref st, .ref lv, .ref nm, .ref lb, .ref lk, .int 0])), (st, .inr (8, [.ref od, .ref pp, .ref le, .ref pa, .int 0])), (pp, .inr (7, [.ref ppA])), (ppA, .inl (cI, 60, .inl (fun _ => 0)))] s.heap.size = A at hD hU hN ⊢
  have hA : ∀ q : Nat, s.heap.size ≤ q → A q := fun q h => by rw [← hAe]; exact Or.inr h
  have hS : va_S A s.heap s.heap [] := va_S.rf
  have hl := lv_entry ([.ref x, .int i, .int j]) (n := 3) (Nat.le_of_ble_eq_true rfl)
  rw [lg_entry_eq]
  generalize (lg_sl ([.ref x, .int i, .int j]) ++ List.replicate (3 - (lg_sl ([.ref x, .int i, .int j])).length) Slot.unset).toArray = ls at hl ⊢
  have hl : lv_has ls 3 [(0, .ref x), (1, .int i), (2, .int j)] := hl
  refine lv_aload_n hx hb dX8_refer_0 rfl (lv_at hl 0 rfl) ?_
  refine lv_iload_n hx hb dX8_refer_1 rfl (lv_at hl 1 rfl) ?_
  refine zc_x (wc := [(x, .inr (11, [.ref st, .ref lv, .ref nm, .ref lb, .ref lk, .int 0])), (st, .inr (8, [.ref od, .ref pp, .ref le, .ref pa, .int 0])), (pp, .inr (7, [.ref ppA])), (ppA, .inl (cI, 60, .inl (fun _ => 0)))]) (wr := []) (fun st v t h => by obtain ⟨h1, -⟩ := h; obtain ⟨u, -, h2, -⟩ := h1; exact h2) (vx_runV (As := [.int i]) (rest := []) ⟨hx, hb, hml, hown, hts⟩ (x_requireStanding l D cI x st lv nm lb lk od pp le pa ppA i s.heap.size hst) (cwV 1 hts gX8_refer_X8_requireStanding rfl rfl rfl (by decide +kernel) ⟨Nat.le_of_ble_eq_true rfl, Nat.le_of_ble_eq_true rfl⟩) (zPVX ⟨hU, hN⟩ hKB hS hA hK hP hD [0, 1, 2, 3] rfl rfl [0] rfl 0 rfl rfl rfl) rfl rfl hl.1 rfl (lv_room (Nat.le_of_ble_eq_true rfl)) dX8_refer_2 ⟨Nat.le_of_ble_eq_true rfl, Nat.le_of_ble_eq_true rfl⟩) hP hD hS hA [0, 1, 2, 3] [] rfl rfl rfl (by decide) (fun ce q9 H locs hP hD hS hce hcv hcl => ?_)
  exact vx_out (fun x h => (hout x h).elim) hlocks hce hcv hcl (fun t ht hvm => ⟨(), trivial, rfl, hS.F ht⟩) hS.2.2 (Nat.le_refl _) (Nat.le_refl _)

set_option maxHeartbeats 4000000 in
set_option maxRecDepth 100000 in
/-- remove, fresh -/
theorem x_remove (l : Launch) (D : va_G) (cI : ClassId) (x st lv nm lb lk od pp le pa ppA : Nat) (i : Int32) (sz : Nat) (hst : l.stackTraces = false) : vx_Met l yX8_remove wsX8_remove ({ frames := 7, cells := 1, slots := 6, locals := 110 }) (va_Pc [.ref x, .int i] (zPreX D [(cI, .int)] [(x, .inr (11, [.ref st, .ref lv, .ref nm, .ref lb, .ref lk, .int 0])), (st, .inr (8, [.ref od, .ref pp, .ref le, .ref pa, .int 0])), (pp, .inr (7, [.ref ppA])), (ppA, .inl (cI, 60, .inl (fun _ => 0)))] sz)) (va_Qi (fun _ (_ : Unit) => False) (fun _ _ => True) (va_A [(x, .inr (11, [.ref st, .ref lv, .ref nm, .ref lb, .ref lk, .int 0])), (st, .inr (8, [.ref od, .ref pp, .ref le, .ref pa, .int 0])), (pp, .inr (7, [.ref ppA])), (ppA, .inl (cI, 60, .inl (fun _ => 0)))] sz)) (zX "java/util/NoSuchElementException" (va_A [(x, .inr (11, [.ref st, .ref lv, .ref nm, .ref lb, .ref lk, .int 0])), (st, .inr (8, [.ref od, .ref pp, .ref le, .ref pa, .int 0])), (pp, .inr (7, [.ref ppA])), (ppA, .inl (cI, 60, .inl (fun _ => 0)))] sz)) 1 6 (va_A [(x, .inr (11, [.ref st, .ref lv, .ref nm, .ref lb, .ref lk, .int 0])), (st, .inr (8, [.ref od, .ref pp, .ref le, .ref pa, .int 0])), (pp, .inr (7, [.ref ppA])), (ppA, .inl (cI, 60, .inl (fun _ => 0)))] sz) := by
  refine vx_ofW (cc := cX8_remove) (maxL := 3) (ret := (some .int)) (by decide) rfl ?_
  intro p e s m args below meth c s₁ B hml hout hv
  obtain ⟨rfl, ⟨hsz, hP, hK, hD0⟩, ⟨hU, hN⟩, hKB⟩ := hv
  have hx := B.exec
  have hb := B.bytes
  have hr := B.returns
  have hts := atoms_spec (ws := wsX8_remove) B.pre
  have hown : s.vm.findClass RX8 = some m.cls := findClass_of_methodNamed B.named
  have hlocks := B.notSynchronized
  subst hsz
  have hD := hD0.self (sz := s.heap.size)
  generalize hAe : va_A [(x, .inr (11, [.ref st, .ref lv, .ref nm, .ref lb, .ref lk, .int 0])), (st, .inr (8, [.ref od, .ref pp, .ref le, .ref pa, .int 0])), (pp, .inr (7, [.ref ppA])), (ppA, .inl (cI, 60, .inl (fun _ => 0)))] s.heap.size = A at hD hU hN ⊢
  have hA : ∀ q : Nat, s.heap.size ≤ q → A q := fun q h => by rw [← hAe]; exact Or.inr h
  have hS : va_S A s.heap s.heap [] := va_S.rf
  have hl := lv_entry ([.ref x, .int i]) (n := 3) (Nat.le_of_ble_eq_true rfl)
  rw [lg_entry_eq]
  generalize (lg_sl ([.ref x, .int i]) ++ List.replicate (3 - (lg_sl ([.ref x, .int i])).length) Slot.unset).toArray = ls at hl ⊢
  have hl : lv_has ls 3 [(0, .ref x), (1, .int i)] := hl
  refine lv_aload_n hx hb dX8_remove_0 rfl (lv_at hl 0 rfl) ?_
  refine lv_iload_n hx hb dX8_remove_1 rfl (lv_at hl 1 rfl) ?_
  refine zc_x (wc := [(x, .inr (11, [.ref st, .ref lv, .ref nm, .ref lb, .ref lk, .int 0])), (st, .inr (8, [.ref od, .ref pp, .ref le, .ref pa, .int 0])), (pp, .inr (7, [.ref ppA])), (ppA, .inl (cI, 60, .inl (fun _ => 0)))]) (wr := []) (fun st v t h => by obtain ⟨h1, -⟩ := h; obtain ⟨u, -, h2, -⟩ := h1; exact h2) (vx_runV (As := [.int i]) (rest := []) ⟨hx, hb, hml, hown, hts⟩ (x_requireStanding l D cI x st lv nm lb lk od pp le pa ppA i s.heap.size hst) (cwV 1 hts gX8_remove_X8_requireStanding rfl rfl rfl (by decide +kernel) ⟨Nat.le_of_ble_eq_true rfl, Nat.le_of_ble_eq_true rfl⟩) (zPVX ⟨hU, hN⟩ hKB hS hA hK hP hD [0, 1, 2, 3] rfl rfl [0] rfl 0 rfl rfl rfl) rfl rfl hl.1 rfl (lv_room (Nat.le_of_ble_eq_true rfl)) dX8_remove_2 ⟨Nat.le_of_ble_eq_true rfl, Nat.le_of_ble_eq_true rfl⟩) hP hD hS hA [0, 1, 2, 3] [] rfl rfl rfl (by decide) (fun ce q9 H locs hP hD hS hce hcv hcl => ?_)
  exact vx_out (fun x h => (hout x h).elim) hlocks hce hcv hcl (fun t ht hvm => ⟨(), trivial, rfl, hS.F ht⟩) hS.2.2 (Nat.le_refl _) (Nat.le_refl _)

set_option maxHeartbeats 4000000 in
set_option maxRecDepth 100000 in
/-- placeOf, fresh -/
theorem x_placeOf (l : Launch) (D : va_G) (cI : ClassId) (x st lv nm lb lk od pp le pa ppA : Nat) (i : Int32) (sz : Nat) (hst : l.stackTraces = false) : vx_Met l yX8_placeOf wsX8_placeOf ({ frames := 7, cells := 1, slots := 6, locals := 110 }) (va_Pc [.ref x, .int i] (zPreX D [(cI, .int)] [(x, .inr (11, [.ref st, .ref lv, .ref nm, .ref lb, .ref lk, .int 0])), (st, .inr (8, [.ref od, .ref pp, .ref le, .ref pa, .int 0])), (pp, .inr (7, [.ref ppA])), (ppA, .inl (cI, 60, .inl (fun _ => 0)))] sz)) (va_Qi (fun _ (_ : Unit) => False) (fun _ _ => True) (va_A [(x, .inr (11, [.ref st, .ref lv, .ref nm, .ref lb, .ref lk, .int 0])), (st, .inr (8, [.ref od, .ref pp, .ref le, .ref pa, .int 0])), (pp, .inr (7, [.ref ppA])), (ppA, .inl (cI, 60, .inl (fun _ => 0)))] sz)) (zX "java/util/NoSuchElementException" (va_A [(x, .inr (11, [.ref st, .ref lv, .ref nm, .ref lb, .ref lk, .int 0])), (st, .inr (8, [.ref od, .ref pp, .ref le, .ref pa, .int 0])), (pp, .inr (7, [.ref ppA])), (ppA, .inl (cI, 60, .inl (fun _ => 0)))] sz)) 1 6 (va_A [(x, .inr (11, [.ref st, .ref lv, .ref nm, .ref lb, .ref lk, .int 0])), (st, .inr (8, [.ref od, .ref pp, .ref le, .ref pa, .int 0])), (pp, .inr (7, [.ref ppA])), (ppA, .inl (cI, 60, .inl (fun _ => 0)))] sz) := by
  refine vx_ofW (cc := cX8_placeOf) (maxL := 2) (ret := (some .int)) (by decide) rfl ?_
  intro p e s m args below meth c s₁ B hml hout hv
  obtain ⟨rfl, ⟨hsz, hP, hK, hD0⟩, ⟨hU, hN⟩, hKB⟩ := hv
  have hx := B.exec
  have hb := B.bytes
  have hr := B.returns
  have hts := atoms_spec (ws := wsX8_placeOf) B.pre
  have hown : s.vm.findClass RX8 = some m.cls := findClass_of_methodNamed B.named
  have hlocks := B.notSynchronized
  subst hsz
  have hD := hD0.self (sz := s.heap.size)
  generalize hAe : va_A [(x, .inr (11, [.ref st, .ref lv, .ref nm, .ref lb, .ref lk, .int 0])), (st, .inr (8, [.ref od, .ref pp, .ref le, .ref pa, .int 0])), (pp, .inr (7, [.ref ppA])), (ppA, .inl (cI, 60, .inl (fun _ => 0)))] s.heap.size = A at hD hU hN ⊢
  have hA : ∀ q : Nat, s.heap.size ≤ q → A q := fun q h => by rw [← hAe]; exact Or.inr h
  have hS : va_S A s.heap s.heap [] := va_S.rf
  have hl := lv_entry ([.ref x, .int i]) (n := 2) (Nat.le_of_ble_eq_true rfl)
  rw [lg_entry_eq]
  generalize (lg_sl ([.ref x, .int i]) ++ List.replicate (2 - (lg_sl ([.ref x, .int i])).length) Slot.unset).toArray = ls at hl ⊢
  have hl : lv_has ls 2 [(0, .ref x), (1, .int i)] := hl
  refine lv_aload_n hx hb dX8_placeOf_0 rfl (lv_at hl 0 rfl) ?_
  refine lv_iload_n hx hb dX8_placeOf_1 rfl (lv_at hl 1 rfl) ?_
  refine zc_x (wc := [(x, .inr (11, [.ref st, .ref lv, .ref nm, .ref lb, .ref lk, .int 0])), (st, .inr (8, [.ref od, .ref pp, .ref le, .ref pa, .int 0])), (pp, .inr (7, [.ref ppA])), (ppA, .inl (cI, 60, .inl (fun _ => 0)))]) (wr := []) (fun st v t h => by obtain ⟨h1, -⟩ := h; obtain ⟨u, -, h2, -⟩ := h1; exact h2) (vx_runV (As := [.int i]) (rest := []) ⟨hx, hb, hml, hown, hts⟩ (x_requireStanding l D cI x st lv nm lb lk od pp le pa ppA i s.heap.size hst) (cwV 1 hts gX8_placeOf_X8_requireStanding rfl rfl rfl (by decide +kernel) ⟨Nat.le_of_ble_eq_true rfl, Nat.le_of_ble_eq_true rfl⟩) (zPVX ⟨hU, hN⟩ hKB hS hA hK hP hD [0, 1, 2, 3] rfl rfl [0] rfl 0 rfl rfl rfl) rfl rfl hl.1 rfl (lv_room (Nat.le_of_ble_eq_true rfl)) dX8_placeOf_2 ⟨Nat.le_of_ble_eq_true rfl, Nat.le_of_ble_eq_true rfl⟩) hP hD hS hA [0, 1, 2, 3] [] rfl rfl rfl (by decide) (fun ce q9 H locs hP hD hS hce hcv hcl => ?_)
  exact vx_out (fun x h => (hout x h).elim) hlocks hce hcv hcl (fun t ht hvm => ⟨(), trivial, rfl, hS.F ht⟩) hS.2.2 (Nat.le_refl _) (Nat.le_refl _)

set_option maxHeartbeats 4000000 in
set_option maxRecDepth 100000 in
/-- levelOf, fresh -/
theorem x_levelOf (l : Launch) (D : va_G) (cI : ClassId) (x st lv nm lb lk od pp le pa ppA : Nat) (i : Int32) (sz : Nat) (hst : l.stackTraces = false) : vx_Met l yX8_levelOf wsX8_levelOf ({ frames := 7, cells := 1, slots := 6, locals := 110 }) (va_Pc [.ref x, .int i] (zPreX D [(cI, .int)] [(x, .inr (11, [.ref st, .ref lv, .ref nm, .ref lb, .ref lk, .int 0])), (st, .inr (8, [.ref od, .ref pp, .ref le, .ref pa, .int 0])), (pp, .inr (7, [.ref ppA])), (ppA, .inl (cI, 60, .inl (fun _ => 0)))] sz)) (va_Qi (fun _ (_ : Unit) => False) (fun _ _ => True) (va_A [(x, .inr (11, [.ref st, .ref lv, .ref nm, .ref lb, .ref lk, .int 0])), (st, .inr (8, [.ref od, .ref pp, .ref le, .ref pa, .int 0])), (pp, .inr (7, [.ref ppA])), (ppA, .inl (cI, 60, .inl (fun _ => 0)))] sz)) (zX "java/util/NoSuchElementException" (va_A [(x, .inr (11, [.ref st, .ref lv, .ref nm, .ref lb, .ref lk, .int 0])), (st, .inr (8, [.ref od, .ref pp, .ref le, .ref pa, .int 0])), (pp, .inr (7, [.ref ppA])), (ppA, .inl (cI, 60, .inl (fun _ => 0)))] sz)) 1 6 (va_A [(x, .inr (11, [.ref st, .ref lv, .ref nm, .ref lb, .ref lk, .int 0])), (st, .inr (8, [.ref od, .ref pp, .ref le, .ref pa, .int 0])), (pp, .inr (7, [.ref ppA])), (ppA, .inl (cI, 60, .inl (fun _ => 0)))] sz) := by
  refine vx_ofW (cc := cX8_levelOf) (maxL := 2) (ret := (some .int)) (by decide) rfl ?_
  intro p e s m args below meth c s₁ B hml hout hv
  obtain ⟨rfl, ⟨hsz, hP, hK, hD0⟩, ⟨hU, hN⟩, hKB⟩ := hv
  have hx := B.exec
  have hb := B.bytes
  have hr := B.returns
  have hts := atoms_spec (ws := wsX8_levelOf) B.pre
  have hown : s.vm.findClass RX8 = some m.cls := findClass_of_methodNamed B.named
  have hlocks := B.notSynchronized
  subst hsz
  have hD := hD0.self (sz := s.heap.size)
  generalize hAe : va_A [(x, .inr (11, [.ref st, .ref lv, .ref nm, .ref lb, .ref lk, .int 0])), (st, .inr (8, [.ref od, .ref pp, .ref le, .ref pa, .int 0])), (pp, .inr (7, [.ref ppA])), (ppA, .inl (cI, 60, .inl (fun _ => 0)))] s.heap.size = A at hD hU hN ⊢
  have hA : ∀ q : Nat, s.heap.size ≤ q → A q := fun q h => by rw [← hAe]; exact Or.inr h
  have hS : va_S A s.heap s.heap [] := va_S.rf
  have hl := lv_entry ([.ref x, .int i]) (n := 2) (Nat.le_of_ble_eq_true rfl)
  rw [lg_entry_eq]
  generalize (lg_sl ([.ref x, .int i]) ++ List.replicate (2 - (lg_sl ([.ref x, .int i])).length) Slot.unset).toArray = ls at hl ⊢
  have hl : lv_has ls 2 [(0, .ref x), (1, .int i)] := hl
  refine lv_aload_n hx hb dX8_levelOf_0 rfl (lv_at hl 0 rfl) ?_
  refine lv_iload_n hx hb dX8_levelOf_1 rfl (lv_at hl 1 rfl) ?_
  refine zc_x (wc := [(x, .inr (11, [.ref st, .ref lv, .ref nm, .ref lb, .ref lk, .int 0])), (st, .inr (8, [.ref od, .ref pp, .ref le, .ref pa, .int 0])), (pp, .inr (7, [.ref ppA])), (ppA, .inl (cI, 60, .inl (fun _ => 0)))]) (wr := []) (fun st v t h => by obtain ⟨h1, -⟩ := h; obtain ⟨u, -, h2, -⟩ := h1; exact h2) (vx_runV (As := [.int i]) (rest := []) ⟨hx, hb, hml, hown, hts⟩ (x_requireStanding l D cI x st lv nm lb lk od pp le pa ppA i s.heap.size hst) (cwV 1 hts gX8_levelOf_X8_requireStanding rfl rfl rfl (by decide +kernel) ⟨Nat.le_of_ble_eq_true rfl, Nat.le_of_ble_eq_true rfl⟩) (zPVX ⟨hU, hN⟩ hKB hS hA hK hP hD [0, 1, 2, 3] rfl rfl [0] rfl 0 rfl rfl rfl) rfl rfl hl.1 rfl (lv_room (Nat.le_of_ble_eq_true rfl)) dX8_levelOf_2 ⟨Nat.le_of_ble_eq_true rfl, Nat.le_of_ble_eq_true rfl⟩) hP hD hS hA [0, 1, 2, 3] [] rfl rfl rfl (by decide) (fun ce q9 H locs hP hD hS hce hcv hcl => ?_)
  exact vx_out (fun x h => (hout x h).elim) hlocks hce hcv hcl (fun t ht hvm => ⟨(), trivial, rfl, hS.F ht⟩) hS.2.2 (Nat.le_refl _) (Nat.le_refl _)

set_option maxHeartbeats 4000000 in
set_option maxRecDepth 100000 in
/-- below, fresh -/
theorem x_below (l : Launch) (D : va_G) (cI : ClassId) (x st lv nm lb lk od pp le pa ppA : Nat) (i : Int32) (sz : Nat) (hst : l.stackTraces = false) : vx_Met l yX8_below wsX8_below ({ frames := 7, cells := 1, slots := 6, locals := 110 }) (va_Pc [.ref x, .int i] (zPreX D [(cI, .int)] [(x, .inr (11, [.ref st, .ref lv, .ref nm, .ref lb, .ref lk, .int 0])), (st, .inr (8, [.ref od, .ref pp, .ref le, .ref pa, .int 0])), (pp, .inr (7, [.ref ppA])), (ppA, .inl (cI, 60, .inl (fun _ => 0)))] sz)) (va_Qi (fun _ (_ : Unit) => False) (fun _ _ => True) (va_A [(x, .inr (11, [.ref st, .ref lv, .ref nm, .ref lb, .ref lk, .int 0])), (st, .inr (8, [.ref od, .ref pp, .ref le, .ref pa, .int 0])), (pp, .inr (7, [.ref ppA])), (ppA, .inl (cI, 60, .inl (fun _ => 0)))] sz)) (zX "java/util/NoSuchElementException" (va_A [(x, .inr (11, [.ref st, .ref lv, .ref nm, .ref lb, .ref lk, .int 0])), (st, .inr (8, [.ref od, .ref pp, .ref le, .ref pa, .int 0])), (pp, .inr (7, [.ref ppA])), (ppA, .inl (cI, 60, .inl (fun _ => 0)))] sz)) 1 6 (va_A [(x, .inr (11, [.ref st, .ref lv, .ref nm, .ref lb, .ref lk, .int 0])), (st, .inr (8, [.ref od, .ref pp, .ref le, .ref pa, .int 0])), (pp, .inr (7, [.ref ppA])), (ppA, .inl (cI, 60, .inl (fun _ => 0)))] sz) := by
  refine vx_ofW (cc := cX8_below) (maxL := 4) (ret := (some .int)) (by decide) rfl ?_
  intro p e s m args below meth c s₁ B hml hout hv
  obtain ⟨rfl, ⟨hsz, hP, hK, hD0⟩, ⟨hU, hN⟩, hKB⟩ := hv
  have hx := B.exec
  have hb := B.bytes
  have hr := B.returns
  have hts := atoms_spec (ws := wsX8_below) B.pre
  have hown : s.vm.findClass RX8 = some m.cls := findClass_of_methodNamed B.named
  have hlocks := B.notSynchronized
  subst hsz
  have hD := hD0.self (sz := s.heap.size)
  generalize hAe : va_A [(x, .inr (11, [.ref st, .ref lv, .ref nm, .ref lb, .ref lk, .int 0])), (st, .inr (8, [.ref od, .ref pp, .ref le, .ref pa, .int 0])), (pp, .inr (7, [.ref ppA])), (ppA, .inl (cI, 60, .inl (fun _ => 0)))] s.heap.size = A at hD hU hN ⊢
  have hA : ∀ q : Nat, s.heap.size ≤ q → A q := fun q h => by rw [← hAe]; exact Or.inr h
  have hS : va_S A s.heap s.heap [] := va_S.rf
  have hl := lv_entry ([.ref x, .int i]) (n := 4) (Nat.le_of_ble_eq_true rfl)
  rw [lg_entry_eq]
  generalize (lg_sl ([.ref x, .int i]) ++ List.replicate (4 - (lg_sl ([.ref x, .int i])).length) Slot.unset).toArray = ls at hl ⊢
  have hl : lv_has ls 4 [(0, .ref x), (1, .int i)] := hl
  refine lv_aload_n hx hb dX8_below_0 rfl (lv_at hl 0 rfl) ?_
  refine lv_iload_n hx hb dX8_below_1 rfl (lv_at hl 1 rfl) ?_
  refine zc_x (wc := [(x, .inr (11, [.ref st, .ref lv, .ref nm, .ref lb, .ref lk, .int 0])), (st, .inr (8, [.ref od, .ref pp, .ref le, .ref pa, .int 0])), (pp, .inr (7, [.ref ppA])), (ppA, .inl (cI, 60, .inl (fun _ => 0)))]) (wr := []) (fun st v t h => by obtain ⟨h1, -⟩ := h; obtain ⟨u, -, h2, -⟩ := h1; exact h2) (vx_runV (As := [.int i]) (rest := []) ⟨hx, hb, hml, hown, hts⟩ (x_requireStanding l D cI x st lv nm lb lk od pp le pa ppA i s.heap.size hst) (cwV 1 hts gX8_below_X8_requireStanding rfl rfl rfl (by decide +kernel) ⟨Nat.le_of_ble_eq_true rfl, Nat.le_of_ble_eq_true rfl⟩) (zPVX ⟨hU, hN⟩ hKB hS hA hK hP hD [0, 1, 2, 3] rfl rfl [0] rfl 0 rfl rfl rfl) rfl rfl hl.1 rfl (lv_room (Nat.le_of_ble_eq_true rfl)) dX8_below_2 ⟨Nat.le_of_ble_eq_true rfl, Nat.le_of_ble_eq_true rfl⟩) hP hD hS hA [0, 1, 2, 3] [] rfl rfl rfl (by decide) (fun ce q9 H locs hP hD hS hce hcv hcl => ?_)
  exact vx_out (fun x h => (hout x h).elim) hlocks hce hcv hcl (fun t ht hvm => ⟨(), trivial, rfl, hS.F ht⟩) hS.2.2 (Nat.le_refl _) (Nat.le_refl _)

set_option maxHeartbeats 4000000 in
set_option maxRecDepth 100000 in
/-- isFrozen, fresh -/
theorem x_isFrozen (l : Launch) (D : va_G) (cI : ClassId) (x st lv nm lb lk od pp le pa ppA : Nat) (i : Int32) (sz : Nat) (hst : l.stackTraces = false) : vx_Met l yX8_isFrozen wsX8_isFrozen ({ frames := 7, cells := 1, slots := 6, locals := 110 }) (va_Pc [.ref x, .int i] (zPreX D [(cI, .int)] [(x, .inr (11, [.ref st, .ref lv, .ref nm, .ref lb, .ref lk, .int 0])), (st, .inr (8, [.ref od, .ref pp, .ref le, .ref pa, .int 0])), (pp, .inr (7, [.ref ppA])), (ppA, .inl (cI, 60, .inl (fun _ => 0)))] sz)) (va_Qi (fun _ (_ : Unit) => False) (fun _ _ => True) (va_A [(x, .inr (11, [.ref st, .ref lv, .ref nm, .ref lb, .ref lk, .int 0])), (st, .inr (8, [.ref od, .ref pp, .ref le, .ref pa, .int 0])), (pp, .inr (7, [.ref ppA])), (ppA, .inl (cI, 60, .inl (fun _ => 0)))] sz)) (zX "java/util/NoSuchElementException" (va_A [(x, .inr (11, [.ref st, .ref lv, .ref nm, .ref lb, .ref lk, .int 0])), (st, .inr (8, [.ref od, .ref pp, .ref le, .ref pa, .int 0])), (pp, .inr (7, [.ref ppA])), (ppA, .inl (cI, 60, .inl (fun _ => 0)))] sz)) 1 6 (va_A [(x, .inr (11, [.ref st, .ref lv, .ref nm, .ref lb, .ref lk, .int 0])), (st, .inr (8, [.ref od, .ref pp, .ref le, .ref pa, .int 0])), (pp, .inr (7, [.ref ppA])), (ppA, .inl (cI, 60, .inl (fun _ => 0)))] sz) := by
  refine vx_ofW (cc := cX8_isFrozen) (maxL := 2) (ret := (some .boolean)) (by decide) rfl ?_
  intro p e s m args below meth c s₁ B hml hout hv
  obtain ⟨rfl, ⟨hsz, hP, hK, hD0⟩, ⟨hU, hN⟩, hKB⟩ := hv
  have hx := B.exec
  have hb := B.bytes
  have hr := B.returns
  have hts := atoms_spec (ws := wsX8_isFrozen) B.pre
  have hown : s.vm.findClass RX8 = some m.cls := findClass_of_methodNamed B.named
  have hlocks := B.notSynchronized
  subst hsz
  have hD := hD0.self (sz := s.heap.size)
  generalize hAe : va_A [(x, .inr (11, [.ref st, .ref lv, .ref nm, .ref lb, .ref lk, .int 0])), (st, .inr (8, [.ref od, .ref pp, .ref le, .ref pa, .int 0])), (pp, .inr (7, [.ref ppA])), (ppA, .inl (cI, 60, .inl (fun _ => 0)))] s.heap.size = A at hD hU hN ⊢
  have hA : ∀ q : Nat, s.heap.size ≤ q → A q := fun q h => by rw [← hAe]; exact Or.inr h
  have hS : va_S A s.heap s.heap [] := va_S.rf
  have hl := lv_entry ([.ref x, .int i]) (n := 2) (Nat.le_of_ble_eq_true rfl)
  rw [lg_entry_eq]
  generalize (lg_sl ([.ref x, .int i]) ++ List.replicate (2 - (lg_sl ([.ref x, .int i])).length) Slot.unset).toArray = ls at hl ⊢
  have hl : lv_has ls 2 [(0, .ref x), (1, .int i)] := hl
  refine lv_aload_n hx hb dX8_isFrozen_0 rfl (lv_at hl 0 rfl) ?_
  refine lv_iload_n hx hb dX8_isFrozen_1 rfl (lv_at hl 1 rfl) ?_
  refine zc_x (wc := [(x, .inr (11, [.ref st, .ref lv, .ref nm, .ref lb, .ref lk, .int 0])), (st, .inr (8, [.ref od, .ref pp, .ref le, .ref pa, .int 0])), (pp, .inr (7, [.ref ppA])), (ppA, .inl (cI, 60, .inl (fun _ => 0)))]) (wr := []) (fun st v t h => by obtain ⟨h1, -⟩ := h; obtain ⟨u, -, h2, -⟩ := h1; exact h2) (vx_runV (As := [.int i]) (rest := []) ⟨hx, hb, hml, hown, hts⟩ (x_requireStanding l D cI x st lv nm lb lk od pp le pa ppA i s.heap.size hst) (cwV 1 hts gX8_isFrozen_X8_requireStanding rfl rfl rfl (by decide +kernel) ⟨Nat.le_of_ble_eq_true rfl, Nat.le_of_ble_eq_true rfl⟩) (zPVX ⟨hU, hN⟩ hKB hS hA hK hP hD [0, 1, 2, 3] rfl rfl [0] rfl 0 rfl rfl rfl) rfl rfl hl.1 rfl (lv_room (Nat.le_of_ble_eq_true rfl)) dX8_isFrozen_2 ⟨Nat.le_of_ble_eq_true rfl, Nat.le_of_ble_eq_true rfl⟩) hP hD hS hA [0, 1, 2, 3] [] rfl rfl rfl (by decide) (fun ce q9 H locs hP hD hS hce hcv hcl => ?_)
  exact vx_out (fun x h => (hout x h).elim) hlocks hce hcv hcl (fun t ht hvm => ⟨(), trivial, rfl, hS.F ht⟩) hS.2.2 (Nat.le_refl _) (Nat.le_refl _)

set_option maxHeartbeats 4000000 in
set_option maxRecDepth 100000 in
/-- parentOf, fresh -/
theorem x_parentOf (l : Launch) (D : va_G) (cI : ClassId) (x st lv nm lb lk od pp le pa ppA : Nat) (i : Int32) (sz : Nat) (hst : l.stackTraces = false) : vx_Met l yX8_parentOf wsX8_parentOf ({ frames := 8, cells := 1, slots := 6, locals := 131 }) (va_Pc [.ref x, .int i] (zPreX D [(cI, .int)] [(x, .inr (11, [.ref st, .ref lv, .ref nm, .ref lb, .ref lk, .int 0])), (st, .inr (8, [.ref od, .ref pp, .ref le, .ref pa, .int 0])), (pp, .inr (7, [.ref ppA])), (ppA, .inl (cI, 60, .inl (fun _ => 0)))] sz)) (va_Qi (fun _ (_ : Unit) => False) (fun _ _ => True) (va_A [(x, .inr (11, [.ref st, .ref lv, .ref nm, .ref lb, .ref lk, .int 0])), (st, .inr (8, [.ref od, .ref pp, .ref le, .ref pa, .int 0])), (pp, .inr (7, [.ref ppA])), (ppA, .inl (cI, 60, .inl (fun _ => 0)))] sz)) (zX "java/util/NoSuchElementException" (va_A [(x, .inr (11, [.ref st, .ref lv, .ref nm, .ref lb, .ref lk, .int 0])), (st, .inr (8, [.ref od, .ref pp, .ref le, .ref pa, .int 0])), (pp, .inr (7, [.ref ppA])), (ppA, .inl (cI, 60, .inl (fun _ => 0)))] sz)) 1 6 (va_A [(x, .inr (11, [.ref st, .ref lv, .ref nm, .ref lb, .ref lk, .int 0])), (st, .inr (8, [.ref od, .ref pp, .ref le, .ref pa, .int 0])), (pp, .inr (7, [.ref ppA])), (ppA, .inl (cI, 60, .inl (fun _ => 0)))] sz) := by
  refine vx_ofW (cc := cX8_parentOf) (maxL := 2) (ret := (some .int)) (by decide) rfl ?_
  intro p e s m args below meth c s₁ B hml hout hv
  obtain ⟨rfl, ⟨hsz, hP, hK, hD0⟩, ⟨hU, hN⟩, hKB⟩ := hv
  have hx := B.exec
  have hb := B.bytes
  have hr := B.returns
  have hts := atoms_spec (ws := wsX8_parentOf) B.pre
  have hown : s.vm.findClass RX8 = some m.cls := findClass_of_methodNamed B.named
  have hlocks := B.notSynchronized
  subst hsz
  have hD := hD0.self (sz := s.heap.size)
  generalize hAe : va_A [(x, .inr (11, [.ref st, .ref lv, .ref nm, .ref lb, .ref lk, .int 0])), (st, .inr (8, [.ref od, .ref pp, .ref le, .ref pa, .int 0])), (pp, .inr (7, [.ref ppA])), (ppA, .inl (cI, 60, .inl (fun _ => 0)))] s.heap.size = A at hD hU hN ⊢
  have hA : ∀ q : Nat, s.heap.size ≤ q → A q := fun q h => by rw [← hAe]; exact Or.inr h
  have hS : va_S A s.heap s.heap [] := va_S.rf
  have hl := lv_entry ([.ref x, .int i]) (n := 2) (Nat.le_of_ble_eq_true rfl)
  rw [lg_entry_eq]
  generalize (lg_sl ([.ref x, .int i]) ++ List.replicate (2 - (lg_sl ([.ref x, .int i])).length) Slot.unset).toArray = ls at hl ⊢
  have hl : lv_has ls 2 [(0, .ref x), (1, .int i)] := hl
  refine lv_aload_n hx hb dX8_parentOf_0 rfl (lv_at hl 0 rfl) ?_
  refine lv_iload_n hx hb dX8_parentOf_1 rfl (lv_at hl 1 rfl) ?_
  refine zc_x (wc := [(x, .inr (11, [.ref st, .ref lv, .ref nm, .ref lb, .ref lk, .int 0])), (st, .inr (8, [.ref od, .ref pp, .ref le, .ref pa, .int 0])), (pp, .inr (7, [.ref ppA])), (ppA, .inl (cI, 60, .inl (fun _ => 0)))]) (wr := []) (fun st v t h => by obtain ⟨h1, -⟩ := h; obtain ⟨u, -, h2, -⟩ := h1; exact h2) (vx_runV (As := [.int i]) (rest := []) ⟨hx, hb, hml, hown, hts⟩ (x_requireNumbered l D cI x st lv nm lb lk od pp le pa ppA i s.heap.size hst) (cwV 1 hts gX8_parentOf_X8_requireNumbered rfl rfl rfl (by decide +kernel) ⟨Nat.le_of_ble_eq_true rfl, Nat.le_of_ble_eq_true rfl⟩) (zPVX ⟨hU, hN⟩ hKB hS hA hK hP hD [0, 1, 2, 3] rfl rfl [0] rfl 0 rfl rfl rfl) rfl rfl hl.1 rfl (lv_room (Nat.le_of_ble_eq_true rfl)) dX8_parentOf_2 ⟨Nat.le_of_ble_eq_true rfl, Nat.le_of_ble_eq_true rfl⟩) hP hD hS hA [0, 1, 2, 3] [] rfl rfl rfl (by decide) (fun ce q9 H locs hP hD hS hce hcv hcl => ?_)
  exact vx_out (fun x h => (hout x h).elim) hlocks hce hcv hcl (fun t ht hvm => ⟨(), trivial, rfl, hS.F ht⟩) hS.2.2 (Nat.le_refl _) (Nat.le_refl _)

set_option maxHeartbeats 4000000 in
set_option maxRecDepth 100000 in
/-- numberOf, fresh -/
theorem x_numberOf (l : Launch) (D : va_G) (cI : ClassId) (x st lv nm lb lk od pp le pa ppA : Nat) (i : Int32) (sz : Nat) (hst : l.stackTraces = false) : vx_Met l yX8_numberOf wsX8_numberOf ({ frames := 8, cells := 1, slots := 6, locals := 131 }) (va_Pc [.ref x, .int i] (zPreX D [(cI, .int)] [(x, .inr (11, [.ref st, .ref lv, .ref nm, .ref lb, .ref lk, .int 0])), (st, .inr (8, [.ref od, .ref pp, .ref le, .ref pa, .int 0])), (pp, .inr (7, [.ref ppA])), (ppA, .inl (cI, 60, .inl (fun _ => 0)))] sz)) (va_Qi (fun _ (_ : Unit) => False) (fun _ _ => True) (va_A [(x, .inr (11, [.ref st, .ref lv, .ref nm, .ref lb, .ref lk, .int 0])), (st, .inr (8, [.ref od, .ref pp, .ref le, .ref pa, .int 0])), (pp, .inr (7, [.ref ppA])), (ppA, .inl (cI, 60, .inl (fun _ => 0)))] sz)) (zX "java/util/NoSuchElementException" (va_A [(x, .inr (11, [.ref st, .ref lv, .ref nm, .ref lb, .ref lk, .int 0])), (st, .inr (8, [.ref od, .ref pp, .ref le, .ref pa, .int 0])), (pp, .inr (7, [.ref ppA])), (ppA, .inl (cI, 60, .inl (fun _ => 0)))] sz)) 1 6 (va_A [(x, .inr (11, [.ref st, .ref lv, .ref nm, .ref lb, .ref lk, .int 0])), (st, .inr (8, [.ref od, .ref pp, .ref le, .ref pa, .int 0])), (pp, .inr (7, [.ref ppA])), (ppA, .inl (cI, 60, .inl (fun _ => 0)))] sz) := by
  refine vx_ofW (cc := cX8_numberOf) (maxL := 2) (ret := (some .int)) (by decide) rfl ?_
  intro p e s m args below meth c s₁ B hml hout hv
  obtain ⟨rfl, ⟨hsz, hP, hK, hD0⟩, ⟨hU, hN⟩, hKB⟩ := hv
  have hx := B.exec
  have hb := B.bytes
  have hr := B.returns
  have hts := atoms_spec (ws := wsX8_numberOf) B.pre
  have hown : s.vm.findClass RX8 = some m.cls := findClass_of_methodNamed B.named
  have hlocks := B.notSynchronized
  subst hsz
  have hD := hD0.self (sz := s.heap.size)
  generalize hAe : va_A [(x, .inr (11, [.ref st, .ref lv, .ref nm, .ref lb, .ref lk, .int 0])), (st, .inr (8, [.ref od, .ref pp, .ref le, .ref pa, .int 0])), (pp, .inr (7, [.ref ppA])), (ppA, .inl (cI, 60, .inl (fun _ => 0)))] s.heap.size = A at hD hU hN ⊢
  have hA : ∀ q : Nat, s.heap.size ≤ q → A q := fun q h => by rw [← hAe]; exact Or.inr h
  have hS : va_S A s.heap s.heap [] := va_S.rf
  have hl := lv_entry ([.ref x, .int i]) (n := 2) (Nat.le_of_ble_eq_true rfl)
  rw [lg_entry_eq]
  generalize (lg_sl ([.ref x, .int i]) ++ List.replicate (2 - (lg_sl ([.ref x, .int i])).length) Slot.unset).toArray = ls at hl ⊢
  have hl : lv_has ls 2 [(0, .ref x), (1, .int i)] := hl
  refine lv_aload_n hx hb dX8_numberOf_0 rfl (lv_at hl 0 rfl) ?_
  refine lv_iload_n hx hb dX8_numberOf_1 rfl (lv_at hl 1 rfl) ?_
  refine zc_x (wc := [(x, .inr (11, [.ref st, .ref lv, .ref nm, .ref lb, .ref lk, .int 0])), (st, .inr (8, [.ref od, .ref pp, .ref le, .ref pa, .int 0])), (pp, .inr (7, [.ref ppA])), (ppA, .inl (cI, 60, .inl (fun _ => 0)))]) (wr := []) (fun st v t h => by obtain ⟨h1, -⟩ := h; obtain ⟨u, -, h2, -⟩ := h1; exact h2) (vx_runV (As := [.int i]) (rest := []) ⟨hx, hb, hml, hown, hts⟩ (x_requireNumbered l D cI x st lv nm lb lk od pp le pa ppA i s.heap.size hst) (cwV 1 hts gX8_numberOf_X8_requireNumbered rfl rfl rfl (by decide +kernel) ⟨Nat.le_of_ble_eq_true rfl, Nat.le_of_ble_eq_true rfl⟩) (zPVX ⟨hU, hN⟩ hKB hS hA hK hP hD [0, 1, 2, 3] rfl rfl [0] rfl 0 rfl rfl rfl) rfl rfl hl.1 rfl (lv_room (Nat.le_of_ble_eq_true rfl)) dX8_numberOf_2 ⟨Nat.le_of_ble_eq_true rfl, Nat.le_of_ble_eq_true rfl⟩) hP hD hS hA [0, 1, 2, 3] [] rfl rfl rfl (by decide) (fun ce q9 H locs hP hD hS hce hcv hcl => ?_)
  exact vx_out (fun x h => (hout x h).elim) hlocks hce hcv hcl (fun t ht hvm => ⟨(), trivial, rfl, hS.F ht⟩) hS.2.2 (Nat.le_refl _) (Nat.le_refl _)

set_option maxHeartbeats 4000000 in
set_option maxRecDepth 100000 in
/-- lettersOf, fresh -/
theorem x_lettersOf (l : Launch) (D : va_G) (cI : ClassId) (x st lv nm lb lk od pp le pa ppA : Nat) (i : Int32) (sz : Nat) (hst : l.stackTraces = false) : vx_Met l yX8_lettersOf wsX8_lettersOf ({ frames := 8, cells := 1, slots := 6, locals := 131 }) (va_Pc [.ref x, .int i] (zPreX D [(cI, .int)] [(x, .inr (11, [.ref st, .ref lv, .ref nm, .ref lb, .ref lk, .int 0])), (st, .inr (8, [.ref od, .ref pp, .ref le, .ref pa, .int 0])), (pp, .inr (7, [.ref ppA])), (ppA, .inl (cI, 60, .inl (fun _ => 0)))] sz)) (va_Qi (fun _ (_ : Unit) => False) (fun _ _ => True) (va_A [(x, .inr (11, [.ref st, .ref lv, .ref nm, .ref lb, .ref lk, .int 0])), (st, .inr (8, [.ref od, .ref pp, .ref le, .ref pa, .int 0])), (pp, .inr (7, [.ref ppA])), (ppA, .inl (cI, 60, .inl (fun _ => 0)))] sz)) (zX "java/util/NoSuchElementException" (va_A [(x, .inr (11, [.ref st, .ref lv, .ref nm, .ref lb, .ref lk, .int 0])), (st, .inr (8, [.ref od, .ref pp, .ref le, .ref pa, .int 0])), (pp, .inr (7, [.ref ppA])), (ppA, .inl (cI, 60, .inl (fun _ => 0)))] sz)) 1 6 (va_A [(x, .inr (11, [.ref st, .ref lv, .ref nm, .ref lb, .ref lk, .int 0])), (st, .inr (8, [.ref od, .ref pp, .ref le, .ref pa, .int 0])), (pp, .inr (7, [.ref ppA])), (ppA, .inl (cI, 60, .inl (fun _ => 0)))] sz) := by
  refine vx_ofW (cc := cX8_lettersOf) (maxL := 2) (ret := (some .int)) (by decide) rfl ?_
  intro p e s m args below meth c s₁ B hml hout hv
  obtain ⟨rfl, ⟨hsz, hP, hK, hD0⟩, ⟨hU, hN⟩, hKB⟩ := hv
  have hx := B.exec
  have hb := B.bytes
  have hr := B.returns
  have hts := atoms_spec (ws := wsX8_lettersOf) B.pre
  have hown : s.vm.findClass RX8 = some m.cls := findClass_of_methodNamed B.named
  have hlocks := B.notSynchronized
  subst hsz
  have hD := hD0.self (sz := s.heap.size)
  generalize hAe : va_A [(x, .inr (11, [.ref st, .ref lv, .ref nm, .ref lb, .ref lk, .int 0])), (st, .inr (8, [.ref od, .ref pp, .ref le, .ref pa, .int 0])), (pp, .inr (7, [.ref ppA])), (ppA, .inl (cI, 60, .inl (fun _ => 0)))] s.heap.size = A at hD hU hN ⊢
  have hA : ∀ q : Nat, s.heap.size ≤ q → A q := fun q h => by rw [← hAe]; exact Or.inr h
  have hS : va_S A s.heap s.heap [] := va_S.rf
  have hl := lv_entry ([.ref x, .int i]) (n := 2) (Nat.le_of_ble_eq_true rfl)
  rw [lg_entry_eq]
  generalize (lg_sl ([.ref x, .int i]) ++ List.replicate (2 - (lg_sl ([.ref x, .int i])).length) Slot.unset).toArray = ls at hl ⊢
  have hl : lv_has ls 2 [(0, .ref x), (1, .int i)] := hl
  refine lv_aload_n hx hb dX8_lettersOf_0 rfl (lv_at hl 0 rfl) ?_
  refine lv_iload_n hx hb dX8_lettersOf_1 rfl (lv_at hl 1 rfl) ?_
  refine zc_x (wc := [(x, .inr (11, [.ref st, .ref lv, .ref nm, .ref lb, .ref lk, .int 0])), (st, .inr (8, [.ref od, .ref pp, .ref le, .ref pa, .int 0])), (pp, .inr (7, [.ref ppA])), (ppA, .inl (cI, 60, .inl (fun _ => 0)))]) (wr := []) (fun st v t h => by obtain ⟨h1, -⟩ := h; obtain ⟨u, -, h2, -⟩ := h1; exact h2) (vx_runV (As := [.int i]) (rest := []) ⟨hx, hb, hml, hown, hts⟩ (x_requireNumbered l D cI x st lv nm lb lk od pp le pa ppA i s.heap.size hst) (cwV 1 hts gX8_lettersOf_X8_requireNumbered rfl rfl rfl (by decide +kernel) ⟨Nat.le_of_ble_eq_true rfl, Nat.le_of_ble_eq_true rfl⟩) (zPVX ⟨hU, hN⟩ hKB hS hA hK hP hD [0, 1, 2, 3] rfl rfl [0] rfl 0 rfl rfl rfl) rfl rfl hl.1 rfl (lv_room (Nat.le_of_ble_eq_true rfl)) dX8_lettersOf_2 ⟨Nat.le_of_ble_eq_true rfl, Nat.le_of_ble_eq_true rfl⟩) hP hD hS hA [0, 1, 2, 3] [] rfl rfl rfl (by decide) (fun ce q9 H locs hP hD hS hce hcv hcl => ?_)
  exact vx_out (fun x h => (hout x h).elim) hlocks hce hcv hcl (fun t ht hvm => ⟨(), trivial, rfl, hS.F ht⟩) hS.2.2 (Nat.le_refl _) (Nat.le_refl _)

set_option maxHeartbeats 4000000 in
set_option maxRecDepth 100000 in
/-- numberByWalk, fresh -/
theorem x_numberByWalk (l : Launch) (D : va_G) (cI : ClassId) (x st lv nm lb lk od pp le pa ppA : Nat) (i : Int32) (sz : Nat) (hst : l.stackTraces = false) : vx_Met l yX8_numberByWalk wsX8_numberByWalk ({ frames := 8, cells := 1, slots := 6, locals := 131 }) (va_Pc [.ref x, .int i] (zPreX D [(cI, .int)] [(x, .inr (11, [.ref st, .ref lv, .ref nm, .ref lb, .ref lk, .int 0])), (st, .inr (8, [.ref od, .ref pp, .ref le, .ref pa, .int 0])), (pp, .inr (7, [.ref ppA])), (ppA, .inl (cI, 60, .inl (fun _ => 0)))] sz)) (va_Qi (fun _ (_ : Unit) => False) (fun _ _ => True) (va_A [(x, .inr (11, [.ref st, .ref lv, .ref nm, .ref lb, .ref lk, .int 0])), (st, .inr (8, [.ref od, .ref pp, .ref le, .ref pa, .int 0])), (pp, .inr (7, [.ref ppA])), (ppA, .inl (cI, 60, .inl (fun _ => 0)))] sz)) (zX "java/util/NoSuchElementException" (va_A [(x, .inr (11, [.ref st, .ref lv, .ref nm, .ref lb, .ref lk, .int 0])), (st, .inr (8, [.ref od, .ref pp, .ref le, .ref pa, .int 0])), (pp, .inr (7, [.ref ppA])), (ppA, .inl (cI, 60, .inl (fun _ => 0)))] sz)) 1 6 (va_A [(x, .inr (11, [.ref st, .ref lv, .ref nm, .ref lb, .ref lk, .int 0])), (st, .inr (8, [.ref od, .ref pp, .ref le, .ref pa, .int 0])), (pp, .inr (7, [.ref ppA])), (ppA, .inl (cI, 60, .inl (fun _ => 0)))] sz) := by
  refine vx_ofW (cc := cX8_numberByWalk) (maxL := 2) (ret := (some .int)) (by decide) rfl ?_
  intro p e s m args below meth c s₁ B hml hout hv
  obtain ⟨rfl, ⟨hsz, hP, hK, hD0⟩, ⟨hU, hN⟩, hKB⟩ := hv
  have hx := B.exec
  have hb := B.bytes
  have hr := B.returns
  have hts := atoms_spec (ws := wsX8_numberByWalk) B.pre
  have hown : s.vm.findClass RX8 = some m.cls := findClass_of_methodNamed B.named
  have hlocks := B.notSynchronized
  subst hsz
  have hD := hD0.self (sz := s.heap.size)
  generalize hAe : va_A [(x, .inr (11, [.ref st, .ref lv, .ref nm, .ref lb, .ref lk, .int 0])), (st, .inr (8, [.ref od, .ref pp, .ref le, .ref pa, .int 0])), (pp, .inr (7, [.ref ppA])), (ppA, .inl (cI, 60, .inl (fun _ => 0)))] s.heap.size = A at hD hU hN ⊢
  have hA : ∀ q : Nat, s.heap.size ≤ q → A q := fun q h => by rw [← hAe]; exact Or.inr h
  have hS : va_S A s.heap s.heap [] := va_S.rf
  have hl := lv_entry ([.ref x, .int i]) (n := 2) (Nat.le_of_ble_eq_true rfl)
  rw [lg_entry_eq]
  generalize (lg_sl ([.ref x, .int i]) ++ List.replicate (2 - (lg_sl ([.ref x, .int i])).length) Slot.unset).toArray = ls at hl ⊢
  have hl : lv_has ls 2 [(0, .ref x), (1, .int i)] := hl
  refine lv_aload_n hx hb dX8_numberByWalk_0 rfl (lv_at hl 0 rfl) ?_
  refine lv_iload_n hx hb dX8_numberByWalk_1 rfl (lv_at hl 1 rfl) ?_
  refine zc_x (wc := [(x, .inr (11, [.ref st, .ref lv, .ref nm, .ref lb, .ref lk, .int 0])), (st, .inr (8, [.ref od, .ref pp, .ref le, .ref pa, .int 0])), (pp, .inr (7, [.ref ppA])), (ppA, .inl (cI, 60, .inl (fun _ => 0)))]) (wr := []) (fun st v t h => by obtain ⟨h1, -⟩ := h; obtain ⟨u, -, h2, -⟩ := h1; exact h2) (vx_runV (As := [.int i]) (rest := []) ⟨hx, hb, hml, hown, hts⟩ (x_requireNumbered l D cI x st lv nm lb lk od pp le pa ppA i s.heap.size hst) (cwV 1 hts gX8_numberByWalk_X8_requireNumbered rfl rfl rfl (by decide +kernel) ⟨Nat.le_of_ble_eq_true rfl, Nat.le_of_ble_eq_true rfl⟩) (zPVX ⟨hU, hN⟩ hKB hS hA hK hP hD [0, 1, 2, 3] rfl rfl [0] rfl 0 rfl rfl rfl) rfl rfl hl.1 rfl (lv_room (Nat.le_of_ble_eq_true rfl)) dX8_numberByWalk_2 ⟨Nat.le_of_ble_eq_true rfl, Nat.le_of_ble_eq_true rfl⟩) hP hD hS hA [0, 1, 2, 3] [] rfl rfl rfl (by decide) (fun ce q9 H locs hP hD hS hce hcv hcl => ?_)
  exact vx_out (fun x h => (hout x h).elim) hlocks hce hcv hcl (fun t ht hvm => ⟨(), trivial, rfl, hS.F ht⟩) hS.2.2 (Nat.le_refl _) (Nat.le_refl _)

set_option maxHeartbeats 4000000 in
set_option maxRecDepth 100000 in
/-- lettersByWalk, fresh -/
theorem x_lettersByWalk (l : Launch) (D : va_G) (cI : ClassId) (x st lv nm lb lk od pp le pa ppA : Nat) (i : Int32) (sz : Nat) (hst : l.stackTraces = false) : vx_Met l yX8_lettersByWalk wsX8_lettersByWalk ({ frames := 8, cells := 1, slots := 6, locals := 131 }) (va_Pc [.ref x, .int i] (zPreX D [(cI, .int)] [(x, .inr (11, [.ref st, .ref lv, .ref nm, .ref lb, .ref lk, .int 0])), (st, .inr (8, [.ref od, .ref pp, .ref le, .ref pa, .int 0])), (pp, .inr (7, [.ref ppA])), (ppA, .inl (cI, 60, .inl (fun _ => 0)))] sz)) (va_Qi (fun _ (_ : Unit) => False) (fun _ _ => True) (va_A [(x, .inr (11, [.ref st, .ref lv, .ref nm, .ref lb, .ref lk, .int 0])), (st, .inr (8, [.ref od, .ref pp, .ref le, .ref pa, .int 0])), (pp, .inr (7, [.ref ppA])), (ppA, .inl (cI, 60, .inl (fun _ => 0)))] sz)) (zX "java/util/NoSuchElementException" (va_A [(x, .inr (11, [.ref st, .ref lv, .ref nm, .ref lb, .ref lk, .int 0])), (st, .inr (8, [.ref od, .ref pp, .ref le, .ref pa, .int 0])), (pp, .inr (7, [.ref ppA])), (ppA, .inl (cI, 60, .inl (fun _ => 0)))] sz)) 1 6 (va_A [(x, .inr (11, [.ref st, .ref lv, .ref nm, .ref lb, .ref lk, .int 0])), (st, .inr (8, [.ref od, .ref pp, .ref le, .ref pa, .int 0])), (pp, .inr (7, [.ref ppA])), (ppA, .inl (cI, 60, .inl (fun _ => 0)))] sz) := by
  refine vx_ofW (cc := cX8_lettersByWalk) (maxL := 2) (ret := (some .int)) (by decide) rfl ?_
  intro p e s m args below meth c s₁ B hml hout hv
  obtain ⟨rfl, ⟨hsz, hP, hK, hD0⟩, ⟨hU, hN⟩, hKB⟩ := hv
  have hx := B.exec
  have hb := B.bytes
  have hr := B.returns
  have hts := atoms_spec (ws := wsX8_lettersByWalk) B.pre
  have hown : s.vm.findClass RX8 = some m.cls := findClass_of_methodNamed B.named
  have hlocks := B.notSynchronized
  subst hsz
  have hD := hD0.self (sz := s.heap.size)
  generalize hAe : va_A [(x, .inr (11, [.ref st, .ref lv, .ref nm, .ref lb, .ref lk, .int 0])), (st, .inr (8, [.ref od, .ref pp, .ref le, .ref pa, .int 0])), (pp, .inr (7, [.ref ppA])), (ppA, .inl (cI, 60, .inl (fun _ => 0)))] s.heap.size = A at hD hU hN ⊢
  have hA : ∀ q : Nat, s.heap.size ≤ q → A q := fun q h => by rw [← hAe]; exact Or.inr h
  have hS : va_S A s.heap s.heap [] := va_S.rf
  have hl := lv_entry ([.ref x, .int i]) (n := 2) (Nat.le_of_ble_eq_true rfl)
  rw [lg_entry_eq]
  generalize (lg_sl ([.ref x, .int i]) ++ List.replicate (2 - (lg_sl ([.ref x, .int i])).length) Slot.unset).toArray = ls at hl ⊢
  have hl : lv_has ls 2 [(0, .ref x), (1, .int i)] := hl
  refine lv_aload_n hx hb dX8_lettersByWalk_0 rfl (lv_at hl 0 rfl) ?_
  refine lv_iload_n hx hb dX8_lettersByWalk_1 rfl (lv_at hl 1 rfl) ?_
  refine zc_x (wc := [(x, .inr (11, [.ref st, .ref lv, .ref nm, .ref lb, .ref lk, .int 0])), (st, .inr (8, [.ref od, .ref pp, .ref le, .ref pa, .int 0])), (pp, .inr (7, [.ref ppA])), (ppA, .inl (cI, 60, .inl (fun _ => 0)))]) (wr := []) (fun st v t h => by obtain ⟨h1, -⟩ := h; obtain ⟨u, -, h2, -⟩ := h1; exact h2) (vx_runV (As := [.int i]) (rest := []) ⟨hx, hb, hml, hown, hts⟩ (x_requireNumbered l D cI x st lv nm lb lk od pp le pa ppA i s.heap.size hst) (cwV 1 hts gX8_lettersByWalk_X8_requireNumbered rfl rfl rfl (by decide +kernel) ⟨Nat.le_of_ble_eq_true rfl, Nat.le_of_ble_eq_true rfl⟩) (zPVX ⟨hU, hN⟩ hKB hS hA hK hP hD [0, 1, 2, 3] rfl rfl [0] rfl 0 rfl rfl rfl) rfl rfl hl.1 rfl (lv_room (Nat.le_of_ble_eq_true rfl)) dX8_lettersByWalk_2 ⟨Nat.le_of_ble_eq_true rfl, Nat.le_of_ble_eq_true rfl⟩) hP hD hS hA [0, 1, 2, 3] [] rfl rfl rfl (by decide) (fun ce q9 H locs hP hD hS hce hcv hcl => ?_)
  exact vx_out (fun x h => (hout x h).elim) hlocks hce hcv hcl (fun t ht hvm => ⟨(), trivial, rfl, hS.F ht⟩) hS.2.2 (Nat.le_refl _) (Nat.le_refl _)

set_option maxHeartbeats 4000000 in
set_option maxRecDepth 100000 in
/-- ahead, fresh -/
theorem x_ahead (l : Launch) (D : va_G) (cI : ClassId) (x st lv nm lb lk od pp le pa ppA : Nat) (i : Int32) (sz : Nat) (hst : l.stackTraces = false) : vx_Met l yX8_ahead wsX8_ahead ({ frames := 8, cells := 1, slots := 6, locals := 131 }) (va_Pc [.ref x, .int i] (zPreX D [(cI, .int)] [(x, .inr (11, [.ref st, .ref lv, .ref nm, .ref lb, .ref lk, .int 0])), (st, .inr (8, [.ref od, .ref pp, .ref le, .ref pa, .int 0])), (pp, .inr (7, [.ref ppA])), (ppA, .inl (cI, 60, .inl (fun _ => 0)))] sz)) (va_Qi (fun _ (_ : Unit) => False) (fun _ _ => True) (va_A [(x, .inr (11, [.ref st, .ref lv, .ref nm, .ref lb, .ref lk, .int 0])), (st, .inr (8, [.ref od, .ref pp, .ref le, .ref pa, .int 0])), (pp, .inr (7, [.ref ppA])), (ppA, .inl (cI, 60, .inl (fun _ => 0)))] sz)) (zX "java/util/NoSuchElementException" (va_A [(x, .inr (11, [.ref st, .ref lv, .ref nm, .ref lb, .ref lk, .int 0])), (st, .inr (8, [.ref od, .ref pp, .ref le, .ref pa, .int 0])), (pp, .inr (7, [.ref ppA])), (ppA, .inl (cI, 60, .inl (fun _ => 0)))] sz)) 1 6 (va_A [(x, .inr (11, [.ref st, .ref lv, .ref nm, .ref lb, .ref lk, .int 0])), (st, .inr (8, [.ref od, .ref pp, .ref le, .ref pa, .int 0])), (pp, .inr (7, [.ref ppA])), (ppA, .inl (cI, 60, .inl (fun _ => 0)))] sz) := by
  refine vx_ofW (cc := cX8_ahead) (maxL := 2) (ret := (some .int)) (by decide) rfl ?_
  intro p e s m args below meth c s₁ B hml hout hv
  obtain ⟨rfl, ⟨hsz, hP, hK, hD0⟩, ⟨hU, hN⟩, hKB⟩ := hv
  have hx := B.exec
  have hb := B.bytes
  have hr := B.returns
  have hts := atoms_spec (ws := wsX8_ahead) B.pre
  have hown : s.vm.findClass RX8 = some m.cls := findClass_of_methodNamed B.named
  have hlocks := B.notSynchronized
  subst hsz
  have hD := hD0.self (sz := s.heap.size)
  generalize hAe : va_A [(x, .inr (11, [.ref st, .ref lv, .ref nm, .ref lb, .ref lk, .int 0])), (st, .inr (8, [.ref od, .ref pp, .ref le, .ref pa, .int 0])), (pp, .inr (7, [.ref ppA])), (ppA, .inl (cI, 60, .inl (fun _ => 0)))] s.heap.size = A at hD hU hN ⊢
  have hA : ∀ q : Nat, s.heap.size ≤ q → A q := fun q h => by rw [← hAe]; exact Or.inr h
  have hS : va_S A s.heap s.heap [] := va_S.rf
  have hl := lv_entry ([.ref x, .int i]) (n := 2) (Nat.le_of_ble_eq_true rfl)
  rw [lg_entry_eq]
  generalize (lg_sl ([.ref x, .int i]) ++ List.replicate (2 - (lg_sl ([.ref x, .int i])).length) Slot.unset).toArray = ls at hl ⊢
  have hl : lv_has ls 2 [(0, .ref x), (1, .int i)] := hl
  refine lv_aload_n hx hb dX8_ahead_0 rfl (lv_at hl 0 rfl) ?_
  refine lv_iload_n hx hb dX8_ahead_1 rfl (lv_at hl 1 rfl) ?_
  refine zc_x (wc := [(x, .inr (11, [.ref st, .ref lv, .ref nm, .ref lb, .ref lk, .int 0])), (st, .inr (8, [.ref od, .ref pp, .ref le, .ref pa, .int 0])), (pp, .inr (7, [.ref ppA])), (ppA, .inl (cI, 60, .inl (fun _ => 0)))]) (wr := []) (fun st v t h => by obtain ⟨h1, -⟩ := h; obtain ⟨u, -, h2, -⟩ := h1; exact h2) (vx_runV (As := [.int i]) (rest := []) ⟨hx, hb, hml, hown, hts⟩ (x_requireNumbered l D cI x st lv nm lb lk od pp le pa ppA i s.heap.size hst) (cwV 1 hts gX8_ahead_X8_requireNumbered rfl rfl rfl (by decide +kernel) ⟨Nat.le_of_ble_eq_true rfl, Nat.le_of_ble_eq_true rfl⟩) (zPVX ⟨hU, hN⟩ hKB hS hA hK hP hD [0, 1, 2, 3] rfl rfl [0] rfl 0 rfl rfl rfl) rfl rfl hl.1 rfl (lv_room (Nat.le_of_ble_eq_true rfl)) dX8_ahead_2 ⟨Nat.le_of_ble_eq_true rfl, Nat.le_of_ble_eq_true rfl⟩) hP hD hS hA [0, 1, 2, 3] [] rfl rfl rfl (by decide) (fun ce q9 H locs hP hD hS hce hcv hcl => ?_)
  exact vx_out (fun x h => (hout x h).elim) hlocks hce hcv hcl (fun t ht hvm => ⟨(), trivial, rfl, hS.F ht⟩) hS.2.2 (Nat.le_refl _) (Nat.le_refl _)

set_option maxHeartbeats 4000000 in
set_option maxRecDepth 100000 in
/-- labelLength, fresh -/
theorem x_labelLength (l : Launch) (D : va_G) (cI : ClassId) (x st lv nm lb lk od pp le pa ppA : Nat) (i : Int32) (sz : Nat) (hst : l.stackTraces = false) : vx_Met l yX8_labelLength wsX8_labelLength ({ frames := 8, cells := 1, slots := 6, locals := 131 }) (va_Pc [.ref x, .int i] (zPreX D [(cI, .int)] [(x, .inr (11, [.ref st, .ref lv, .ref nm, .ref lb, .ref lk, .int 0])), (st, .inr (8, [.ref od, .ref pp, .ref le, .ref pa, .int 0])), (pp, .inr (7, [.ref ppA])), (ppA, .inl (cI, 60, .inl (fun _ => 0)))] sz)) (va_Qi (fun _ (_ : Unit) => False) (fun _ _ => True) (va_A [(x, .inr (11, [.ref st, .ref lv, .ref nm, .ref lb, .ref lk, .int 0])), (st, .inr (8, [.ref od, .ref pp, .ref le, .ref pa, .int 0])), (pp, .inr (7, [.ref ppA])), (ppA, .inl (cI, 60, .inl (fun _ => 0)))] sz)) (zX "java/util/NoSuchElementException" (va_A [(x, .inr (11, [.ref st, .ref lv, .ref nm, .ref lb, .ref lk, .int 0])), (st, .inr (8, [.ref od, .ref pp, .ref le, .ref pa, .int 0])), (pp, .inr (7, [.ref ppA])), (ppA, .inl (cI, 60, .inl (fun _ => 0)))] sz)) 1 6 (va_A [(x, .inr (11, [.ref st, .ref lv, .ref nm, .ref lb, .ref lk, .int 0])), (st, .inr (8, [.ref od, .ref pp, .ref le, .ref pa, .int 0])), (pp, .inr (7, [.ref ppA])), (ppA, .inl (cI, 60, .inl (fun _ => 0)))] sz) := by
  refine vx_ofW (cc := cX8_labelLength) (maxL := 2) (ret := (some .int)) (by decide) rfl ?_
  intro p e s m args below meth c s₁ B hml hout hv
  obtain ⟨rfl, ⟨hsz, hP, hK, hD0⟩, ⟨hU, hN⟩, hKB⟩ := hv
  have hx := B.exec
  have hb := B.bytes
  have hr := B.returns
  have hts := atoms_spec (ws := wsX8_labelLength) B.pre
  have hown : s.vm.findClass RX8 = some m.cls := findClass_of_methodNamed B.named
  have hlocks := B.notSynchronized
  subst hsz
  have hD := hD0.self (sz := s.heap.size)
  generalize hAe : va_A [(x, .inr (11, [.ref st, .ref lv, .ref nm, .ref lb, .ref lk, .int 0])), (st, .inr (8, [.ref od, .ref pp, .ref le, .ref pa, .int 0])), (pp, .inr (7, [.ref ppA])), (ppA, .inl (cI, 60, .inl (fun _ => 0)))] s.heap.size = A at hD hU hN ⊢
  have hA : ∀ q : Nat, s.heap.size ≤ q → A q := fun q h => by rw [← hAe]; exact Or.inr h
  have hS : va_S A s.heap s.heap [] := va_S.rf
  have hl := lv_entry ([.ref x, .int i]) (n := 2) (Nat.le_of_ble_eq_true rfl)
  rw [lg_entry_eq]
  generalize (lg_sl ([.ref x, .int i]) ++ List.replicate (2 - (lg_sl ([.ref x, .int i])).length) Slot.unset).toArray = ls at hl ⊢
  have hl : lv_has ls 2 [(0, .ref x), (1, .int i)] := hl
  refine lv_aload_n hx hb dX8_labelLength_0 rfl (lv_at hl 0 rfl) ?_
  refine lv_iload_n hx hb dX8_labelLength_1 rfl (lv_at hl 1 rfl) ?_
  refine zc_x (wc := [(x, .inr (11, [.ref st, .ref lv, .ref nm, .ref lb, .ref lk, .int 0])), (st, .inr (8, [.ref od, .ref pp, .ref le, .ref pa, .int 0])), (pp, .inr (7, [.ref ppA])), (ppA, .inl (cI, 60, .inl (fun _ => 0)))]) (wr := []) (fun st v t h => by obtain ⟨h1, -⟩ := h; obtain ⟨u, -, h2, -⟩ := h1; exact h2) (vx_runV (As := [.int i]) (rest := []) ⟨hx, hb, hml, hown, hts⟩ (x_requireNumbered l D cI x st lv nm lb lk od pp le pa ppA i s.heap.size hst) (cwV 1 hts gX8_labelLength_X8_requireNumbered rfl rfl rfl (by decide +kernel) ⟨Nat.le_of_ble_eq_true rfl, Nat.le_of_ble_eq_true rfl⟩) (zPVX ⟨hU, hN⟩ hKB hS hA hK hP hD [0, 1, 2, 3] rfl rfl [0] rfl 0 rfl rfl rfl) rfl rfl hl.1 rfl (lv_room (Nat.le_of_ble_eq_true rfl)) dX8_labelLength_2 ⟨Nat.le_of_ble_eq_true rfl, Nat.le_of_ble_eq_true rfl⟩) hP hD hS hA [0, 1, 2, 3] [] rfl rfl rfl (by decide) (fun ce q9 H locs hP hD hS hce hcv hcl => ?_)
  exact vx_out (fun x h => (hout x h).elim) hlocks hce hcv hcl (fun t ht hvm => ⟨(), trivial, rfl, hS.F ht⟩) hS.2.2 (Nat.le_refl _) (Nat.le_refl _)

set_option maxHeartbeats 4000000 in
set_option maxRecDepth 100000 in
/-- labelAt, fresh -/
theorem x_labelAt (l : Launch) (D : va_G) (cI : ClassId) (x st lv nm lb lk od pp le pa ppA : Nat) (i j : Int32) (sz : Nat) (hst : l.stackTraces = false) : vx_Met l yX8_labelAt wsX8_labelAt ({ frames := 8, cells := 1, slots := 6, locals := 131 }) (va_Pc [.ref x, .int i, .int j] (zPreX D [(cI, .int)] [(x, .inr (11, [.ref st, .ref lv, .ref nm, .ref lb, .ref lk, .int 0])), (st, .inr (8, [.ref od, .ref pp, .ref le, .ref pa, .int 0])), (pp, .inr (7, [.ref ppA])), (ppA, .inl (cI, 60, .inl (fun _ => 0)))] sz)) (va_Qi (fun _ (_ : Unit) => False) (fun _ _ => True) (va_A [(x, .inr (11, [.ref st, .ref lv, .ref nm, .ref lb, .ref lk, .int 0])), (st, .inr (8, [.ref od, .ref pp, .ref le, .ref pa, .int 0])), (pp, .inr (7, [.ref ppA])), (ppA, .inl (cI, 60, .inl (fun _ => 0)))] sz)) (zX "java/util/NoSuchElementException" (va_A [(x, .inr (11, [.ref st, .ref lv, .ref nm, .ref lb, .ref lk, .int 0])), (st, .inr (8, [.ref od, .ref pp, .ref le, .ref pa, .int 0])), (pp, .inr (7, [.ref ppA])), (ppA, .inl (cI, 60, .inl (fun _ => 0)))] sz)) 1 6 (va_A [(x, .inr (11, [.ref st, .ref lv, .ref nm, .ref lb, .ref lk, .int 0])), (st, .inr (8, [.ref od, .ref pp, .ref le, .ref pa, .int 0])), (pp, .inr (7, [.ref ppA])), (ppA, .inl (cI, 60, .inl (fun _ => 0)))] sz) := by
  refine vx_ofW (cc := cX8_labelAt) (maxL := 3) (ret := (some .char)) (by decide) rfl ?_
  intro p e s m args below meth c s₁ B hml hout hv
  obtain ⟨rfl, ⟨hsz, hP, hK, hD0⟩, ⟨hU, hN⟩, hKB⟩ := hv
  have hx := B.exec
  have hb := B.bytes
  have hr := B.returns
  have hts := atoms_spec (ws := wsX8_labelAt) B.pre
  have hown : s.vm.findClass RX8 = some m.cls := findClass_of_methodNamed B.named
  have hlocks := B.notSynchronized
  subst hsz
  have hD := hD0.self (sz := s.heap.size)
  generalize hAe : va_A [(x, .inr (11, [.ref st, .ref lv, .ref nm, .ref lb, .ref lk, .int 0])), (st, .inr (8, [.ref od, .ref pp, .ref le, .ref pa, .int 0])), (pp, .inr (7, [.ref ppA])), (ppA, .inl (cI, 60, .inl (fun _ => 0)))] s.heap.size = A at hD hU hN ⊢
  have hA : ∀ q : Nat, s.heap.size ≤ q → A q := fun q h => by rw [← hAe]; exact Or.inr h
  have hS : va_S A s.heap s.heap [] := va_S.rf
  have hl := lv_entry ([.ref x, .int i, .int j]) (n := 3) (Nat.le_of_ble_eq_true rfl)
  rw [lg_entry_eq]
  generalize (lg_sl ([.ref x, .int i, .int j]) ++ List.replicate (3 - (lg_sl ([.ref x, .int i, .int j])).length) Slot.unset).toArray = ls at hl ⊢
  have hl : lv_has ls 3 [(0, .ref x), (1, .int i), (2, .int j)] := hl
  refine lv_aload_n hx hb dX8_labelAt_0 rfl (lv_at hl 0 rfl) ?_
  refine lv_iload_n hx hb dX8_labelAt_1 rfl (lv_at hl 1 rfl) ?_
  refine zc_x (wc := [(x, .inr (11, [.ref st, .ref lv, .ref nm, .ref lb, .ref lk, .int 0])), (st, .inr (8, [.ref od, .ref pp, .ref le, .ref pa, .int 0])), (pp, .inr (7, [.ref ppA])), (ppA, .inl (cI, 60, .inl (fun _ => 0)))]) (wr := []) (fun st v t h => by obtain ⟨h1, -⟩ := h; obtain ⟨u, -, h2, -⟩ := h1; exact h2) (vx_runV (As := [.int i]) (rest := []) ⟨hx, hb, hml, hown, hts⟩ (x_requireNumbered l D cI x st lv nm lb lk od pp le pa ppA i s.heap.size hst) (cwV 1 hts gX8_labelAt_X8_requireNumbered rfl rfl rfl (by decide +kernel) ⟨Nat.le_of_ble_eq_true rfl, Nat.le_of_ble_eq_true rfl⟩) (zPVX ⟨hU, hN⟩ hKB hS hA hK hP hD [0, 1, 2, 3] rfl rfl [0] rfl 0 rfl rfl rfl) rfl rfl hl.1 rfl (lv_room (Nat.le_of_ble_eq_true rfl)) dX8_labelAt_2 ⟨Nat.le_of_ble_eq_true rfl, Nat.le_of_ble_eq_true rfl⟩) hP hD hS hA [0, 1, 2, 3] [] rfl rfl rfl (by decide) (fun ce q9 H locs hP hD hS hce hcv hcl => ?_)
  exact vx_out (fun x h => (hout x h).elim) hlocks hce hcv hcl (fun t ht hvm => ⟨(), trivial, rfl, hS.F ht⟩) hS.2.2 (Nat.le_refl _) (Nat.le_refl _)

set_option maxHeartbeats 4000000 in
set_option maxRecDepth 100000 in
/-- Row.at: what stands at an index, 0 outside -/
theorem k_at (l : Launch) (D : va_G) (cI : ClassId) (r a : Nat) (n : Nat) (f : Nat → Int32) (i : Int32) (sz : Nat) (hn : n < 2 ^ 31) : Met l yX4_at wsX4_at ({ frames := 0, cells := 0, slots := 0, locals := 0 }) (va_Pc [.ref r, .int i] (zPre D [(cI, .int)] [(r, .inr (7, [.ref a])), (a, .inl (cI, n, .inl f))] sz)) (va_Qi (fun rv (_ : Unit) => rv = zAt n f i) (fun (_ : Unit) => zB D [(r, .inr (7, [.ref a])), (a, .inl (cI, n, .inl f))] (va_A [(r, .inr (7, [.ref a])), (a, .inl (cI, n, .inl f))] sz)) (va_A [(r, .inr (7, [.ref a])), (a, .inl (cI, n, .inl f))] sz)) 0 0 (va_A [(r, .inr (7, [.ref a])), (a, .inl (cI, n, .inl f))] sz) := by
  refine Met.ofW (cc := cX4_at) (maxL := 2) (ret := (some .int)) (by decide) rfl ?_
  intro p e s m args below meth c s₁ B hml hv
  obtain ⟨rfl, hsz, hP, hK, hD0⟩ := hv
  have hx := B.exec
  have hb := B.bytes
  have hr := B.returns
  have hts := atoms_spec (ws := wsX4_at) B.pre
  have hown : s.vm.findClass RX4 = some m.cls := findClass_of_methodNamed B.named
  have hlocks := B.notSynchronized
  subst hsz
  have hD := hD0.self (sz := s.heap.size)
  generalize hAe : va_A [(r, .inr (7, [.ref a])), (a, .inl (cI, n, .inl f))] s.heap.size = A at hD ⊢
  have hA : ∀ q : Nat, s.heap.size ≤ q → A q := fun q h => by rw [← hAe]; exact Or.inr h
  have hS : va_S A s.heap s.heap [] := va_S.rf
  have hl := lv_entry ([.ref r, .int i]) (n := 2) (Nat.le_of_ble_eq_true rfl)
  rw [lg_entry_eq]
  generalize (lg_sl ([.ref r, .int i]) ++ List.replicate (2 - (lg_sl ([.ref r, .int i])).length) Slot.unset).toArray = ls at hl ⊢
  have hl : lv_has ls 2 [(0, .ref r), (1, .int i)] := hl
  refine lv_iload_n hx hb dX4_at_0 rfl (lv_at hl 1 rfl) ?_
  refine lv_if_lt (tgt := 22) hx hb dX4_at_1 (by decide) (fun c1 => ?_) (fun c1 => ?_)
  · refine lv_iconst (v := 0) hx hb dX4_at_22 (by decide) ?_
    obtain ⟨hP9, hD9⟩ := z_get hP hD [0, 1] (wc := [(r, .inr (7, [.ref a])), (a, .inl (cI, n, .inl f))]) rfl rfl
    exact W.iret (v := 0) hx hb hr (fun t ht hW => ⟨⟨0, (), rfl, (zAt_lo c1).symm, by rw [ht]; exact hP9, hD9⟩, hS.F ht⟩) hS.2.2 dX4_at_23
  · refine lv_iload_n hx hb dX4_at_4 rfl (lv_at hl 1 rfl) ?_
    refine lv_aload_n hx hb dX4_at_5 rfl (lv_at hl 0 rfl) ?_
    refine va_get (D := D) (ci := 7) (v := .ref a) (C := RX4) (T := TX4) (N := 1) hx hb hts (fun _ h => List.mem_cons_of_mem _ (List.mem_append_left _ (List.mem_append_right _ h))) hown hK hP 0 rfl rfl 0 (by decide) (hts (.fieldLink RX4 7 "NumberingTree$Row" "cells" "[I") (List.mem_of_getElem? (i := 1) rfl)) (fun _ h9 => h9) rfl dX4_at_6 ?_
    refine va_alen hx hb hK hP 1 0 rfl rfl rfl dX4_at_9 ?_
    refine lv_icmp_ge (tgt := 22) hx hb dX4_at_10 (by decide) (fun c2 => ?_) (fun c2 => ?_)
    · refine lv_iconst (v := 0) hx hb dX4_at_22 (by decide) ?_
      obtain ⟨hP9, hD9⟩ := z_get hP hD [0, 1] (wc := [(r, .inr (7, [.ref a])), (a, .inl (cI, n, .inl f))]) rfl rfl
      exact W.iret (v := 0) hx hb hr (fun t ht hW => ⟨⟨0, (), rfl, (zAt_hi (z_ge hn c1 c2)).symm, by rw [ht]; exact hP9, hD9⟩, hS.F ht⟩) hS.2.2 dX4_at_23
    · refine lv_aload_n hx hb dX4_at_13 rfl (lv_at hl 0 rfl) ?_
      refine va_get (D := D) (ci := 7) (v := .ref a) (C := RX4) (T := TX4) (N := 1) hx hb hts (fun _ h => List.mem_cons_of_mem _ (List.mem_append_left _ (List.mem_append_right _ h))) hown hK hP 0 rfl rfl 0 (by decide) (hts (.fieldLink RX4 7 "NumberingTree$Row" "cells" "[I") (List.mem_of_getElem? (i := 1) rfl)) (fun _ h9 => h9) rfl dX4_at_14 ?_
      refine lv_iload_n hx hb dX4_at_17 rfl (lv_at hl 1 rfl) ?_
      refine va_iald hx hb hK hP 1 0 rfl rfl (z_in hn c1 c2) dX4_at_18 ?_
      refine lv_goto (tgt := 23) hx hb dX4_at_19 (by decide) ?_
      obtain ⟨hP9, hD9⟩ := z_get hP hD [0, 1] (wc := [(r, .inr (7, [.ref a])), (a, .inl (cI, n, .inl f))]) rfl rfl
      exact W.iret (v := f (i).toNatClampNeg) hx hb hr (fun t ht hW => ⟨⟨f (i).toNatClampNeg, (), rfl, (zAt_in (z_in hn c1 c2)).symm, by rw [ht]; exact hP9, hD9⟩, hS.F ht⟩) hS.2.2 dX4_at_23

set_option maxHeartbeats 4000000 in
set_option maxRecDepth 100000 in
/-- Row.put: written inside, nothing outside -/
theorem k_put (l : Launch) (D : va_G) (cI : ClassId) (r a : Nat) (n : Nat) (f : Nat → Int32) (i x : Int32) (sz : Nat) (hn : n < 2 ^ 31) : Met l yX4_put wsX4_put ({ frames := 0, cells := 0, slots := 0, locals := 0 }) (va_Pc [.ref r, .int i, .int x] (zPre D [(cI, .int)] [(r, .inr (7, [.ref a])), (a, .inl (cI, n, .inl f))] sz)) (va_Qv (fun (_ : Unit) => True) (fun (_ : Unit) => zB D [(r, .inr (7, [.ref a])), (a, .inl (cI, n, .inl (zPut n f i x)))] (va_A [(r, .inr (7, [.ref a])), (a, .inl (cI, n, .inl f))] sz)) (va_A [(r, .inr (7, [.ref a])), (a, .inl (cI, n, .inl f))] sz)) 0 0 (va_A [(r, .inr (7, [.ref a])), (a, .inl (cI, n, .inl f))] sz) := by
  refine Met.ofW (cc := cX4_put) (maxL := 3) (ret := none) (by decide) rfl ?_
  intro p e s m args below meth c s₁ B hml hv
  obtain ⟨rfl, hsz, hP, hK, hD0⟩ := hv
  have hx := B.exec
  have hb := B.bytes
  have hr := B.returns
  have hts := atoms_spec (ws := wsX4_put) B.pre
  have hown : s.vm.findClass RX4 = some m.cls := findClass_of_methodNamed B.named
  have hlocks := B.notSynchronized
  subst hsz
  have hD := hD0.self (sz := s.heap.size)
  generalize hAe : va_A [(r, .inr (7, [.ref a])), (a, .inl (cI, n, .inl f))] s.heap.size = A at hD ⊢
  have hA : ∀ q : Nat, s.heap.size ≤ q → A q := fun q h => by rw [← hAe]; exact Or.inr h
  have hS : va_S A s.heap s.heap [] := va_S.rf
  have hl := lv_entry ([.ref r, .int i, .int x]) (n := 3) (Nat.le_of_ble_eq_true rfl)
  rw [lg_entry_eq]
  generalize (lg_sl ([.ref r, .int i, .int x]) ++ List.replicate (3 - (lg_sl ([.ref r, .int i, .int x])).length) Slot.unset).toArray = ls at hl ⊢
  have hl : lv_has ls 3 [(0, .ref r), (1, .int i), (2, .int x)] := hl
  refine lv_iload_n hx hb dX4_put_0 rfl (lv_at hl 1 rfl) ?_
  refine lv_if_lt (tgt := 20) hx hb dX4_put_1 (by decide) (fun c1 => ?_) (fun c1 => ?_)
  · obtain ⟨hP9, hD9⟩ := z_get hP hD [0, 1] (wc := [(r, .inr (7, [.ref a])), (a, .inl (cI, n, .inl f))]) rfl rfl
    have hw9 : ([(r, .inr (7, [.ref a])), (a, .inl (cI, n, .inl f))] : va_W) = [(r, .inr (7, [.ref a])), (a, .inl (cI, n, .inl (zPut n f i x)))] := by rw [zPut_lo c1]
    rw [hw9] at hP9 hD9
    exact W.vret hx hb hr (fun t ht hW => ⟨⟨(), rfl, trivial, by rw [ht]; exact hP9, hD9⟩, hS.F ht⟩) hS.2.2 dX4_put_20
  · refine lv_iload_n hx hb dX4_put_4 rfl (lv_at hl 1 rfl) ?_
    refine lv_aload_n hx hb dX4_put_5 rfl (lv_at hl 0 rfl) ?_
    refine va_get (D := D) (ci := 7) (v := .ref a) (C := RX4) (T := TX4) (N := 1) hx hb hts (fun _ h => List.mem_cons_of_mem _ (List.mem_append_left _ (List.mem_append_right _ h))) hown hK hP 0 rfl rfl 0 (by decide) (hts (.fieldLink RX4 7 "NumberingTree$Row" "cells" "[I") (List.mem_of_getElem? (i := 1) rfl)) (fun _ h9 => h9) rfl dX4_put_6 ?_
    refine va_alen hx hb hK hP 1 0 rfl rfl rfl dX4_put_9 ?_
    refine lv_icmp_ge (tgt := 20) hx hb dX4_put_10 (by decide) (fun c2 => ?_) (fun c2 => ?_)
    · obtain ⟨hP9, hD9⟩ := z_get hP hD [0, 1] (wc := [(r, .inr (7, [.ref a])), (a, .inl (cI, n, .inl f))]) rfl rfl
      have hw9 : ([(r, .inr (7, [.ref a])), (a, .inl (cI, n, .inl f))] : va_W) = [(r, .inr (7, [.ref a])), (a, .inl (cI, n, .inl (zPut n f i x)))] := by rw [zPut_hi (z_ge hn c1 c2)]
      rw [hw9] at hP9 hD9
      exact W.vret hx hb hr (fun t ht hW => ⟨⟨(), rfl, trivial, by rw [ht]; exact hP9, hD9⟩, hS.F ht⟩) hS.2.2 dX4_put_20
    · refine lv_aload_n hx hb dX4_put_13 rfl (lv_at hl 0 rfl) ?_
      refine va_get (D := D) (ci := 7) (v := .ref a) (C := RX4) (T := TX4) (N := 1) hx hb hts (fun _ h => List.mem_cons_of_mem _ (List.mem_append_left _ (List.mem_append_right _ h))) hown hK hP 0 rfl rfl 0 (by decide) (hts (.fieldLink RX4 7 "NumberingTree$Row" "cells" "[I") (List.mem_of_getElem? (i := 1) rfl)) (fun _ h9 => h9) rfl dX4_put_14 ?_
      refine lv_iload_n hx hb dX4_put_17 rfl (lv_at hl 1 rfl) ?_
      refine lv_iload_n hx hb dX4_put_18 rfl (lv_at hl 2 rfl) ?_
      refine va_iast hx hb hK hP hD hS 1 0 rfl rfl (z_in hn c1 c2) dX4_put_19 (fun H locs hP hD hS => ?_)
      have hP : va_P D vwCl [(r, .inr (7, [.ref a])), (a, .inl (cI, n, .inl (upd f (i).toNatClampNeg x)))] H := hP
      have hD : va_D A [(r, .inr (7, [.ref a])), (a, .inl (cI, n, .inl (upd f (i).toNatClampNeg x)))] := hD
      obtain ⟨hP9, hD9⟩ := z_get hP hD [0, 1] (wc := [(r, .inr (7, [.ref a])), (a, .inl (cI, n, .inl (upd f (i).toNatClampNeg x)))]) rfl rfl
      have hw9 : ([(r, .inr (7, [.ref a])), (a, .inl (cI, n, .inl (upd f (i).toNatClampNeg x)))] : va_W) = [(r, .inr (7, [.ref a])), (a, .inl (cI, n, .inl (zPut n f i x)))] := by rw [zPut_in (z_in hn c1 c2)]
      rw [hw9] at hP9 hD9
      exact W.vret hx hb hr (fun t ht hW => ⟨⟨(), rfl, trivial, by rw [ht]; exact hP9, hD9⟩, hS.F ht⟩) hS.2.2 dX4_put_20

set_option maxHeartbeats 4000000 in
set_option maxRecDepth 100000 in
/-- Row(60) -/
theorem k_rinit60 (l : Launch) (D : va_G) (cI : ClassId) (r : Nat) (sz : Nat) : Met l yX4_init wsX4_init ({ frames := 1, cells := 1, slots := 60, locals := 20 }) (va_Pc [.ref r, .int 60] (zPre D [(cI, .int)] [(r, .inr (7, [.null]))] sz)) (va_Qv (fun (_ : (Nat → Nat)) => True) (fun (u : (Nat → Nat)) => zB D [(r, .inr (7, [.ref (u 0)])), ((u 0), .inl (cI, 60, .inl (fun _ => 0)))] (va_A [(r, .inr (7, [.null]))] sz)) (va_A [(r, .inr (7, [.null]))] sz)) 1 60 (va_A [(r, .inr (7, [.null]))] sz) := by
  refine Met.ofW (cc := cX4_init) (maxL := 2) (ret := none) (by decide) rfl ?_
  intro p e s m args below meth c s₁ B hml hv
  obtain ⟨rfl, hsz, hP, hK, hD0⟩ := hv
  have hx := B.exec
  have hb := B.bytes
  have hr := B.returns
  have hts := atoms_spec (ws := wsX4_init) B.pre
  have hown : s.vm.findClass RX4 = some m.cls := findClass_of_methodNamed B.named
  have hlocks := B.notSynchronized
  have hin : meth.name = "<init>" := (name_of_methodNamed B.named B.method).1
  subst hsz
  have hD := hD0.self (sz := s.heap.size)
  generalize hAe : va_A [(r, .inr (7, [.null]))] s.heap.size = A at hD ⊢
  have hA : ∀ q : Nat, s.heap.size ≤ q → A q := fun q h => by rw [← hAe]; exact Or.inr h
  have hS : va_S A s.heap s.heap [] := va_S.rf
  have hl := lv_entry ([.ref r, .int 60]) (n := 2) (Nat.le_of_ble_eq_true rfl)
  rw [lg_entry_eq]
  generalize (lg_sl ([.ref r, .int 60]) ++ List.replicate (2 - (lg_sl ([.ref r, .int 60])).length) Slot.unset).toArray = ls at hl ⊢
  have hl : lv_has ls 2 [(0, .ref r), (1, .int 60)] := hl
  refine lv_aload_n hx hb dX4_init_0 rfl (lv_at hl 0 rfl) ?_
  refine W.objInit hx hb hown (hts (.methodLink RX4 1 objectInit) (List.mem_of_getElem? (i := 1) rfl)) (hts (.instanceMethod objectInit) (List.mem_of_getElem? (i := 2) rfl)) (hts (.code objectInit ⟨#[0xb1]⟩ 1 none) (List.mem_of_getElem? (i := 3) rfl)) rfl (by rw [hml]; exact hl.1) rfl dX4_init_1 (Nat.le_of_ble_eq_true rfl) (Nat.le_of_ble_eq_true rfl) ?_
  refine W.eq (g2 := F0 m 4 ls []) rfl ?_
  refine lv_aload_n hx hb dX4_init_4 rfl (lv_at hl 0 rfl) ?_
  refine lv_iload_n hx hb dX4_init_5 rfl (lv_at hl 1 rfl) ?_
  refine lv_if_le (tgt := 13) hx hb dX4_init_6 (by decide) (fun q => absurd q (by decide)) (fun _ => ?_)
  refine lv_iload_n hx hb dX4_init_9 rfl (lv_at hl 1 rfl) ?_
  refine lv_goto (tgt := 14) hx hb dX4_init_10 (by decide) ?_
  refine va_newa (atype := .int) (ty := .int) (N' := 60) (a0 := (60, .inl (fun _ => 0))) hx hb (hts (.arrayClass .int) (List.mem_of_getElem? (i := 4) rfl)) rfl hK hP hD hS hA (fun cA => by rw [vp_cell_i]; rfl) (by decide) (by decide) (by decide) (Nat.le_of_ble_eq_true rfl) (Nat.le_of_ble_eq_true rfl) dX4_init_14 (fun q1 cA2 H hK2 hP hD hS => ?_)
  have ecA2 : cI = cA2 := Option.some.inj ((hK2.2 0 _ rfl).2.symm.trans (hK2.2 1 _ rfl).2)
  subst ecA2
  have hP : va_P D vwCl [(r, .inr (7, [.null])), (q1, .inl (cI, 60, .inl (fun _ => 0)))] H := hP
  have hD : va_D A [(r, .inr (7, [.null])), (q1, .inl (cI, 60, .inl (fun _ => 0)))] := hD
  refine va_putF (D := D) (ci := 7) (v := .ref q1) (ty := .array .int) (C := RX4) (T := TX4) (N := 1) hx hb hts (fun _ h => List.mem_cons_of_mem _ (List.mem_append_right _ h)) tyX4 tyX4_ok nmX4 hown hK hP hD hS 0 rfl rfl 0 (by decide) (hts (.fieldLink RX4 7 "NumberingTree$Row" "cells" "[I") (List.mem_of_getElem? (i := 5) rfl)) (fun _ h9 => h9) rfl hin rfl (by decide +kernel) rfl rfl (Nat.le_of_ble_eq_true rfl) dX4_init_16 (fun H locs hP hD hS => ?_)
  have hP : va_P D vwCl [(r, .inr (7, [.ref q1])), (q1, .inl (cI, 60, .inl (fun _ => 0)))] H := hP
  have hD : va_D A [(r, .inr (7, [.ref q1])), (q1, .inl (cI, 60, .inl (fun _ => 0)))] := hD
  obtain ⟨hP9, hD9⟩ := z_get hP hD [0, 1] (wc := [(r, .inr (7, [.ref q1])), (q1, .inl (cI, 60, .inl (fun _ => 0)))]) rfl rfl
  exact W.vret hx hb hr (fun t ht hW => ⟨⟨(zL [q1]), rfl, trivial, by rw [ht]; exact hP9, hD9⟩, hS.F ht⟩) hS.2.2 dX4_init_19

set_option maxHeartbeats 4000000 in
set_option maxRecDepth 100000 in
/-- Row(5) -/
theorem k_rinit5 (l : Launch) (D : va_G) (cI : ClassId) (r : Nat) (sz : Nat) : Met l yX4_init wsX4_init ({ frames := 1, cells := 1, slots := 5, locals := 20 }) (va_Pc [.ref r, .int 5] (zPre D [(cI, .int)] [(r, .inr (7, [.null]))] sz)) (va_Qv (fun (_ : (Nat → Nat)) => True) (fun (u : (Nat → Nat)) => zB D [(r, .inr (7, [.ref (u 0)])), ((u 0), .inl (cI, 5, .inl (fun _ => 0)))] (va_A [(r, .inr (7, [.null]))] sz)) (va_A [(r, .inr (7, [.null]))] sz)) 1 5 (va_A [(r, .inr (7, [.null]))] sz) := by
  refine Met.ofW (cc := cX4_init) (maxL := 2) (ret := none) (by decide) rfl ?_
  intro p e s m args below meth c s₁ B hml hv
  obtain ⟨rfl, hsz, hP, hK, hD0⟩ := hv
  have hx := B.exec
  have hb := B.bytes
  have hr := B.returns
  have hts := atoms_spec (ws := wsX4_init) B.pre
  have hown : s.vm.findClass RX4 = some m.cls := findClass_of_methodNamed B.named
  have hlocks := B.notSynchronized
  have hin : meth.name = "<init>" := (name_of_methodNamed B.named B.method).1
  subst hsz
  have hD := hD0.self (sz := s.heap.size)
  generalize hAe : va_A [(r, .inr (7, [.null]))] s.heap.size = A at hD ⊢
  have hA : ∀ q : Nat, s.heap.size ≤ q → A q := fun q h => by rw [← hAe]; exact Or.inr h
  have hS : va_S A s.heap s.heap [] := va_S.rf
  have hl := lv_entry ([.ref r, .int 5]) (n := 2) (Nat.le_of_ble_eq_true rfl)
  rw [lg_entry_eq]
  generalize (lg_sl ([.ref r, .int 5]) ++ List.replicate (2 - (lg_sl ([.ref r, .int 5])).length) Slot.unset).toArray = ls at hl ⊢
  have hl : lv_has ls 2 [(0, .ref r), (1, .int 5)] := hl
  refine lv_aload_n hx hb dX4_init_0 rfl (lv_at hl 0 rfl) ?_
  refine W.objInit hx hb hown (hts (.methodLink RX4 1 objectInit) (List.mem_of_getElem? (i := 1) rfl)) (hts (.instanceMethod objectInit) (List.mem_of_getElem? (i := 2) rfl)) (hts (.code objectInit ⟨#[0xb1]⟩ 1 none) (List.mem_of_getElem? (i := 3) rfl)) rfl (by rw [hml]; exact hl.1) rfl dX4_init_1 (Nat.le_of_ble_eq_true rfl) (Nat.le_of_ble_eq_true rfl) ?_
  refine W.eq (g2 := F0 m 4 ls []) rfl ?_
  refine lv_aload_n hx hb dX4_init_4 rfl (lv_at hl 0 rfl) ?_
  refine lv_iload_n hx hb dX4_init_5 rfl (lv_at hl 1 rfl) ?_
  refine lv_if_le (tgt := 13) hx hb dX4_init_6 (by decide) (fun q => absurd q (by decide)) (fun _ => ?_)
  refine lv_iload_n hx hb dX4_init_9 rfl (lv_at hl 1 rfl) ?_
  refine lv_goto (tgt := 14) hx hb dX4_init_10 (by decide) ?_
  refine va_newa (atype := .int) (ty := .int) (N' := 5) (a0 := (5, .inl (fun _ => 0))) hx hb (hts (.arrayClass .int) (List.mem_of_getElem? (i := 4) rfl)) rfl hK hP hD hS hA (fun cA => by rw [vp_cell_i]; rfl) (by decide) (by decide) (by decide) (Nat.le_of_ble_eq_true rfl) (Nat.le_of_ble_eq_true rfl) dX4_init_14 (fun q1 cA2 H hK2 hP hD hS => ?_)
  have ecA2 : cI = cA2 := Option.some.inj ((hK2.2 0 _ rfl).2.symm.trans (hK2.2 1 _ rfl).2)
  subst ecA2
  have hP : va_P D vwCl [(r, .inr (7, [.null])), (q1, .inl (cI, 5, .inl (fun _ => 0)))] H := hP
  have hD : va_D A [(r, .inr (7, [.null])), (q1, .inl (cI, 5, .inl (fun _ => 0)))] := hD
  refine va_putF (D := D) (ci := 7) (v := .ref q1) (ty := .array .int) (C := RX4) (T := TX4) (N := 1) hx hb hts (fun _ h => List.mem_cons_of_mem _ (List.mem_append_right _ h)) tyX4 tyX4_ok nmX4 hown hK hP hD hS 0 rfl rfl 0 (by decide) (hts (.fieldLink RX4 7 "NumberingTree$Row" "cells" "[I") (List.mem_of_getElem? (i := 5) rfl)) (fun _ h9 => h9) rfl hin rfl (by decide +kernel) rfl rfl (Nat.le_of_ble_eq_true rfl) dX4_init_16 (fun H locs hP hD hS => ?_)
  have hP : va_P D vwCl [(r, .inr (7, [.ref q1])), (q1, .inl (cI, 5, .inl (fun _ => 0)))] H := hP
  have hD : va_D A [(r, .inr (7, [.ref q1])), (q1, .inl (cI, 5, .inl (fun _ => 0)))] := hD
  obtain ⟨hP9, hD9⟩ := z_get hP hD [0, 1] (wc := [(r, .inr (7, [.ref q1])), (q1, .inl (cI, 5, .inl (fun _ => 0)))]) rfl rfl
  exact W.vret hx hb hr (fun t ht hW => ⟨⟨(zL [q1]), rfl, trivial, by rw [ht]; exact hP9, hD9⟩, hS.F ht⟩) hS.2.2 dX4_init_19

set_option maxHeartbeats 4000000 in
set_option maxRecDepth 100000 in
/-- Row(500) -/
theorem k_rinit500 (l : Launch) (D : va_G) (cI : ClassId) (r : Nat) (sz : Nat) : Met l yX4_init wsX4_init ({ frames := 1, cells := 1, slots := 500, locals := 20 }) (va_Pc [.ref r, .int 500] (zPre D [(cI, .int)] [(r, .inr (7, [.null]))] sz)) (va_Qv (fun (_ : (Nat → Nat)) => True) (fun (u : (Nat → Nat)) => zB D [(r, .inr (7, [.ref (u 0)])), ((u 0), .inl (cI, 500, .inl (fun _ => 0)))] (va_A [(r, .inr (7, [.null]))] sz)) (va_A [(r, .inr (7, [.null]))] sz)) 1 500 (va_A [(r, .inr (7, [.null]))] sz) := by
  refine Met.ofW (cc := cX4_init) (maxL := 2) (ret := none) (by decide) rfl ?_
  intro p e s m args below meth c s₁ B hml hv
  obtain ⟨rfl, hsz, hP, hK, hD0⟩ := hv
  have hx := B.exec
  have hb := B.bytes
  have hr := B.returns
  have hts := atoms_spec (ws := wsX4_init) B.pre
  have hown : s.vm.findClass RX4 = some m.cls := findClass_of_methodNamed B.named
  have hlocks := B.notSynchronized
  have hin : meth.name = "<init>" := (name_of_methodNamed B.named B.method).1
  subst hsz
  have hD := hD0.self (sz := s.heap.size)
  generalize hAe : va_A [(r, .inr (7, [.null]))] s.heap.size = A at hD ⊢
  have hA : ∀ q : Nat, s.heap.size ≤ q → A q := fun q h => by rw [← hAe]; exact Or.inr h
  have hS : va_S A s.heap s.heap [] := va_S.rf
  have hl := lv_entry ([.ref r, .int 500]) (n := 2) (Nat.le_of_ble_eq_true rfl)
  rw [lg_entry_eq]
  generalize (lg_sl ([.ref r, .int 500]) ++ List.replicate (2 - (lg_sl ([.ref r, .int 500])).length) Slot.unset).toArray = ls at hl ⊢
  have hl : lv_has ls 2 [(0, .ref r), (1, .int 500)] := hl
  refine lv_aload_n hx hb dX4_init_0 rfl (lv_at hl 0 rfl) ?_
  refine W.objInit hx hb hown (hts (.methodLink RX4 1 objectInit) (List.mem_of_getElem? (i := 1) rfl)) (hts (.instanceMethod objectInit) (List.mem_of_getElem? (i := 2) rfl)) (hts (.code objectInit ⟨#[0xb1]⟩ 1 none) (List.mem_of_getElem? (i := 3) rfl)) rfl (by rw [hml]; exact hl.1) rfl dX4_init_1 (Nat.le_of_ble_eq_true rfl) (Nat.le_of_ble_eq_true rfl) ?_
  refine W.eq (g2 := F0 m 4 ls []) rfl ?_
  refine lv_aload_n hx hb dX4_init_4 rfl (lv_at hl 0 rfl) ?_
  refine lv_iload_n hx hb dX4_init_5 rfl (lv_at hl 1 rfl) ?_
  refine lv_if_le (tgt := 13) hx hb dX4_init_6 (by decide) (fun q => absurd q (by decide)) (fun _ => ?_)
  refine lv_iload_n hx hb dX4_init_9 rfl (lv_at hl 1 rfl) ?_
  refine lv_goto (tgt := 14) hx hb dX4_init_10 (by decide) ?_
  refine va_newa (atype := .int) (ty := .int) (N' := 500) (a0 := (500, .inl (fun _ => 0))) hx hb (hts (.arrayClass .int) (List.mem_of_getElem? (i := 4) rfl)) rfl hK hP hD hS hA (fun cA => by rw [vp_cell_i]; rfl) (by decide) (by decide) (by decide) (Nat.le_of_ble_eq_true rfl) (Nat.le_of_ble_eq_true rfl) dX4_init_14 (fun q1 cA2 H hK2 hP hD hS => ?_)
  have ecA2 : cI = cA2 := Option.some.inj ((hK2.2 0 _ rfl).2.symm.trans (hK2.2 1 _ rfl).2)
  subst ecA2
  have hP : va_P D vwCl [(r, .inr (7, [.null])), (q1, .inl (cI, 500, .inl (fun _ => 0)))] H := hP
  have hD : va_D A [(r, .inr (7, [.null])), (q1, .inl (cI, 500, .inl (fun _ => 0)))] := hD
  refine va_putF (D := D) (ci := 7) (v := .ref q1) (ty := .array .int) (C := RX4) (T := TX4) (N := 1) hx hb hts (fun _ h => List.mem_cons_of_mem _ (List.mem_append_right _ h)) tyX4 tyX4_ok nmX4 hown hK hP hD hS 0 rfl rfl 0 (by decide) (hts (.fieldLink RX4 7 "NumberingTree$Row" "cells" "[I") (List.mem_of_getElem? (i := 5) rfl)) (fun _ h9 => h9) rfl hin rfl (by decide +kernel) rfl rfl (Nat.le_of_ble_eq_true rfl) dX4_init_16 (fun H locs hP hD hS => ?_)
  have hP : va_P D vwCl [(r, .inr (7, [.ref q1])), (q1, .inl (cI, 500, .inl (fun _ => 0)))] H := hP
  have hD : va_D A [(r, .inr (7, [.ref q1])), (q1, .inl (cI, 500, .inl (fun _ => 0)))] := hD
  obtain ⟨hP9, hD9⟩ := z_get hP hD [0, 1] (wc := [(r, .inr (7, [.ref q1])), (q1, .inl (cI, 500, .inl (fun _ => 0)))]) rfl rfl
  exact W.vret hx hb hr (fun t ht hW => ⟨⟨(zL [q1]), rfl, trivial, by rw [ht]; exact hP9, hD9⟩, hS.F ht⟩) hS.2.2 dX4_init_19

set_option maxHeartbeats 4000000 in
set_option maxRecDepth 100000 in
/-- Row(30) -/
theorem k_rinit30 (l : Launch) (D : va_G) (cI : ClassId) (r : Nat) (sz : Nat) : Met l yX4_init wsX4_init ({ frames := 1, cells := 1, slots := 30, locals := 20 }) (va_Pc [.ref r, .int 30] (zPre D [(cI, .int)] [(r, .inr (7, [.null]))] sz)) (va_Qv (fun (_ : (Nat → Nat)) => True) (fun (u : (Nat → Nat)) => zB D [(r, .inr (7, [.ref (u 0)])), ((u 0), .inl (cI, 30, .inl (fun _ => 0)))] (va_A [(r, .inr (7, [.null]))] sz)) (va_A [(r, .inr (7, [.null]))] sz)) 1 30 (va_A [(r, .inr (7, [.null]))] sz) := by
  refine Met.ofW (cc := cX4_init) (maxL := 2) (ret := none) (by decide) rfl ?_
  intro p e s m args below meth c s₁ B hml hv
  obtain ⟨rfl, hsz, hP, hK, hD0⟩ := hv
  have hx := B.exec
  have hb := B.bytes
  have hr := B.returns
  have hts := atoms_spec (ws := wsX4_init) B.pre
  have hown : s.vm.findClass RX4 = some m.cls := findClass_of_methodNamed B.named
  have hlocks := B.notSynchronized
  have hin : meth.name = "<init>" := (name_of_methodNamed B.named B.method).1
  subst hsz
  have hD := hD0.self (sz := s.heap.size)
  generalize hAe : va_A [(r, .inr (7, [.null]))] s.heap.size = A at hD ⊢
  have hA : ∀ q : Nat, s.heap.size ≤ q → A q := fun q h => by rw [← hAe]; exact Or.inr h
  have hS : va_S A s.heap s.heap [] := va_S.rf
  have hl := lv_entry ([.ref r, .int 30]) (n := 2) (Nat.le_of_ble_eq_true rfl)
  rw [lg_entry_eq]
  generalize (lg_sl ([.ref r, .int 30]) ++ List.replicate (2 - (lg_sl ([.ref r, .int 30])).length) Slot.unset).toArray = ls at hl ⊢
  have hl : lv_has ls 2 [(0, .ref r), (1, .int 30)] := hl
  refine lv_aload_n hx hb dX4_init_0 rfl (lv_at hl 0 rfl) ?_
  refine W.objInit hx hb hown (hts (.methodLink RX4 1 objectInit) (List.mem_of_getElem? (i := 1) rfl)) (hts (.instanceMethod objectInit) (List.mem_of_getElem? (i := 2) rfl)) (hts (.code objectInit ⟨#[0xb1]⟩ 1 none) (List.mem_of_getElem? (i := 3) rfl)) rfl (by rw [hml]; exact hl.1) rfl dX4_init_1 (Nat.le_of_ble_eq_true rfl) (Nat.le_of_ble_eq_true rfl) ?_
  refine W.eq (g2 := F0 m 4 ls []) rfl ?_
  refine lv_aload_n hx hb dX4_init_4 rfl (lv_at hl 0 rfl) ?_
  refine lv_iload_n hx hb dX4_init_5 rfl (lv_at hl 1 rfl) ?_
  refine lv_if_le (tgt := 13) hx hb dX4_init_6 (by decide) (fun q => absurd q (by decide)) (fun _ => ?_)
  refine lv_iload_n hx hb dX4_init_9 rfl (lv_at hl 1 rfl) ?_
  refine lv_goto (tgt := 14) hx hb dX4_init_10 (by decide) ?_
  refine va_newa (atype := .int) (ty := .int) (N' := 30) (a0 := (30, .inl (fun _ => 0))) hx hb (hts (.arrayClass .int) (List.mem_of_getElem? (i := 4) rfl)) rfl hK hP hD hS hA (fun cA => by rw [vp_cell_i]; rfl) (by decide) (by decide) (by decide) (Nat.le_of_ble_eq_true rfl) (Nat.le_of_ble_eq_true rfl) dX4_init_14 (fun q1 cA2 H hK2 hP hD hS => ?_)
  have ecA2 : cI = cA2 := Option.some.inj ((hK2.2 0 _ rfl).2.symm.trans (hK2.2 1 _ rfl).2)
  subst ecA2
  have hP : va_P D vwCl [(r, .inr (7, [.null])), (q1, .inl (cI, 30, .inl (fun _ => 0)))] H := hP
  have hD : va_D A [(r, .inr (7, [.null])), (q1, .inl (cI, 30, .inl (fun _ => 0)))] := hD
  refine va_putF (D := D) (ci := 7) (v := .ref q1) (ty := .array .int) (C := RX4) (T := TX4) (N := 1) hx hb hts (fun _ h => List.mem_cons_of_mem _ (List.mem_append_right _ h)) tyX4 tyX4_ok nmX4 hown hK hP hD hS 0 rfl rfl 0 (by decide) (hts (.fieldLink RX4 7 "NumberingTree$Row" "cells" "[I") (List.mem_of_getElem? (i := 5) rfl)) (fun _ h9 => h9) rfl hin rfl (by decide +kernel) rfl rfl (Nat.le_of_ble_eq_true rfl) dX4_init_16 (fun H locs hP hD hS => ?_)
  have hP : va_P D vwCl [(r, .inr (7, [.ref q1])), (q1, .inl (cI, 30, .inl (fun _ => 0)))] H := hP
  have hD : va_D A [(r, .inr (7, [.ref q1])), (q1, .inl (cI, 30, .inl (fun _ => 0)))] := hD
  obtain ⟨hP9, hD9⟩ := z_get hP hD [0, 1] (wc := [(r, .inr (7, [.ref q1])), (q1, .inl (cI, 30, .inl (fun _ => 0)))]) rfl rfl
  exact W.vret hx hb hr (fun t ht hW => ⟨⟨(zL [q1]), rfl, trivial, by rw [ht]; exact hP9, hD9⟩, hS.F ht⟩) hS.2.2 dX4_init_19

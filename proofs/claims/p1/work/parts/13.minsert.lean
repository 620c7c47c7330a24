set_option maxHeartbeats 4000000 in
set_option maxRecDepth 100000 in
theorem k_putsIn0 (l : Launch) (D : va_G) (cI : ClassId) (mm mlv msr mrs mpa mnu mlt mpl mod mic mgo msk mfo mul mup mun mfr mta : Nat) (t : Int32) (sz : Nat) : Met l yX9_putsIn wsX9_putsIn ({ frames := 0, cells := 0, slots := 0, locals := 0 }) (va_Pc [.ref mm, .int 0, .int 0] (zPre D [(cI, .int)] [(mm, .inr (12, [.int t, .ref mlv, .ref msr, .ref mrs, .ref mpa, .ref mnu, .ref mlt, .ref mpl, .ref mod, .ref mic, .ref mgo, .ref msk, .ref mfo, .int 0, .int 0, .ref mul, .ref mup, .ref mun, .int 0, .ref mfr, .ref mta, .int 0])), (mod, .inl (cI, 61, .inl (fun _ => 0)))] sz)) (va_Qv (fun (_ : Unit) => True) (fun (_ : Unit) => zB D [(mm, .inr (12, [.int t, .ref mlv, .ref msr, .ref mrs, .ref mpa, .ref mnu, .ref mlt, .ref mpl, .ref mod, .ref mic, .ref mgo, .ref msk, .ref mfo, .int 0, .int 1, .ref mul, .ref mup, .ref mun, .int 0, .ref mfr, .ref mta, .int 0])), (mod, .inl (cI, 61, .inl (upd (fun _ => 0) 0 0)))] (va_A [(mm, .inr (12, [.int t, .ref mlv, .ref msr, .ref mrs, .ref mpa, .ref mnu, .ref mlt, .ref mpl, .ref mod, .ref mic, .ref mgo, .ref msk, .ref mfo, .int 0, .int 0, .ref mul, .ref mup, .ref mun, .int 0, .ref mfr, .ref mta, .int 0])), (mod, .inl (cI, 61, .inl (fun _ => 0)))] sz)) (va_A [(mm, .inr (12, [.int t, .ref mlv, .ref msr, .ref mrs, .ref mpa, .ref mnu, .ref mlt, .ref mpl, .ref mod, .ref mic, .ref mgo, .ref msk, .ref mfo, .int 0, .int 0, .ref mul, .ref mup, .ref mun, .int 0, .ref mfr, .ref mta, .int 0])), (mod, .inl (cI, 61, .inl (fun _ => 0)))] sz)) 0 0 (va_A [(mm, .inr (12, [.int t, .ref mlv, .ref msr, .ref mrs, .ref mpa, .ref mnu, .ref mlt, .ref mpl, .ref mod, .ref mic, .ref mgo, .ref msk, .ref mfo, .int 0, .int 0, .ref mul, .ref mup, .ref mun, .int 0, .ref mfr, .ref mta, .int 0])), (mod, .inl (cI, 61, .inl (fun _ => 0)))] sz) := by
  refine Met.ofW (cc := cX9_putsIn) (maxL := 4) (ret := none) (by decide) rfl ?_
  intro P0 E0 s m args below meth C9 s₁ B hml hv
  obtain ⟨rfl, hsz, hP, hK, hD0⟩ := hv
  have hx := B.exec
  have hb := B.bytes
  have hr := B.returns
  have hts := atoms_spec (ws := wsX9_putsIn) B.pre
  have hown : s.vm.findClass RX9 = some m.cls := findClass_of_methodNamed B.named
  have hlocks := B.notSynchronized
  subst hsz
  have hD := hD0.self (sz := s.heap.size)
  generalize hAe : va_A [(mm, .inr (12, [.int t, .ref mlv, .ref msr, .ref mrs, .ref mpa, .ref mnu, .ref mlt, .ref mpl, .ref mod, .ref mic, .ref mgo, .ref msk, .ref mfo, .int 0, .int 0, .ref mul, .ref mup, .ref mun, .int 0, .ref mfr, .ref mta, .int 0])), (mod, .inl (cI, 61, .inl (fun _ => 0)))] s.heap.size = A at hD ⊢
  have hA : ∀ q : Nat, s.heap.size ≤ q → A q := fun q h => by rw [← hAe]; exact Or.inr h
  have hS : va_S A s.heap s.heap [] := va_S.rf
  have hl := lv_entry ([.ref mm, .int 0, .int 0]) (n := 4) (Nat.le_of_ble_eq_true rfl)
  rw [lg_entry_eq]
  generalize (lg_sl ([.ref mm, .int 0, .int 0]) ++ List.replicate (4 - (lg_sl ([.ref mm, .int 0, .int 0])).length) Slot.unset).toArray = ls at hl ⊢
  have hl : lv_has ls 4 [(0, .ref mm), (1, .int 0), (2, .int 0)] := hl
  refine lv_aload_n hx hb dX9_putsIn_0 rfl (lv_at hl 0 rfl) ?_
  refine va_get (D := D) (ci := 12) (v := .int 0) (C := RX9) (T := TX9) (N := 22) hx hb hts (fun _ h => List.mem_cons_of_mem _ (List.mem_append_left _ (List.mem_append_right _ h))) hown hK hP 0 rfl rfl 14 (by decide) (hts (.fieldLink RX9 91 "NumberingTreeModel" "size" "I") (List.mem_of_getElem? (i := 1) rfl)) (fun _ h9 => h9) rfl dX9_putsIn_1 ?_
  refine lv_istore_n (lv' := [(3, .int 0), (0, .ref mm), (1, .int 0), (2, .int 0)]) hx hb dX9_putsIn_4 rfl hl (by decide) rfl (fun ls hl => ?_)
  refine lv_iload_n hx hb dX9_putsIn_5 rfl (lv_at hl 0 rfl) ?_
  refine lv_iload_n hx hb dX9_putsIn_6 rfl (lv_at hl 3 rfl) ?_
  refine lv_icmp_le (tgt := 30) hx hb dX9_putsIn_7 (by decide) (fun _ => ?_) (fun q => absurd q (by decide))
  refine lv_aload_n hx hb dX9_putsIn_30 rfl (lv_at hl 1 rfl) ?_
  refine va_get (D := D) (ci := 12) (v := .ref mod) (C := RX9) (T := TX9) (N := 22) hx hb hts (fun _ h => List.mem_cons_of_mem _ (List.mem_append_left _ (List.mem_append_right _ h))) hown hK hP 0 rfl rfl 8 (by decide) (hts (.fieldLink RX9 31 "NumberingTreeModel" "order" "[I") (List.mem_of_getElem? (i := 2) rfl)) (fun _ h9 => h9) rfl dX9_putsIn_31 ?_
  refine lv_iload_n hx hb dX9_putsIn_34 rfl (lv_at hl 3 rfl) ?_
  refine lv_iload_n hx hb dX9_putsIn_35 rfl (lv_at hl 2 rfl) ?_
  refine va_iast hx hb hK hP hD hS 1 0 rfl rfl (vp_in_nI (n := 0) (by decide) (by decide)) dX9_putsIn_36 (fun H locs hP hD hS => ?_)
  have hP : va_P D vwCl [(mm, .inr (12, [.int t, .ref mlv, .ref msr, .ref mrs, .ref mpa, .ref mnu, .ref mlt, .ref mpl, .ref mod, .ref mic, .ref mgo, .ref msk, .ref mfo, .int 0, .int 0, .ref mul, .ref mup, .ref mun, .int 0, .ref mfr, .ref mta, .int 0])), (mod, .inl (cI, 61, .inl (upd (fun _ => 0) 0 0)))] H := hP
  have hD : va_D A [(mm, .inr (12, [.int t, .ref mlv, .ref msr, .ref mrs, .ref mpa, .ref mnu, .ref mlt, .ref mpl, .ref mod, .ref mic, .ref mgo, .ref msk, .ref mfo, .int 0, .int 0, .ref mul, .ref mup, .ref mun, .int 0, .ref mfr, .ref mta, .int 0])), (mod, .inl (cI, 61, .inl (upd (fun _ => 0) 0 0)))] := hD
  refine lv_aload_n hx hb dX9_putsIn_37 rfl (lv_at hl 1 rfl) ?_
  refine lv_dup hx hb dX9_putsIn_38 rfl ?_
  refine va_get (D := D) (ci := 12) (v := .int 0) (C := RX9) (T := TX9) (N := 22) hx hb hts (fun _ h => List.mem_cons_of_mem _ (List.mem_append_left _ (List.mem_append_right _ h))) hown hK hP 0 rfl rfl 14 (by decide) (hts (.fieldLink RX9 91 "NumberingTreeModel" "size" "I") (List.mem_of_getElem? (i := 1) rfl)) (fun _ h9 => h9) rfl dX9_putsIn_39 ?_
  refine lv_iconst (v := 1) hx hb dX9_putsIn_42 (by decide) ?_
  refine lv_iadd hx hb dX9_putsIn_43 ?_
  refine zt_i 1 (by decide) ?_
  refine va_put (D := D) (ci := 12) (v := .int 1) (ty := .int) (C := RX9) (T := TX9) (N := 22) hx hb hts (fun _ h => List.mem_cons_of_mem _ (List.mem_append_left _ (List.mem_append_right _ h))) tyX9 tyX9_ok nmX9 hown hK hP hD hS 0 rfl rfl 14 (by decide) (hts (.fieldLink RX9 91 "NumberingTreeModel" "size" "I") (List.mem_of_getElem? (i := 1) rfl)) (fun _ h9 => h9) rfl (by decide +kernel) rfl rfl (Nat.le_of_ble_eq_true rfl) dX9_putsIn_44 (fun H locs hP hD hS => ?_)
  have hP : va_P D vwCl [(mm, .inr (12, [.int t, .ref mlv, .ref msr, .ref mrs, .ref mpa, .ref mnu, .ref mlt, .ref mpl, .ref mod, .ref mic, .ref mgo, .ref msk, .ref mfo, .int 0, .int 1, .ref mul, .ref mup, .ref mun, .int 0, .ref mfr, .ref mta, .int 0])), (mod, .inl (cI, 61, .inl (upd (fun _ => 0) 0 0)))] H := hP
  have hD : va_D A [(mm, .inr (12, [.int t, .ref mlv, .ref msr, .ref mrs, .ref mpa, .ref mnu, .ref mlt, .ref mpl, .ref mod, .ref mic, .ref mgo, .ref msk, .ref mfo, .int 0, .int 1, .ref mul, .ref mup, .ref mun, .int 0, .ref mfr, .ref mta, .int 0])), (mod, .inl (cI, 61, .inl (upd (fun _ => 0) 0 0)))] := hD
  obtain ⟨hP9, hD9⟩ := z_get hP hD [0, 1] (wc := [(mm, .inr (12, [.int t, .ref mlv, .ref msr, .ref mrs, .ref mpa, .ref mnu, .ref mlt, .ref mpl, .ref mod, .ref mic, .ref mgo, .ref msk, .ref mfo, .int 0, .int 1, .ref mul, .ref mup, .ref mun, .int 0, .ref mfr, .ref mta, .int 0])), (mod, .inl (cI, 61, .inl (upd (fun _ => 0) 0 0)))]) rfl rfl
  exact W.vret hx hb hr (fun t ht hW => ⟨⟨(), rfl, trivial, by rw [ht]; exact hP9, hD9⟩, hS.F ht⟩) hS.2.2 dX9_putsIn_47

set_option maxHeartbeats 4000000 in
set_option maxRecDepth 100000 in
theorem k_isParting1 (l : Launch) (D : va_G) (cI cZ : ClassId) (mm mlv msr mrs mpa mnu mlt mpl mod mic mgo msk mfo mul mup mun mfr mta : Nat) (t : Int32) (sz : Nat) : Met l yX9_isParting wsX9_isParting ({ frames := 0, cells := 0, slots := 0, locals := 0 }) (va_Pc [.ref mm] (zPre D [(cI, .int), (cZ, .boolean)] [(mm, .inr (12, [.int t, .ref mlv, .ref msr, .ref mrs, .ref mpa, .ref mnu, .ref mlt, .ref mpl, .ref mod, .ref mic, .ref mgo, .ref msk, .ref mfo, .int 0, .int 1, .ref mul, .ref mup, .ref mun, .int 0, .ref mfr, .ref mta, .int 0])), (mod, .inl (cI, 61, .inl (upd (fun _ => 0) 0 0))), (mic, .inl (cZ, 60, .inl (fun _ => 0)))] sz)) (va_Qi (fun rv (_ : Unit) => rv = 0) (fun (_ : Unit) => zB D [(mm, .inr (12, [.int t, .ref mlv, .ref msr, .ref mrs, .ref mpa, .ref mnu, .ref mlt, .ref mpl, .ref mod, .ref mic, .ref mgo, .ref msk, .ref mfo, .int 0, .int 1, .ref mul, .ref mup, .ref mun, .int 0, .ref mfr, .ref mta, .int 0])), (mod, .inl (cI, 61, .inl (upd (fun _ => 0) 0 0))), (mic, .inl (cZ, 60, .inl (fun _ => 0)))] (va_A [(mm, .inr (12, [.int t, .ref mlv, .ref msr, .ref mrs, .ref mpa, .ref mnu, .ref mlt, .ref mpl, .ref mod, .ref mic, .ref mgo, .ref msk, .ref mfo, .int 0, .int 1, .ref mul, .ref mup, .ref mun, .int 0, .ref mfr, .ref mta, .int 0])), (mod, .inl (cI, 61, .inl (upd (fun _ => 0) 0 0))), (mic, .inl (cZ, 60, .inl (fun _ => 0)))] sz)) (va_A [(mm, .inr (12, [.int t, .ref mlv, .ref msr, .ref mrs, .ref mpa, .ref mnu, .ref mlt, .ref mpl, .ref mod, .ref mic, .ref mgo, .ref msk, .ref mfo, .int 0, .int 1, .ref mul, .ref mup, .ref mun, .int 0, .ref mfr, .ref mta, .int 0])), (mod, .inl (cI, 61, .inl (upd (fun _ => 0) 0 0))), (mic, .inl (cZ, 60, .inl (fun _ => 0)))] sz)) 0 0 (va_A [(mm, .inr (12, [.int t, .ref mlv, .ref msr, .ref mrs, .ref mpa, .ref mnu, .ref mlt, .ref mpl, .ref mod, .ref mic, .ref mgo, .ref msk, .ref mfo, .int 0, .int 1, .ref mul, .ref mup, .ref mun, .int 0, .ref mfr, .ref mta, .int 0])), (mod, .inl (cI, 61, .inl (upd (fun _ => 0) 0 0))), (mic, .inl (cZ, 60, .inl (fun _ => 0)))] sz) := by
  refine Met.ofW (cc := cX9_isParting) (maxL := 2) (ret := (some .boolean)) (by decide) rfl ?_
  intro P0 E0 s m args below meth C9 s₁ B hml hv
  obtain ⟨rfl, hsz, hP, hK, hD0⟩ := hv
  have hx := B.exec
  have hb := B.bytes
  have hr := B.returns
  have hts := atoms_spec (ws := wsX9_isParting) B.pre
  have hown : s.vm.findClass RX9 = some m.cls := findClass_of_methodNamed B.named
  have hlocks := B.notSynchronized
  subst hsz
  have hD := hD0.self (sz := s.heap.size)
  generalize hAe : va_A [(mm, .inr (12, [.int t, .ref mlv, .ref msr, .ref mrs, .ref mpa, .ref mnu, .ref mlt, .ref mpl, .ref mod, .ref mic, .ref mgo, .ref msk, .ref mfo, .int 0, .int 1, .ref mul, .ref mup, .ref mun, .int 0, .ref mfr, .ref mta, .int 0])), (mod, .inl (cI, 61, .inl (upd (fun _ => 0) 0 0))), (mic, .inl (cZ, 60, .inl (fun _ => 0)))] s.heap.size = A at hD ⊢
  have hA : ∀ q : Nat, s.heap.size ≤ q → A q := fun q h => by rw [← hAe]; exact Or.inr h
  have hS : va_S A s.heap s.heap [] := va_S.rf
  have hl := lv_entry ([.ref mm]) (n := 2) (Nat.le_of_ble_eq_true rfl)
  rw [lg_entry_eq]
  generalize (lg_sl ([.ref mm]) ++ List.replicate (2 - (lg_sl ([.ref mm])).length) Slot.unset).toArray = ls at hl ⊢
  have hl : lv_has ls 2 [(0, .ref mm)] := hl
  refine lv_iconst (v := 0) hx hb dX9_isParting_0 (by decide) ?_
  refine lv_istore_n (lv' := [(1, .int 0), (0, .ref mm)]) hx hb dX9_isParting_1 rfl hl (by decide) rfl (fun ls hl => ?_)
  refine lv_iload_n hx hb dX9_isParting_2 rfl (lv_at hl 0 rfl) ?_
  refine lv_aload_n hx hb dX9_isParting_3 rfl (lv_at hl 1 rfl) ?_
  refine va_get (D := D) (ci := 12) (v := .int 1) (C := RX9) (T := TX9) (N := 22) hx hb hts (fun _ h => List.mem_cons_of_mem _ (List.mem_append_left _ (List.mem_append_right _ h))) hown hK hP 0 rfl rfl 14 (by decide) (hts (.fieldLink RX9 91 "NumberingTreeModel" "size" "I") (List.mem_of_getElem? (i := 1) rfl)) (fun _ h9 => h9) rfl dX9_isParting_4 ?_
  refine lv_icmp_ge (tgt := 51) hx hb dX9_isParting_7 (by decide) (fun q => absurd q (by decide)) (fun _ => ?_)
  refine lv_aload_n hx hb dX9_isParting_10 rfl (lv_at hl 1 rfl) ?_
  refine va_get (D := D) (ci := 12) (v := .ref mic) (C := RX9) (T := TX9) (N := 22) hx hb hts (fun _ h => List.mem_cons_of_mem _ (List.mem_append_left _ (List.mem_append_right _ h))) hown hK hP 0 rfl rfl 9 (by decide) (hts (.fieldLink RX9 34 "NumberingTreeModel" "isIced" "[Z") (List.mem_of_getElem? (i := 2) rfl)) (fun _ h9 => h9) rfl dX9_isParting_11 ?_
  refine lv_aload_n hx hb dX9_isParting_14 rfl (lv_at hl 1 rfl) ?_
  refine va_get (D := D) (ci := 12) (v := .ref mod) (C := RX9) (T := TX9) (N := 22) hx hb hts (fun _ h => List.mem_cons_of_mem _ (List.mem_append_left _ (List.mem_append_right _ h))) hown hK hP 0 rfl rfl 8 (by decide) (hts (.fieldLink RX9 31 "NumberingTreeModel" "order" "[I") (List.mem_of_getElem? (i := 3) rfl)) (fun _ h9 => h9) rfl dX9_isParting_15 ?_
  refine lv_iload_n hx hb dX9_isParting_18 rfl (lv_at hl 0 rfl) ?_
  refine va_iald hx hb hK hP 1 0 rfl rfl (vp_in_nI (n := 0) (by decide) (by decide)) dX9_isParting_19 ?_
  refine zt_i 0 rfl ?_
  refine va_zald hx hb hK hP 2 1 rfl rfl (vp_in_nI (n := 0) (by decide) (by decide)) dX9_isParting_20 ?_
  refine zt_i 0 rfl ?_
  refine lv_if_eq (tgt := 45) hx hb dX9_isParting_21 (by decide) (fun _ => ?_) (fun q => absurd q (by decide))
  refine lv_iinc (v := 1) (lv' := [(1, .int 1), (0, .ref mm)]) hx hb dX9_isParting_45 hl (k := 0) rfl (by decide) (by decide) rfl (fun ls hl => ?_)
  refine lv_goto (tgt := 2) hx hb dX9_isParting_48 (by decide) ?_
  refine lv_iload_n hx hb dX9_isParting_2 rfl (lv_at hl 0 rfl) ?_
  refine lv_aload_n hx hb dX9_isParting_3 rfl (lv_at hl 1 rfl) ?_
  refine va_get (D := D) (ci := 12) (v := .int 1) (C := RX9) (T := TX9) (N := 22) hx hb hts (fun _ h => List.mem_cons_of_mem _ (List.mem_append_left _ (List.mem_append_right _ h))) hown hK hP 0 rfl rfl 14 (by decide) (hts (.fieldLink RX9 91 "NumberingTreeModel" "size" "I") (List.mem_of_getElem? (i := 1) rfl)) (fun _ h9 => h9) rfl dX9_isParting_4 ?_
  refine lv_icmp_ge (tgt := 51) hx hb dX9_isParting_7 (by decide) (fun _ => ?_) (fun q => absurd q (by decide))
  refine lv_iconst (v := 0) hx hb dX9_isParting_51 (by decide) ?_
  obtain ⟨hP9, hD9⟩ := z_get hP hD [0, 1, 2] (wc := [(mm, .inr (12, [.int t, .ref mlv, .ref msr, .ref mrs, .ref mpa, .ref mnu, .ref mlt, .ref mpl, .ref mod, .ref mic, .ref mgo, .ref msk, .ref mfo, .int 0, .int 1, .ref mul, .ref mup, .ref mun, .int 0, .ref mfr, .ref mta, .int 0])), (mod, .inl (cI, 61, .inl (upd (fun _ => 0) 0 0))), (mic, .inl (cZ, 60, .inl (fun _ => 0)))]) rfl rfl
  exact W.zret (ty := .boolean) (v := 0) hx hb hr rfl (fun t ht hW => ⟨⟨0, (), rfl, rfl, by rw [ht]; exact hP9, hD9⟩, hS.F ht⟩) hS.2.2 dX9_isParting_52

set_option maxHeartbeats 4000000 in
set_option maxRecDepth 100000 in
theorem k_parentAt1 (l : Launch) (D : va_G) (cI : ClassId) (mm mlv msr mrs mpa mnu mlt mpl mod mic mgo msk mfo mul mup mun mfr mta : Nat) (t nn : Int32) (f : Nat → Int32) (sz : Nat) : Met l yX9_parentAt wsX9_parentAt ({ frames := 0, cells := 0, slots := 0, locals := 0 }) (va_Pc [.ref mm, .int 0] (zPre D [(cI, .int)] [(mm, .inr (12, [.int t, .ref mlv, .ref msr, .ref mrs, .ref mpa, .ref mnu, .ref mlt, .ref mpl, .ref mod, .ref mic, .ref mgo, .ref msk, .ref mfo, .int nn, .int 1, .ref mul, .ref mup, .ref mun, .int 0, .ref mfr, .ref mta, .int 0])), (mod, .inl (cI, 61, .inl (upd (fun _ => 0) 0 0))), (mlv, .inl (cI, 60, .inl f))] sz)) (va_Qi (fun rv (_ : Unit) => rv = (-1)) (fun (_ : Unit) => zB D [(mm, .inr (12, [.int t, .ref mlv, .ref msr, .ref mrs, .ref mpa, .ref mnu, .ref mlt, .ref mpl, .ref mod, .ref mic, .ref mgo, .ref msk, .ref mfo, .int nn, .int 1, .ref mul, .ref mup, .ref mun, .int 0, .ref mfr, .ref mta, .int 0])), (mod, .inl (cI, 61, .inl (upd (fun _ => 0) 0 0))), (mlv, .inl (cI, 60, .inl f))] (va_A [(mm, .inr (12, [.int t, .ref mlv, .ref msr, .ref mrs, .ref mpa, .ref mnu, .ref mlt, .ref mpl, .ref mod, .ref mic, .ref mgo, .ref msk, .ref mfo, .int nn, .int 1, .ref mul, .ref mup, .ref mun, .int 0, .ref mfr, .ref mta, .int 0])), (mod, .inl (cI, 61, .inl (upd (fun _ => 0) 0 0))), (mlv, .inl (cI, 60, .inl f))] sz)) (va_A [(mm, .inr (12, [.int t, .ref mlv, .ref msr, .ref mrs, .ref mpa, .ref mnu, .ref mlt, .ref mpl, .ref mod, .ref mic, .ref mgo, .ref msk, .ref mfo, .int nn, .int 1, .ref mul, .ref mup, .ref mun, .int 0, .ref mfr, .ref mta, .int 0])), (mod, .inl (cI, 61, .inl (upd (fun _ => 0) 0 0))), (mlv, .inl (cI, 60, .inl f))] sz)) 0 0 (va_A [(mm, .inr (12, [.int t, .ref mlv, .ref msr, .ref mrs, .ref mpa, .ref mnu, .ref mlt, .ref mpl, .ref mod, .ref mic, .ref mgo, .ref msk, .ref mfo, .int nn, .int 1, .ref mul, .ref mup, .ref mun, .int 0, .ref mfr, .ref mta, .int 0])), (mod, .inl (cI, 61, .inl (upd (fun _ => 0) 0 0))), (mlv, .inl (cI, 60, .inl f))] sz) := by
  refine Met.ofW (cc := cX9_parentAt) (maxL := 4) (ret := (some .int)) (by decide) rfl ?_
  intro P0 E0 s m args below meth C9 s₁ B hml hv
  obtain ⟨rfl, hsz, hP, hK, hD0⟩ := hv
  have hx := B.exec
  have hb := B.bytes
  have hr := B.returns
  have hts := atoms_spec (ws := wsX9_parentAt) B.pre
  have hown : s.vm.findClass RX9 = some m.cls := findClass_of_methodNamed B.named
  have hlocks := B.notSynchronized
  subst hsz
  have hD := hD0.self (sz := s.heap.size)
  generalize hAe : va_A [(mm, .inr (12, [.int t, .ref mlv, .ref msr, .ref mrs, .ref mpa, .ref mnu, .ref mlt, .ref mpl, .ref mod, .ref mic, .ref mgo, .ref msk, .ref mfo, .int nn, .int 1, .ref mul, .ref mup, .ref mun, .int 0, .ref mfr, .ref mta, .int 0])), (mod, .inl (cI, 61, .inl (upd (fun _ => 0) 0 0))), (mlv, .inl (cI, 60, .inl f))] s.heap.size = A at hD ⊢
  have hA : ∀ q : Nat, s.heap.size ≤ q → A q := fun q h => by rw [← hAe]; exact Or.inr h
  have hS : va_S A s.heap s.heap [] := va_S.rf
  have hl := lv_entry ([.ref mm, .int 0]) (n := 4) (Nat.le_of_ble_eq_true rfl)
  rw [lg_entry_eq]
  generalize (lg_sl ([.ref mm, .int 0]) ++ List.replicate (4 - (lg_sl ([.ref mm, .int 0])).length) Slot.unset).toArray = ls at hl ⊢
  have hl : lv_has ls 4 [(0, .ref mm), (1, .int 0)] := hl
  refine lv_aload_n hx hb dX9_parentAt_0 rfl (lv_at hl 0 rfl) ?_
  refine va_get (D := D) (ci := 12) (v := .ref mlv) (C := RX9) (T := TX9) (N := 22) hx hb hts (fun _ h => List.mem_cons_of_mem _ (List.mem_append_left _ (List.mem_append_right _ h))) hown hK hP 0 rfl rfl 1 (by decide) (hts (.fieldLink RX9 9 "NumberingTreeModel" "levels" "[I") (List.mem_of_getElem? (i := 1) rfl)) (fun _ h9 => h9) rfl dX9_parentAt_1 ?_
  refine lv_aload_n hx hb dX9_parentAt_4 rfl (lv_at hl 0 rfl) ?_
  refine va_get (D := D) (ci := 12) (v := .ref mod) (C := RX9) (T := TX9) (N := 22) hx hb hts (fun _ h => List.mem_cons_of_mem _ (List.mem_append_left _ (List.mem_append_right _ h))) hown hK hP 0 rfl rfl 8 (by decide) (hts (.fieldLink RX9 31 "NumberingTreeModel" "order" "[I") (List.mem_of_getElem? (i := 2) rfl)) (fun _ h9 => h9) rfl dX9_parentAt_5 ?_
  refine lv_iload_n hx hb dX9_parentAt_8 rfl (lv_at hl 1 rfl) ?_
  refine va_iald hx hb hK hP 1 0 rfl rfl (vp_in_nI (n := 0) (by decide) (by decide)) dX9_parentAt_9 ?_
  refine zt_i 0 rfl ?_
  refine va_iald hx hb hK hP 2 0 rfl rfl (vp_in_nI (n := 0) (by decide) (by decide)) dX9_parentAt_10 ?_
  refine zt_i (f 0) rfl ?_
  refine lv_istore_n (lv' := [(2, .int (f 0)), (0, .ref mm), (1, .int 0)]) hx hb dX9_parentAt_11 rfl hl (by decide) rfl (fun ls hl => ?_)
  refine lv_iload_n hx hb dX9_parentAt_12 rfl (lv_at hl 2 rfl) ?_
  refine lv_iconst (v := 1) hx hb dX9_parentAt_13 (by decide) ?_
  refine lv_isub hx hb dX9_parentAt_14 ?_
  refine zt_i (-1) (by decide) ?_
  refine lv_istore_n (lv' := [(3, .int (-1)), (2, .int (f 0)), (0, .ref mm), (1, .int 0)]) hx hb dX9_parentAt_15 rfl hl (by decide) rfl (fun ls hl => ?_)
  refine lv_iload_n hx hb dX9_parentAt_16 rfl (lv_at hl 0 rfl) ?_
  refine lv_if_lt (tgt := 62) hx hb dX9_parentAt_17 (by decide) (fun _ => ?_) (fun q => absurd q (by decide))
  refine lv_iconst (v := (-1)) hx hb dX9_parentAt_62 (by decide) ?_
  obtain ⟨hP9, hD9⟩ := z_get hP hD [0, 1, 2] (wc := [(mm, .inr (12, [.int t, .ref mlv, .ref msr, .ref mrs, .ref mpa, .ref mnu, .ref mlt, .ref mpl, .ref mod, .ref mic, .ref mgo, .ref msk, .ref mfo, .int nn, .int 1, .ref mul, .ref mup, .ref mun, .int 0, .ref mfr, .ref mta, .int 0])), (mod, .inl (cI, 61, .inl (upd (fun _ => 0) 0 0))), (mlv, .inl (cI, 60, .inl f))]) rfl rfl
  exact W.iret (v := (-1)) hx hb hr (fun t ht hW => ⟨⟨(-1), (), rfl, rfl, by rw [ht]; exact hP9, hD9⟩, hS.F ht⟩) hS.2.2 dX9_parentAt_63

set_option maxHeartbeats 4000000 in
set_option maxRecDepth 100000 in
theorem k_aheadOf1 (l : Launch) (D : va_G) (cI : ClassId) (mm mlv msr mrs mpa mnu mlt mpl mod mic mgo msk mfo mul mup mun mfr mta : Nat) (t nn : Int32) (sz : Nat) : Met l yX9_aheadOf wsX9_aheadOf ({ frames := 0, cells := 0, slots := 0, locals := 0 }) (va_Pc [.ref mm, .int 0] (zPre D [(cI, .int)] [(mm, .inr (12, [.int t, .ref mlv, .ref msr, .ref mrs, .ref mpa, .ref mnu, .ref mlt, .ref mpl, .ref mod, .ref mic, .ref mgo, .ref msk, .ref mfo, .int nn, .int 1, .ref mul, .ref mup, .ref mun, .int 0, .ref mfr, .ref mta, .int 0])), (mpl, .inl (cI, 60, .inl (upd (fun _ => 0) 0 0)))] sz)) (va_Qi (fun rv (_ : Unit) => rv = (-1)) (fun (_ : Unit) => zB D [(mm, .inr (12, [.int t, .ref mlv, .ref msr, .ref mrs, .ref mpa, .ref mnu, .ref mlt, .ref mpl, .ref mod, .ref mic, .ref mgo, .ref msk, .ref mfo, .int nn, .int 1, .ref mul, .ref mup, .ref mun, .int 0, .ref mfr, .ref mta, .int 0])), (mpl, .inl (cI, 60, .inl (upd (fun _ => 0) 0 0)))] (va_A [(mm, .inr (12, [.int t, .ref mlv, .ref msr, .ref mrs, .ref mpa, .ref mnu, .ref mlt, .ref mpl, .ref mod, .ref mic, .ref mgo, .ref msk, .ref mfo, .int nn, .int 1, .ref mul, .ref mup, .ref mun, .int 0, .ref mfr, .ref mta, .int 0])), (mpl, .inl (cI, 60, .inl (upd (fun _ => 0) 0 0)))] sz)) (va_A [(mm, .inr (12, [.int t, .ref mlv, .ref msr, .ref mrs, .ref mpa, .ref mnu, .ref mlt, .ref mpl, .ref mod, .ref mic, .ref mgo, .ref msk, .ref mfo, .int nn, .int 1, .ref mul, .ref mup, .ref mun, .int 0, .ref mfr, .ref mta, .int 0])), (mpl, .inl (cI, 60, .inl (upd (fun _ => 0) 0 0)))] sz)) 0 0 (va_A [(mm, .inr (12, [.int t, .ref mlv, .ref msr, .ref mrs, .ref mpa, .ref mnu, .ref mlt, .ref mpl, .ref mod, .ref mic, .ref mgo, .ref msk, .ref mfo, .int nn, .int 1, .ref mul, .ref mup, .ref mun, .int 0, .ref mfr, .ref mta, .int 0])), (mpl, .inl (cI, 60, .inl (upd (fun _ => 0) 0 0)))] sz) := by
  refine Met.ofW (cc := cX9_aheadOf) (maxL := 3) (ret := (some .int)) (by decide) rfl ?_
  intro P0 E0 s m args below meth C9 s₁ B hml hv
  obtain ⟨rfl, hsz, hP, hK, hD0⟩ := hv
  have hx := B.exec
  have hb := B.bytes
  have hr := B.returns
  have hts := atoms_spec (ws := wsX9_aheadOf) B.pre
  have hown : s.vm.findClass RX9 = some m.cls := findClass_of_methodNamed B.named
  have hlocks := B.notSynchronized
  subst hsz
  have hD := hD0.self (sz := s.heap.size)
  generalize hAe : va_A [(mm, .inr (12, [.int t, .ref mlv, .ref msr, .ref mrs, .ref mpa, .ref mnu, .ref mlt, .ref mpl, .ref mod, .ref mic, .ref mgo, .ref msk, .ref mfo, .int nn, .int 1, .ref mul, .ref mup, .ref mun, .int 0, .ref mfr, .ref mta, .int 0])), (mpl, .inl (cI, 60, .inl (upd (fun _ => 0) 0 0)))] s.heap.size = A at hD ⊢
  have hA : ∀ q : Nat, s.heap.size ≤ q → A q := fun q h => by rw [← hAe]; exact Or.inr h
  have hS : va_S A s.heap s.heap [] := va_S.rf
  have hl := lv_entry ([.ref mm, .int 0]) (n := 3) (Nat.le_of_ble_eq_true rfl)
  rw [lg_entry_eq]
  generalize (lg_sl ([.ref mm, .int 0]) ++ List.replicate (3 - (lg_sl ([.ref mm, .int 0])).length) Slot.unset).toArray = ls at hl ⊢
  have hl : lv_has ls 3 [(0, .ref mm), (1, .int 0)] := hl
  refine lv_aload_n hx hb dX9_aheadOf_0 rfl (lv_at hl 0 rfl) ?_
  refine va_get (D := D) (ci := 12) (v := .ref mpl) (C := RX9) (T := TX9) (N := 22) hx hb hts (fun _ h => List.mem_cons_of_mem _ (List.mem_append_left _ (List.mem_append_right _ h))) hown hK hP 0 rfl rfl 7 (by decide) (hts (.fieldLink RX9 28 "NumberingTreeModel" "places" "[I") (List.mem_of_getElem? (i := 1) rfl)) (fun _ h9 => h9) rfl dX9_aheadOf_1 ?_
  refine lv_iload_n hx hb dX9_aheadOf_4 rfl (lv_at hl 1 rfl) ?_
  refine va_iald hx hb hK hP 1 0 rfl rfl (vp_in_nI (n := 0) (by decide) (by decide)) dX9_aheadOf_5 ?_
  refine zt_i 0 rfl ?_
  refine lv_iconst (v := 1) hx hb dX9_aheadOf_6 (by decide) ?_
  refine lv_isub hx hb dX9_aheadOf_7 ?_
  refine zt_i (-1) (by decide) ?_
  refine lv_istore_n (lv' := [(2, .int (-1)), (0, .ref mm), (1, .int 0)]) hx hb dX9_aheadOf_8 rfl hl (by decide) rfl (fun ls hl => ?_)
  refine lv_iload_n hx hb dX9_aheadOf_9 rfl (lv_at hl 0 rfl) ?_
  refine lv_if_lt (tgt := 40) hx hb dX9_aheadOf_10 (by decide) (fun _ => ?_) (fun q => absurd q (by decide))
  refine lv_iconst (v := (-1)) hx hb dX9_aheadOf_40 (by decide) ?_
  obtain ⟨hP9, hD9⟩ := z_get hP hD [0, 1] (wc := [(mm, .inr (12, [.int t, .ref mlv, .ref msr, .ref mrs, .ref mpa, .ref mnu, .ref mlt, .ref mpl, .ref mod, .ref mic, .ref mgo, .ref msk, .ref mfo, .int nn, .int 1, .ref mul, .ref mup, .ref mun, .int 0, .ref mfr, .ref mta, .int 0])), (mpl, .inl (cI, 60, .inl (upd (fun _ => 0) 0 0)))]) rfl rfl
  exact W.iret (v := (-1)) hx hb hr (fun t ht hW => ⟨⟨(-1), (), rfl, rfl, by rw [ht]; exact hP9, hD9⟩, hS.F ht⟩) hS.2.2 dX9_aheadOf_41

set_option maxHeartbeats 4000000 in
set_option maxRecDepth 100000 in
theorem k_icedBehind1 (l : Launch) (D : va_G) (cI : ClassId) (mm mlv msr mrs mpa mnu mlt mpl mod mic mgo msk mfo mul mup mun mfr mta : Nat) (t nn : Int32) (sz : Nat) : Met l yX9_icedBehind wsX9_icedBehind ({ frames := 0, cells := 0, slots := 0, locals := 0 }) (va_Pc [.ref mm, .int 0] (zPre D [(cI, .int)] [(mm, .inr (12, [.int t, .ref mlv, .ref msr, .ref mrs, .ref mpa, .ref mnu, .ref mlt, .ref mpl, .ref mod, .ref mic, .ref mgo, .ref msk, .ref mfo, .int nn, .int 1, .ref mul, .ref mup, .ref mun, .int 0, .ref mfr, .ref mta, .int 0])), (mpl, .inl (cI, 60, .inl (upd (fun _ => 0) 0 0)))] sz)) (va_Qi (fun rv (_ : Unit) => rv = (-1)) (fun (_ : Unit) => zB D [(mm, .inr (12, [.int t, .ref mlv, .ref msr, .ref mrs, .ref mpa, .ref mnu, .ref mlt, .ref mpl, .ref mod, .ref mic, .ref mgo, .ref msk, .ref mfo, .int nn, .int 1, .ref mul, .ref mup, .ref mun, .int 0, .ref mfr, .ref mta, .int 0])), (mpl, .inl (cI, 60, .inl (upd (fun _ => 0) 0 0)))] (va_A [(mm, .inr (12, [.int t, .ref mlv, .ref msr, .ref mrs, .ref mpa, .ref mnu, .ref mlt, .ref mpl, .ref mod, .ref mic, .ref mgo, .ref msk, .ref mfo, .int nn, .int 1, .ref mul, .ref mup, .ref mun, .int 0, .ref mfr, .ref mta, .int 0])), (mpl, .inl (cI, 60, .inl (upd (fun _ => 0) 0 0)))] sz)) (va_A [(mm, .inr (12, [.int t, .ref mlv, .ref msr, .ref mrs, .ref mpa, .ref mnu, .ref mlt, .ref mpl, .ref mod, .ref mic, .ref mgo, .ref msk, .ref mfo, .int nn, .int 1, .ref mul, .ref mup, .ref mun, .int 0, .ref mfr, .ref mta, .int 0])), (mpl, .inl (cI, 60, .inl (upd (fun _ => 0) 0 0)))] sz)) 0 0 (va_A [(mm, .inr (12, [.int t, .ref mlv, .ref msr, .ref mrs, .ref mpa, .ref mnu, .ref mlt, .ref mpl, .ref mod, .ref mic, .ref mgo, .ref msk, .ref mfo, .int nn, .int 1, .ref mul, .ref mup, .ref mun, .int 0, .ref mfr, .ref mta, .int 0])), (mpl, .inl (cI, 60, .inl (upd (fun _ => 0) 0 0)))] sz) := by
  refine Met.ofW (cc := cX9_icedBehind) (maxL := 3) (ret := (some .int)) (by decide) rfl ?_
  intro P0 E0 s m args below meth C9 s₁ B hml hv
  obtain ⟨rfl, hsz, hP, hK, hD0⟩ := hv
  have hx := B.exec
  have hb := B.bytes
  have hr := B.returns
  have hts := atoms_spec (ws := wsX9_icedBehind) B.pre
  have hown : s.vm.findClass RX9 = some m.cls := findClass_of_methodNamed B.named
  have hlocks := B.notSynchronized
  subst hsz
  have hD := hD0.self (sz := s.heap.size)
  generalize hAe : va_A [(mm, .inr (12, [.int t, .ref mlv, .ref msr, .ref mrs, .ref mpa, .ref mnu, .ref mlt, .ref mpl, .ref mod, .ref mic, .ref mgo, .ref msk, .ref mfo, .int nn, .int 1, .ref mul, .ref mup, .ref mun, .int 0, .ref mfr, .ref mta, .int 0])), (mpl, .inl (cI, 60, .inl (upd (fun _ => 0) 0 0)))] s.heap.size = A at hD ⊢
  have hA : ∀ q : Nat, s.heap.size ≤ q → A q := fun q h => by rw [← hAe]; exact Or.inr h
  have hS : va_S A s.heap s.heap [] := va_S.rf
  have hl := lv_entry ([.ref mm, .int 0]) (n := 3) (Nat.le_of_ble_eq_true rfl)
  rw [lg_entry_eq]
  generalize (lg_sl ([.ref mm, .int 0]) ++ List.replicate (3 - (lg_sl ([.ref mm, .int 0])).length) Slot.unset).toArray = ls at hl ⊢
  have hl : lv_has ls 3 [(0, .ref mm), (1, .int 0)] := hl
  refine lv_aload_n hx hb dX9_icedBehind_0 rfl (lv_at hl 0 rfl) ?_
  refine va_get (D := D) (ci := 12) (v := .ref mpl) (C := RX9) (T := TX9) (N := 22) hx hb hts (fun _ h => List.mem_cons_of_mem _ (List.mem_append_left _ (List.mem_append_right _ h))) hown hK hP 0 rfl rfl 7 (by decide) (hts (.fieldLink RX9 28 "NumberingTreeModel" "places" "[I") (List.mem_of_getElem? (i := 1) rfl)) (fun _ h9 => h9) rfl dX9_icedBehind_1 ?_
  refine lv_iload_n hx hb dX9_icedBehind_4 rfl (lv_at hl 1 rfl) ?_
  refine va_iald hx hb hK hP 1 0 rfl rfl (vp_in_nI (n := 0) (by decide) (by decide)) dX9_icedBehind_5 ?_
  refine zt_i 0 rfl ?_
  refine lv_iconst (v := 1) hx hb dX9_icedBehind_6 (by decide) ?_
  refine lv_iadd hx hb dX9_icedBehind_7 ?_
  refine zt_i 1 (by decide) ?_
  refine lv_istore_n (lv' := [(2, .int 1), (0, .ref mm), (1, .int 0)]) hx hb dX9_icedBehind_8 rfl hl (by decide) rfl (fun ls hl => ?_)
  refine lv_iload_n hx hb dX9_icedBehind_9 rfl (lv_at hl 0 rfl) ?_
  refine lv_aload_n hx hb dX9_icedBehind_10 rfl (lv_at hl 1 rfl) ?_
  refine va_get (D := D) (ci := 12) (v := .int 1) (C := RX9) (T := TX9) (N := 22) hx hb hts (fun _ h => List.mem_cons_of_mem _ (List.mem_append_left _ (List.mem_append_right _ h))) hown hK hP 0 rfl rfl 14 (by decide) (hts (.fieldLink RX9 91 "NumberingTreeModel" "size" "I") (List.mem_of_getElem? (i := 2) rfl)) (fun _ h9 => h9) rfl dX9_icedBehind_11 ?_
  refine lv_icmp_ge (tgt := 58) hx hb dX9_icedBehind_14 (by decide) (fun _ => ?_) (fun q => absurd q (by decide))
  refine lv_iconst (v := (-1)) hx hb dX9_icedBehind_58 (by decide) ?_
  obtain ⟨hP9, hD9⟩ := z_get hP hD [0, 1] (wc := [(mm, .inr (12, [.int t, .ref mlv, .ref msr, .ref mrs, .ref mpa, .ref mnu, .ref mlt, .ref mpl, .ref mod, .ref mic, .ref mgo, .ref msk, .ref mfo, .int nn, .int 1, .ref mul, .ref mup, .ref mun, .int 0, .ref mfr, .ref mta, .int 0])), (mpl, .inl (cI, 60, .inl (upd (fun _ => 0) 0 0)))]) rfl rfl
  exact W.iret (v := (-1)) hx hb hr (fun t ht hW => ⟨⟨(-1), (), rfl, rfl, by rw [ht]; exact hP9, hD9⟩, hS.F ht⟩) hS.2.2 dX9_icedBehind_59

set_option maxHeartbeats 4000000 in
set_option maxRecDepth 100000 in
theorem k_isUsed1 (l : Launch) (D : va_G) (cI cQ cZ : ClassId) (mm mlv msr mrs mpa mnu mlt mpl mod mic mgo msk mfo mul mup mun mfr mta yy : Nat) (t nn q : Int32) (g : Nat → Option Nat) (sz : Nat) (hp : zLv q) (hg : g q.toNatClampNeg = some yy) : Met l yX9_isUsed wsX9_isUsed ({ frames := 0, cells := 0, slots := 0, locals := 0 }) (va_Pc [.ref mm, .int 0, .int 1] (zPre D [(cI, .int), (cZ, .boolean), (cQ, .array .boolean)] [(mm, .inr (12, [.int t, .ref mlv, .ref msr, .ref mrs, .ref mpa, .ref mnu, .ref mlt, .ref mpl, .ref mod, .ref mic, .ref mgo, .ref msk, .ref mfo, .int nn, .int 1, .ref mul, .ref mup, .ref mun, .int 0, .ref mfr, .ref mta, .int 0])), (mlv, .inl (cI, 60, .inl (upd (fun _ => 0) 0 q))), (msk, .inl (cQ, 5, .inr (.inr (.inr (.inr g))))), (yy, .inl (cZ, 100, .inl (fun _ => 0)))] sz)) (va_Qi (fun rv (_ : Unit) => rv = 0) (fun (_ : Unit) => zB D [(mm, .inr (12, [.int t, .ref mlv, .ref msr, .ref mrs, .ref mpa, .ref mnu, .ref mlt, .ref mpl, .ref mod, .ref mic, .ref mgo, .ref msk, .ref mfo, .int nn, .int 1, .ref mul, .ref mup, .ref mun, .int 0, .ref mfr, .ref mta, .int 0])), (mlv, .inl (cI, 60, .inl (upd (fun _ => 0) 0 q))), (msk, .inl (cQ, 5, .inr (.inr (.inr (.inr g))))), (yy, .inl (cZ, 100, .inl (fun _ => 0)))] (va_A [(mm, .inr (12, [.int t, .ref mlv, .ref msr, .ref mrs, .ref mpa, .ref mnu, .ref mlt, .ref mpl, .ref mod, .ref mic, .ref mgo, .ref msk, .ref mfo, .int nn, .int 1, .ref mul, .ref mup, .ref mun, .int 0, .ref mfr, .ref mta, .int 0])), (mlv, .inl (cI, 60, .inl (upd (fun _ => 0) 0 q))), (msk, .inl (cQ, 5, .inr (.inr (.inr (.inr g))))), (yy, .inl (cZ, 100, .inl (fun _ => 0)))] sz)) (va_A [(mm, .inr (12, [.int t, .ref mlv, .ref msr, .ref mrs, .ref mpa, .ref mnu, .ref mlt, .ref mpl, .ref mod, .ref mic, .ref mgo, .ref msk, .ref mfo, .int nn, .int 1, .ref mul, .ref mup, .ref mun, .int 0, .ref mfr, .ref mta, .int 0])), (mlv, .inl (cI, 60, .inl (upd (fun _ => 0) 0 q))), (msk, .inl (cQ, 5, .inr (.inr (.inr (.inr g))))), (yy, .inl (cZ, 100, .inl (fun _ => 0)))] sz)) 0 0 (va_A [(mm, .inr (12, [.int t, .ref mlv, .ref msr, .ref mrs, .ref mpa, .ref mnu, .ref mlt, .ref mpl, .ref mod, .ref mic, .ref mgo, .ref msk, .ref mfo, .int nn, .int 1, .ref mul, .ref mup, .ref mun, .int 0, .ref mfr, .ref mta, .int 0])), (mlv, .inl (cI, 60, .inl (upd (fun _ => 0) 0 q))), (msk, .inl (cQ, 5, .inr (.inr (.inr (.inr g))))), (yy, .inl (cZ, 100, .inl (fun _ => 0)))] sz) := by
  refine Met.ofW (cc := cX9_isUsed) (maxL := 4) (ret := (some .boolean)) (by decide) rfl ?_
  intro P0 E0 s m args below meth C9 s₁ B hml hv
  obtain ⟨rfl, hsz, hP, hK, hD0⟩ := hv
  have hx := B.exec
  have hb := B.bytes
  have hr := B.returns
  have hts := atoms_spec (ws := wsX9_isUsed) B.pre
  have hown : s.vm.findClass RX9 = some m.cls := findClass_of_methodNamed B.named
  have hlocks := B.notSynchronized
  subst hsz
  have hD := hD0.self (sz := s.heap.size)
  generalize hAe : va_A [(mm, .inr (12, [.int t, .ref mlv, .ref msr, .ref mrs, .ref mpa, .ref mnu, .ref mlt, .ref mpl, .ref mod, .ref mic, .ref mgo, .ref msk, .ref mfo, .int nn, .int 1, .ref mul, .ref mup, .ref mun, .int 0, .ref mfr, .ref mta, .int 0])), (mlv, .inl (cI, 60, .inl (upd (fun _ => 0) 0 q))), (msk, .inl (cQ, 5, .inr (.inr (.inr (.inr g))))), (yy, .inl (cZ, 100, .inl (fun _ => 0)))] s.heap.size = A at hD ⊢
  have hA : ∀ q : Nat, s.heap.size ≤ q → A q := fun q h => by rw [← hAe]; exact Or.inr h
  have hS : va_S A s.heap s.heap [] := va_S.rf
  have hl := lv_entry ([.ref mm, .int 0, .int 1]) (n := 4) (Nat.le_of_ble_eq_true rfl)
  rw [lg_entry_eq]
  generalize (lg_sl ([.ref mm, .int 0, .int 1]) ++ List.replicate (4 - (lg_sl ([.ref mm, .int 0, .int 1])).length) Slot.unset).toArray = ls at hl ⊢
  have hl : lv_has ls 4 [(0, .ref mm), (1, .int 0), (2, .int 1)] := hl
  refine lv_iconst (v := 0) hx hb dX9_isUsed_0 (by decide) ?_
  refine lv_istore_n (lv' := [(3, .int 0), (0, .ref mm), (1, .int 0), (2, .int 1)]) hx hb dX9_isUsed_1 rfl hl (by decide) rfl (fun ls hl => ?_)
  refine lv_iload_n hx hb dX9_isUsed_2 rfl (lv_at hl 0 rfl) ?_
  refine lv_aload_n hx hb dX9_isUsed_3 rfl (lv_at hl 1 rfl) ?_
  refine va_get (D := D) (ci := 12) (v := .int 0) (C := RX9) (T := TX9) (N := 22) hx hb hts (fun _ h => List.mem_cons_of_mem _ (List.mem_append_left _ (List.mem_append_right _ h))) hown hK hP 0 rfl rfl 18 (by decide) (hts (.fieldLink RX9 94 "NumberingTreeModel" "usedMany" "I") (List.mem_of_getElem? (i := 1) rfl)) (fun _ h9 => h9) rfl dX9_isUsed_4 ?_
  refine lv_icmp_ge (tgt := 57) hx hb dX9_isUsed_7 (by decide) (fun _ => ?_) (fun q => absurd q (by decide))
  refine lv_iload_n hx hb dX9_isUsed_57 rfl (lv_at hl 3 rfl) ?_
  refine lv_bipush (v := 100) hx hb dX9_isUsed_58 (by decide) ?_
  refine lv_icmp_ge (tgt := 83) hx hb dX9_isUsed_60 (by decide) (fun q => absurd q (by decide)) (fun _ => ?_)
  refine lv_aload_n hx hb dX9_isUsed_63 rfl (lv_at hl 1 rfl) ?_
  refine va_get (D := D) (ci := 12) (v := .ref msk) (C := RX9) (T := TX9) (N := 22) hx hb hts (fun _ h => List.mem_cons_of_mem _ (List.mem_append_left _ (List.mem_append_right _ h))) hown hK hP 0 rfl rfl 11 (by decide) (hts (.fieldLink RX9 43 "NumberingTreeModel" "skipped" "[[Z") (List.mem_of_getElem? (i := 6) rfl)) (fun _ h9 => h9) rfl dX9_isUsed_64 ?_
  refine lv_aload_n hx hb dX9_isUsed_67 rfl (lv_at hl 1 rfl) ?_
  refine va_get (D := D) (ci := 12) (v := .ref mlv) (C := RX9) (T := TX9) (N := 22) hx hb hts (fun _ h => List.mem_cons_of_mem _ (List.mem_append_left _ (List.mem_append_right _ h))) hown hK hP 0 rfl rfl 1 (by decide) (hts (.fieldLink RX9 9 "NumberingTreeModel" "levels" "[I") (List.mem_of_getElem? (i := 3) rfl)) (fun _ h9 => h9) rfl dX9_isUsed_68 ?_
  refine lv_iload_n hx hb dX9_isUsed_71 rfl (lv_at hl 2 rfl) ?_
  refine va_iald hx hb hK hP 1 0 rfl rfl (vp_in_nI (n := 0) (by decide) (by decide)) dX9_isUsed_72 ?_
  refine zt_i q rfl ?_
  refine za_ald hx hb hK hP 2 2 rfl rfl (zLv_in hp) (y := yy) hg dX9_isUsed_73 ?_
  refine lv_iload_n hx hb dX9_isUsed_74 rfl (lv_at hl 3 rfl) ?_
  refine va_zald hx hb hK hP 3 1 rfl rfl (vp_in_nI (n := 1) (by decide) (by decide)) dX9_isUsed_75 ?_
  refine zt_i 0 rfl ?_
  refine lv_if_eq (tgt := 83) hx hb dX9_isUsed_76 (by decide) (fun _ => ?_) (fun q => absurd q (by decide))
  refine lv_iconst (v := 0) hx hb dX9_isUsed_83 (by decide) ?_
  obtain ⟨hP9, hD9⟩ := z_get hP hD [0, 1, 2, 3] (wc := [(mm, .inr (12, [.int t, .ref mlv, .ref msr, .ref mrs, .ref mpa, .ref mnu, .ref mlt, .ref mpl, .ref mod, .ref mic, .ref mgo, .ref msk, .ref mfo, .int nn, .int 1, .ref mul, .ref mup, .ref mun, .int 0, .ref mfr, .ref mta, .int 0])), (mlv, .inl (cI, 60, .inl (upd (fun _ => 0) 0 q))), (msk, .inl (cQ, 5, .inr (.inr (.inr (.inr g))))), (yy, .inl (cZ, 100, .inl (fun _ => 0)))]) rfl rfl
  exact W.zret (ty := .boolean) (v := 0) hx hb hr rfl (fun t ht hW => ⟨⟨0, (), rfl, rfl, by rw [ht]; exact hP9, hD9⟩, hS.F ht⟩) hS.2.2 dX9_isUsed_84

set_option maxHeartbeats 4000000 in
set_option maxRecDepth 100000 in
theorem k_numbersOne1 (l : Launch) (D : va_G) (cI cQ cZ : ClassId) (mm mlv msr mrs mpa mnu mlt mpl mod mic mgo msk mfo mul mup mun mfr mta yy : Nat) (t nn q : Int32) (g : Nat → Option Nat) (sz : Nat) (hp : zLv q) (hg : g q.toNatClampNeg = some yy) : Met l yX9_numbersOne wsX9_numbersOne ({ frames := 1, cells := 0, slots := 0, locals := 23 }) (va_Pc [.ref mm, .int 0] (zPre D [(cI, .int), (cZ, .boolean), (cQ, .array .boolean)] [(mm, .inr (12, [.int t, .ref mlv, .ref msr, .ref mrs, .ref mpa, .ref mnu, .ref mlt, .ref mpl, .ref mod, .ref mic, .ref mgo, .ref msk, .ref mfo, .int nn, .int 1, .ref mul, .ref mup, .ref mun, .int 0, .ref mfr, .ref mta, .int 0])), (mlv, .inl (cI, 60, .inl (upd (fun _ => 0) 0 q))), (mpl, .inl (cI, 60, .inl (upd (fun _ => 0) 0 0))), (msr, .inl (cI, 60, .inl (fun _ => 0))), (mnu, .inl (cI, 60, .inl (fun _ => 0))), (mlt, .inl (cI, 60, .inl (fun _ => 0))), (msk, .inl (cQ, 5, .inr (.inr (.inr (.inr g))))), (yy, .inl (cZ, 100, .inl (fun _ => 0)))] sz)) (va_Qv (fun (_ : Unit) => True) (fun (_ : Unit) => zB D [(mm, .inr (12, [.int t, .ref mlv, .ref msr, .ref mrs, .ref mpa, .ref mnu, .ref mlt, .ref mpl, .ref mod, .ref mic, .ref mgo, .ref msk, .ref mfo, .int nn, .int 1, .ref mul, .ref mup, .ref mun, .int 0, .ref mfr, .ref mta, .int 0])), (mlv, .inl (cI, 60, .inl (upd (fun _ => 0) 0 q)))] (va_A [(mm, .inr (12, [.int t, .ref mlv, .ref msr, .ref mrs, .ref mpa, .ref mnu, .ref mlt, .ref mpl, .ref mod, .ref mic, .ref mgo, .ref msk, .ref mfo, .int nn, .int 1, .ref mul, .ref mup, .ref mun, .int 0, .ref mfr, .ref mta, .int 0])), (mlv, .inl (cI, 60, .inl (upd (fun _ => 0) 0 q))), (mpl, .inl (cI, 60, .inl (upd (fun _ => 0) 0 0))), (msr, .inl (cI, 60, .inl (fun _ => 0))), (mnu, .inl (cI, 60, .inl (fun _ => 0))), (mlt, .inl (cI, 60, .inl (fun _ => 0))), (msk, .inl (cQ, 5, .inr (.inr (.inr (.inr g))))), (yy, .inl (cZ, 100, .inl (fun _ => 0)))] sz)) (va_A [(mm, .inr (12, [.int t, .ref mlv, .ref msr, .ref mrs, .ref mpa, .ref mnu, .ref mlt, .ref mpl, .ref mod, .ref mic, .ref mgo, .ref msk, .ref mfo, .int nn, .int 1, .ref mul, .ref mup, .ref mun, .int 0, .ref mfr, .ref mta, .int 0])), (mlv, .inl (cI, 60, .inl (upd (fun _ => 0) 0 q))), (mpl, .inl (cI, 60, .inl (upd (fun _ => 0) 0 0))), (msr, .inl (cI, 60, .inl (fun _ => 0))), (mnu, .inl (cI, 60, .inl (fun _ => 0))), (mlt, .inl (cI, 60, .inl (fun _ => 0))), (msk, .inl (cQ, 5, .inr (.inr (.inr (.inr g))))), (yy, .inl (cZ, 100, .inl (fun _ => 0)))] sz)) 0 0 (va_A [(mm, .inr (12, [.int t, .ref mlv, .ref msr, .ref mrs, .ref mpa, .ref mnu, .ref mlt, .ref mpl, .ref mod, .ref mic, .ref mgo, .ref msk, .ref mfo, .int nn, .int 1, .ref mul, .ref mup, .ref mun, .int 0, .ref mfr, .ref mta, .int 0])), (mlv, .inl (cI, 60, .inl (upd (fun _ => 0) 0 q))), (mpl, .inl (cI, 60, .inl (upd (fun _ => 0) 0 0))), (msr, .inl (cI, 60, .inl (fun _ => 0))), (mnu, .inl (cI, 60, .inl (fun _ => 0))), (mlt, .inl (cI, 60, .inl (fun _ => 0))), (msk, .inl (cQ, 5, .inr (.inr (.inr (.inr g))))), (yy, .inl (cZ, 100, .inl (fun _ => 0)))] sz) := by
  refine Met.ofW (cc := cX9_numbersOne) (maxL := 7) (ret := none) (by decide) rfl ?_
  intro P0 E0 s m args below meth C9 s₁ B hml hv
  obtain ⟨rfl, hsz, hP, hK, hD0⟩ := hv
  have hx := B.exec
  have hb := B.bytes
  have hr := B.returns
  have hts := atoms_spec (ws := wsX9_numbersOne) B.pre
  have hown : s.vm.findClass RX9 = some m.cls := findClass_of_methodNamed B.named
  have hlocks := B.notSynchronized
  subst hsz
  have hD := hD0.self (sz := s.heap.size)
  generalize hAe : va_A [(mm, .inr (12, [.int t, .ref mlv, .ref msr, .ref mrs, .ref mpa, .ref mnu, .ref mlt, .ref mpl, .ref mod, .ref mic, .ref mgo, .ref msk, .ref mfo, .int nn, .int 1, .ref mul, .ref mup, .ref mun, .int 0, .ref mfr, .ref mta, .int 0])), (mlv, .inl (cI, 60, .inl (upd (fun _ => 0) 0 q))), (mpl, .inl (cI, 60, .inl (upd (fun _ => 0) 0 0))), (msr, .inl (cI, 60, .inl (fun _ => 0))), (mnu, .inl (cI, 60, .inl (fun _ => 0))), (mlt, .inl (cI, 60, .inl (fun _ => 0))), (msk, .inl (cQ, 5, .inr (.inr (.inr (.inr g))))), (yy, .inl (cZ, 100, .inl (fun _ => 0)))] s.heap.size = A at hD ⊢
  have hA : ∀ q : Nat, s.heap.size ≤ q → A q := fun q h => by rw [← hAe]; exact Or.inr h
  have hS : va_S A s.heap s.heap [] := va_S.rf
  have hl := lv_entry ([.ref mm, .int 0]) (n := 7) (Nat.le_of_ble_eq_true rfl)
  rw [lg_entry_eq]
  generalize (lg_sl ([.ref mm, .int 0]) ++ List.replicate (7 - (lg_sl ([.ref mm, .int 0])).length) Slot.unset).toArray = ls at hl ⊢
  have hl : lv_has ls 7 [(0, .ref mm), (1, .int 0)] := hl
  refine lv_aload_n hx hb dX9_numbersOne_0 rfl (lv_at hl 0 rfl) ?_
  refine lv_iload_n hx hb dX9_numbersOne_1 rfl (lv_at hl 1 rfl) ?_
  refine zc_i (wc := [(mm, .inr (12, [.int t, .ref mlv, .ref msr, .ref mrs, .ref mpa, .ref mnu, .ref mlt, .ref mpl, .ref mod, .ref mic, .ref mgo, .ref msk, .ref mfo, .int nn, .int 1, .ref mul, .ref mup, .ref mun, .int 0, .ref mfr, .ref mta, .int 0])), (mpl, .inl (cI, 60, .inl (upd (fun _ => 0) 0 0)))]) (wr := [(mlv, .inl (cI, 60, .inl (upd (fun _ => 0) 0 q))), (msr, .inl (cI, 60, .inl (fun _ => 0))), (mnu, .inl (cI, 60, .inl (fun _ => 0))), (mlt, .inl (cI, 60, .inl (fun _ => 0))), (msk, .inl (cQ, 5, .inr (.inr (.inr (.inr g))))), (yy, .inl (cZ, 100, .inl (fun _ => 0)))]) (va_runV (As := [.int 0]) (rest := []) ⟨hx, hb, hml, hown, hts⟩ (k_aheadOf1 l D cI mm mlv msr mrs mpa mnu mlt mpl mod mic mgo msk mfo mul mup mun mfr mta t nn s.heap.size) (cwV 1 hts gX9_numbersOne_X9_aheadOf rfl rfl rfl (by decide +kernel) ⟨Nat.le_of_ble_eq_true rfl, Nat.le_of_ble_eq_true rfl⟩) (zPV hK hP hD [0, 2] rfl rfl [0] rfl 0 rfl rfl rfl) rfl rfl hl.1 rfl (lv_room (Nat.le_of_ble_eq_true rfl)) dX9_numbersOne_2 ⟨Nat.le_of_ble_eq_true rfl, Nat.le_of_ble_eq_true rfl⟩) hP hD hS hA [0, 2] [1, 3, 4, 5, 6, 7] rfl rfl rfl (by decide) (fun r _ H locs hw hP hD hS => ?_)
  have hP : va_P D vwCl [(mlv, .inl (cI, 60, .inl (upd (fun _ => 0) 0 q))), (msr, .inl (cI, 60, .inl (fun _ => 0))), (mnu, .inl (cI, 60, .inl (fun _ => 0))), (mlt, .inl (cI, 60, .inl (fun _ => 0))), (msk, .inl (cQ, 5, .inr (.inr (.inr (.inr g))))), (yy, .inl (cZ, 100, .inl (fun _ => 0))), (mm, .inr (12, [.int t, .ref mlv, .ref msr, .ref mrs, .ref mpa, .ref mnu, .ref mlt, .ref mpl, .ref mod, .ref mic, .ref mgo, .ref msk, .ref mfo, .int nn, .int 1, .ref mul, .ref mup, .ref mun, .int 0, .ref mfr, .ref mta, .int 0])), (mpl, .inl (cI, 60, .inl (upd (fun _ => 0) 0 0)))] H := hP
  have hD : va_D A [(mlv, .inl (cI, 60, .inl (upd (fun _ => 0) 0 q))), (msr, .inl (cI, 60, .inl (fun _ => 0))), (mnu, .inl (cI, 60, .inl (fun _ => 0))), (mlt, .inl (cI, 60, .inl (fun _ => 0))), (msk, .inl (cQ, 5, .inr (.inr (.inr (.inr g))))), (yy, .inl (cZ, 100, .inl (fun _ => 0))), (mm, .inr (12, [.int t, .ref mlv, .ref msr, .ref mrs, .ref mpa, .ref mnu, .ref mlt, .ref mpl, .ref mod, .ref mic, .ref mgo, .ref msk, .ref mfo, .int nn, .int 1, .ref mul, .ref mup, .ref mun, .int 0, .ref mfr, .ref mta, .int 0])), (mpl, .inl (cI, 60, .inl (upd (fun _ => 0) 0 0)))] := hD
  subst hw
  refine lv_istore_n (lv' := [(2, .int (-1)), (0, .ref mm), (1, .int 0)]) hx hb dX9_numbersOne_5 rfl hl (by decide) rfl (fun ls hl => ?_)
  refine lv_aload_n hx hb dX9_numbersOne_6 rfl (lv_at hl 1 rfl) ?_
  refine lv_iload_n hx hb dX9_numbersOne_7 rfl (lv_at hl 2 rfl) ?_
  refine zc_i (wc := [(mm, .inr (12, [.int t, .ref mlv, .ref msr, .ref mrs, .ref mpa, .ref mnu, .ref mlt, .ref mpl, .ref mod, .ref mic, .ref mgo, .ref msk, .ref mfo, .int nn, .int 1, .ref mul, .ref mup, .ref mun, .int 0, .ref mfr, .ref mta, .int 0])), (mpl, .inl (cI, 60, .inl (upd (fun _ => 0) 0 0)))]) (wr := [(mlv, .inl (cI, 60, .inl (upd (fun _ => 0) 0 q))), (msr, .inl (cI, 60, .inl (fun _ => 0))), (mnu, .inl (cI, 60, .inl (fun _ => 0))), (mlt, .inl (cI, 60, .inl (fun _ => 0))), (msk, .inl (cQ, 5, .inr (.inr (.inr (.inr g))))), (yy, .inl (cZ, 100, .inl (fun _ => 0)))]) (va_runV (As := [.int 0]) (rest := []) ⟨hx, hb, hml, hown, hts⟩ (k_icedBehind1 l D cI mm mlv msr mrs mpa mnu mlt mpl mod mic mgo msk mfo mul mup mun mfr mta t nn H.size) (cwV 1 hts gX9_numbersOne_X9_icedBehind rfl rfl rfl (by decide +kernel) ⟨Nat.le_of_ble_eq_true rfl, Nat.le_of_ble_eq_true rfl⟩) (zPV hK hP hD [6, 7] rfl rfl [0] rfl 0 rfl rfl rfl) rfl rfl hl.1 rfl (lv_room (Nat.le_of_ble_eq_true rfl)) dX9_numbersOne_8 ⟨Nat.le_of_ble_eq_true rfl, Nat.le_of_ble_eq_true rfl⟩) hP hD hS hA [6, 7] [0, 1, 2, 3, 4, 5] rfl rfl rfl (by decide) (fun r _ H locs hw hP hD hS => ?_)
  have hP : va_P D vwCl [(mlv, .inl (cI, 60, .inl (upd (fun _ => 0) 0 q))), (msr, .inl (cI, 60, .inl (fun _ => 0))), (mnu, .inl (cI, 60, .inl (fun _ => 0))), (mlt, .inl (cI, 60, .inl (fun _ => 0))), (msk, .inl (cQ, 5, .inr (.inr (.inr (.inr g))))), (yy, .inl (cZ, 100, .inl (fun _ => 0))), (mm, .inr (12, [.int t, .ref mlv, .ref msr, .ref mrs, .ref mpa, .ref mnu, .ref mlt, .ref mpl, .ref mod, .ref mic, .ref mgo, .ref msk, .ref mfo, .int nn, .int 1, .ref mul, .ref mup, .ref mun, .int 0, .ref mfr, .ref mta, .int 0])), (mpl, .inl (cI, 60, .inl (upd (fun _ => 0) 0 0)))] H := hP
  have hD : va_D A [(mlv, .inl (cI, 60, .inl (upd (fun _ => 0) 0 q))), (msr, .inl (cI, 60, .inl (fun _ => 0))), (mnu, .inl (cI, 60, .inl (fun _ => 0))), (mlt, .inl (cI, 60, .inl (fun _ => 0))), (msk, .inl (cQ, 5, .inr (.inr (.inr (.inr g))))), (yy, .inl (cZ, 100, .inl (fun _ => 0))), (mm, .inr (12, [.int t, .ref mlv, .ref msr, .ref mrs, .ref mpa, .ref mnu, .ref mlt, .ref mpl, .ref mod, .ref mic, .ref mgo, .ref msk, .ref mfo, .int nn, .int 1, .ref mul, .ref mup, .ref mun, .int 0, .ref mfr, .ref mta, .int 0])), (mpl, .inl (cI, 60, .inl (upd (fun _ => 0) 0 0)))] := hD
  subst hw
  refine lv_istore_n (lv' := [(3, .int (-1)), (2, .int (-1)), (0, .ref mm), (1, .int 0)]) hx hb dX9_numbersOne_11 rfl hl (by decide) rfl (fun ls hl => ?_)
  refine lv_iload_n hx hb dX9_numbersOne_12 rfl (lv_at hl 1 rfl) ?_
  refine lv_if_ge (tgt := 20) hx hb dX9_numbersOne_13 (by decide) (fun q => absurd q (by decide)) (fun _ => ?_)
  refine lv_iconst (v := 0) hx hb dX9_numbersOne_16 (by decide) ?_
  refine lv_goto (tgt := 26) hx hb dX9_numbersOne_17 (by decide) ?_
  refine lv_istore (lv' := [(4, .int 0), (3, .int (-1)), (2, .int (-1)), (0, .ref mm), (1, .int 0)]) hx hb dX9_numbersOne_26 hl (by decide) rfl (fun ls hl => ?_)
  refine lv_iload hx hb dX9_numbersOne_28 (lv_at hl 0 rfl) ?_
  refine lv_iconst (v := 1) hx hb dX9_numbersOne_30 (by decide) ?_
  refine lv_iadd hx hb dX9_numbersOne_31 ?_
  refine zt_i 1 (by decide) ?_
  refine lv_istore (lv' := [(5, .int 1), (4, .int 0), (3, .int (-1)), (2, .int (-1)), (0, .ref mm), (1, .int 0)]) hx hb dX9_numbersOne_32 hl (by decide) rfl (fun ls hl => ?_)
  refine lv_iload_n hx hb dX9_numbersOne_34 rfl (lv_at hl 2 rfl) ?_
  refine lv_if_ge (tgt := 66) hx hb dX9_numbersOne_35 (by decide) (fun q => absurd q (by decide)) (fun _ => ?_)
  refine lv_aload_n hx hb dX9_numbersOne_38 rfl (lv_at hl 4 rfl) ?_
  refine va_get (D := D) (ci := 12) (v := .ref msr) (C := RX9) (T := TX9) (N := 22) hx hb hts (fun _ h => List.mem_cons_of_mem _ (List.mem_append_left _ (List.mem_append_right _ h))) hown hK hP 6 rfl rfl 2 (by decide) (hts (.fieldLink RX9 13 "NumberingTreeModel" "starts" "[I") (List.mem_of_getElem? (i := 2) rfl)) (fun _ h9 => h9) rfl dX9_numbersOne_39 ?_
  refine lv_iload_n hx hb dX9_numbersOne_42 rfl (lv_at hl 5 rfl) ?_
  refine va_iald hx hb hK hP 1 0 rfl rfl (vp_in_nI (n := 0) (by decide) (by decide)) dX9_numbersOne_43 ?_
  refine zt_i 0 rfl ?_
  refine lv_iload hx hb dX9_numbersOne_44 (lv_at hl 0 rfl) ?_
  refine lv_iload_n hx hb dX9_numbersOne_46 rfl (lv_at hl 3 rfl) ?_
  refine lv_if_ge (tgt := 54) hx hb dX9_numbersOne_47 (by decide) (fun q => absurd q (by decide)) (fun _ => ?_)
  refine lv_iconst (v := 0) hx hb dX9_numbersOne_50 (by decide) ?_
  refine lv_goto (tgt := 60) hx hb dX9_numbersOne_51 (by decide) ?_
  refine lv_iadd hx hb dX9_numbersOne_60 ?_
  refine zt_i 1 (by decide) ?_
  refine va_mmax hx hb (hml.trans hl.1.symm) hown (hts (.methodLink RX9 103 Lib.Math.max.name) (List.mem_of_getElem? (i := 4) rfl)) (hts (.static Lib.Math.max.name) (List.mem_of_getElem? (i := 5) rfl)) (hts (.initialized "java/lang/Math") (List.mem_of_getElem? (i := 6) rfl)) (hts (.code Lib.Math.max.name Lib.Math.max.code 2 (some .int)) (List.mem_of_getElem? (i := 7) rfl)) (Nat.le_of_ble_eq_true rfl) (Nat.le_of_ble_eq_true rfl) (Nat.le_of_ble_eq_true rfl) (Nat.le_of_ble_eq_true rfl) dX9_numbersOne_61 ?_
  refine zt_i 1 (by decide) ?_
  refine lv_istore (lv' := [(5, .int 1), (4, .int 0), (3, .int (-1)), (2, .int (-1)), (0, .ref mm), (1, .int 0)]) hx hb dX9_numbersOne_64 hl (by decide) rfl (fun ls hl => ?_)
  refine lv_aload_n hx hb dX9_numbersOne_66 rfl (lv_at hl 4 rfl) ?_
  refine lv_iload_n hx hb dX9_numbersOne_67 rfl (lv_at hl 5 rfl) ?_
  refine lv_iload hx hb dX9_numbersOne_68 (lv_at hl 0 rfl) ?_
  refine zc_i (wc := [(mm, .inr (12, [.int t, .ref mlv, .ref msr, .ref mrs, .ref mpa, .ref mnu, .ref mlt, .ref mpl, .ref mod, .ref mic, .ref mgo, .ref msk, .ref mfo, .int nn, .int 1, .ref mul, .ref mup, .ref mun, .int 0, .ref mfr, .ref mta, .int 0])), (mlv, .inl (cI, 60, .inl (upd (fun _ => 0) 0 q))), (msk, .inl (cQ, 5, .inr (.inr (.inr (.inr g))))), (yy, .inl (cZ, 100, .inl (fun _ => 0)))]) (wr := [(msr, .inl (cI, 60, .inl (fun _ => 0))), (mnu, .inl (cI, 60, .inl (fun _ => 0))), (mlt, .inl (cI, 60, .inl (fun _ => 0))), (mpl, .inl (cI, 60, .inl (upd (fun _ => 0) 0 0)))]) (va_runV (As := [.int 0, .int 1]) (rest := []) ⟨hx, hb, hml, hown, hts⟩ (k_isUsed1 l D cI cQ cZ mm mlv msr mrs mpa mnu mlt mpl mod mic mgo msk mfo mul mup mun mfr mta yy t nn q g H.size hp hg) (cwV 2 hts gX9_numbersOne_X9_isUsed rfl rfl rfl (by decide +kernel) ⟨Nat.le_of_ble_eq_true rfl, Nat.le_of_ble_eq_true rfl⟩) (zPV hK hP hD [6, 0, 4, 5] rfl rfl [0, 1, 2] rfl 0 rfl rfl rfl) rfl rfl hl.1 rfl (lv_room (Nat.le_of_ble_eq_true rfl)) dX9_numbersOne_70 ⟨Nat.le_of_ble_eq_true rfl, Nat.le_of_ble_eq_true rfl⟩) hP hD hS hA [6, 0, 4, 5] [1, 2, 3, 7] rfl rfl rfl (by decide) (fun r _ H locs hw hP hD hS => ?_)
  have hP : va_P D vwCl [(msr, .inl (cI, 60, .inl (fun _ => 0))), (mnu, .inl (cI, 60, .inl (fun _ => 0))), (mlt, .inl (cI, 60, .inl (fun _ => 0))), (mpl, .inl (cI, 60, .inl (upd (fun _ => 0) 0 0))), (mm, .inr (12, [.int t, .ref mlv, .ref msr, .ref mrs, .ref mpa, .ref mnu, .ref mlt, .ref mpl, .ref mod, .ref mic, .ref mgo, .ref msk, .ref mfo, .int nn, .int 1, .ref mul, .ref mup, .ref mun, .int 0, .ref mfr, .ref mta, .int 0])), (mlv, .inl (cI, 60, .inl (upd (fun _ => 0) 0 q))), (msk, .inl (cQ, 5, .inr (.inr (.inr (.inr g))))), (yy, .inl (cZ, 100, .inl (fun _ => 0)))] H := hP
  have hD : va_D A [(msr, .inl (cI, 60, .inl (fun _ => 0))), (mnu, .inl (cI, 60, .inl (fun _ => 0))), (mlt, .inl (cI, 60, .inl (fun _ => 0))), (mpl, .inl (cI, 60, .inl (upd (fun _ => 0) 0 0))), (mm, .inr (12, [.int t, .ref mlv, .ref msr, .ref mrs, .ref mpa, .ref mnu, .ref mlt, .ref mpl, .ref mod, .ref mic, .ref mgo, .ref msk, .ref mfo, .int nn, .int 1, .ref mul, .ref mup, .ref mun, .int 0, .ref mfr, .ref mta, .int 0])), (mlv, .inl (cI, 60, .inl (upd (fun _ => 0) 0 q))), (msk, .inl (cQ, 5, .inr (.inr (.inr (.inr g))))), (yy, .inl (cZ, 100, .inl (fun _ => 0)))] := hD
  subst hw
  refine lv_if_eq (tgt := 82) hx hb dX9_numbersOne_73 (by decide) (fun _ => ?_) (fun q => absurd q (by decide))
  refine lv_iload_n hx hb dX9_numbersOne_82 rfl (lv_at hl 2 rfl) ?_
  refine lv_if_lt (tgt := 101) hx hb dX9_numbersOne_83 (by decide) (fun _ => ?_) (fun q => absurd q (by decide))
  refine lv_iconst (v := 0) hx hb dX9_numbersOne_101 (by decide) ?_
  refine lv_istore (lv' := [(6, .int 0), (5, .int 1), (4, .int 0), (3, .int (-1)), (2, .int (-1)), (0, .ref mm), (1, .int 0)]) hx hb dX9_numbersOne_102 hl (by decide) rfl (fun ls hl => ?_)
  refine lv_aload_n hx hb dX9_numbersOne_104 rfl (lv_at hl 5 rfl) ?_
  refine va_get (D := D) (ci := 12) (v := .ref mnu) (C := RX9) (T := TX9) (N := 22) hx hb hts (fun _ h => List.mem_cons_of_mem _ (List.mem_append_left _ (List.mem_append_right _ h))) hown hK hP 4 rfl rfl 5 (by decide) (hts (.fieldLink RX9 22 "NumberingTreeModel" "numbers" "[I") (List.mem_of_getElem? (i := 1) rfl)) (fun _ h9 => h9) rfl dX9_numbersOne_105 ?_
  refine lv_iload_n hx hb dX9_numbersOne_108 rfl (lv_at hl 6 rfl) ?_
  refine lv_iload hx hb dX9_numbersOne_109 (lv_at hl 0 rfl) ?_
  refine lv_if_eq (tgt := 119) hx hb dX9_numbersOne_111 (by decide) (fun _ => ?_) (fun q => absurd q (by decide))
  refine lv_iload hx hb dX9_numbersOne_119 (lv_at hl 1 rfl) ?_
  refine va_iast hx hb hK hP hD hS 1 0 rfl rfl (vp_in_nI (n := 0) (by decide) (by decide)) dX9_numbersOne_121 (fun H locs hP hD hS => ?_)
  have hP : va_P D vwCl [(msr, .inl (cI, 60, .inl (fun _ => 0))), (mnu, .inl (cI, 60, .inl (upd (fun _ => 0) 0 1))), (mlt, .inl (cI, 60, .inl (fun _ => 0))), (mpl, .inl (cI, 60, .inl (upd (fun _ => 0) 0 0))), (mm, .inr (12, [.int t, .ref mlv, .ref msr, .ref mrs, .ref mpa, .ref mnu, .ref mlt, .ref mpl, .ref mod, .ref mic, .ref mgo, .ref msk, .ref mfo, .int nn, .int 1, .ref mul, .ref mup, .ref mun, .int 0, .ref mfr, .ref mta, .int 0])), (mlv, .inl (cI, 60, .inl (upd (fun _ => 0) 0 q))), (msk, .inl (cQ, 5, .inr (.inr (.inr (.inr g))))), (yy, .inl (cZ, 100, .inl (fun _ => 0)))] H := hP
  have hD : va_D A [(msr, .inl (cI, 60, .inl (fun _ => 0))), (mnu, .inl (cI, 60, .inl (upd (fun _ => 0) 0 1))), (mlt, .inl (cI, 60, .inl (fun _ => 0))), (mpl, .inl (cI, 60, .inl (upd (fun _ => 0) 0 0))), (mm, .inr (12, [.int t, .ref mlv, .ref msr, .ref mrs, .ref mpa, .ref mnu, .ref mlt, .ref mpl, .ref mod, .ref mic, .ref mgo, .ref msk, .ref mfo, .int nn, .int 1, .ref mul, .ref mup, .ref mun, .int 0, .ref mfr, .ref mta, .int 0])), (mlv, .inl (cI, 60, .inl (upd (fun _ => 0) 0 q))), (msk, .inl (cQ, 5, .inr (.inr (.inr (.inr g))))), (yy, .inl (cZ, 100, .inl (fun _ => 0)))] := hD
  refine lv_aload_n hx hb dX9_numbersOne_122 rfl (lv_at hl 5 rfl) ?_
  refine va_get (D := D) (ci := 12) (v := .ref mlt) (C := RX9) (T := TX9) (N := 22) hx hb hts (fun _ h => List.mem_cons_of_mem _ (List.mem_append_left _ (List.mem_append_right _ h))) hown hK hP 4 rfl rfl 6 (by decide) (hts (.fieldLink RX9 25 "NumberingTreeModel" "letters" "[I") (List.mem_of_getElem? (i := 8) rfl)) (fun _ h9 => h9) rfl dX9_numbersOne_123 ?_
  refine lv_iload_n hx hb dX9_numbersOne_126 rfl (lv_at hl 6 rfl) ?_
  refine lv_iload hx hb dX9_numbersOne_127 (lv_at hl 0 rfl) ?_
  refine lv_if_eq (tgt := 151) hx hb dX9_numbersOne_129 (by decide) (fun _ => ?_) (fun q => absurd q (by decide))
  refine lv_iconst (v := 0) hx hb dX9_numbersOne_151 (by decide) ?_
  refine va_iast hx hb hK hP hD hS 2 0 rfl rfl (vp_in_nI (n := 0) (by decide) (by decide)) dX9_numbersOne_152 (fun H locs hP hD hS => ?_)
  have hP : va_P D vwCl [(msr, .inl (cI, 60, .inl (fun _ => 0))), (mnu, .inl (cI, 60, .inl (upd (fun _ => 0) 0 1))), (mlt, .inl (cI, 60, .inl (upd (fun _ => 0) 0 0))), (mpl, .inl (cI, 60, .inl (upd (fun _ => 0) 0 0))), (mm, .inr (12, [.int t, .ref mlv, .ref msr, .ref mrs, .ref mpa, .ref mnu, .ref mlt, .ref mpl, .ref mod, .ref mic, .ref mgo, .ref msk, .ref mfo, .int nn, .int 1, .ref mul, .ref mup, .ref mun, .int 0, .ref mfr, .ref mta, .int 0])), (mlv, .inl (cI, 60, .inl (upd (fun _ => 0) 0 q))), (msk, .inl (cQ, 5, .inr (.inr (.inr (.inr g))))), (yy, .inl (cZ, 100, .inl (fun _ => 0)))] H := hP
  have hD : va_D A [(msr, .inl (cI, 60, .inl (fun _ => 0))), (mnu, .inl (cI, 60, .inl (upd (fun _ => 0) 0 1))), (mlt, .inl (cI, 60, .inl (upd (fun _ => 0) 0 0))), (mpl, .inl (cI, 60, .inl (upd (fun _ => 0) 0 0))), (mm, .inr (12, [.int t, .ref mlv, .ref msr, .ref mrs, .ref mpa, .ref mnu, .ref mlt, .ref mpl, .ref mod, .ref mic, .ref mgo, .ref msk, .ref mfo, .int nn, .int 1, .ref mul, .ref mup, .ref mun, .int 0, .ref mfr, .ref mta, .int 0])), (mlv, .inl (cI, 60, .inl (upd (fun _ => 0) 0 q))), (msk, .inl (cQ, 5, .inr (.inr (.inr (.inr g))))), (yy, .inl (cZ, 100, .inl (fun _ => 0)))] := hD
  obtain ⟨hP9, hD9⟩ := z_get hP hD [4, 5] (wc := [(mm, .inr (12, [.int t, .ref mlv, .ref msr, .ref mrs, .ref mpa, .ref mnu, .ref mlt, .ref mpl, .ref mod, .ref mic, .ref mgo, .ref msk, .ref mfo, .int nn, .int 1, .ref mul, .ref mup, .ref mun, .int 0, .ref mfr, .ref mta, .int 0])), (mlv, .inl (cI, 60, .inl (upd (fun _ => 0) 0 q)))]) rfl rfl
  exact W.vret hx hb hr (fun t ht hW => ⟨⟨(), rfl, trivial, by rw [ht]; exact hP9, hD9⟩, hS.F ht⟩) hS.2.2 dX9_numbersOne_153

set_option maxHeartbeats 4000000 in
set_option maxRecDepth 100000 in
theorem k_settles1P (l : Launch) (D : va_G) (cI cZ : ClassId) (mm mlv msr mrs mpa mnu mlt mpl mod mic mgo msk mfo mul mup mun mfr mta : Nat) (t nn : Int32) (sz : Nat) : Met l yX9_settles wsX9_settles ({ frames := 1, cells := 0, slots := 0, locals := 23 }) (va_Pc [.ref mm] (zPre D [(cI, .int), (cZ, .boolean)] [(mm, .inr (12, [.int t, .ref mlv, .ref msr, .ref mrs, .ref mpa, .ref mnu, .ref mlt, .ref mpl, .ref mod, .ref mic, .ref mgo, .ref msk, .ref mfo, .int nn, .int 1, .ref mul, .ref mup, .ref mun, .int 0, .ref mfr, .ref mta, .int 0])), (mlv, .inl (cI, 60, .inl (upd (fun _ => 0) 0 0))), (mod, .inl (cI, 61, .inl (upd (fun _ => 0) 0 0))), (mpl, .inl (cI, 60, .inl (fun _ => 0))), (mpa, .inl (cI, 60, .inl (fun _ => 0)))] sz)) (va_Qv (fun (_ : Unit) => True) (fun (_ : Unit) => zB D [(mm, .inr (12, [.int t, .ref mlv, .ref msr, .ref mrs, .ref mpa, .ref mnu, .ref mlt, .ref mpl, .ref mod, .ref mic, .ref mgo, .ref msk, .ref mfo, .int nn, .int 1, .ref mul, .ref mup, .ref mun, .int 0, .ref mfr, .ref mta, .int 0]))] (va_A [(mm, .inr (12, [.int t, .ref mlv, .ref msr, .ref mrs, .ref mpa, .ref mnu, .ref mlt, .ref mpl, .ref mod, .ref mic, .ref mgo, .ref msk, .ref mfo, .int nn, .int 1, .ref mul, .ref mup, .ref mun, .int 0, .ref mfr, .ref mta, .int 0])), (mlv, .inl (cI, 60, .inl (upd (fun _ => 0) 0 0))), (mod, .inl (cI, 61, .inl (upd (fun _ => 0) 0 0))), (mpl, .inl (cI, 60, .inl (fun _ => 0))), (mpa, .inl (cI, 60, .inl (fun _ => 0)))] sz)) (va_A [(mm, .inr (12, [.int t, .ref mlv, .ref msr, .ref mrs, .ref mpa, .ref mnu, .ref mlt, .ref mpl, .ref mod, .ref mic, .ref mgo, .ref msk, .ref mfo, .int nn, .int 1, .ref mul, .ref mup, .ref mun, .int 0, .ref mfr, .ref mta, .int 0])), (mlv, .inl (cI, 60, .inl (upd (fun _ => 0) 0 0))), (mod, .inl (cI, 61, .inl (upd (fun _ => 0) 0 0))), (mpl, .inl (cI, 60, .inl (fun _ => 0))), (mpa, .inl (cI, 60, .inl (fun _ => 0)))] sz)) 0 0 (va_A [(mm, .inr (12, [.int t, .ref mlv, .ref msr, .ref mrs, .ref mpa, .ref mnu, .ref mlt, .ref mpl, .ref mod, .ref mic, .ref mgo, .ref msk, .ref mfo, .int nn, .int 1, .ref mul, .ref mup, .ref mun, .int 0, .ref mfr, .ref mta, .int 0])), (mlv, .inl (cI, 60, .inl (upd (fun _ => 0) 0 0))), (mod, .inl (cI, 61, .inl (upd (fun _ => 0) 0 0))), (mpl, .inl (cI, 60, .inl (fun _ => 0))), (mpa, .inl (cI, 60, .inl (fun _ => 0)))] sz) := by
  refine Met.ofW (cc := cX9_settles) (maxL := 2) (ret := none) (by decide) rfl ?_
  intro P0 E0 s m args below meth C9 s₁ B hml hv
  obtain ⟨rfl, hsz, hP, hK, hD0⟩ := hv
  have hx := B.exec
  have hb := B.bytes
  have hr := B.returns
  have hts := atoms_spec (ws := wsX9_settles) B.pre
  have hown : s.vm.findClass RX9 = some m.cls := findClass_of_methodNamed B.named
  have hlocks := B.notSynchronized
  subst hsz
  have hD := hD0.self (sz := s.heap.size)
  generalize hAe : va_A [(mm, .inr (12, [.int t, .ref mlv, .ref msr, .ref mrs, .ref mpa, .ref mnu, .ref mlt, .ref mpl, .ref mod, .ref mic, .ref mgo, .ref msk, .ref mfo, .int nn, .int 1, .ref mul, .ref mup, .ref mun, .int 0, .ref mfr, .ref mta, .int 0])), (mlv, .inl (cI, 60, .inl (upd (fun _ => 0) 0 0))), (mod, .inl (cI, 61, .inl (upd (fun _ => 0) 0 0))), (mpl, .inl (cI, 60, .inl (fun _ => 0))), (mpa, .inl (cI, 60, .inl (fun _ => 0)))] s.heap.size = A at hD ⊢
  have hA : ∀ q : Nat, s.heap.size ≤ q → A q := fun q h => by rw [← hAe]; exact Or.inr h
  have hS : va_S A s.heap s.heap [] := va_S.rf
  have hl := lv_entry ([.ref mm]) (n := 2) (Nat.le_of_ble_eq_true rfl)
  rw [lg_entry_eq]
  generalize (lg_sl ([.ref mm]) ++ List.replicate (2 - (lg_sl ([.ref mm])).length) Slot.unset).toArray = ls at hl ⊢
  have hl : lv_has ls 2 [(0, .ref mm)] := hl
  refine lv_iconst (v := 0) hx hb dX9_settles_0 (by decide) ?_
  refine lv_istore_n (lv' := [(1, .int 0), (0, .ref mm)]) hx hb dX9_settles_1 rfl hl (by decide) rfl (fun ls hl => ?_)
  refine lv_iload_n hx hb dX9_settles_2 rfl (lv_at hl 0 rfl) ?_
  refine lv_aload_n hx hb dX9_settles_3 rfl (lv_at hl 1 rfl) ?_
  refine va_get (D := D) (ci := 12) (v := .int 1) (C := RX9) (T := TX9) (N := 22) hx hb hts (fun _ h => List.mem_cons_of_mem _ (List.mem_append_left _ (List.mem_append_right _ h))) hown hK hP 0 rfl rfl 14 (by decide) (hts (.fieldLink RX9 91 "NumberingTreeModel" "size" "I") (List.mem_of_getElem? (i := 1) rfl)) (fun _ h9 => h9) rfl dX9_settles_4 ?_
  refine lv_icmp_ge (tgt := 44) hx hb dX9_settles_7 (by decide) (fun q => absurd q (by decide)) (fun _ => ?_)
  refine lv_aload_n hx hb dX9_settles_10 rfl (lv_at hl 1 rfl) ?_
  refine va_get (D := D) (ci := 12) (v := .ref mpl) (C := RX9) (T := TX9) (N := 22) hx hb hts (fun _ h => List.mem_cons_of_mem _ (List.mem_append_left _ (List.mem_append_right _ h))) hown hK hP 0 rfl rfl 7 (by decide) (hts (.fieldLink RX9 28 "NumberingTreeModel" "places" "[I") (List.mem_of_getElem? (i := 2) rfl)) (fun _ h9 => h9) rfl dX9_settles_11 ?_
  refine lv_aload_n hx hb dX9_settles_14 rfl (lv_at hl 1 rfl) ?_
  refine va_get (D := D) (ci := 12) (v := .ref mod) (C := RX9) (T := TX9) (N := 22) hx hb hts (fun _ h => List.mem_cons_of_mem _ (List.mem_append_left _ (List.mem_append_right _ h))) hown hK hP 0 rfl rfl 8 (by decide) (hts (.fieldLink RX9 31 "NumberingTreeModel" "order" "[I") (List.mem_of_getElem? (i := 3) rfl)) (fun _ h9 => h9) rfl dX9_settles_15 ?_
  refine lv_iload_n hx hb dX9_settles_18 rfl (lv_at hl 0 rfl) ?_
  refine va_iald hx hb hK hP 2 0 rfl rfl (vp_in_nI (n := 0) (by decide) (by decide)) dX9_settles_19 ?_
  refine zt_i 0 rfl ?_
  refine lv_iload_n hx hb dX9_settles_20 rfl (lv_at hl 0 rfl) ?_
  refine va_iast hx hb hK hP hD hS 3 0 rfl rfl (vp_in_nI (n := 0) (by decide) (by decide)) dX9_settles_21 (fun H locs hP hD hS => ?_)
  have hP : va_P D vwCl [(mm, .inr (12, [.int t, .ref mlv, .ref msr, .ref mrs, .ref mpa, .ref mnu, .ref mlt, .ref mpl, .ref mod, .ref mic, .ref mgo, .ref msk, .ref mfo, .int nn, .int 1, .ref mul, .ref mup, .ref mun, .int 0, .ref mfr, .ref mta, .int 0])), (mlv, .inl (cI, 60, .inl (upd (fun _ => 0) 0 0))), (mod, .inl (cI, 61, .inl (upd (fun _ => 0) 0 0))), (mpl, .inl (cI, 60, .inl (upd (fun _ => 0) 0 0))), (mpa, .inl (cI, 60, .inl (fun _ => 0)))] H := hP
  have hD : va_D A [(mm, .inr (12, [.int t, .ref mlv, .ref msr, .ref mrs, .ref mpa, .ref mnu, .ref mlt, .ref mpl, .ref mod, .ref mic, .ref mgo, .ref msk, .ref mfo, .int nn, .int 1, .ref mul, .ref mup, .ref mun, .int 0, .ref mfr, .ref mta, .int 0])), (mlv, .inl (cI, 60, .inl (upd (fun _ => 0) 0 0))), (mod, .inl (cI, 61, .inl (upd (fun _ => 0) 0 0))), (mpl, .inl (cI, 60, .inl (upd (fun _ => 0) 0 0))), (mpa, .inl (cI, 60, .inl (fun _ => 0)))] := hD
  refine lv_aload_n hx hb dX9_settles_22 rfl (lv_at hl 1 rfl) ?_
  refine va_get (D := D) (ci := 12) (v := .ref mpa) (C := RX9) (T := TX9) (N := 22) hx hb hts (fun _ h => List.mem_cons_of_mem _ (List.mem_append_left _ (List.mem_append_right _ h))) hown hK hP 0 rfl rfl 4 (by decide) (hts (.fieldLink RX9 19 "NumberingTreeModel" "parents" "[I") (List.mem_of_getElem? (i := 4) rfl)) (fun _ h9 => h9) rfl dX9_settles_23 ?_
  refine lv_aload_n hx hb dX9_settles_26 rfl (lv_at hl 1 rfl) ?_
  refine va_get (D := D) (ci := 12) (v := .ref mod) (C := RX9) (T := TX9) (N := 22) hx hb hts (fun _ h => List.mem_cons_of_mem _ (List.mem_append_left _ (List.mem_append_right _ h))) hown hK hP 0 rfl rfl 8 (by decide) (hts (.fieldLink RX9 31 "NumberingTreeModel" "order" "[I") (List.mem_of_getElem? (i := 3) rfl)) (fun _ h9 => h9) rfl dX9_settles_27 ?_
  refine lv_iload_n hx hb dX9_settles_30 rfl (lv_at hl 0 rfl) ?_
  refine va_iald hx hb hK hP 2 0 rfl rfl (vp_in_nI (n := 0) (by decide) (by decide)) dX9_settles_31 ?_
  refine zt_i 0 rfl ?_
  refine lv_aload_n hx hb dX9_settles_32 rfl (lv_at hl 1 rfl) ?_
  refine lv_iload_n hx hb dX9_settles_33 rfl (lv_at hl 0 rfl) ?_
  refine zc_i (wc := [(mm, .inr (12, [.int t, .ref mlv, .ref msr, .ref mrs, .ref mpa, .ref mnu, .ref mlt, .ref mpl, .ref mod, .ref mic, .ref mgo, .ref msk, .ref mfo, .int nn, .int 1, .ref mul, .ref mup, .ref mun, .int 0, .ref mfr, .ref mta, .int 0])), (mod, .inl (cI, 61, .inl (upd (fun _ => 0) 0 0))), (mlv, .inl (cI, 60, .inl (upd (fun _ => 0) 0 0)))]) (wr := [(mpl, .inl (cI, 60, .inl (upd (fun _ => 0) 0 0))), (mpa, .inl (cI, 60, .inl (fun _ => 0)))]) (va_runV (As := [.int 0]) (rest := [.int 0, .ref mpa]) ⟨hx, hb, hml, hown, hts⟩ (k_parentAt1 l D cI mm mlv msr mrs mpa mnu mlt mpl mod mic mgo msk mfo mul mup mun mfr mta t nn (upd (fun _ => 0) 0 0) H.size) (cwV 1 hts gX9_settles_X9_parentAt rfl rfl rfl (by decide +kernel) ⟨Nat.le_of_ble_eq_true rfl, Nat.le_of_ble_eq_true rfl⟩) (zPV hK hP hD [0, 2, 1] rfl rfl [0] rfl 0 rfl rfl rfl) rfl rfl hl.1 rfl (lv_room (Nat.le_of_ble_eq_true rfl)) dX9_settles_34 ⟨Nat.le_of_ble_eq_true rfl, Nat.le_of_ble_eq_true rfl⟩) hP hD hS hA [0, 2, 1] [3, 4] rfl rfl rfl (by decide) (fun r _ H locs hw hP hD hS => ?_)
  have hP : va_P D vwCl [(mpl, .inl (cI, 60, .inl (upd (fun _ => 0) 0 0))), (mpa, .inl (cI, 60, .inl (fun _ => 0))), (mm, .inr (12, [.int t, .ref mlv, .ref msr, .ref mrs, .ref mpa, .ref mnu, .ref mlt, .ref mpl, .ref mod, .ref mic, .ref mgo, .ref msk, .ref mfo, .int nn, .int 1, .ref mul, .ref mup, .ref mun, .int 0, .ref mfr, .ref mta, .int 0])), (mod, .inl (cI, 61, .inl (upd (fun _ => 0) 0 0))), (mlv, .inl (cI, 60, .inl (upd (fun _ => 0) 0 0)))] H := hP
  have hD : va_D A [(mpl, .inl (cI, 60, .inl (upd (fun _ => 0) 0 0))), (mpa, .inl (cI, 60, .inl (fun _ => 0))), (mm, .inr (12, [.int t, .ref mlv, .ref msr, .ref mrs, .ref mpa, .ref mnu, .ref mlt, .ref mpl, .ref mod, .ref mic, .ref mgo, .ref msk, .ref mfo, .int nn, .int 1, .ref mul, .ref mup, .ref mun, .int 0, .ref mfr, .ref mta, .int 0])), (mod, .inl (cI, 61, .inl (upd (fun _ => 0) 0 0))), (mlv, .inl (cI, 60, .inl (upd (fun _ => 0) 0 0)))] := hD
  subst hw
  refine va_iast hx hb hK hP hD hS 1 0 rfl rfl (vp_in_nI (n := 0) (by decide) (by decide)) dX9_settles_37 (fun H locs hP hD hS => ?_)
  have hP : va_P D vwCl [(mpl, .inl (cI, 60, .inl (upd (fun _ => 0) 0 0))), (mpa, .inl (cI, 60, .inl (upd (fun _ => 0) 0 (-1)))), (mm, .inr (12, [.int t, .ref mlv, .ref msr, .ref mrs, .ref mpa, .ref mnu, .ref mlt, .ref mpl, .ref mod, .ref mic, .ref mgo, .ref msk, .ref mfo, .int nn, .int 1, .ref mul, .ref mup, .ref mun, .int 0, .ref mfr, .ref mta, .int 0])), (mod, .inl (cI, 61, .inl (upd (fun _ => 0) 0 0))), (mlv, .inl (cI, 60, .inl (upd (fun _ => 0) 0 0)))] H := hP
  have hD : va_D A [(mpl, .inl (cI, 60, .inl (upd (fun _ => 0) 0 0))), (mpa, .inl (cI, 60, .inl (upd (fun _ => 0) 0 (-1)))), (mm, .inr (12, [.int t, .ref mlv, .ref msr, .ref mrs, .ref mpa, .ref mnu, .ref mlt, .ref mpl, .ref mod, .ref mic, .ref mgo, .ref msk, .ref mfo, .int nn, .int 1, .ref mul, .ref mup, .ref mun, .int 0, .ref mfr, .ref mta, .int 0])), (mod, .inl (cI, 61, .inl (upd (fun _ => 0) 0 0))), (mlv, .inl (cI, 60, .inl (upd (fun _ => 0) 0 0)))] := hD
  refine lv_iinc (v := 1) (lv' := [(1, .int 1), (0, .ref mm)]) hx hb dX9_settles_38 hl (k := 0) rfl (by decide) (by decide) rfl (fun ls hl => ?_)
  refine lv_goto (tgt := 2) hx hb dX9_settles_41 (by decide) ?_
  refine lv_iload_n hx hb dX9_settles_2 rfl (lv_at hl 0 rfl) ?_
  refine lv_aload_n hx hb dX9_settles_3 rfl (lv_at hl 1 rfl) ?_
  refine va_get (D := D) (ci := 12) (v := .int 1) (C := RX9) (T := TX9) (N := 22) hx hb hts (fun _ h => List.mem_cons_of_mem _ (List.mem_append_left _ (List.mem_append_right _ h))) hown hK hP 2 rfl rfl 14 (by decide) (hts (.fieldLink RX9 91 "NumberingTreeModel" "size" "I") (List.mem_of_getElem? (i := 1) rfl)) (fun _ h9 => h9) rfl dX9_settles_4 ?_
  refine lv_icmp_ge (tgt := 44) hx hb dX9_settles_7 (by decide) (fun _ => ?_) (fun q => absurd q (by decide))
  refine lv_iconst (v := 0) hx hb dX9_settles_44 (by decide) ?_
  refine lv_istore_n (lv' := [(1, .int 0), (0, .ref mm)]) hx hb dX9_settles_45 rfl hl (by decide) rfl (fun ls hl => ?_)
  refine lv_iload_n hx hb dX9_settles_46 rfl (lv_at hl 0 rfl) ?_
  refine lv_aload_n hx hb dX9_settles_47 rfl (lv_at hl 1 rfl) ?_
  refine va_get (D := D) (ci := 12) (v := .int 1) (C := RX9) (T := TX9) (N := 22) hx hb hts (fun _ h => List.mem_cons_of_mem _ (List.mem_append_left _ (List.mem_append_right _ h))) hown hK hP 2 rfl rfl 14 (by decide) (hts (.fieldLink RX9 91 "NumberingTreeModel" "size" "I") (List.mem_of_getElem? (i := 1) rfl)) (fun _ h9 => h9) rfl dX9_settles_48 ?_
  refine lv_icmp_ge (tgt := 98) hx hb dX9_settles_51 (by decide) (fun q => absurd q (by decide)) (fun _ => ?_)
  refine lv_aload_n hx hb dX9_settles_54 rfl (lv_at hl 1 rfl) ?_
  refine va_get (D := D) (ci := 12) (v := .ref mlv) (C := RX9) (T := TX9) (N := 22) hx hb hts (fun _ h => List.mem_cons_of_mem _ (List.mem_append_left _ (List.mem_append_right _ h))) hown hK hP 2 rfl rfl 1 (by decide) (hts (.fieldLink RX9 9 "NumberingTreeModel" "levels" "[I") (List.mem_of_getElem? (i := 5) rfl)) (fun _ h9 => h9) rfl dX9_settles_55 ?_
  refine lv_aload_n hx hb dX9_settles_58 rfl (lv_at hl 1 rfl) ?_
  refine va_get (D := D) (ci := 12) (v := .ref mod) (C := RX9) (T := TX9) (N := 22) hx hb hts (fun _ h => List.mem_cons_of_mem _ (List.mem_append_left _ (List.mem_append_right _ h))) hown hK hP 2 rfl rfl 8 (by decide) (hts (.fieldLink RX9 31 "NumberingTreeModel" "order" "[I") (List.mem_of_getElem? (i := 3) rfl)) (fun _ h9 => h9) rfl dX9_settles_59 ?_
  refine lv_iload_n hx hb dX9_settles_62 rfl (lv_at hl 0 rfl) ?_
  refine va_iald hx hb hK hP 3 0 rfl rfl (vp_in_nI (n := 0) (by decide) (by decide)) dX9_settles_63 ?_
  refine zt_i 0 rfl ?_
  refine va_iald hx hb hK hP 4 0 rfl rfl (vp_in_nI (n := 0) (by decide) (by decide)) dX9_settles_64 ?_
  refine zt_i 0 rfl ?_
  refine lv_if_le (tgt := 92) hx hb dX9_settles_65 (by decide) (fun _ => ?_) (fun q => absurd q (by decide))
  refine lv_iinc (v := 1) (lv' := [(1, .int 1), (0, .ref mm)]) hx hb dX9_settles_92 hl (k := 0) rfl (by decide) (by decide) rfl (fun ls hl => ?_)
  refine lv_goto (tgt := 46) hx hb dX9_settles_95 (by decide) ?_
  refine lv_iload_n hx hb dX9_settles_46 rfl (lv_at hl 0 rfl) ?_
  refine lv_aload_n hx hb dX9_settles_47 rfl (lv_at hl 1 rfl) ?_
  refine va_get (D := D) (ci := 12) (v := .int 1) (C := RX9) (T := TX9) (N := 22) hx hb hts (fun _ h => List.mem_cons_of_mem _ (List.mem_append_left _ (List.mem_append_right _ h))) hown hK hP 2 rfl rfl 14 (by decide) (hts (.fieldLink RX9 91 "NumberingTreeModel" "size" "I") (List.mem_of_getElem? (i := 1) rfl)) (fun _ h9 => h9) rfl dX9_settles_48 ?_
  refine lv_icmp_ge (tgt := 98) hx hb dX9_settles_51 (by decide) (fun _ => ?_) (fun q => absurd q (by decide))
  obtain ⟨hP9, hD9⟩ := z_get hP hD [2] (wc := [(mm, .inr (12, [.int t, .ref mlv, .ref msr, .ref mrs, .ref mpa, .ref mnu, .ref mlt, .ref mpl, .ref mod, .ref mic, .ref mgo, .ref msk, .ref mfo, .int nn, .int 1, .ref mul, .ref mup, .ref mun, .int 0, .ref mfr, .ref mta, .int 0]))]) rfl rfl
  exact W.vret hx hb hr (fun t ht hW => ⟨⟨(), rfl, trivial, by rw [ht]; exact hP9, hD9⟩, hS.F ht⟩) hS.2.2 dX9_settles_98

set_option maxHeartbeats 4000000 in
set_option maxRecDepth 100000 in
theorem k_settles1N (l : Launch) (D : va_G) (cI cQ cZ : ClassId) (mm mlv msr mrs mpa mnu mlt mpl mod mic mgo msk mfo mul mup mun mfr mta yy : Nat) (t nn q : Int32) (g : Nat → Option Nat) (sz : Nat) (hp : zLv q) (hg : g q.toNatClampNeg = some yy) : Met l yX9_settles wsX9_settles ({ frames := 2, cells := 0, slots := 0, locals := 49 }) (va_Pc [.ref mm] (zPre D [(cI, .int), (cZ, .boolean), (cQ, .array .boolean)] [(mm, .inr (12, [.int t, .ref mlv, .ref msr, .ref mrs, .ref mpa, .ref mnu, .ref mlt, .ref mpl, .ref mod, .ref mic, .ref mgo, .ref msk, .ref mfo, .int nn, .int 1, .ref mul, .ref mup, .ref mun, .int 0, .ref mfr, .ref mta, .int 0])), (mlv, .inl (cI, 60, .inl (upd (fun _ => 0) 0 q))), (mod, .inl (cI, 61, .inl (upd (fun _ => 0) 0 0))), (mpl, .inl (cI, 60, .inl (fun _ => 0))), (mpa, .inl (cI, 60, .inl (fun _ => 0))), (mic, .inl (cZ, 60, .inl (fun _ => 0))), (msr, .inl (cI, 60, .inl (fun _ => 0))), (mnu, .inl (cI, 60, .inl (fun _ => 0))), (mlt, .inl (cI, 60, .inl (fun _ => 0))), (msk, .inl (cQ, 5, .inr (.inr (.inr (.inr g))))), (yy, .inl (cZ, 100, .inl (fun _ => 0)))] sz)) (va_Qv (fun (_ : Unit) => True) (fun (_ : Unit) => zB D [(mm, .inr (12, [.int t, .ref mlv, .ref msr, .ref mrs, .ref mpa, .ref mnu, .ref mlt, .ref mpl, .ref mod, .ref mic, .ref mgo, .ref msk, .ref mfo, .int nn, .int 1, .ref mul, .ref mup, .ref mun, .int 0, .ref mfr, .ref mta, .int 0]))] (va_A [(mm, .inr (12, [.int t, .ref mlv, .ref msr, .ref mrs, .ref mpa, .ref mnu, .ref mlt, .ref mpl, .ref mod, .ref mic, .ref mgo, .ref msk, .ref mfo, .int nn, .int 1, .ref mul, .ref mup, .ref mun, .int 0, .ref mfr, .ref mta, .int 0])), (mlv, .inl (cI, 60, .inl (upd (fun _ => 0) 0 q))), (mod, .inl (cI, 61, .inl (upd (fun _ => 0) 0 0))), (mpl, .inl (cI, 60, .inl (fun _ => 0))), (mpa, .inl (cI, 60, .inl (fun _ => 0))), (mic, .inl (cZ, 60, .inl (fun _ => 0))), (msr, .inl (cI, 60, .inl (fun _ => 0))), (mnu, .inl (cI, 60, .inl (fun _ => 0))), (mlt, .inl (cI, 60, .inl (fun _ => 0))), (msk, .inl (cQ, 5, .inr (.inr (.inr (.inr g))))), (yy, .inl (cZ, 100, .inl (fun _ => 0)))] sz)) (va_A [(mm, .inr (12, [.int t, .ref mlv, .ref msr, .ref mrs, .ref mpa, .ref mnu, .ref mlt, .ref mpl, .ref mod, .ref mic, .ref mgo, .ref msk, .ref mfo, .int nn, .int 1, .ref mul, .ref mup, .ref mun, .int 0, .ref mfr, .ref mta, .int 0])), (mlv, .inl (cI, 60, .inl (upd (fun _ => 0) 0 q))), (mod, .inl (cI, 61, .inl (upd (fun _ => 0) 0 0))), (mpl, .inl (cI, 60, .inl (fun _ => 0))), (mpa, .inl (cI, 60, .inl (fun _ => 0))), (mic, .inl (cZ, 60, .inl (fun _ => 0))), (msr, .inl (cI, 60, .inl (fun _ => 0))), (mnu, .inl (cI, 60, .inl (fun _ => 0))), (mlt, .inl (cI, 60, .inl (fun _ => 0))), (msk, .inl (cQ, 5, .inr (.inr (.inr (.inr g))))), (yy, .inl (cZ, 100, .inl (fun _ => 0)))] sz)) 0 0 (va_A [(mm, .inr (12, [.int t, .ref mlv, .ref msr, .ref mrs, .ref mpa, .ref mnu, .ref mlt, .ref mpl, .ref mod, .ref mic, .ref mgo, .ref msk, .ref mfo, .int nn, .int 1, .ref mul, .ref mup, .ref mun, .int 0, .ref mfr, .ref mta, .int 0])), (mlv, .inl (cI, 60, .inl (upd (fun _ => 0) 0 q))), (mod, .inl (cI, 61, .inl (upd (fun _ => 0) 0 0))), (mpl, .inl (cI, 60, .inl (fun _ => 0))), (mpa, .inl (cI, 60, .inl (fun _ => 0))), (mic, .inl (cZ, 60, .inl (fun _ => 0))), (msr, .inl (cI, 60, .inl (fun _ => 0))), (mnu, .inl (cI, 60, .inl (fun _ => 0))), (mlt, .inl (cI, 60, .inl (fun _ => 0))), (msk, .inl (cQ, 5, .inr (.inr (.inr (.inr g))))), (yy, .inl (cZ, 100, .inl (fun _ => 0)))] sz) := by
  refine Met.ofW (cc := cX9_settles) (maxL := 2) (ret := none) (by decide) rfl ?_
  intro P0 E0 s m args below meth C9 s₁ B hml hv
  obtain ⟨rfl, hsz, hP, hK, hD0⟩ := hv
  have hx := B.exec
  have hb := B.bytes
  have hr := B.returns
  have hts := atoms_spec (ws := wsX9_settles) B.pre
  have hown : s.vm.findClass RX9 = some m.cls := findClass_of_methodNamed B.named
  have hlocks := B.notSynchronized
  subst hsz
  have hD := hD0.self (sz := s.heap.size)
  generalize hAe : va_A [(mm, .inr (12, [.int t, .ref mlv, .ref msr, .ref mrs, .ref mpa, .ref mnu, .ref mlt, .ref mpl, .ref mod, .ref mic, .ref mgo, .ref msk, .ref mfo, .int nn, .int 1, .ref mul, .ref mup, .ref mun, .int 0, .ref mfr, .ref mta, .int 0])), (mlv, .inl (cI, 60, .inl (upd (fun _ => 0) 0 q))), (mod, .inl (cI, 61, .inl (upd (fun _ => 0) 0 0))), (mpl, .inl (cI, 60, .inl (fun _ => 0))), (mpa, .inl (cI, 60, .inl (fun _ => 0))), (mic, .inl (cZ, 60, .inl (fun _ => 0))), (msr, .inl (cI, 60, .inl (fun _ => 0))), (mnu, .inl (cI, 60, .inl (fun _ => 0))), (mlt, .inl (cI, 60, .inl (fun _ => 0))), (msk, .inl (cQ, 5, .inr (.inr (.inr (.inr g))))), (yy, .inl (cZ, 100, .inl (fun _ => 0)))] s.heap.size = A at hD ⊢
  have hA : ∀ q : Nat, s.heap.size ≤ q → A q := fun q h => by rw [← hAe]; exact Or.inr h
  have hS : va_S A s.heap s.heap [] := va_S.rf
  have hl := lv_entry ([.ref mm]) (n := 2) (Nat.le_of_ble_eq_true rfl)
  rw [lg_entry_eq]
  generalize (lg_sl ([.ref mm]) ++ List.replicate (2 - (lg_sl ([.ref mm])).length) Slot.unset).toArray = ls at hl ⊢
  have hl : lv_has ls 2 [(0, .ref mm)] := hl
  refine lv_iconst (v := 0) hx hb dX9_settles_0 (by decide) ?_
  refine lv_istore_n (lv' := [(1, .int 0), (0, .ref mm)]) hx hb dX9_settles_1 rfl hl (by decide) rfl (fun ls hl => ?_)
  refine lv_iload_n hx hb dX9_settles_2 rfl (lv_at hl 0 rfl) ?_
  refine lv_aload_n hx hb dX9_settles_3 rfl (lv_at hl 1 rfl) ?_
  refine va_get (D := D) (ci := 12) (v := .int 1) (C := RX9) (T := TX9) (N := 22) hx hb hts (fun _ h => List.mem_cons_of_mem _ (List.mem_append_left _ (List.mem_append_right _ h))) hown hK hP 0 rfl rfl 14 (by decide) (hts (.fieldLink RX9 91 "NumberingTreeModel" "size" "I") (List.mem_of_getElem? (i := 1) rfl)) (fun _ h9 => h9) rfl dX9_settles_4 ?_
  refine lv_icmp_ge (tgt := 44) hx hb dX9_settles_7 (by decide) (fun q => absurd q (by decide)) (fun _ => ?_)
  refine lv_aload_n hx hb dX9_settles_10 rfl (lv_at hl 1 rfl) ?_
  refine va_get (D := D) (ci := 12) (v := .ref mpl) (C := RX9) (T := TX9) (N := 22) hx hb hts (fun _ h => List.mem_cons_of_mem _ (List.mem_append_left _ (List.mem_append_right _ h))) hown hK hP 0 rfl rfl 7 (by decide) (hts (.fieldLink RX9 28 "NumberingTreeModel" "places" "[I") (List.mem_of_getElem? (i := 2) rfl)) (fun _ h9 => h9) rfl dX9_settles_11 ?_
  refine lv_aload_n hx hb dX9_settles_14 rfl (lv_at hl 1 rfl) ?_
  refine va_get (D := D) (ci := 12) (v := .ref mod) (C := RX9) (T := TX9) (N := 22) hx hb hts (fun _ h => List.mem_cons_of_mem _ (List.mem_append_left _ (List.mem_append_right _ h))) hown hK hP 0 rfl rfl 8 (by decide) (hts (.fieldLink RX9 31 "NumberingTreeModel" "order" "[I") (List.mem_of_getElem? (i := 3) rfl)) (fun _ h9 => h9) rfl dX9_settles_15 ?_
  refine lv_iload_n hx hb dX9_settles_18 rfl (lv_at hl 0 rfl) ?_
  refine va_iald hx hb hK hP 2 0 rfl rfl (vp_in_nI (n := 0) (by decide) (by decide)) dX9_settles_19 ?_
  refine zt_i 0 rfl ?_
  refine lv_iload_n hx hb dX9_settles_20 rfl (lv_at hl 0 rfl) ?_
  refine va_iast hx hb hK hP hD hS 3 0 rfl rfl (vp_in_nI (n := 0) (by decide) (by decide)) dX9_settles_21 (fun H locs hP hD hS => ?_)
  have hP : va_P D vwCl [(mm, .inr (12, [.int t, .ref mlv, .ref msr, .ref mrs, .ref mpa, .ref mnu, .ref mlt, .ref mpl, .ref mod, .ref mic, .ref mgo, .ref msk, .ref mfo, .int nn, .int 1, .ref mul, .ref mup, .ref mun, .int 0, .ref mfr, .ref mta, .int 0])), (mlv, .inl (cI, 60, .inl (upd (fun _ => 0) 0 q))), (mod, .inl (cI, 61, .inl (upd (fun _ => 0) 0 0))), (mpl, .inl (cI, 60, .inl (upd (fun _ => 0) 0 0))), (mpa, .inl (cI, 60, .inl (fun _ => 0))), (mic, .inl (cZ, 60, .inl (fun _ => 0))), (msr, .inl (cI, 60, .inl (fun _ => 0))), (mnu, .inl (cI, 60, .inl (fun _ => 0))), (mlt, .inl (cI, 60, .inl (fun _ => 0))), (msk, .inl (cQ, 5, .inr (.inr (.inr (.inr g))))), (yy, .inl (cZ, 100, .inl (fun _ => 0)))] H := hP
  have hD : va_D A [(mm, .inr (12, [.int t, .ref mlv, .ref msr, .ref mrs, .ref mpa, .ref mnu, .ref mlt, .ref mpl, .ref mod, .ref mic, .ref mgo, .ref msk, .ref mfo, .int nn, .int 1, .ref mul, .ref mup, .ref mun, .int 0, .ref mfr, .ref mta, .int 0])), (mlv, .inl (cI, 60, .inl (upd (fun _ => 0) 0 q))), (mod, .inl (cI, 61, .inl (upd (fun _ => 0) 0 0))), (mpl, .inl (cI, 60, .inl (upd (fun _ => 0) 0 0))), (mpa, .inl (cI, 60, .inl (fun _ => 0))), (mic, .inl (cZ, 60, .inl (fun _ => 0))), (msr, .inl (cI, 60, .inl (fun _ => 0))), (mnu, .inl (cI, 60, .inl (fun _ => 0))), (mlt, .inl (cI, 60, .inl (fun _ => 0))), (msk, .inl (cQ, 5, .inr (.inr (.inr (.inr g))))), (yy, .inl (cZ, 100, .inl (fun _ => 0)))] := hD
  refine lv_aload_n hx hb dX9_settles_22 rfl (lv_at hl 1 rfl) ?_
  refine va_get (D := D) (ci := 12) (v := .ref mpa) (C := RX9) (T := TX9) (N := 22) hx hb hts (fun _ h => List.mem_cons_of_mem _ (List.mem_append_left _ (List.mem_append_right _ h))) hown hK hP 0 rfl rfl 4 (by decide) (hts (.fieldLink RX9 19 "NumberingTreeModel" "parents" "[I") (List.mem_of_getElem? (i := 4) rfl)) (fun _ h9 => h9) rfl dX9_settles_23 ?_
  refine lv_aload_n hx hb dX9_settles_26 rfl (lv_at hl 1 rfl) ?_
  refine va_get (D := D) (ci := 12) (v := .ref mod) (C := RX9) (T := TX9) (N := 22) hx hb hts (fun _ h => List.mem_cons_of_mem _ (List.mem_append_left _ (List.mem_append_right _ h))) hown hK hP 0 rfl rfl 8 (by decide) (hts (.fieldLink RX9 31 "NumberingTreeModel" "order" "[I") (List.mem_of_getElem? (i := 3) rfl)) (fun _ h9 => h9) rfl dX9_settles_27 ?_
  refine lv_iload_n hx hb dX9_settles_30 rfl (lv_at hl 0 rfl) ?_
  refine va_iald hx hb hK hP 2 0 rfl rfl (vp_in_nI (n := 0) (by decide) (by decide)) dX9_settles_31 ?_
  refine zt_i 0 rfl ?_
  refine lv_aload_n hx hb dX9_settles_32 rfl (lv_at hl 1 rfl) ?_
  refine lv_iload_n hx hb dX9_settles_33 rfl (lv_at hl 0 rfl) ?_
  refine zc_i (wc := [(mm, .inr (12, [.int t, .ref mlv, .ref msr, .ref mrs, .ref mpa, .ref mnu, .ref mlt, .ref mpl, .ref mod, .ref mic, .ref mgo, .ref msk, .ref mfo, .int nn, .int 1, .ref mul, .ref mup, .ref mun, .int 0, .ref mfr, .ref mta, .int 0])), (mod, .inl (cI, 61, .inl (upd (fun _ => 0) 0 0))), (mlv, .inl (cI, 60, .inl (upd (fun _ => 0) 0 q)))]) (wr := [(mpl, .inl (cI, 60, .inl (upd (fun _ => 0) 0 0))), (mpa, .inl (cI, 60, .inl (fun _ => 0))), (mic, .inl (cZ, 60, .inl (fun _ => 0))), (msr, .inl (cI, 60, .inl (fun _ => 0))), (mnu, .inl (cI, 60, .inl (fun _ => 0))), (mlt, .inl (cI, 60, .inl (fun _ => 0))), (msk, .inl (cQ, 5, .inr (.inr (.inr (.inr g))))), (yy, .inl (cZ, 100, .inl (fun _ => 0)))]) (va_runV (As := [.int 0]) (rest := [.int 0, .ref mpa]) ⟨hx, hb, hml, hown, hts⟩ (k_parentAt1 l D cI mm mlv msr mrs mpa mnu mlt mpl mod mic mgo msk mfo mul mup mun mfr mta t nn (upd (fun _ => 0) 0 q) H.size) (cwV 1 hts gX9_settles_X9_parentAt rfl rfl rfl (by decide +kernel) ⟨Nat.le_of_ble_eq_true rfl, Nat.le_of_ble_eq_true rfl⟩) (zPV hK hP hD [0, 2, 1] rfl rfl [0] rfl 0 rfl rfl rfl) rfl rfl hl.1 rfl (lv_room (Nat.le_of_ble_eq_true rfl)) dX9_settles_34 ⟨Nat.le_of_ble_eq_true rfl, Nat.le_of_ble_eq_true rfl⟩) hP hD hS hA [0, 2, 1] [3, 4, 5, 6, 7, 8, 9, 10] rfl rfl rfl (by decide) (fun r _ H locs hw hP hD hS => ?_)
  have hP : va_P D vwCl [(mpl, .inl (cI, 60, .inl (upd (fun _ => 0) 0 0))), (mpa, .inl (cI, 60, .inl (fun _ => 0))), (mic, .inl (cZ, 60, .inl (fun _ => 0))), (msr, .inl (cI, 60, .inl (fun _ => 0))), (mnu, .inl (cI, 60, .inl (fun _ => 0))), (mlt, .inl (cI, 60, .inl (fun _ => 0))), (msk, .inl (cQ, 5, .inr (.inr (.inr (.inr g))))), (yy, .inl (cZ, 100, .inl (fun _ => 0))), (mm, .inr (12, [.int t, .ref mlv, .ref msr, .ref mrs, .ref mpa, .ref mnu, .ref mlt, .ref mpl, .ref mod, .ref mic, .ref mgo, .ref msk, .ref mfo, .int nn, .int 1, .ref mul, .ref mup, .ref mun, .int 0, .ref mfr, .ref mta, .int 0])), (mod, .inl (cI, 61, .inl (upd (fun _ => 0) 0 0))), (mlv, .inl (cI, 60, .inl (upd (fun _ => 0) 0 q)))] H := hP
  have hD : va_D A [(mpl, .inl (cI, 60, .inl (upd (fun _ => 0) 0 0))), (mpa, .inl (cI, 60, .inl (fun _ => 0))), (mic, .inl (cZ, 60, .inl (fun _ => 0))), (msr, .inl (cI, 60, .inl (fun _ => 0))), (mnu, .inl (cI, 60, .inl (fun _ => 0))), (mlt, .inl (cI, 60, .inl (fun _ => 0))), (msk, .inl (cQ, 5, .inr (.inr (.inr (.inr g))))), (yy, .inl (cZ, 100, .inl (fun _ => 0))), (mm, .inr (12, [.int t, .ref mlv, .ref msr, .ref mrs, .ref mpa, .ref mnu, .ref mlt, .ref mpl, .ref mod, .ref mic, .ref mgo, .ref msk, .ref mfo, .int nn, .int 1, .ref mul, .ref mup, .ref mun, .int 0, .ref mfr, .ref mta, .int 0])), (mod, .inl (cI, 61, .inl (upd (fun _ => 0) 0 0))), (mlv, .inl (cI, 60, .inl (upd (fun _ => 0) 0 q)))] := hD
  subst hw
  refine va_iast hx hb hK hP hD hS 1 0 rfl rfl (vp_in_nI (n := 0) (by decide) (by decide)) dX9_settles_37 (fun H locs hP hD hS => ?_)
  have hP : va_P D vwCl [(mpl, .inl (cI, 60, .inl (upd (fun _ => 0) 0 0))), (mpa, .inl (cI, 60, .inl (upd (fun _ => 0) 0 (-1)))), (mic, .inl (cZ, 60, .inl (fun _ => 0))), (msr, .inl (cI, 60, .inl (fun _ => 0))), (mnu, .inl (cI, 60, .inl (fun _ => 0))), (mlt, .inl (cI, 60, .inl (fun _ => 0))), (msk, .inl (cQ, 5, .inr (.inr (.inr (.inr g))))), (yy, .inl (cZ, 100, .inl (fun _ => 0))), (mm, .inr (12, [.int t, .ref mlv, .ref msr, .ref mrs, .ref mpa, .ref mnu, .ref mlt, .ref mpl, .ref mod, .ref mic, .ref mgo, .ref msk, .ref mfo, .int nn, .int 1, .ref mul, .ref mup, .ref mun, .int 0, .ref mfr, .ref mta, .int 0])), (mod, .inl (cI, 61, .inl (upd (fun _ => 0) 0 0))), (mlv, .inl (cI, 60, .inl (upd (fun _ => 0) 0 q)))] H := hP
  have hD : va_D A [(mpl, .inl (cI, 60, .inl (upd (fun _ => 0) 0 0))), (mpa, .inl (cI, 60, .inl (upd (fun _ => 0) 0 (-1)))), (mic, .inl (cZ, 60, .inl (fun _ => 0))), (msr, .inl (cI, 60, .inl (fun _ => 0))), (mnu, .inl (cI, 60, .inl (fun _ => 0))), (mlt, .inl (cI, 60, .inl (fun _ => 0))), (msk, .inl (cQ, 5, .inr (.inr (.inr (.inr g))))), (yy, .inl (cZ, 100, .inl (fun _ => 0))), (mm, .inr (12, [.int t, .ref mlv, .ref msr, .ref mrs, .ref mpa, .ref mnu, .ref mlt, .ref mpl, .ref mod, .ref mic, .ref mgo, .ref msk, .ref mfo, .int nn, .int 1, .ref mul, .ref mup, .ref mun, .int 0, .ref mfr, .ref mta, .int 0])), (mod, .inl (cI, 61, .inl (upd (fun _ => 0) 0 0))), (mlv, .inl (cI, 60, .inl (upd (fun _ => 0) 0 q)))] := hD
  refine lv_iinc (v := 1) (lv' := [(1, .int 1), (0, .ref mm)]) hx hb dX9_settles_38 hl (k := 0) rfl (by decide) (by decide) rfl (fun ls hl => ?_)
  refine lv_goto (tgt := 2) hx hb dX9_settles_41 (by decide) ?_
  refine lv_iload_n hx hb dX9_settles_2 rfl (lv_at hl 0 rfl) ?_
  refine lv_aload_n hx hb dX9_settles_3 rfl (lv_at hl 1 rfl) ?_
  refine va_get (D := D) (ci := 12) (v := .int 1) (C := RX9) (T := TX9) (N := 22) hx hb hts (fun _ h => List.mem_cons_of_mem _ (List.mem_append_left _ (List.mem_append_right _ h))) hown hK hP 8 rfl rfl 14 (by decide) (hts (.fieldLink RX9 91 "NumberingTreeModel" "size" "I") (List.mem_of_getElem? (i := 1) rfl)) (fun _ h9 => h9) rfl dX9_settles_4 ?_
  refine lv_icmp_ge (tgt := 44) hx hb dX9_settles_7 (by decide) (fun _ => ?_) (fun q => absurd q (by decide))
  refine lv_iconst (v := 0) hx hb dX9_settles_44 (by decide) ?_
  refine lv_istore_n (lv' := [(1, .int 0), (0, .ref mm)]) hx hb dX9_settles_45 rfl hl (by decide) rfl (fun ls hl => ?_)
  refine lv_iload_n hx hb dX9_settles_46 rfl (lv_at hl 0 rfl) ?_
  refine lv_aload_n hx hb dX9_settles_47 rfl (lv_at hl 1 rfl) ?_
  refine va_get (D := D) (ci := 12) (v := .int 1) (C := RX9) (T := TX9) (N := 22) hx hb hts (fun _ h => List.mem_cons_of_mem _ (List.mem_append_left _ (List.mem_append_right _ h))) hown hK hP 8 rfl rfl 14 (by decide) (hts (.fieldLink RX9 91 "NumberingTreeModel" "size" "I") (List.mem_of_getElem? (i := 1) rfl)) (fun _ h9 => h9) rfl dX9_settles_48 ?_
  refine lv_icmp_ge (tgt := 98) hx hb dX9_settles_51 (by decide) (fun q => absurd q (by decide)) (fun _ => ?_)
  refine lv_aload_n hx hb dX9_settles_54 rfl (lv_at hl 1 rfl) ?_
  refine va_get (D := D) (ci := 12) (v := .ref mlv) (C := RX9) (T := TX9) (N := 22) hx hb hts (fun _ h => List.mem_cons_of_mem _ (List.mem_append_left _ (List.mem_append_right _ h))) hown hK hP 8 rfl rfl 1 (by decide) (hts (.fieldLink RX9 9 "NumberingTreeModel" "levels" "[I") (List.mem_of_getElem? (i := 5) rfl)) (fun _ h9 => h9) rfl dX9_settles_55 ?_
  refine lv_aload_n hx hb dX9_settles_58 rfl (lv_at hl 1 rfl) ?_
  refine va_get (D := D) (ci := 12) (v := .ref mod) (C := RX9) (T := TX9) (N := 22) hx hb hts (fun _ h => List.mem_cons_of_mem _ (List.mem_append_left _ (List.mem_append_right _ h))) hown hK hP 8 rfl rfl 8 (by decide) (hts (.fieldLink RX9 31 "NumberingTreeModel" "order" "[I") (List.mem_of_getElem? (i := 3) rfl)) (fun _ h9 => h9) rfl dX9_settles_59 ?_
  refine lv_iload_n hx hb dX9_settles_62 rfl (lv_at hl 0 rfl) ?_
  refine va_iald hx hb hK hP 9 0 rfl rfl (vp_in_nI (n := 0) (by decide) (by decide)) dX9_settles_63 ?_
  refine zt_i 0 rfl ?_
  refine va_iald hx hb hK hP 10 0 rfl rfl (vp_in_nI (n := 0) (by decide) (by decide)) dX9_settles_64 ?_
  refine zt_i q rfl ?_
  refine lv_if_le (tgt := 92) hx hb dX9_settles_65 (by decide) (fun q => absurd q hp.1) (fun _ => ?_)
  refine lv_aload_n hx hb dX9_settles_68 rfl (lv_at hl 1 rfl) ?_
  refine va_get (D := D) (ci := 12) (v := .ref mic) (C := RX9) (T := TX9) (N := 22) hx hb hts (fun _ h => List.mem_cons_of_mem _ (List.mem_append_left _ (List.mem_append_right _ h))) hown hK hP 8 rfl rfl 9 (by decide) (hts (.fieldLink RX9 34 "NumberingTreeModel" "isIced" "[Z") (List.mem_of_getElem? (i := 6) rfl)) (fun _ h9 => h9) rfl dX9_settles_69 ?_
  refine lv_aload_n hx hb dX9_settles_72 rfl (lv_at hl 1 rfl) ?_
  refine va_get (D := D) (ci := 12) (v := .ref mod) (C := RX9) (T := TX9) (N := 22) hx hb hts (fun _ h => List.mem_cons_of_mem _ (List.mem_append_left _ (List.mem_append_right _ h))) hown hK hP 8 rfl rfl 8 (by decide) (hts (.fieldLink RX9 31 "NumberingTreeModel" "order" "[I") (List.mem_of_getElem? (i := 3) rfl)) (fun _ h9 => h9) rfl dX9_settles_73 ?_
  refine lv_iload_n hx hb dX9_settles_76 rfl (lv_at hl 0 rfl) ?_
  refine va_iald hx hb hK hP 9 0 rfl rfl (vp_in_nI (n := 0) (by decide) (by decide)) dX9_settles_77 ?_
  refine zt_i 0 rfl ?_
  refine va_zald hx hb hK hP 2 1 rfl rfl (vp_in_nI (n := 0) (by decide) (by decide)) dX9_settles_78 ?_
  refine zt_i 0 rfl ?_
  refine lv_if_ne (tgt := 92) hx hb dX9_settles_79 (by decide) (fun q => absurd q (by decide)) (fun _ => ?_)
  refine lv_aload_n hx hb dX9_settles_82 rfl (lv_at hl 1 rfl) ?_
  refine lv_aload_n hx hb dX9_settles_83 rfl (lv_at hl 1 rfl) ?_
  refine va_get (D := D) (ci := 12) (v := .ref mod) (C := RX9) (T := TX9) (N := 22) hx hb hts (fun _ h => List.mem_cons_of_mem _ (List.mem_append_left _ (List.mem_append_right _ h))) hown hK hP 8 rfl rfl 8 (by decide) (hts (.fieldLink RX9 31 "NumberingTreeModel" "order" "[I") (List.mem_of_getElem? (i := 3) rfl)) (fun _ h9 => h9) rfl dX9_settles_84 ?_
  refine lv_iload_n hx hb dX9_settles_87 rfl (lv_at hl 0 rfl) ?_
  refine va_iald hx hb hK hP 9 0 rfl rfl (vp_in_nI (n := 0) (by decide) (by decide)) dX9_settles_88 ?_
  refine zt_i 0 rfl ?_
  refine zc_v (wc := [(mm, .inr (12, [.int t, .ref mlv, .ref msr, .ref mrs, .ref mpa, .ref mnu, .ref mlt, .ref mpl, .ref mod, .ref mic, .ref mgo, .ref msk, .ref mfo, .int nn, .int 1, .ref mul, .ref mup, .ref mun, .int 0, .ref mfr, .ref mta, .int 0])), (mlv, .inl (cI, 60, .inl (upd (fun _ => 0) 0 q))), (mpl, .inl (cI, 60, .inl (upd (fun _ => 0) 0 0))), (msr, .inl (cI, 60, .inl (fun _ => 0))), (mnu, .inl (cI, 60, .inl (fun _ => 0))), (mlt, .inl (cI, 60, .inl (fun _ => 0))), (msk, .inl (cQ, 5, .inr (.inr (.inr (.inr g))))), (yy, .inl (cZ, 100, .inl (fun _ => 0)))]) (wr := [(mpa, .inl (cI, 60, .inl (upd (fun _ => 0) 0 (-1)))), (mic, .inl (cZ, 60, .inl (fun _ => 0))), (mod, .inl (cI, 61, .inl (upd (fun _ => 0) 0 0)))]) (va_runV (As := [.int 0]) (rest := []) ⟨hx, hb, hml, hown, hts⟩ (k_numbersOne1 l D cI cQ cZ mm mlv msr mrs mpa mnu mlt mpl mod mic mgo msk mfo mul mup mun mfr mta yy t nn q g H.size hp hg) (cwV 1 hts gX9_settles_X9_numbersOne rfl rfl rfl (by decide +kernel) ⟨Nat.le_of_ble_eq_true rfl, Nat.le_of_ble_eq_true rfl⟩) (zPV hK hP hD [8, 10, 0, 3, 4, 5, 6, 7] rfl rfl [0, 1, 2] rfl 0 rfl rfl rfl) rfl rfl hl.1 rfl (lv_room (Nat.le_of_ble_eq_true rfl)) dX9_settles_89 ⟨Nat.le_of_ble_eq_true rfl, Nat.le_of_ble_eq_true rfl⟩) hP hD hS hA [8, 10, 0, 3, 4, 5, 6, 7] [1, 2, 9] rfl rfl rfl (by decide) (fun  _ H locs hw hP hD hS => ?_)
  have hP : va_P D vwCl [(mpa, .inl (cI, 60, .inl (upd (fun _ => 0) 0 (-1)))), (mic, .inl (cZ, 60, .inl (fun _ => 0))), (mod, .inl (cI, 61, .inl (upd (fun _ => 0) 0 0))), (mm, .inr (12, [.int t, .ref mlv, .ref msr, .ref mrs, .ref mpa, .ref mnu, .ref mlt, .ref mpl, .ref mod, .ref mic, .ref mgo, .ref msk, .ref mfo, .int nn, .int 1, .ref mul, .ref mup, .ref mun, .int 0, .ref mfr, .ref mta, .int 0])), (mlv, .inl (cI, 60, .inl (upd (fun _ => 0) 0 q)))] H := hP
  have hD : va_D A [(mpa, .inl (cI, 60, .inl (upd (fun _ => 0) 0 (-1)))), (mic, .inl (cZ, 60, .inl (fun _ => 0))), (mod, .inl (cI, 61, .inl (upd (fun _ => 0) 0 0))), (mm, .inr (12, [.int t, .ref mlv, .ref msr, .ref mrs, .ref mpa, .ref mnu, .ref mlt, .ref mpl, .ref mod, .ref mic, .ref mgo, .ref msk, .ref mfo, .int nn, .int 1, .ref mul, .ref mup, .ref mun, .int 0, .ref mfr, .ref mta, .int 0])), (mlv, .inl (cI, 60, .inl (upd (fun _ => 0) 0 q)))] := hD
  refine lv_iinc (v := 1) (lv' := [(1, .int 1), (0, .ref mm)]) hx hb dX9_settles_92 hl (k := 0) rfl (by decide) (by decide) rfl (fun ls hl => ?_)
  refine lv_goto (tgt := 46) hx hb dX9_settles_95 (by decide) ?_
  refine lv_iload_n hx hb dX9_settles_46 rfl (lv_at hl 0 rfl) ?_
  refine lv_aload_n hx hb dX9_settles_47 rfl (lv_at hl 1 rfl) ?_
  refine va_get (D := D) (ci := 12) (v := .int 1) (C := RX9) (T := TX9) (N := 22) hx hb hts (fun _ h => List.mem_cons_of_mem _ (List.mem_append_left _ (List.mem_append_right _ h))) hown hK hP 3 rfl rfl 14 (by decide) (hts (.fieldLink RX9 91 "NumberingTreeModel" "size" "I") (List.mem_of_getElem? (i := 1) rfl)) (fun _ h9 => h9) rfl dX9_settles_48 ?_
  refine lv_icmp_ge (tgt := 98) hx hb dX9_settles_51 (by decide) (fun _ => ?_) (fun q => absurd q (by decide))
  obtain ⟨hP9, hD9⟩ := z_get hP hD [3] (wc := [(mm, .inr (12, [.int t, .ref mlv, .ref msr, .ref mrs, .ref mpa, .ref mnu, .ref mlt, .ref mpl, .ref mod, .ref mic, .ref mgo, .ref msk, .ref mfo, .int nn, .int 1, .ref mul, .ref mup, .ref mun, .int 0, .ref mfr, .ref mta, .int 0]))]) rfl rfl
  exact W.vret hx hb hr (fun t ht hW => ⟨⟨(), rfl, trivial, by rw [ht]; exact hP9, hD9⟩, hS.F ht⟩) hS.2.2 dX9_settles_98

set_option maxHeartbeats 4000000 in
set_option maxRecDepth 100000 in
theorem m_insertP (l : Launch) (D : va_G) (cI cZ : ClassId) (mm mlv msr mrs mpa mnu mlt mpl mod mic mgo msk mfo mul mup mun mfr mta : Nat) (t : Int32) (sz : Nat) : Met l yX9_insert wsX9_insert ({ frames := 2, cells := 0, slots := 0, locals := 44 }) (va_Pc [.ref mm, .int 0, .int 0] (zPre D [(cI, .int), (cZ, .boolean)] [(mm, .inr (12, [.int t, .ref mlv, .ref msr, .ref mrs, .ref mpa, .ref mnu, .ref mlt, .ref mpl, .ref mod, .ref mic, .ref mgo, .ref msk, .ref mfo, .int 0, .int 0, .ref mul, .ref mup, .ref mun, .int 0, .ref mfr, .ref mta, .int 0])), (mlv, .inl (cI, 60, .inl (fun _ => 0))), (mod, .inl (cI, 61, .inl (fun _ => 0))), (mpl, .inl (cI, 60, .inl (fun _ => 0))), (mpa, .inl (cI, 60, .inl (fun _ => 0))), (mic, .inl (cZ, 60, .inl (fun _ => 0)))] sz)) (va_Qi (fun rv (_ : Unit) => rv = 0) (fun (_ : Unit) => zB D [(mm, .inr (12, [.int 0, .ref mlv, .ref msr, .ref mrs, .ref mpa, .ref mnu, .ref mlt, .ref mpl, .ref mod, .ref mic, .ref mgo, .ref msk, .ref mfo, .int 1, .int 1, .ref mul, .ref mup, .ref mun, .int 0, .ref mfr, .ref mta, .int 0]))] (va_A [(mm, .inr (12, [.int t, .ref mlv, .ref msr, .ref mrs, .ref mpa, .ref mnu, .ref mlt, .ref mpl, .ref mod, .ref mic, .ref mgo, .ref msk, .ref mfo, .int 0, .int 0, .ref mul, .ref mup, .ref mun, .int 0, .ref mfr, .ref mta, .int 0])), (mlv, .inl (cI, 60, .inl (fun _ => 0))), (mod, .inl (cI, 61, .inl (fun _ => 0))), (mpl, .inl (cI, 60, .inl (fun _ => 0))), (mpa, .inl (cI, 60, .inl (fun _ => 0))), (mic, .inl (cZ, 60, .inl (fun _ => 0)))] sz)) (va_A [(mm, .inr (12, [.int t, .ref mlv, .ref msr, .ref mrs, .ref mpa, .ref mnu, .ref mlt, .ref mpl, .ref mod, .ref mic, .ref mgo, .ref msk, .ref mfo, .int 0, .int 0, .ref mul, .ref mup, .ref mun, .int 0, .ref mfr, .ref mta, .int 0])), (mlv, .inl (cI, 60, .inl (fun _ => 0))), (mod, .inl (cI, 61, .inl (fun _ => 0))), (mpl, .inl (cI, 60, .inl (fun _ => 0))), (mpa, .inl (cI, 60, .inl (fun _ => 0))), (mic, .inl (cZ, 60, .inl (fun _ => 0)))] sz)) 0 0 (va_A [(mm, .inr (12, [.int t, .ref mlv, .ref msr, .ref mrs, .ref mpa, .ref mnu, .ref mlt, .ref mpl, .ref mod, .ref mic, .ref mgo, .ref msk, .ref mfo, .int 0, .int 0, .ref mul, .ref mup, .ref mun, .int 0, .ref mfr, .ref mta, .int 0])), (mlv, .inl (cI, 60, .inl (fun _ => 0))), (mod, .inl (cI, 61, .inl (fun _ => 0))), (mpl, .inl (cI, 60, .inl (fun _ => 0))), (mpa, .inl (cI, 60, .inl (fun _ => 0))), (mic, .inl (cZ, 60, .inl (fun _ => 0)))] sz) := by
  refine Met.ofW (cc := cX9_insert) (maxL := 3) (ret := (some .int)) (by decide) rfl ?_
  intro P0 E0 s m args below meth C9 s₁ B hml hv
  obtain ⟨rfl, hsz, hP, hK, hD0⟩ := hv
  have hx := B.exec
  have hb := B.bytes
  have hr := B.returns
  have hts := atoms_spec (ws := wsX9_insert) B.pre
  have hown : s.vm.findClass RX9 = some m.cls := findClass_of_methodNamed B.named
  have hlocks := B.notSynchronized
  subst hsz
  have hD := hD0.self (sz := s.heap.size)
  generalize hAe : va_A [(mm, .inr (12, [.int t, .ref mlv, .ref msr, .ref mrs, .ref mpa, .ref mnu, .ref mlt, .ref mpl, .ref mod, .ref mic, .ref mgo, .ref msk, .ref mfo, .int 0, .int 0, .ref mul, .ref mup, .ref mun, .int 0, .ref mfr, .ref mta, .int 0])), (mlv, .inl (cI, 60, .inl (fun _ => 0))), (mod, .inl (cI, 61, .inl (fun _ => 0))), (mpl, .inl (cI, 60, .inl (fun _ => 0))), (mpa, .inl (cI, 60, .inl (fun _ => 0))), (mic, .inl (cZ, 60, .inl (fun _ => 0)))] s.heap.size = A at hD ⊢
  have hA : ∀ q : Nat, s.heap.size ≤ q → A q := fun q h => by rw [← hAe]; exact Or.inr h
  have hS : va_S A s.heap s.heap [] := va_S.rf
  have hl := lv_entry ([.ref mm, .int 0, .int 0]) (n := 3) (Nat.le_of_ble_eq_true rfl)
  rw [lg_entry_eq]
  generalize (lg_sl ([.ref mm, .int 0, .int 0]) ++ List.replicate (3 - (lg_sl ([.ref mm, .int 0, .int 0])).length) Slot.unset).toArray = ls at hl ⊢
  have hl : lv_has ls 3 [(0, .ref mm), (1, .int 0), (2, .int 0)] := hl
  refine lv_aload_n hx hb dX9_insert_0 rfl (lv_at hl 0 rfl) ?_
  refine lv_iconst (v := 0) hx hb dX9_insert_1 (by decide) ?_
  refine va_put (D := D) (ci := 12) (v := .int 0) (ty := .int) (C := RX9) (T := TX9) (N := 22) hx hb hts (fun _ h => List.mem_cons_of_mem _ (List.mem_append_left _ (List.mem_append_right _ h))) tyX9 tyX9_ok nmX9 hown hK hP hD hS 0 rfl rfl 0 (by decide) (hts (.fieldLink RX9 65 "NumberingTreeModel" "thrown" "I") (List.mem_of_getElem? (i := 1) rfl)) (fun _ h9 => h9) rfl (by decide +kernel) rfl rfl (Nat.le_of_ble_eq_true rfl) dX9_insert_2 (fun H locs hP hD hS => ?_)
  have hP : va_P D vwCl [(mm, .inr (12, [.int 0, .ref mlv, .ref msr, .ref mrs, .ref mpa, .ref mnu, .ref mlt, .ref mpl, .ref mod, .ref mic, .ref mgo, .ref msk, .ref mfo, .int 0, .int 0, .ref mul, .ref mup, .ref mun, .int 0, .ref mfr, .ref mta, .int 0])), (mlv, .inl (cI, 60, .inl (fun _ => 0))), (mod, .inl (cI, 61, .inl (fun _ => 0))), (mpl, .inl (cI, 60, .inl (fun _ => 0))), (mpa, .inl (cI, 60, .inl (fun _ => 0))), (mic, .inl (cZ, 60, .inl (fun _ => 0)))] H := hP
  have hD : va_D A [(mm, .inr (12, [.int 0, .ref mlv, .ref msr, .ref mrs, .ref mpa, .ref mnu, .ref mlt, .ref mpl, .ref mod, .ref mic, .ref mgo, .ref msk, .ref mfo, .int 0, .int 0, .ref mul, .ref mup, .ref mun, .int 0, .ref mfr, .ref mta, .int 0])), (mlv, .inl (cI, 60, .inl (fun _ => 0))), (mod, .inl (cI, 61, .inl (fun _ => 0))), (mpl, .inl (cI, 60, .inl (fun _ => 0))), (mpa, .inl (cI, 60, .inl (fun _ => 0))), (mic, .inl (cZ, 60, .inl (fun _ => 0)))] := hD
  refine lv_iload_n hx hb dX9_insert_5 rfl (lv_at hl 1 rfl) ?_
  refine lv_iconst (v := 0) hx hb dX9_insert_6 (by decide) ?_
  refine lv_aload_n hx hb dX9_insert_7 rfl (lv_at hl 0 rfl) ?_
  refine va_get (D := D) (ci := 12) (v := .int 0) (C := RX9) (T := TX9) (N := 22) hx hb hts (fun _ h => List.mem_cons_of_mem _ (List.mem_append_left _ (List.mem_append_right _ h))) hown hK hP 0 rfl rfl 14 (by decide) (hts (.fieldLink RX9 91 "NumberingTreeModel" "size" "I") (List.mem_of_getElem? (i := 2) rfl)) (fun _ h9 => h9) rfl dX9_insert_8 ?_
  refine zc_i (wc := []) (wr := [(mm, .inr (12, [.int 0, .ref mlv, .ref msr, .ref mrs, .ref mpa, .ref mnu, .ref mlt, .ref mpl, .ref mod, .ref mic, .ref mgo, .ref msk, .ref mfo, .int 0, .int 0, .ref mul, .ref mup, .ref mun, .int 0, .ref mfr, .ref mta, .int 0])), (mlv, .inl (cI, 60, .inl (fun _ => 0))), (mod, .inl (cI, 61, .inl (fun _ => 0))), (mpl, .inl (cI, 60, .inl (fun _ => 0))), (mpa, .inl (cI, 60, .inl (fun _ => 0))), (mic, .inl (cZ, 60, .inl (fun _ => 0)))]) (va_runS (As := [.int 0, .int 0, .int 0]) (rest := []) ⟨hx, hb, hml, hown, hts⟩ (k_isBetweenT l D cI 0 0 0 H.size (by decide) (by decide)) (va_cwS 3 hts gX9_insert_X9_isBetween rfl rfl rfl (by decide +kernel) ⟨Nat.le_of_ble_eq_true rfl, Nat.le_of_ble_eq_true rfl⟩) (zPS hK hP hD [] rfl rfl [0] rfl) rfl rfl hl.1 rfl (lv_room (Nat.le_of_ble_eq_true rfl)) dX9_insert_11 ⟨Nat.le_of_ble_eq_true rfl, Nat.le_of_ble_eq_true rfl⟩) hP hD hS hA [] [0, 1, 2, 3, 4, 5] rfl rfl rfl (by decide) (fun r _ H locs hw hP hD hS => ?_)
  have hP : va_P D vwCl [(mm, .inr (12, [.int 0, .ref mlv, .ref msr, .ref mrs, .ref mpa, .ref mnu, .ref mlt, .ref mpl, .ref mod, .ref mic, .ref mgo, .ref msk, .ref mfo, .int 0, .int 0, .ref mul, .ref mup, .ref mun, .int 0, .ref mfr, .ref mta, .int 0])), (mlv, .inl (cI, 60, .inl (fun _ => 0))), (mod, .inl (cI, 61, .inl (fun _ => 0))), (mpl, .inl (cI, 60, .inl (fun _ => 0))), (mpa, .inl (cI, 60, .inl (fun _ => 0))), (mic, .inl (cZ, 60, .inl (fun _ => 0)))] H := hP
  have hD : va_D A [(mm, .inr (12, [.int 0, .ref mlv, .ref msr, .ref mrs, .ref mpa, .ref mnu, .ref mlt, .ref mpl, .ref mod, .ref mic, .ref mgo, .ref msk, .ref mfo, .int 0, .int 0, .ref mul, .ref mup, .ref mun, .int 0, .ref mfr, .ref mta, .int 0])), (mlv, .inl (cI, 60, .inl (fun _ => 0))), (mod, .inl (cI, 61, .inl (fun _ => 0))), (mpl, .inl (cI, 60, .inl (fun _ => 0))), (mpa, .inl (cI, 60, .inl (fun _ => 0))), (mic, .inl (cZ, 60, .inl (fun _ => 0)))] := hD
  subst hw
  refine lv_if_eq (tgt := 26) hx hb dX9_insert_14 (by decide) (fun q => absurd q (by decide)) (fun _ => ?_)
  refine lv_iload_n hx hb dX9_insert_17 rfl (lv_at hl 2 rfl) ?_
  refine lv_iconst (v := 0) hx hb dX9_insert_18 (by decide) ?_
  refine lv_iconst (v := 4) hx hb dX9_insert_19 (by decide) ?_
  refine zc_i (wc := []) (wr := [(mm, .inr (12, [.int 0, .ref mlv, .ref msr, .ref mrs, .ref mpa, .ref mnu, .ref mlt, .ref mpl, .ref mod, .ref mic, .ref mgo, .ref msk, .ref mfo, .int 0, .int 0, .ref mul, .ref mup, .ref mun, .int 0, .ref mfr, .ref mta, .int 0])), (mlv, .inl (cI, 60, .inl (fun _ => 0))), (mod, .inl (cI, 61, .inl (fun _ => 0))), (mpl, .inl (cI, 60, .inl (fun _ => 0))), (mpa, .inl (cI, 60, .inl (fun _ => 0))), (mic, .inl (cZ, 60, .inl (fun _ => 0)))]) (va_runS (As := [.int 0, .int 0, .int 4]) (rest := []) ⟨hx, hb, hml, hown, hts⟩ (k_isBetweenT l D cI 0 0 4 H.size (by decide) (by decide)) (va_cwS 3 hts gX9_insert_X9_isBetween rfl rfl rfl (by decide +kernel) ⟨Nat.le_of_ble_eq_true rfl, Nat.le_of_ble_eq_true rfl⟩) (zPS hK hP hD [] rfl rfl [0] rfl) rfl rfl hl.1 rfl (lv_room (Nat.le_of_ble_eq_true rfl)) dX9_insert_20 ⟨Nat.le_of_ble_eq_true rfl, Nat.le_of_ble_eq_true rfl⟩) hP hD hS hA [] [0, 1, 2, 3, 4, 5] rfl rfl rfl (by decide) (fun r _ H locs hw hP hD hS => ?_)
  have hP : va_P D vwCl [(mm, .inr (12, [.int 0, .ref mlv, .ref msr, .ref mrs, .ref mpa, .ref mnu, .ref mlt, .ref mpl, .ref mod, .ref mic, .ref mgo, .ref msk, .ref mfo, .int 0, .int 0, .ref mul, .ref mup, .ref mun, .int 0, .ref mfr, .ref mta, .int 0])), (mlv, .inl (cI, 60, .inl (fun _ => 0))), (mod, .inl (cI, 61, .inl (fun _ => 0))), (mpl, .inl (cI, 60, .inl (fun _ => 0))), (mpa, .inl (cI, 60, .inl (fun _ => 0))), (mic, .inl (cZ, 60, .inl (fun _ => 0)))] H := hP
  have hD : va_D A [(mm, .inr (12, [.int 0, .ref mlv, .ref msr, .ref mrs, .ref mpa, .ref mnu, .ref mlt, .ref mpl, .ref mod, .ref mic, .ref mgo, .ref msk, .ref mfo, .int 0, .int 0, .ref mul, .ref mup, .ref mun, .int 0, .ref mfr, .ref mta, .int 0])), (mlv, .inl (cI, 60, .inl (fun _ => 0))), (mod, .inl (cI, 61, .inl (fun _ => 0))), (mpl, .inl (cI, 60, .inl (fun _ => 0))), (mpa, .inl (cI, 60, .inl (fun _ => 0))), (mic, .inl (cZ, 60, .inl (fun _ => 0)))] := hD
  subst hw
  refine lv_if_ne (tgt := 32) hx hb dX9_insert_23 (by decide) (fun _ => ?_) (fun q => absurd q (by decide))
  refine lv_aload_n hx hb dX9_insert_32 rfl (lv_at hl 0 rfl) ?_
  refine va_get (D := D) (ci := 12) (v := .int 0) (C := RX9) (T := TX9) (N := 22) hx hb hts (fun _ h => List.mem_cons_of_mem _ (List.mem_append_left _ (List.mem_append_right _ h))) hown hK hP 0 rfl rfl 13 (by decide) (hts (.fieldLink RX9 69 "NumberingTreeModel" "names" "I") (List.mem_of_getElem? (i := 3) rfl)) (fun _ h9 => h9) rfl dX9_insert_33 ?_
  refine lv_bipush (v := 60) hx hb dX9_insert_36 (by decide) ?_
  refine lv_icmp_ne (tgt := 47) hx hb dX9_insert_38 (by decide) (fun _ => ?_) (fun q => absurd q (by decide))
  refine lv_aload_n hx hb dX9_insert_47 rfl (lv_at hl 0 rfl) ?_
  refine va_get (D := D) (ci := 12) (v := .ref mlv) (C := RX9) (T := TX9) (N := 22) hx hb hts (fun _ h => List.mem_cons_of_mem _ (List.mem_append_left _ (List.mem_append_right _ h))) hown hK hP 0 rfl rfl 1 (by decide) (hts (.fieldLink RX9 9 "NumberingTreeModel" "levels" "[I") (List.mem_of_getElem? (i := 4) rfl)) (fun _ h9 => h9) rfl dX9_insert_48 ?_
  refine lv_aload_n hx hb dX9_insert_51 rfl (lv_at hl 0 rfl) ?_
  refine va_get (D := D) (ci := 12) (v := .int 0) (C := RX9) (T := TX9) (N := 22) hx hb hts (fun _ h => List.mem_cons_of_mem _ (List.mem_append_left _ (List.mem_append_right _ h))) hown hK hP 0 rfl rfl 13 (by decide) (hts (.fieldLink RX9 69 "NumberingTreeModel" "names" "I") (List.mem_of_getElem? (i := 3) rfl)) (fun _ h9 => h9) rfl dX9_insert_52 ?_
  refine lv_iload_n hx hb dX9_insert_55 rfl (lv_at hl 2 rfl) ?_
  refine va_iast hx hb hK hP hD hS 1 0 rfl rfl (vp_in_nI (n := 0) (by decide) (by decide)) dX9_insert_56 (fun H locs hP hD hS => ?_)
  have hP : va_P D vwCl [(mm, .inr (12, [.int 0, .ref mlv, .ref msr, .ref mrs, .ref mpa, .ref mnu, .ref mlt, .ref mpl, .ref mod, .ref mic, .ref mgo, .ref msk, .ref mfo, .int 0, .int 0, .ref mul, .ref mup, .ref mun, .int 0, .ref mfr, .ref mta, .int 0])), (mlv, .inl (cI, 60, .inl (upd (fun _ => 0) 0 0))), (mod, .inl (cI, 61, .inl (fun _ => 0))), (mpl, .inl (cI, 60, .inl (fun _ => 0))), (mpa, .inl (cI, 60, .inl (fun _ => 0))), (mic, .inl (cZ, 60, .inl (fun _ => 0)))] H := hP
  have hD : va_D A [(mm, .inr (12, [.int 0, .ref mlv, .ref msr, .ref mrs, .ref mpa, .ref mnu, .ref mlt, .ref mpl, .ref mod, .ref mic, .ref mgo, .ref msk, .ref mfo, .int 0, .int 0, .ref mul, .ref mup, .ref mun, .int 0, .ref mfr, .ref mta, .int 0])), (mlv, .inl (cI, 60, .inl (upd (fun _ => 0) 0 0))), (mod, .inl (cI, 61, .inl (fun _ => 0))), (mpl, .inl (cI, 60, .inl (fun _ => 0))), (mpa, .inl (cI, 60, .inl (fun _ => 0))), (mic, .inl (cZ, 60, .inl (fun _ => 0)))] := hD
  refine lv_aload_n hx hb dX9_insert_57 rfl (lv_at hl 0 rfl) ?_
  refine lv_aload_n hx hb dX9_insert_58 rfl (lv_at hl 0 rfl) ?_
  refine va_get (D := D) (ci := 12) (v := .int 0) (C := RX9) (T := TX9) (N := 22) hx hb hts (fun _ h => List.mem_cons_of_mem _ (List.mem_append_left _ (List.mem_append_right _ h))) hown hK hP 0 rfl rfl 13 (by decide) (hts (.fieldLink RX9 69 "NumberingTreeModel" "names" "I") (List.mem_of_getElem? (i := 3) rfl)) (fun _ h9 => h9) rfl dX9_insert_59 ?_
  refine lv_iload_n hx hb dX9_insert_62 rfl (lv_at hl 1 rfl) ?_
  refine zc_v (wc := [(mm, .inr (12, [.int 0, .ref mlv, .ref msr, .ref mrs, .ref mpa, .ref mnu, .ref mlt, .ref mpl, .ref mod, .ref mic, .ref mgo, .ref msk, .ref mfo, .int 0, .int 0, .ref mul, .ref mup, .ref mun, .int 0, .ref mfr, .ref mta, .int 0])), (mod, .inl (cI, 61, .inl (fun _ => 0)))]) (wr := [(mlv, .inl (cI, 60, .inl (upd (fun _ => 0) 0 0))), (mpl, .inl (cI, 60, .inl (fun _ => 0))), (mpa, .inl (cI, 60, .inl (fun _ => 0))), (mic, .inl (cZ, 60, .inl (fun _ => 0)))]) (va_runV (As := [.int 0, .int 0]) (rest := []) ⟨hx, hb, hml, hown, hts⟩ (k_putsIn0 l D cI mm mlv msr mrs mpa mnu mlt mpl mod mic mgo msk mfo mul mup mun mfr mta 0 H.size) (cwV 2 hts gX9_insert_X9_putsIn rfl rfl rfl (by decide +kernel) ⟨Nat.le_of_ble_eq_true rfl, Nat.le_of_ble_eq_true rfl⟩) (zPV hK hP hD [0, 2] rfl rfl [0] rfl 0 rfl rfl rfl) rfl rfl hl.1 rfl (lv_room (Nat.le_of_ble_eq_true rfl)) dX9_insert_63 ⟨Nat.le_of_ble_eq_true rfl, Nat.le_of_ble_eq_true rfl⟩) hP hD hS hA [0, 2] [1, 3, 4, 5] rfl rfl rfl (by decide) (fun  _ H locs hw hP hD hS => ?_)
  have hP : va_P D vwCl [(mlv, .inl (cI, 60, .inl (upd (fun _ => 0) 0 0))), (mpl, .inl (cI, 60, .inl (fun _ => 0))), (mpa, .inl (cI, 60, .inl (fun _ => 0))), (mic, .inl (cZ, 60, .inl (fun _ => 0))), (mm, .inr (12, [.int 0, .ref mlv, .ref msr, .ref mrs, .ref mpa, .ref mnu, .ref mlt, .ref mpl, .ref mod, .ref mic, .ref mgo, .ref msk, .ref mfo, .int 0, .int 1, .ref mul, .ref mup, .ref mun, .int 0, .ref mfr, .ref mta, .int 0])), (mod, .inl (cI, 61, .inl (upd (fun _ => 0) 0 0)))] H := hP
  have hD : va_D A [(mlv, .inl (cI, 60, .inl (upd (fun _ => 0) 0 0))), (mpl, .inl (cI, 60, .inl (fun _ => 0))), (mpa, .inl (cI, 60, .inl (fun _ => 0))), (mic, .inl (cZ, 60, .inl (fun _ => 0))), (mm, .inr (12, [.int 0, .ref mlv, .ref msr, .ref mrs, .ref mpa, .ref mnu, .ref mlt, .ref mpl, .ref mod, .ref mic, .ref mgo, .ref msk, .ref mfo, .int 0, .int 1, .ref mul, .ref mup, .ref mun, .int 0, .ref mfr, .ref mta, .int 0])), (mod, .inl (cI, 61, .inl (upd (fun _ => 0) 0 0)))] := hD
  refine lv_aload_n hx hb dX9_insert_66 rfl (lv_at hl 0 rfl) ?_
  refine zc_i (wc := [(mm, .inr (12, [.int 0, .ref mlv, .ref msr, .ref mrs, .ref mpa, .ref mnu, .ref mlt, .ref mpl, .ref mod, .ref mic, .ref mgo, .ref msk, .ref mfo, .int 0, .int 1, .ref mul, .ref mup, .ref mun, .int 0, .ref mfr, .ref mta, .int 0])), (mod, .inl (cI, 61, .inl (upd (fun _ => 0) 0 0))), (mic, .inl (cZ, 60, .inl (fun _ => 0)))]) (wr := [(mlv, .inl (cI, 60, .inl (upd (fun _ => 0) 0 0))), (mpl, .inl (cI, 60, .inl (fun _ => 0))), (mpa, .inl (cI, 60, .inl (fun _ => 0)))]) (va_runV (As := []) (rest := []) ⟨hx, hb, hml, hown, hts⟩ (k_isParting1 l D cI cZ mm mlv msr mrs mpa mnu mlt mpl mod mic mgo msk mfo mul mup mun mfr mta 0 H.size) (cwV 0 hts gX9_insert_X9_isParting rfl rfl rfl (by decide +kernel) ⟨Nat.le_of_ble_eq_true rfl, Nat.le_of_ble_eq_true rfl⟩) (zPV hK hP hD [4, 5, 3] rfl rfl [0, 1] rfl 0 rfl rfl rfl) rfl rfl hl.1 rfl (lv_room (Nat.le_of_ble_eq_true rfl)) dX9_insert_67 ⟨Nat.le_of_ble_eq_true rfl, Nat.le_of_ble_eq_true rfl⟩) hP hD hS hA [4, 5, 3] [0, 1, 2] rfl rfl rfl (by decide) (fun r _ H locs hw hP hD hS => ?_)
  have hP : va_P D vwCl [(mlv, .inl (cI, 60, .inl (upd (fun _ => 0) 0 0))), (mpl, .inl (cI, 60, .inl (fun _ => 0))), (mpa, .inl (cI, 60, .inl (fun _ => 0))), (mm, .inr (12, [.int 0, .ref mlv, .ref msr, .ref mrs, .ref mpa, .ref mnu, .ref mlt, .ref mpl, .ref mod, .ref mic, .ref mgo, .ref msk, .ref mfo, .int 0, .int 1, .ref mul, .ref mup, .ref mun, .int 0, .ref mfr, .ref mta, .int 0])), (mod, .inl (cI, 61, .inl (upd (fun _ => 0) 0 0))), (mic, .inl (cZ, 60, .inl (fun _ => 0)))] H := hP
  have hD : va_D A [(mlv, .inl (cI, 60, .inl (upd (fun _ => 0) 0 0))), (mpl, .inl (cI, 60, .inl (fun _ => 0))), (mpa, .inl (cI, 60, .inl (fun _ => 0))), (mm, .inr (12, [.int 0, .ref mlv, .ref msr, .ref mrs, .ref mpa, .ref mnu, .ref mlt, .ref mpl, .ref mod, .ref mic, .ref mgo, .ref msk, .ref mfo, .int 0, .int 1, .ref mul, .ref mup, .ref mun, .int 0, .ref mfr, .ref mta, .int 0])), (mod, .inl (cI, 61, .inl (upd (fun _ => 0) 0 0))), (mic, .inl (cZ, 60, .inl (fun _ => 0)))] := hD
  subst hw
  refine lv_if_eq (tgt := 84) hx hb dX9_insert_70 (by decide) (fun _ => ?_) (fun q => absurd q (by decide))
  refine lv_aload_n hx hb dX9_insert_84 rfl (lv_at hl 0 rfl) ?_
  refine lv_dup hx hb dX9_insert_85 rfl ?_
  refine va_get (D := D) (ci := 12) (v := .int 0) (C := RX9) (T := TX9) (N := 22) hx hb hts (fun _ h => List.mem_cons_of_mem _ (List.mem_append_left _ (List.mem_append_right _ h))) hown hK hP 3 rfl rfl 13 (by decide) (hts (.fieldLink RX9 69 "NumberingTreeModel" "names" "I") (List.mem_of_getElem? (i := 3) rfl)) (fun _ h9 => h9) rfl dX9_insert_86 ?_
  refine lv_iconst (v := 1) hx hb dX9_insert_89 (by decide) ?_
  refine lv_iadd hx hb dX9_insert_90 ?_
  refine zt_i 1 (by decide) ?_
  refine va_put (D := D) (ci := 12) (v := .int 1) (ty := .int) (C := RX9) (T := TX9) (N := 22) hx hb hts (fun _ h => List.mem_cons_of_mem _ (List.mem_append_left _ (List.mem_append_right _ h))) tyX9 tyX9_ok nmX9 hown hK hP hD hS 3 rfl rfl 13 (by decide) (hts (.fieldLink RX9 69 "NumberingTreeModel" "names" "I") (List.mem_of_getElem? (i := 3) rfl)) (fun _ h9 => h9) rfl (by decide +kernel) rfl rfl (Nat.le_of_ble_eq_true rfl) dX9_insert_91 (fun H locs hP hD hS => ?_)
  have hP : va_P D vwCl [(mlv, .inl (cI, 60, .inl (upd (fun _ => 0) 0 0))), (mpl, .inl (cI, 60, .inl (fun _ => 0))), (mpa, .inl (cI, 60, .inl (fun _ => 0))), (mm, .inr (12, [.int 0, .ref mlv, .ref msr, .ref mrs, .ref mpa, .ref mnu, .ref mlt, .ref mpl, .ref mod, .ref mic, .ref mgo, .ref msk, .ref mfo, .int 1, .int 1, .ref mul, .ref mup, .ref mun, .int 0, .ref mfr, .ref mta, .int 0])), (mod, .inl (cI, 61, .inl (upd (fun _ => 0) 0 0))), (mic, .inl (cZ, 60, .inl (fun _ => 0)))] H := hP
  have hD : va_D A [(mlv, .inl (cI, 60, .inl (upd (fun _ => 0) 0 0))), (mpl, .inl (cI, 60, .inl (fun _ => 0))), (mpa, .inl (cI, 60, .inl (fun _ => 0))), (mm, .inr (12, [.int 0, .ref mlv, .ref msr, .ref mrs, .ref mpa, .ref mnu, .ref mlt, .ref mpl, .ref mod, .ref mic, .ref mgo, .ref msk, .ref mfo, .int 1, .int 1, .ref mul, .ref mup, .ref mun, .int 0, .ref mfr, .ref mta, .int 0])), (mod, .inl (cI, 61, .inl (upd (fun _ => 0) 0 0))), (mic, .inl (cZ, 60, .inl (fun _ => 0)))] := hD
  refine lv_aload_n hx hb dX9_insert_94 rfl (lv_at hl 0 rfl) ?_
  refine zc_v (wc := [(mm, .inr (12, [.int 0, .ref mlv, .ref msr, .ref mrs, .ref mpa, .ref mnu, .ref mlt, .ref mpl, .ref mod, .ref mic, .ref mgo, .ref msk, .ref mfo, .int 1, .int 1, .ref mul, .ref mup, .ref mun, .int 0, .ref mfr, .ref mta, .int 0])), (mlv, .inl (cI, 60, .inl (upd (fun _ => 0) 0 0))), (mod, .inl (cI, 61, .inl (upd (fun _ => 0) 0 0))), (mpl, .inl (cI, 60, .inl (fun _ => 0))), (mpa, .inl (cI, 60, .inl (fun _ => 0)))]) (wr := [(mic, .inl (cZ, 60, .inl (fun _ => 0)))]) (va_runV (As := []) (rest := []) ⟨hx, hb, hml, hown, hts⟩ (k_settles1P l D cI cZ mm mlv msr mrs mpa mnu mlt mpl mod mic mgo msk mfo mul mup mun mfr mta 0 1 H.size) (cwV 0 hts gX9_insert_X9_settles rfl rfl rfl (by decide +kernel) ⟨Nat.le_of_ble_eq_true rfl, Nat.le_of_ble_eq_true rfl⟩) (zPV hK hP hD [3, 0, 4, 1, 2] rfl rfl [0, 1] rfl 0 rfl rfl rfl) rfl rfl hl.1 rfl (lv_room (Nat.le_of_ble_eq_true rfl)) dX9_insert_95 ⟨Nat.le_of_ble_eq_true rfl, Nat.le_of_ble_eq_true rfl⟩) hP hD hS hA [3, 0, 4, 1, 2] [5] rfl rfl rfl (by decide) (fun  _ H locs hw hP hD hS => ?_)
  have hP : va_P D vwCl [(mic, .inl (cZ, 60, .inl (fun _ => 0))), (mm, .inr (12, [.int 0, .ref mlv, .ref msr, .ref mrs, .ref mpa, .ref mnu, .ref mlt, .ref mpl, .ref mod, .ref mic, .ref mgo, .ref msk, .ref mfo, .int 1, .int 1, .ref mul, .ref mup, .ref mun, .int 0, .ref mfr, .ref mta, .int 0]))] H := hP
  have hD : va_D A [(mic, .inl (cZ, 60, .inl (fun _ => 0))), (mm, .inr (12, [.int 0, .ref mlv, .ref msr, .ref mrs, .ref mpa, .ref mnu, .ref mlt, .ref mpl, .ref mod, .ref mic, .ref mgo, .ref msk, .ref mfo, .int 1, .int 1, .ref mul, .ref mup, .ref mun, .int 0, .ref mfr, .ref mta, .int 0]))] := hD
  refine lv_aload_n hx hb dX9_insert_98 rfl (lv_at hl 0 rfl) ?_
  refine va_get (D := D) (ci := 12) (v := .int 1) (C := RX9) (T := TX9) (N := 22) hx hb hts (fun _ h => List.mem_cons_of_mem _ (List.mem_append_left _ (List.mem_append_right _ h))) hown hK hP 1 rfl rfl 13 (by decide) (hts (.fieldLink RX9 69 "NumberingTreeModel" "names" "I") (List.mem_of_getElem? (i := 3) rfl)) (fun _ h9 => h9) rfl dX9_insert_99 ?_
  refine lv_iconst (v := 1) hx hb dX9_insert_102 (by decide) ?_
  refine lv_isub hx hb dX9_insert_103 ?_
  refine zt_i 0 (by decide) ?_
  obtain ⟨hP9, hD9⟩ := z_get hP hD [1] (wc := [(mm, .inr (12, [.int 0, .ref mlv, .ref msr, .ref mrs, .ref mpa, .ref mnu, .ref mlt, .ref mpl, .ref mod, .ref mic, .ref mgo, .ref msk, .ref mfo, .int 1, .int 1, .ref mul, .ref mup, .ref mun, .int 0, .ref mfr, .ref mta, .int 0]))]) rfl rfl
  exact W.iret (v := 0) hx hb hr (fun t ht hW => ⟨⟨0, (), rfl, rfl, by rw [ht]; exact hP9, hD9⟩, hS.F ht⟩) hS.2.2 dX9_insert_104

set_option maxHeartbeats 4000000 in
set_option maxRecDepth 100000 in
theorem m_insertN (l : Launch) (D : va_G) (cI cQ cZ : ClassId) (mm mlv msr mrs mpa mnu mlt mpl mod mic mgo msk mfo mul mup mun mfr mta yy : Nat) (t q : Int32) (g : Nat → Option Nat) (sz : Nat) (hp : zLv q) (hg : g q.toNatClampNeg = some yy) : Met l yX9_insert wsX9_insert ({ frames := 3, cells := 0, slots := 0, locals := 70 }) (va_Pc [.ref mm, .int 0, .int q] (zPre D [(cI, .int), (cZ, .boolean), (cQ, .array .boolean)] [(mm, .inr (12, [.int t, .ref mlv, .ref msr, .ref mrs, .ref mpa, .ref mnu, .ref mlt, .ref mpl, .ref mod, .ref mic, .ref mgo, .ref msk, .ref mfo, .int 0, .int 0, .ref mul, .ref mup, .ref mun, .int 0, .ref mfr, .ref mta, .int 0])), (mlv, .inl (cI, 60, .inl (fun _ => 0))), (mod, .inl (cI, 61, .inl (fun _ => 0))), (mpl, .inl (cI, 60, .inl (fun _ => 0))), (mpa, .inl (cI, 60, .inl (fun _ => 0))), (mic, .inl (cZ, 60, .inl (fun _ => 0))), (msr, .inl (cI, 60, .inl (fun _ => 0))), (mnu, .inl (cI, 60, .inl (fun _ => 0))), (mlt, .inl (cI, 60, .inl (fun _ => 0))), (msk, .inl (cQ, 5, .inr (.inr (.inr (.inr g))))), (yy, .inl (cZ, 100, .inl (fun _ => 0)))] sz)) (va_Qi (fun rv (_ : Unit) => rv = 0) (fun (_ : Unit) => zB D [(mm, .inr (12, [.int 0, .ref mlv, .ref msr, .ref mrs, .ref mpa, .ref mnu, .ref mlt, .ref mpl, .ref mod, .ref mic, .ref mgo, .ref msk, .ref mfo, .int 1, .int 1, .ref mul, .ref mup, .ref mun, .int 0, .ref mfr, .ref mta, .int 0]))] (va_A [(mm, .inr (12, [.int t, .ref mlv, .ref msr, .ref mrs, .ref mpa, .ref mnu, .ref mlt, .ref mpl, .ref mod, .ref mic, .ref mgo, .ref msk, .ref mfo, .int 0, .int 0, .ref mul, .ref mup, .ref mun, .int 0, .ref mfr, .ref mta, .int 0])), (mlv, .inl (cI, 60, .inl (fun _ => 0))), (mod, .inl (cI, 61, .inl (fun _ => 0))), (mpl, .inl (cI, 60, .inl (fun _ => 0))), (mpa, .inl (cI, 60, .inl (fun _ => 0))), (mic, .inl (cZ, 60, .inl (fun _ => 0))), (msr, .inl (cI, 60, .inl (fun _ => 0))), (mnu, .inl (cI, 60, .inl (fun _ => 0))), (mlt, .inl (cI, 60, .inl (fun _ => 0))), (msk, .inl (cQ, 5, .inr (.inr (.inr (.inr g))))), (yy, .inl (cZ, 100, .inl (fun _ => 0)))] sz)) (va_A [(mm, .inr (12, [.int t, .ref mlv, .ref msr, .ref mrs, .ref mpa, .ref mnu, .ref mlt, .ref mpl, .ref mod, .ref mic, .ref mgo, .ref msk, .ref mfo, .int 0, .int 0, .ref mul, .ref mup, .ref mun, .int 0, .ref mfr, .ref mta, .int 0])), (mlv, .inl (cI, 60, .inl (fun _ => 0))), (mod, .inl (cI, 61, .inl (fun _ => 0))), (mpl, .inl (cI, 60, .inl (fun _ => 0))), (mpa, .inl (cI, 60, .inl (fun _ => 0))), (mic, .inl (cZ, 60, .inl (fun _ => 0))), (msr, .inl (cI, 60, .inl (fun _ => 0))), (mnu, .inl (cI, 60, .inl (fun _ => 0))), (mlt, .inl (cI, 60, .inl (fun _ => 0))), (msk, .inl (cQ, 5, .inr (.inr (.inr (.inr g))))), (yy, .inl (cZ, 100, .inl (fun _ => 0)))] sz)) 0 0 (va_A [(mm, .inr (12, [.int t, .ref mlv, .ref msr, .ref mrs, .ref mpa, .ref mnu, .ref mlt, .ref mpl, .ref mod, .ref mic, .ref mgo, .ref msk, .ref mfo, .int 0, .int 0, .ref mul, .ref mup, .ref mun, .int 0, .ref mfr, .ref mta, .int 0])), (mlv, .inl (cI, 60, .inl (fun _ => 0))), (mod, .inl (cI, 61, .inl (fun _ => 0))), (mpl, .inl (cI, 60, .inl (fun _ => 0))), (mpa, .inl (cI, 60, .inl (fun _ => 0))), (mic, .inl (cZ, 60, .inl (fun _ => 0))), (msr, .inl (cI, 60, .inl (fun _ => 0))), (mnu, .inl (cI, 60, .inl (fun _ => 0))), (mlt, .inl (cI, 60, .inl (fun _ => 0))), (msk, .inl (cQ, 5, .inr (.inr (.inr (.inr g))))), (yy, .inl (cZ, 100, .inl (fun _ => 0)))] sz) := by
  refine Met.ofW (cc := cX9_insert) (maxL := 3) (ret := (some .int)) (by decide) rfl ?_
  intro P0 E0 s m args below meth C9 s₁ B hml hv
  obtain ⟨rfl, hsz, hP, hK, hD0⟩ := hv
  have hx := B.exec
  have hb := B.bytes
  have hr := B.returns
  have hts := atoms_spec (ws := wsX9_insert) B.pre
  have hown : s.vm.findClass RX9 = some m.cls := findClass_of_methodNamed B.named
  have hlocks := B.notSynchronized
  subst hsz
  have hD := hD0.self (sz := s.heap.size)
  generalize hAe : va_A [(mm, .inr (12, [.int t, .ref mlv, .ref msr, .ref mrs, .ref mpa, .ref mnu, .ref mlt, .ref mpl, .ref mod, .ref mic, .ref mgo, .ref msk, .ref mfo, .int 0, .int 0, .ref mul, .ref mup, .ref mun, .int 0, .ref mfr, .ref mta, .int 0])), (mlv, .inl (cI, 60, .inl (fun _ => 0))), (mod, .inl (cI, 61, .inl (fun _ => 0))), (mpl, .inl (cI, 60, .inl (fun _ => 0))), (mpa, .inl (cI, 60, .inl (fun _ => 0))), (mic, .inl (cZ, 60, .inl (fun _ => 0))), (msr, .inl (cI, 60, .inl (fun _ => 0))), (mnu, .inl (cI, 60, .inl (fun _ => 0))), (mlt, .inl (cI, 60, .inl (fun _ => 0))), (msk, .inl (cQ, 5, .inr (.inr (.inr (.inr g))))), (yy, .inl (cZ, 100, .inl (fun _ => 0)))] s.heap.size = A at hD ⊢
  have hA : ∀ q : Nat, s.heap.size ≤ q → A q := fun q h => by rw [← hAe]; exact Or.inr h
  have hS : va_S A s.heap s.heap [] := va_S.rf
  have hl := lv_entry ([.ref mm, .int 0, .int q]) (n := 3) (Nat.le_of_ble_eq_true rfl)
  rw [lg_entry_eq]
  generalize (lg_sl ([.ref mm, .int 0, .int q]) ++ List.replicate (3 - (lg_sl ([.ref mm, .int 0, .int q])).length) Slot.unset).toArray = ls at hl ⊢
  have hl : lv_has ls 3 [(0, .ref mm), (1, .int 0), (2, .int q)] := hl
  refine lv_aload_n hx hb dX9_insert_0 rfl (lv_at hl 0 rfl) ?_
  refine lv_iconst (v := 0) hx hb dX9_insert_1 (by decide) ?_
  refine va_put (D := D) (ci := 12) (v := .int 0) (ty := .int) (C := RX9) (T := TX9) (N := 22) hx hb hts (fun _ h => List.mem_cons_of_mem _ (List.mem_append_left _ (List.mem_append_right _ h))) tyX9 tyX9_ok nmX9 hown hK hP hD hS 0 rfl rfl 0 (by decide) (hts (.fieldLink RX9 65 "NumberingTreeModel" "thrown" "I") (List.mem_of_getElem? (i := 1) rfl)) (fun _ h9 => h9) rfl (by decide +kernel) rfl rfl (Nat.le_of_ble_eq_true rfl) dX9_insert_2 (fun H locs hP hD hS => ?_)
  have hP : va_P D vwCl [(mm, .inr (12, [.int 0, .ref mlv, .ref msr, .ref mrs, .ref mpa, .ref mnu, .ref mlt, .ref mpl, .ref mod, .ref mic, .ref mgo, .ref msk, .ref mfo, .int 0, .int 0, .ref mul, .ref mup, .ref mun, .int 0, .ref mfr, .ref mta, .int 0])), (mlv, .inl (cI, 60, .inl (fun _ => 0))), (mod, .inl (cI, 61, .inl (fun _ => 0))), (mpl, .inl (cI, 60, .inl (fun _ => 0))), (mpa, .inl (cI, 60, .inl (fun _ => 0))), (mic, .inl (cZ, 60, .inl (fun _ => 0))), (msr, .inl (cI, 60, .inl (fun _ => 0))), (mnu, .inl (cI, 60, .inl (fun _ => 0))), (mlt, .inl (cI, 60, .inl (fun _ => 0))), (msk, .inl (cQ, 5, .inr (.inr (.inr (.inr g))))), (yy, .inl (cZ, 100, .inl (fun _ => 0)))] H := hP
  have hD : va_D A [(mm, .inr (12, [.int 0, .ref mlv, .ref msr, .ref mrs, .ref mpa, .ref mnu, .ref mlt, .ref mpl, .ref mod, .ref mic, .ref mgo, .ref msk, .ref mfo, .int 0, .int 0, .ref mul, .ref mup, .ref mun, .int 0, .ref mfr, .ref mta, .int 0])), (mlv, .inl (cI, 60, .inl (fun _ => 0))), (mod, .inl (cI, 61, .inl (fun _ => 0))), (mpl, .inl (cI, 60, .inl (fun _ => 0))), (mpa, .inl (cI, 60, .inl (fun _ => 0))), (mic, .inl (cZ, 60, .inl (fun _ => 0))), (msr, .inl (cI, 60, .inl (fun _ => 0))), (mnu, .inl (cI, 60, .inl (fun _ => 0))), (mlt, .inl (cI, 60, .inl (fun _ => 0))), (msk, .inl (cQ, 5, .inr (.inr (.inr (.inr g))))), (yy, .inl (cZ, 100, .inl (fun _ => 0)))] := hD
  refine lv_iload_n hx hb dX9_insert_5 rfl (lv_at hl 1 rfl) ?_
  refine lv_iconst (v := 0) hx hb dX9_insert_6 (by decide) ?_
  refine lv_aload_n hx hb dX9_insert_7 rfl (lv_at hl 0 rfl) ?_
  refine va_get (D := D) (ci := 12) (v := .int 0) (C := RX9) (T := TX9) (N := 22) hx hb hts (fun _ h => List.mem_cons_of_mem _ (List.mem_append_left _ (List.mem_append_right _ h))) hown hK hP 0 rfl rfl 14 (by decide) (hts (.fieldLink RX9 91 "NumberingTreeModel" "size" "I") (List.mem_of_getElem? (i := 2) rfl)) (fun _ h9 => h9) rfl dX9_insert_8 ?_
  refine zc_i (wc := []) (wr := [(mm, .inr (12, [.int 0, .ref mlv, .ref msr, .ref mrs, .ref mpa, .ref mnu, .ref mlt, .ref mpl, .ref mod, .ref mic, .ref mgo, .ref msk, .ref mfo, .int 0, .int 0, .ref mul, .ref mup, .ref mun, .int 0, .ref mfr, .ref mta, .int 0])), (mlv, .inl (cI, 60, .inl (fun _ => 0))), (mod, .inl (cI, 61, .inl (fun _ => 0))), (mpl, .inl (cI, 60, .inl (fun _ => 0))), (mpa, .inl (cI, 60, .inl (fun _ => 0))), (mic, .inl (cZ, 60, .inl (fun _ => 0))), (msr, .inl (cI, 60, .inl (fun _ => 0))), (mnu, .inl (cI, 60, .inl (fun _ => 0))), (mlt, .inl (cI, 60, .inl (fun _ => 0))), (msk, .inl (cQ, 5, .inr (.inr (.inr (.inr g))))), (yy, .inl (cZ, 100, .inl (fun _ => 0)))]) (va_runS (As := [.int 0, .int 0, .int 0]) (rest := []) ⟨hx, hb, hml, hown, hts⟩ (k_isBetweenT l D cI 0 0 0 H.size (by decide) (by decide)) (va_cwS 3 hts gX9_insert_X9_isBetween rfl rfl rfl (by decide +kernel) ⟨Nat.le_of_ble_eq_true rfl, Nat.le_of_ble_eq_true rfl⟩) (zPS hK hP hD [] rfl rfl [0] rfl) rfl rfl hl.1 rfl (lv_room (Nat.le_of_ble_eq_true rfl)) dX9_insert_11 ⟨Nat.le_of_ble_eq_true rfl, Nat.le_of_ble_eq_true rfl⟩) hP hD hS hA [] [0, 1, 2, 3, 4, 5, 6, 7, 8, 9, 10] rfl rfl rfl (by decide) (fun r _ H locs hw hP hD hS => ?_)
  have hP : va_P D vwCl [(mm, .inr (12, [.int 0, .ref mlv, .ref msr, .ref mrs, .ref mpa, .ref mnu, .ref mlt, .ref mpl, .ref mod, .ref mic, .ref mgo, .ref msk, .ref mfo, .int 0, .int 0, .ref mul, .ref mup, .ref mun, .int 0, .ref mfr, .ref mta, .int 0])), (mlv, .inl (cI, 60, .inl (fun _ => 0))), (mod, .inl (cI, 61, .inl (fun _ => 0))), (mpl, .inl (cI, 60, .inl (fun _ => 0))), (mpa, .inl (cI, 60, .inl (fun _ => 0))), (mic, .inl (cZ, 60, .inl (fun _ => 0))), (msr, .inl (cI, 60, .inl (fun _ => 0))), (mnu, .inl (cI, 60, .inl (fun _ => 0))), (mlt, .inl (cI, 60, .inl (fun _ => 0))), (msk, .inl (cQ, 5, .inr (.inr (.inr (.inr g))))), (yy, .inl (cZ, 100, .inl (fun _ => 0)))] H := hP
  have hD : va_D A [(mm, .inr (12, [.int 0, .ref mlv, .ref msr, .ref mrs, .ref mpa, .ref mnu, .ref mlt, .ref mpl, .ref mod, .ref mic, .ref mgo, .ref msk, .ref mfo, .int 0, .int 0, .ref mul, .ref mup, .ref mun, .int 0, .ref mfr, .ref mta, .int 0])), (mlv, .inl (cI, 60, .inl (fun _ => 0))), (mod, .inl (cI, 61, .inl (fun _ => 0))), (mpl, .inl (cI, 60, .inl (fun _ => 0))), (mpa, .inl (cI, 60, .inl (fun _ => 0))), (mic, .inl (cZ, 60, .inl (fun _ => 0))), (msr, .inl (cI, 60, .inl (fun _ => 0))), (mnu, .inl (cI, 60, .inl (fun _ => 0))), (mlt, .inl (cI, 60, .inl (fun _ => 0))), (msk, .inl (cQ, 5, .inr (.inr (.inr (.inr g))))), (yy, .inl (cZ, 100, .inl (fun _ => 0)))] := hD
  subst hw
  refine lv_if_eq (tgt := 26) hx hb dX9_insert_14 (by decide) (fun q => absurd q (by decide)) (fun _ => ?_)
  refine lv_iload_n hx hb dX9_insert_17 rfl (lv_at hl 2 rfl) ?_
  refine lv_iconst (v := 0) hx hb dX9_insert_18 (by decide) ?_
  refine lv_iconst (v := 4) hx hb dX9_insert_19 (by decide) ?_
  refine zc_i (wc := []) (wr := [(mm, .inr (12, [.int 0, .ref mlv, .ref msr, .ref mrs, .ref mpa, .ref mnu, .ref mlt, .ref mpl, .ref mod, .ref mic, .ref mgo, .ref msk, .ref mfo, .int 0, .int 0, .ref mul, .ref mup, .ref mun, .int 0, .ref mfr, .ref mta, .int 0])), (mlv, .inl (cI, 60, .inl (fun _ => 0))), (mod, .inl (cI, 61, .inl (fun _ => 0))), (mpl, .inl (cI, 60, .inl (fun _ => 0))), (mpa, .inl (cI, 60, .inl (fun _ => 0))), (mic, .inl (cZ, 60, .inl (fun _ => 0))), (msr, .inl (cI, 60, .inl (fun _ => 0))), (mnu, .inl (cI, 60, .inl (fun _ => 0))), (mlt, .inl (cI, 60, .inl (fun _ => 0))), (msk, .inl (cQ, 5, .inr (.inr (.inr (.inr g))))), (yy, .inl (cZ, 100, .inl (fun _ => 0)))]) (va_runS (As := [.int q, .int 0, .int 4]) (rest := []) ⟨hx, hb, hml, hown, hts⟩ (k_isBetweenT l D cI q 0 4 H.size (zLv_b0 hp).1 (zLv_b0 hp).2) (va_cwS 3 hts gX9_insert_X9_isBetween rfl rfl rfl (by decide +kernel) ⟨Nat.le_of_ble_eq_true rfl, Nat.le_of_ble_eq_true rfl⟩) (zPS hK hP hD [] rfl rfl [0] rfl) rfl rfl hl.1 rfl (lv_room (Nat.le_of_ble_eq_true rfl)) dX9_insert_20 ⟨Nat.le_of_ble_eq_true rfl, Nat.le_of_ble_eq_true rfl⟩) hP hD hS hA [] [0, 1, 2, 3, 4, 5, 6, 7, 8, 9, 10] rfl rfl rfl (by decide) (fun r _ H locs hw hP hD hS => ?_)
  have hP : va_P D vwCl [(mm, .inr (12, [.int 0, .ref mlv, .ref msr, .ref mrs, .ref mpa, .ref mnu, .ref mlt, .ref mpl, .ref mod, .ref mic, .ref mgo, .ref msk, .ref mfo, .int 0, .int 0, .ref mul, .ref mup, .ref mun, .int 0, .ref mfr, .ref mta, .int 0])), (mlv, .inl (cI, 60, .inl (fun _ => 0))), (mod, .inl (cI, 61, .inl (fun _ => 0))), (mpl, .inl (cI, 60, .inl (fun _ => 0))), (mpa, .inl (cI, 60, .inl (fun _ => 0))), (mic, .inl (cZ, 60, .inl (fun _ => 0))), (msr, .inl (cI, 60, .inl (fun _ => 0))), (mnu, .inl (cI, 60, .inl (fun _ => 0))), (mlt, .inl (cI, 60, .inl (fun _ => 0))), (msk, .inl (cQ, 5, .inr (.inr (.inr (.inr g))))), (yy, .inl (cZ, 100, .inl (fun _ => 0)))] H := hP
  have hD : va_D A [(mm, .inr (12, [.int 0, .ref mlv, .ref msr, .ref mrs, .ref mpa, .ref mnu, .ref mlt, .ref mpl, .ref mod, .ref mic, .ref mgo, .ref msk, .ref mfo, .int 0, .int 0, .ref mul, .ref mup, .ref mun, .int 0, .ref mfr, .ref mta, .int 0])), (mlv, .inl (cI, 60, .inl (fun _ => 0))), (mod, .inl (cI, 61, .inl (fun _ => 0))), (mpl, .inl (cI, 60, .inl (fun _ => 0))), (mpa, .inl (cI, 60, .inl (fun _ => 0))), (mic, .inl (cZ, 60, .inl (fun _ => 0))), (msr, .inl (cI, 60, .inl (fun _ => 0))), (mnu, .inl (cI, 60, .inl (fun _ => 0))), (mlt, .inl (cI, 60, .inl (fun _ => 0))), (msk, .inl (cQ, 5, .inr (.inr (.inr (.inr g))))), (yy, .inl (cZ, 100, .inl (fun _ => 0)))] := hD
  subst hw
  refine lv_if_ne (tgt := 32) hx hb dX9_insert_23 (by decide) (fun _ => ?_) (fun q => absurd q (by decide))
  refine lv_aload_n hx hb dX9_insert_32 rfl (lv_at hl 0 rfl) ?_
  refine va_get (D := D) (ci := 12) (v := .int 0) (C := RX9) (T := TX9) (N := 22) hx hb hts (fun _ h => List.mem_cons_of_mem _ (List.mem_append_left _ (List.mem_append_right _ h))) hown hK hP 0 rfl rfl 13 (by decide) (hts (.fieldLink RX9 69 "NumberingTreeModel" "names" "I") (List.mem_of_getElem? (i := 3) rfl)) (fun _ h9 => h9) rfl dX9_insert_33 ?_
  refine lv_bipush (v := 60) hx hb dX9_insert_36 (by decide) ?_
  refine lv_icmp_ne (tgt := 47) hx hb dX9_insert_38 (by decide) (fun _ => ?_) (fun q => absurd q (by decide))
  refine lv_aload_n hx hb dX9_insert_47 rfl (lv_at hl 0 rfl) ?_
  refine va_get (D := D) (ci := 12) (v := .ref mlv) (C := RX9) (T := TX9) (N := 22) hx hb hts (fun _ h => List.mem_cons_of_mem _ (List.mem_append_left _ (List.mem_append_right _ h))) hown hK hP 0 rfl rfl 1 (by decide) (hts (.fieldLink RX9 9 "NumberingTreeModel" "levels" "[I") (List.mem_of_getElem? (i := 4) rfl)) (fun _ h9 => h9) rfl dX9_insert_48 ?_
  refine lv_aload_n hx hb dX9_insert_51 rfl (lv_at hl 0 rfl) ?_
  refine va_get (D := D) (ci := 12) (v := .int 0) (C := RX9) (T := TX9) (N := 22) hx hb hts (fun _ h => List.mem_cons_of_mem _ (List.mem_append_left _ (List.mem_append_right _ h))) hown hK hP 0 rfl rfl 13 (by decide) (hts (.fieldLink RX9 69 "NumberingTreeModel" "names" "I") (List.mem_of_getElem? (i := 3) rfl)) (fun _ h9 => h9) rfl dX9_insert_52 ?_
  refine lv_iload_n hx hb dX9_insert_55 rfl (lv_at hl 2 rfl) ?_
  refine va_iast hx hb hK hP hD hS 1 0 rfl rfl (vp_in_nI (n := 0) (by decide) (by decide)) dX9_insert_56 (fun H locs hP hD hS => ?_)
  have hP : va_P D vwCl [(mm, .inr (12, [.int 0, .ref mlv, .ref msr, .ref mrs, .ref mpa, .ref mnu, .ref mlt, .ref mpl, .ref mod, .ref mic, .ref mgo, .ref msk, .ref mfo, .int 0, .int 0, .ref mul, .ref mup, .ref mun, .int 0, .ref mfr, .ref mta, .int 0])), (mlv, .inl (cI, 60, .inl (upd (fun _ => 0) 0 q))), (mod, .inl (cI, 61, .inl (fun _ => 0))), (mpl, .inl (cI, 60, .inl (fun _ => 0))), (mpa, .inl (cI, 60, .inl (fun _ => 0))), (mic, .inl (cZ, 60, .inl (fun _ => 0))), (msr, .inl (cI, 60, .inl (fun _ => 0))), (mnu, .inl (cI, 60, .inl (fun _ => 0))), (mlt, .inl (cI, 60, .inl (fun _ => 0))), (msk, .inl (cQ, 5, .inr (.inr (.inr (.inr g))))), (yy, .inl (cZ, 100, .inl (fun _ => 0)))] H := hP
  have hD : va_D A [(mm, .inr (12, [.int 0, .ref mlv, .ref msr, .ref mrs, .ref mpa, .ref mnu, .ref mlt, .ref mpl, .ref mod, .ref mic, .ref mgo, .ref msk, .ref mfo, .int 0, .int 0, .ref mul, .ref mup, .ref mun, .int 0, .ref mfr, .ref mta, .int 0])), (mlv, .inl (cI, 60, .inl (upd (fun _ => 0) 0 q))), (mod, .inl (cI, 61, .inl (fun _ => 0))), (mpl, .inl (cI, 60, .inl (fun _ => 0))), (mpa, .inl (cI, 60, .inl (fun _ => 0))), (mic, .inl (cZ, 60, .inl (fun _ => 0))), (msr, .inl (cI, 60, .inl (fun _ => 0))), (mnu, .inl (cI, 60, .inl (fun _ => 0))), (mlt, .inl (cI, 60, .inl (fun _ => 0))), (msk, .inl (cQ, 5, .inr (.inr (.inr (.inr g))))), (yy, .inl (cZ, 100, .inl (fun _ => 0)))] := hD
  refine lv_aload_n hx hb dX9_insert_57 rfl (lv_at hl 0 rfl) ?_
  refine lv_aload_n hx hb dX9_insert_58 rfl (lv_at hl 0 rfl) ?_
  refine va_get (D := D) (ci := 12) (v := .int 0) (C := RX9) (T := TX9) (N := 22) hx hb hts (fun _ h => List.mem_cons_of_mem _ (List.mem_append_left _ (List.mem_append_right _ h))) hown hK hP 0 rfl rfl 13 (by decide) (hts (.fieldLink RX9 69 "NumberingTreeModel" "names" "I") (List.mem_of_getElem? (i := 3) rfl)) (fun _ h9 => h9) rfl dX9_insert_59 ?_
  refine lv_iload_n hx hb dX9_insert_62 rfl (lv_at hl 1 rfl) ?_
  refine zc_v (wc := [(mm, .inr (12, [.int 0, .ref mlv, .ref msr, .ref mrs, .ref mpa, .ref mnu, .ref mlt, .ref mpl, .ref mod, .ref mic, .ref mgo, .ref msk, .ref mfo, .int 0, .int 0, .ref mul, .ref mup, .ref mun, .int 0, .ref mfr, .ref mta, .int 0])), (mod, .inl (cI, 61, .inl (fun _ => 0)))]) (wr := [(mlv, .inl (cI, 60, .inl (upd (fun _ => 0) 0 q))), (mpl, .inl (cI, 60, .inl (fun _ => 0))), (mpa, .inl (cI, 60, .inl (fun _ => 0))), (mic, .inl (cZ, 60, .inl (fun _ => 0))), (msr, .inl (cI, 60, .inl (fun _ => 0))), (mnu, .inl (cI, 60, .inl (fun _ => 0))), (mlt, .inl (cI, 60, .inl (fun _ => 0))), (msk, .inl (cQ, 5, .inr (.inr (.inr (.inr g))))), (yy, .inl (cZ, 100, .inl (fun _ => 0)))]) (va_runV (As := [.int 0, .int 0]) (rest := []) ⟨hx, hb, hml, hown, hts⟩ (k_putsIn0 l D cI mm mlv msr mrs mpa mnu mlt mpl mod mic mgo msk mfo mul mup mun mfr mta 0 H.size) (cwV 2 hts gX9_insert_X9_putsIn rfl rfl rfl (by decide +kernel) ⟨Nat.le_of_ble_eq_true rfl, Nat.le_of_ble_eq_true rfl⟩) (zPV hK hP hD [0, 2] rfl rfl [0] rfl 0 rfl rfl rfl) rfl rfl hl.1 rfl (lv_room (Nat.le_of_ble_eq_true rfl)) dX9_insert_63 ⟨Nat.le_of_ble_eq_true rfl, Nat.le_of_ble_eq_true rfl⟩) hP hD hS hA [0, 2] [1, 3, 4, 5, 6, 7, 8, 9, 10] rfl rfl rfl (by decide) (fun  _ H locs hw hP hD hS => ?_)
  have hP : va_P D vwCl [(mlv, .inl (cI, 60, .inl (upd (fun _ => 0) 0 q))), (mpl, .inl (cI, 60, .inl (fun _ => 0))), (mpa, .inl (cI, 60, .inl (fun _ => 0))), (mic, .inl (cZ, 60, .inl (fun _ => 0))), (msr, .inl (cI, 60, .inl (fun _ => 0))), (mnu, .inl (cI, 60, .inl (fun _ => 0))), (mlt, .inl (cI, 60, .inl (fun _ => 0))), (msk, .inl (cQ, 5, .inr (.inr (.inr (.inr g))))), (yy, .inl (cZ, 100, .inl (fun _ => 0))), (mm, .inr (12, [.int 0, .ref mlv, .ref msr, .ref mrs, .ref mpa, .ref mnu, .ref mlt, .ref mpl, .ref mod, .ref mic, .ref mgo, .ref msk, .ref mfo, .int 0, .int 1, .ref mul, .ref mup, .ref mun, .int 0, .ref mfr, .ref mta, .int 0])), (mod, .inl (cI, 61, .inl (upd (fun _ => 0) 0 0)))] H := hP
  have hD : va_D A [(mlv, .inl (cI, 60, .inl (upd (fun _ => 0) 0 q))), (mpl, .inl (cI, 60, .inl (fun _ => 0))), (mpa, .inl (cI, 60, .inl (fun _ => 0))), (mic, .inl (cZ, 60, .inl (fun _ => 0))), (msr, .inl (cI, 60, .inl (fun _ => 0))), (mnu, .inl (cI, 60, .inl (fun _ => 0))), (mlt, .inl (cI, 60, .inl (fun _ => 0))), (msk, .inl (cQ, 5, .inr (.inr (.inr (.inr g))))), (yy, .inl (cZ, 100, .inl (fun _ => 0))), (mm, .inr (12, [.int 0, .ref mlv, .ref msr, .ref mrs, .ref mpa, .ref mnu, .ref mlt, .ref mpl, .ref mod, .ref mic, .ref mgo, .ref msk, .ref mfo, .int 0, .int 1, .ref mul, .ref mup, .ref mun, .int 0, .ref mfr, .ref mta, .int 0])), (mod, .inl (cI, 61, .inl (upd (fun _ => 0) 0 0)))] := hD
  refine lv_aload_n hx hb dX9_insert_66 rfl (lv_at hl 0 rfl) ?_
  refine zc_i (wc := [(mm, .inr (12, [.int 0, .ref mlv, .ref msr, .ref mrs, .ref mpa, .ref mnu, .ref mlt, .ref mpl, .ref mod, .ref mic, .ref mgo, .ref msk, .ref mfo, .int 0, .int 1, .ref mul, .ref mup, .ref mun, .int 0, .ref mfr, .ref mta, .int 0])), (mod, .inl (cI, 61, .inl (upd (fun _ => 0) 0 0))), (mic, .inl (cZ, 60, .inl (fun _ => 0)))]) (wr := [(mlv, .inl (cI, 60, .inl (upd (fun _ => 0) 0 q))), (mpl, .inl (cI, 60, .inl (fun _ => 0))), (mpa, .inl (cI, 60, .inl (fun _ => 0))), (msr, .inl (cI, 60, .inl (fun _ => 0))), (mnu, .inl (cI, 60, .inl (fun _ => 0))), (mlt, .inl (cI, 60, .inl (fun _ => 0))), (msk, .inl (cQ, 5, .inr (.inr (.inr (.inr g))))), (yy, .inl (cZ, 100, .inl (fun _ => 0)))]) (va_runV (As := []) (rest := []) ⟨hx, hb, hml, hown, hts⟩ (k_isParting1 l D cI cZ mm mlv msr mrs mpa mnu mlt mpl mod mic mgo msk mfo mul mup mun mfr mta 0 H.size) (cwV 0 hts gX9_insert_X9_isParting rfl rfl rfl (by decide +kernel) ⟨Nat.le_of_ble_eq_true rfl, Nat.le_of_ble_eq_true rfl⟩) (zPV hK hP hD [9, 10, 3] rfl rfl [0, 1] rfl 0 rfl rfl rfl) rfl rfl hl.1 rfl (lv_room (Nat.le_of_ble_eq_true rfl)) dX9_insert_67 ⟨Nat.le_of_ble_eq_true rfl, Nat.le_of_ble_eq_true rfl⟩) hP hD hS hA [9, 10, 3] [0, 1, 2, 4, 5, 6, 7, 8] rfl rfl rfl (by decide) (fun r _ H locs hw hP hD hS => ?_)
  have hP : va_P D vwCl [(mlv, .inl (cI, 60, .inl (upd (fun _ => 0) 0 q))), (mpl, .inl (cI, 60, .inl (fun _ => 0))), (mpa, .inl (cI, 60, .inl (fun _ => 0))), (msr, .inl (cI, 60, .inl (fun _ => 0))), (mnu, .inl (cI, 60, .inl (fun _ => 0))), (mlt, .inl (cI, 60, .inl (fun _ => 0))), (msk, .inl (cQ, 5, .inr (.inr (.inr (.inr g))))), (yy, .inl (cZ, 100, .inl (fun _ => 0))), (mm, .inr (12, [.int 0, .ref mlv, .ref msr, .ref mrs, .ref mpa, .ref mnu, .ref mlt, .ref mpl, .ref mod, .ref mic, .ref mgo, .ref msk, .ref mfo, .int 0, .int 1, .ref mul, .ref mup, .ref mun, .int 0, .ref mfr, .ref mta, .int 0])), (mod, .inl (cI, 61, .inl (upd (fun _ => 0) 0 0))), (mic, .inl (cZ, 60, .inl (fun _ => 0)))] H := hP
  have hD : va_D A [(mlv, .inl (cI, 60, .inl (upd (fun _ => 0) 0 q))), (mpl, .inl (cI, 60, .inl (fun _ => 0))), (mpa, .inl (cI, 60, .inl (fun _ => 0))), (msr, .inl (cI, 60, .inl (fun _ => 0))), (mnu, .inl (cI, 60, .inl (fun _ => 0))), (mlt, .inl (cI, 60, .inl (fun _ => 0))), (msk, .inl (cQ, 5, .inr (.inr (.inr (.inr g))))), (yy, .inl (cZ, 100, .inl (fun _ => 0))), (mm, .inr (12, [.int 0, .ref mlv, .ref msr, .ref mrs, .ref mpa, .ref mnu, .ref mlt, .ref mpl, .ref mod, .ref mic, .ref mgo, .ref msk, .ref mfo, .int 0, .int 1, .ref mul, .ref mup, .ref mun, .int 0, .ref mfr, .ref mta, .int 0])), (mod, .inl (cI, 61, .inl (upd (fun _ => 0) 0 0))), (mic, .inl (cZ, 60, .inl (fun _ => 0)))] := hD
  subst hw
  refine lv_if_eq (tgt := 84) hx hb dX9_insert_70 (by decide) (fun _ => ?_) (fun q => absurd q (by decide))
  refine lv_aload_n hx hb dX9_insert_84 rfl (lv_at hl 0 rfl) ?_
  refine lv_dup hx hb dX9_insert_85 rfl ?_
  refine va_get (D := D) (ci := 12) (v := .int 0) (C := RX9) (T := TX9) (N := 22) hx hb hts (fun _ h => List.mem_cons_of_mem _ (List.mem_append_left _ (List.mem_append_right _ h))) hown hK hP 8 rfl rfl 13 (by decide) (hts (.fieldLink RX9 69 "NumberingTreeModel" "names" "I") (List.mem_of_getElem? (i := 3) rfl)) (fun _ h9 => h9) rfl dX9_insert_86 ?_
  refine lv_iconst (v := 1) hx hb dX9_insert_89 (by decide) ?_
  refine lv_iadd hx hb dX9_insert_90 ?_
  refine zt_i 1 (by decide) ?_
  refine va_put (D := D) (ci := 12) (v := .int 1) (ty := .int) (C := RX9) (T := TX9) (N := 22) hx hb hts (fun _ h => List.mem_cons_of_mem _ (List.mem_append_left _ (List.mem_append_right _ h))) tyX9 tyX9_ok nmX9 hown hK hP hD hS 8 rfl rfl 13 (by decide) (hts (.fieldLink RX9 69 "NumberingTreeModel" "names" "I") (List.mem_of_getElem? (i := 3) rfl)) (fun _ h9 => h9) rfl (by decide +kernel) rfl rfl (Nat.le_of_ble_eq_true rfl) dX9_insert_91 (fun H locs hP hD hS => ?_)
  have hP : va_P D vwCl [(mlv, .inl (cI, 60, .inl (upd (fun _ => 0) 0 q))), (mpl, .inl (cI, 60, .inl (fun _ => 0))), (mpa, .inl (cI, 60, .inl (fun _ => 0))), (msr, .inl (cI, 60, .inl (fun _ => 0))), (mnu, .inl (cI, 60, .inl (fun _ => 0))), (mlt, .inl (cI, 60, .inl (fun _ => 0))), (msk, .inl (cQ, 5, .inr (.inr (.inr (.inr g))))), (yy, .inl (cZ, 100, .inl (fun _ => 0))), (mm, .inr (12, [.int 0, .ref mlv, .ref msr, .ref mrs, .ref mpa, .ref mnu, .ref mlt, .ref mpl, .ref mod, .ref mic, .ref mgo, .ref msk, .ref mfo, .int 1, .int 1, .ref mul, .ref mup, .ref mun, .int 0, .ref mfr, .ref mta, .int 0])), (mod, .inl (cI, 61, .inl (upd (fun _ => 0) 0 0))), (mic, .inl (cZ, 60, .inl (fun _ => 0)))] H := hP
  have hD : va_D A [(mlv, .inl (cI, 60, .inl (upd (fun _ => 0) 0 q))), (mpl, .inl (cI, 60, .inl (fun _ => 0))), (mpa, .inl (cI, 60, .inl (fun _ => 0))), (msr, .inl (cI, 60, .inl (fun _ => 0))), (mnu, .inl (cI, 60, .inl (fun _ => 0))), (mlt, .inl (cI, 60, .inl (fun _ => 0))), (msk, .inl (cQ, 5, .inr (.inr (.inr (.inr g))))), (yy, .inl (cZ, 100, .inl (fun _ => 0))), (mm, .inr (12, [.int 0, .ref mlv, .ref msr, .ref mrs, .ref mpa, .ref mnu, .ref mlt, .ref mpl, .ref mod, .ref mic, .ref mgo, .ref msk, .ref mfo, .int 1, .int 1, .ref mul, .ref mup, .ref mun, .int 0, .ref mfr, .ref mta, .int 0])), (mod, .inl (cI, 61, .inl (upd (fun _ => 0) 0 0))), (mic, .inl (cZ, 60, .inl (fun _ => 0)))] := hD
  refine lv_aload_n hx hb dX9_insert_94 rfl (lv_at hl 0 rfl) ?_
  refine zc_v (wc := [(mm, .inr (12, [.int 0, .ref mlv, .ref msr, .ref mrs, .ref mpa, .ref mnu, .ref mlt, .ref mpl, .ref mod, .ref mic, .ref mgo, .ref msk, .ref mfo, .int 1, .int 1, .ref mul, .ref mup, .ref mun, .int 0, .ref mfr, .ref mta, .int 0])), (mlv, .inl (cI, 60, .inl (upd (fun _ => 0) 0 q))), (mod, .inl (cI, 61, .inl (upd (fun _ => 0) 0 0))), (mpl, .inl (cI, 60, .inl (fun _ => 0))), (mpa, .inl (cI, 60, .inl (fun _ => 0))), (mic, .inl (cZ, 60, .inl (fun _ => 0))), (msr, .inl (cI, 60, .inl (fun _ => 0))), (mnu, .inl (cI, 60, .inl (fun _ => 0))), (mlt, .inl (cI, 60, .inl (fun _ => 0))), (msk, .inl (cQ, 5, .inr (.inr (.inr (.inr g))))), (yy, .inl (cZ, 100, .inl (fun _ => 0)))]) (wr := []) (va_runV (As := []) (rest := []) ⟨hx, hb, hml, hown, hts⟩ (k_settles1N l D cI cQ cZ mm mlv msr mrs mpa mnu mlt mpl mod mic mgo msk mfo mul mup mun mfr mta yy 0 1 q g H.size hp hg) (cwV 0 hts gX9_insert_X9_settles rfl rfl rfl (by decide +kernel) ⟨Nat.le_of_ble_eq_true rfl, Nat.le_of_ble_eq_true rfl⟩) (zPV hK hP hD [8, 0, 9, 1, 2, 10, 3, 4, 5, 6, 7] rfl rfl [0, 1, 2] rfl 0 rfl rfl rfl) rfl rfl hl.1 rfl (lv_room (Nat.le_of_ble_eq_true rfl)) dX9_insert_95 ⟨Nat.le_of_ble_eq_true rfl, Nat.le_of_ble_eq_true rfl⟩) hP hD hS hA [8, 0, 9, 1, 2, 10, 3, 4, 5, 6, 7] [] rfl rfl rfl (by decide) (fun  _ H locs hw hP hD hS => ?_)
  have hP : va_P D vwCl [(mm, .inr (12, [.int 0, .ref mlv, .ref msr, .ref mrs, .ref mpa, .ref mnu, .ref mlt, .ref mpl, .ref mod, .ref mic, .ref mgo, .ref msk, .ref mfo, .int 1, .int 1, .ref mul, .ref mup, .ref mun, .int 0, .ref mfr, .ref mta, .int 0]))] H := hP
  have hD : va_D A [(mm, .inr (12, [.int 0, .ref mlv, .ref msr, .ref mrs, .ref mpa, .ref mnu, .ref mlt, .ref mpl, .ref mod, .ref mic, .ref mgo, .ref msk, .ref mfo, .int 1, .int 1, .ref mul, .ref mup, .ref mun, .int 0, .ref mfr, .ref mta, .int 0]))] := hD
  refine lv_aload_n hx hb dX9_insert_98 rfl (lv_at hl 0 rfl) ?_
  refine va_get (D := D) (ci := 12) (v := .int 1) (C := RX9) (T := TX9) (N := 22) hx hb hts (fun _ h => List.mem_cons_of_mem _ (List.mem_append_left _ (List.mem_append_right _ h))) hown hK hP 0 rfl rfl 13 (by decide) (hts (.fieldLink RX9 69 "NumberingTreeModel" "names" "I") (List.mem_of_getElem? (i := 3) rfl)) (fun _ h9 => h9) rfl dX9_insert_99 ?_
  refine lv_iconst (v := 1) hx hb dX9_insert_102 (by decide) ?_
  refine lv_isub hx hb dX9_insert_103 ?_
  refine zt_i 0 (by decide) ?_
  obtain ⟨hP9, hD9⟩ := z_get hP hD [0] (wc := [(mm, .inr (12, [.int 0, .ref mlv, .ref msr, .ref mrs, .ref mpa, .ref mnu, .ref mlt, .ref mpl, .ref mod, .ref mic, .ref mgo, .ref msk, .ref mfo, .int 1, .int 1, .ref mul, .ref mup, .ref mun, .int 0, .ref mfr, .ref mta, .int 0]))]) rfl rfl
  exact W.iret (v := 0) hx hb hr (fun t ht hW => ⟨⟨0, (), rfl, rfl, by rw [ht]; exact hP9, hD9⟩, hS.F ht⟩) hS.2.2 dX9_insert_104

set_option maxHeartbeats 4000000 in
set_option maxRecDepth 100000 in
theorem m_insertF (l : Launch) (D : va_G) (cI : ClassId) (mm mlv msr mrs mpa mnu mlt mpl mod mic mgo msk mfo mul mup mun mfr mta : Nat) (t p q : Int32) (sz : Nat) (hp : ¬ zIn p q) : Met l yX9_insert wsX9_insert ({ frames := 1, cells := 0, slots := 0, locals := 22 }) (va_Pc [.ref mm, .int p, .int q] (zPre D [(cI, .int)] [(mm, .inr (12, [.int t, .ref mlv, .ref msr, .ref mrs, .ref mpa, .ref mnu, .ref mlt, .ref mpl, .ref mod, .ref mic, .ref mgo, .ref msk, .ref mfo, .int 0, .int 0, .ref mul, .ref mup, .ref mun, .int 0, .ref mfr, .ref mta, .int 0]))] sz)) (va_Qi (fun rv (_ : Unit) => rv = 0) (fun (_ : Unit) => zB D [(mm, .inr (12, [.int 1, .ref mlv, .ref msr, .ref mrs, .ref mpa, .ref mnu, .ref mlt, .ref mpl, .ref mod, .ref mic, .ref mgo, .ref msk, .ref mfo, .int 0, .int 0, .ref mul, .ref mup, .ref mun, .int 0, .ref mfr, .ref mta, .int 0]))] (va_A [(mm, .inr (12, [.int t, .ref mlv, .ref msr, .ref mrs, .ref mpa, .ref mnu, .ref mlt, .ref mpl, .ref mod, .ref mic, .ref mgo, .ref msk, .ref mfo, .int 0, .int 0, .ref mul, .ref mup, .ref mun, .int 0, .ref mfr, .ref mta, .int 0]))] sz)) (va_A [(mm, .inr (12, [.int t, .ref mlv, .ref msr, .ref mrs, .ref mpa, .ref mnu, .ref mlt, .ref mpl, .ref mod, .ref mic, .ref mgo, .ref msk, .ref mfo, .int 0, .int 0, .ref mul, .ref mup, .ref mun, .int 0, .ref mfr, .ref mta, .int 0]))] sz)) 0 0 (va_A [(mm, .inr (12, [.int t, .ref mlv, .ref msr, .ref mrs, .ref mpa, .ref mnu, .ref mlt, .ref mpl, .ref mod, .ref mic, .ref mgo, .ref msk, .ref mfo, .int 0, .int 0, .ref mul, .ref mup, .ref mun, .int 0, .ref mfr, .ref mta, .int 0]))] sz) := by
  refine Met.ofW (cc := cX9_insert) (maxL := 3) (ret := (some .int)) (by decide) rfl ?_
  intro P0 E0 s m args below meth C9 s₁ B hml hv
  obtain ⟨rfl, hsz, hP, hK, hD0⟩ := hv
  have hx := B.exec
  have hb := B.bytes
  have hr := B.returns
  have hts := atoms_spec (ws := wsX9_insert) B.pre
  have hown : s.vm.findClass RX9 = some m.cls := findClass_of_methodNamed B.named
  have hlocks := B.notSynchronized
  subst hsz
  have hD := hD0.self (sz := s.heap.size)
  generalize hAe : va_A [(mm, .inr (12, [.int t, .ref mlv, .ref msr, .ref mrs, .ref mpa, .ref mnu, .ref mlt, .ref mpl, .ref mod, .ref mic, .ref mgo, .ref msk, .ref mfo, .int 0, .int 0, .ref mul, .ref mup, .ref mun, .int 0, .ref mfr, .ref mta, .int 0]))] s.heap.size = A at hD ⊢
  have hA : ∀ q : Nat, s.heap.size ≤ q → A q := fun q h => by rw [← hAe]; exact Or.inr h
  have hS : va_S A s.heap s.heap [] := va_S.rf
  have hl := lv_entry ([.ref mm, .int p, .int q]) (n := 3) (Nat.le_of_ble_eq_true rfl)
  rw [lg_entry_eq]
  generalize (lg_sl ([.ref mm, .int p, .int q]) ++ List.replicate (3 - (lg_sl ([.ref mm, .int p, .int q])).length) Slot.unset).toArray = ls at hl ⊢
  have hl : lv_has ls 3 [(0, .ref mm), (1, .int p), (2, .int q)] := hl
  refine lv_aload_n hx hb dX9_insert_0 rfl (lv_at hl 0 rfl) ?_
  refine lv_iconst (v := 0) hx hb dX9_insert_1 (by decide) ?_
  refine va_put (D := D) (ci := 12) (v := .int 0) (ty := .int) (C := RX9) (T := TX9) (N := 22) hx hb hts (fun _ h => List.mem_cons_of_mem _ (List.mem_append_left _ (List.mem_append_right _ h))) tyX9 tyX9_ok nmX9 hown hK hP hD hS 0 rfl rfl 0 (by decide) (hts (.fieldLink RX9 65 "NumberingTreeModel" "thrown" "I") (List.mem_of_getElem? (i := 1) rfl)) (fun _ h9 => h9) rfl (by decide +kernel) rfl rfl (Nat.le_of_ble_eq_true rfl) dX9_insert_2 (fun H locs hP hD hS => ?_)
  have hP : va_P D vwCl [(mm, .inr (12, [.int 0, .ref mlv, .ref msr, .ref mrs, .ref mpa, .ref mnu, .ref mlt, .ref mpl, .ref mod, .ref mic, .ref mgo, .ref msk, .ref mfo, .int 0, .int 0, .ref mul, .ref mup, .ref mun, .int 0, .ref mfr, .ref mta, .int 0]))] H := hP
  have hD : va_D A [(mm, .inr (12, [.int 0, .ref mlv, .ref msr, .ref mrs, .ref mpa, .ref mnu, .ref mlt, .ref mpl, .ref mod, .ref mic, .ref mgo, .ref msk, .ref mfo, .int 0, .int 0, .ref mul, .ref mup, .ref mun, .int 0, .ref mfr, .ref mta, .int 0]))] := hD
  refine lv_iload_n hx hb dX9_insert_5 rfl (lv_at hl 1 rfl) ?_
  refine lv_iconst (v := 0) hx hb dX9_insert_6 (by decide) ?_
  refine lv_aload_n hx hb dX9_insert_7 rfl (lv_at hl 0 rfl) ?_
  refine va_get (D := D) (ci := 12) (v := .int 0) (C := RX9) (T := TX9) (N := 22) hx hb hts (fun _ h => List.mem_cons_of_mem _ (List.mem_append_left _ (List.mem_append_right _ h))) hown hK hP 0 rfl rfl 14 (by decide) (hts (.fieldLink RX9 91 "NumberingTreeModel" "size" "I") (List.mem_of_getElem? (i := 2) rfl)) (fun _ h9 => h9) rfl dX9_insert_8 ?_
  by_cases hbt : (¬ p < 0 ∧ ¬ 0 < p)
  · refine zc_i (wc := []) (wr := [(mm, .inr (12, [.int 0, .ref mlv, .ref msr, .ref mrs, .ref mpa, .ref mnu, .ref mlt, .ref mpl, .ref mod, .ref mic, .ref mgo, .ref msk, .ref mfo, .int 0, .int 0, .ref mul, .ref mup, .ref mun, .int 0, .ref mfr, .ref mta, .int 0]))]) (va_runS (As := [.int p, .int 0, .int 0]) (rest := []) ⟨hx, hb, hml, hown, hts⟩ (k_isBetweenT l D cI p 0 0 H.size hbt.1 hbt.2) (va_cwS 3 hts gX9_insert_X9_isBetween rfl rfl rfl (by decide +kernel) ⟨Nat.le_of_ble_eq_true rfl, Nat.le_of_ble_eq_true rfl⟩) (zPS hK hP hD [] rfl rfl [0] rfl) rfl rfl hl.1 rfl (lv_room (Nat.le_of_ble_eq_true rfl)) dX9_insert_11 ⟨Nat.le_of_ble_eq_true rfl, Nat.le_of_ble_eq_true rfl⟩) hP hD hS hA [] [0] rfl rfl rfl (by decide) (fun r _ H locs hw hP hD hS => ?_)
    have hP : va_P D vwCl [(mm, .inr (12, [.int 0, .ref mlv, .ref msr, .ref mrs, .ref mpa, .ref mnu, .ref mlt, .ref mpl, .ref mod, .ref mic, .ref mgo, .ref msk, .ref mfo, .int 0, .int 0, .ref mul, .ref mup, .ref mun, .int 0, .ref mfr, .ref mta, .int 0]))] H := hP
    have hD : va_D A [(mm, .inr (12, [.int 0, .ref mlv, .ref msr, .ref mrs, .ref mpa, .ref mnu, .ref mlt, .ref mpl, .ref mod, .ref mic, .ref mgo, .ref msk, .ref mfo, .int 0, .int 0, .ref mul, .ref mup, .ref mun, .int 0, .ref mfr, .ref mta, .int 0]))] := hD
    subst hw
    refine lv_if_eq (tgt := 26) hx hb dX9_insert_14 (by decide) (fun q => absurd q (by decide)) (fun _ => ?_)
    refine lv_iload_n hx hb dX9_insert_17 rfl (lv_at hl 2 rfl) ?_
    refine lv_iconst (v := 0) hx hb dX9_insert_18 (by decide) ?_
    refine lv_iconst (v := 4) hx hb dX9_insert_19 (by decide) ?_
    refine zc_i (wc := []) (wr := [(mm, .inr (12, [.int 0, .ref mlv, .ref msr, .ref mrs, .ref mpa, .ref mnu, .ref mlt, .ref mpl, .ref mod, .ref mic, .ref mgo, .ref msk, .ref mfo, .int 0, .int 0, .ref mul, .ref mup, .ref mun, .int 0, .ref mfr, .ref mta, .int 0]))]) (va_runS (As := [.int q, .int 0, .int 4]) (rest := []) ⟨hx, hb, hml, hown, hts⟩ (k_isBetweenF l D cI q 0 4 H.size (fun h => hp ⟨zI_0 hbt.1 hbt.2, h.1, Int32.not_lt.mp h.2⟩)) (va_cwS 3 hts gX9_insert_X9_isBetween rfl rfl rfl (by decide +kernel) ⟨Nat.le_of_ble_eq_true rfl, Nat.le_of_ble_eq_true rfl⟩) (zPS hK hP hD [] rfl rfl [0] rfl) rfl rfl hl.1 rfl (lv_room (Nat.le_of_ble_eq_true rfl)) dX9_insert_20 ⟨Nat.le_of_ble_eq_true rfl, Nat.le_of_ble_eq_true rfl⟩) hP hD hS hA [] [0] rfl rfl rfl (by decide) (fun r _ H locs hw hP hD hS => ?_)
    have hP : va_P D vwCl [(mm, .inr (12, [.int 0, .ref mlv, .ref msr, .ref mrs, .ref mpa, .ref mnu, .ref mlt, .ref mpl, .ref mod, .ref mic, .ref mgo, .ref msk, .ref mfo, .int 0, .int 0, .ref mul, .ref mup, .ref mun, .int 0, .ref mfr, .ref mta, .int 0]))] H := hP
    have hD : va_D A [(mm, .inr (12, [.int 0, .ref mlv, .ref msr, .ref mrs, .ref mpa, .ref mnu, .ref mlt, .ref mpl, .ref mod, .ref mic, .ref mgo, .ref msk, .ref mfo, .int 0, .int 0, .ref mul, .ref mup, .ref mun, .int 0, .ref mfr, .ref mta, .int 0]))] := hD
    subst hw
    refine lv_if_ne (tgt := 32) hx hb dX9_insert_23 (by decide) (fun q => absurd q (by decide)) (fun _ => ?_)
    refine lv_aload_n hx hb dX9_insert_26 rfl (lv_at hl 0 rfl) ?_
    refine lv_iconst (v := 1) hx hb dX9_insert_27 (by decide) ?_
    refine zc_i (wc := [(mm, .inr (12, [.int 0, .ref mlv, .ref msr, .ref mrs, .ref mpa, .ref mnu, .ref mlt, .ref mpl, .ref mod, .ref mic, .ref mgo, .ref msk, .ref mfo, .int 0, .int 0, .ref mul, .ref mup, .ref mun, .int 0, .ref mfr, .ref mta, .int 0]))]) (wr := []) (va_runV (As := [.int 1]) (rest := []) ⟨hx, hb, hml, hown, hts⟩ (k_fails l D cI mm mlv msr mrs mpa mnu mlt mpl mod mic mgo msk mfo mul mup mun mfr mta 0 1 0 0 0 0 H.size) (cwV 1 hts gX9_insert_X9_fails rfl rfl rfl (by decide +kernel) ⟨Nat.le_of_ble_eq_true rfl, Nat.le_of_ble_eq_true rfl⟩) (zPV hK hP hD [0] rfl rfl [0] rfl 0 rfl rfl rfl) rfl rfl hl.1 rfl (lv_room (Nat.le_of_ble_eq_true rfl)) dX9_insert_28 ⟨Nat.le_of_ble_eq_true rfl, Nat.le_of_ble_eq_true rfl⟩) hP hD hS hA [0] [] rfl rfl rfl (by decide) (fun r _ H locs hw hP hD hS => ?_)
    have hP : va_P D vwCl [(mm, .inr (12, [.int 1, .ref mlv, .ref msr, .ref mrs, .ref mpa, .ref mnu, .ref mlt, .ref mpl, .ref mod, .ref mic, .ref mgo, .ref msk, .ref mfo, .int 0, .int 0, .ref mul, .ref mup, .ref mun, .int 0, .ref mfr, .ref mta, .int 0]))] H := hP
    have hD : va_D A [(mm, .inr (12, [.int 1, .ref mlv, .ref msr, .ref mrs, .ref mpa, .ref mnu, .ref mlt, .ref mpl, .ref mod, .ref mic, .ref mgo, .ref msk, .ref mfo, .int 0, .int 0, .ref mul, .ref mup, .ref mun, .int 0, .ref mfr, .ref mta, .int 0]))] := hD
    subst hw
    obtain ⟨hP9, hD9⟩ := z_get hP hD [0] (wc := [(mm, .inr (12, [.int 1, .ref mlv, .ref msr, .ref mrs, .ref mpa, .ref mnu, .ref mlt, .ref mpl, .ref mod, .ref mic, .ref mgo, .ref msk, .ref mfo, .int 0, .int 0, .ref mul, .ref mup, .ref mun, .int 0, .ref mfr, .ref mta, .int 0]))]) rfl rfl
    exact W.iret (v := 0) hx hb hr (fun t ht hW => ⟨⟨0, (), rfl, rfl, by rw [ht]; exact hP9, hD9⟩, hS.F ht⟩) hS.2.2 dX9_insert_31
  · refine zc_i (wc := []) (wr := [(mm, .inr (12, [.int 0, .ref mlv, .ref msr, .ref mrs, .ref mpa, .ref mnu, .ref mlt, .ref mpl, .ref mod, .ref mic, .ref mgo, .ref msk, .ref mfo, .int 0, .int 0, .ref mul, .ref mup, .ref mun, .int 0, .ref mfr, .ref mta, .int 0]))]) (va_runS (As := [.int p, .int 0, .int 0]) (rest := []) ⟨hx, hb, hml, hown, hts⟩ (k_isBetweenF l D cI p 0 0 H.size hbt) (va_cwS 3 hts gX9_insert_X9_isBetween rfl rfl rfl (by decide +kernel) ⟨Nat.le_of_ble_eq_true rfl, Nat.le_of_ble_eq_true rfl⟩) (zPS hK hP hD [] rfl rfl [0] rfl) rfl rfl hl.1 rfl (lv_room (Nat.le_of_ble_eq_true rfl)) dX9_insert_11 ⟨Nat.le_of_ble_eq_true rfl, Nat.le_of_ble_eq_true rfl⟩) hP hD hS hA [] [0] rfl rfl rfl (by decide) (fun r _ H locs hw hP hD hS => ?_)
    have hP : va_P D vwCl [(mm, .inr (12, [.int 0, .ref mlv, .ref msr, .ref mrs, .ref mpa, .ref mnu, .ref mlt, .ref mpl, .ref mod, .ref mic, .ref mgo, .ref msk, .ref mfo, .int 0, .int 0, .ref mul, .ref mup, .ref mun, .int 0, .ref mfr, .ref mta, .int 0]))] H := hP
    have hD : va_D A [(mm, .inr (12, [.int 0, .ref mlv, .ref msr, .ref mrs, .ref mpa, .ref mnu, .ref mlt, .ref mpl, .ref mod, .ref mic, .ref mgo, .ref msk, .ref mfo, .int 0, .int 0, .ref mul, .ref mup, .ref mun, .int 0, .ref mfr, .ref mta, .int 0]))] := hD
    subst hw
    refine lv_if_eq (tgt := 26) hx hb dX9_insert_14 (by decide) (fun _ => ?_) (fun q => absurd q (by decide))
    refine lv_aload_n hx hb dX9_insert_26 rfl (lv_at hl 0 rfl) ?_
    refine lv_iconst (v := 1) hx hb dX9_insert_27 (by decide) ?_
    refine zc_i (wc := [(mm, .inr (12, [.int 0, .ref mlv, .ref msr, .ref mrs, .ref mpa, .ref mnu, .ref mlt, .ref mpl, .ref mod, .ref mic, .ref mgo, .ref msk, .ref mfo, .int 0, .int 0, .ref mul, .ref mup, .ref mun, .int 0, .ref mfr, .ref mta, .int 0]))]) (wr := []) (va_runV (As := [.int 1]) (rest := []) ⟨hx, hb, hml, hown, hts⟩ (k_fails l D cI mm mlv msr mrs mpa mnu mlt mpl mod mic mgo msk mfo mul mup mun mfr mta 0 1 0 0 0 0 H.size) (cwV 1 hts gX9_insert_X9_fails rfl rfl rfl (by decide +kernel) ⟨Nat.le_of_ble_eq_true rfl, Nat.le_of_ble_eq_true rfl⟩) (zPV hK hP hD [0] rfl rfl [0] rfl 0 rfl rfl rfl) rfl rfl hl.1 rfl (lv_room (Nat.le_of_ble_eq_true rfl)) dX9_insert_28 ⟨Nat.le_of_ble_eq_true rfl, Nat.le_of_ble_eq_true rfl⟩) hP hD hS hA [0] [] rfl rfl rfl (by decide) (fun r _ H locs hw hP hD hS => ?_)
    have hP : va_P D vwCl [(mm, .inr (12, [.int 1, .ref mlv, .ref msr, .ref mrs, .ref mpa, .ref mnu, .ref mlt, .ref mpl, .ref mod, .ref mic, .ref mgo, .ref msk, .ref mfo, .int 0, .int 0, .ref mul, .ref mup, .ref mun, .int 0, .ref mfr, .ref mta, .int 0]))] H := hP
    have hD : va_D A [(mm, .inr (12, [.int 1, .ref mlv, .ref msr, .ref mrs, .ref mpa, .ref mnu, .ref mlt, .ref mpl, .ref mod, .ref mic, .ref mgo, .ref msk, .ref mfo, .int 0, .int 0, .ref mul, .ref mup, .ref mun, .int 0, .ref mfr, .ref mta, .int 0]))] := hD
    subst hw
    obtain ⟨hP9, hD9⟩ := z_get hP hD [0] (wc := [(mm, .inr (12, [.int 1, .ref mlv, .ref msr, .ref mrs, .ref mpa, .ref mnu, .ref mlt, .ref mpl, .ref mod, .ref mic, .ref mgo, .ref msk, .ref mfo, .int 0, .int 0, .ref mul, .ref mup, .ref mun, .int 0, .ref mfr, .ref mta, .int 0]))]) rfl rfl
    exact W.iret (v := 0) hx hb hr (fun t ht hW => ⟨⟨0, (), rfl, rfl, by rw [ht]; exact hP9, hD9⟩, hS.F ht⟩) hS.2.2 dX9_insert_31

set_option maxHeartbeats 4000000 in
set_option maxRecDepth 100000 in
theorem k_skips2 (l : Launch) (D : va_G) (cI cQ cZ : ClassId) (mm mlv msr mrs mpa mnu mlt mpl mod mic mgo msk mfo mul mup mun mfr mta yy : Nat) (t p q : Int32) (g : Nat → Option Nat) (sz : Nat) (hp : zSk p q) (hg : g p.toNatClampNeg = some yy) : Met l yX9_skips wsX9_skips ({ frames := 2, cells := 0, slots := 0, locals := 42 }) (va_Pc [.ref mm, .int p, .int q, .int 0] (zPre D [(cI, .int), (cZ, .boolean), (cQ, .array .boolean)] [(mm, .inr (12, [.int t, .ref mlv, .ref msr, .ref mrs, .ref mpa, .ref mnu, .ref mlt, .ref mpl, .ref mod, .ref mic, .ref mgo, .ref msk, .ref mfo, .int 0, .int 0, .ref mul, .ref mup, .ref mun, .int 0, .ref mfr, .ref mta, .int 0])), (msk, .inl (cQ, 5, .inr (.inr (.inr (.inr g))))), (yy, .inl (cZ, 100, .inl (fun _ => 0)))] sz)) (va_Qi (fun rv (_ : Unit) => rv = 0) (fun (_ : Unit) => zB D [(mm, .inr (12, [.int 2, .ref mlv, .ref msr, .ref mrs, .ref mpa, .ref mnu, .ref mlt, .ref mpl, .ref mod, .ref mic, .ref mgo, .ref msk, .ref mfo, .int 0, .int 0, .ref mul, .ref mup, .ref mun, .int 0, .ref mfr, .ref mta, .int 0]))] (va_A [(mm, .inr (12, [.int t, .ref mlv, .ref msr, .ref mrs, .ref mpa, .ref mnu, .ref mlt, .ref mpl, .ref mod, .ref mic, .ref mgo, .ref msk, .ref mfo, .int 0, .int 0, .ref mul, .ref mup, .ref mun, .int 0, .ref mfr, .ref mta, .int 0])), (msk, .inl (cQ, 5, .inr (.inr (.inr (.inr g))))), (yy, .inl (cZ, 100, .inl (fun _ => 0)))] sz)) (va_A [(mm, .inr (12, [.int t, .ref mlv, .ref msr, .ref mrs, .ref mpa, .ref mnu, .ref mlt, .ref mpl, .ref mod, .ref mic, .ref mgo, .ref msk, .ref mfo, .int 0, .int 0, .ref mul, .ref mup, .ref mun, .int 0, .ref mfr, .ref mta, .int 0])), (msk, .inl (cQ, 5, .inr (.inr (.inr (.inr g))))), (yy, .inl (cZ, 100, .inl (fun _ => 0)))] sz)) 0 0 (va_A [(mm, .inr (12, [.int t, .ref mlv, .ref msr, .ref mrs, .ref mpa, .ref mnu, .ref mlt, .ref mpl, .ref mod, .ref mic, .ref mgo, .ref msk, .ref mfo, .int 0, .int 0, .ref mul, .ref mup, .ref mun, .int 0, .ref mfr, .ref mta, .int 0])), (msk, .inl (cQ, 5, .inr (.inr (.inr (.inr g))))), (yy, .inl (cZ, 100, .inl (fun _ => 0)))] sz) := by
  refine Met.ofW (cc := cX9_skips) (maxL := 6) (ret := (some .int)) (by decide) rfl ?_
  intro P0 E0 s m args below meth C9 s₁ B hml hv
  obtain ⟨rfl, hsz, hP, hK, hD0⟩ := hv
  have hx := B.exec
  have hb := B.bytes
  have hr := B.returns
  have hts := atoms_spec (ws := wsX9_skips) B.pre
  have hown : s.vm.findClass RX9 = some m.cls := findClass_of_methodNamed B.named
  have hlocks := B.notSynchronized
  subst hsz
  have hD := hD0.self (sz := s.heap.size)
  generalize hAe : va_A [(mm, .inr (12, [.int t, .ref mlv, .ref msr, .ref mrs, .ref mpa, .ref mnu, .ref mlt, .ref mpl, .ref mod, .ref mic, .ref mgo, .ref msk, .ref mfo, .int 0, .int 0, .ref mul, .ref mup, .ref mun, .int 0, .ref mfr, .ref mta, .int 0])), (msk, .inl (cQ, 5, .inr (.inr (.inr (.inr g))))), (yy, .inl (cZ, 100, .inl (fun _ => 0)))] s.heap.size = A at hD ⊢
  have hA : ∀ q : Nat, s.heap.size ≤ q → A q := fun q h => by rw [← hAe]; exact Or.inr h
  have hS : va_S A s.heap s.heap [] := va_S.rf
  have hl := lv_entry ([.ref mm, .int p, .int q, .int 0]) (n := 6) (Nat.le_of_ble_eq_true rfl)
  rw [lg_entry_eq]
  generalize (lg_sl ([.ref mm, .int p, .int q, .int 0]) ++ List.replicate (6 - (lg_sl ([.ref mm, .int p, .int q, .int 0])).length) Slot.unset).toArray = ls at hl ⊢
  have hl : lv_has ls 6 [(0, .ref mm), (1, .int p), (2, .int q), (3, .int 0)] := hl
  refine lv_aload_n hx hb dX9_skips_0 rfl (lv_at hl 0 rfl) ?_
  refine lv_iconst (v := 0) hx hb dX9_skips_1 (by decide) ?_
  refine va_put (D := D) (ci := 12) (v := .int 0) (ty := .int) (C := RX9) (T := TX9) (N := 22) hx hb hts (fun _ h => List.mem_cons_of_mem _ (List.mem_append_left _ (List.mem_append_right _ h))) tyX9 tyX9_ok nmX9 hown hK hP hD hS 0 rfl rfl 0 (by decide) (hts (.fieldLink RX9 65 "NumberingTreeModel" "thrown" "I") (List.mem_of_getElem? (i := 1) rfl)) (fun _ h9 => h9) rfl (by decide +kernel) rfl rfl (Nat.le_of_ble_eq_true rfl) dX9_skips_2 (fun H locs hP hD hS => ?_)
  have hP : va_P D vwCl [(mm, .inr (12, [.int 0, .ref mlv, .ref msr, .ref mrs, .ref mpa, .ref mnu, .ref mlt, .ref mpl, .ref mod, .ref mic, .ref mgo, .ref msk, .ref mfo, .int 0, .int 0, .ref mul, .ref mup, .ref mun, .int 0, .ref mfr, .ref mta, .int 0])), (msk, .inl (cQ, 5, .inr (.inr (.inr (.inr g))))), (yy, .inl (cZ, 100, .inl (fun _ => 0)))] H := hP
  have hD : va_D A [(mm, .inr (12, [.int 0, .ref mlv, .ref msr, .ref mrs, .ref mpa, .ref mnu, .ref mlt, .ref mpl, .ref mod, .ref mic, .ref mgo, .ref msk, .ref mfo, .int 0, .int 0, .ref mul, .ref mup, .ref mun, .int 0, .ref mfr, .ref mta, .int 0])), (msk, .inl (cQ, 5, .inr (.inr (.inr (.inr g))))), (yy, .inl (cZ, 100, .inl (fun _ => 0)))] := hD
  refine lv_iload_n hx hb dX9_skips_5 rfl (lv_at hl 1 rfl) ?_
  refine zc_i (wc := []) (wr := [(mm, .inr (12, [.int 0, .ref mlv, .ref msr, .ref mrs, .ref mpa, .ref mnu, .ref mlt, .ref mpl, .ref mod, .ref mic, .ref mgo, .ref msk, .ref mfo, .int 0, .int 0, .ref mul, .ref mup, .ref mun, .int 0, .ref mfr, .ref mta, .int 0])), (msk, .inl (cQ, 5, .inr (.inr (.inr (.inr g))))), (yy, .inl (cZ, 100, .inl (fun _ => 0)))]) (va_runS (As := [.int p]) (rest := []) ⟨hx, hb, hml, hown, hts⟩ (k_isLevelT l D cI p H.size hp.1) (va_cwS 1 hts gX9_skips_X9_isLevel rfl rfl rfl (by decide +kernel) ⟨Nat.le_of_ble_eq_true rfl, Nat.le_of_ble_eq_true rfl⟩) (zPS hK hP hD [] rfl rfl [0] rfl) rfl rfl hl.1 rfl (lv_room (Nat.le_of_ble_eq_true rfl)) dX9_skips_6 ⟨Nat.le_of_ble_eq_true rfl, Nat.le_of_ble_eq_true rfl⟩) hP hD hS hA [] [0, 1, 2] rfl rfl rfl (by decide) (fun r _ H locs hw hP hD hS => ?_)
  have hP : va_P D vwCl [(mm, .inr (12, [.int 0, .ref mlv, .ref msr, .ref mrs, .ref mpa, .ref mnu, .ref mlt, .ref mpl, .ref mod, .ref mic, .ref mgo, .ref msk, .ref mfo, .int 0, .int 0, .ref mul, .ref mup, .ref mun, .int 0, .ref mfr, .ref mta, .int 0])), (msk, .inl (cQ, 5, .inr (.inr (.inr (.inr g))))), (yy, .inl (cZ, 100, .inl (fun _ => 0)))] H := hP
  have hD : va_D A [(mm, .inr (12, [.int 0, .ref mlv, .ref msr, .ref mrs, .ref mpa, .ref mnu, .ref mlt, .ref mpl, .ref mod, .ref mic, .ref mgo, .ref msk, .ref mfo, .int 0, .int 0, .ref mul, .ref mup, .ref mun, .int 0, .ref mfr, .ref mta, .int 0])), (msk, .inl (cQ, 5, .inr (.inr (.inr (.inr g))))), (yy, .inl (cZ, 100, .inl (fun _ => 0)))] := hD
  subst hw
  refine lv_if_eq (tgt := 22) hx hb dX9_skips_9 (by decide) (fun q => absurd q (by decide)) (fun _ => ?_)
  refine lv_iload_n hx hb dX9_skips_12 rfl (lv_at hl 2 rfl) ?_
  refine lv_iconst (v := 1) hx hb dX9_skips_13 (by decide) ?_
  refine lv_bipush (v := 99) hx hb dX9_skips_14 (by decide) ?_
  refine zc_i (wc := []) (wr := [(mm, .inr (12, [.int 0, .ref mlv, .ref msr, .ref mrs, .ref mpa, .ref mnu, .ref mlt, .ref mpl, .ref mod, .ref mic, .ref mgo, .ref msk, .ref mfo, .int 0, .int 0, .ref mul, .ref mup, .ref mun, .int 0, .ref mfr, .ref mta, .int 0])), (msk, .inl (cQ, 5, .inr (.inr (.inr (.inr g))))), (yy, .inl (cZ, 100, .inl (fun _ => 0)))]) (va_runS (As := [.int q, .int 1, .int 99]) (rest := []) ⟨hx, hb, hml, hown, hts⟩ (k_isBetweenT l D cI q 1 99 H.size hp.2.1 (Int32.not_lt.mpr hp.2.2)) (va_cwS 3 hts gX9_skips_X9_isBetween rfl rfl rfl (by decide +kernel) ⟨Nat.le_of_ble_eq_true rfl, Nat.le_of_ble_eq_true rfl⟩) (zPS hK hP hD [] rfl rfl [0] rfl) rfl rfl hl.1 rfl (lv_room (Nat.le_of_ble_eq_true rfl)) dX9_skips_16 ⟨Nat.le_of_ble_eq_true rfl, Nat.le_of_ble_eq_true rfl⟩) hP hD hS hA [] [0, 1, 2] rfl rfl rfl (by decide) (fun r _ H locs hw hP hD hS => ?_)
  have hP : va_P D vwCl [(mm, .inr (12, [.int 0, .ref mlv, .ref msr, .ref mrs, .ref mpa, .ref mnu, .ref mlt, .ref mpl, .ref mod, .ref mic, .ref mgo, .ref msk, .ref mfo, .int 0, .int 0, .ref mul, .ref mup, .ref mun, .int 0, .ref mfr, .ref mta, .int 0])), (msk, .inl (cQ, 5, .inr (.inr (.inr (.inr g))))), (yy, .inl (cZ, 100, .inl (fun _ => 0)))] H := hP
  have hD : va_D A [(mm, .inr (12, [.int 0, .ref mlv, .ref msr, .ref mrs, .ref mpa, .ref mnu, .ref mlt, .ref mpl, .ref mod, .ref mic, .ref mgo, .ref msk, .ref mfo, .int 0, .int 0, .ref mul, .ref mup, .ref mun, .int 0, .ref mfr, .ref mta, .int 0])), (msk, .inl (cQ, 5, .inr (.inr (.inr (.inr g))))), (yy, .inl (cZ, 100, .inl (fun _ => 0)))] := hD
  subst hw
  refine lv_if_ne (tgt := 28) hx hb dX9_skips_19 (by decide) (fun _ => ?_) (fun q => absurd q (by decide))
  refine lv_aload_n hx hb dX9_skips_28 rfl (lv_at hl 0 rfl) ?_
  refine va_get (D := D) (ci := 12) (v := .ref msk) (C := RX9) (T := TX9) (N := 22) hx hb hts (fun _ h => List.mem_cons_of_mem _ (List.mem_append_left _ (List.mem_append_right _ h))) hown hK hP 0 rfl rfl 11 (by decide) (hts (.fieldLink RX9 43 "NumberingTreeModel" "skipped" "[[Z") (List.mem_of_getElem? (i := 2) rfl)) (fun _ h9 => h9) rfl dX9_skips_29 ?_
  refine lv_iload_n hx hb dX9_skips_32 rfl (lv_at hl 1 rfl) ?_
  refine za_ald hx hb hK hP 1 2 rfl rfl (zLv_in hp.1) (y := yy) hg dX9_skips_33 ?_
  refine lv_iload_n hx hb dX9_skips_34 rfl (lv_at hl 2 rfl) ?_
  refine va_zald hx hb hK hP 2 1 rfl rfl (zSk_in hp) dX9_skips_35 ?_
  refine zt_i 0 rfl ?_
  refine lv_iload_n hx hb dX9_skips_36 rfl (lv_at hl 3 rfl) ?_
  refine lv_icmp_ne (tgt := 46) hx hb dX9_skips_37 (by decide) (fun q => absurd q (by decide)) (fun _ => ?_)
  refine lv_aload_n hx hb dX9_skips_40 rfl (lv_at hl 0 rfl) ?_
  refine lv_iconst (v := 2) hx hb dX9_skips_41 (by decide) ?_
  refine zc_i (wc := [(mm, .inr (12, [.int 0, .ref mlv, .ref msr, .ref mrs, .ref mpa, .ref mnu, .ref mlt, .ref mpl, .ref mod, .ref mic, .ref mgo, .ref msk, .ref mfo, .int 0, .int 0, .ref mul, .ref mup, .ref mun, .int 0, .ref mfr, .ref mta, .int 0]))]) (wr := [(msk, .inl (cQ, 5, .inr (.inr (.inr (.inr g))))), (yy, .inl (cZ, 100, .inl (fun _ => 0)))]) (va_runV (As := [.int 2]) (rest := []) ⟨hx, hb, hml, hown, hts⟩ (k_fails l D cI mm mlv msr mrs mpa mnu mlt mpl mod mic mgo msk mfo mul mup mun mfr mta 0 2 0 0 0 0 H.size) (cwV 1 hts gX9_skips_X9_fails rfl rfl rfl (by decide +kernel) ⟨Nat.le_of_ble_eq_true rfl, Nat.le_of_ble_eq_true rfl⟩) (zPV hK hP hD [0] rfl rfl [0] rfl 0 rfl rfl rfl) rfl rfl hl.1 rfl (lv_room (Nat.le_of_ble_eq_true rfl)) dX9_skips_42 ⟨Nat.le_of_ble_eq_true rfl, Nat.le_of_ble_eq_true rfl⟩) hP hD hS hA [0] [1, 2] rfl rfl rfl (by decide) (fun r _ H locs hw hP hD hS => ?_)
  have hP : va_P D vwCl [(msk, .inl (cQ, 5, .inr (.inr (.inr (.inr g))))), (yy, .inl (cZ, 100, .inl (fun _ => 0))), (mm, .inr (12, [.int 2, .ref mlv, .ref msr, .ref mrs, .ref mpa, .ref mnu, .ref mlt, .ref mpl, .ref mod, .ref mic, .ref mgo, .ref msk, .ref mfo, .int 0, .int 0, .ref mul, .ref mup, .ref mun, .int 0, .ref mfr, .ref mta, .int 0]))] H := hP
  have hD : va_D A [(msk, .inl (cQ, 5, .inr (.inr (.inr (.inr g))))), (yy, .inl (cZ, 100, .inl (fun _ => 0))), (mm, .inr (12, [.int 2, .ref mlv, .ref msr, .ref mrs, .ref mpa, .ref mnu, .ref mlt, .ref mpl, .ref mod, .ref mic, .ref mgo, .ref msk, .ref mfo, .int 0, .int 0, .ref mul, .ref mup, .ref mun, .int 0, .ref mfr, .ref mta, .int 0]))] := hD
  subst hw
  obtain ⟨hP9, hD9⟩ := z_get hP hD [2] (wc := [(mm, .inr (12, [.int 2, .ref mlv, .ref msr, .ref mrs, .ref mpa, .ref mnu, .ref mlt, .ref mpl, .ref mod, .ref mic, .ref mgo, .ref msk, .ref mfo, .int 0, .int 0, .ref mul, .ref mup, .ref mun, .int 0, .ref mfr, .ref mta, .int 0]))]) rfl rfl
  exact W.iret (v := 0) hx hb hr (fun t ht hW => ⟨⟨0, (), rfl, rfl, by rw [ht]; exact hP9, hD9⟩, hS.F ht⟩) hS.2.2 dX9_skips_45

set_option maxHeartbeats 4000000 in
set_option maxRecDepth 100000 in
theorem k_skipsF (l : Launch) (D : va_G) (cI : ClassId) (mm mlv msr mrs mpa mnu mlt mpl mod mic mgo msk mfo mul mup mun mfr mta : Nat) (t p q w : Int32) (sz : Nat) (hp : ¬ zSk p q) : Met l yX9_skips wsX9_skips ({ frames := 2, cells := 0, slots := 0, locals := 42 }) (va_Pc [.ref mm, .int p, .int q, .int w] (zPre D [(cI, .int)] [(mm, .inr (12, [.int t, .ref mlv, .ref msr, .ref mrs, .ref mpa, .ref mnu, .ref mlt, .ref mpl, .ref mod, .ref mic, .ref mgo, .ref msk, .ref mfo, .int 0, .int 0, .ref mul, .ref mup, .ref mun, .int 0, .ref mfr, .ref mta, .int 0]))] sz)) (va_Qi (fun rv (_ : Unit) => rv = 0) (fun (_ : Unit) => zB D [(mm, .inr (12, [.int 1, .ref mlv, .ref msr, .ref mrs, .ref mpa, .ref mnu, .ref mlt, .ref mpl, .ref mod, .ref mic, .ref mgo, .ref msk, .ref mfo, .int 0, .int 0, .ref mul, .ref mup, .ref mun, .int 0, .ref mfr, .ref mta, .int 0]))] (va_A [(mm, .inr (12, [.int t, .ref mlv, .ref msr, .ref mrs, .ref mpa, .ref mnu, .ref mlt, .ref mpl, .ref mod, .ref mic, .ref mgo, .ref msk, .ref mfo, .int 0, .int 0, .ref mul, .ref mup, .ref mun, .int 0, .ref mfr, .ref mta, .int 0]))] sz)) (va_A [(mm, .inr (12, [.int t, .ref mlv, .ref msr, .ref mrs, .ref mpa, .ref mnu, .ref mlt, .ref mpl, .ref mod, .ref mic, .ref mgo, .ref msk, .ref mfo, .int 0, .int 0, .ref mul, .ref mup, .ref mun, .int 0, .ref mfr, .ref mta, .int 0]))] sz)) 0 0 (va_A [(mm, .inr (12, [.int t, .ref mlv, .ref msr, .ref mrs, .ref mpa, .ref mnu, .ref mlt, .ref mpl, .ref mod, .ref mic, .ref mgo, .ref msk, .ref mfo, .int 0, .int 0, .ref mul, .ref mup, .ref mun, .int 0, .ref mfr, .ref mta, .int 0]))] sz) := by
  refine Met.ofW (cc := cX9_skips) (maxL := 6) (ret := (some .int)) (by decide) rfl ?_
  intro P0 E0 s m args below meth C9 s₁ B hml hv
  obtain ⟨rfl, hsz, hP, hK, hD0⟩ := hv
  have hx := B.exec
  have hb := B.bytes
  have hr := B.returns
  have hts := atoms_spec (ws := wsX9_skips) B.pre
  have hown : s.vm.findClass RX9 = some m.cls := findClass_of_methodNamed B.named
  have hlocks := B.notSynchronized
  subst hsz
  have hD := hD0.self (sz := s.heap.size)
  generalize hAe : va_A [(mm, .inr (12, [.int t, .ref mlv, .ref msr, .ref mrs, .ref mpa, .ref mnu, .ref mlt, .ref mpl, .ref mod, .ref mic, .ref mgo, .ref msk, .ref mfo, .int 0, .int 0, .ref mul, .ref mup, .ref mun, .int 0, .ref mfr, .ref mta, .int 0]))] s.heap.size = A at hD ⊢
  have hA : ∀ q : Nat, s.heap.size ≤ q → A q := fun q h => by rw [← hAe]; exact Or.inr h
  have hS : va_S A s.heap s.heap [] := va_S.rf
  have hl := lv_entry ([.ref mm, .int p, .int q, .int w]) (n := 6) (Nat.le_of_ble_eq_true rfl)
  rw [lg_entry_eq]
  generalize (lg_sl ([.ref mm, .int p, .int q, .int w]) ++ List.replicate (6 - (lg_sl ([.ref mm, .int p, .int q, .int w])).length) Slot.unset).toArray = ls at hl ⊢
  have hl : lv_has ls 6 [(0, .ref mm), (1, .int p), (2, .int q), (3, .int w)] := hl
  refine lv_aload_n hx hb dX9_skips_0 rfl (lv_at hl 0 rfl) ?_
  refine lv_iconst (v := 0) hx hb dX9_skips_1 (by decide) ?_
  refine va_put (D := D) (ci := 12) (v := .int 0) (ty := .int) (C := RX9) (T := TX9) (N := 22) hx hb hts (fun _ h => List.mem_cons_of_mem _ (List.mem_append_left _ (List.mem_append_right _ h))) tyX9 tyX9_ok nmX9 hown hK hP hD hS 0 rfl rfl 0 (by decide) (hts (.fieldLink RX9 65 "NumberingTreeModel" "thrown" "I") (List.mem_of_getElem? (i := 1) rfl)) (fun _ h9 => h9) rfl (by decide +kernel) rfl rfl (Nat.le_of_ble_eq_true rfl) dX9_skips_2 (fun H locs hP hD hS => ?_)
  have hP : va_P D vwCl [(mm, .inr (12, [.int 0, .ref mlv, .ref msr, .ref mrs, .ref mpa, .ref mnu, .ref mlt, .ref mpl, .ref mod, .ref mic, .ref mgo, .ref msk, .ref mfo, .int 0, .int 0, .ref mul, .ref mup, .ref mun, .int 0, .ref mfr, .ref mta, .int 0]))] H := hP
  have hD : va_D A [(mm, .inr (12, [.int 0, .ref mlv, .ref msr, .ref mrs, .ref mpa, .ref mnu, .ref mlt, .ref mpl, .ref mod, .ref mic, .ref mgo, .ref msk, .ref mfo, .int 0, .int 0, .ref mul, .ref mup, .ref mun, .int 0, .ref mfr, .ref mta, .int 0]))] := hD
  refine lv_iload_n hx hb dX9_skips_5 rfl (lv_at hl 1 rfl) ?_
  by_cases hc : zLv p
  · refine zc_i (wc := []) (wr := [(mm, .inr (12, [.int 0, .ref mlv, .ref msr, .ref mrs, .ref mpa, .ref mnu, .ref mlt, .ref mpl, .ref mod, .ref mic, .ref mgo, .ref msk, .ref mfo, .int 0, .int 0, .ref mul, .ref mup, .ref mun, .int 0, .ref mfr, .ref mta, .int 0]))]) (va_runS (As := [.int p]) (rest := []) ⟨hx, hb, hml, hown, hts⟩ (k_isLevelT l D cI p H.size hc) (va_cwS 1 hts gX9_skips_X9_isLevel rfl rfl rfl (by decide +kernel) ⟨Nat.le_of_ble_eq_true rfl, Nat.le_of_ble_eq_true rfl⟩) (zPS hK hP hD [] rfl rfl [0] rfl) rfl rfl hl.1 rfl (lv_room (Nat.le_of_ble_eq_true rfl)) dX9_skips_6 ⟨Nat.le_of_ble_eq_true rfl, Nat.le_of_ble_eq_true rfl⟩) hP hD hS hA [] [0] rfl rfl rfl (by decide) (fun r _ H locs hw hP hD hS => ?_)
    have hP : va_P D vwCl [(mm, .inr (12, [.int 0, .ref mlv, .ref msr, .ref mrs, .ref mpa, .ref mnu, .ref mlt, .ref mpl, .ref mod, .ref mic, .ref mgo, .ref msk, .ref mfo, .int 0, .int 0, .ref mul, .ref mup, .ref mun, .int 0, .ref mfr, .ref mta, .int 0]))] H := hP
    have hD : va_D A [(mm, .inr (12, [.int 0, .ref mlv, .ref msr, .ref mrs, .ref mpa, .ref mnu, .ref mlt, .ref mpl, .ref mod, .ref mic, .ref mgo, .ref msk, .ref mfo, .int 0, .int 0, .ref mul, .ref mup, .ref mun, .int 0, .ref mfr, .ref mta, .int 0]))] := hD
    subst hw
    refine lv_if_eq (tgt := 22) hx hb dX9_skips_9 (by decide) (fun q => absurd q (by decide)) (fun _ => ?_)
    refine lv_iload_n hx hb dX9_skips_12 rfl (lv_at hl 2 rfl) ?_
    refine lv_iconst (v := 1) hx hb dX9_skips_13 (by decide) ?_
    refine lv_bipush (v := 99) hx hb dX9_skips_14 (by decide) ?_
    refine zc_i (wc := []) (wr := [(mm, .inr (12, [.int 0, .ref mlv, .ref msr, .ref mrs, .ref mpa, .ref mnu, .ref mlt, .ref mpl, .ref mod, .ref mic, .ref mgo, .ref msk, .ref mfo, .int 0, .int 0, .ref mul, .ref mup, .ref mun, .int 0, .ref mfr, .ref mta, .int 0]))]) (va_runS (As := [.int q, .int 1, .int 99]) (rest := []) ⟨hx, hb, hml, hown, hts⟩ (k_isBetweenF l D cI q 1 99 H.size (fun h => hp ⟨hc, h.1, Int32.not_lt.mp h.2⟩)) (va_cwS 3 hts gX9_skips_X9_isBetween rfl rfl rfl (by decide +kernel) ⟨Nat.le_of_ble_eq_true rfl, Nat.le_of_ble_eq_true rfl⟩) (zPS hK hP hD [] rfl rfl [0] rfl) rfl rfl hl.1 rfl (lv_room (Nat.le_of_ble_eq_true rfl)) dX9_skips_16 ⟨Nat.le_of_ble_eq_true rfl, Nat.le_of_ble_eq_true rfl⟩) hP hD hS hA [] [0] rfl rfl rfl (by decide) (fun r _ H locs hw hP hD hS => ?_)
    have hP : va_P D vwCl [(mm, .inr (12, [.int 0, .ref mlv, .ref msr, .ref mrs, .ref mpa, .ref mnu, .ref mlt, .ref mpl, .ref mod, .ref mic, .ref mgo, .ref msk, .ref mfo, .int 0, .int 0, .ref mul, .ref mup, .ref mun, .int 0, .ref mfr, .ref mta, .int 0]))] H := hP
    have hD : va_D A [(mm, .inr (12, [.int 0, .ref mlv, .ref msr, .ref mrs, .ref mpa, .ref mnu, .ref mlt, .ref mpl, .ref mod, .ref mic, .ref mgo, .ref msk, .ref mfo, .int 0, .int 0, .ref mul, .ref mup, .ref mun, .int 0, .ref mfr, .ref mta, .int 0]))] := hD
    subst hw
    refine lv_if_ne (tgt := 28) hx hb dX9_skips_19 (by decide) (fun q => absurd q (by decide)) (fun _ => ?_)
    refine lv_aload_n hx hb dX9_skips_22 rfl (lv_at hl 0 rfl) ?_
    refine lv_iconst (v := 1) hx hb dX9_skips_23 (by decide) ?_
    refine zc_i (wc := [(mm, .inr (12, [.int 0, .ref mlv, .ref msr, .ref mrs, .ref mpa, .ref mnu, .ref mlt, .ref mpl, .ref mod, .ref mic, .ref mgo, .ref msk, .ref mfo, .int 0, .int 0, .ref mul, .ref mup, .ref mun, .int 0, .ref mfr, .ref mta, .int 0]))]) (wr := []) (va_runV (As := [.int 1]) (rest := []) ⟨hx, hb, hml, hown, hts⟩ (k_fails l D cI mm mlv msr mrs mpa mnu mlt mpl mod mic mgo msk mfo mul mup mun mfr mta 0 1 0 0 0 0 H.size) (cwV 1 hts gX9_skips_X9_fails rfl rfl rfl (by decide +kernel) ⟨Nat.le_of_ble_eq_true rfl, Nat.le_of_ble_eq_true rfl⟩) (zPV hK hP hD [0] rfl rfl [0] rfl 0 rfl rfl rfl) rfl rfl hl.1 rfl (lv_room (Nat.le_of_ble_eq_true rfl)) dX9_skips_24 ⟨Nat.le_of_ble_eq_true rfl, Nat.le_of_ble_eq_true rfl⟩) hP hD hS hA [0] [] rfl rfl rfl (by decide) (fun r _ H locs hw hP hD hS => ?_)
    have hP : va_P D vwCl [(mm, .inr (12, [.int 1, .ref mlv, .ref msr, .ref mrs, .ref mpa, .ref mnu, .ref mlt, .ref mpl, .ref mod, .ref mic, .ref mgo, .ref msk, .ref mfo, .int 0, .int 0, .ref mul, .ref mup, .ref mun, .int 0, .ref mfr, .ref mta, .int 0]))] H := hP
    have hD : va_D A [(mm, .inr (12, [.int 1, .ref mlv, .ref msr, .ref mrs, .ref mpa, .ref mnu, .ref mlt, .ref mpl, .ref mod, .ref mic, .ref mgo, .ref msk, .ref mfo, .int 0, .int 0, .ref mul, .ref mup, .ref mun, .int 0, .ref mfr, .ref mta, .int 0]))] := hD
    subst hw
    obtain ⟨hP9, hD9⟩ := z_get hP hD [0] (wc := [(mm, .inr (12, [.int 1, .ref mlv, .ref msr, .ref mrs, .ref mpa, .ref mnu, .ref mlt, .ref mpl, .ref mod, .ref mic, .ref mgo, .ref msk, .ref mfo, .int 0, .int 0, .ref mul, .ref mup, .ref mun, .int 0, .ref mfr, .ref mta, .int 0]))]) rfl rfl
    exact W.iret (v := 0) hx hb hr (fun t ht hW => ⟨⟨0, (), rfl, rfl, by rw [ht]; exact hP9, hD9⟩, hS.F ht⟩) hS.2.2 dX9_skips_27
  · refine zc_i (wc := []) (wr := [(mm, .inr (12, [.int 0, .ref mlv, .ref msr, .ref mrs, .ref mpa, .ref mnu, .ref mlt, .ref mpl, .ref mod, .ref mic, .ref mgo, .ref msk, .ref mfo, .int 0, .int 0, .ref mul, .ref mup, .ref mun, .int 0, .ref mfr, .ref mta, .int 0]))]) (va_runS (As := [.int p]) (rest := []) ⟨hx, hb, hml, hown, hts⟩ (k_isLevelF l D cI p H.size hc) (va_cwS 1 hts gX9_skips_X9_isLevel rfl rfl rfl (by decide +kernel) ⟨Nat.le_of_ble_eq_true rfl, Nat.le_of_ble_eq_true rfl⟩) (zPS hK hP hD [] rfl rfl [0] rfl) rfl rfl hl.1 rfl (lv_room (Nat.le_of_ble_eq_true rfl)) dX9_skips_6 ⟨Nat.le_of_ble_eq_true rfl, Nat.le_of_ble_eq_true rfl⟩) hP hD hS hA [] [0] rfl rfl rfl (by decide) (fun r _ H locs hw hP hD hS => ?_)
    have hP : va_P D vwCl [(mm, .inr (12, [.int 0, .ref mlv, .ref msr, .ref mrs, .ref mpa, .ref mnu, .ref mlt, .ref mpl, .ref mod, .ref mic, .ref mgo, .ref msk, .ref mfo, .int 0, .int 0, .ref mul, .ref mup, .ref mun, .int 0, .ref mfr, .ref mta, .int 0]))] H := hP
    have hD : va_D A [(mm, .inr (12, [.int 0, .ref mlv, .ref msr, .ref mrs, .ref mpa, .ref mnu, .ref mlt, .ref mpl, .ref mod, .ref mic, .ref mgo, .ref msk, .ref mfo, .int 0, .int 0, .ref mul, .ref mup, .ref mun, .int 0, .ref mfr, .ref mta, .int 0]))] := hD
    subst hw
    refine lv_if_eq (tgt := 22) hx hb dX9_skips_9 (by decide) (fun _ => ?_) (fun q => absurd q (by decide))
    refine lv_aload_n hx hb dX9_skips_22 rfl (lv_at hl 0 rfl) ?_
    refine lv_iconst (v := 1) hx hb dX9_skips_23 (by decide) ?_
    refine zc_i (wc := [(mm, .inr (12, [.int 0, .ref mlv, .ref msr, .ref mrs, .ref mpa, .ref mnu, .ref mlt, .ref mpl, .ref mod, .ref mic, .ref mgo, .ref msk, .ref mfo, .int 0, .int 0, .ref mul, .ref mup, .ref mun, .int 0, .ref mfr, .ref mta, .int 0]))]) (wr := []) (va_runV (As := [.int 1]) (rest := []) ⟨hx, hb, hml, hown, hts⟩ (k_fails l D cI mm mlv msr mrs mpa mnu mlt mpl mod mic mgo msk mfo mul mup mun mfr mta 0 1 0 0 0 0 H.size) (cwV 1 hts gX9_skips_X9_fails rfl rfl rfl (by decide +kernel) ⟨Nat.le_of_ble_eq_true rfl, Nat.le_of_ble_eq_true rfl⟩) (zPV hK hP hD [0] rfl rfl [0] rfl 0 rfl rfl rfl) rfl rfl hl.1 rfl (lv_room (Nat.le_of_ble_eq_true rfl)) dX9_skips_24 ⟨Nat.le_of_ble_eq_true rfl, Nat.le_of_ble_eq_true rfl⟩) hP hD hS hA [0] [] rfl rfl rfl (by decide) (fun r _ H locs hw hP hD hS => ?_)
    have hP : va_P D vwCl [(mm, .inr (12, [.int 1, .ref mlv, .ref msr, .ref mrs, .ref mpa, .ref mnu, .ref mlt, .ref mpl, .ref mod, .ref mic, .ref mgo, .ref msk, .ref mfo, .int 0, .int 0, .ref mul, .ref mup, .ref mun, .int 0, .ref mfr, .ref mta, .int 0]))] H := hP
    have hD : va_D A [(mm, .inr (12, [.int 1, .ref mlv, .ref msr, .ref mrs, .ref mpa, .ref mnu, .ref mlt, .ref mpl, .ref mod, .ref mic, .ref mgo, .ref msk, .ref mfo, .int 0, .int 0, .ref mul, .ref mup, .ref mun, .int 0, .ref mfr, .ref mta, .int 0]))] := hD
    subst hw
    obtain ⟨hP9, hD9⟩ := z_get hP hD [0] (wc := [(mm, .inr (12, [.int 1, .ref mlv, .ref msr, .ref mrs, .ref mpa, .ref mnu, .ref mlt, .ref mpl, .ref mod, .ref mic, .ref mgo, .ref msk, .ref mfo, .int 0, .int 0, .ref mul, .ref mup, .ref mun, .int 0, .ref mfr, .ref mta, .int 0]))]) rfl rfl
    exact W.iret (v := 0) hx hb hr (fun t ht hW => ⟨⟨0, (), rfl, rfl, by rw [ht]; exact hP9, hD9⟩, hS.F ht⟩) hS.2.2 dX9_skips_27

set_option maxHeartbeats 4000000 in
set_option maxRecDepth 100000 in
theorem m_skipF (l : Launch) (D : va_G) (cI : ClassId) (mm mlv msr mrs mpa mnu mlt mpl mod mic mgo msk mfo mul mup mun mfr mta : Nat) (t p q : Int32) (sz : Nat) (hp : ¬ zSk p q) : Met l yX9_skip wsX9_skip ({ frames := 3, cells := 0, slots := 0, locals := 67 }) (va_Pc [.ref mm, .int p, .int q] (zPre D [(cI, .int)] [(mm, .inr (12, [.int t, .ref mlv, .ref msr, .ref mrs, .ref mpa, .ref mnu, .ref mlt, .ref mpl, .ref mod, .ref mic, .ref mgo, .ref msk, .ref mfo, .int 0, .int 0, .ref mul, .ref mup, .ref mun, .int 0, .ref mfr, .ref mta, .int 0]))] sz)) (va_Qi (fun rv (_ : Unit) => rv = 0) (fun (_ : Unit) => zB D [(mm, .inr (12, [.int 1, .ref mlv, .ref msr, .ref mrs, .ref mpa, .ref mnu, .ref mlt, .ref mpl, .ref mod, .ref mic, .ref mgo, .ref msk, .ref mfo, .int 0, .int 0, .ref mul, .ref mup, .ref mun, .int 0, .ref mfr, .ref mta, .int 0]))] (va_A [(mm, .inr (12, [.int t, .ref mlv, .ref msr, .ref mrs, .ref mpa, .ref mnu, .ref mlt, .ref mpl, .ref mod, .ref mic, .ref mgo, .ref msk, .ref mfo, .int 0, .int 0, .ref mul, .ref mup, .ref mun, .int 0, .ref mfr, .ref mta, .int 0]))] sz)) (va_A [(mm, .inr (12, [.int t, .ref mlv, .ref msr, .ref mrs, .ref mpa, .ref mnu, .ref mlt, .ref mpl, .ref mod, .ref mic, .ref mgo, .ref msk, .ref mfo, .int 0, .int 0, .ref mul, .ref mup, .ref mun, .int 0, .ref mfr, .ref mta, .int 0]))] sz)) 0 0 (va_A [(mm, .inr (12, [.int t, .ref mlv, .ref msr, .ref mrs, .ref mpa, .ref mnu, .ref mlt, .ref mpl, .ref mod, .ref mic, .ref mgo, .ref msk, .ref mfo, .int 0, .int 0, .ref mul, .ref mup, .ref mun, .int 0, .ref mfr, .ref mta, .int 0]))] sz) := by
  refine Met.ofW (cc := cX9_skip) (maxL := 3) (ret := (some .int)) (by decide) rfl ?_
  intro P0 E0 s m args below meth C9 s₁ B hml hv
  obtain ⟨rfl, hsz, hP, hK, hD0⟩ := hv
  have hx := B.exec
  have hb := B.bytes
  have hr := B.returns
  have hts := atoms_spec (ws := wsX9_skip) B.pre
  have hown : s.vm.findClass RX9 = some m.cls := findClass_of_methodNamed B.named
  have hlocks := B.notSynchronized
  subst hsz
  have hD := hD0.self (sz := s.heap.size)
  generalize hAe : va_A [(mm, .inr (12, [.int t, .ref mlv, .ref msr, .ref mrs, .ref mpa, .ref mnu, .ref mlt, .ref mpl, .ref mod, .ref mic, .ref mgo, .ref msk, .ref mfo, .int 0, .int 0, .ref mul, .ref mup, .ref mun, .int 0, .ref mfr, .ref mta, .int 0]))] s.heap.size = A at hD ⊢
  have hA : ∀ q : Nat, s.heap.size ≤ q → A q := fun q h => by rw [← hAe]; exact Or.inr h
  have hS : va_S A s.heap s.heap [] := va_S.rf
  have hl := lv_entry ([.ref mm, .int p, .int q]) (n := 3) (Nat.le_of_ble_eq_true rfl)
  rw [lg_entry_eq]
  generalize (lg_sl ([.ref mm, .int p, .int q]) ++ List.replicate (3 - (lg_sl ([.ref mm, .int p, .int q])).length) Slot.unset).toArray = ls at hl ⊢
  have hl : lv_has ls 3 [(0, .ref mm), (1, .int p), (2, .int q)] := hl
  refine lv_aload_n hx hb dX9_skip_0 rfl (lv_at hl 0 rfl) ?_
  refine lv_iload_n hx hb dX9_skip_1 rfl (lv_at hl 1 rfl) ?_
  refine lv_iload_n hx hb dX9_skip_2 rfl (lv_at hl 2 rfl) ?_
  refine lv_iconst (v := 1) hx hb dX9_skip_3 (by decide) ?_
  refine zc_i (wc := [(mm, .inr (12, [.int t, .ref mlv, .ref msr, .ref mrs, .ref mpa, .ref mnu, .ref mlt, .ref mpl, .ref mod, .ref mic, .ref mgo, .ref msk, .ref mfo, .int 0, .int 0, .ref mul, .ref mup, .ref mun, .int 0, .ref mfr, .ref mta, .int 0]))]) (wr := []) (va_runV (As := [.int p, .int q, .int 1]) (rest := []) ⟨hx, hb, hml, hown, hts⟩ (k_skipsF l D cI mm mlv msr mrs mpa mnu mlt mpl mod mic mgo msk mfo mul mup mun mfr mta t p q 1 s.heap.size hp) (cwV 3 hts gX9_skip_X9_skips rfl rfl rfl (by decide +kernel) ⟨Nat.le_of_ble_eq_true rfl, Nat.le_of_ble_eq_true rfl⟩) (zPV hK hP hD [0] rfl rfl [0] rfl 0 rfl rfl rfl) rfl rfl hl.1 rfl (lv_room (Nat.le_of_ble_eq_true rfl)) dX9_skip_4 ⟨Nat.le_of_ble_eq_true rfl, Nat.le_of_ble_eq_true rfl⟩) hP hD hS hA [0] [] rfl rfl rfl (by decide) (fun r _ H locs hw hP hD hS => ?_)
  have hP : va_P D vwCl [(mm, .inr (12, [.int 1, .ref mlv, .ref msr, .ref mrs, .ref mpa, .ref mnu, .ref mlt, .ref mpl, .ref mod, .ref mic, .ref mgo, .ref msk, .ref mfo, .int 0, .int 0, .ref mul, .ref mup, .ref mun, .int 0, .ref mfr, .ref mta, .int 0]))] H := hP
  have hD : va_D A [(mm, .inr (12, [.int 1, .ref mlv, .ref msr, .ref mrs, .ref mpa, .ref mnu, .ref mlt, .ref mpl, .ref mod, .ref mic, .ref mgo, .ref msk, .ref mfo, .int 0, .int 0, .ref mul, .ref mup, .ref mun, .int 0, .ref mfr, .ref mta, .int 0]))] := hD
  subst hw
  obtain ⟨hP9, hD9⟩ := z_get hP hD [0] (wc := [(mm, .inr (12, [.int 1, .ref mlv, .ref msr, .ref mrs, .ref mpa, .ref mnu, .ref mlt, .ref mpl, .ref mod, .ref mic, .ref mgo, .ref msk, .ref mfo, .int 0, .int 0, .ref mul, .ref mup, .ref mun, .int 0, .ref mfr, .ref mta, .int 0]))]) rfl rfl
  exact W.iret (v := 0) hx hb hr (fun t ht hW => ⟨⟨0, (), rfl, rfl, by rw [ht]; exact hP9, hD9⟩, hS.F ht⟩) hS.2.2 dX9_skip_7

set_option maxHeartbeats 4000000 in
set_option maxRecDepth 100000 in
theorem m_unskipF (l : Launch) (D : va_G) (cI : ClassId) (mm mlv msr mrs mpa mnu mlt mpl mod mic mgo msk mfo mul mup mun mfr mta : Nat) (t p q : Int32) (sz : Nat) (hp : ¬ zSk p q) : Met l yX9_unskip wsX9_unskip ({ frames := 3, cells := 0, slots := 0, locals := 67 }) (va_Pc [.ref mm, .int p, .int q] (zPre D [(cI, .int)] [(mm, .inr (12, [.int t, .ref mlv, .ref msr, .ref mrs, .ref mpa, .ref mnu, .ref mlt, .ref mpl, .ref mod, .ref mic, .ref mgo, .ref msk, .ref mfo, .int 0, .int 0, .ref mul, .ref mup, .ref mun, .int 0, .ref mfr, .ref mta, .int 0]))] sz)) (va_Qi (fun rv (_ : Unit) => rv = 0) (fun (_ : Unit) => zB D [(mm, .inr (12, [.int 1, .ref mlv, .ref msr, .ref mrs, .ref mpa, .ref mnu, .ref mlt, .ref mpl, .ref mod, .ref mic, .ref mgo, .ref msk, .ref mfo, .int 0, .int 0, .ref mul, .ref mup, .ref mun, .int 0, .ref mfr, .ref mta, .int 0]))] (va_A [(mm, .inr (12, [.int t, .ref mlv, .ref msr, .ref mrs, .ref mpa, .ref mnu, .ref mlt, .ref mpl, .ref mod, .ref mic, .ref mgo, .ref msk, .ref mfo, .int 0, .int 0, .ref mul, .ref mup, .ref mun, .int 0, .ref mfr, .ref mta, .int 0]))] sz)) (va_A [(mm, .inr (12, [.int t, .ref mlv, .ref msr, .ref mrs, .ref mpa, .ref mnu, .ref mlt, .ref mpl, .ref mod, .ref mic, .ref mgo, .ref msk, .ref mfo, .int 0, .int 0, .ref mul, .ref mup, .ref mun, .int 0, .ref mfr, .ref mta, .int 0]))] sz)) 0 0 (va_A [(mm, .inr (12, [.int t, .ref mlv, .ref msr, .ref mrs, .ref mpa, .ref mnu, .ref mlt, .ref mpl, .ref mod, .ref mic, .ref mgo, .ref msk, .ref mfo, .int 0, .int 0, .ref mul, .ref mup, .ref mun, .int 0, .ref mfr, .ref mta, .int 0]))] sz) := by
  refine Met.ofW (cc := cX9_unskip) (maxL := 3) (ret := (some .int)) (by decide) rfl ?_
  intro P0 E0 s m args below meth C9 s₁ B hml hv
  obtain ⟨rfl, hsz, hP, hK, hD0⟩ := hv
  have hx := B.exec
  have hb := B.bytes
  have hr := B.returns
  have hts := atoms_spec (ws := wsX9_unskip) B.pre
  have hown : s.vm.findClass RX9 = some m.cls := findClass_of_methodNamed B.named
  have hlocks := B.notSynchronized
  subst hsz
  have hD := hD0.self (sz := s.heap.size)
  generalize hAe : va_A [(mm, .inr (12, [.int t, .ref mlv, .ref msr, .ref mrs, .ref mpa, .ref mnu, .ref mlt, .ref mpl, .ref mod, .ref mic, .ref mgo, .ref msk, .ref mfo, .int 0, .int 0, .ref mul, .ref mup, .ref mun, .int 0, .ref mfr, .ref mta, .int 0]))] s.heap.size = A at hD ⊢
  have hA : ∀ q : Nat, s.heap.size ≤ q → A q := fun q h => by rw [← hAe]; exact Or.inr h
  have hS : va_S A s.heap s.heap [] := va_S.rf
  have hl := lv_entry ([.ref mm, .int p, .int q]) (n := 3) (Nat.le_of_ble_eq_true rfl)
  rw [lg_entry_eq]
  generalize (lg_sl ([.ref mm, .int p, .int q]) ++ List.replicate (3 - (lg_sl ([.ref mm, .int p, .int q])).length) Slot.unset).toArray = ls at hl ⊢
  have hl : lv_has ls 3 [(0, .ref mm), (1, .int p), (2, .int q)] := hl
  refine lv_aload_n hx hb dX9_unskip_0 rfl (lv_at hl 0 rfl) ?_
  refine lv_iload_n hx hb dX9_unskip_1 rfl (lv_at hl 1 rfl) ?_
  refine lv_iload_n hx hb dX9_unskip_2 rfl (lv_at hl 2 rfl) ?_
  refine lv_iconst (v := 0) hx hb dX9_unskip_3 (by decide) ?_
  refine zc_i (wc := [(mm, .inr (12, [.int t, .ref mlv, .ref msr, .ref mrs, .ref mpa, .ref mnu, .ref mlt, .ref mpl, .ref mod, .ref mic, .ref mgo, .ref msk, .ref mfo, .int 0, .int 0, .ref mul, .ref mup, .ref mun, .int 0, .ref mfr, .ref mta, .int 0]))]) (wr := []) (va_runV (As := [.int p, .int q, .int 0]) (rest := []) ⟨hx, hb, hml, hown, hts⟩ (k_skipsF l D cI mm mlv msr mrs mpa mnu mlt mpl mod mic mgo msk mfo mul mup mun mfr mta t p q 0 s.heap.size hp) (cwV 3 hts gX9_unskip_X9_skips rfl rfl rfl (by decide +kernel) ⟨Nat.le_of_ble_eq_true rfl, Nat.le_of_ble_eq_true rfl⟩) (zPV hK hP hD [0] rfl rfl [0] rfl 0 rfl rfl rfl) rfl rfl hl.1 rfl (lv_room (Nat.le_of_ble_eq_true rfl)) dX9_unskip_4 ⟨Nat.le_of_ble_eq_true rfl, Nat.le_of_ble_eq_true rfl⟩) hP hD hS hA [0] [] rfl rfl rfl (by decide) (fun r _ H locs hw hP hD hS => ?_)
  have hP : va_P D vwCl [(mm, .inr (12, [.int 1, .ref mlv, .ref msr, .ref mrs, .ref mpa, .ref mnu, .ref mlt, .ref mpl, .ref mod, .ref mic, .ref mgo, .ref msk, .ref mfo, .int 0, .int 0, .ref mul, .ref mup, .ref mun, .int 0, .ref mfr, .ref mta, .int 0]))] H := hP
  have hD : va_D A [(mm, .inr (12, [.int 1, .ref mlv, .ref msr, .ref mrs, .ref mpa, .ref mnu, .ref mlt, .ref mpl, .ref mod, .ref mic, .ref mgo, .ref msk, .ref mfo, .int 0, .int 0, .ref mul, .ref mup, .ref mun, .int 0, .ref mfr, .ref mta, .int 0]))] := hD
  subst hw
  obtain ⟨hP9, hD9⟩ := z_get hP hD [0] (wc := [(mm, .inr (12, [.int 1, .ref mlv, .ref msr, .ref mrs, .ref mpa, .ref mnu, .ref mlt, .ref mpl, .ref mod, .ref mic, .ref mgo, .ref msk, .ref mfo, .int 0, .int 0, .ref mul, .ref mup, .ref mun, .int 0, .ref mfr, .ref mta, .int 0]))]) rfl rfl
  exact W.iret (v := 0) hx hb hr (fun t ht hW => ⟨⟨0, (), rfl, rfl, by rw [ht]; exact hP9, hD9⟩, hS.F ht⟩) hS.2.2 dX9_unskip_7

set_option maxHeartbeats 4000000 in
set_option maxRecDepth 100000 in
theorem m_unskip2 (l : Launch) (D : va_G) (cI cQ cZ : ClassId) (mm mlv msr mrs mpa mnu mlt mpl mod mic mgo msk mfo mul mup mun mfr mta yy : Nat) (t p q : Int32) (g : Nat → Option Nat) (sz : Nat) (hp : zSk p q) (hg : g p.toNatClampNeg = some yy) : Met l yX9_unskip wsX9_unskip ({ frames := 3, cells := 0, slots := 0, locals := 67 }) (va_Pc [.ref mm, .int p, .int q] (zPre D [(cI, .int), (cZ, .boolean), (cQ, .array .boolean)] [(mm, .inr (12, [.int t, .ref mlv, .ref msr, .ref mrs, .ref mpa, .ref mnu, .ref mlt, .ref mpl, .ref mod, .ref mic, .ref mgo, .ref msk, .ref mfo, .int 0, .int 0, .ref mul, .ref mup, .ref mun, .int 0, .ref mfr, .ref mta, .int 0])), (msk, .inl (cQ, 5, .inr (.inr (.inr (.inr g))))), (yy, .inl (cZ, 100, .inl (fun _ => 0)))] sz)) (va_Qi (fun rv (_ : Unit) => rv = 0) (fun (_ : Unit) => zB D [(mm, .inr (12, [.int 2, .ref mlv, .ref msr, .ref mrs, .ref mpa, .ref mnu, .ref mlt, .ref mpl, .ref mod, .ref mic, .ref mgo, .ref msk, .ref mfo, .int 0, .int 0, .ref mul, .ref mup, .ref mun, .int 0, .ref mfr, .ref mta, .int 0]))] (va_A [(mm, .inr (12, [.int t, .ref mlv, .ref msr, .ref mrs, .ref mpa, .ref mnu, .ref mlt, .ref mpl, .ref mod, .ref mic, .ref mgo, .ref msk, .ref mfo, .int 0, .int 0, .ref mul, .ref mup, .ref mun, .int 0, .ref mfr, .ref mta, .int 0])), (msk, .inl (cQ, 5, .inr (.inr (.inr (.inr g))))), (yy, .inl (cZ, 100, .inl (fun _ => 0)))] sz)) (va_A [(mm, .inr (12, [.int t, .ref mlv, .ref msr, .ref mrs, .ref mpa, .ref mnu, .ref mlt, .ref mpl, .ref mod, .ref mic, .ref mgo, .ref msk, .ref mfo, .int 0, .int 0, .ref mul, .ref mup, .ref mun, .int 0, .ref mfr, .ref mta, .int 0])), (msk, .inl (cQ, 5, .inr (.inr (.inr (.inr g))))), (yy, .inl (cZ, 100, .inl (fun _ => 0)))] sz)) 0 0 (va_A [(mm, .inr (12, [.int t, .ref mlv, .ref msr, .ref mrs, .ref mpa, .ref mnu, .ref mlt, .ref mpl, .ref mod, .ref mic, .ref mgo, .ref msk, .ref mfo, .int 0, .int 0, .ref mul, .ref mup, .ref mun, .int 0, .ref mfr, .ref mta, .int 0])), (msk, .inl (cQ, 5, .inr (.inr (.inr (.inr g))))), (yy, .inl (cZ, 100, .inl (fun _ => 0)))] sz) := by
  refine Met.ofW (cc := cX9_unskip) (maxL := 3) (ret := (some .int)) (by decide) rfl ?_
  intro P0 E0 s m args below meth C9 s₁ B hml hv
  obtain ⟨rfl, hsz, hP, hK, hD0⟩ := hv
  have hx := B.exec
  have hb := B.bytes
  have hr := B.returns
  have hts := atoms_spec (ws := wsX9_unskip) B.pre
  have hown : s.vm.findClass RX9 = some m.cls := findClass_of_methodNamed B.named
  have hlocks := B.notSynchronized
  subst hsz
  have hD := hD0.self (sz := s.heap.size)
  generalize hAe : va_A [(mm, .inr (12, [.int t, .ref mlv, .ref msr, .ref mrs, .ref mpa, .ref mnu, .ref mlt, .ref mpl, .ref mod, .ref mic, .ref mgo, .ref msk, .ref mfo, .int 0, .int 0, .ref mul, .ref mup, .ref mun, .int 0, .ref mfr, .ref mta, .int 0])), (msk, .inl (cQ, 5, .inr (.inr (.inr (.inr g))))), (yy, .inl (cZ, 100, .inl (fun _ => 0)))] s.heap.size = A at hD ⊢
  have hA : ∀ q : Nat, s.heap.size ≤ q → A q := fun q h => by rw [← hAe]; exact Or.inr h
  have hS : va_S A s.heap s.heap [] := va_S.rf
  have hl := lv_entry ([.ref mm, .int p, .int q]) (n := 3) (Nat.le_of_ble_eq_true rfl)
  rw [lg_entry_eq]
  generalize (lg_sl ([.ref mm, .int p, .int q]) ++ List.replicate (3 - (lg_sl ([.ref mm, .int p, .int q])).length) Slot.unset).toArray = ls at hl ⊢
  have hl : lv_has ls 3 [(0, .ref mm), (1, .int p), (2, .int q)] := hl
  refine lv_aload_n hx hb dX9_unskip_0 rfl (lv_at hl 0 rfl) ?_
  refine lv_iload_n hx hb dX9_unskip_1 rfl (lv_at hl 1 rfl) ?_
  refine lv_iload_n hx hb dX9_unskip_2 rfl (lv_at hl 2 rfl) ?_
  refine lv_iconst (v := 0) hx hb dX9_unskip_3 (by decide) ?_
  refine zc_i (wc := [(mm, .inr (12, [.int t, .ref mlv, .ref msr, .ref mrs, .ref mpa, .ref mnu, .ref mlt, .ref mpl, .ref mod, .ref mic, .ref mgo, .ref msk, .ref mfo, .int 0, .int 0, .ref mul, .ref mup, .ref mun, .int 0, .ref mfr, .ref mta, .int 0])), (msk, .inl (cQ, 5, .inr (.inr (.inr (.inr g))))), (yy, .inl (cZ, 100, .inl (fun _ => 0)))]) (wr := []) (va_runV (As := [.int p, .int q, .int 0]) (rest := []) ⟨hx, hb, hml, hown, hts⟩ (k_skips2 l D cI cQ cZ mm mlv msr mrs mpa mnu mlt mpl mod mic mgo msk mfo mul mup mun mfr mta yy t p q g s.heap.size hp hg) (cwV 3 hts gX9_unskip_X9_skips rfl rfl rfl (by decide +kernel) ⟨Nat.le_of_ble_eq_true rfl, Nat.le_of_ble_eq_true rfl⟩) (zPV hK hP hD [0, 1, 2] rfl rfl [0, 1, 2] rfl 0 rfl rfl rfl) rfl rfl hl.1 rfl (lv_room (Nat.le_of_ble_eq_true rfl)) dX9_unskip_4 ⟨Nat.le_of_ble_eq_true rfl, Nat.le_of_ble_eq_true rfl⟩) hP hD hS hA [0, 1, 2] [] rfl rfl rfl (by decide) (fun r _ H locs hw hP hD hS => ?_)
  have hP : va_P D vwCl [(mm, .inr (12, [.int 2, .ref mlv, .ref msr, .ref mrs, .ref mpa, .ref mnu, .ref mlt, .ref mpl, .ref mod, .ref mic, .ref mgo, .ref msk, .ref mfo, .int 0, .int 0, .ref mul, .ref mup, .ref mun, .int 0, .ref mfr, .ref mta, .int 0]))] H := hP
  have hD : va_D A [(mm, .inr (12, [.int 2, .ref mlv, .ref msr, .ref mrs, .ref mpa, .ref mnu, .ref mlt, .ref mpl, .ref mod, .ref mic, .ref mgo, .ref msk, .ref mfo, .int 0, .int 0, .ref mul, .ref mup, .ref mun, .int 0, .ref mfr, .ref mta, .int 0]))] := hD
  subst hw
  obtain ⟨hP9, hD9⟩ := z_get hP hD [0] (wc := [(mm, .inr (12, [.int 2, .ref mlv, .ref msr, .ref mrs, .ref mpa, .ref mnu, .ref mlt, .ref mpl, .ref mod, .ref mic, .ref mgo, .ref msk, .ref mfo, .int 0, .int 0, .ref mul, .ref mup, .ref mun, .int 0, .ref mfr, .ref mta, .int 0]))]) rfl rfl
  exact W.iret (v := 0) hx hb hr (fun t ht hW => ⟨⟨0, (), rfl, rfl, by rw [ht]; exact hP9, hD9⟩, hS.F ht⟩) hS.2.2 dX9_unskip_7

set_option maxHeartbeats 4000000 in
set_option maxRecDepth 100000 in
theorem k_isBetweenT (l : Launch) (D : va_G) (cI : ClassId) (v low high : Int32) (sz : Nat) (h1 : ¬ v < low) (h2 : ¬ high < v) : Met l yX9_isBetween wsX9_isBetween ({ frames := 0, cells := 0, slots := 0, locals := 0 }) (va_Pc [.int v, .int low, .int high] (zPre D [(cI, .int)] [] sz)) (va_Qi (fun rv (_ : Unit) => rv = 1) (fun (_ : Unit) => zB D [] (va_A [] sz)) (va_A [] sz)) 0 0 (va_A [] sz) := by
  refine Met.ofW (cc := cX9_isBetween) (maxL := 3) (ret := (some .boolean)) (by decide) rfl ?_
  intro P0 E0 s m args below meth C9 s₁ B hml hv
  obtain ⟨rfl, hsz, hP, hK, hD0⟩ := hv
  have hx := B.exec
  have hb := B.bytes
  have hr := B.returns
  have hts := atoms_spec (ws := wsX9_isBetween) B.pre
  have hown : s.vm.findClass RX9 = some m.cls := findClass_of_methodNamed B.named
  have hlocks := B.notSynchronized
  subst hsz
  have hD := hD0.self (sz := s.heap.size)
  generalize hAe : va_A [] s.heap.size = A at hD ⊢
  have hA : ∀ q : Nat, s.heap.size ≤ q → A q := fun q h => by rw [← hAe]; exact Or.inr h
  have hS : va_S A s.heap s.heap [] := va_S.rf
  have hl := lv_entry ([.int v, .int low, .int high]) (n := 3) (Nat.le_of_ble_eq_true rfl)
  rw [lg_entry_eq]
  generalize (lg_sl ([.int v, .int low, .int high]) ++ List.replicate (3 - (lg_sl ([.int v, .int low, .int high])).length) Slot.unset).toArray = ls at hl ⊢
  have hl : lv_has ls 3 [(0, .int v), (1, .int low), (2, .int high)] := hl
  refine lv_iload_n hx hb dX9_isBetween_0 rfl (lv_at hl 1 rfl) ?_
  refine lv_iload_n hx hb dX9_isBetween_1 rfl (lv_at hl 0 rfl) ?_
  refine lv_icmp_gt (tgt := 14) hx hb dX9_isBetween_2 (by decide) (fun q => absurd q h1) (fun _ => ?_)
  refine lv_iload_n hx hb dX9_isBetween_5 rfl (lv_at hl 0 rfl) ?_
  refine lv_iload_n hx hb dX9_isBetween_6 rfl (lv_at hl 2 rfl) ?_
  refine lv_icmp_gt (tgt := 14) hx hb dX9_isBetween_7 (by decide) (fun q => absurd q h2) (fun _ => ?_)
  refine lv_iconst (v := 1) hx hb dX9_isBetween_10 (by decide) ?_
  refine lv_goto (tgt := 15) hx hb dX9_isBetween_11 (by decide) ?_
  obtain ⟨hP9, hD9⟩ := z_get hP hD [] (wc := []) rfl rfl
  exact W.zret (ty := .boolean) (v := 1) hx hb hr rfl (fun t ht hW => ⟨⟨1, (), rfl, rfl, by rw [ht]; exact hP9, hD9⟩, hS.F ht⟩) hS.2.2 dX9_isBetween_15

set_option maxHeartbeats 4000000 in
set_option maxRecDepth 100000 in
theorem k_isBetweenF (l : Launch) (D : va_G) (cI : ClassId) (v low high : Int32) (sz : Nat) (h : ¬ (¬ v < low ∧ ¬ high < v)) : Met l yX9_isBetween wsX9_isBetween ({ frames := 0, cells := 0, slots := 0, locals := 0 }) (va_Pc [.int v, .int low, .int high] (zPre D [(cI, .int)] [] sz)) (va_Qi (fun rv (_ : Unit) => rv = 0) (fun (_ : Unit) => zB D [] (va_A [] sz)) (va_A [] sz)) 0 0 (va_A [] sz) := by
  refine Met.ofW (cc := cX9_isBetween) (maxL := 3) (ret := (some .boolean)) (by decide) rfl ?_
  intro P0 E0 s m args below meth C9 s₁ B hml hv
  obtain ⟨rfl, hsz, hP, hK, hD0⟩ := hv
  have hx := B.exec
  have hb := B.bytes
  have hr := B.returns
  have hts := atoms_spec (ws := wsX9_isBetween) B.pre
  have hown : s.vm.findClass RX9 = some m.cls := findClass_of_methodNamed B.named
  have hlocks := B.notSynchronized
  subst hsz
  have hD := hD0.self (sz := s.heap.size)
  generalize hAe : va_A [] s.heap.size = A at hD ⊢
  have hA : ∀ q : Nat, s.heap.size ≤ q → A q := fun q h => by rw [← hAe]; exact Or.inr h
  have hS : va_S A s.heap s.heap [] := va_S.rf
  have hl := lv_entry ([.int v, .int low, .int high]) (n := 3) (Nat.le_of_ble_eq_true rfl)
  rw [lg_entry_eq]
  generalize (lg_sl ([.int v, .int low, .int high]) ++ List.replicate (3 - (lg_sl ([.int v, .int low, .int high])).length) Slot.unset).toArray = ls at hl ⊢
  have hl : lv_has ls 3 [(0, .int v), (1, .int low), (2, .int high)] := hl
  refine lv_iload_n hx hb dX9_isBetween_0 rfl (lv_at hl 1 rfl) ?_
  refine lv_iload_n hx hb dX9_isBetween_1 rfl (lv_at hl 0 rfl) ?_
  refine lv_icmp_gt (tgt := 14) hx hb dX9_isBetween_2 (by decide) (fun c1 => ?_) (fun c1 => ?_)
  · refine lv_iconst (v := 0) hx hb dX9_isBetween_14 (by decide) ?_
    obtain ⟨hP9, hD9⟩ := z_get hP hD [] (wc := []) rfl rfl
    exact W.zret (ty := .boolean) (v := 0) hx hb hr rfl (fun t ht hW => ⟨⟨0, (), rfl, rfl, by rw [ht]; exact hP9, hD9⟩, hS.F ht⟩) hS.2.2 dX9_isBetween_15
  · refine lv_iload_n hx hb dX9_isBetween_5 rfl (lv_at hl 0 rfl) ?_
    refine lv_iload_n hx hb dX9_isBetween_6 rfl (lv_at hl 2 rfl) ?_
    refine lv_icmp_gt (tgt := 14) hx hb dX9_isBetween_7 (by decide) (fun _ => ?_) (fun q => absurd q (fun q => h ⟨c1, q⟩))
    refine lv_iconst (v := 0) hx hb dX9_isBetween_14 (by decide) ?_
    obtain ⟨hP9, hD9⟩ := z_get hP hD [] (wc := []) rfl rfl
    exact W.zret (ty := .boolean) (v := 0) hx hb hr rfl (fun t ht hW => ⟨⟨0, (), rfl, rfl, by rw [ht]; exact hP9, hD9⟩, hS.F ht⟩) hS.2.2 dX9_isBetween_15

set_option maxHeartbeats 4000000 in
set_option maxRecDepth 100000 in
theorem k_fails (l : Launch) (D : va_G) (cI : ClassId) (mm mlv msr mrs mpa mnu mlt mpl mod mic mgo msk mfo mul mup mun mfr mta : Nat) (t w : Int32) (nn ns nu nr : Int32) (sz : Nat) : Met l yX9_fails wsX9_fails ({ frames := 0, cells := 0, slots := 0, locals := 0 }) (va_Pc [.ref mm, .int w] (zPre D [(cI, .int)] [(mm, .inr (12, [.int t, .ref mlv, .ref msr, .ref mrs, .ref mpa, .ref mnu, .ref mlt, .ref mpl, .ref mod, .ref mic, .ref mgo, .ref msk, .ref mfo, .int nn, .int ns, .ref mul, .ref mup, .ref mun, .int nu, .ref mfr, .ref mta, .int nr]))] sz)) (va_Qi (fun rv (_ : Unit) => rv = 0) (fun (_ : Unit) => zB D [(mm, .inr (12, [.int w, .ref mlv, .ref msr, .ref mrs, .ref mpa, .ref mnu, .ref mlt, .ref mpl, .ref mod, .ref mic, .ref mgo, .ref msk, .ref mfo, .int nn, .int ns, .ref mul, .ref mup, .ref mun, .int nu, .ref mfr, .ref mta, .int nr]))] (va_A [(mm, .inr (12, [.int t, .ref mlv, .ref msr, .ref mrs, .ref mpa, .ref mnu, .ref mlt, .ref mpl, .ref mod, .ref mic, .ref mgo, .ref msk, .ref mfo, .int nn, .int ns, .ref mul, .ref mup, .ref mun, .int nu, .ref mfr, .ref mta, .int nr]))] sz)) (va_A [(mm, .inr (12, [.int t, .ref mlv, .ref msr, .ref mrs, .ref mpa, .ref mnu, .ref mlt, .ref mpl, .ref mod, .ref mic, .ref mgo, .ref msk, .ref mfo, .int nn, .int ns, .ref mul, .ref mup, .ref mun, .int nu, .ref mfr, .ref mta, .int nr]))] sz)) 0 0 (va_A [(mm, .inr (12, [.int t, .ref mlv, .ref msr, .ref mrs, .ref mpa, .ref mnu, .ref mlt, .ref mpl, .ref mod, .ref mic, .ref mgo, .ref msk, .ref mfo, .int nn, .int ns, .ref mul, .ref mup, .ref mun, .int nu, .ref mfr, .ref mta, .int nr]))] sz) := by
  refine Met.ofW (cc := cX9_fails) (maxL := 2) (ret := (some .int)) (by decide) rfl ?_
  intro P0 E0 s m args below meth C9 s₁ B hml hv
  obtain ⟨rfl, hsz, hP, hK, hD0⟩ := hv
  have hx := B.exec
  have hb := B.bytes
  have hr := B.returns
  have hts := atoms_spec (ws := wsX9_fails) B.pre
  have hown : s.vm.findClass RX9 = some m.cls := findClass_of_methodNamed B.named
  have hlocks := B.notSynchronized
  subst hsz
  have hD := hD0.self (sz := s.heap.size)
  generalize hAe : va_A [(mm, .inr (12, [.int t, .ref mlv, .ref msr, .ref mrs, .ref mpa, .ref mnu, .ref mlt, .ref mpl, .ref mod, .ref mic, .ref mgo, .ref msk, .ref mfo, .int nn, .int ns, .ref mul, .ref mup, .ref mun, .int nu, .ref mfr, .ref mta, .int nr]))] s.heap.size = A at hD ⊢
  have hA : ∀ q : Nat, s.heap.size ≤ q → A q := fun q h => by rw [← hAe]; exact Or.inr h
  have hS : va_S A s.heap s.heap [] := va_S.rf
  have hl := lv_entry ([.ref mm, .int w]) (n := 2) (Nat.le_of_ble_eq_true rfl)
  rw [lg_entry_eq]
  generalize (lg_sl ([.ref mm, .int w]) ++ List.replicate (2 - (lg_sl ([.ref mm, .int w])).length) Slot.unset).toArray = ls at hl ⊢
  have hl : lv_has ls 2 [(0, .ref mm), (1, .int w)] := hl
  refine lv_aload_n hx hb dX9_fails_0 rfl (lv_at hl 0 rfl) ?_
  refine lv_iload_n hx hb dX9_fails_1 rfl (lv_at hl 1 rfl) ?_
  refine va_put (D := D) (ci := 12) (v := .int w) (ty := .int) (C := RX9) (T := TX9) (N := 22) hx hb hts (fun _ h => List.mem_cons_of_mem _ (List.mem_append_right _ h)) tyX9 tyX9_ok nmX9 hown hK hP hD hS 0 rfl rfl 0 (by decide) (hts (.fieldLink RX9 65 "NumberingTreeModel" "thrown" "I") (List.mem_of_getElem? (i := 1) rfl)) (fun _ h9 => h9) rfl (by decide +kernel) rfl rfl (Nat.le_of_ble_eq_true rfl) dX9_fails_2 (fun H locs hP hD hS => ?_)
  have hP : va_P D vwCl [(mm, .inr (12, [.int w, .ref mlv, .ref msr, .ref mrs, .ref mpa, .ref mnu, .ref mlt, .ref mpl, .ref mod, .ref mic, .ref mgo, .ref msk, .ref mfo, .int nn, .int ns, .ref mul, .ref mup, .ref mun, .int nu, .ref mfr, .ref mta, .int nr]))] H := hP
  have hD : va_D A [(mm, .inr (12, [.int w, .ref mlv, .ref msr, .ref mrs, .ref mpa, .ref mnu, .ref mlt, .ref mpl, .ref mod, .ref mic, .ref mgo, .ref msk, .ref mfo, .int nn, .int ns, .ref mul, .ref mup, .ref mun, .int nu, .ref mfr, .ref mta, .int nr]))] := hD
  refine lv_iconst (v := 0) hx hb dX9_fails_5 (by decide) ?_
  obtain ⟨hP9, hD9⟩ := z_get hP hD [0] (wc := [(mm, .inr (12, [.int w, .ref mlv, .ref msr, .ref mrs, .ref mpa, .ref mnu, .ref mlt, .ref mpl, .ref mod, .ref mic, .ref mgo, .ref msk, .ref mfo, .int nn, .int ns, .ref mul, .ref mup, .ref mun, .int nu, .ref mfr, .ref mta, .int nr]))]) rfl rfl
  exact W.iret (v := 0) hx hb hr (fun t ht hW => ⟨⟨0, (), rfl, rfl, by rw [ht]; exact hP9, hD9⟩, hS.F ht⟩) hS.2.2 dX9_fails_6

set_option maxHeartbeats 4000000 in
set_option maxRecDepth 100000 in
theorem k_isWrong (l : Launch) (D : va_G) (cI : ClassId) (mm mlv msr mrs mpa mnu mlt mpl mod mic mgo msk mfo mul mup mun mfr mta : Nat) (t w : Int32) (sz : Nat) : Met l yX9_isWrong wsX9_isWrong ({ frames := 0, cells := 0, slots := 0, locals := 0 }) (va_Pc [.ref mm, .int w] (zPre D [(cI, .int)] [(mm, .inr (12, [.int t, .ref mlv, .ref msr, .ref mrs, .ref mpa, .ref mnu, .ref mlt, .ref mpl, .ref mod, .ref mic, .ref mgo, .ref msk, .ref mfo, .int 0, .int 0, .ref mul, .ref mup, .ref mun, .int 0, .ref mfr, .ref mta, .int 0]))] sz)) (va_Qi (fun rv (_ : Unit) => rv = 0) (fun (_ : Unit) => zB D [(mm, .inr (12, [.int w, .ref mlv, .ref msr, .ref mrs, .ref mpa, .ref mnu, .ref mlt, .ref mpl, .ref mod, .ref mic, .ref mgo, .ref msk, .ref mfo, .int 0, .int 0, .ref mul, .ref mup, .ref mun, .int 0, .ref mfr, .ref mta, .int 0]))] (va_A [(mm, .inr (12, [.int t, .ref mlv, .ref msr, .ref mrs, .ref mpa, .ref mnu, .ref mlt, .ref mpl, .ref mod, .ref mic, .ref mgo, .ref msk, .ref mfo, .int 0, .int 0, .ref mul, .ref mup, .ref mun, .int 0, .ref mfr, .ref mta, .int 0]))] sz)) (va_A [(mm, .inr (12, [.int t, .ref mlv, .ref msr, .ref mrs, .ref mpa, .ref mnu, .ref mlt, .ref mpl, .ref mod, .ref mic, .ref mgo, .ref msk, .ref mfo, .int 0, .int 0, .ref mul, .ref mup, .ref mun, .int 0, .ref mfr, .ref mta, .int 0]))] sz)) 0 0 (va_A [(mm, .inr (12, [.int t, .ref mlv, .ref msr, .ref mrs, .ref mpa, .ref mnu, .ref mlt, .ref mpl, .ref mod, .ref mic, .ref mgo, .ref msk, .ref mfo, .int 0, .int 0, .ref mul, .ref mup, .ref mun, .int 0, .ref mfr, .ref mta, .int 0]))] sz) := by
  refine Met.ofW (cc := cX9_isWrong) (maxL := 2) (ret := (some .boolean)) (by decide) rfl ?_
  intro P0 E0 s m args below meth C9 s₁ B hml hv
  obtain ⟨rfl, hsz, hP, hK, hD0⟩ := hv
  have hx := B.exec
  have hb := B.bytes
  have hr := B.returns
  have hts := atoms_spec (ws := wsX9_isWrong) B.pre
  have hown : s.vm.findClass RX9 = some m.cls := findClass_of_methodNamed B.named
  have hlocks := B.notSynchronized
  subst hsz
  have hD := hD0.self (sz := s.heap.size)
  generalize hAe : va_A [(mm, .inr (12, [.int t, .ref mlv, .ref msr, .ref mrs, .ref mpa, .ref mnu, .ref mlt, .ref mpl, .ref mod, .ref mic, .ref mgo, .ref msk, .ref mfo, .int 0, .int 0, .ref mul, .ref mup, .ref mun, .int 0, .ref mfr, .ref mta, .int 0]))] s.heap.size = A at hD ⊢
  have hA : ∀ q : Nat, s.heap.size ≤ q → A q := fun q h => by rw [← hAe]; exact Or.inr h
  have hS : va_S A s.heap s.heap [] := va_S.rf
  have hl := lv_entry ([.ref mm, .int w]) (n := 2) (Nat.le_of_ble_eq_true rfl)
  rw [lg_entry_eq]
  generalize (lg_sl ([.ref mm, .int w]) ++ List.replicate (2 - (lg_sl ([.ref mm, .int w])).length) Slot.unset).toArray = ls at hl ⊢
  have hl : lv_has ls 2 [(0, .ref mm), (1, .int w)] := hl
  refine lv_aload_n hx hb dX9_isWrong_0 rfl (lv_at hl 0 rfl) ?_
  refine lv_iload_n hx hb dX9_isWrong_1 rfl (lv_at hl 1 rfl) ?_
  refine va_put (D := D) (ci := 12) (v := .int w) (ty := .int) (C := RX9) (T := TX9) (N := 22) hx hb hts (fun _ h => List.mem_cons_of_mem _ (List.mem_append_right _ h)) tyX9 tyX9_ok nmX9 hown hK hP hD hS 0 rfl rfl 0 (by decide) (hts (.fieldLink RX9 65 "NumberingTreeModel" "thrown" "I") (List.mem_of_getElem? (i := 1) rfl)) (fun _ h9 => h9) rfl (by decide +kernel) rfl rfl (Nat.le_of_ble_eq_true rfl) dX9_isWrong_2 (fun H locs hP hD hS => ?_)
  have hP : va_P D vwCl [(mm, .inr (12, [.int w, .ref mlv, .ref msr, .ref mrs, .ref mpa, .ref mnu, .ref mlt, .ref mpl, .ref mod, .ref mic, .ref mgo, .ref msk, .ref mfo, .int 0, .int 0, .ref mul, .ref mup, .ref mun, .int 0, .ref mfr, .ref mta, .int 0]))] H := hP
  have hD : va_D A [(mm, .inr (12, [.int w, .ref mlv, .ref msr, .ref mrs, .ref mpa, .ref mnu, .ref mlt, .ref mpl, .ref mod, .ref mic, .ref mgo, .ref msk, .ref mfo, .int 0, .int 0, .ref mul, .ref mup, .ref mun, .int 0, .ref mfr, .ref mta, .int 0]))] := hD
  refine lv_iconst (v := 0) hx hb dX9_isWrong_5 (by decide) ?_
  obtain ⟨hP9, hD9⟩ := z_get hP hD [0] (wc := [(mm, .inr (12, [.int w, .ref mlv, .ref msr, .ref mrs, .ref mpa, .ref mnu, .ref mlt, .ref mpl, .ref mod, .ref mic, .ref mgo, .ref msk, .ref mfo, .int 0, .int 0, .ref mul, .ref mup, .ref mun, .int 0, .ref mfr, .ref mta, .int 0]))]) rfl rfl
  exact W.zret (ty := .boolean) (v := 0) hx hb hr rfl (fun t ht hW => ⟨⟨0, (), rfl, rfl, by rw [ht]; exact hP9, hD9⟩, hS.F ht⟩) hS.2.2 dX9_isWrong_6

set_option maxHeartbeats 4000000 in
set_option maxRecDepth 100000 in
theorem k_thrown (l : Launch) (D : va_G) (cI : ClassId) (mm mlv msr mrs mpa mnu mlt mpl mod mic mgo msk mfo mul mup mun mfr mta : Nat) (tt nn ns nu nr : Int32) (sz : Nat) : Met l yX9_thrown wsX9_thrown ({ frames := 0, cells := 0, slots := 0, locals := 0 }) (va_Pc [.ref mm] (zPre D [(cI, .int)] [(mm, .inr (12, [.int tt, .ref mlv, .ref msr, .ref mrs, .ref mpa, .ref mnu, .ref mlt, .ref mpl, .ref mod, .ref mic, .ref mgo, .ref msk, .ref mfo, .int nn, .int ns, .ref mul, .ref mup, .ref mun, .int nu, .ref mfr, .ref mta, .int nr]))] sz)) (va_Qi (fun rv (_ : Unit) => rv = tt) (fun (_ : Unit) => zB D [(mm, .inr (12, [.int tt, .ref mlv, .ref msr, .ref mrs, .ref mpa, .ref mnu, .ref mlt, .ref mpl, .ref mod, .ref mic, .ref mgo, .ref msk, .ref mfo, .int nn, .int ns, .ref mul, .ref mup, .ref mun, .int nu, .ref mfr, .ref mta, .int nr]))] (va_A [(mm, .inr (12, [.int tt, .ref mlv, .ref msr, .ref mrs, .ref mpa, .ref mnu, .ref mlt, .ref mpl, .ref mod, .ref mic, .ref mgo, .ref msk, .ref mfo, .int nn, .int ns, .ref mul, .ref mup, .ref mun, .int nu, .ref mfr, .ref mta, .int nr]))] sz)) (va_A [(mm, .inr (12, [.int tt, .ref mlv, .ref msr, .ref mrs, .ref mpa, .ref mnu, .ref mlt, .ref mpl, .ref mod, .ref mic, .ref mgo, .ref msk, .ref mfo, .int nn, .int ns, .ref mul, .ref mup, .ref mun, .int nu, .ref mfr, .ref mta, .int nr]))] sz)) 0 0 (va_A [(mm, .inr (12, [.int tt, .ref mlv, .ref msr, .ref mrs, .ref mpa, .ref mnu, .ref mlt, .ref mpl, .ref mod, .ref mic, .ref mgo, .ref msk, .ref mfo, .int nn, .int ns, .ref mul, .ref mup, .ref mun, .int nu, .ref mfr, .ref mta, .int nr]))] sz) := by
  refine Met.ofW (cc := cX9_thrown) (maxL := 1) (ret := (some .int)) (by decide) rfl ?_
  intro P0 E0 s m args below meth C9 s₁ B hml hv
  obtain ⟨rfl, hsz, hP, hK, hD0⟩ := hv
  have hx := B.exec
  have hb := B.bytes
  have hr := B.returns
  have hts := atoms_spec (ws := wsX9_thrown) B.pre
  have hown : s.vm.findClass RX9 = some m.cls := findClass_of_methodNamed B.named
  have hlocks := B.notSynchronized
  subst hsz
  have hD := hD0.self (sz := s.heap.size)
  generalize hAe : va_A [(mm, .inr (12, [.int tt, .ref mlv, .ref msr, .ref mrs, .ref mpa, .ref mnu, .ref mlt, .ref mpl, .ref mod, .ref mic, .ref mgo, .ref msk, .ref mfo, .int nn, .int ns, .ref mul, .ref mup, .ref mun, .int nu, .ref mfr, .ref mta, .int nr]))] s.heap.size = A at hD ⊢
  have hA : ∀ q : Nat, s.heap.size ≤ q → A q := fun q h => by rw [← hAe]; exact Or.inr h
  have hS : va_S A s.heap s.heap [] := va_S.rf
  have hl := lv_entry ([.ref mm]) (n := 1) (Nat.le_of_ble_eq_true rfl)
  rw [lg_entry_eq]
  generalize (lg_sl ([.ref mm]) ++ List.replicate (1 - (lg_sl ([.ref mm])).length) Slot.unset).toArray = ls at hl ⊢
  have hl : lv_has ls 1 [(0, .ref mm)] := hl
  refine lv_aload_n hx hb dX9_thrown_0 rfl (lv_at hl 0 rfl) ?_
  refine va_get (D := D) (ci := 12) (v := .int tt) (C := RX9) (T := TX9) (N := 22) hx hb hts (fun _ h => List.mem_cons_of_mem _ (List.mem_append_right _ h)) hown hK hP 0 rfl rfl 0 (by decide) (hts (.fieldLink RX9 65 "NumberingTreeModel" "thrown" "I") (List.mem_of_getElem? (i := 1) rfl)) (fun _ h9 => h9) rfl dX9_thrown_1 ?_
  obtain ⟨hP9, hD9⟩ := z_get hP hD [0] (wc := [(mm, .inr (12, [.int tt, .ref mlv, .ref msr, .ref mrs, .ref mpa, .ref mnu, .ref mlt, .ref mpl, .ref mod, .ref mic, .ref mgo, .ref msk, .ref mfo, .int nn, .int ns, .ref mul, .ref mup, .ref mun, .int nu, .ref mfr, .ref mta, .int nr]))]) rfl rfl
  exact W.iret (v := tt) hx hb hr (fun t ht hW => ⟨⟨tt, (), rfl, rfl, by rw [ht]; exact hP9, hD9⟩, hS.F ht⟩) hS.2.2 dX9_thrown_4

set_option maxHeartbeats 4000000 in
set_option maxRecDepth 100000 in
theorem k_isThere0 (l : Launch) (D : va_G) (cI : ClassId) (mm mlv msr mrs mpa mnu mlt mpl mod mic mgo msk mfo mul mup mun mfr mta : Nat) (t i : Int32) (sz : Nat) : Met l yX9_isThere wsX9_isThere ({ frames := 1, cells := 0, slots := 0, locals := 22 }) (va_Pc [.ref mm, .int i] (zPre D [(cI, .int)] [(mm, .inr (12, [.int t, .ref mlv, .ref msr, .ref mrs, .ref mpa, .ref mnu, .ref mlt, .ref mpl, .ref mod, .ref mic, .ref mgo, .ref msk, .ref mfo, .int 0, .int 0, .ref mul, .ref mup, .ref mun, .int 0, .ref mfr, .ref mta, .int 0]))] sz)) (va_Qi (fun rv (_ : Unit) => rv = 0) (fun (_ : Unit) => zB D [(mm, .inr (12, [.int t, .ref mlv, .ref msr, .ref mrs, .ref mpa, .ref mnu, .ref mlt, .ref mpl, .ref mod, .ref mic, .ref mgo, .ref msk, .ref mfo, .int 0, .int 0, .ref mul, .ref mup, .ref mun, .int 0, .ref mfr, .ref mta, .int 0]))] (va_A [(mm, .inr (12, [.int t, .ref mlv, .ref msr, .ref mrs, .ref mpa, .ref mnu, .ref mlt, .ref mpl, .ref mod, .ref mic, .ref mgo, .ref msk, .ref mfo, .int 0, .int 0, .ref mul, .ref mup, .ref mun, .int 0, .ref mfr, .ref mta, .int 0]))] sz)) (va_A [(mm, .inr (12, [.int t, .ref mlv, .ref msr, .ref mrs, .ref mpa, .ref mnu, .ref mlt, .ref mpl, .ref mod, .ref mic, .ref mgo, .ref msk, .ref mfo, .int 0, .int 0, .ref mul, .ref mup, .ref mun, .int 0, .ref mfr, .ref mta, .int 0]))] sz)) 0 0 (va_A [(mm, .inr (12, [.int t, .ref mlv, .ref msr, .ref mrs, .ref mpa, .ref mnu, .ref mlt, .ref mpl, .ref mod, .ref mic, .ref mgo, .ref msk, .ref mfo, .int 0, .int 0, .ref mul, .ref mup, .ref mun, .int 0, .ref mfr, .ref mta, .int 0]))] sz) := by
  refine Met.ofW (cc := cX9_isThere) (maxL := 2) (ret := (some .boolean)) (by decide) rfl ?_
  intro P0 E0 s m args below meth C9 s₁ B hml hv
  obtain ⟨rfl, hsz, hP, hK, hD0⟩ := hv
  have hx := B.exec
  have hb := B.bytes
  have hr := B.returns
  have hts := atoms_spec (ws := wsX9_isThere) B.pre
  have hown : s.vm.findClass RX9 = some m.cls := findClass_of_methodNamed B.named
  have hlocks := B.notSynchronized
  subst hsz
  have hD := hD0.self (sz := s.heap.size)
  generalize hAe : va_A [(mm, .inr (12, [.int t, .ref mlv, .ref msr, .ref mrs, .ref mpa, .ref mnu, .ref mlt, .ref mpl, .ref mod, .ref mic, .ref mgo, .ref msk, .ref mfo, .int 0, .int 0, .ref mul, .ref mup, .ref mun, .int 0, .ref mfr, .ref mta, .int 0]))] s.heap.size = A at hD ⊢
  have hA : ∀ q : Nat, s.heap.size ≤ q → A q := fun q h => by rw [← hAe]; exact Or.inr h
  have hS : va_S A s.heap s.heap [] := va_S.rf
  have hl := lv_entry ([.ref mm, .int i]) (n := 2) (Nat.le_of_ble_eq_true rfl)
  rw [lg_entry_eq]
  generalize (lg_sl ([.ref mm, .int i]) ++ List.replicate (2 - (lg_sl ([.ref mm, .int i])).length) Slot.unset).toArray = ls at hl ⊢
  have hl : lv_has ls 2 [(0, .ref mm), (1, .int i)] := hl
  refine lv_iload_n hx hb dX9_isThere_0 rfl (lv_at hl 1 rfl) ?_
  refine lv_iconst (v := 0) hx hb dX9_isThere_1 (by decide) ?_
  refine lv_aload_n hx hb dX9_isThere_2 rfl (lv_at hl 0 rfl) ?_
  refine va_get (D := D) (ci := 12) (v := .int 0) (C := RX9) (T := TX9) (N := 22) hx hb hts (fun _ h => List.mem_cons_of_mem _ (List.mem_append_left _ (List.mem_append_right _ h))) hown hK hP 0 rfl rfl 13 (by decide) (hts (.fieldLink RX9 69 "NumberingTreeModel" "names" "I") (List.mem_of_getElem? (i := 1) rfl)) (fun _ h9 => h9) rfl dX9_isThere_3 ?_
  refine lv_iconst (v := 1) hx hb dX9_isThere_6 (by decide) ?_
  refine lv_isub hx hb dX9_isThere_7 ?_
  refine zt_i (-1) (by decide) ?_
  refine zc_i (wc := []) (wr := [(mm, .inr (12, [.int t, .ref mlv, .ref msr, .ref mrs, .ref mpa, .ref mnu, .ref mlt, .ref mpl, .ref mod, .ref mic, .ref mgo, .ref msk, .ref mfo, .int 0, .int 0, .ref mul, .ref mup, .ref mun, .int 0, .ref mfr, .ref mta, .int 0]))]) (va_runS (As := [.int i, .int 0, .int (-1)]) (rest := []) ⟨hx, hb, hml, hown, hts⟩ (k_isBetweenF l D cI i 0 (-1) s.heap.size (zI_nb i)) (va_cwS 3 hts gX9_isThere_X9_isBetween rfl rfl rfl (by decide +kernel) ⟨Nat.le_of_ble_eq_true rfl, Nat.le_of_ble_eq_true rfl⟩) (zPS hK hP hD [] rfl rfl [0] rfl) rfl rfl hl.1 rfl (lv_room (Nat.le_of_ble_eq_true rfl)) dX9_isThere_8 ⟨Nat.le_of_ble_eq_true rfl, Nat.le_of_ble_eq_true rfl⟩) hP hD hS hA [] [0] rfl rfl rfl (by decide) (fun r _ H locs hw hP hD hS => ?_)
  have hP : va_P D vwCl [(mm, .inr (12, [.int t, .ref mlv, .ref msr, .ref mrs, .ref mpa, .ref mnu, .ref mlt, .ref mpl, .ref mod, .ref mic, .ref mgo, .ref msk, .ref mfo, .int 0, .int 0, .ref mul, .ref mup, .ref mun, .int 0, .ref mfr, .ref mta, .int 0]))] H := hP
  have hD : va_D A [(mm, .inr (12, [.int t, .ref mlv, .ref msr, .ref mrs, .ref mpa, .ref mnu, .ref mlt, .ref mpl, .ref mod, .ref mic, .ref mgo, .ref msk, .ref mfo, .int 0, .int 0, .ref mul, .ref mup, .ref mun, .int 0, .ref mfr, .ref mta, .int 0]))] := hD
  subst hw
  refine lv_if_eq (tgt := 27) hx hb dX9_isThere_11 (by decide) (fun _ => ?_) (fun q => absurd q (by decide))
  refine lv_iconst (v := 0) hx hb dX9_isThere_27 (by decide) ?_
  obtain ⟨hP9, hD9⟩ := z_get hP hD [0] (wc := [(mm, .inr (12, [.int t, .ref mlv, .ref msr, .ref mrs, .ref mpa, .ref mnu, .ref mlt, .ref mpl, .ref mod, .ref mic, .ref mgo, .ref msk, .ref mfo, .int 0, .int 0, .ref mul, .ref mup, .ref mun, .int 0, .ref mfr, .ref mta, .int 0]))]) rfl rfl
  exact W.zret (ty := .boolean) (v := 0) hx hb hr rfl (fun t ht hW => ⟨⟨0, (), rfl, rfl, by rw [ht]; exact hP9, hD9⟩, hS.F ht⟩) hS.2.2 dX9_isThere_28

set_option maxHeartbeats 4000000 in
set_option maxRecDepth 100000 in
theorem k_isGone0 (l : Launch) (D : va_G) (cI : ClassId) (mm mlv msr mrs mpa mnu mlt mpl mod mic mgo msk mfo mul mup mun mfr mta : Nat) (t i : Int32) (sz : Nat) : Met l yX9_isGone wsX9_isGone ({ frames := 2, cells := 0, slots := 0, locals := 43 }) (va_Pc [.ref mm, .int i] (zPre D [(cI, .int)] [(mm, .inr (12, [.int t, .ref mlv, .ref msr, .ref mrs, .ref mpa, .ref mnu, .ref mlt, .ref mpl, .ref mod, .ref mic, .ref mgo, .ref msk, .ref mfo, .int 0, .int 0, .ref mul, .ref mup, .ref mun, .int 0, .ref mfr, .ref mta, .int 0]))] sz)) (va_Qi (fun rv (_ : Unit) => rv = 1) (fun (_ : Unit) => zB D [(mm, .inr (12, [.int 1, .ref mlv, .ref msr, .ref mrs, .ref mpa, .ref mnu, .ref mlt, .ref mpl, .ref mod, .ref mic, .ref mgo, .ref msk, .ref mfo, .int 0, .int 0, .ref mul, .ref mup, .ref mun, .int 0, .ref mfr, .ref mta, .int 0]))] (va_A [(mm, .inr (12, [.int t, .ref mlv, .ref msr, .ref mrs, .ref mpa, .ref mnu, .ref mlt, .ref mpl, .ref mod, .ref mic, .ref mgo, .ref msk, .ref mfo, .int 0, .int 0, .ref mul, .ref mup, .ref mun, .int 0, .ref mfr, .ref mta, .int 0]))] sz)) (va_A [(mm, .inr (12, [.int t, .ref mlv, .ref msr, .ref mrs, .ref mpa, .ref mnu, .ref mlt, .ref mpl, .ref mod, .ref mic, .ref mgo, .ref msk, .ref mfo, .int 0, .int 0, .ref mul, .ref mup, .ref mun, .int 0, .ref mfr, .ref mta, .int 0]))] sz)) 0 0 (va_A [(mm, .inr (12, [.int t, .ref mlv, .ref msr, .ref mrs, .ref mpa, .ref mnu, .ref mlt, .ref mpl, .ref mod, .ref mic, .ref mgo, .ref msk, .ref mfo, .int 0, .int 0, .ref mul, .ref mup, .ref mun, .int 0, .ref mfr, .ref mta, .int 0]))] sz) := by
  refine Met.ofW (cc := cX9_isGone) (maxL := 2) (ret := (some .boolean)) (by decide) rfl ?_
  intro P0 E0 s m args below meth C9 s₁ B hml hv
  obtain ⟨rfl, hsz, hP, hK, hD0⟩ := hv
  have hx := B.exec
  have hb := B.bytes
  have hr := B.returns
  have hts := atoms_spec (ws := wsX9_isGone) B.pre
  have hown : s.vm.findClass RX9 = some m.cls := findClass_of_methodNamed B.named
  have hlocks := B.notSynchronized
  subst hsz
  have hD := hD0.self (sz := s.heap.size)
  generalize hAe : va_A [(mm, .inr (12, [.int t, .ref mlv, .ref msr, .ref mrs, .ref mpa, .ref mnu, .ref mlt, .ref mpl, .ref mod, .ref mic, .ref mgo, .ref msk, .ref mfo, .int 0, .int 0, .ref mul, .ref mup, .ref mun, .int 0, .ref mfr, .ref mta, .int 0]))] s.heap.size = A at hD ⊢
  have hA : ∀ q : Nat, s.heap.size ≤ q → A q := fun q h => by rw [← hAe]; exact Or.inr h
  have hS : va_S A s.heap s.heap [] := va_S.rf
  have hl := lv_entry ([.ref mm, .int i]) (n := 2) (Nat.le_of_ble_eq_true rfl)
  rw [lg_entry_eq]
  generalize (lg_sl ([.ref mm, .int i]) ++ List.replicate (2 - (lg_sl ([.ref mm, .int i])).length) Slot.unset).toArray = ls at hl ⊢
  have hl : lv_has ls 2 [(0, .ref mm), (1, .int i)] := hl
  refine lv_aload_n hx hb dX9_isGone_0 rfl (lv_at hl 0 rfl) ?_
  refine lv_aload_n hx hb dX9_isGone_1 rfl (lv_at hl 0 rfl) ?_
  refine lv_iload_n hx hb dX9_isGone_2 rfl (lv_at hl 1 rfl) ?_
  refine zc_i (wc := [(mm, .inr (12, [.int t, .ref mlv, .ref msr, .ref mrs, .ref mpa, .ref mnu, .ref mlt, .ref mpl, .ref mod, .ref mic, .ref mgo, .ref msk, .ref mfo, .int 0, .int 0, .ref mul, .ref mup, .ref mun, .int 0, .ref mfr, .ref mta, .int 0]))]) (wr := []) (va_runV (As := [.int i]) (rest := [.ref mm]) ⟨hx, hb, hml, hown, hts⟩ (k_isThere0 l D cI mm mlv msr mrs mpa mnu mlt mpl mod mic mgo msk mfo mul mup mun mfr mta t i s.heap.size) (cwV 1 hts gX9_isGone_X9_isThere rfl rfl rfl (by decide +kernel) ⟨Nat.le_of_ble_eq_true rfl, Nat.le_of_ble_eq_true rfl⟩) (zPV hK hP hD [0] rfl rfl [0] rfl 0 rfl rfl rfl) rfl rfl hl.1 rfl (lv_room (Nat.le_of_ble_eq_true rfl)) dX9_isGone_3 ⟨Nat.le_of_ble_eq_true rfl, Nat.le_of_ble_eq_true rfl⟩) hP hD hS hA [0] [] rfl rfl rfl (by decide) (fun r _ H locs hw hP hD hS => ?_)
  have hP : va_P D vwCl [(mm, .inr (12, [.int t, .ref mlv, .ref msr, .ref mrs, .ref mpa, .ref mnu, .ref mlt, .ref mpl, .ref mod, .ref mic, .ref mgo, .ref msk, .ref mfo, .int 0, .int 0, .ref mul, .ref mup, .ref mun, .int 0, .ref mfr, .ref mta, .int 0]))] H := hP
  have hD : va_D A [(mm, .inr (12, [.int t, .ref mlv, .ref msr, .ref mrs, .ref mpa, .ref mnu, .ref mlt, .ref mpl, .ref mod, .ref mic, .ref mgo, .ref msk, .ref mfo, .int 0, .int 0, .ref mul, .ref mup, .ref mun, .int 0, .ref mfr, .ref mta, .int 0]))] := hD
  subst hw
  refine lv_if_eq (tgt := 13) hx hb dX9_isGone_6 (by decide) (fun _ => ?_) (fun q => absurd q (by decide))
  refine lv_iconst (v := 1) hx hb dX9_isGone_13 (by decide) ?_
  refine va_put (D := D) (ci := 12) (v := .int 1) (ty := .int) (C := RX9) (T := TX9) (N := 22) hx hb hts (fun _ h => List.mem_cons_of_mem _ (List.mem_append_left _ (List.mem_append_right _ h))) tyX9 tyX9_ok nmX9 hown hK hP hD hS 0 rfl rfl 0 (by decide) (hts (.fieldLink RX9 65 "NumberingTreeModel" "thrown" "I") (List.mem_of_getElem? (i := 1) rfl)) (fun _ h9 => h9) rfl (by decide +kernel) rfl rfl (Nat.le_of_ble_eq_true rfl) dX9_isGone_14 (fun H locs hP hD hS => ?_)
  have hP : va_P D vwCl [(mm, .inr (12, [.int 1, .ref mlv, .ref msr, .ref mrs, .ref mpa, .ref mnu, .ref mlt, .ref mpl, .ref mod, .ref mic, .ref mgo, .ref msk, .ref mfo, .int 0, .int 0, .ref mul, .ref mup, .ref mun, .int 0, .ref mfr, .ref mta, .int 0]))] H := hP
  have hD : va_D A [(mm, .inr (12, [.int 1, .ref mlv, .ref msr, .ref mrs, .ref mpa, .ref mnu, .ref mlt, .ref mpl, .ref mod, .ref mic, .ref mgo, .ref msk, .ref mfo, .int 0, .int 0, .ref mul, .ref mup, .ref mun, .int 0, .ref mfr, .ref mta, .int 0]))] := hD
  refine lv_aload_n hx hb dX9_isGone_17 rfl (lv_at hl 0 rfl) ?_
  refine va_get (D := D) (ci := 12) (v := .int 1) (C := RX9) (T := TX9) (N := 22) hx hb hts (fun _ h => List.mem_cons_of_mem _ (List.mem_append_left _ (List.mem_append_right _ h))) hown hK hP 0 rfl rfl 0 (by decide) (hts (.fieldLink RX9 65 "NumberingTreeModel" "thrown" "I") (List.mem_of_getElem? (i := 1) rfl)) (fun _ h9 => h9) rfl dX9_isGone_18 ?_
  refine lv_if_le (tgt := 28) hx hb dX9_isGone_21 (by decide) (fun q => absurd q (by decide)) (fun _ => ?_)
  refine lv_iconst (v := 1) hx hb dX9_isGone_24 (by decide) ?_
  refine lv_goto (tgt := 29) hx hb dX9_isGone_25 (by decide) ?_
  obtain ⟨hP9, hD9⟩ := z_get hP hD [0] (wc := [(mm, .inr (12, [.int 1, .ref mlv, .ref msr, .ref mrs, .ref mpa, .ref mnu, .ref mlt, .ref mpl, .ref mod, .ref mic, .ref mgo, .ref msk, .ref mfo, .int 0, .int 0, .ref mul, .ref mup, .ref mun, .int 0, .ref mfr, .ref mta, .int 0]))]) rfl rfl
  exact W.zret (ty := .boolean) (v := 1) hx hb hr rfl (fun t ht hW => ⟨⟨1, (), rfl, rfl, by rw [ht]; exact hP9, hD9⟩, hS.F ht⟩) hS.2.2 dX9_isGone_29

set_option maxHeartbeats 4000000 in
set_option maxRecDepth 100000 in
theorem k_misPlain0 (l : Launch) (D : va_G) (cI : ClassId) (mm mlv msr mrs mpa mnu mlt mpl mod mic mgo msk mfo mul mup mun mfr mta : Nat) (t i : Int32) (sz : Nat) : Met l yX9_isPlain wsX9_isPlain ({ frames := 3, cells := 0, slots := 0, locals := 64 }) (va_Pc [.ref mm, .int i] (zPre D [(cI, .int)] [(mm, .inr (12, [.int t, .ref mlv, .ref msr, .ref mrs, .ref mpa, .ref mnu, .ref mlt, .ref mpl, .ref mod, .ref mic, .ref mgo, .ref msk, .ref mfo, .int 0, .int 0, .ref mul, .ref mup, .ref mun, .int 0, .ref mfr, .ref mta, .int 0]))] sz)) (va_Qi (fun rv (_ : Unit) => rv = 1) (fun (_ : Unit) => zB D [(mm, .inr (12, [.int 1, .ref mlv, .ref msr, .ref mrs, .ref mpa, .ref mnu, .ref mlt, .ref mpl, .ref mod, .ref mic, .ref mgo, .ref msk, .ref mfo, .int 0, .int 0, .ref mul, .ref mup, .ref mun, .int 0, .ref mfr, .ref mta, .int 0]))] (va_A [(mm, .inr (12, [.int t, .ref mlv, .ref msr, .ref mrs, .ref mpa, .ref mnu, .ref mlt, .ref mpl, .ref mod, .ref mic, .ref mgo, .ref msk, .ref mfo, .int 0, .int 0, .ref mul, .ref mup, .ref mun, .int 0, .ref mfr, .ref mta, .int 0]))] sz)) (va_A [(mm, .inr (12, [.int t, .ref mlv, .ref msr, .ref mrs, .ref mpa, .ref mnu, .ref mlt, .ref mpl, .ref mod, .ref mic, .ref mgo, .ref msk, .ref mfo, .int 0, .int 0, .ref mul, .ref mup, .ref mun, .int 0, .ref mfr, .ref mta, .int 0]))] sz)) 0 0 (va_A [(mm, .inr (12, [.int t, .ref mlv, .ref msr, .ref mrs, .ref mpa, .ref mnu, .ref mlt, .ref mpl, .ref mod, .ref mic, .ref mgo, .ref msk, .ref mfo, .int 0, .int 0, .ref mul, .ref mup, .ref mun, .int 0, .ref mfr, .ref mta, .int 0]))] sz) := by
  refine Met.ofW (cc := cX9_isPlain) (maxL := 2) (ret := (some .boolean)) (by decide) rfl ?_
  intro P0 E0 s m args below meth C9 s₁ B hml hv
  obtain ⟨rfl, hsz, hP, hK, hD0⟩ := hv
  have hx := B.exec
  have hb := B.bytes
  have hr := B.returns
  have hts := atoms_spec (ws := wsX9_isPlain) B.pre
  have hown : s.vm.findClass RX9 = some m.cls := findClass_of_methodNamed B.named
  have hlocks := B.notSynchronized
  subst hsz
  have hD := hD0.self (sz := s.heap.size)
  generalize hAe : va_A [(mm, .inr (12, [.int t, .ref mlv, .ref msr, .ref mrs, .ref mpa, .ref mnu, .ref mlt, .ref mpl, .ref mod, .ref mic, .ref mgo, .ref msk, .ref mfo, .int 0, .int 0, .ref mul, .ref mup, .ref mun, .int 0, .ref mfr, .ref mta, .int 0]))] s.heap.size = A at hD ⊢
  have hA : ∀ q : Nat, s.heap.size ≤ q → A q := fun q h => by rw [← hAe]; exact Or.inr h
  have hS : va_S A s.heap s.heap [] := va_S.rf
  have hl := lv_entry ([.ref mm, .int i]) (n := 2) (Nat.le_of_ble_eq_true rfl)
  rw [lg_entry_eq]
  generalize (lg_sl ([.ref mm, .int i]) ++ List.replicate (2 - (lg_sl ([.ref mm, .int i])).length) Slot.unset).toArray = ls at hl ⊢
  have hl : lv_has ls 2 [(0, .ref mm), (1, .int i)] := hl
  refine lv_aload_n hx hb dX9_isPlain_0 rfl (lv_at hl 0 rfl) ?_
  refine lv_iload_n hx hb dX9_isPlain_1 rfl (lv_at hl 1 rfl) ?_
  refine zc_i (wc := [(mm, .inr (12, [.int t, .ref mlv, .ref msr, .ref mrs, .ref mpa, .ref mnu, .ref mlt, .ref mpl, .ref mod, .ref mic, .ref mgo, .ref msk, .ref mfo, .int 0, .int 0, .ref mul, .ref mup, .ref mun, .int 0, .ref mfr, .ref mta, .int 0]))]) (wr := []) (va_runV (As := [.int i]) (rest := []) ⟨hx, hb, hml, hown, hts⟩ (k_isGone0 l D cI mm mlv msr mrs mpa mnu mlt mpl mod mic mgo msk mfo mul mup mun mfr mta t i s.heap.size) (cwV 1 hts gX9_isPlain_X9_isGone rfl rfl rfl (by decide +kernel) ⟨Nat.le_of_ble_eq_true rfl, Nat.le_of_ble_eq_true rfl⟩) (zPV hK hP hD [0] rfl rfl [0] rfl 0 rfl rfl rfl) rfl rfl hl.1 rfl (lv_room (Nat.le_of_ble_eq_true rfl)) dX9_isPlain_2 ⟨Nat.le_of_ble_eq_true rfl, Nat.le_of_ble_eq_true rfl⟩) hP hD hS hA [0] [] rfl rfl rfl (by decide) (fun r _ H locs hw hP hD hS => ?_)
  have hP : va_P D vwCl [(mm, .inr (12, [.int 1, .ref mlv, .ref msr, .ref mrs, .ref mpa, .ref mnu, .ref mlt, .ref mpl, .ref mod, .ref mic, .ref mgo, .ref msk, .ref mfo, .int 0, .int 0, .ref mul, .ref mup, .ref mun, .int 0, .ref mfr, .ref mta, .int 0]))] H := hP
  have hD : va_D A [(mm, .inr (12, [.int 1, .ref mlv, .ref msr, .ref mrs, .ref mpa, .ref mnu, .ref mlt, .ref mpl, .ref mod, .ref mic, .ref mgo, .ref msk, .ref mfo, .int 0, .int 0, .ref mul, .ref mup, .ref mun, .int 0, .ref mfr, .ref mta, .int 0]))] := hD
  subst hw
  refine lv_if_ne (tgt := 22) hx hb dX9_isPlain_5 (by decide) (fun _ => ?_) (fun q => absurd q (by decide))
  refine lv_aload_n hx hb dX9_isPlain_22 rfl (lv_at hl 0 rfl) ?_
  refine va_get (D := D) (ci := 12) (v := .int 1) (C := RX9) (T := TX9) (N := 22) hx hb hts (fun _ h => List.mem_cons_of_mem _ (List.mem_append_left _ (List.mem_append_right _ h))) hown hK hP 0 rfl rfl 0 (by decide) (hts (.fieldLink RX9 65 "NumberingTreeModel" "thrown" "I") (List.mem_of_getElem? (i := 2) rfl)) (fun _ h9 => h9) rfl dX9_isPlain_23 ?_
  refine lv_if_le (tgt := 33) hx hb dX9_isPlain_26 (by decide) (fun q => absurd q (by decide)) (fun _ => ?_)
  refine lv_iconst (v := 1) hx hb dX9_isPlain_29 (by decide) ?_
  refine lv_goto (tgt := 34) hx hb dX9_isPlain_30 (by decide) ?_
  obtain ⟨hP9, hD9⟩ := z_get hP hD [0] (wc := [(mm, .inr (12, [.int 1, .ref mlv, .ref msr, .ref mrs, .ref mpa, .ref mnu, .ref mlt, .ref mpl, .ref mod, .ref mic, .ref mgo, .ref msk, .ref mfo, .int 0, .int 0, .ref mul, .ref mup, .ref mun, .int 0, .ref mfr, .ref mta, .int 0]))]) rfl rfl
  exact W.zret (ty := .boolean) (v := 1) hx hb hr rfl (fun t ht hW => ⟨⟨1, (), rfl, rfl, by rw [ht]; exact hP9, hD9⟩, hS.F ht⟩) hS.2.2 dX9_isPlain_34

set_option maxHeartbeats 4000000 in
set_option maxRecDepth 100000 in
theorem m_move (l : Launch) (D : va_G) (cI : ClassId) (mm mlv msr mrs mpa mnu mlt mpl mod mic mgo msk mfo mul mup mun mfr mta : Nat) (t i j : Int32) (sz : Nat) : Met l yX9_move wsX9_move ({ frames := 3, cells := 0, slots := 0, locals := 64 }) (va_Pc [.ref mm, .int i, .int j] (zPre D [(cI, .int)] [(mm, .inr (12, [.int t, .ref mlv, .ref msr, .ref mrs, .ref mpa, .ref mnu, .ref mlt, .ref mpl, .ref mod, .ref mic, .ref mgo, .ref msk, .ref mfo, .int 0, .int 0, .ref mul, .ref mup, .ref mun, .int 0, .ref mfr, .ref mta, .int 0]))] sz)) (va_Qi (fun rv (_ : Unit) => rv = 0) (fun (_ : Unit) => zB D [(mm, .inr (12, [.int 1, .ref mlv, .ref msr, .ref mrs, .ref mpa, .ref mnu, .ref mlt, .ref mpl, .ref mod, .ref mic, .ref mgo, .ref msk, .ref mfo, .int 0, .int 0, .ref mul, .ref mup, .ref mun, .int 0, .ref mfr, .ref mta, .int 0]))] (va_A [(mm, .inr (12, [.int t, .ref mlv, .ref msr, .ref mrs, .ref mpa, .ref mnu, .ref mlt, .ref mpl, .ref mod, .ref mic, .ref mgo, .ref msk, .ref mfo, .int 0, .int 0, .ref mul, .ref mup, .ref mun, .int 0, .ref mfr, .ref mta, .int 0]))] sz)) (va_A [(mm, .inr (12, [.int t, .ref mlv, .ref msr, .ref mrs, .ref mpa, .ref mnu, .ref mlt, .ref mpl, .ref mod, .ref mic, .ref mgo, .ref msk, .ref mfo, .int 0, .int 0, .ref mul, .ref mup, .ref mun, .int 0, .ref mfr, .ref mta, .int 0]))] sz)) 0 0 (va_A [(mm, .inr (12, [.int t, .ref mlv, .ref msr, .ref mrs, .ref mpa, .ref mnu, .ref mlt, .ref mpl, .ref mod, .ref mic, .ref mgo, .ref msk, .ref mfo, .int 0, .int 0, .ref mul, .ref mup, .ref mun, .int 0, .ref mfr, .ref mta, .int 0]))] sz) := by
  refine Met.ofW (cc := cX9_move) (maxL := 4) (ret := (some .int)) (by decide) rfl ?_
  intro P0 E0 s m args below meth C9 s₁ B hml hv
  obtain ⟨rfl, hsz, hP, hK, hD0⟩ := hv
  have hx := B.exec
  have hb := B.bytes
  have hr := B.returns
  have hts := atoms_spec (ws := wsX9_move) B.pre
  have hown : s.vm.findClass RX9 = some m.cls := findClass_of_methodNamed B.named
  have hlocks := B.notSynchronized
  subst hsz
  have hD := hD0.self (sz := s.heap.size)
  generalize hAe : va_A [(mm, .inr (12, [.int t, .ref mlv, .ref msr, .ref mrs, .ref mpa, .ref mnu, .ref mlt, .ref mpl, .ref mod, .ref mic, .ref mgo, .ref msk, .ref mfo, .int 0, .int 0, .ref mul, .ref mup, .ref mun, .int 0, .ref mfr, .ref mta, .int 0]))] s.heap.size = A at hD ⊢
  have hA : ∀ q : Nat, s.heap.size ≤ q → A q := fun q h => by rw [← hAe]; exact Or.inr h
  have hS : va_S A s.heap s.heap [] := va_S.rf
  have hl := lv_entry ([.ref mm, .int i, .int j]) (n := 4) (Nat.le_of_ble_eq_true rfl)
  rw [lg_entry_eq]
  generalize (lg_sl ([.ref mm, .int i, .int j]) ++ List.replicate (4 - (lg_sl ([.ref mm, .int i, .int j])).length) Slot.unset).toArray = ls at hl ⊢
  have hl : lv_has ls 4 [(0, .ref mm), (1, .int i), (2, .int j)] := hl
  refine lv_aload_n hx hb dX9_move_0 rfl (lv_at hl 0 rfl) ?_
  refine lv_iload_n hx hb dX9_move_1 rfl (lv_at hl 1 rfl) ?_
  refine zc_i (wc := [(mm, .inr (12, [.int t, .ref mlv, .ref msr, .ref mrs, .ref mpa, .ref mnu, .ref mlt, .ref mpl, .ref mod, .ref mic, .ref mgo, .ref msk, .ref mfo, .int 0, .int 0, .ref mul, .ref mup, .ref mun, .int 0, .ref mfr, .ref mta, .int 0]))]) (wr := []) (va_runV (As := [.int i]) (rest := []) ⟨hx, hb, hml, hown, hts⟩ (k_isGone0 l D cI mm mlv msr mrs mpa mnu mlt mpl mod mic mgo msk mfo mul mup mun mfr mta t i s.heap.size) (cwV 1 hts gX9_move_X9_isGone rfl rfl rfl (by decide +kernel) ⟨Nat.le_of_ble_eq_true rfl, Nat.le_of_ble_eq_true rfl⟩) (zPV hK hP hD [0] rfl rfl [0] rfl 0 rfl rfl rfl) rfl rfl hl.1 rfl (lv_room (Nat.le_of_ble_eq_true rfl)) dX9_move_2 ⟨Nat.le_of_ble_eq_true rfl, Nat.le_of_ble_eq_true rfl⟩) hP hD hS hA [0] [] rfl rfl rfl (by decide) (fun r _ H locs hw hP hD hS => ?_)
  have hP : va_P D vwCl [(mm, .inr (12, [.int 1, .ref mlv, .ref msr, .ref mrs, .ref mpa, .ref mnu, .ref mlt, .ref mpl, .ref mod, .ref mic, .ref mgo, .ref msk, .ref mfo, .int 0, .int 0, .ref mul, .ref mup, .ref mun, .int 0, .ref mfr, .ref mta, .int 0]))] H := hP
  have hD : va_D A [(mm, .inr (12, [.int 1, .ref mlv, .ref msr, .ref mrs, .ref mpa, .ref mnu, .ref mlt, .ref mpl, .ref mod, .ref mic, .ref mgo, .ref msk, .ref mfo, .int 0, .int 0, .ref mul, .ref mup, .ref mun, .int 0, .ref mfr, .ref mta, .int 0]))] := hD
  subst hw
  refine lv_if_eq (tgt := 10) hx hb dX9_move_5 (by decide) (fun q => absurd q (by decide)) (fun _ => ?_)
  refine lv_iconst (v := 0) hx hb dX9_move_8 (by decide) ?_
  obtain ⟨hP9, hD9⟩ := z_get hP hD [0] (wc := [(mm, .inr (12, [.int 1, .ref mlv, .ref msr, .ref mrs, .ref mpa, .ref mnu, .ref mlt, .ref mpl, .ref mod, .ref mic, .ref mgo, .ref msk, .ref mfo, .int 0, .int 0, .ref mul, .ref mup, .ref mun, .int 0, .ref mfr, .ref mta, .int 0]))]) rfl rfl
  exact W.iret (v := 0) hx hb hr (fun t ht hW => ⟨⟨0, (), rfl, rfl, by rw [ht]; exact hP9, hD9⟩, hS.F ht⟩) hS.2.2 dX9_move_9

set_option maxHeartbeats 4000000 in
set_option maxRecDepth 100000 in
theorem m_setLevel (l : Launch) (D : va_G) (cI : ClassId) (mm mlv msr mrs mpa mnu mlt mpl mod mic mgo msk mfo mul mup mun mfr mta : Nat) (t i j : Int32) (sz : Nat) : Met l yX9_setLevel wsX9_setLevel ({ frames := 3, cells := 0, slots := 0, locals := 64 }) (va_Pc [.ref mm, .int i, .int j] (zPre D [(cI, .int)] [(mm, .inr (12, [.int t, .ref mlv, .ref msr, .ref mrs, .ref mpa, .ref mnu, .ref mlt, .ref mpl, .ref mod, .ref mic, .ref mgo, .ref msk, .ref mfo, .int 0, .int 0, .ref mul, .ref mup, .ref mun, .int 0, .ref mfr, .ref mta, .int 0]))] sz)) (va_Qi (fun rv (_ : Unit) => rv = 0) (fun (_ : Unit) => zB D [(mm, .inr (12, [.int 1, .ref mlv, .ref msr, .ref mrs, .ref mpa, .ref mnu, .ref mlt, .ref mpl, .ref mod, .ref mic, .ref mgo, .ref msk, .ref mfo, .int 0, .int 0, .ref mul, .ref mup, .ref mun, .int 0, .ref mfr, .ref mta, .int 0]))] (va_A [(mm, .inr (12, [.int t, .ref mlv, .ref msr, .ref mrs, .ref mpa, .ref mnu, .ref mlt, .ref mpl, .ref mod, .ref mic, .ref mgo, .ref msk, .ref mfo, .int 0, .int 0, .ref mul, .ref mup, .ref mun, .int 0, .ref mfr, .ref mta, .int 0]))] sz)) (va_A [(mm, .inr (12, [.int t, .ref mlv, .ref msr, .ref mrs, .ref mpa, .ref mnu, .ref mlt, .ref mpl, .ref mod, .ref mic, .ref mgo, .ref msk, .ref mfo, .int 0, .int 0, .ref mul, .ref mup, .ref mun, .int 0, .ref mfr, .ref mta, .int 0]))] sz)) 0 0 (va_A [(mm, .inr (12, [.int t, .ref mlv, .ref msr, .ref mrs, .ref mpa, .ref mnu, .ref mlt, .ref mpl, .ref mod, .ref mic, .ref mgo, .ref msk, .ref mfo, .int 0, .int 0, .ref mul, .ref mup, .ref mun, .int 0, .ref mfr, .ref mta, .int 0]))] sz) := by
  refine Met.ofW (cc := cX9_setLevel) (maxL := 4) (ret := (some .int)) (by decide) rfl ?_
  intro P0 E0 s m args below meth C9 s₁ B hml hv
  obtain ⟨rfl, hsz, hP, hK, hD0⟩ := hv
  have hx := B.exec
  have hb := B.bytes
  have hr := B.returns
  have hts := atoms_spec (ws := wsX9_setLevel) B.pre
  have hown : s.vm.findClass RX9 = some m.cls := findClass_of_methodNamed B.named
  have hlocks := B.notSynchronized
  subst hsz
  have hD := hD0.self (sz := s.heap.size)
  generalize hAe : va_A [(mm, .inr (12, [.int t, .ref mlv, .ref msr, .ref mrs, .ref mpa, .ref mnu, .ref mlt, .ref mpl, .ref mod, .ref mic, .ref mgo, .ref msk, .ref mfo, .int 0, .int 0, .ref mul, .ref mup, .ref mun, .int 0, .ref mfr, .ref mta, .int 0]))] s.heap.size = A at hD ⊢
  have hA : ∀ q : Nat, s.heap.size ≤ q → A q := fun q h => by rw [← hAe]; exact Or.inr h
  have hS : va_S A s.heap s.heap [] := va_S.rf
  have hl := lv_entry ([.ref mm, .int i, .int j]) (n := 4) (Nat.le_of_ble_eq_true rfl)
  rw [lg_entry_eq]
  generalize (lg_sl ([.ref mm, .int i, .int j]) ++ List.replicate (4 - (lg_sl ([.ref mm, .int i, .int j])).length) Slot.unset).toArray = ls at hl ⊢
  have hl : lv_has ls 4 [(0, .ref mm), (1, .int i), (2, .int j)] := hl
  refine lv_aload_n hx hb dX9_setLevel_0 rfl (lv_at hl 0 rfl) ?_
  refine lv_iload_n hx hb dX9_setLevel_1 rfl (lv_at hl 1 rfl) ?_
  refine zc_i (wc := [(mm, .inr (12, [.int t, .ref mlv, .ref msr, .ref mrs, .ref mpa, .ref mnu, .ref mlt, .ref mpl, .ref mod, .ref mic, .ref mgo, .ref msk, .ref mfo, .int 0, .int 0, .ref mul, .ref mup, .ref mun, .int 0, .ref mfr, .ref mta, .int 0]))]) (wr := []) (va_runV (As := [.int i]) (rest := []) ⟨hx, hb, hml, hown, hts⟩ (k_isGone0 l D cI mm mlv msr mrs mpa mnu mlt mpl mod mic mgo msk mfo mul mup mun mfr mta t i s.heap.size) (cwV 1 hts gX9_setLevel_X9_isGone rfl rfl rfl (by decide +kernel) ⟨Nat.le_of_ble_eq_true rfl, Nat.le_of_ble_eq_true rfl⟩) (zPV hK hP hD [0] rfl rfl [0] rfl 0 rfl rfl rfl) rfl rfl hl.1 rfl (lv_room (Nat.le_of_ble_eq_true rfl)) dX9_setLevel_2 ⟨Nat.le_of_ble_eq_true rfl, Nat.le_of_ble_eq_true rfl⟩) hP hD hS hA [0] [] rfl rfl rfl (by decide) (fun r _ H locs hw hP hD hS => ?_)
  have hP : va_P D vwCl [(mm, .inr (12, [.int 1, .ref mlv, .ref msr, .ref mrs, .ref mpa, .ref mnu, .ref mlt, .ref mpl, .ref mod, .ref mic, .ref mgo, .ref msk, .ref mfo, .int 0, .int 0, .ref mul, .ref mup, .ref mun, .int 0, .ref mfr, .ref mta, .int 0]))] H := hP
  have hD : va_D A [(mm, .inr (12, [.int 1, .ref mlv, .ref msr, .ref mrs, .ref mpa, .ref mnu, .ref mlt, .ref mpl, .ref mod, .ref mic, .ref mgo, .ref msk, .ref mfo, .int 0, .int 0, .ref mul, .ref mup, .ref mun, .int 0, .ref mfr, .ref mta, .int 0]))] := hD
  subst hw
  refine lv_if_eq (tgt := 10) hx hb dX9_setLevel_5 (by decide) (fun q => absurd q (by decide)) (fun _ => ?_)
  refine lv_iconst (v := 0) hx hb dX9_setLevel_8 (by decide) ?_
  obtain ⟨hP9, hD9⟩ := z_get hP hD [0] (wc := [(mm, .inr (12, [.int 1, .ref mlv, .ref msr, .ref mrs, .ref mpa, .ref mnu, .ref mlt, .ref mpl, .ref mod, .ref mic, .ref mgo, .ref msk, .ref mfo, .int 0, .int 0, .ref mul, .ref mup, .ref mun, .int 0, .ref mfr, .ref mta, .int 0]))]) rfl rfl
  exact W.iret (v := 0) hx hb hr (fun t ht hW => ⟨⟨0, (), rfl, rfl, by rw [ht]; exact hP9, hD9⟩, hS.F ht⟩) hS.2.2 dX9_setLevel_9

set_option maxHeartbeats 4000000 in
set_option maxRecDepth 100000 in
theorem m_startAt (l : Launch) (D : va_G) (cI : ClassId) (mm mlv msr mrs mpa mnu mlt mpl mod mic mgo msk mfo mul mup mun mfr mta : Nat) (t i j : Int32) (sz : Nat) : Met l yX9_startAt wsX9_startAt ({ frames := 3, cells := 0, slots := 0, locals := 64 }) (va_Pc [.ref mm, .int i, .int j] (zPre D [(cI, .int)] [(mm, .inr (12, [.int t, .ref mlv, .ref msr, .ref mrs, .ref mpa, .ref mnu, .ref mlt, .ref mpl, .ref mod, .ref mic, .ref mgo, .ref msk, .ref mfo, .int 0, .int 0, .ref mul, .ref mup, .ref mun, .int 0, .ref mfr, .ref mta, .int 0]))] sz)) (va_Qi (fun rv (_ : Unit) => rv = 0) (fun (_ : Unit) => zB D [(mm, .inr (12, [.int 1, .ref mlv, .ref msr, .ref mrs, .ref mpa, .ref mnu, .ref mlt, .ref mpl, .ref mod, .ref mic, .ref mgo, .ref msk, .ref mfo, .int 0, .int 0, .ref mul, .ref mup, .ref mun, .int 0, .ref mfr, .ref mta, .int 0]))] (va_A [(mm, .inr (12, [.int t, .ref mlv, .ref msr, .ref mrs, .ref mpa, .ref mnu, .ref mlt, .ref mpl, .ref mod, .ref mic, .ref mgo, .ref msk, .ref mfo, .int 0, .int 0, .ref mul, .ref mup, .ref mun, .int 0, .ref mfr, .ref mta, .int 0]))] sz)) (va_A [(mm, .inr (12, [.int t, .ref mlv, .ref msr, .ref mrs, .ref mpa, .ref mnu, .ref mlt, .ref mpl, .ref mod, .ref mic, .ref mgo, .ref msk, .ref mfo, .int 0, .int 0, .ref mul, .ref mup, .ref mun, .int 0, .ref mfr, .ref mta, .int 0]))] sz)) 0 0 (va_A [(mm, .inr (12, [.int t, .ref mlv, .ref msr, .ref mrs, .ref mpa, .ref mnu, .ref mlt, .ref mpl, .ref mod, .ref mic, .ref mgo, .ref msk, .ref mfo, .int 0, .int 0, .ref mul, .ref mup, .ref mun, .int 0, .ref mfr, .ref mta, .int 0]))] sz) := by
  refine Met.ofW (cc := cX9_startAt) (maxL := 4) (ret := (some .int)) (by decide) rfl ?_
  intro P0 E0 s m args below meth C9 s₁ B hml hv
  obtain ⟨rfl, hsz, hP, hK, hD0⟩ := hv
  have hx := B.exec
  have hb := B.bytes
  have hr := B.returns
  have hts := atoms_spec (ws := wsX9_startAt) B.pre
  have hown : s.vm.findClass RX9 = some m.cls := findClass_of_methodNamed B.named
  have hlocks := B.notSynchronized
  subst hsz
  have hD := hD0.self (sz := s.heap.size)
  generalize hAe : va_A [(mm, .inr (12, [.int t, .ref mlv, .ref msr, .ref mrs, .ref mpa, .ref mnu, .ref mlt, .ref mpl, .ref mod, .ref mic, .ref mgo, .ref msk, .ref mfo, .int 0, .int 0, .ref mul, .ref mup, .ref mun, .int 0, .ref mfr, .ref mta, .int 0]))] s.heap.size = A at hD ⊢
  have hA : ∀ q : Nat, s.heap.size ≤ q → A q := fun q h => by rw [← hAe]; exact Or.inr h
  have hS : va_S A s.heap s.heap [] := va_S.rf
  have hl := lv_entry ([.ref mm, .int i, .int j]) (n := 4) (Nat.le_of_ble_eq_true rfl)
  rw [lg_entry_eq]
  generalize (lg_sl ([.ref mm, .int i, .int j]) ++ List.replicate (4 - (lg_sl ([.ref mm, .int i, .int j])).length) Slot.unset).toArray = ls at hl ⊢
  have hl : lv_has ls 4 [(0, .ref mm), (1, .int i), (2, .int j)] := hl
  refine lv_aload_n hx hb dX9_startAt_0 rfl (lv_at hl 0 rfl) ?_
  refine lv_iload_n hx hb dX9_startAt_1 rfl (lv_at hl 1 rfl) ?_
  refine zc_i (wc := [(mm, .inr (12, [.int t, .ref mlv, .ref msr, .ref mrs, .ref mpa, .ref mnu, .ref mlt, .ref mpl, .ref mod, .ref mic, .ref mgo, .ref msk, .ref mfo, .int 0, .int 0, .ref mul, .ref mup, .ref mun, .int 0, .ref mfr, .ref mta, .int 0]))]) (wr := []) (va_runV (As := [.int i]) (rest := []) ⟨hx, hb, hml, hown, hts⟩ (k_isGone0 l D cI mm mlv msr mrs mpa mnu mlt mpl mod mic mgo msk mfo mul mup mun mfr mta t i s.heap.size) (cwV 1 hts gX9_startAt_X9_isGone rfl rfl rfl (by decide +kernel) ⟨Nat.le_of_ble_eq_true rfl, Nat.le_of_ble_eq_true rfl⟩) (zPV hK hP hD [0] rfl rfl [0] rfl 0 rfl rfl rfl) rfl rfl hl.1 rfl (lv_room (Nat.le_of_ble_eq_true rfl)) dX9_startAt_2 ⟨Nat.le_of_ble_eq_true rfl, Nat.le_of_ble_eq_true rfl⟩) hP hD hS hA [0] [] rfl rfl rfl (by decide) (fun r _ H locs hw hP hD hS => ?_)
  have hP : va_P D vwCl [(mm, .inr (12, [.int 1, .ref mlv, .ref msr, .ref mrs, .ref mpa, .ref mnu, .ref mlt, .ref mpl, .ref mod, .ref mic, .ref mgo, .ref msk, .ref mfo, .int 0, .int 0, .ref mul, .ref mup, .ref mun, .int 0, .ref mfr, .ref mta, .int 0]))] H := hP
  have hD : va_D A [(mm, .inr (12, [.int 1, .ref mlv, .ref msr, .ref mrs, .ref mpa, .ref mnu, .ref mlt, .ref mpl, .ref mod, .ref mic, .ref mgo, .ref msk, .ref mfo, .int 0, .int 0, .ref mul, .ref mup, .ref mun, .int 0, .ref mfr, .ref mta, .int 0]))] := hD
  subst hw
  refine lv_if_eq (tgt := 10) hx hb dX9_startAt_5 (by decide) (fun q => absurd q (by decide)) (fun _ => ?_)
  refine lv_iconst (v := 0) hx hb dX9_startAt_8 (by decide) ?_
  obtain ⟨hP9, hD9⟩ := z_get hP hD [0] (wc := [(mm, .inr (12, [.int 1, .ref mlv, .ref msr, .ref mrs, .ref mpa, .ref mnu, .ref mlt, .ref mpl, .ref mod, .ref mic, .ref mgo, .ref msk, .ref mfo, .int 0, .int 0, .ref mul, .ref mup, .ref mun, .int 0, .ref mfr, .ref mta, .int 0]))]) rfl rfl
  exact W.iret (v := 0) hx hb hr (fun t ht hW => ⟨⟨0, (), rfl, rfl, by rw [ht]; exact hP9, hD9⟩, hS.F ht⟩) hS.2.2 dX9_startAt_9

set_option maxHeartbeats 4000000 in
set_option maxRecDepth 100000 in
theorem m_reserve (l : Launch) (D : va_G) (cI : ClassId) (mm mlv msr mrs mpa mnu mlt mpl mod mic mgo msk mfo mul mup mun mfr mta : Nat) (t i j : Int32) (sz : Nat) : Met l yX9_reserve wsX9_reserve ({ frames := 3, cells := 0, slots := 0, locals := 64 }) (va_Pc [.ref mm, .int i, .int j] (zPre D [(cI, .int)] [(mm, .inr (12, [.int t, .ref mlv, .ref msr, .ref mrs, .ref mpa, .ref mnu, .ref mlt, .ref mpl, .ref mod, .ref mic, .ref mgo, .ref msk, .ref mfo, .int 0, .int 0, .ref mul, .ref mup, .ref mun, .int 0, .ref mfr, .ref mta, .int 0]))] sz)) (va_Qi (fun rv (_ : Unit) => rv = 0) (fun (_ : Unit) => zB D [(mm, .inr (12, [.int 1, .ref mlv, .ref msr, .ref mrs, .ref mpa, .ref mnu, .ref mlt, .ref mpl, .ref mod, .ref mic, .ref mgo, .ref msk, .ref mfo, .int 0, .int 0, .ref mul, .ref mup, .ref mun, .int 0, .ref mfr, .ref mta, .int 0]))] (va_A [(mm, .inr (12, [.int t, .ref mlv, .ref msr, .ref mrs, .ref mpa, .ref mnu, .ref mlt, .ref mpl, .ref mod, .ref mic, .ref mgo, .ref msk, .ref mfo, .int 0, .int 0, .ref mul, .ref mup, .ref mun, .int 0, .ref mfr, .ref mta, .int 0]))] sz)) (va_A [(mm, .inr (12, [.int t, .ref mlv, .ref msr, .ref mrs, .ref mpa, .ref mnu, .ref mlt, .ref mpl, .ref mod, .ref mic, .ref mgo, .ref msk, .ref mfo, .int 0, .int 0, .ref mul, .ref mup, .ref mun, .int 0, .ref mfr, .ref mta, .int 0]))] sz)) 0 0 (va_A [(mm, .inr (12, [.int t, .ref mlv, .ref msr, .ref mrs, .ref mpa, .ref mnu, .ref mlt, .ref mpl, .ref mod, .ref mic, .ref mgo, .ref msk, .ref mfo, .int 0, .int 0, .ref mul, .ref mup, .ref mun, .int 0, .ref mfr, .ref mta, .int 0]))] sz) := by
  refine Met.ofW (cc := cX9_reserve) (maxL := 4) (ret := (some .int)) (by decide) rfl ?_
  intro P0 E0 s m args below meth C9 s₁ B hml hv
  obtain ⟨rfl, hsz, hP, hK, hD0⟩ := hv
  have hx := B.exec
  have hb := B.bytes
  have hr := B.returns
  have hts := atoms_spec (ws := wsX9_reserve) B.pre
  have hown : s.vm.findClass RX9 = some m.cls := findClass_of_methodNamed B.named
  have hlocks := B.notSynchronized
  subst hsz
  have hD := hD0.self (sz := s.heap.size)
  generalize hAe : va_A [(mm, .inr (12, [.int t, .ref mlv, .ref msr, .ref mrs, .ref mpa, .ref mnu, .ref mlt, .ref mpl, .ref mod, .ref mic, .ref mgo, .ref msk, .ref mfo, .int 0, .int 0, .ref mul, .ref mup, .ref mun, .int 0, .ref mfr, .ref mta, .int 0]))] s.heap.size = A at hD ⊢
  have hA : ∀ q : Nat, s.heap.size ≤ q → A q := fun q h => by rw [← hAe]; exact Or.inr h
  have hS : va_S A s.heap s.heap [] := va_S.rf
  have hl := lv_entry ([.ref mm, .int i, .int j]) (n := 4) (Nat.le_of_ble_eq_true rfl)
  rw [lg_entry_eq]
  generalize (lg_sl ([.ref mm, .int i, .int j]) ++ List.replicate (4 - (lg_sl ([.ref mm, .int i, .int j])).length) Slot.unset).toArray = ls at hl ⊢
  have hl : lv_has ls 4 [(0, .ref mm), (1, .int i), (2, .int j)] := hl
  refine lv_aload_n hx hb dX9_reserve_0 rfl (lv_at hl 0 rfl) ?_
  refine lv_iload_n hx hb dX9_reserve_1 rfl (lv_at hl 1 rfl) ?_
  refine zc_i (wc := [(mm, .inr (12, [.int t, .ref mlv, .ref msr, .ref mrs, .ref mpa, .ref mnu, .ref mlt, .ref mpl, .ref mod, .ref mic, .ref mgo, .ref msk, .ref mfo, .int 0, .int 0, .ref mul, .ref mup, .ref mun, .int 0, .ref mfr, .ref mta, .int 0]))]) (wr := []) (va_runV (As := [.int i]) (rest := []) ⟨hx, hb, hml, hown, hts⟩ (k_isGone0 l D cI mm mlv msr mrs mpa mnu mlt mpl mod mic mgo msk mfo mul mup mun mfr mta t i s.heap.size) (cwV 1 hts gX9_reserve_X9_isGone rfl rfl rfl (by decide +kernel) ⟨Nat.le_of_ble_eq_true rfl, Nat.le_of_ble_eq_true rfl⟩) (zPV hK hP hD [0] rfl rfl [0] rfl 0 rfl rfl rfl) rfl rfl hl.1 rfl (lv_room (Nat.le_of_ble_eq_true rfl)) dX9_reserve_2 ⟨Nat.le_of_ble_eq_true rfl, Nat.le_of_ble_eq_true rfl⟩) hP hD hS hA [0] [] rfl rfl rfl (by decide) (fun r _ H locs hw hP hD hS => ?_)
  have hP : va_P D vwCl [(mm, .inr (12, [.int 1, .ref mlv, .ref msr, .ref mrs, .ref mpa, .ref mnu, .ref mlt, .ref mpl, .ref mod, .ref mic, .ref mgo, .ref msk, .ref mfo, .int 0, .int 0, .ref mul, .ref mup, .ref mun, .int 0, .ref mfr, .ref mta, .int 0]))] H := hP
  have hD : va_D A [(mm, .inr (12, [.int 1, .ref mlv, .ref msr, .ref mrs, .ref mpa, .ref mnu, .ref mlt, .ref mpl, .ref mod, .ref mic, .ref mgo, .ref msk, .ref mfo, .int 0, .int 0, .ref mul, .ref mup, .ref mun, .int 0, .ref mfr, .ref mta, .int 0]))] := hD
  subst hw
  refine lv_if_eq (tgt := 10) hx hb dX9_reserve_5 (by decide) (fun q => absurd q (by decide)) (fun _ => ?_)
  refine lv_iconst (v := 0) hx hb dX9_reserve_8 (by decide) ?_
  obtain ⟨hP9, hD9⟩ := z_get hP hD [0] (wc := [(mm, .inr (12, [.int 1, .ref mlv, .ref msr, .ref mrs, .ref mpa, .ref mnu, .ref mlt, .ref mpl, .ref mod, .ref mic, .ref mgo, .ref msk, .ref mfo, .int 0, .int 0, .ref mul, .ref mup, .ref mun, .int 0, .ref mfr, .ref mta, .int 0]))]) rfl rfl
  exact W.iret (v := 0) hx hb hr (fun t ht hW => ⟨⟨0, (), rfl, rfl, by rw [ht]; exact hP9, hD9⟩, hS.F ht⟩) hS.2.2 dX9_reserve_9

set_option maxHeartbeats 4000000 in
set_option maxRecDepth 100000 in
theorem m_remove (l : Launch) (D : va_G) (cI : ClassId) (mm mlv msr mrs mpa mnu mlt mpl mod mic mgo msk mfo mul mup mun mfr mta : Nat) (t i : Int32) (sz : Nat) : Met l yX9_remove wsX9_remove ({ frames := 3, cells := 0, slots := 0, locals := 64 }) (va_Pc [.ref mm, .int i] (zPre D [(cI, .int)] [(mm, .inr (12, [.int t, .ref mlv, .ref msr, .ref mrs, .ref mpa, .ref mnu, .ref mlt, .ref mpl, .ref mod, .ref mic, .ref mgo, .ref msk, .ref mfo, .int 0, .int 0, .ref mul, .ref mup, .ref mun, .int 0, .ref mfr, .ref mta, .int 0]))] sz)) (va_Qi (fun rv (_ : Unit) => rv = 0) (fun (_ : Unit) => zB D [(mm, .inr (12, [.int 1, .ref mlv, .ref msr, .ref mrs, .ref mpa, .ref mnu, .ref mlt, .ref mpl, .ref mod, .ref mic, .ref mgo, .ref msk, .ref mfo, .int 0, .int 0, .ref mul, .ref mup, .ref mun, .int 0, .ref mfr, .ref mta, .int 0]))] (va_A [(mm, .inr (12, [.int t, .ref mlv, .ref msr, .ref mrs, .ref mpa, .ref mnu, .ref mlt, .ref mpl, .ref mod, .ref mic, .ref mgo, .ref msk, .ref mfo, .int 0, .int 0, .ref mul, .ref mup, .ref mun, .int 0, .ref mfr, .ref mta, .int 0]))] sz)) (va_A [(mm, .inr (12, [.int t, .ref mlv, .ref msr, .ref mrs, .ref mpa, .ref mnu, .ref mlt, .ref mpl, .ref mod, .ref mic, .ref mgo, .ref msk, .ref mfo, .int 0, .int 0, .ref mul, .ref mup, .ref mun, .int 0, .ref mfr, .ref mta, .int 0]))] sz)) 0 0 (va_A [(mm, .inr (12, [.int t, .ref mlv, .ref msr, .ref mrs, .ref mpa, .ref mnu, .ref mlt, .ref mpl, .ref mod, .ref mic, .ref mgo, .ref msk, .ref mfo, .int 0, .int 0, .ref mul, .ref mup, .ref mun, .int 0, .ref mfr, .ref mta, .int 0]))] sz) := by
  refine Met.ofW (cc := cX9_remove) (maxL := 3) (ret := (some .int)) (by decide) rfl ?_
  intro P0 E0 s m args below meth C9 s₁ B hml hv
  obtain ⟨rfl, hsz, hP, hK, hD0⟩ := hv
  have hx := B.exec
  have hb := B.bytes
  have hr := B.returns
  have hts := atoms_spec (ws := wsX9_remove) B.pre
  have hown : s.vm.findClass RX9 = some m.cls := findClass_of_methodNamed B.named
  have hlocks := B.notSynchronized
  subst hsz
  have hD := hD0.self (sz := s.heap.size)
  generalize hAe : va_A [(mm, .inr (12, [.int t, .ref mlv, .ref msr, .ref mrs, .ref mpa, .ref mnu, .ref mlt, .ref mpl, .ref mod, .ref mic, .ref mgo, .ref msk, .ref mfo, .int 0, .int 0, .ref mul, .ref mup, .ref mun, .int 0, .ref mfr, .ref mta, .int 0]))] s.heap.size = A at hD ⊢
  have hA : ∀ q : Nat, s.heap.size ≤ q → A q := fun q h => by rw [← hAe]; exact Or.inr h
  have hS : va_S A s.heap s.heap [] := va_S.rf
  have hl := lv_entry ([.ref mm, .int i]) (n := 3) (Nat.le_of_ble_eq_true rfl)
  rw [lg_entry_eq]
  generalize (lg_sl ([.ref mm, .int i]) ++ List.replicate (3 - (lg_sl ([.ref mm, .int i])).length) Slot.unset).toArray = ls at hl ⊢
  have hl : lv_has ls 3 [(0, .ref mm), (1, .int i)] := hl
  refine lv_aload_n hx hb dX9_remove_0 rfl (lv_at hl 0 rfl) ?_
  refine lv_iload_n hx hb dX9_remove_1 rfl (lv_at hl 1 rfl) ?_
  refine zc_i (wc := [(mm, .inr (12, [.int t, .ref mlv, .ref msr, .ref mrs, .ref mpa, .ref mnu, .ref mlt, .ref mpl, .ref mod, .ref mic, .ref mgo, .ref msk, .ref mfo, .int 0, .int 0, .ref mul, .ref mup, .ref mun, .int 0, .ref mfr, .ref mta, .int 0]))]) (wr := []) (va_runV (As := [.int i]) (rest := []) ⟨hx, hb, hml, hown, hts⟩ (k_isGone0 l D cI mm mlv msr mrs mpa mnu mlt mpl mod mic mgo msk mfo mul mup mun mfr mta t i s.heap.size) (cwV 1 hts gX9_remove_X9_isGone rfl rfl rfl (by decide +kernel) ⟨Nat.le_of_ble_eq_true rfl, Nat.le_of_ble_eq_true rfl⟩) (zPV hK hP hD [0] rfl rfl [0] rfl 0 rfl rfl rfl) rfl rfl hl.1 rfl (lv_room (Nat.le_of_ble_eq_true rfl)) dX9_remove_2 ⟨Nat.le_of_ble_eq_true rfl, Nat.le_of_ble_eq_true rfl⟩) hP hD hS hA [0] [] rfl rfl rfl (by decide) (fun r _ H locs hw hP hD hS => ?_)
  have hP : va_P D vwCl [(mm, .inr (12, [.int 1, .ref mlv, .ref msr, .ref mrs, .ref mpa, .ref mnu, .ref mlt, .ref mpl, .ref mod, .ref mic, .ref mgo, .ref msk, .ref mfo, .int 0, .int 0, .ref mul, .ref mup, .ref mun, .int 0, .ref mfr, .ref mta, .int 0]))] H := hP
  have hD : va_D A [(mm, .inr (12, [.int 1, .ref mlv, .ref msr, .ref mrs, .ref mpa, .ref mnu, .ref mlt, .ref mpl, .ref mod, .ref mic, .ref mgo, .ref msk, .ref mfo, .int 0, .int 0, .ref mul, .ref mup, .ref mun, .int 0, .ref mfr, .ref mta, .int 0]))] := hD
  subst hw
  refine lv_if_eq (tgt := 10) hx hb dX9_remove_5 (by decide) (fun q => absurd q (by decide)) (fun _ => ?_)
  refine lv_iconst (v := 0) hx hb dX9_remove_8 (by decide) ?_
  obtain ⟨hP9, hD9⟩ := z_get hP hD [0] (wc := [(mm, .inr (12, [.int 1, .ref mlv, .ref msr, .ref mrs, .ref mpa, .ref mnu, .ref mlt, .ref mpl, .ref mod, .ref mic, .ref mgo, .ref msk, .ref mfo, .int 0, .int 0, .ref mul, .ref mup, .ref mun, .int 0, .ref mfr, .ref mta, .int 0]))]) rfl rfl
  exact W.iret (v := 0) hx hb hr (fun t ht hW => ⟨⟨0, (), rfl, rfl, by rw [ht]; exact hP9, hD9⟩, hS.F ht⟩) hS.2.2 dX9_remove_9

set_option maxHeartbeats 4000000 in
set_option maxRecDepth 100000 in
theorem m_placeOf (l : Launch) (D : va_G) (cI : ClassId) (mm mlv msr mrs mpa mnu mlt mpl mod mic mgo msk mfo mul mup mun mfr mta : Nat) (t i : Int32) (sz : Nat) : Met l yX9_placeOf wsX9_placeOf ({ frames := 3, cells := 0, slots := 0, locals := 64 }) (va_Pc [.ref mm, .int i] (zPre D [(cI, .int)] [(mm, .inr (12, [.int t, .ref mlv, .ref msr, .ref mrs, .ref mpa, .ref mnu, .ref mlt, .ref mpl, .ref mod, .ref mic, .ref mgo, .ref msk, .ref mfo, .int 0, .int 0, .ref mul, .ref mup, .ref mun, .int 0, .ref mfr, .ref mta, .int 0]))] sz)) (va_Qi (fun rv (_ : Unit) => rv = 0) (fun (_ : Unit) => zB D [(mm, .inr (12, [.int 1, .ref mlv, .ref msr, .ref mrs, .ref mpa, .ref mnu, .ref mlt, .ref mpl, .ref mod, .ref mic, .ref mgo, .ref msk, .ref mfo, .int 0, .int 0, .ref mul, .ref mup, .ref mun, .int 0, .ref mfr, .ref mta, .int 0]))] (va_A [(mm, .inr (12, [.int t, .ref mlv, .ref msr, .ref mrs, .ref mpa, .ref mnu, .ref mlt, .ref mpl, .ref mod, .ref mic, .ref mgo, .ref msk, .ref mfo, .int 0, .int 0, .ref mul, .ref mup, .ref mun, .int 0, .ref mfr, .ref mta, .int 0]))] sz)) (va_A [(mm, .inr (12, [.int t, .ref mlv, .ref msr, .ref mrs, .ref mpa, .ref mnu, .ref mlt, .ref mpl, .ref mod, .ref mic, .ref mgo, .ref msk, .ref mfo, .int 0, .int 0, .ref mul, .ref mup, .ref mun, .int 0, .ref mfr, .ref mta, .int 0]))] sz)) 0 0 (va_A [(mm, .inr (12, [.int t, .ref mlv, .ref msr, .ref mrs, .ref mpa, .ref mnu, .ref mlt, .ref mpl, .ref mod, .ref mic, .ref mgo, .ref msk, .ref mfo, .int 0, .int 0, .ref mul, .ref mup, .ref mun, .int 0, .ref mfr, .ref mta, .int 0]))] sz) := by
  refine Met.ofW (cc := cX9_placeOf) (maxL := 2) (ret := (some .int)) (by decide) rfl ?_
  intro P0 E0 s m args below meth C9 s₁ B hml hv
  obtain ⟨rfl, hsz, hP, hK, hD0⟩ := hv
  have hx := B.exec
  have hb := B.bytes
  have hr := B.returns
  have hts := atoms_spec (ws := wsX9_placeOf) B.pre
  have hown : s.vm.findClass RX9 = some m.cls := findClass_of_methodNamed B.named
  have hlocks := B.notSynchronized
  subst hsz
  have hD := hD0.self (sz := s.heap.size)
  generalize hAe : va_A [(mm, .inr (12, [.int t, .ref mlv, .ref msr, .ref mrs, .ref mpa, .ref mnu, .ref mlt, .ref mpl, .ref mod, .ref mic, .ref mgo, .ref msk, .ref mfo, .int 0, .int 0, .ref mul, .ref mup, .ref mun, .int 0, .ref mfr, .ref mta, .int 0]))] s.heap.size = A at hD ⊢
  have hA : ∀ q : Nat, s.heap.size ≤ q → A q := fun q h => by rw [← hAe]; exact Or.inr h
  have hS : va_S A s.heap s.heap [] := va_S.rf
  have hl := lv_entry ([.ref mm, .int i]) (n := 2) (Nat.le_of_ble_eq_true rfl)
  rw [lg_entry_eq]
  generalize (lg_sl ([.ref mm, .int i]) ++ List.replicate (2 - (lg_sl ([.ref mm, .int i])).length) Slot.unset).toArray = ls at hl ⊢
  have hl : lv_has ls 2 [(0, .ref mm), (1, .int i)] := hl
  refine lv_aload_n hx hb dX9_placeOf_0 rfl (lv_at hl 0 rfl) ?_
  refine lv_iload_n hx hb dX9_placeOf_1 rfl (lv_at hl 1 rfl) ?_
  refine zc_i (wc := [(mm, .inr (12, [.int t, .ref mlv, .ref msr, .ref mrs, .ref mpa, .ref mnu, .ref mlt, .ref mpl, .ref mod, .ref mic, .ref mgo, .ref msk, .ref mfo, .int 0, .int 0, .ref mul, .ref mup, .ref mun, .int 0, .ref mfr, .ref mta, .int 0]))]) (wr := []) (va_runV (As := [.int i]) (rest := []) ⟨hx, hb, hml, hown, hts⟩ (k_isGone0 l D cI mm mlv msr mrs mpa mnu mlt mpl mod mic mgo msk mfo mul mup mun mfr mta t i s.heap.size) (cwV 1 hts gX9_placeOf_X9_isGone rfl rfl rfl (by decide +kernel) ⟨Nat.le_of_ble_eq_true rfl, Nat.le_of_ble_eq_true rfl⟩) (zPV hK hP hD [0] rfl rfl [0] rfl 0 rfl rfl rfl) rfl rfl hl.1 rfl (lv_room (Nat.le_of_ble_eq_true rfl)) dX9_placeOf_2 ⟨Nat.le_of_ble_eq_true rfl, Nat.le_of_ble_eq_true rfl⟩) hP hD hS hA [0] [] rfl rfl rfl (by decide) (fun r _ H locs hw hP hD hS => ?_)
  have hP : va_P D vwCl [(mm, .inr (12, [.int 1, .ref mlv, .ref msr, .ref mrs, .ref mpa, .ref mnu, .ref mlt, .ref mpl, .ref mod, .ref mic, .ref mgo, .ref msk, .ref mfo, .int 0, .int 0, .ref mul, .ref mup, .ref mun, .int 0, .ref mfr, .ref mta, .int 0]))] H := hP
  have hD : va_D A [(mm, .inr (12, [.int 1, .ref mlv, .ref msr, .ref mrs, .ref mpa, .ref mnu, .ref mlt, .ref mpl, .ref mod, .ref mic, .ref mgo, .ref msk, .ref mfo, .int 0, .int 0, .ref mul, .ref mup, .ref mun, .int 0, .ref mfr, .ref mta, .int 0]))] := hD
  subst hw
  refine lv_if_eq (tgt := 12) hx hb dX9_placeOf_5 (by decide) (fun q => absurd q (by decide)) (fun _ => ?_)
  refine lv_iconst (v := 0) hx hb dX9_placeOf_8 (by decide) ?_
  refine lv_goto (tgt := 18) hx hb dX9_placeOf_9 (by decide) ?_
  obtain ⟨hP9, hD9⟩ := z_get hP hD [0] (wc := [(mm, .inr (12, [.int 1, .ref mlv, .ref msr, .ref mrs, .ref mpa, .ref mnu, .ref mlt, .ref mpl, .ref mod, .ref mic, .ref mgo, .ref msk, .ref mfo, .int 0, .int 0, .ref mul, .ref mup, .ref mun, .int 0, .ref mfr, .ref mta, .int 0]))]) rfl rfl
  exact W.iret (v := 0) hx hb hr (fun t ht hW => ⟨⟨0, (), rfl, rfl, by rw [ht]; exact hP9, hD9⟩, hS.F ht⟩) hS.2.2 dX9_placeOf_18

set_option maxHeartbeats 4000000 in
set_option maxRecDepth 100000 in
theorem m_levelOf (l : Launch) (D : va_G) (cI : ClassId) (mm mlv msr mrs mpa mnu mlt mpl mod mic mgo msk mfo mul mup mun mfr mta : Nat) (t i : Int32) (sz : Nat) : Met l yX9_levelOf wsX9_levelOf ({ frames := 3, cells := 0, slots := 0, locals := 64 }) (va_Pc [.ref mm, .int i] (zPre D [(cI, .int)] [(mm, .inr (12, [.int t, .ref mlv, .ref msr, .ref mrs, .ref mpa, .ref mnu, .ref mlt, .ref mpl, .ref mod, .ref mic, .ref mgo, .ref msk, .ref mfo, .int 0, .int 0, .ref mul, .ref mup, .ref mun, .int 0, .ref mfr, .ref mta, .int 0]))] sz)) (va_Qi (fun rv (_ : Unit) => rv = 0) (fun (_ : Unit) => zB D [(mm, .inr (12, [.int 1, .ref mlv, .ref msr, .ref mrs, .ref mpa, .ref mnu, .ref mlt, .ref mpl, .ref mod, .ref mic, .ref mgo, .ref msk, .ref mfo, .int 0, .int 0, .ref mul, .ref mup, .ref mun, .int 0, .ref mfr, .ref mta, .int 0]))] (va_A [(mm, .inr (12, [.int t, .ref mlv, .ref msr, .ref mrs, .ref mpa, .ref mnu, .ref mlt, .ref mpl, .ref mod, .ref mic, .ref mgo, .ref msk, .ref mfo, .int 0, .int 0, .ref mul, .ref mup, .ref mun, .int 0, .ref mfr, .ref mta, .int 0]))] sz)) (va_A [(mm, .inr (12, [.int t, .ref mlv, .ref msr, .ref mrs, .ref mpa, .ref mnu, .ref mlt, .ref mpl, .ref mod, .ref mic, .ref mgo, .ref msk, .ref mfo, .int 0, .int 0, .ref mul, .ref mup, .ref mun, .int 0, .ref mfr, .ref mta, .int 0]))] sz)) 0 0 (va_A [(mm, .inr (12, [.int t, .ref mlv, .ref msr, .ref mrs, .ref mpa, .ref mnu, .ref mlt, .ref mpl, .ref mod, .ref mic, .ref mgo, .ref msk, .ref mfo, .int 0, .int 0, .ref mul, .ref mup, .ref mun, .int 0, .ref mfr, .ref mta, .int 0]))] sz) := by
  refine Met.ofW (cc := cX9_levelOf) (maxL := 2) (ret := (some .int)) (by decide) rfl ?_
  intro P0 E0 s m args below meth C9 s₁ B hml hv
  obtain ⟨rfl, hsz, hP, hK, hD0⟩ := hv
  have hx := B.exec
  have hb := B.bytes
  have hr := B.returns
  have hts := atoms_spec (ws := wsX9_levelOf) B.pre
  have hown : s.vm.findClass RX9 = some m.cls := findClass_of_methodNamed B.named
  have hlocks := B.notSynchronized
  subst hsz
  have hD := hD0.self (sz := s.heap.size)
  generalize hAe : va_A [(mm, .inr (12, [.int t, .ref mlv, .ref msr, .ref mrs, .ref mpa, .ref mnu, .ref mlt, .ref mpl, .ref mod, .ref mic, .ref mgo, .ref msk, .ref mfo, .int 0, .int 0, .ref mul, .ref mup, .ref mun, .int 0, .ref mfr, .ref mta, .int 0]))] s.heap.size = A at hD ⊢
  have hA : ∀ q : Nat, s.heap.size ≤ q → A q := fun q h => by rw [← hAe]; exact Or.inr h
  have hS : va_S A s.heap s.heap [] := va_S.rf
  have hl := lv_entry ([.ref mm, .int i]) (n := 2) (Nat.le_of_ble_eq_true rfl)
  rw [lg_entry_eq]
  generalize (lg_sl ([.ref mm, .int i]) ++ List.replicate (2 - (lg_sl ([.ref mm, .int i])).length) Slot.unset).toArray = ls at hl ⊢
  have hl : lv_has ls 2 [(0, .ref mm), (1, .int i)] := hl
  refine lv_aload_n hx hb dX9_levelOf_0 rfl (lv_at hl 0 rfl) ?_
  refine lv_iload_n hx hb dX9_levelOf_1 rfl (lv_at hl 1 rfl) ?_
  refine zc_i (wc := [(mm, .inr (12, [.int t, .ref mlv, .ref msr, .ref mrs, .ref mpa, .ref mnu, .ref mlt, .ref mpl, .ref mod, .ref mic, .ref mgo, .ref msk, .ref mfo, .int 0, .int 0, .ref mul, .ref mup, .ref mun, .int 0, .ref mfr, .ref mta, .int 0]))]) (wr := []) (va_runV (As := [.int i]) (rest := []) ⟨hx, hb, hml, hown, hts⟩ (k_isGone0 l D cI mm mlv msr mrs mpa mnu mlt mpl mod mic mgo msk mfo mul mup mun mfr mta t i s.heap.size) (cwV 1 hts gX9_levelOf_X9_isGone rfl rfl rfl (by decide +kernel) ⟨Nat.le_of_ble_eq_true rfl, Nat.le_of_ble_eq_true rfl⟩) (zPV hK hP hD [0] rfl rfl [0] rfl 0 rfl rfl rfl) rfl rfl hl.1 rfl (lv_room (Nat.le_of_ble_eq_true rfl)) dX9_levelOf_2 ⟨Nat.le_of_ble_eq_true rfl, Nat.le_of_ble_eq_true rfl⟩) hP hD hS hA [0] [] rfl rfl rfl (by decide) (fun r _ H locs hw hP hD hS => ?_)
  have hP : va_P D vwCl [(mm, .inr (12, [.int 1, .ref mlv, .ref msr, .ref mrs, .ref mpa, .ref mnu, .ref mlt, .ref mpl, .ref mod, .ref mic, .ref mgo, .ref msk, .ref mfo, .int 0, .int 0, .ref mul, .ref mup, .ref mun, .int 0, .ref mfr, .ref mta, .int 0]))] H := hP
  have hD : va_D A [(mm, .inr (12, [.int 1, .ref mlv, .ref msr, .ref mrs, .ref mpa, .ref mnu, .ref mlt, .ref mpl, .ref mod, .ref mic, .ref mgo, .ref msk, .ref mfo, .int 0, .int 0, .ref mul, .ref mup, .ref mun, .int 0, .ref mfr, .ref mta, .int 0]))] := hD
  subst hw
  refine lv_if_eq (tgt := 12) hx hb dX9_levelOf_5 (by decide) (fun q => absurd q (by decide)) (fun _ => ?_)
  refine lv_iconst (v := 0) hx hb dX9_levelOf_8 (by decide) ?_
  refine lv_goto (tgt := 18) hx hb dX9_levelOf_9 (by decide) ?_
  obtain ⟨hP9, hD9⟩ := z_get hP hD [0] (wc := [(mm, .inr (12, [.int 1, .ref mlv, .ref msr, .ref mrs, .ref mpa, .ref mnu, .ref mlt, .ref mpl, .ref mod, .ref mic, .ref mgo, .ref msk, .ref mfo, .int 0, .int 0, .ref mul, .ref mup, .ref mun, .int 0, .ref mfr, .ref mta, .int 0]))]) rfl rfl
  exact W.iret (v := 0) hx hb hr (fun t ht hW => ⟨⟨0, (), rfl, rfl, by rw [ht]; exact hP9, hD9⟩, hS.F ht⟩) hS.2.2 dX9_levelOf_18

set_option maxHeartbeats 4000000 in
set_option maxRecDepth 100000 in
theorem m_below (l : Launch) (D : va_G) (cI : ClassId) (mm mlv msr mrs mpa mnu mlt mpl mod mic mgo msk mfo mul mup mun mfr mta : Nat) (t i : Int32) (sz : Nat) : Met l yX9_below wsX9_below ({ frames := 3, cells := 0, slots := 0, locals := 64 }) (va_Pc [.ref mm, .int i] (zPre D [(cI, .int)] [(mm, .inr (12, [.int t, .ref mlv, .ref msr, .ref mrs, .ref mpa, .ref mnu, .ref mlt, .ref mpl, .ref mod, .ref mic, .ref mgo, .ref msk, .ref mfo, .int 0, .int 0, .ref mul, .ref mup, .ref mun, .int 0, .ref mfr, .ref mta, .int 0]))] sz)) (va_Qi (fun rv (_ : Unit) => rv = 0) (fun (_ : Unit) => zB D [(mm, .inr (12, [.int 1, .ref mlv, .ref msr, .ref mrs, .ref mpa, .ref mnu, .ref mlt, .ref mpl, .ref mod, .ref mic, .ref mgo, .ref msk, .ref mfo, .int 0, .int 0, .ref mul, .ref mup, .ref mun, .int 0, .ref mfr, .ref mta, .int 0]))] (va_A [(mm, .inr (12, [.int t, .ref mlv, .ref msr, .ref mrs, .ref mpa, .ref mnu, .ref mlt, .ref mpl, .ref mod, .ref mic, .ref mgo, .ref msk, .ref mfo, .int 0, .int 0, .ref mul, .ref mup, .ref mun, .int 0, .ref mfr, .ref mta, .int 0]))] sz)) (va_A [(mm, .inr (12, [.int t, .ref mlv, .ref msr, .ref mrs, .ref mpa, .ref mnu, .ref mlt, .ref mpl, .ref mod, .ref mic, .ref mgo, .ref msk, .ref mfo, .int 0, .int 0, .ref mul, .ref mup, .ref mun, .int 0, .ref mfr, .ref mta, .int 0]))] sz)) 0 0 (va_A [(mm, .inr (12, [.int t, .ref mlv, .ref msr, .ref mrs, .ref mpa, .ref mnu, .ref mlt, .ref mpl, .ref mod, .ref mic, .ref mgo, .ref msk, .ref mfo, .int 0, .int 0, .ref mul, .ref mup, .ref mun, .int 0, .ref mfr, .ref mta, .int 0]))] sz) := by
  refine Met.ofW (cc := cX9_below) (maxL := 4) (ret := (some .int)) (by decide) rfl ?_
  intro P0 E0 s m args below meth C9 s₁ B hml hv
  obtain ⟨rfl, hsz, hP, hK, hD0⟩ := hv
  have hx := B.exec
  have hb := B.bytes
  have hr := B.returns
  have hts := atoms_spec (ws := wsX9_below) B.pre
  have hown : s.vm.findClass RX9 = some m.cls := findClass_of_methodNamed B.named
  have hlocks := B.notSynchronized
  subst hsz
  have hD := hD0.self (sz := s.heap.size)
  generalize hAe : va_A [(mm, .inr (12, [.int t, .ref mlv, .ref msr, .ref mrs, .ref mpa, .ref mnu, .ref mlt, .ref mpl, .ref mod, .ref mic, .ref mgo, .ref msk, .ref mfo, .int 0, .int 0, .ref mul, .ref mup, .ref mun, .int 0, .ref mfr, .ref mta, .int 0]))] s.heap.size = A at hD ⊢
  have hA : ∀ q : Nat, s.heap.size ≤ q → A q := fun q h => by rw [← hAe]; exact Or.inr h
  have hS : va_S A s.heap s.heap [] := va_S.rf
  have hl := lv_entry ([.ref mm, .int i]) (n := 4) (Nat.le_of_ble_eq_true rfl)
  rw [lg_entry_eq]
  generalize (lg_sl ([.ref mm, .int i]) ++ List.replicate (4 - (lg_sl ([.ref mm, .int i])).length) Slot.unset).toArray = ls at hl ⊢
  have hl : lv_has ls 4 [(0, .ref mm), (1, .int i)] := hl
  refine lv_aload_n hx hb dX9_below_0 rfl (lv_at hl 0 rfl) ?_
  refine lv_iload_n hx hb dX9_below_1 rfl (lv_at hl 1 rfl) ?_
  refine zc_i (wc := [(mm, .inr (12, [.int t, .ref mlv, .ref msr, .ref mrs, .ref mpa, .ref mnu, .ref mlt, .ref mpl, .ref mod, .ref mic, .ref mgo, .ref msk, .ref mfo, .int 0, .int 0, .ref mul, .ref mup, .ref mun, .int 0, .ref mfr, .ref mta, .int 0]))]) (wr := []) (va_runV (As := [.int i]) (rest := []) ⟨hx, hb, hml, hown, hts⟩ (k_isGone0 l D cI mm mlv msr mrs mpa mnu mlt mpl mod mic mgo msk mfo mul mup mun mfr mta t i s.heap.size) (cwV 1 hts gX9_below_X9_isGone rfl rfl rfl (by decide +kernel) ⟨Nat.le_of_ble_eq_true rfl, Nat.le_of_ble_eq_true rfl⟩) (zPV hK hP hD [0] rfl rfl [0] rfl 0 rfl rfl rfl) rfl rfl hl.1 rfl (lv_room (Nat.le_of_ble_eq_true rfl)) dX9_below_2 ⟨Nat.le_of_ble_eq_true rfl, Nat.le_of_ble_eq_true rfl⟩) hP hD hS hA [0] [] rfl rfl rfl (by decide) (fun r _ H locs hw hP hD hS => ?_)
  have hP : va_P D vwCl [(mm, .inr (12, [.int 1, .ref mlv, .ref msr, .ref mrs, .ref mpa, .ref mnu, .ref mlt, .ref mpl, .ref mod, .ref mic, .ref mgo, .ref msk, .ref mfo, .int 0, .int 0, .ref mul, .ref mup, .ref mun, .int 0, .ref mfr, .ref mta, .int 0]))] H := hP
  have hD : va_D A [(mm, .inr (12, [.int 1, .ref mlv, .ref msr, .ref mrs, .ref mpa, .ref mnu, .ref mlt, .ref mpl, .ref mod, .ref mic, .ref mgo, .ref msk, .ref mfo, .int 0, .int 0, .ref mul, .ref mup, .ref mun, .int 0, .ref mfr, .ref mta, .int 0]))] := hD
  subst hw
  refine lv_if_eq (tgt := 10) hx hb dX9_below_5 (by decide) (fun q => absurd q (by decide)) (fun _ => ?_)
  refine lv_iconst (v := 0) hx hb dX9_below_8 (by decide) ?_
  obtain ⟨hP9, hD9⟩ := z_get hP hD [0] (wc := [(mm, .inr (12, [.int 1, .ref mlv, .ref msr, .ref mrs, .ref mpa, .ref mnu, .ref mlt, .ref mpl, .ref mod, .ref mic, .ref mgo, .ref msk, .ref mfo, .int 0, .int 0, .ref mul, .ref mup, .ref mun, .int 0, .ref mfr, .ref mta, .int 0]))]) rfl rfl
  exact W.iret (v := 0) hx hb hr (fun t ht hW => ⟨⟨0, (), rfl, rfl, by rw [ht]; exact hP9, hD9⟩, hS.F ht⟩) hS.2.2 dX9_below_9

set_option maxHeartbeats 4000000 in
set_option maxRecDepth 100000 in
theorem m_isFrozen (l : Launch) (D : va_G) (cI : ClassId) (mm mlv msr mrs mpa mnu mlt mpl mod mic mgo msk mfo mul mup mun mfr mta : Nat) (t i : Int32) (sz : Nat) : Met l yX9_isFrozen wsX9_isFrozen ({ frames := 3, cells := 0, slots := 0, locals := 64 }) (va_Pc [.ref mm, .int i] (zPre D [(cI, .int)] [(mm, .inr (12, [.int t, .ref mlv, .ref msr, .ref mrs, .ref mpa, .ref mnu, .ref mlt, .ref mpl, .ref mod, .ref mic, .ref mgo, .ref msk, .ref mfo, .int 0, .int 0, .ref mul, .ref mup, .ref mun, .int 0, .ref mfr, .ref mta, .int 0]))] sz)) (va_Qi (fun rv (_ : Unit) => rv = 0) (fun (_ : Unit) => zB D [(mm, .inr (12, [.int 1, .ref mlv, .ref msr, .ref mrs, .ref mpa, .ref mnu, .ref mlt, .ref mpl, .ref mod, .ref mic, .ref mgo, .ref msk, .ref mfo, .int 0, .int 0, .ref mul, .ref mup, .ref mun, .int 0, .ref mfr, .ref mta, .int 0]))] (va_A [(mm, .inr (12, [.int t, .ref mlv, .ref msr, .ref mrs, .ref mpa, .ref mnu, .ref mlt, .ref mpl, .ref mod, .ref mic, .ref mgo, .ref msk, .ref mfo, .int 0, .int 0, .ref mul, .ref mup, .ref mun, .int 0, .ref mfr, .ref mta, .int 0]))] sz)) (va_A [(mm, .inr (12, [.int t, .ref mlv, .ref msr, .ref mrs, .ref mpa, .ref mnu, .ref mlt, .ref mpl, .ref mod, .ref mic, .ref mgo, .ref msk, .ref mfo, .int 0, .int 0, .ref mul, .ref mup, .ref mun, .int 0, .ref mfr, .ref mta, .int 0]))] sz)) 0 0 (va_A [(mm, .inr (12, [.int t, .ref mlv, .ref msr, .ref mrs, .ref mpa, .ref mnu, .ref mlt, .ref mpl, .ref mod, .ref mic, .ref mgo, .ref msk, .ref mfo, .int 0, .int 0, .ref mul, .ref mup, .ref mun, .int 0, .ref mfr, .ref mta, .int 0]))] sz) := by
  refine Met.ofW (cc := cX9_isFrozen) (maxL := 2) (ret := (some .boolean)) (by decide) rfl ?_
  intro P0 E0 s m args below meth C9 s₁ B hml hv
  obtain ⟨rfl, hsz, hP, hK, hD0⟩ := hv
  have hx := B.exec
  have hb := B.bytes
  have hr := B.returns
  have hts := atoms_spec (ws := wsX9_isFrozen) B.pre
  have hown : s.vm.findClass RX9 = some m.cls := findClass_of_methodNamed B.named
  have hlocks := B.notSynchronized
  subst hsz
  have hD := hD0.self (sz := s.heap.size)
  generalize hAe : va_A [(mm, .inr (12, [.int t, .ref mlv, .ref msr, .ref mrs, .ref mpa, .ref mnu, .ref mlt, .ref mpl, .ref mod, .ref mic, .ref mgo, .ref msk, .ref mfo, .int 0, .int 0, .ref mul, .ref mup, .ref mun, .int 0, .ref mfr, .ref mta, .int 0]))] s.heap.size = A at hD ⊢
  have hA : ∀ q : Nat, s.heap.size ≤ q → A q := fun q h => by rw [← hAe]; exact Or.inr h
  have hS : va_S A s.heap s.heap [] := va_S.rf
  have hl := lv_entry ([.ref mm, .int i]) (n := 2) (Nat.le_of_ble_eq_true rfl)
  rw [lg_entry_eq]
  generalize (lg_sl ([.ref mm, .int i]) ++ List.replicate (2 - (lg_sl ([.ref mm, .int i])).length) Slot.unset).toArray = ls at hl ⊢
  have hl : lv_has ls 2 [(0, .ref mm), (1, .int i)] := hl
  refine lv_aload_n hx hb dX9_isFrozen_0 rfl (lv_at hl 0 rfl) ?_
  refine lv_iload_n hx hb dX9_isFrozen_1 rfl (lv_at hl 1 rfl) ?_
  refine zc_i (wc := [(mm, .inr (12, [.int t, .ref mlv, .ref msr, .ref mrs, .ref mpa, .ref mnu, .ref mlt, .ref mpl, .ref mod, .ref mic, .ref mgo, .ref msk, .ref mfo, .int 0, .int 0, .ref mul, .ref mup, .ref mun, .int 0, .ref mfr, .ref mta, .int 0]))]) (wr := []) (va_runV (As := [.int i]) (rest := []) ⟨hx, hb, hml, hown, hts⟩ (k_isGone0 l D cI mm mlv msr mrs mpa mnu mlt mpl mod mic mgo msk mfo mul mup mun mfr mta t i s.heap.size) (cwV 1 hts gX9_isFrozen_X9_isGone rfl rfl rfl (by decide +kernel) ⟨Nat.le_of_ble_eq_true rfl, Nat.le_of_ble_eq_true rfl⟩) (zPV hK hP hD [0] rfl rfl [0] rfl 0 rfl rfl rfl) rfl rfl hl.1 rfl (lv_room (Nat.le_of_ble_eq_true rfl)) dX9_isFrozen_2 ⟨Nat.le_of_ble_eq_true rfl, Nat.le_of_ble_eq_true rfl⟩) hP hD hS hA [0] [] rfl rfl rfl (by decide) (fun r _ H locs hw hP hD hS => ?_)
  have hP : va_P D vwCl [(mm, .inr (12, [.int 1, .ref mlv, .ref msr, .ref mrs, .ref mpa, .ref mnu, .ref mlt, .ref mpl, .ref mod, .ref mic, .ref mgo, .ref msk, .ref mfo, .int 0, .int 0, .ref mul, .ref mup, .ref mun, .int 0, .ref mfr, .ref mta, .int 0]))] H := hP
  have hD : va_D A [(mm, .inr (12, [.int 1, .ref mlv, .ref msr, .ref mrs, .ref mpa, .ref mnu, .ref mlt, .ref mpl, .ref mod, .ref mic, .ref mgo, .ref msk, .ref mfo, .int 0, .int 0, .ref mul, .ref mup, .ref mun, .int 0, .ref mfr, .ref mta, .int 0]))] := hD
  subst hw
  refine lv_if_ne (tgt := 21) hx hb dX9_isFrozen_5 (by decide) (fun _ => ?_) (fun q => absurd q (by decide))
  refine lv_iconst (v := 0) hx hb dX9_isFrozen_21 (by decide) ?_
  obtain ⟨hP9, hD9⟩ := z_get hP hD [0] (wc := [(mm, .inr (12, [.int 1, .ref mlv, .ref msr, .ref mrs, .ref mpa, .ref mnu, .ref mlt, .ref mpl, .ref mod, .ref mic, .ref mgo, .ref msk, .ref mfo, .int 0, .int 0, .ref mul, .ref mup, .ref mun, .int 0, .ref mfr, .ref mta, .int 0]))]) rfl rfl
  exact W.zret (ty := .boolean) (v := 0) hx hb hr rfl (fun t ht hW => ⟨⟨0, (), rfl, rfl, by rw [ht]; exact hP9, hD9⟩, hS.F ht⟩) hS.2.2 dX9_isFrozen_22

set_option maxHeartbeats 4000000 in
set_option maxRecDepth 100000 in
theorem m_parentOf (l : Launch) (D : va_G) (cI : ClassId) (mm mlv msr mrs mpa mnu mlt mpl mod mic mgo msk mfo mul mup mun mfr mta : Nat) (t i : Int32) (sz : Nat) : Met l yX9_parentOf wsX9_parentOf ({ frames := 4, cells := 0, slots := 0, locals := 85 }) (va_Pc [.ref mm, .int i] (zPre D [(cI, .int)] [(mm, .inr (12, [.int t, .ref mlv, .ref msr, .ref mrs, .ref mpa, .ref mnu, .ref mlt, .ref mpl, .ref mod, .ref mic, .ref mgo, .ref msk, .ref mfo, .int 0, .int 0, .ref mul, .ref mup, .ref mun, .int 0, .ref mfr, .ref mta, .int 0]))] sz)) (va_Qi (fun rv (_ : Unit) => rv = 0) (fun (_ : Unit) => zB D [(mm, .inr (12, [.int 1, .ref mlv, .ref msr, .ref mrs, .ref mpa, .ref mnu, .ref mlt, .ref mpl, .ref mod, .ref mic, .ref mgo, .ref msk, .ref mfo, .int 0, .int 0, .ref mul, .ref mup, .ref mun, .int 0, .ref mfr, .ref mta, .int 0]))] (va_A [(mm, .inr (12, [.int t, .ref mlv, .ref msr, .ref mrs, .ref mpa, .ref mnu, .ref mlt, .ref mpl, .ref mod, .ref mic, .ref mgo, .ref msk, .ref mfo, .int 0, .int 0, .ref mul, .ref mup, .ref mun, .int 0, .ref mfr, .ref mta, .int 0]))] sz)) (va_A [(mm, .inr (12, [.int t, .ref mlv, .ref msr, .ref mrs, .ref mpa, .ref mnu, .ref mlt, .ref mpl, .ref mod, .ref mic, .ref mgo, .ref msk, .ref mfo, .int 0, .int 0, .ref mul, .ref mup, .ref mun, .int 0, .ref mfr, .ref mta, .int 0]))] sz)) 0 0 (va_A [(mm, .inr (12, [.int t, .ref mlv, .ref msr, .ref mrs, .ref mpa, .ref mnu, .ref mlt, .ref mpl, .ref mod, .ref mic, .ref mgo, .ref msk, .ref mfo, .int 0, .int 0, .ref mul, .ref mup, .ref mun, .int 0, .ref mfr, .ref mta, .int 0]))] sz) := by
  refine Met.ofW (cc := cX9_parentOf) (maxL := 2) (ret := (some .int)) (by decide) rfl ?_
  intro P0 E0 s m args below meth C9 s₁ B hml hv
  obtain ⟨rfl, hsz, hP, hK, hD0⟩ := hv
  have hx := B.exec
  have hb := B.bytes
  have hr := B.returns
  have hts := atoms_spec (ws := wsX9_parentOf) B.pre
  have hown : s.vm.findClass RX9 = some m.cls := findClass_of_methodNamed B.named
  have hlocks := B.notSynchronized
  subst hsz
  have hD := hD0.self (sz := s.heap.size)
  generalize hAe : va_A [(mm, .inr (12, [.int t, .ref mlv, .ref msr, .ref mrs, .ref mpa, .ref mnu, .ref mlt, .ref mpl, .ref mod, .ref mic, .ref mgo, .ref msk, .ref mfo, .int 0, .int 0, .ref mul, .ref mup, .ref mun, .int 0, .ref mfr, .ref mta, .int 0]))] s.heap.size = A at hD ⊢
  have hA : ∀ q : Nat, s.heap.size ≤ q → A q := fun q h => by rw [← hAe]; exact Or.inr h
  have hS : va_S A s.heap s.heap [] := va_S.rf
  have hl := lv_entry ([.ref mm, .int i]) (n := 2) (Nat.le_of_ble_eq_true rfl)
  rw [lg_entry_eq]
  generalize (lg_sl ([.ref mm, .int i]) ++ List.replicate (2 - (lg_sl ([.ref mm, .int i])).length) Slot.unset).toArray = ls at hl ⊢
  have hl : lv_has ls 2 [(0, .ref mm), (1, .int i)] := hl
  refine lv_aload_n hx hb dX9_parentOf_0 rfl (lv_at hl 0 rfl) ?_
  refine lv_iload_n hx hb dX9_parentOf_1 rfl (lv_at hl 1 rfl) ?_
  refine zc_i (wc := [(mm, .inr (12, [.int t, .ref mlv, .ref msr, .ref mrs, .ref mpa, .ref mnu, .ref mlt, .ref mpl, .ref mod, .ref mic, .ref mgo, .ref msk, .ref mfo, .int 0, .int 0, .ref mul, .ref mup, .ref mun, .int 0, .ref mfr, .ref mta, .int 0]))]) (wr := []) (va_runV (As := [.int i]) (rest := []) ⟨hx, hb, hml, hown, hts⟩ (k_misPlain0 l D cI mm mlv msr mrs mpa mnu mlt mpl mod mic mgo msk mfo mul mup mun mfr mta t i s.heap.size) (cwV 1 hts gX9_parentOf_X9_isPlain rfl rfl rfl (by decide +kernel) ⟨Nat.le_of_ble_eq_true rfl, Nat.le_of_ble_eq_true rfl⟩) (zPV hK hP hD [0] rfl rfl [0] rfl 0 rfl rfl rfl) rfl rfl hl.1 rfl (lv_room (Nat.le_of_ble_eq_true rfl)) dX9_parentOf_2 ⟨Nat.le_of_ble_eq_true rfl, Nat.le_of_ble_eq_true rfl⟩) hP hD hS hA [0] [] rfl rfl rfl (by decide) (fun r _ H locs hw hP hD hS => ?_)
  have hP : va_P D vwCl [(mm, .inr (12, [.int 1, .ref mlv, .ref msr, .ref mrs, .ref mpa, .ref mnu, .ref mlt, .ref mpl, .ref mod, .ref mic, .ref mgo, .ref msk, .ref mfo, .int 0, .int 0, .ref mul, .ref mup, .ref mun, .int 0, .ref mfr, .ref mta, .int 0]))] H := hP
  have hD : va_D A [(mm, .inr (12, [.int 1, .ref mlv, .ref msr, .ref mrs, .ref mpa, .ref mnu, .ref mlt, .ref mpl, .ref mod, .ref mic, .ref mgo, .ref msk, .ref mfo, .int 0, .int 0, .ref mul, .ref mup, .ref mun, .int 0, .ref mfr, .ref mta, .int 0]))] := hD
  subst hw
  refine lv_if_eq (tgt := 12) hx hb dX9_parentOf_5 (by decide) (fun q => absurd q (by decide)) (fun _ => ?_)
  refine lv_iconst (v := 0) hx hb dX9_parentOf_8 (by decide) ?_
  refine lv_goto (tgt := 18) hx hb dX9_parentOf_9 (by decide) ?_
  obtain ⟨hP9, hD9⟩ := z_get hP hD [0] (wc := [(mm, .inr (12, [.int 1, .ref mlv, .ref msr, .ref mrs, .ref mpa, .ref mnu, .ref mlt, .ref mpl, .ref mod, .ref mic, .ref mgo, .ref msk, .ref mfo, .int 0, .int 0, .ref mul, .ref mup, .ref mun, .int 0, .ref mfr, .ref mta, .int 0]))]) rfl rfl
  exact W.iret (v := 0) hx hb hr (fun t ht hW => ⟨⟨0, (), rfl, rfl, by rw [ht]; exact hP9, hD9⟩, hS.F ht⟩) hS.2.2 dX9_parentOf_18

set_option maxHeartbeats 4000000 in
set_option maxRecDepth 100000 in
theorem m_numberOf (l : Launch) (D : va_G) (cI : ClassId) (mm mlv msr mrs mpa mnu mlt mpl mod mic mgo msk mfo mul mup mun mfr mta : Nat) (t i : Int32) (sz : Nat) : Met l yX9_numberOf wsX9_numberOf ({ frames := 4, cells := 0, slots := 0, locals := 85 }) (va_Pc [.ref mm, .int i] (zPre D [(cI, .int)] [(mm, .inr (12, [.int t, .ref mlv, .ref msr, .ref mrs, .ref mpa, .ref mnu, .ref mlt, .ref mpl, .ref mod, .ref mic, .ref mgo, .ref msk, .ref mfo, .int 0, .int 0, .ref mul, .ref mup, .ref mun, .int 0, .ref mfr, .ref mta, .int 0]))] sz)) (va_Qi (fun rv (_ : Unit) => rv = 0) (fun (_ : Unit) => zB D [(mm, .inr (12, [.int 1, .ref mlv, .ref msr, .ref mrs, .ref mpa, .ref mnu, .ref mlt, .ref mpl, .ref mod, .ref mic, .ref mgo, .ref msk, .ref mfo, .int 0, .int 0, .ref mul, .ref mup, .ref mun, .int 0, .ref mfr, .ref mta, .int 0]))] (va_A [(mm, .inr (12, [.int t, .ref mlv, .ref msr, .ref mrs, .ref mpa, .ref mnu, .ref mlt, .ref mpl, .ref mod, .ref mic, .ref mgo, .ref msk, .ref mfo, .int 0, .int 0, .ref mul, .ref mup, .ref mun, .int 0, .ref mfr, .ref mta, .int 0]))] sz)) (va_A [(mm, .inr (12, [.int t, .ref mlv, .ref msr, .ref mrs, .ref mpa, .ref mnu, .ref mlt, .ref mpl, .ref mod, .ref mic, .ref mgo, .ref msk, .ref mfo, .int 0, .int 0, .ref mul, .ref mup, .ref mun, .int 0, .ref mfr, .ref mta, .int 0]))] sz)) 0 0 (va_A [(mm, .inr (12, [.int t, .ref mlv, .ref msr, .ref mrs, .ref mpa, .ref mnu, .ref mlt, .ref mpl, .ref mod, .ref mic, .ref mgo, .ref msk, .ref mfo, .int 0, .int 0, .ref mul, .ref mup, .ref mun, .int 0, .ref mfr, .ref mta, .int 0]))] sz) := by
  refine Met.ofW (cc := cX9_numberOf) (maxL := 2) (ret := (some .int)) (by decide) rfl ?_
  intro P0 E0 s m args below meth C9 s₁ B hml hv
  obtain ⟨rfl, hsz, hP, hK, hD0⟩ := hv
  have hx := B.exec
  have hb := B.bytes
  have hr := B.returns
  have hts := atoms_spec (ws := wsX9_numberOf) B.pre
  have hown : s.vm.findClass RX9 = some m.cls := findClass_of_methodNamed B.named
  have hlocks := B.notSynchronized
  subst hsz
  have hD := hD0.self (sz := s.heap.size)
  generalize hAe : va_A [(mm, .inr (12, [.int t, .ref mlv, .ref msr, .ref mrs, .ref mpa, .ref mnu, .ref mlt, .ref mpl, .ref mod, .ref mic, .ref mgo, .ref msk, .ref mfo, .int 0, .int 0, .ref mul, .ref mup, .ref mun, .int 0, .ref mfr, .ref mta, .int 0]))] s.heap.size = A at hD ⊢
  have hA : ∀ q : Nat, s.heap.size ≤ q → A q := fun q h => by rw [← hAe]; exact Or.inr h
  have hS : va_S A s.heap s.heap [] := va_S.rf
  have hl := lv_entry ([.ref mm, .int i]) (n := 2) (Nat.le_of_ble_eq_true rfl)
  rw [lg_entry_eq]
  generalize (lg_sl ([.ref mm, .int i]) ++ List.replicate (2 - (lg_sl ([.ref mm, .int i])).length) Slot.unset).toArray = ls at hl ⊢
  have hl : lv_has ls 2 [(0, .ref mm), (1, .int i)] := hl
  refine lv_aload_n hx hb dX9_numberOf_0 rfl (lv_at hl 0 rfl) ?_
  refine lv_iload_n hx hb dX9_numberOf_1 rfl (lv_at hl 1 rfl) ?_
  refine zc_i (wc := [(mm, .inr (12, [.int t, .ref mlv, .ref msr, .ref mrs, .ref mpa, .ref mnu, .ref mlt, .ref mpl, .ref mod, .ref mic, .ref mgo, .ref msk, .ref mfo, .int 0, .int 0, .ref mul, .ref mup, .ref mun, .int 0, .ref mfr, .ref mta, .int 0]))]) (wr := []) (va_runV (As := [.int i]) (rest := []) ⟨hx, hb, hml, hown, hts⟩ (k_misPlain0 l D cI mm mlv msr mrs mpa mnu mlt mpl mod mic mgo msk mfo mul mup mun mfr mta t i s.heap.size) (cwV 1 hts gX9_numberOf_X9_isPlain rfl rfl rfl (by decide +kernel) ⟨Nat.le_of_ble_eq_true rfl, Nat.le_of_ble_eq_true rfl⟩) (zPV hK hP hD [0] rfl rfl [0] rfl 0 rfl rfl rfl) rfl rfl hl.1 rfl (lv_room (Nat.le_of_ble_eq_true rfl)) dX9_numberOf_2 ⟨Nat.le_of_ble_eq_true rfl, Nat.le_of_ble_eq_true rfl⟩) hP hD hS hA [0] [] rfl rfl rfl (by decide) (fun r _ H locs hw hP hD hS => ?_)
  have hP : va_P D vwCl [(mm, .inr (12, [.int 1, .ref mlv, .ref msr, .ref mrs, .ref mpa, .ref mnu, .ref mlt, .ref mpl, .ref mod, .ref mic, .ref mgo, .ref msk, .ref mfo, .int 0, .int 0, .ref mul, .ref mup, .ref mun, .int 0, .ref mfr, .ref mta, .int 0]))] H := hP
  have hD : va_D A [(mm, .inr (12, [.int 1, .ref mlv, .ref msr, .ref mrs, .ref mpa, .ref mnu, .ref mlt, .ref mpl, .ref mod, .ref mic, .ref mgo, .ref msk, .ref mfo, .int 0, .int 0, .ref mul, .ref mup, .ref mun, .int 0, .ref mfr, .ref mta, .int 0]))] := hD
  subst hw
  refine lv_if_eq (tgt := 12) hx hb dX9_numberOf_5 (by decide) (fun q => absurd q (by decide)) (fun _ => ?_)
  refine lv_iconst (v := 0) hx hb dX9_numberOf_8 (by decide) ?_
  refine lv_goto (tgt := 18) hx hb dX9_numberOf_9 (by decide) ?_
  obtain ⟨hP9, hD9⟩ := z_get hP hD [0] (wc := [(mm, .inr (12, [.int 1, .ref mlv, .ref msr, .ref mrs, .ref mpa, .ref mnu, .ref mlt, .ref mpl, .ref mod, .ref mic, .ref mgo, .ref msk, .ref mfo, .int 0, .int 0, .ref mul, .ref mup, .ref mun, .int 0, .ref mfr, .ref mta, .int 0]))]) rfl rfl
  exact W.iret (v := 0) hx hb hr (fun t ht hW => ⟨⟨0, (), rfl, rfl, by rw [ht]; exact hP9, hD9⟩, hS.F ht⟩) hS.2.2 dX9_numberOf_18

set_option maxHeartbeats 4000000 in
set_option maxRecDepth 100000 in
theorem m_lettersOf (l : Launch) (D : va_G) (cI : ClassId) (mm mlv msr mrs mpa mnu mlt mpl mod mic mgo msk mfo mul mup mun mfr mta : Nat) (t i : Int32) (sz : Nat) : Met l yX9_lettersOf wsX9_lettersOf ({ frames := 4, cells := 0, slots := 0, locals := 85 }) (va_Pc [.ref mm, .int i] (zPre D [(cI, .int)] [(mm, .inr (12, [.int t, .ref mlv, .ref msr, .ref mrs, .ref mpa, .ref mnu, .ref mlt, .ref mpl, .ref mod, .ref mic, .ref mgo, .ref msk, .ref mfo, .int 0, .int 0, .ref mul, .ref mup, .ref mun, .int 0, .ref mfr, .ref mta, .int 0]))] sz)) (va_Qi (fun rv (_ : Unit) => rv = 0) (fun (_ : Unit) => zB D [(mm, .inr (12, [.int 1, .ref mlv, .ref msr, .ref mrs, .ref mpa, .ref mnu, .ref mlt, .ref mpl, .ref mod, .ref mic, .ref mgo, .ref msk, .ref mfo, .int 0, .int 0, .ref mul, .ref mup, .ref mun, .int 0, .ref mfr, .ref mta, .int 0]))] (va_A [(mm, .inr (12, [.int t, .ref mlv, .ref msr, .ref mrs, .ref mpa, .ref mnu, .ref mlt, .ref mpl, .ref mod, .ref mic, .ref mgo, .ref msk, .ref mfo, .int 0, .int 0, .ref mul, .ref mup, .ref mun, .int 0, .ref mfr, .ref mta, .int 0]))] sz)) (va_A [(mm, .inr (12, [.int t, .ref mlv, .ref msr, .ref mrs, .ref mpa, .ref mnu, .ref mlt, .ref mpl, .ref mod, .ref mic, .ref mgo, .ref msk, .ref mfo, .int 0, .int 0, .ref mul, .ref mup, .ref mun, .int 0, .ref mfr, .ref mta, .int 0]))] sz)) 0 0 (va_A [(mm, .inr (12, [.int t, .ref mlv, .ref msr, .ref mrs, .ref mpa, .ref mnu, .ref mlt, .ref mpl, .ref mod, .ref mic, .ref mgo, .ref msk, .ref mfo, .int 0, .int 0, .ref mul, .ref mup, .ref mun, .int 0, .ref mfr, .ref mta, .int 0]))] sz) := by
  refine Met.ofW (cc := cX9_lettersOf) (maxL := 2) (ret := (some .int)) (by decide) rfl ?_
  intro P0 E0 s m args below meth C9 s₁ B hml hv
  obtain ⟨rfl, hsz, hP, hK, hD0⟩ := hv
  have hx := B.exec
  have hb := B.bytes
  have hr := B.returns
  have hts := atoms_spec (ws := wsX9_lettersOf) B.pre
  have hown : s.vm.findClass RX9 = some m.cls := findClass_of_methodNamed B.named
  have hlocks := B.notSynchronized
  subst hsz
  have hD := hD0.self (sz := s.heap.size)
  generalize hAe : va_A [(mm, .inr (12, [.int t, .ref mlv, .ref msr, .ref mrs, .ref mpa, .ref mnu, .ref mlt, .ref mpl, .ref mod, .ref mic, .ref mgo, .ref msk, .ref mfo, .int 0, .int 0, .ref mul, .ref mup, .ref mun, .int 0, .ref mfr, .ref mta, .int 0]))] s.heap.size = A at hD ⊢
  have hA : ∀ q : Nat, s.heap.size ≤ q → A q := fun q h => by rw [← hAe]; exact Or.inr h
  have hS : va_S A s.heap s.heap [] := va_S.rf
  have hl := lv_entry ([.ref mm, .int i]) (n := 2) (Nat.le_of_ble_eq_true rfl)
  rw [lg_entry_eq]
  generalize (lg_sl ([.ref mm, .int i]) ++ List.replicate (2 - (lg_sl ([.ref mm, .int i])).length) Slot.unset).toArray = ls at hl ⊢
  have hl : lv_has ls 2 [(0, .ref mm), (1, .int i)] := hl
  refine lv_aload_n hx hb dX9_lettersOf_0 rfl (lv_at hl 0 rfl) ?_
  refine lv_iload_n hx hb dX9_lettersOf_1 rfl (lv_at hl 1 rfl) ?_
  refine zc_i (wc := [(mm, .inr (12, [.int t, .ref mlv, .ref msr, .ref mrs, .ref mpa, .ref mnu, .ref mlt, .ref mpl, .ref mod, .ref mic, .ref mgo, .ref msk, .ref mfo, .int 0, .int 0, .ref mul, .ref mup, .ref mun, .int 0, .ref mfr, .ref mta, .int 0]))]) (wr := []) (va_runV (As := [.int i]) (rest := []) ⟨hx, hb, hml, hown, hts⟩ (k_misPlain0 l D cI mm mlv msr mrs mpa mnu mlt mpl mod mic mgo msk mfo mul mup mun mfr mta t i s.heap.size) (cwV 1 hts gX9_lettersOf_X9_isPlain rfl rfl rfl (by decide +kernel) ⟨Nat.le_of_ble_eq_true rfl, Nat.le_of_ble_eq_true rfl⟩) (zPV hK hP hD [0] rfl rfl [0] rfl 0 rfl rfl rfl) rfl rfl hl.1 rfl (lv_room (Nat.le_of_ble_eq_true rfl)) dX9_lettersOf_2 ⟨Nat.le_of_ble_eq_true rfl, Nat.le_of_ble_eq_true rfl⟩) hP hD hS hA [0] [] rfl rfl rfl (by decide) (fun r _ H locs hw hP hD hS => ?_)
  have hP : va_P D vwCl [(mm, .inr (12, [.int 1, .ref mlv, .ref msr, .ref mrs, .ref mpa, .ref mnu, .ref mlt, .ref mpl, .ref mod, .ref mic, .ref mgo, .ref msk, .ref mfo, .int 0, .int 0, .ref mul, .ref mup, .ref mun, .int 0, .ref mfr, .ref mta, .int 0]))] H := hP
  have hD : va_D A [(mm, .inr (12, [.int 1, .ref mlv, .ref msr, .ref mrs, .ref mpa, .ref mnu, .ref mlt, .ref mpl, .ref mod, .ref mic, .ref mgo, .ref msk, .ref mfo, .int 0, .int 0, .ref mul, .ref mup, .ref mun, .int 0, .ref mfr, .ref mta, .int 0]))] := hD
  subst hw
  refine lv_if_eq (tgt := 12) hx hb dX9_lettersOf_5 (by decide) (fun q => absurd q (by decide)) (fun _ => ?_)
  refine lv_iconst (v := 0) hx hb dX9_lettersOf_8 (by decide) ?_
  refine lv_goto (tgt := 18) hx hb dX9_lettersOf_9 (by decide) ?_
  obtain ⟨hP9, hD9⟩ := z_get hP hD [0] (wc := [(mm, .inr (12, [.int 1, .ref mlv, .ref msr, .ref mrs, .ref mpa, .ref mnu, .ref mlt, .ref mpl, .ref mod, .ref mic, .ref mgo, .ref msk, .ref mfo, .int 0, .int 0, .ref mul, .ref mup, .ref mun, .int 0, .ref mfr, .ref mta, .int 0]))]) rfl rfl
  exact W.iret (v := 0) hx hb hr (fun t ht hW => ⟨⟨0, (), rfl, rfl, by rw [ht]; exact hP9, hD9⟩, hS.F ht⟩) hS.2.2 dX9_lettersOf_18

set_option maxHeartbeats 4000000 in
set_option maxRecDepth 100000 in
theorem m_ahead (l : Launch) (D : va_G) (cI : ClassId) (mm mlv msr mrs mpa mnu mlt mpl mod mic mgo msk mfo mul mup mun mfr mta : Nat) (t i : Int32) (sz : Nat) : Met l yX9_ahead wsX9_ahead ({ frames := 4, cells := 0, slots := 0, locals := 85 }) (va_Pc [.ref mm, .int i] (zPre D [(cI, .int)] [(mm, .inr (12, [.int t, .ref mlv, .ref msr, .ref mrs, .ref mpa, .ref mnu, .ref mlt, .ref mpl, .ref mod, .ref mic, .ref mgo, .ref msk, .ref mfo, .int 0, .int 0, .ref mul, .ref mup, .ref mun, .int 0, .ref mfr, .ref mta, .int 0]))] sz)) (va_Qi (fun rv (_ : Unit) => rv = 0) (fun (_ : Unit) => zB D [(mm, .inr (12, [.int 1, .ref mlv, .ref msr, .ref mrs, .ref mpa, .ref mnu, .ref mlt, .ref mpl, .ref mod, .ref mic, .ref mgo, .ref msk, .ref mfo, .int 0, .int 0, .ref mul, .ref mup, .ref mun, .int 0, .ref mfr, .ref mta, .int 0]))] (va_A [(mm, .inr (12, [.int t, .ref mlv, .ref msr, .ref mrs, .ref mpa, .ref mnu, .ref mlt, .ref mpl, .ref mod, .ref mic, .ref mgo, .ref msk, .ref mfo, .int 0, .int 0, .ref mul, .ref mup, .ref mun, .int 0, .ref mfr, .ref mta, .int 0]))] sz)) (va_A [(mm, .inr (12, [.int t, .ref mlv, .ref msr, .ref mrs, .ref mpa, .ref mnu, .ref mlt, .ref mpl, .ref mod, .ref mic, .ref mgo, .ref msk, .ref mfo, .int 0, .int 0, .ref mul, .ref mup, .ref mun, .int 0, .ref mfr, .ref mta, .int 0]))] sz)) 0 0 (va_A [(mm, .inr (12, [.int t, .ref mlv, .ref msr, .ref mrs, .ref mpa, .ref mnu, .ref mlt, .ref mpl, .ref mod, .ref mic, .ref mgo, .ref msk, .ref mfo, .int 0, .int 0, .ref mul, .ref mup, .ref mun, .int 0, .ref mfr, .ref mta, .int 0]))] sz) := by
  refine Met.ofW (cc := cX9_ahead) (maxL := 2) (ret := (some .int)) (by decide) rfl ?_
  intro P0 E0 s m args below meth C9 s₁ B hml hv
  obtain ⟨rfl, hsz, hP, hK, hD0⟩ := hv
  have hx := B.exec
  have hb := B.bytes
  have hr := B.returns
  have hts := atoms_spec (ws := wsX9_ahead) B.pre
  have hown : s.vm.findClass RX9 = some m.cls := findClass_of_methodNamed B.named
  have hlocks := B.notSynchronized
  subst hsz
  have hD := hD0.self (sz := s.heap.size)
  generalize hAe : va_A [(mm, .inr (12, [.int t, .ref mlv, .ref msr, .ref mrs, .ref mpa, .ref mnu, .ref mlt, .ref mpl, .ref mod, .ref mic, .ref mgo, .ref msk, .ref mfo, .int 0, .int 0, .ref mul, .ref mup, .ref mun, .int 0, .ref mfr, .ref mta, .int 0]))] s.heap.size = A at hD ⊢
  have hA : ∀ q : Nat, s.heap.size ≤ q → A q := fun q h => by rw [← hAe]; exact Or.inr h
  have hS : va_S A s.heap s.heap [] := va_S.rf
  have hl := lv_entry ([.ref mm, .int i]) (n := 2) (Nat.le_of_ble_eq_true rfl)
  rw [lg_entry_eq]
  generalize (lg_sl ([.ref mm, .int i]) ++ List.replicate (2 - (lg_sl ([.ref mm, .int i])).length) Slot.unset).toArray = ls at hl ⊢
  have hl : lv_has ls 2 [(0, .ref mm), (1, .int i)] := hl
  refine lv_aload_n hx hb dX9_ahead_0 rfl (lv_at hl 0 rfl) ?_
  refine lv_iload_n hx hb dX9_ahead_1 rfl (lv_at hl 1 rfl) ?_
  refine zc_i (wc := [(mm, .inr (12, [.int t, .ref mlv, .ref msr, .ref mrs, .ref mpa, .ref mnu, .ref mlt, .ref mpl, .ref mod, .ref mic, .ref mgo, .ref msk, .ref mfo, .int 0, .int 0, .ref mul, .ref mup, .ref mun, .int 0, .ref mfr, .ref mta, .int 0]))]) (wr := []) (va_runV (As := [.int i]) (rest := []) ⟨hx, hb, hml, hown, hts⟩ (k_misPlain0 l D cI mm mlv msr mrs mpa mnu mlt mpl mod mic mgo msk mfo mul mup mun mfr mta t i s.heap.size) (cwV 1 hts gX9_ahead_X9_isPlain rfl rfl rfl (by decide +kernel) ⟨Nat.le_of_ble_eq_true rfl, Nat.le_of_ble_eq_true rfl⟩) (zPV hK hP hD [0] rfl rfl [0] rfl 0 rfl rfl rfl) rfl rfl hl.1 rfl (lv_room (Nat.le_of_ble_eq_true rfl)) dX9_ahead_2 ⟨Nat.le_of_ble_eq_true rfl, Nat.le_of_ble_eq_true rfl⟩) hP hD hS hA [0] [] rfl rfl rfl (by decide) (fun r _ H locs hw hP hD hS => ?_)
  have hP : va_P D vwCl [(mm, .inr (12, [.int 1, .ref mlv, .ref msr, .ref mrs, .ref mpa, .ref mnu, .ref mlt, .ref mpl, .ref mod, .ref mic, .ref mgo, .ref msk, .ref mfo, .int 0, .int 0, .ref mul, .ref mup, .ref mun, .int 0, .ref mfr, .ref mta, .int 0]))] H := hP
  have hD : va_D A [(mm, .inr (12, [.int 1, .ref mlv, .ref msr, .ref mrs, .ref mpa, .ref mnu, .ref mlt, .ref mpl, .ref mod, .ref mic, .ref mgo, .ref msk, .ref mfo, .int 0, .int 0, .ref mul, .ref mup, .ref mun, .int 0, .ref mfr, .ref mta, .int 0]))] := hD
  subst hw
  refine lv_if_eq (tgt := 12) hx hb dX9_ahead_5 (by decide) (fun q => absurd q (by decide)) (fun _ => ?_)
  refine lv_iconst (v := 0) hx hb dX9_ahead_8 (by decide) ?_
  refine lv_goto (tgt := 17) hx hb dX9_ahead_9 (by decide) ?_
  obtain ⟨hP9, hD9⟩ := z_get hP hD [0] (wc := [(mm, .inr (12, [.int 1, .ref mlv, .ref msr, .ref mrs, .ref mpa, .ref mnu, .ref mlt, .ref mpl, .ref mod, .ref mic, .ref mgo, .ref msk, .ref mfo, .int 0, .int 0, .ref mul, .ref mup, .ref mun, .int 0, .ref mfr, .ref mta, .int 0]))]) rfl rfl
  exact W.iret (v := 0) hx hb hr (fun t ht hW => ⟨⟨0, (), rfl, rfl, by rw [ht]; exact hP9, hD9⟩, hS.F ht⟩) hS.2.2 dX9_ahead_17

set_option maxHeartbeats 4000000 in
set_option maxRecDepth 100000 in
theorem m_numberByWalk (l : Launch) (D : va_G) (cI : ClassId) (mm mlv msr mrs mpa mnu mlt mpl mod mic mgo msk mfo mul mup mun mfr mta : Nat) (t i : Int32) (sz : Nat) : Met l yX9_numberByWalk wsX9_numberByWalk ({ frames := 5, cells := 0, slots := 0, locals := 106 }) (va_Pc [.ref mm, .int i] (zPre D [(cI, .int)] [(mm, .inr (12, [.int t, .ref mlv, .ref msr, .ref mrs, .ref mpa, .ref mnu, .ref mlt, .ref mpl, .ref mod, .ref mic, .ref mgo, .ref msk, .ref mfo, .int 0, .int 0, .ref mul, .ref mup, .ref mun, .int 0, .ref mfr, .ref mta, .int 0]))] sz)) (va_Qi (fun rv (_ : Unit) => rv = 0) (fun (_ : Unit) => zB D [(mm, .inr (12, [.int 1, .ref mlv, .ref msr, .ref mrs, .ref mpa, .ref mnu, .ref mlt, .ref mpl, .ref mod, .ref mic, .ref mgo, .ref msk, .ref mfo, .int 0, .int 0, .ref mul, .ref mup, .ref mun, .int 0, .ref mfr, .ref mta, .int 0]))] (va_A [(mm, .inr (12, [.int t, .ref mlv, .ref msr, .ref mrs, .ref mpa, .ref mnu, .ref mlt, .ref mpl, .ref mod, .ref mic, .ref mgo, .ref msk, .ref mfo, .int 0, .int 0, .ref mul, .ref mup, .ref mun, .int 0, .ref mfr, .ref mta, .int 0]))] sz)) (va_A [(mm, .inr (12, [.int t, .ref mlv, .ref msr, .ref mrs, .ref mpa, .ref mnu, .ref mlt, .ref mpl, .ref mod, .ref mic, .ref mgo, .ref msk, .ref mfo, .int 0, .int 0, .ref mul, .ref mup, .ref mun, .int 0, .ref mfr, .ref mta, .int 0]))] sz)) 0 0 (va_A [(mm, .inr (12, [.int t, .ref mlv, .ref msr, .ref mrs, .ref mpa, .ref mnu, .ref mlt, .ref mpl, .ref mod, .ref mic, .ref mgo, .ref msk, .ref mfo, .int 0, .int 0, .ref mul, .ref mup, .ref mun, .int 0, .ref mfr, .ref mta, .int 0]))] sz) := by
  refine Met.ofW (cc := cX9_numberByWalk) (maxL := 2) (ret := (some .int)) (by decide) rfl ?_
  intro P0 E0 s m args below meth C9 s₁ B hml hv
  obtain ⟨rfl, hsz, hP, hK, hD0⟩ := hv
  have hx := B.exec
  have hb := B.bytes
  have hr := B.returns
  have hts := atoms_spec (ws := wsX9_numberByWalk) B.pre
  have hown : s.vm.findClass RX9 = some m.cls := findClass_of_methodNamed B.named
  have hlocks := B.notSynchronized
  subst hsz
  have hD := hD0.self (sz := s.heap.size)
  generalize hAe : va_A [(mm, .inr (12, [.int t, .ref mlv, .ref msr, .ref mrs, .ref mpa, .ref mnu, .ref mlt, .ref mpl, .ref mod, .ref mic, .ref mgo, .ref msk, .ref mfo, .int 0, .int 0, .ref mul, .ref mup, .ref mun, .int 0, .ref mfr, .ref mta, .int 0]))] s.heap.size = A at hD ⊢
  have hA : ∀ q : Nat, s.heap.size ≤ q → A q := fun q h => by rw [← hAe]; exact Or.inr h
  have hS : va_S A s.heap s.heap [] := va_S.rf
  have hl := lv_entry ([.ref mm, .int i]) (n := 2) (Nat.le_of_ble_eq_true rfl)
  rw [lg_entry_eq]
  generalize (lg_sl ([.ref mm, .int i]) ++ List.replicate (2 - (lg_sl ([.ref mm, .int i])).length) Slot.unset).toArray = ls at hl ⊢
  have hl : lv_has ls 2 [(0, .ref mm), (1, .int i)] := hl
  refine lv_aload_n hx hb dX9_numberByWalk_0 rfl (lv_at hl 0 rfl) ?_
  refine lv_iload_n hx hb dX9_numberByWalk_1 rfl (lv_at hl 1 rfl) ?_
  refine zc_i (wc := [(mm, .inr (12, [.int t, .ref mlv, .ref msr, .ref mrs, .ref mpa, .ref mnu, .ref mlt, .ref mpl, .ref mod, .ref mic, .ref mgo, .ref msk, .ref mfo, .int 0, .int 0, .ref mul, .ref mup, .ref mun, .int 0, .ref mfr, .ref mta, .int 0]))]) (wr := []) (va_runV (As := [.int i]) (rest := []) ⟨hx, hb, hml, hown, hts⟩ (m_numberOf l D cI mm mlv msr mrs mpa mnu mlt mpl mod mic mgo msk mfo mul mup mun mfr mta t i s.heap.size) (cwV 1 hts gX9_numberByWalk_X9_numberOf rfl rfl rfl (by decide +kernel) ⟨Nat.le_of_ble_eq_true rfl, Nat.le_of_ble_eq_true rfl⟩) (zPV hK hP hD [0] rfl rfl [0] rfl 0 rfl rfl rfl) rfl rfl hl.1 rfl (lv_room (Nat.le_of_ble_eq_true rfl)) dX9_numberByWalk_2 ⟨Nat.le_of_ble_eq_true rfl, Nat.le_of_ble_eq_true rfl⟩) hP hD hS hA [0] [] rfl rfl rfl (by decide) (fun r _ H locs hw hP hD hS => ?_)
  have hP : va_P D vwCl [(mm, .inr (12, [.int 1, .ref mlv, .ref msr, .ref mrs, .ref mpa, .ref mnu, .ref mlt, .ref mpl, .ref mod, .ref mic, .ref mgo, .ref msk, .ref mfo, .int 0, .int 0, .ref mul, .ref mup, .ref mun, .int 0, .ref mfr, .ref mta, .int 0]))] H := hP
  have hD : va_D A [(mm, .inr (12, [.int 1, .ref mlv, .ref msr, .ref mrs, .ref mpa, .ref mnu, .ref mlt, .ref mpl, .ref mod, .ref mic, .ref mgo, .ref msk, .ref mfo, .int 0, .int 0, .ref mul, .ref mup, .ref mun, .int 0, .ref mfr, .ref mta, .int 0]))] := hD
  subst hw
  obtain ⟨hP9, hD9⟩ := z_get hP hD [0] (wc := [(mm, .inr (12, [.int 1, .ref mlv, .ref msr, .ref mrs, .ref mpa, .ref mnu, .ref mlt, .ref mpl, .ref mod, .ref mic, .ref mgo, .ref msk, .ref mfo, .int 0, .int 0, .ref mul, .ref mup, .ref mun, .int 0, .ref mfr, .ref mta, .int 0]))]) rfl rfl
  exact W.iret (v := 0) hx hb hr (fun t ht hW => ⟨⟨0, (), rfl, rfl, by rw [ht]; exact hP9, hD9⟩, hS.F ht⟩) hS.2.2 dX9_numberByWalk_5

set_option maxHeartbeats 4000000 in
set_option maxRecDepth 100000 in
theorem m_lettersByWalk (l : Launch) (D : va_G) (cI : ClassId) (mm mlv msr mrs mpa mnu mlt mpl mod mic mgo msk mfo mul mup mun mfr mta : Nat) (t i : Int32) (sz : Nat) : Met l yX9_lettersByWalk wsX9_lettersByWalk ({ frames := 5, cells := 0, slots := 0, locals := 106 }) (va_Pc [.ref mm, .int i] (zPre D [(cI, .int)] [(mm, .inr (12, [.int t, .ref mlv, .ref msr, .ref mrs, .ref mpa, .ref mnu, .ref mlt, .ref mpl, .ref mod, .ref mic, .ref mgo, .ref msk, .ref mfo, .int 0, .int 0, .ref mul, .ref mup, .ref mun, .int 0, .ref mfr, .ref mta, .int 0]))] sz)) (va_Qi (fun rv (_ : Unit) => rv = 0) (fun (_ : Unit) => zB D [(mm, .inr (12, [.int 1, .ref mlv, .ref msr, .ref mrs, .ref mpa, .ref mnu, .ref mlt, .ref mpl, .ref mod, .ref mic, .ref mgo, .ref msk, .ref mfo, .int 0, .int 0, .ref mul, .ref mup, .ref mun, .int 0, .ref mfr, .ref mta, .int 0]))] (va_A [(mm, .inr (12, [.int t, .ref mlv, .ref msr, .ref mrs, .ref mpa, .ref mnu, .ref mlt, .ref mpl, .ref mod, .ref mic, .ref mgo, .ref msk, .ref mfo, .int 0, .int 0, .ref mul, .ref mup, .ref mun, .int 0, .ref mfr, .ref mta, .int 0]))] sz)) (va_A [(mm, .inr (12, [.int t, .ref mlv, .ref msr, .ref mrs, .ref mpa, .ref mnu, .ref mlt, .ref mpl, .ref mod, .ref mic, .ref mgo, .ref msk, .ref mfo, .int 0, .int 0, .ref mul, .ref mup, .ref mun, .int 0, .ref mfr, .ref mta, .int 0]))] sz)) 0 0 (va_A [(mm, .inr (12, [.int t, .ref mlv, .ref msr, .ref mrs, .ref mpa, .ref mnu, .ref mlt, .ref mpl, .ref mod, .ref mic, .ref mgo, .ref msk, .ref mfo, .int 0, .int 0, .ref mul, .ref mup, .ref mun, .int 0, .ref mfr, .ref mta, .int 0]))] sz) := by
  refine Met.ofW (cc := cX9_lettersByWalk) (maxL := 2) (ret := (some .int)) (by decide) rfl ?_
  intro P0 E0 s m args below meth C9 s₁ B hml hv
  obtain ⟨rfl, hsz, hP, hK, hD0⟩ := hv
  have hx := B.exec
  have hb := B.bytes
  have hr := B.returns
  have hts := atoms_spec (ws := wsX9_lettersByWalk) B.pre
  have hown : s.vm.findClass RX9 = some m.cls := findClass_of_methodNamed B.named
  have hlocks := B.notSynchronized
  subst hsz
  have hD := hD0.self (sz := s.heap.size)
  generalize hAe : va_A [(mm, .inr (12, [.int t, .ref mlv, .ref msr, .ref mrs, .ref mpa, .ref mnu, .ref mlt, .ref mpl, .ref mod, .ref mic, .ref mgo, .ref msk, .ref mfo, .int 0, .int 0, .ref mul, .ref mup, .ref mun, .int 0, .ref mfr, .ref mta, .int 0]))] s.heap.size = A at hD ⊢
  have hA : ∀ q : Nat, s.heap.size ≤ q → A q := fun q h => by rw [← hAe]; exact Or.inr h
  have hS : va_S A s.heap s.heap [] := va_S.rf
  have hl := lv_entry ([.ref mm, .int i]) (n := 2) (Nat.le_of_ble_eq_true rfl)
  rw [lg_entry_eq]
  generalize (lg_sl ([.ref mm, .int i]) ++ List.replicate (2 - (lg_sl ([.ref mm, .int i])).length) Slot.unset).toArray = ls at hl ⊢
  have hl : lv_has ls 2 [(0, .ref mm), (1, .int i)] := hl
  refine lv_aload_n hx hb dX9_lettersByWalk_0 rfl (lv_at hl 0 rfl) ?_
  refine lv_iload_n hx hb dX9_lettersByWalk_1 rfl (lv_at hl 1 rfl) ?_
  refine zc_i (wc := [(mm, .inr (12, [.int t, .ref mlv, .ref msr, .ref mrs, .ref mpa, .ref mnu, .ref mlt, .ref mpl, .ref mod, .ref mic, .ref mgo, .ref msk, .ref mfo, .int 0, .int 0, .ref mul, .ref mup, .ref mun, .int 0, .ref mfr, .ref mta, .int 0]))]) (wr := []) (va_runV (As := [.int i]) (rest := []) ⟨hx, hb, hml, hown, hts⟩ (m_lettersOf l D cI mm mlv msr mrs mpa mnu mlt mpl mod mic mgo msk mfo mul mup mun mfr mta t i s.heap.size) (cwV 1 hts gX9_lettersByWalk_X9_lettersOf rfl rfl rfl (by decide +kernel) ⟨Nat.le_of_ble_eq_true rfl, Nat.le_of_ble_eq_true rfl⟩) (zPV hK hP hD [0] rfl rfl [0] rfl 0 rfl rfl rfl) rfl rfl hl.1 rfl (lv_room (Nat.le_of_ble_eq_true rfl)) dX9_lettersByWalk_2 ⟨Nat.le_of_ble_eq_true rfl, Nat.le_of_ble_eq_true rfl⟩) hP hD hS hA [0] [] rfl rfl rfl (by decide) (fun r _ H locs hw hP hD hS => ?_)
  have hP : va_P D vwCl [(mm, .inr (12, [.int 1, .ref mlv, .ref msr, .ref mrs, .ref mpa, .ref mnu, .ref mlt, .ref mpl, .ref mod, .ref mic, .ref mgo, .ref msk, .ref mfo, .int 0, .int 0, .ref mul, .ref mup, .ref mun, .int 0, .ref mfr, .ref mta, .int 0]))] H := hP
  have hD : va_D A [(mm, .inr (12, [.int 1, .ref mlv, .ref msr, .ref mrs, .ref mpa, .ref mnu, .ref mlt, .ref mpl, .ref mod, .ref mic, .ref mgo, .ref msk, .ref mfo, .int 0, .int 0, .ref mul, .ref mup, .ref mun, .int 0, .ref mfr, .ref mta, .int 0]))] := hD
  subst hw
  obtain ⟨hP9, hD9⟩ := z_get hP hD [0] (wc := [(mm, .inr (12, [.int 1, .ref mlv, .ref msr, .ref mrs, .ref mpa, .ref mnu, .ref mlt, .ref mpl, .ref mod, .ref mic, .ref mgo, .ref msk, .ref mfo, .int 0, .int 0, .ref mul, .ref mup, .ref mun, .int 0, .ref mfr, .ref mta, .int 0]))]) rfl rfl
  exact W.iret (v := 0) hx hb hr (fun t ht hW => ⟨⟨0, (), rfl, rfl, by rw [ht]; exact hP9, hD9⟩, hS.F ht⟩) hS.2.2 dX9_lettersByWalk_5

set_option maxHeartbeats 4000000 in
set_option maxRecDepth 100000 in
theorem k_isLevelT (l : Launch) (D : va_G) (cI : ClassId) (p : Int32) (sz : Nat) (hp : zLv p) : Met l yX9_isLevel wsX9_isLevel ({ frames := 1, cells := 0, slots := 0, locals := 22 }) (va_Pc [.int p] (zPre D [(cI, .int)] [] sz)) (va_Qi (fun rv (_ : Unit) => rv = 1) (fun (_ : Unit) => zB D [] (va_A [] sz)) (va_A [] sz)) 0 0 (va_A [] sz) := by
  refine Met.ofW (cc := cX9_isLevel) (maxL := 1) (ret := (some .boolean)) (by decide) rfl ?_
  intro P0 E0 s m args below meth C9 s₁ B hml hv
  obtain ⟨rfl, hsz, hP, hK, hD0⟩ := hv
  have hx := B.exec
  have hb := B.bytes
  have hr := B.returns
  have hts := atoms_spec (ws := wsX9_isLevel) B.pre
  have hown : s.vm.findClass RX9 = some m.cls := findClass_of_methodNamed B.named
  have hlocks := B.notSynchronized
  subst hsz
  have hD := hD0.self (sz := s.heap.size)
  generalize hAe : va_A [] s.heap.size = A at hD ⊢
  have hA : ∀ q : Nat, s.heap.size ≤ q → A q := fun q h => by rw [← hAe]; exact Or.inr h
  have hS : va_S A s.heap s.heap [] := va_S.rf
  have hl := lv_entry ([.int p]) (n := 1) (Nat.le_of_ble_eq_true rfl)
  rw [lg_entry_eq]
  generalize (lg_sl ([.int p]) ++ List.replicate (1 - (lg_sl ([.int p])).length) Slot.unset).toArray = ls at hl ⊢
  have hl : lv_has ls 1 [(0, .int p)] := hl
  refine lv_iload_n hx hb dX9_isLevel_0 rfl (lv_at hl 0 rfl) ?_
  refine lv_iconst (v := 1) hx hb dX9_isLevel_1 (by decide) ?_
  refine lv_iconst (v := 4) hx hb dX9_isLevel_2 (by decide) ?_
  refine zc_i (wc := []) (wr := []) (va_runS (As := [.int p, .int 1, .int 4]) (rest := []) ⟨hx, hb, hml, hown, hts⟩ (k_isBetweenT l D cI p 1 4 s.heap.size (zLv_b hp).1 (zLv_b hp).2) (va_cwS 3 hts gX9_isLevel_X9_isBetween rfl rfl rfl (by decide +kernel) ⟨Nat.le_of_ble_eq_true rfl, Nat.le_of_ble_eq_true rfl⟩) (zPS hK hP hD [] rfl rfl [0] rfl) rfl rfl hl.1 rfl (lv_room (Nat.le_of_ble_eq_true rfl)) dX9_isLevel_3 ⟨Nat.le_of_ble_eq_true rfl, Nat.le_of_ble_eq_true rfl⟩) hP hD hS hA [] [] rfl rfl rfl (by decide) (fun r _ H locs hw hP hD hS => ?_)
  have hP : va_P D vwCl [] H := hP
  have hD : va_D A [] := hD
  subst hw
  obtain ⟨hP9, hD9⟩ := z_get hP hD [] (wc := []) rfl rfl
  exact W.zret (ty := .boolean) (v := 1) hx hb hr rfl (fun t ht hW => ⟨⟨1, (), rfl, rfl, by rw [ht]; exact hP9, hD9⟩, hS.F ht⟩) hS.2.2 dX9_isLevel_6

set_option maxHeartbeats 4000000 in
set_option maxRecDepth 100000 in
theorem k_isLevelF (l : Launch) (D : va_G) (cI : ClassId) (p : Int32) (sz : Nat) (hp : ¬ zLv p) : Met l yX9_isLevel wsX9_isLevel ({ frames := 1, cells := 0, slots := 0, locals := 22 }) (va_Pc [.int p] (zPre D [(cI, .int)] [] sz)) (va_Qi (fun rv (_ : Unit) => rv = 0) (fun (_ : Unit) => zB D [] (va_A [] sz)) (va_A [] sz)) 0 0 (va_A [] sz) := by
  refine Met.ofW (cc := cX9_isLevel) (maxL := 1) (ret := (some .boolean)) (by decide) rfl ?_
  intro P0 E0 s m args below meth C9 s₁ B hml hv
  obtain ⟨rfl, hsz, hP, hK, hD0⟩ := hv
  have hx := B.exec
  have hb := B.bytes
  have hr := B.returns
  have hts := atoms_spec (ws := wsX9_isLevel) B.pre
  have hown : s.vm.findClass RX9 = some m.cls := findClass_of_methodNamed B.named
  have hlocks := B.notSynchronized
  subst hsz
  have hD := hD0.self (sz := s.heap.size)
  generalize hAe : va_A [] s.heap.size = A at hD ⊢
  have hA : ∀ q : Nat, s.heap.size ≤ q → A q := fun q h => by rw [← hAe]; exact Or.inr h
  have hS : va_S A s.heap s.heap [] := va_S.rf
  have hl := lv_entry ([.int p]) (n := 1) (Nat.le_of_ble_eq_true rfl)
  rw [lg_entry_eq]
  generalize (lg_sl ([.int p]) ++ List.replicate (1 - (lg_sl ([.int p])).length) Slot.unset).toArray = ls at hl ⊢
  have hl : lv_has ls 1 [(0, .int p)] := hl
  refine lv_iload_n hx hb dX9_isLevel_0 rfl (lv_at hl 0 rfl) ?_
  refine lv_iconst (v := 1) hx hb dX9_isLevel_1 (by decide) ?_
  refine lv_iconst (v := 4) hx hb dX9_isLevel_2 (by decide) ?_
  refine zc_i (wc := []) (wr := []) (va_runS (As := [.int p, .int 1, .int 4]) (rest := []) ⟨hx, hb, hml, hown, hts⟩ (k_isBetweenF l D cI p 1 4 s.heap.size (zLv_nb hp)) (va_cwS 3 hts gX9_isLevel_X9_isBetween rfl rfl rfl (by decide +kernel) ⟨Nat.le_of_ble_eq_true rfl, Nat.le_of_ble_eq_true rfl⟩) (zPS hK hP hD [] rfl rfl [0] rfl) rfl rfl hl.1 rfl (lv_room (Nat.le_of_ble_eq_true rfl)) dX9_isLevel_3 ⟨Nat.le_of_ble_eq_true rfl, Nat.le_of_ble_eq_true rfl⟩) hP hD hS hA [] [] rfl rfl rfl (by decide) (fun r _ H locs hw hP hD hS => ?_)
  have hP : va_P D vwCl [] H := hP
  have hD : va_D A [] := hD
  subst hw
  obtain ⟨hP9, hD9⟩ := z_get hP hD [] (wc := []) rfl rfl
  exact W.zret (ty := .boolean) (v := 0) hx hb hr rfl (fun t ht hW => ⟨⟨0, (), rfl, rfl, by rw [ht]; exact hP9, hD9⟩, hS.F ht⟩) hS.2.2 dX9_isLevel_6

set_option maxHeartbeats 4000000 in
set_option maxRecDepth 100000 in
theorem k_settles0 (l : Launch) (D : va_G) (cI : ClassId) (mm mlv msr mrs mpa mnu mlt mpl mod mic mgo msk mfo mul mup mun mfr mta : Nat) (t : Int32) (sz : Nat) : Met l yX9_settles wsX9_settles ({ frames := 0, cells := 0, slots := 0, locals := 0 }) (va_Pc [.ref mm] (zPre D [(cI, .int)] [(mm, .inr (12, [.int t, .ref mlv, .ref msr, .ref mrs, .ref mpa, .ref mnu, .ref mlt, .ref mpl, .ref mod, .ref mic, .ref mgo, .ref msk, .ref mfo, .int 0, .int 0, .ref mul, .ref mup, .ref mun, .int 0, .ref mfr, .ref mta, .int 0]))] sz)) (va_Qv (fun (_ : Unit) => True) (fun (_ : Unit) => zB D [(mm, .inr (12, [.int t, .ref mlv, .ref msr, .ref mrs, .ref mpa, .ref mnu, .ref mlt, .ref mpl, .ref mod, .ref mic, .ref mgo, .ref msk, .ref mfo, .int 0, .int 0, .ref mul, .ref mup, .ref mun, .int 0, .ref mfr, .ref mta, .int 0]))] (va_A [(mm, .inr (12, [.int t, .ref mlv, .ref msr, .ref mrs, .ref mpa, .ref mnu, .ref mlt, .ref mpl, .ref mod, .ref mic, .ref mgo, .ref msk, .ref mfo, .int 0, .int 0, .ref mul, .ref mup, .ref mun, .int 0, .ref mfr, .ref mta, .int 0]))] sz)) (va_A [(mm, .inr (12, [.int t, .ref mlv, .ref msr, .ref mrs, .ref mpa, .ref mnu, .ref mlt, .ref mpl, .ref mod, .ref mic, .ref mgo, .ref msk, .ref mfo, .int 0, .int 0, .ref mul, .ref mup, .ref mun, .int 0, .ref mfr, .ref mta, .int 0]))] sz)) 0 0 (va_A [(mm, .inr (12, [.int t, .ref mlv, .ref msr, .ref mrs, .ref mpa, .ref mnu, .ref mlt, .ref mpl, .ref mod, .ref mic, .ref mgo, .ref msk, .ref mfo, .int 0, .int 0, .ref mul, .ref mup, .ref mun, .int 0, .ref mfr, .ref mta, .int 0]))] sz) := by
  refine Met.ofW (cc := cX9_settles) (maxL := 2) (ret := none) (by decide) rfl ?_
  intro P0 E0 s m args below meth C9 s₁ B hml hv
  obtain ⟨rfl, hsz, hP, hK, hD0⟩ := hv
  have hx := B.exec
  have hb := B.bytes
  have hr := B.returns
  have hts := atoms_spec (ws := wsX9_settles) B.pre
  have hown : s.vm.findClass RX9 = some m.cls := findClass_of_methodNamed B.named
  have hlocks := B.notSynchronized
  subst hsz
  have hD := hD0.self (sz := s.heap.size)
  generalize hAe : va_A [(mm, .inr (12, [.int t, .ref mlv, .ref msr, .ref mrs, .ref mpa, .ref mnu, .ref mlt, .ref mpl, .ref mod, .ref mic, .ref mgo, .ref msk, .ref mfo, .int 0, .int 0, .ref mul, .ref mup, .ref mun, .int 0, .ref mfr, .ref mta, .int 0]))] s.heap.size = A at hD ⊢
  have hA : ∀ q : Nat, s.heap.size ≤ q → A q := fun q h => by rw [← hAe]; exact Or.inr h
  have hS : va_S A s.heap s.heap [] := va_S.rf
  have hl := lv_entry ([.ref mm]) (n := 2) (Nat.le_of_ble_eq_true rfl)
  rw [lg_entry_eq]
  generalize (lg_sl ([.ref mm]) ++ List.replicate (2 - (lg_sl ([.ref mm])).length) Slot.unset).toArray = ls at hl ⊢
  have hl : lv_has ls 2 [(0, .ref mm)] := hl
  refine lv_iconst (v := 0) hx hb dX9_settles_0 (by decide) ?_
  refine lv_istore_n (lv' := [(1, .int 0), (0, .ref mm)]) hx hb dX9_settles_1 rfl hl (by decide) rfl (fun ls hl => ?_)
  refine lv_iload_n hx hb dX9_settles_2 rfl (lv_at hl 0 rfl) ?_
  refine lv_aload_n hx hb dX9_settles_3 rfl (lv_at hl 1 rfl) ?_
  refine va_get (D := D) (ci := 12) (v := .int 0) (C := RX9) (T := TX9) (N := 22) hx hb hts (fun _ h => List.mem_cons_of_mem _ (List.mem_append_left _ (List.mem_append_right _ h))) hown hK hP 0 rfl rfl 14 (by decide) (hts (.fieldLink RX9 91 "NumberingTreeModel" "size" "I") (List.mem_of_getElem? (i := 1) rfl)) (fun _ h9 => h9) rfl dX9_settles_4 ?_
  refine lv_icmp_ge (tgt := 44) hx hb dX9_settles_7 (by decide) (fun _ => ?_) (fun q => absurd q (by decide))
  refine lv_iconst (v := 0) hx hb dX9_settles_44 (by decide) ?_
  refine lv_istore_n (lv' := [(1, .int 0), (0, .ref mm)]) hx hb dX9_settles_45 rfl hl (by decide) rfl (fun ls hl => ?_)
  refine lv_iload_n hx hb dX9_settles_46 rfl (lv_at hl 0 rfl) ?_
  refine lv_aload_n hx hb dX9_settles_47 rfl (lv_at hl 1 rfl) ?_
  refine va_get (D := D) (ci := 12) (v := .int 0) (C := RX9) (T := TX9) (N := 22) hx hb hts (fun _ h => List.mem_cons_of_mem _ (List.mem_append_left _ (List.mem_append_right _ h))) hown hK hP 0 rfl rfl 14 (by decide) (hts (.fieldLink RX9 91 "NumberingTreeModel" "size" "I") (List.mem_of_getElem? (i := 1) rfl)) (fun _ h9 => h9) rfl dX9_settles_48 ?_
  refine lv_icmp_ge (tgt := 98) hx hb dX9_settles_51 (by decide) (fun _ => ?_) (fun q => absurd q (by decide))
  obtain ⟨hP9, hD9⟩ := z_get hP hD [0] (wc := [(mm, .inr (12, [.int t, .ref mlv, .ref msr, .ref mrs, .ref mpa, .ref mnu, .ref mlt, .ref mpl, .ref mod, .ref mic, .ref mgo, .ref msk, .ref mfo, .int 0, .int 0, .ref mul, .ref mup, .ref mun, .int 0, .ref mfr, .ref mta, .int 0]))]) rfl rfl
  exact W.vret hx hb hr (fun t ht hW => ⟨⟨(), rfl, trivial, by rw [ht]; exact hP9, hD9⟩, hS.F ht⟩) hS.2.2 dX9_settles_98

set_option maxHeartbeats 4000000 in
set_option maxRecDepth 100000 in
theorem m_freeze (l : Launch) (D : va_G) (cI : ClassId) (mm mlv msr mrs mpa mnu mlt mpl mod mic mgo msk mfo mul mup mun mfr mta : Nat) (t : Int32) (sz : Nat) : Met l yX9_freeze wsX9_freeze ({ frames := 1, cells := 0, slots := 0, locals := 21 }) (va_Pc [.ref mm] (zPre D [(cI, .int)] [(mm, .inr (12, [.int t, .ref mlv, .ref msr, .ref mrs, .ref mpa, .ref mnu, .ref mlt, .ref mpl, .ref mod, .ref mic, .ref mgo, .ref msk, .ref mfo, .int 0, .int 0, .ref mul, .ref mup, .ref mun, .int 0, .ref mfr, .ref mta, .int 0]))] sz)) (va_Qi (fun rv (_ : Unit) => rv = 0) (fun (_ : Unit) => zB D [(mm, .inr (12, [.int 0, .ref mlv, .ref msr, .ref mrs, .ref mpa, .ref mnu, .ref mlt, .ref mpl, .ref mod, .ref mic, .ref mgo, .ref msk, .ref mfo, .int 0, .int 0, .ref mul, .ref mup, .ref mun, .int 0, .ref mfr, .ref mta, .int 0]))] (va_A [(mm, .inr (12, [.int t, .ref mlv, .ref msr, .ref mrs, .ref mpa, .ref mnu, .ref mlt, .ref mpl, .ref mod, .ref mic, .ref mgo, .ref msk, .ref mfo, .int 0, .int 0, .ref mul, .ref mup, .ref mun, .int 0, .ref mfr, .ref mta, .int 0]))] sz)) (va_A [(mm, .inr (12, [.int t, .ref mlv, .ref msr, .ref mrs, .ref mpa, .ref mnu, .ref mlt, .ref mpl, .ref mod, .ref mic, .ref mgo, .ref msk, .ref mfo, .int 0, .int 0, .ref mul, .ref mup, .ref mun, .int 0, .ref mfr, .ref mta, .int 0]))] sz)) 0 0 (va_A [(mm, .inr (12, [.int t, .ref mlv, .ref msr, .ref mrs, .ref mpa, .ref mnu, .ref mlt, .ref mpl, .ref mod, .ref mic, .ref mgo, .ref msk, .ref mfo, .int 0, .int 0, .ref mul, .ref mup, .ref mun, .int 0, .ref mfr, .ref mta, .int 0]))] sz) := by
  refine Met.ofW (cc := cX9_freeze) (maxL := 4) (ret := (some .int)) (by decide) rfl ?_
  intro P0 E0 s m args below meth C9 s₁ B hml hv
  obtain ⟨rfl, hsz, hP, hK, hD0⟩ := hv
  have hx := B.exec
  have hb := B.bytes
  have hr := B.returns
  have hts := atoms_spec (ws := wsX9_freeze) B.pre
  have hown : s.vm.findClass RX9 = some m.cls := findClass_of_methodNamed B.named
  have hlocks := B.notSynchronized
  subst hsz
  have hD := hD0.self (sz := s.heap.size)
  generalize hAe : va_A [(mm, .inr (12, [.int t, .ref mlv, .ref msr, .ref mrs, .ref mpa, .ref mnu, .ref mlt, .ref mpl, .ref mod, .ref mic, .ref mgo, .ref msk, .ref mfo, .int 0, .int 0, .ref mul, .ref mup, .ref mun, .int 0, .ref mfr, .ref mta, .int 0]))] s.heap.size = A at hD ⊢
  have hA : ∀ q : Nat, s.heap.size ≤ q → A q := fun q h => by rw [← hAe]; exact Or.inr h
  have hS : va_S A s.heap s.heap [] := va_S.rf
  have hl := lv_entry ([.ref mm]) (n := 4) (Nat.le_of_ble_eq_true rfl)
  rw [lg_entry_eq]
  generalize (lg_sl ([.ref mm]) ++ List.replicate (4 - (lg_sl ([.ref mm])).length) Slot.unset).toArray = ls at hl ⊢
  have hl : lv_has ls 4 [(0, .ref mm)] := hl
  refine lv_aload_n hx hb dX9_freeze_0 rfl (lv_at hl 0 rfl) ?_
  refine lv_iconst (v := 0) hx hb dX9_freeze_1 (by decide) ?_
  refine va_put (D := D) (ci := 12) (v := .int 0) (ty := .int) (C := RX9) (T := TX9) (N := 22) hx hb hts (fun _ h => List.mem_cons_of_mem _ (List.mem_append_left _ (List.mem_append_right _ h))) tyX9 tyX9_ok nmX9 hown hK hP hD hS 0 rfl rfl 0 (by decide) (hts (.fieldLink RX9 65 "NumberingTreeModel" "thrown" "I") (List.mem_of_getElem? (i := 1) rfl)) (fun _ h9 => h9) rfl (by decide +kernel) rfl rfl (Nat.le_of_ble_eq_true rfl) dX9_freeze_2 (fun H locs hP hD hS => ?_)
  have hP : va_P D vwCl [(mm, .inr (12, [.int 0, .ref mlv, .ref msr, .ref mrs, .ref mpa, .ref mnu, .ref mlt, .ref mpl, .ref mod, .ref mic, .ref mgo, .ref msk, .ref mfo, .int 0, .int 0, .ref mul, .ref mup, .ref mun, .int 0, .ref mfr, .ref mta, .int 0]))] H := hP
  have hD : va_D A [(mm, .inr (12, [.int 0, .ref mlv, .ref msr, .ref mrs, .ref mpa, .ref mnu, .ref mlt, .ref mpl, .ref mod, .ref mic, .ref mgo, .ref msk, .ref mfo, .int 0, .int 0, .ref mul, .ref mup, .ref mun, .int 0, .ref mfr, .ref mta, .int 0]))] := hD
  refine lv_iconst (v := 0) hx hb dX9_freeze_5 (by decide) ?_
  refine lv_istore_n (lv' := [(1, .int 0), (0, .ref mm)]) hx hb dX9_freeze_6 rfl hl (by decide) rfl (fun ls hl => ?_)
  refine lv_iconst (v := 0) hx hb dX9_freeze_7 (by decide) ?_
  refine lv_istore_n (lv' := [(2, .int 0), (1, .int 0), (0, .ref mm)]) hx hb dX9_freeze_8 rfl hl (by decide) rfl (fun ls hl => ?_)
  refine lv_iload_n hx hb dX9_freeze_9 rfl (lv_at hl 0 rfl) ?_
  refine lv_aload_n hx hb dX9_freeze_10 rfl (lv_at hl 2 rfl) ?_
  refine va_get (D := D) (ci := 12) (v := .int 0) (C := RX9) (T := TX9) (N := 22) hx hb hts (fun _ h => List.mem_cons_of_mem _ (List.mem_append_left _ (List.mem_append_right _ h))) hown hK hP 0 rfl rfl 14 (by decide) (hts (.fieldLink RX9 91 "NumberingTreeModel" "size" "I") (List.mem_of_getElem? (i := 2) rfl)) (fun _ h9 => h9) rfl dX9_freeze_11 ?_
  refine lv_icmp_ge (tgt := 147) hx hb dX9_freeze_14 (by decide) (fun _ => ?_) (fun q => absurd q (by decide))
  refine lv_aload_n hx hb dX9_freeze_147 rfl (lv_at hl 2 rfl) ?_
  refine zc_v (wc := [(mm, .inr (12, [.int 0, .ref mlv, .ref msr, .ref mrs, .ref mpa, .ref mnu, .ref mlt, .ref mpl, .ref mod, .ref mic, .ref mgo, .ref msk, .ref mfo, .int 0, .int 0, .ref mul, .ref mup, .ref mun, .int 0, .ref mfr, .ref mta, .int 0]))]) (wr := []) (va_runV (As := []) (rest := []) ⟨hx, hb, hml, hown, hts⟩ (k_settles0 l D cI mm mlv msr mrs mpa mnu mlt mpl mod mic mgo msk mfo mul mup mun mfr mta 0 H.size) (cwV 0 hts gX9_freeze_X9_settles rfl rfl rfl (by decide +kernel) ⟨Nat.le_of_ble_eq_true rfl, Nat.le_of_ble_eq_true rfl⟩) (zPV hK hP hD [0] rfl rfl [0] rfl 0 rfl rfl rfl) rfl rfl hl.1 rfl (lv_room (Nat.le_of_ble_eq_true rfl)) dX9_freeze_148 ⟨Nat.le_of_ble_eq_true rfl, Nat.le_of_ble_eq_true rfl⟩) hP hD hS hA [0] [] rfl rfl rfl (by decide) (fun  _ H locs hw hP hD hS => ?_)
  have hP : va_P D vwCl [(mm, .inr (12, [.int 0, .ref mlv, .ref msr, .ref mrs, .ref mpa, .ref mnu, .ref mlt, .ref mpl, .ref mod, .ref mic, .ref mgo, .ref msk, .ref mfo, .int 0, .int 0, .ref mul, .ref mup, .ref mun, .int 0, .ref mfr, .ref mta, .int 0]))] H := hP
  have hD : va_D A [(mm, .inr (12, [.int 0, .ref mlv, .ref msr, .ref mrs, .ref mpa, .ref mnu, .ref mlt, .ref mpl, .ref mod, .ref mic, .ref mgo, .ref msk, .ref mfo, .int 0, .int 0, .ref mul, .ref mup, .ref mun, .int 0, .ref mfr, .ref mta, .int 0]))] := hD
  refine lv_iload_n hx hb dX9_freeze_151 rfl (lv_at hl 1 rfl) ?_
  obtain ⟨hP9, hD9⟩ := z_get hP hD [0] (wc := [(mm, .inr (12, [.int 0, .ref mlv, .ref msr, .ref mrs, .ref mpa, .ref mnu, .ref mlt, .ref mpl, .ref mod, .ref mic, .ref mgo, .ref msk, .ref mfo, .int 0, .int 0, .ref mul, .ref mup, .ref mun, .int 0, .ref mfr, .ref mta, .int 0]))]) rfl rfl
  exact W.iret (v := 0) hx hb hr (fun t ht hW => ⟨⟨0, (), rfl, rfl, by rw [ht]; exact hP9, hD9⟩, hS.F ht⟩) hS.2.2 dX9_freeze_152

set_option maxHeartbeats 4000000 in
set_option maxRecDepth 100000 in
theorem m_size (l : Launch) (D : va_G) (cI : ClassId) (mm mlv msr mrs mpa mnu mlt mpl mod mic mgo msk mfo mul mup mun mfr mta : Nat) (t : Int32) (sz : Nat) : Met l yX9_size wsX9_size ({ frames := 0, cells := 0, slots := 0, locals := 0 }) (va_Pc [.ref mm] (zPre D [(cI, .int)] [(mm, .inr (12, [.int t, .ref mlv, .ref msr, .ref mrs, .ref mpa, .ref mnu, .ref mlt, .ref mpl, .ref mod, .ref mic, .ref mgo, .ref msk, .ref mfo, .int 0, .int 0, .ref mul, .ref mup, .ref mun, .int 0, .ref mfr, .ref mta, .int 0]))] sz)) (va_Qi (fun rv (_ : Unit) => rv = 0) (fun (_ : Unit) => zB D [(mm, .inr (12, [.int 0, .ref mlv, .ref msr, .ref mrs, .ref mpa, .ref mnu, .ref mlt, .ref mpl, .ref mod, .ref mic, .ref mgo, .ref msk, .ref mfo, .int 0, .int 0, .ref mul, .ref mup, .ref mun, .int 0, .ref mfr, .ref mta, .int 0]))] (va_A [(mm, .inr (12, [.int t, .ref mlv, .ref msr, .ref mrs, .ref mpa, .ref mnu, .ref mlt, .ref mpl, .ref mod, .ref mic, .ref mgo, .ref msk, .ref mfo, .int 0, .int 0, .ref mul, .ref mup, .ref mun, .int 0, .ref mfr, .ref mta, .int 0]))] sz)) (va_A [(mm, .inr (12, [.int t, .ref mlv, .ref msr, .ref mrs, .ref mpa, .ref mnu, .ref mlt, .ref mpl, .ref mod, .ref mic, .ref mgo, .ref msk, .ref mfo, .int 0, .int 0, .ref mul, .ref mup, .ref mun, .int 0, .ref mfr, .ref mta, .int 0]))] sz)) 0 0 (va_A [(mm, .inr (12, [.int t, .ref mlv, .ref msr, .ref mrs, .ref mpa, .ref mnu, .ref mlt, .ref mpl, .ref mod, .ref mic, .ref mgo, .ref msk, .ref mfo, .int 0, .int 0, .ref mul, .ref mup, .ref mun, .int 0, .ref mfr, .ref mta, .int 0]))] sz) := by
  refine Met.ofW (cc := cX9_size) (maxL := 1) (ret := (some .int)) (by decide) rfl ?_
  intro P0 E0 s m args below meth C9 s₁ B hml hv
  obtain ⟨rfl, hsz, hP, hK, hD0⟩ := hv
  have hx := B.exec
  have hb := B.bytes
  have hr := B.returns
  have hts := atoms_spec (ws := wsX9_size) B.pre
  have hown : s.vm.findClass RX9 = some m.cls := findClass_of_methodNamed B.named
  have hlocks := B.notSynchronized
  subst hsz
  have hD := hD0.self (sz := s.heap.size)
  generalize hAe : va_A [(mm, .inr (12, [.int t, .ref mlv, .ref msr, .ref mrs, .ref mpa, .ref mnu, .ref mlt, .ref mpl, .ref mod, .ref mic, .ref mgo, .ref msk, .ref mfo, .int 0, .int 0, .ref mul, .ref mup, .ref mun, .int 0, .ref mfr, .ref mta, .int 0]))] s.heap.size = A at hD ⊢
  have hA : ∀ q : Nat, s.heap.size ≤ q → A q := fun q h => by rw [← hAe]; exact Or.inr h
  have hS : va_S A s.heap s.heap [] := va_S.rf
  have hl := lv_entry ([.ref mm]) (n := 1) (Nat.le_of_ble_eq_true rfl)
  rw [lg_entry_eq]
  generalize (lg_sl ([.ref mm]) ++ List.replicate (1 - (lg_sl ([.ref mm])).length) Slot.unset).toArray = ls at hl ⊢
  have hl : lv_has ls 1 [(0, .ref mm)] := hl
  refine lv_aload_n hx hb dX9_size_0 rfl (lv_at hl 0 rfl) ?_
  refine lv_iconst (v := 0) hx hb dX9_size_1 (by decide) ?_
  refine va_put (D := D) (ci := 12) (v := .int 0) (ty := .int) (C := RX9) (T := TX9) (N := 22) hx hb hts (fun _ h => List.mem_cons_of_mem _ (List.mem_append_right _ h)) tyX9 tyX9_ok nmX9 hown hK hP hD hS 0 rfl rfl 0 (by decide) (hts (.fieldLink RX9 65 "NumberingTreeModel" "thrown" "I") (List.mem_of_getElem? (i := 1) rfl)) (fun _ h9 => h9) rfl (by decide +kernel) rfl rfl (Nat.le_of_ble_eq_true rfl) dX9_size_2 (fun H locs hP hD hS => ?_)
  have hP : va_P D vwCl [(mm, .inr (12, [.int 0, .ref mlv, .ref msr, .ref mrs, .ref mpa, .ref mnu, .ref mlt, .ref mpl, .ref mod, .ref mic, .ref mgo, .ref msk, .ref mfo, .int 0, .int 0, .ref mul, .ref mup, .ref mun, .int 0, .ref mfr, .ref mta, .int 0]))] H := hP
  have hD : va_D A [(mm, .inr (12, [.int 0, .ref mlv, .ref msr, .ref mrs, .ref mpa, .ref mnu, .ref mlt, .ref mpl, .ref mod, .ref mic, .ref mgo, .ref msk, .ref mfo, .int 0, .int 0, .ref mul, .ref mup, .ref mun, .int 0, .ref mfr, .ref mta, .int 0]))] := hD
  refine lv_aload_n hx hb dX9_size_5 rfl (lv_at hl 0 rfl) ?_
  refine va_get (D := D) (ci := 12) (v := .int 0) (C := RX9) (T := TX9) (N := 22) hx hb hts (fun _ h => List.mem_cons_of_mem _ (List.mem_append_right _ h)) hown hK hP 0 rfl rfl 14 (by decide) (hts (.fieldLink RX9 91 "NumberingTreeModel" "size" "I") (List.mem_of_getElem? (i := 2) rfl)) (fun _ h9 => h9) rfl dX9_size_6 ?_
  obtain ⟨hP9, hD9⟩ := z_get hP hD [0] (wc := [(mm, .inr (12, [.int 0, .ref mlv, .ref msr, .ref mrs, .ref mpa, .ref mnu, .ref mlt, .ref mpl, .ref mod, .ref mic, .ref mgo, .ref msk, .ref mfo, .int 0, .int 0, .ref mul, .ref mup, .ref mun, .int 0, .ref mfr, .ref mta, .int 0]))]) rfl rfl
  exact W.iret (v := 0) hx hb hr (fun t ht hW => ⟨⟨0, (), rfl, rfl, by rw [ht]; exact hP9, hD9⟩, hS.F ht⟩) hS.2.2 dX9_size_9

set_option maxHeartbeats 4000000 in
set_option maxRecDepth 100000 in
theorem m_references (l : Launch) (D : va_G) (cI : ClassId) (mm mlv msr mrs mpa mnu mlt mpl mod mic mgo msk mfo mul mup mun mfr mta : Nat) (t : Int32) (sz : Nat) : Met l yX9_references wsX9_references ({ frames := 0, cells := 0, slots := 0, locals := 0 }) (va_Pc [.ref mm] (zPre D [(cI, .int)] [(mm, .inr (12, [.int t, .ref mlv, .ref msr, .ref mrs, .ref mpa, .ref mnu, .ref mlt, .ref mpl, .ref mod, .ref mic, .ref mgo, .ref msk, .ref mfo, .int 0, .int 0, .ref mul, .ref mup, .ref mun, .int 0, .ref mfr, .ref mta, .int 0]))] sz)) (va_Qi (fun rv (_ : Unit) => rv = 0) (fun (_ : Unit) => zB D [(mm, .inr (12, [.int 0, .ref mlv, .ref msr, .ref mrs, .ref mpa, .ref mnu, .ref mlt, .ref mpl, .ref mod, .ref mic, .ref mgo, .ref msk, .ref mfo, .int 0, .int 0, .ref mul, .ref mup, .ref mun, .int 0, .ref mfr, .ref mta, .int 0]))] (va_A [(mm, .inr (12, [.int t, .ref mlv, .ref msr, .ref mrs, .ref mpa, .ref mnu, .ref mlt, .ref mpl, .ref mod, .ref mic, .ref mgo, .ref msk, .ref mfo, .int 0, .int 0, .ref mul, .ref mup, .ref mun, .int 0, .ref mfr, .ref mta, .int 0]))] sz)) (va_A [(mm, .inr (12, [.int t, .ref mlv, .ref msr, .ref mrs, .ref mpa, .ref mnu, .ref mlt, .ref mpl, .ref mod, .ref mic, .ref mgo, .ref msk, .ref mfo, .int 0, .int 0, .ref mul, .ref mup, .ref mun, .int 0, .ref mfr, .ref mta, .int 0]))] sz)) 0 0 (va_A [(mm, .inr (12, [.int t, .ref mlv, .ref msr, .ref mrs, .ref mpa, .ref mnu, .ref mlt, .ref mpl, .ref mod, .ref mic, .ref mgo, .ref msk, .ref mfo, .int 0, .int 0, .ref mul, .ref mup, .ref mun, .int 0, .ref mfr, .ref mta, .int 0]))] sz) := by
  refine Met.ofW (cc := cX9_references) (maxL := 1) (ret := (some .int)) (by decide) rfl ?_
  intro P0 E0 s m args below meth C9 s₁ B hml hv
  obtain ⟨rfl, hsz, hP, hK, hD0⟩ := hv
  have hx := B.exec
  have hb := B.bytes
  have hr := B.returns
  have hts := atoms_spec (ws := wsX9_references) B.pre
  have hown : s.vm.findClass RX9 = some m.cls := findClass_of_methodNamed B.named
  have hlocks := B.notSynchronized
  subst hsz
  have hD := hD0.self (sz := s.heap.size)
  generalize hAe : va_A [(mm, .inr (12, [.int t, .ref mlv, .ref msr, .ref mrs, .ref mpa, .ref mnu, .ref mlt, .ref mpl, .ref mod, .ref mic, .ref mgo, .ref msk, .ref mfo, .int 0, .int 0, .ref mul, .ref mup, .ref mun, .int 0, .ref mfr, .ref mta, .int 0]))] s.heap.size = A at hD ⊢
  have hA : ∀ q : Nat, s.heap.size ≤ q → A q := fun q h => by rw [← hAe]; exact Or.inr h
  have hS : va_S A s.heap s.heap [] := va_S.rf
  have hl := lv_entry ([.ref mm]) (n := 1) (Nat.le_of_ble_eq_true rfl)
  rw [lg_entry_eq]
  generalize (lg_sl ([.ref mm]) ++ List.replicate (1 - (lg_sl ([.ref mm])).length) Slot.unset).toArray = ls at hl ⊢
  have hl : lv_has ls 1 [(0, .ref mm)] := hl
  refine lv_aload_n hx hb dX9_references_0 rfl (lv_at hl 0 rfl) ?_
  refine lv_iconst (v := 0) hx hb dX9_references_1 (by decide) ?_
  refine va_put (D := D) (ci := 12) (v := .int 0) (ty := .int) (C := RX9) (T := TX9) (N := 22) hx hb hts (fun _ h => List.mem_cons_of_mem _ (List.mem_append_right _ h)) tyX9 tyX9_ok nmX9 hown hK hP hD hS 0 rfl rfl 0 (by decide) (hts (.fieldLink RX9 65 "NumberingTreeModel" "thrown" "I") (List.mem_of_getElem? (i := 1) rfl)) (fun _ h9 => h9) rfl (by decide +kernel) rfl rfl (Nat.le_of_ble_eq_true rfl) dX9_references_2 (fun H locs hP hD hS => ?_)
  have hP : va_P D vwCl [(mm, .inr (12, [.int 0, .ref mlv, .ref msr, .ref mrs, .ref mpa, .ref mnu, .ref mlt, .ref mpl, .ref mod, .ref mic, .ref mgo, .ref msk, .ref mfo, .int 0, .int 0, .ref mul, .ref mup, .ref mun, .int 0, .ref mfr, .ref mta, .int 0]))] H := hP
  have hD : va_D A [(mm, .inr (12, [.int 0, .ref mlv, .ref msr, .ref mrs, .ref mpa, .ref mnu, .ref mlt, .ref mpl, .ref mod, .ref mic, .ref mgo, .ref msk, .ref mfo, .int 0, .int 0, .ref mul, .ref mup, .ref mun, .int 0, .ref mfr, .ref mta, .int 0]))] := hD
  refine lv_aload_n hx hb dX9_references_5 rfl (lv_at hl 0 rfl) ?_
  refine va_get (D := D) (ci := 12) (v := .int 0) (C := RX9) (T := TX9) (N := 22) hx hb hts (fun _ h => List.mem_cons_of_mem _ (List.mem_append_right _ h)) hown hK hP 0 rfl rfl 21 (by decide) (hts (.fieldLink RX9 230 "NumberingTreeModel" "references" "I") (List.mem_of_getElem? (i := 2) rfl)) (fun _ h9 => h9) rfl dX9_references_6 ?_
  obtain ⟨hP9, hD9⟩ := z_get hP hD [0] (wc := [(mm, .inr (12, [.int 0, .ref mlv, .ref msr, .ref mrs, .ref mpa, .ref mnu, .ref mlt, .ref mpl, .ref mod, .ref mic, .ref mgo, .ref msk, .ref mfo, .int 0, .int 0, .ref mul, .ref mup, .ref mun, .int 0, .ref mfr, .ref mta, .int 0]))]) rfl rfl
  exact W.iret (v := 0) hx hb hr (fun t ht hW => ⟨⟨0, (), rfl, rfl, by rw [ht]; exact hP9, hD9⟩, hS.F ht⟩) hS.2.2 dX9_references_9

set_option maxHeartbeats 4000000 in
set_option maxRecDepth 100000 in
theorem m_used (l : Launch) (D : va_G) (cI : ClassId) (mm mlv msr mrs mpa mnu mlt mpl mod mic mgo msk mfo mul mup mun mfr mta : Nat) (t : Int32) (sz : Nat) : Met l yX9_used wsX9_used ({ frames := 0, cells := 0, slots := 0, locals := 0 }) (va_Pc [.ref mm] (zPre D [(cI, .int)] [(mm, .inr (12, [.int t, .ref mlv, .ref msr, .ref mrs, .ref mpa, .ref mnu, .ref mlt, .ref mpl, .ref mod, .ref mic, .ref mgo, .ref msk, .ref mfo, .int 0, .int 0, .ref mul, .ref mup, .ref mun, .int 0, .ref mfr, .ref mta, .int 0]))] sz)) (va_Qi (fun rv (_ : Unit) => rv = 0) (fun (_ : Unit) => zB D [(mm, .inr (12, [.int 0, .ref mlv, .ref msr, .ref mrs, .ref mpa, .ref mnu, .ref mlt, .ref mpl, .ref mod, .ref mic, .ref mgo, .ref msk, .ref mfo, .int 0, .int 0, .ref mul, .ref mup, .ref mun, .int 0, .ref mfr, .ref mta, .int 0]))] (va_A [(mm, .inr (12, [.int t, .ref mlv, .ref msr, .ref mrs, .ref mpa, .ref mnu, .ref mlt, .ref mpl, .ref mod, .ref mic, .ref mgo, .ref msk, .ref mfo, .int 0, .int 0, .ref mul, .ref mup, .ref mun, .int 0, .ref mfr, .ref mta, .int 0]))] sz)) (va_A [(mm, .inr (12, [.int t, .ref mlv, .ref msr, .ref mrs, .ref mpa, .ref mnu, .ref mlt, .ref mpl, .ref mod, .ref mic, .ref mgo, .ref msk, .ref mfo, .int 0, .int 0, .ref mul, .ref mup, .ref mun, .int 0, .ref mfr, .ref mta, .int 0]))] sz)) 0 0 (va_A [(mm, .inr (12, [.int t, .ref mlv, .ref msr, .ref mrs, .ref mpa, .ref mnu, .ref mlt, .ref mpl, .ref mod, .ref mic, .ref mgo, .ref msk, .ref mfo, .int 0, .int 0, .ref mul, .ref mup, .ref mun, .int 0, .ref mfr, .ref mta, .int 0]))] sz) := by
  refine Met.ofW (cc := cX9_used) (maxL := 1) (ret := (some .int)) (by decide) rfl ?_
  intro P0 E0 s m args below meth C9 s₁ B hml hv
  obtain ⟨rfl, hsz, hP, hK, hD0⟩ := hv
  have hx := B.exec
  have hb := B.bytes
  have hr := B.returns
  have hts := atoms_spec (ws := wsX9_used) B.pre
  have hown : s.vm.findClass RX9 = some m.cls := findClass_of_methodNamed B.named
  have hlocks := B.notSynchronized
  subst hsz
  have hD := hD0.self (sz := s.heap.size)
  generalize hAe : va_A [(mm, .inr (12, [.int t, .ref mlv, .ref msr, .ref mrs, .ref mpa, .ref mnu, .ref mlt, .ref mpl, .ref mod, .ref mic, .ref mgo, .ref msk, .ref mfo, .int 0, .int 0, .ref mul, .ref mup, .ref mun, .int 0, .ref mfr, .ref mta, .int 0]))] s.heap.size = A at hD ⊢
  have hA : ∀ q : Nat, s.heap.size ≤ q → A q := fun q h => by rw [← hAe]; exact Or.inr h
  have hS : va_S A s.heap s.heap [] := va_S.rf
  have hl := lv_entry ([.ref mm]) (n := 1) (Nat.le_of_ble_eq_true rfl)
  rw [lg_entry_eq]
  generalize (lg_sl ([.ref mm]) ++ List.replicate (1 - (lg_sl ([.ref mm])).length) Slot.unset).toArray = ls at hl ⊢
  have hl : lv_has ls 1 [(0, .ref mm)] := hl
  refine lv_aload_n hx hb dX9_used_0 rfl (lv_at hl 0 rfl) ?_
  refine lv_iconst (v := 0) hx hb dX9_used_1 (by decide) ?_
  refine va_put (D := D) (ci := 12) (v := .int 0) (ty := .int) (C := RX9) (T := TX9) (N := 22) hx hb hts (fun _ h => List.mem_cons_of_mem _ (List.mem_append_right _ h)) tyX9 tyX9_ok nmX9 hown hK hP hD hS 0 rfl rfl 0 (by decide) (hts (.fieldLink RX9 65 "NumberingTreeModel" "thrown" "I") (List.mem_of_getElem? (i := 1) rfl)) (fun _ h9 => h9) rfl (by decide +kernel) rfl rfl (Nat.le_of_ble_eq_true rfl) dX9_used_2 (fun H locs hP hD hS => ?_)
  have hP : va_P D vwCl [(mm, .inr (12, [.int 0, .ref mlv, .ref msr, .ref mrs, .ref mpa, .ref mnu, .ref mlt, .ref mpl, .ref mod, .ref mic, .ref mgo, .ref msk, .ref mfo, .int 0, .int 0, .ref mul, .ref mup, .ref mun, .int 0, .ref mfr, .ref mta, .int 0]))] H := hP
  have hD : va_D A [(mm, .inr (12, [.int 0, .ref mlv, .ref msr, .ref mrs, .ref mpa, .ref mnu, .ref mlt, .ref mpl, .ref mod, .ref mic, .ref mgo, .ref msk, .ref mfo, .int 0, .int 0, .ref mul, .ref mup, .ref mun, .int 0, .ref mfr, .ref mta, .int 0]))] := hD
  refine lv_aload_n hx hb dX9_used_5 rfl (lv_at hl 0 rfl) ?_
  refine va_get (D := D) (ci := 12) (v := .int 0) (C := RX9) (T := TX9) (N := 22) hx hb hts (fun _ h => List.mem_cons_of_mem _ (List.mem_append_right _ h)) hown hK hP 0 rfl rfl 18 (by decide) (hts (.fieldLink RX9 94 "NumberingTreeModel" "usedMany" "I") (List.mem_of_getElem? (i := 2) rfl)) (fun _ h9 => h9) rfl dX9_used_6 ?_
  obtain ⟨hP9, hD9⟩ := z_get hP hD [0] (wc := [(mm, .inr (12, [.int 0, .ref mlv, .ref msr, .ref mrs, .ref mpa, .ref mnu, .ref mlt, .ref mpl, .ref mod, .ref mic, .ref mgo, .ref msk, .ref mfo, .int 0, .int 0, .ref mul, .ref mup, .ref mun, .int 0, .ref mfr, .ref mta, .int 0]))]) rfl rfl
  exact W.iret (v := 0) hx hb hr (fun t ht hW => ⟨⟨0, (), rfl, rfl, by rw [ht]; exact hP9, hD9⟩, hS.F ht⟩) hS.2.2 dX9_used_9

set_option maxHeartbeats 4000000 in
set_option maxRecDepth 100000 in
theorem m_broken (l : Launch) (D : va_G) (cI : ClassId) (mm mlv msr mrs mpa mnu mlt mpl mod mic mgo msk mfo mul mup mun mfr mta : Nat) (t : Int32) (sz : Nat) : Met l yX9_broken wsX9_broken ({ frames := 0, cells := 0, slots := 0, locals := 0 }) (va_Pc [.ref mm] (zPre D [(cI, .int)] [(mm, .inr (12, [.int t, .ref mlv, .ref msr, .ref mrs, .ref mpa, .ref mnu, .ref mlt, .ref mpl, .ref mod, .ref mic, .ref mgo, .ref msk, .ref mfo, .int 0, .int 0, .ref mul, .ref mup, .ref mun, .int 0, .ref mfr, .ref mta, .int 0]))] sz)) (va_Qi (fun rv (_ : Unit) => rv = 0) (fun (_ : Unit) => zB D [(mm, .inr (12, [.int 0, .ref mlv, .ref msr, .ref mrs, .ref mpa, .ref mnu, .ref mlt, .ref mpl, .ref mod, .ref mic, .ref mgo, .ref msk, .ref mfo, .int 0, .int 0, .ref mul, .ref mup, .ref mun, .int 0, .ref mfr, .ref mta, .int 0]))] (va_A [(mm, .inr (12, [.int t, .ref mlv, .ref msr, .ref mrs, .ref mpa, .ref mnu, .ref mlt, .ref mpl, .ref mod, .ref mic, .ref mgo, .ref msk, .ref mfo, .int 0, .int 0, .ref mul, .ref mup, .ref mun, .int 0, .ref mfr, .ref mta, .int 0]))] sz)) (va_A [(mm, .inr (12, [.int t, .ref mlv, .ref msr, .ref mrs, .ref mpa, .ref mnu, .ref mlt, .ref mpl, .ref mod, .ref mic, .ref mgo, .ref msk, .ref mfo, .int 0, .int 0, .ref mul, .ref mup, .ref mun, .int 0, .ref mfr, .ref mta, .int 0]))] sz)) 0 0 (va_A [(mm, .inr (12, [.int t, .ref mlv, .ref msr, .ref mrs, .ref mpa, .ref mnu, .ref mlt, .ref mpl, .ref mod, .ref mic, .ref mgo, .ref msk, .ref mfo, .int 0, .int 0, .ref mul, .ref mup, .ref mun, .int 0, .ref mfr, .ref mta, .int 0]))] sz) := by
  refine Met.ofW (cc := cX9_broken) (maxL := 3) (ret := (some .int)) (by decide) rfl ?_
  intro P0 E0 s m args below meth C9 s₁ B hml hv
  obtain ⟨rfl, hsz, hP, hK, hD0⟩ := hv
  have hx := B.exec
  have hb := B.bytes
  have hr := B.returns
  have hts := atoms_spec (ws := wsX9_broken) B.pre
  have hown : s.vm.findClass RX9 = some m.cls := findClass_of_methodNamed B.named
  have hlocks := B.notSynchronized
  subst hsz
  have hD := hD0.self (sz := s.heap.size)
  generalize hAe : va_A [(mm, .inr (12, [.int t, .ref mlv, .ref msr, .ref mrs, .ref mpa, .ref mnu, .ref mlt, .ref mpl, .ref mod, .ref mic, .ref mgo, .ref msk, .ref mfo, .int 0, .int 0, .ref mul, .ref mup, .ref mun, .int 0, .ref mfr, .ref mta, .int 0]))] s.heap.size = A at hD ⊢
  have hA : ∀ q : Nat, s.heap.size ≤ q → A q := fun q h => by rw [← hAe]; exact Or.inr h
  have hS : va_S A s.heap s.heap [] := va_S.rf
  have hl := lv_entry ([.ref mm]) (n := 3) (Nat.le_of_ble_eq_true rfl)
  rw [lg_entry_eq]
  generalize (lg_sl ([.ref mm]) ++ List.replicate (3 - (lg_sl ([.ref mm])).length) Slot.unset).toArray = ls at hl ⊢
  have hl : lv_has ls 3 [(0, .ref mm)] := hl
  refine lv_aload_n hx hb dX9_broken_0 rfl (lv_at hl 0 rfl) ?_
  refine lv_iconst (v := 0) hx hb dX9_broken_1 (by decide) ?_
  refine va_put (D := D) (ci := 12) (v := .int 0) (ty := .int) (C := RX9) (T := TX9) (N := 22) hx hb hts (fun _ h => List.mem_cons_of_mem _ (List.mem_append_left _ (List.mem_append_right _ h))) tyX9 tyX9_ok nmX9 hown hK hP hD hS 0 rfl rfl 0 (by decide) (hts (.fieldLink RX9 65 "NumberingTreeModel" "thrown" "I") (List.mem_of_getElem? (i := 1) rfl)) (fun _ h9 => h9) rfl (by decide +kernel) rfl rfl (Nat.le_of_ble_eq_true rfl) dX9_broken_2 (fun H locs hP hD hS => ?_)
  have hP : va_P D vwCl [(mm, .inr (12, [.int 0, .ref mlv, .ref msr, .ref mrs, .ref mpa, .ref mnu, .ref mlt, .ref mpl, .ref mod, .ref mic, .ref mgo, .ref msk, .ref mfo, .int 0, .int 0, .ref mul, .ref mup, .ref mun, .int 0, .ref mfr, .ref mta, .int 0]))] H := hP
  have hD : va_D A [(mm, .inr (12, [.int 0, .ref mlv, .ref msr, .ref mrs, .ref mpa, .ref mnu, .ref mlt, .ref mpl, .ref mod, .ref mic, .ref mgo, .ref msk, .ref mfo, .int 0, .int 0, .ref mul, .ref mup, .ref mun, .int 0, .ref mfr, .ref mta, .int 0]))] := hD
  refine lv_iconst (v := 0) hx hb dX9_broken_5 (by decide) ?_
  refine lv_istore_n (lv' := [(1, .int 0), (0, .ref mm)]) hx hb dX9_broken_6 rfl hl (by decide) rfl (fun ls hl => ?_)
  refine lv_iconst (v := 0) hx hb dX9_broken_7 (by decide) ?_
  refine lv_istore_n (lv' := [(2, .int 0), (1, .int 0), (0, .ref mm)]) hx hb dX9_broken_8 rfl hl (by decide) rfl (fun ls hl => ?_)
  refine lv_iload_n hx hb dX9_broken_9 rfl (lv_at hl 0 rfl) ?_
  refine lv_aload_n hx hb dX9_broken_10 rfl (lv_at hl 2 rfl) ?_
  refine va_get (D := D) (ci := 12) (v := .int 0) (C := RX9) (T := TX9) (N := 22) hx hb hts (fun _ h => List.mem_cons_of_mem _ (List.mem_append_left _ (List.mem_append_right _ h))) hown hK hP 0 rfl rfl 21 (by decide) (hts (.fieldLink RX9 230 "NumberingTreeModel" "references" "I") (List.mem_of_getElem? (i := 2) rfl)) (fun _ h9 => h9) rfl dX9_broken_11 ?_
  refine lv_icmp_ge (tgt := 39) hx hb dX9_broken_14 (by decide) (fun _ => ?_) (fun q => absurd q (by decide))
  refine lv_iload_n hx hb dX9_broken_39 rfl (lv_at hl 1 rfl) ?_
  obtain ⟨hP9, hD9⟩ := z_get hP hD [0] (wc := [(mm, .inr (12, [.int 0, .ref mlv, .ref msr, .ref mrs, .ref mpa, .ref mnu, .ref mlt, .ref mpl, .ref mod, .ref mic, .ref mgo, .ref msk, .ref mfo, .int 0, .int 0, .ref mul, .ref mup, .ref mun, .int 0, .ref mfr, .ref mta, .int 0]))]) rfl rfl
  exact W.iret (v := 0) hx hb hr (fun t ht hW => ⟨⟨0, (), rfl, rfl, by rw [ht]; exact hP9, hD9⟩, hS.F ht⟩) hS.2.2 dX9_broken_40

set_option maxHeartbeats 4000000 in
set_option maxRecDepth 100000 in
theorem m_paragraphAt (l : Launch) (D : va_G) (cI : ClassId) (mm mlv msr mrs mpa mnu mlt mpl mod mic mgo msk mfo mul mup mun mfr mta : Nat) (t i : Int32) (sz : Nat) : Met l yX9_paragraphAt wsX9_paragraphAt ({ frames := 1, cells := 0, slots := 0, locals := 22 }) (va_Pc [.ref mm, .int i] (zPre D [(cI, .int)] [(mm, .inr (12, [.int t, .ref mlv, .ref msr, .ref mrs, .ref mpa, .ref mnu, .ref mlt, .ref mpl, .ref mod, .ref mic, .ref mgo, .ref msk, .ref mfo, .int 0, .int 0, .ref mul, .ref mup, .ref mun, .int 0, .ref mfr, .ref mta, .int 0]))] sz)) (va_Qi (fun rv (_ : Unit) => rv = 0) (fun (_ : Unit) => zB D [(mm, .inr (12, [.int 1, .ref mlv, .ref msr, .ref mrs, .ref mpa, .ref mnu, .ref mlt, .ref mpl, .ref mod, .ref mic, .ref mgo, .ref msk, .ref mfo, .int 0, .int 0, .ref mul, .ref mup, .ref mun, .int 0, .ref mfr, .ref mta, .int 0]))] (va_A [(mm, .inr (12, [.int t, .ref mlv, .ref msr, .ref mrs, .ref mpa, .ref mnu, .ref mlt, .ref mpl, .ref mod, .ref mic, .ref mgo, .ref msk, .ref mfo, .int 0, .int 0, .ref mul, .ref mup, .ref mun, .int 0, .ref mfr, .ref mta, .int 0]))] sz)) (va_A [(mm, .inr (12, [.int t, .ref mlv, .ref msr, .ref mrs, .ref mpa, .ref mnu, .ref mlt, .ref mpl, .ref mod, .ref mic, .ref mgo, .ref msk, .ref mfo, .int 0, .int 0, .ref mul, .ref mup, .ref mun, .int 0, .ref mfr, .ref mta, .int 0]))] sz)) 0 0 (va_A [(mm, .inr (12, [.int t, .ref mlv, .ref msr, .ref mrs, .ref mpa, .ref mnu, .ref mlt, .ref mpl, .ref mod, .ref mic, .ref mgo, .ref msk, .ref mfo, .int 0, .int 0, .ref mul, .ref mup, .ref mun, .int 0, .ref mfr, .ref mta, .int 0]))] sz) := by
  refine Met.ofW (cc := cX9_paragraphAt) (maxL := 2) (ret := (some .int)) (by decide) rfl ?_
  intro P0 E0 s m args below meth C9 s₁ B hml hv
  obtain ⟨rfl, hsz, hP, hK, hD0⟩ := hv
  have hx := B.exec
  have hb := B.bytes
  have hr := B.returns
  have hts := atoms_spec (ws := wsX9_paragraphAt) B.pre
  have hown : s.vm.findClass RX9 = some m.cls := findClass_of_methodNamed B.named
  have hlocks := B.notSynchronized
  subst hsz
  have hD := hD0.self (sz := s.heap.size)
  generalize hAe : va_A [(mm, .inr (12, [.int t, .ref mlv, .ref msr, .ref mrs, .ref mpa, .ref mnu, .ref mlt, .ref mpl, .ref mod, .ref mic, .ref mgo, .ref msk, .ref mfo, .int 0, .int 0, .ref mul, .ref mup, .ref mun, .int 0, .ref mfr, .ref mta, .int 0]))] s.heap.size = A at hD ⊢
  have hA : ∀ q : Nat, s.heap.size ≤ q → A q := fun q h => by rw [← hAe]; exact Or.inr h
  have hS : va_S A s.heap s.heap [] := va_S.rf
  have hl := lv_entry ([.ref mm, .int i]) (n := 2) (Nat.le_of_ble_eq_true rfl)
  rw [lg_entry_eq]
  generalize (lg_sl ([.ref mm, .int i]) ++ List.replicate (2 - (lg_sl ([.ref mm, .int i])).length) Slot.unset).toArray = ls at hl ⊢
  have hl : lv_has ls 2 [(0, .ref mm), (1, .int i)] := hl
  refine lv_aload_n hx hb dX9_paragraphAt_0 rfl (lv_at hl 0 rfl) ?_
  refine lv_iconst (v := 0) hx hb dX9_paragraphAt_1 (by decide) ?_
  refine va_put (D := D) (ci := 12) (v := .int 0) (ty := .int) (C := RX9) (T := TX9) (N := 22) hx hb hts (fun _ h => List.mem_cons_of_mem _ (List.mem_append_left _ (List.mem_append_right _ h))) tyX9 tyX9_ok nmX9 hown hK hP hD hS 0 rfl rfl 0 (by decide) (hts (.fieldLink RX9 65 "NumberingTreeModel" "thrown" "I") (List.mem_of_getElem? (i := 1) rfl)) (fun _ h9 => h9) rfl (by decide +kernel) rfl rfl (Nat.le_of_ble_eq_true rfl) dX9_paragraphAt_2 (fun H locs hP hD hS => ?_)
  have hP : va_P D vwCl [(mm, .inr (12, [.int 0, .ref mlv, .ref msr, .ref mrs, .ref mpa, .ref mnu, .ref mlt, .ref mpl, .ref mod, .ref mic, .ref mgo, .ref msk, .ref mfo, .int 0, .int 0, .ref mul, .ref mup, .ref mun, .int 0, .ref mfr, .ref mta, .int 0]))] H := hP
  have hD : va_D A [(mm, .inr (12, [.int 0, .ref mlv, .ref msr, .ref mrs, .ref mpa, .ref mnu, .ref mlt, .ref mpl, .ref mod, .ref mic, .ref mgo, .ref msk, .ref mfo, .int 0, .int 0, .ref mul, .ref mup, .ref mun, .int 0, .ref mfr, .ref mta, .int 0]))] := hD
  refine lv_iload_n hx hb dX9_paragraphAt_5 rfl (lv_at hl 1 rfl) ?_
  refine lv_iconst (v := 0) hx hb dX9_paragraphAt_6 (by decide) ?_
  refine lv_aload_n hx hb dX9_paragraphAt_7 rfl (lv_at hl 0 rfl) ?_
  refine va_get (D := D) (ci := 12) (v := .int 0) (C := RX9) (T := TX9) (N := 22) hx hb hts (fun _ h => List.mem_cons_of_mem _ (List.mem_append_left _ (List.mem_append_right _ h))) hown hK hP 0 rfl rfl 14 (by decide) (hts (.fieldLink RX9 91 "NumberingTreeModel" "size" "I") (List.mem_of_getElem? (i := 2) rfl)) (fun _ h9 => h9) rfl dX9_paragraphAt_8 ?_
  refine lv_iconst (v := 1) hx hb dX9_paragraphAt_11 (by decide) ?_
  refine lv_isub hx hb dX9_paragraphAt_12 ?_
  refine zt_i (-1) (by decide) ?_
  refine zc_i (wc := []) (wr := [(mm, .inr (12, [.int 0, .ref mlv, .ref msr, .ref mrs, .ref mpa, .ref mnu, .ref mlt, .ref mpl, .ref mod, .ref mic, .ref mgo, .ref msk, .ref mfo, .int 0, .int 0, .ref mul, .ref mup, .ref mun, .int 0, .ref mfr, .ref mta, .int 0]))]) (va_runS (As := [.int i, .int 0, .int (-1)]) (rest := []) ⟨hx, hb, hml, hown, hts⟩ (k_isBetweenF l D cI i 0 (-1) H.size (zI_nb i)) (va_cwS 3 hts gX9_paragraphAt_X9_isBetween rfl rfl rfl (by decide +kernel) ⟨Nat.le_of_ble_eq_true rfl, Nat.le_of_ble_eq_true rfl⟩) (zPS hK hP hD [] rfl rfl [0] rfl) rfl rfl hl.1 rfl (lv_room (Nat.le_of_ble_eq_true rfl)) dX9_paragraphAt_13 ⟨Nat.le_of_ble_eq_true rfl, Nat.le_of_ble_eq_true rfl⟩) hP hD hS hA [] [0] rfl rfl rfl (by decide) (fun r _ H locs hw hP hD hS => ?_)
  have hP : va_P D vwCl [(mm, .inr (12, [.int 0, .ref mlv, .ref msr, .ref mrs, .ref mpa, .ref mnu, .ref mlt, .ref mpl, .ref mod, .ref mic, .ref mgo, .ref msk, .ref mfo, .int 0, .int 0, .ref mul, .ref mup, .ref mun, .int 0, .ref mfr, .ref mta, .int 0]))] H := hP
  have hD : va_D A [(mm, .inr (12, [.int 0, .ref mlv, .ref msr, .ref mrs, .ref mpa, .ref mnu, .ref mlt, .ref mpl, .ref mod, .ref mic, .ref mgo, .ref msk, .ref mfo, .int 0, .int 0, .ref mul, .ref mup, .ref mun, .int 0, .ref mfr, .ref mta, .int 0]))] := hD
  subst hw
  refine lv_if_eq (tgt := 28) hx hb dX9_paragraphAt_16 (by decide) (fun _ => ?_) (fun q => absurd q (by decide))
  refine lv_aload_n hx hb dX9_paragraphAt_28 rfl (lv_at hl 0 rfl) ?_
  refine lv_iconst (v := 1) hx hb dX9_paragraphAt_29 (by decide) ?_
  refine zc_i (wc := [(mm, .inr (12, [.int 0, .ref mlv, .ref msr, .ref mrs, .ref mpa, .ref mnu, .ref mlt, .ref mpl, .ref mod, .ref mic, .ref mgo, .ref msk, .ref mfo, .int 0, .int 0, .ref mul, .ref mup, .ref mun, .int 0, .ref mfr, .ref mta, .int 0]))]) (wr := []) (va_runV (As := [.int 1]) (rest := []) ⟨hx, hb, hml, hown, hts⟩ (k_fails l D cI mm mlv msr mrs mpa mnu mlt mpl mod mic mgo msk mfo mul mup mun mfr mta 0 1 0 0 0 0 H.size) (cwV 1 hts gX9_paragraphAt_X9_fails rfl rfl rfl (by decide +kernel) ⟨Nat.le_of_ble_eq_true rfl, Nat.le_of_ble_eq_true rfl⟩) (zPV hK hP hD [0] rfl rfl [0] rfl 0 rfl rfl rfl) rfl rfl hl.1 rfl (lv_room (Nat.le_of_ble_eq_true rfl)) dX9_paragraphAt_30 ⟨Nat.le_of_ble_eq_true rfl, Nat.le_of_ble_eq_true rfl⟩) hP hD hS hA [0] [] rfl rfl rfl (by decide) (fun r _ H locs hw hP hD hS => ?_)
  have hP : va_P D vwCl [(mm, .inr (12, [.int 1, .ref mlv, .ref msr, .ref mrs, .ref mpa, .ref mnu, .ref mlt, .ref mpl, .ref mod, .ref mic, .ref mgo, .ref msk, .ref mfo, .int 0, .int 0, .ref mul, .ref mup, .ref mun, .int 0, .ref mfr, .ref mta, .int 0]))] H := hP
  have hD : va_D A [(mm, .inr (12, [.int 1, .ref mlv, .ref msr, .ref mrs, .ref mpa, .ref mnu, .ref mlt, .ref mpl, .ref mod, .ref mic, .ref mgo, .ref msk, .ref mfo, .int 0, .int 0, .ref mul, .ref mup, .ref mun, .int 0, .ref mfr, .ref mta, .int 0]))] := hD
  subst hw
  obtain ⟨hP9, hD9⟩ := z_get hP hD [0] (wc := [(mm, .inr (12, [.int 1, .ref mlv, .ref msr, .ref mrs, .ref mpa, .ref mnu, .ref mlt, .ref mpl, .ref mod, .ref mic, .ref mgo, .ref msk, .ref mfo, .int 0, .int 0, .ref mul, .ref mup, .ref mun, .int 0, .ref mfr, .ref mta, .int 0]))]) rfl rfl
  exact W.iret (v := 0) hx hb hr (fun t ht hW => ⟨⟨0, (), rfl, rfl, by rw [ht]; exact hP9, hD9⟩, hS.F ht⟩) hS.2.2 dX9_paragraphAt_33

set_option maxHeartbeats 4000000 in
set_option maxRecDepth 100000 in
theorem k_isReference0 (l : Launch) (D : va_G) (cI : ClassId) (mm mlv msr mrs mpa mnu mlt mpl mod mic mgo msk mfo mul mup mun mfr mta : Nat) (t i : Int32) (sz : Nat) : Met l yX9_isReference wsX9_isReference ({ frames := 1, cells := 0, slots := 0, locals := 22 }) (va_Pc [.ref mm, .int i] (zPre D [(cI, .int)] [(mm, .inr (12, [.int t, .ref mlv, .ref msr, .ref mrs, .ref mpa, .ref mnu, .ref mlt, .ref mpl, .ref mod, .ref mic, .ref mgo, .ref msk, .ref mfo, .int 0, .int 0, .ref mul, .ref mup, .ref mun, .int 0, .ref mfr, .ref mta, .int 0]))] sz)) (va_Qi (fun rv (_ : Unit) => rv = 0) (fun (_ : Unit) => zB D [(mm, .inr (12, [.int t, .ref mlv, .ref msr, .ref mrs, .ref mpa, .ref mnu, .ref mlt, .ref mpl, .ref mod, .ref mic, .ref mgo, .ref msk, .ref mfo, .int 0, .int 0, .ref mul, .ref mup, .ref mun, .int 0, .ref mfr, .ref mta, .int 0]))] (va_A [(mm, .inr (12, [.int t, .ref mlv, .ref msr, .ref mrs, .ref mpa, .ref mnu, .ref mlt, .ref mpl, .ref mod, .ref mic, .ref mgo, .ref msk, .ref mfo, .int 0, .int 0, .ref mul, .ref mup, .ref mun, .int 0, .ref mfr, .ref mta, .int 0]))] sz)) (va_A [(mm, .inr (12, [.int t, .ref mlv, .ref msr, .ref mrs, .ref mpa, .ref mnu, .ref mlt, .ref mpl, .ref mod, .ref mic, .ref mgo, .ref msk, .ref mfo, .int 0, .int 0, .ref mul, .ref mup, .ref mun, .int 0, .ref mfr, .ref mta, .int 0]))] sz)) 0 0 (va_A [(mm, .inr (12, [.int t, .ref mlv, .ref msr, .ref mrs, .ref mpa, .ref mnu, .ref mlt, .ref mpl, .ref mod, .ref mic, .ref mgo, .ref msk, .ref mfo, .int 0, .int 0, .ref mul, .ref mup, .ref mun, .int 0, .ref mfr, .ref mta, .int 0]))] sz) := by
  refine Met.ofW (cc := cX9_isReference) (maxL := 2) (ret := (some .boolean)) (by decide) rfl ?_
  intro P0 E0 s m args below meth C9 s₁ B hml hv
  obtain ⟨rfl, hsz, hP, hK, hD0⟩ := hv
  have hx := B.exec
  have hb := B.bytes
  have hr := B.returns
  have hts := atoms_spec (ws := wsX9_isReference) B.pre
  have hown : s.vm.findClass RX9 = some m.cls := findClass_of_methodNamed B.named
  have hlocks := B.notSynchronized
  subst hsz
  have hD := hD0.self (sz := s.heap.size)
  generalize hAe : va_A [(mm, .inr (12, [.int t, .ref mlv, .ref msr, .ref mrs, .ref mpa, .ref mnu, .ref mlt, .ref mpl, .ref mod, .ref mic, .ref mgo, .ref msk, .ref mfo, .int 0, .int 0, .ref mul, .ref mup, .ref mun, .int 0, .ref mfr, .ref mta, .int 0]))] s.heap.size = A at hD ⊢
  have hA : ∀ q : Nat, s.heap.size ≤ q → A q := fun q h => by rw [← hAe]; exact Or.inr h
  have hS : va_S A s.heap s.heap [] := va_S.rf
  have hl := lv_entry ([.ref mm, .int i]) (n := 2) (Nat.le_of_ble_eq_true rfl)
  rw [lg_entry_eq]
  generalize (lg_sl ([.ref mm, .int i]) ++ List.replicate (2 - (lg_sl ([.ref mm, .int i])).length) Slot.unset).toArray = ls at hl ⊢
  have hl : lv_has ls 2 [(0, .ref mm), (1, .int i)] := hl
  refine lv_iload_n hx hb dX9_isReference_0 rfl (lv_at hl 1 rfl) ?_
  refine lv_iconst (v := 0) hx hb dX9_isReference_1 (by decide) ?_
  refine lv_aload_n hx hb dX9_isReference_2 rfl (lv_at hl 0 rfl) ?_
  refine va_get (D := D) (ci := 12) (v := .int 0) (C := RX9) (T := TX9) (N := 22) hx hb hts (fun _ h => List.mem_cons_of_mem _ (List.mem_append_right _ h)) hown hK hP 0 rfl rfl 21 (by decide) (hts (.fieldLink RX9 230 "NumberingTreeModel" "references" "I") (List.mem_of_getElem? (i := 1) rfl)) (fun _ h9 => h9) rfl dX9_isReference_3 ?_
  refine lv_iconst (v := 1) hx hb dX9_isReference_6 (by decide) ?_
  refine lv_isub hx hb dX9_isReference_7 ?_
  refine zt_i (-1) (by decide) ?_
  refine zc_i (wc := []) (wr := [(mm, .inr (12, [.int t, .ref mlv, .ref msr, .ref mrs, .ref mpa, .ref mnu, .ref mlt, .ref mpl, .ref mod, .ref mic, .ref mgo, .ref msk, .ref mfo, .int 0, .int 0, .ref mul, .ref mup, .ref mun, .int 0, .ref mfr, .ref mta, .int 0]))]) (va_runS (As := [.int i, .int 0, .int (-1)]) (rest := []) ⟨hx, hb, hml, hown, hts⟩ (k_isBetweenF l D cI i 0 (-1) s.heap.size (zI_nb i)) (va_cwS 3 hts gX9_isReference_X9_isBetween rfl rfl rfl (by decide +kernel) ⟨Nat.le_of_ble_eq_true rfl, Nat.le_of_ble_eq_true rfl⟩) (zPS hK hP hD [] rfl rfl [0] rfl) rfl rfl hl.1 rfl (lv_room (Nat.le_of_ble_eq_true rfl)) dX9_isReference_8 ⟨Nat.le_of_ble_eq_true rfl, Nat.le_of_ble_eq_true rfl⟩) hP hD hS hA [] [0] rfl rfl rfl (by decide) (fun r _ H locs hw hP hD hS => ?_)
  have hP : va_P D vwCl [(mm, .inr (12, [.int t, .ref mlv, .ref msr, .ref mrs, .ref mpa, .ref mnu, .ref mlt, .ref mpl, .ref mod, .ref mic, .ref mgo, .ref msk, .ref mfo, .int 0, .int 0, .ref mul, .ref mup, .ref mun, .int 0, .ref mfr, .ref mta, .int 0]))] H := hP
  have hD : va_D A [(mm, .inr (12, [.int t, .ref mlv, .ref msr, .ref mrs, .ref mpa, .ref mnu, .ref mlt, .ref mpl, .ref mod, .ref mic, .ref mgo, .ref msk, .ref mfo, .int 0, .int 0, .ref mul, .ref mup, .ref mun, .int 0, .ref mfr, .ref mta, .int 0]))] := hD
  subst hw
  obtain ⟨hP9, hD9⟩ := z_get hP hD [0] (wc := [(mm, .inr (12, [.int t, .ref mlv, .ref msr, .ref mrs, .ref mpa, .ref mnu, .ref mlt, .ref mpl, .ref mod, .ref mic, .ref mgo, .ref msk, .ref mfo, .int 0, .int 0, .ref mul, .ref mup, .ref mun, .int 0, .ref mfr, .ref mta, .int 0]))]) rfl rfl
  exact W.zret (ty := .boolean) (v := 0) hx hb hr rfl (fun t ht hW => ⟨⟨0, (), rfl, rfl, by rw [ht]; exact hP9, hD9⟩, hS.F ht⟩) hS.2.2 dX9_isReference_11

set_option maxHeartbeats 4000000 in
set_option maxRecDepth 100000 in
theorem m_targetOf (l : Launch) (D : va_G) (cI : ClassId) (mm mlv msr mrs mpa mnu mlt mpl mod mic mgo msk mfo mul mup mun mfr mta : Nat) (t i : Int32) (sz : Nat) : Met l yX9_targetOf wsX9_targetOf ({ frames := 2, cells := 0, slots := 0, locals := 43 }) (va_Pc [.ref mm, .int i] (zPre D [(cI, .int)] [(mm, .inr (12, [.int t, .ref mlv, .ref msr, .ref mrs, .ref mpa, .ref mnu, .ref mlt, .ref mpl, .ref mod, .ref mic, .ref mgo, .ref msk, .ref mfo, .int 0, .int 0, .ref mul, .ref mup, .ref mun, .int 0, .ref mfr, .ref mta, .int 0]))] sz)) (va_Qi (fun rv (_ : Unit) => rv = 0) (fun (_ : Unit) => zB D [(mm, .inr (12, [.int 1, .ref mlv, .ref msr, .ref mrs, .ref mpa, .ref mnu, .ref mlt, .ref mpl, .ref mod, .ref mic, .ref mgo, .ref msk, .ref mfo, .int 0, .int 0, .ref mul, .ref mup, .ref mun, .int 0, .ref mfr, .ref mta, .int 0]))] (va_A [(mm, .inr (12, [.int t, .ref mlv, .ref msr, .ref mrs, .ref mpa, .ref mnu, .ref mlt, .ref mpl, .ref mod, .ref mic, .ref mgo, .ref msk, .ref mfo, .int 0, .int 0, .ref mul, .ref mup, .ref mun, .int 0, .ref mfr, .ref mta, .int 0]))] sz)) (va_A [(mm, .inr (12, [.int t, .ref mlv, .ref msr, .ref mrs, .ref mpa, .ref mnu, .ref mlt, .ref mpl, .ref mod, .ref mic, .ref mgo, .ref msk, .ref mfo, .int 0, .int 0, .ref mul, .ref mup, .ref mun, .int 0, .ref mfr, .ref mta, .int 0]))] sz)) 0 0 (va_A [(mm, .inr (12, [.int t, .ref mlv, .ref msr, .ref mrs, .ref mpa, .ref mnu, .ref mlt, .ref mpl, .ref mod, .ref mic, .ref mgo, .ref msk, .ref mfo, .int 0, .int 0, .ref mul, .ref mup, .ref mun, .int 0, .ref mfr, .ref mta, .int 0]))] sz) := by
  refine Met.ofW (cc := cX9_targetOf) (maxL := 2) (ret := (some .int)) (by decide) rfl ?_
  intro P0 E0 s m args below meth C9 s₁ B hml hv
  obtain ⟨rfl, hsz, hP, hK, hD0⟩ := hv
  have hx := B.exec
  have hb := B.bytes
  have hr := B.returns
  have hts := atoms_spec (ws := wsX9_targetOf) B.pre
  have hown : s.vm.findClass RX9 = some m.cls := findClass_of_methodNamed B.named
  have hlocks := B.notSynchronized
  subst hsz
  have hD := hD0.self (sz := s.heap.size)
  generalize hAe : va_A [(mm, .inr (12, [.int t, .ref mlv, .ref msr, .ref mrs, .ref mpa, .ref mnu, .ref mlt, .ref mpl, .ref mod, .ref mic, .ref mgo, .ref msk, .ref mfo, .int 0, .int 0, .ref mul, .ref mup, .ref mun, .int 0, .ref mfr, .ref mta, .int 0]))] s.heap.size = A at hD ⊢
  have hA : ∀ q : Nat, s.heap.size ≤ q → A q := fun q h => by rw [← hAe]; exact Or.inr h
  have hS : va_S A s.heap s.heap [] := va_S.rf
  have hl := lv_entry ([.ref mm, .int i]) (n := 2) (Nat.le_of_ble_eq_true rfl)
  rw [lg_entry_eq]
  generalize (lg_sl ([.ref mm, .int i]) ++ List.replicate (2 - (lg_sl ([.ref mm, .int i])).length) Slot.unset).toArray = ls at hl ⊢
  have hl : lv_has ls 2 [(0, .ref mm), (1, .int i)] := hl
  refine lv_aload_n hx hb dX9_targetOf_0 rfl (lv_at hl 0 rfl) ?_
  refine lv_iconst (v := 0) hx hb dX9_targetOf_1 (by decide) ?_
  refine va_put (D := D) (ci := 12) (v := .int 0) (ty := .int) (C := RX9) (T := TX9) (N := 22) hx hb hts (fun _ h => List.mem_cons_of_mem _ (List.mem_append_left _ (List.mem_append_right _ h))) tyX9 tyX9_ok nmX9 hown hK hP hD hS 0 rfl rfl 0 (by decide) (hts (.fieldLink RX9 65 "NumberingTreeModel" "thrown" "I") (List.mem_of_getElem? (i := 1) rfl)) (fun _ h9 => h9) rfl (by decide +kernel) rfl rfl (Nat.le_of_ble_eq_true rfl) dX9_targetOf_2 (fun H locs hP hD hS => ?_)
  have hP : va_P D vwCl [(mm, .inr (12, [.int 0, .ref mlv, .ref msr, .ref mrs, .ref mpa, .ref mnu, .ref mlt, .ref mpl, .ref mod, .ref mic, .ref mgo, .ref msk, .ref mfo, .int 0, .int 0, .ref mul, .ref mup, .ref mun, .int 0, .ref mfr, .ref mta, .int 0]))] H := hP
  have hD : va_D A [(mm, .inr (12, [.int 0, .ref mlv, .ref msr, .ref mrs, .ref mpa, .ref mnu, .ref mlt, .ref mpl, .ref mod, .ref mic, .ref mgo, .ref msk, .ref mfo, .int 0, .int 0, .ref mul, .ref mup, .ref mun, .int 0, .ref mfr, .ref mta, .int 0]))] := hD
  refine lv_aload_n hx hb dX9_targetOf_5 rfl (lv_at hl 0 rfl) ?_
  refine lv_iload_n hx hb dX9_targetOf_6 rfl (lv_at hl 1 rfl) ?_
  refine zc_i (wc := [(mm, .inr (12, [.int 0, .ref mlv, .ref msr, .ref mrs, .ref mpa, .ref mnu, .ref mlt, .ref mpl, .ref mod, .ref mic, .ref mgo, .ref msk, .ref mfo, .int 0, .int 0, .ref mul, .ref mup, .ref mun, .int 0, .ref mfr, .ref mta, .int 0]))]) (wr := []) (va_runV (As := [.int i]) (rest := []) ⟨hx, hb, hml, hown, hts⟩ (k_isReference0 l D cI mm mlv msr mrs mpa mnu mlt mpl mod mic mgo msk mfo mul mup mun mfr mta 0 i H.size) (cwV 1 hts gX9_targetOf_X9_isReference rfl rfl rfl (by decide +kernel) ⟨Nat.le_of_ble_eq_true rfl, Nat.le_of_ble_eq_true rfl⟩) (zPV hK hP hD [0] rfl rfl [0] rfl 0 rfl rfl rfl) rfl rfl hl.1 rfl (lv_room (Nat.le_of_ble_eq_true rfl)) dX9_targetOf_7 ⟨Nat.le_of_ble_eq_true rfl, Nat.le_of_ble_eq_true rfl⟩) hP hD hS hA [0] [] rfl rfl rfl (by decide) (fun r _ H locs hw hP hD hS => ?_)
  have hP : va_P D vwCl [(mm, .inr (12, [.int 0, .ref mlv, .ref msr, .ref mrs, .ref mpa, .ref mnu, .ref mlt, .ref mpl, .ref mod, .ref mic, .ref mgo, .ref msk, .ref mfo, .int 0, .int 0, .ref mul, .ref mup, .ref mun, .int 0, .ref mfr, .ref mta, .int 0]))] H := hP
  have hD : va_D A [(mm, .inr (12, [.int 0, .ref mlv, .ref msr, .ref mrs, .ref mpa, .ref mnu, .ref mlt, .ref mpl, .ref mod, .ref mic, .ref mgo, .ref msk, .ref mfo, .int 0, .int 0, .ref mul, .ref mup, .ref mun, .int 0, .ref mfr, .ref mta, .int 0]))] := hD
  subst hw
  refine lv_if_eq (tgt := 22) hx hb dX9_targetOf_10 (by decide) (fun _ => ?_) (fun q => absurd q (by decide))
  refine lv_aload_n hx hb dX9_targetOf_22 rfl (lv_at hl 0 rfl) ?_
  refine lv_iconst (v := 1) hx hb dX9_targetOf_23 (by decide) ?_
  refine zc_i (wc := [(mm, .inr (12, [.int 0, .ref mlv, .ref msr, .ref mrs, .ref mpa, .ref mnu, .ref mlt, .ref mpl, .ref mod, .ref mic, .ref mgo, .ref msk, .ref mfo, .int 0, .int 0, .ref mul, .ref mup, .ref mun, .int 0, .ref mfr, .ref mta, .int 0]))]) (wr := []) (va_runV (As := [.int 1]) (rest := []) ⟨hx, hb, hml, hown, hts⟩ (k_fails l D cI mm mlv msr mrs mpa mnu mlt mpl mod mic mgo msk mfo mul mup mun mfr mta 0 1 0 0 0 0 H.size) (cwV 1 hts gX9_targetOf_X9_fails rfl rfl rfl (by decide +kernel) ⟨Nat.le_of_ble_eq_true rfl, Nat.le_of_ble_eq_true rfl⟩) (zPV hK hP hD [0] rfl rfl [0] rfl 0 rfl rfl rfl) rfl rfl hl.1 rfl (lv_room (Nat.le_of_ble_eq_true rfl)) dX9_targetOf_24 ⟨Nat.le_of_ble_eq_true rfl, Nat.le_of_ble_eq_true rfl⟩) hP hD hS hA [0] [] rfl rfl rfl (by decide) (fun r _ H locs hw hP hD hS => ?_)
  have hP : va_P D vwCl [(mm, .inr (12, [.int 1, .ref mlv, .ref msr, .ref mrs, .ref mpa, .ref mnu, .ref mlt, .ref mpl, .ref mod, .ref mic, .ref mgo, .ref msk, .ref mfo, .int 0, .int 0, .ref mul, .ref mup, .ref mun, .int 0, .ref mfr, .ref mta, .int 0]))] H := hP
  have hD : va_D A [(mm, .inr (12, [.int 1, .ref mlv, .ref msr, .ref mrs, .ref mpa, .ref mnu, .ref mlt, .ref mpl, .ref mod, .ref mic, .ref mgo, .ref msk, .ref mfo, .int 0, .int 0, .ref mul, .ref mup, .ref mun, .int 0, .ref mfr, .ref mta, .int 0]))] := hD
  subst hw
  obtain ⟨hP9, hD9⟩ := z_get hP hD [0] (wc := [(mm, .inr (12, [.int 1, .ref mlv, .ref msr, .ref mrs, .ref mpa, .ref mnu, .ref mlt, .ref mpl, .ref mod, .ref mic, .ref mgo, .ref msk, .ref mfo, .int 0, .int 0, .ref mul, .ref mup, .ref mun, .int 0, .ref mfr, .ref mta, .int 0]))]) rfl rfl
  exact W.iret (v := 0) hx hb hr (fun t ht hW => ⟨⟨0, (), rfl, rfl, by rw [ht]; exact hP9, hD9⟩, hS.F ht⟩) hS.2.2 dX9_targetOf_27

set_option maxHeartbeats 4000000 in
set_option maxRecDepth 100000 in
theorem m_isBroken (l : Launch) (D : va_G) (cI : ClassId) (mm mlv msr mrs mpa mnu mlt mpl mod mic mgo msk mfo mul mup mun mfr mta : Nat) (t i : Int32) (sz : Nat) : Met l yX9_isBroken wsX9_isBroken ({ frames := 2, cells := 0, slots := 0, locals := 43 }) (va_Pc [.ref mm, .int i] (zPre D [(cI, .int)] [(mm, .inr (12, [.int t, .ref mlv, .ref msr, .ref mrs, .ref mpa, .ref mnu, .ref mlt, .ref mpl, .ref mod, .ref mic, .ref mgo, .ref msk, .ref mfo, .int 0, .int 0, .ref mul, .ref mup, .ref mun, .int 0, .ref mfr, .ref mta, .int 0]))] sz)) (va_Qi (fun rv (_ : Unit) => rv = 0) (fun (_ : Unit) => zB D [(mm, .inr (12, [.int 1, .ref mlv, .ref msr, .ref mrs, .ref mpa, .ref mnu, .ref mlt, .ref mpl, .ref mod, .ref mic, .ref mgo, .ref msk, .ref mfo, .int 0, .int 0, .ref mul, .ref mup, .ref mun, .int 0, .ref mfr, .ref mta, .int 0]))] (va_A [(mm, .inr (12, [.int t, .ref mlv, .ref msr, .ref mrs, .ref mpa, .ref mnu, .ref mlt, .ref mpl, .ref mod, .ref mic, .ref mgo, .ref msk, .ref mfo, .int 0, .int 0, .ref mul, .ref mup, .ref mun, .int 0, .ref mfr, .ref mta, .int 0]))] sz)) (va_A [(mm, .inr (12, [.int t, .ref mlv, .ref msr, .ref mrs, .ref mpa, .ref mnu, .ref mlt, .ref mpl, .ref mod, .ref mic, .ref mgo, .ref msk, .ref mfo, .int 0, .int 0, .ref mul, .ref mup, .ref mun, .int 0, .ref mfr, .ref mta, .int 0]))] sz)) 0 0 (va_A [(mm, .inr (12, [.int t, .ref mlv, .ref msr, .ref mrs, .ref mpa, .ref mnu, .ref mlt, .ref mpl, .ref mod, .ref mic, .ref mgo, .ref msk, .ref mfo, .int 0, .int 0, .ref mul, .ref mup, .ref mun, .int 0, .ref mfr, .ref mta, .int 0]))] sz) := by
  refine Met.ofW (cc := cX9_isBroken) (maxL := 2) (ret := (some .boolean)) (by decide) rfl ?_
  intro P0 E0 s m args below meth C9 s₁ B hml hv
  obtain ⟨rfl, hsz, hP, hK, hD0⟩ := hv
  have hx := B.exec
  have hb := B.bytes
  have hr := B.returns
  have hts := atoms_spec (ws := wsX9_isBroken) B.pre
  have hown : s.vm.findClass RX9 = some m.cls := findClass_of_methodNamed B.named
  have hlocks := B.notSynchronized
  subst hsz
  have hD := hD0.self (sz := s.heap.size)
  generalize hAe : va_A [(mm, .inr (12, [.int t, .ref mlv, .ref msr, .ref mrs, .ref mpa, .ref mnu, .ref mlt, .ref mpl, .ref mod, .ref mic, .ref mgo, .ref msk, .ref mfo, .int 0, .int 0, .ref mul, .ref mup, .ref mun, .int 0, .ref mfr, .ref mta, .int 0]))] s.heap.size = A at hD ⊢
  have hA : ∀ q : Nat, s.heap.size ≤ q → A q := fun q h => by rw [← hAe]; exact Or.inr h
  have hS : va_S A s.heap s.heap [] := va_S.rf
  have hl := lv_entry ([.ref mm, .int i]) (n := 2) (Nat.le_of_ble_eq_true rfl)
  rw [lg_entry_eq]
  generalize (lg_sl ([.ref mm, .int i]) ++ List.replicate (2 - (lg_sl ([.ref mm, .int i])).length) Slot.unset).toArray = ls at hl ⊢
  have hl : lv_has ls 2 [(0, .ref mm), (1, .int i)] := hl
  refine lv_aload_n hx hb dX9_isBroken_0 rfl (lv_at hl 0 rfl) ?_
  refine lv_iconst (v := 0) hx hb dX9_isBroken_1 (by decide) ?_
  refine va_put (D := D) (ci := 12) (v := .int 0) (ty := .int) (C := RX9) (T := TX9) (N := 22) hx hb hts (fun _ h => List.mem_cons_of_mem _ (List.mem_append_left _ (List.mem_append_right _ h))) tyX9 tyX9_ok nmX9 hown hK hP hD hS 0 rfl rfl 0 (by decide) (hts (.fieldLink RX9 65 "NumberingTreeModel" "thrown" "I") (List.mem_of_getElem? (i := 1) rfl)) (fun _ h9 => h9) rfl (by decide +kernel) rfl rfl (Nat.le_of_ble_eq_true rfl) dX9_isBroken_2 (fun H locs hP hD hS => ?_)
  have hP : va_P D vwCl [(mm, .inr (12, [.int 0, .ref mlv, .ref msr, .ref mrs, .ref mpa, .ref mnu, .ref mlt, .ref mpl, .ref mod, .ref mic, .ref mgo, .ref msk, .ref mfo, .int 0, .int 0, .ref mul, .ref mup, .ref mun, .int 0, .ref mfr, .ref mta, .int 0]))] H := hP
  have hD : va_D A [(mm, .inr (12, [.int 0, .ref mlv, .ref msr, .ref mrs, .ref mpa, .ref mnu, .ref mlt, .ref mpl, .ref mod, .ref mic, .ref mgo, .ref msk, .ref mfo, .int 0, .int 0, .ref mul, .ref mup, .ref mun, .int 0, .ref mfr, .ref mta, .int 0]))] := hD
  refine lv_aload_n hx hb dX9_isBroken_5 rfl (lv_at hl 0 rfl) ?_
  refine lv_iload_n hx hb dX9_isBroken_6 rfl (lv_at hl 1 rfl) ?_
  refine zc_i (wc := [(mm, .inr (12, [.int 0, .ref mlv, .ref msr, .ref mrs, .ref mpa, .ref mnu, .ref mlt, .ref mpl, .ref mod, .ref mic, .ref mgo, .ref msk, .ref mfo, .int 0, .int 0, .ref mul, .ref mup, .ref mun, .int 0, .ref mfr, .ref mta, .int 0]))]) (wr := []) (va_runV (As := [.int i]) (rest := []) ⟨hx, hb, hml, hown, hts⟩ (k_isReference0 l D cI mm mlv msr mrs mpa mnu mlt mpl mod mic mgo msk mfo mul mup mun mfr mta 0 i H.size) (cwV 1 hts gX9_isBroken_X9_isReference rfl rfl rfl (by decide +kernel) ⟨Nat.le_of_ble_eq_true rfl, Nat.le_of_ble_eq_true rfl⟩) (zPV hK hP hD [0] rfl rfl [0] rfl 0 rfl rfl rfl) rfl rfl hl.1 rfl (lv_room (Nat.le_of_ble_eq_true rfl)) dX9_isBroken_7 ⟨Nat.le_of_ble_eq_true rfl, Nat.le_of_ble_eq_true rfl⟩) hP hD hS hA [0] [] rfl rfl rfl (by decide) (fun r _ H locs hw hP hD hS => ?_)
  have hP : va_P D vwCl [(mm, .inr (12, [.int 0, .ref mlv, .ref msr, .ref mrs, .ref mpa, .ref mnu, .ref mlt, .ref mpl, .ref mod, .ref mic, .ref mgo, .ref msk, .ref mfo, .int 0, .int 0, .ref mul, .ref mup, .ref mun, .int 0, .ref mfr, .ref mta, .int 0]))] H := hP
  have hD : va_D A [(mm, .inr (12, [.int 0, .ref mlv, .ref msr, .ref mrs, .ref mpa, .ref mnu, .ref mlt, .ref mpl, .ref mod, .ref mic, .ref mgo, .ref msk, .ref mfo, .int 0, .int 0, .ref mul, .ref mup, .ref mun, .int 0, .ref mfr, .ref mta, .int 0]))] := hD
  subst hw
  refine lv_if_eq (tgt := 21) hx hb dX9_isBroken_10 (by decide) (fun _ => ?_) (fun q => absurd q (by decide))
  refine lv_aload_n hx hb dX9_isBroken_21 rfl (lv_at hl 0 rfl) ?_
  refine lv_iconst (v := 1) hx hb dX9_isBroken_22 (by decide) ?_
  refine zc_i (wc := [(mm, .inr (12, [.int 0, .ref mlv, .ref msr, .ref mrs, .ref mpa, .ref mnu, .ref mlt, .ref mpl, .ref mod, .ref mic, .ref mgo, .ref msk, .ref mfo, .int 0, .int 0, .ref mul, .ref mup, .ref mun, .int 0, .ref mfr, .ref mta, .int 0]))]) (wr := []) (va_runV (As := [.int 1]) (rest := []) ⟨hx, hb, hml, hown, hts⟩ (k_isWrong l D cI mm mlv msr mrs mpa mnu mlt mpl mod mic mgo msk mfo mul mup mun mfr mta 0 1 H.size) (cwV 1 hts gX9_isBroken_X9_isWrong rfl rfl rfl (by decide +kernel) ⟨Nat.le_of_ble_eq_true rfl, Nat.le_of_ble_eq_true rfl⟩) (zPV hK hP hD [0] rfl rfl [0] rfl 0 rfl rfl rfl) rfl rfl hl.1 rfl (lv_room (Nat.le_of_ble_eq_true rfl)) dX9_isBroken_23 ⟨Nat.le_of_ble_eq_true rfl, Nat.le_of_ble_eq_true rfl⟩) hP hD hS hA [0] [] rfl rfl rfl (by decide) (fun r _ H locs hw hP hD hS => ?_)
  have hP : va_P D vwCl [(mm, .inr (12, [.int 1, .ref mlv, .ref msr, .ref mrs, .ref mpa, .ref mnu, .ref mlt, .ref mpl, .ref mod, .ref mic, .ref mgo, .ref msk, .ref mfo, .int 0, .int 0, .ref mul, .ref mup, .ref mun, .int 0, .ref mfr, .ref mta, .int 0]))] H := hP
  have hD : va_D A [(mm, .inr (12, [.int 1, .ref mlv, .ref msr, .ref mrs, .ref mpa, .ref mnu, .ref mlt, .ref mpl, .ref mod, .ref mic, .ref mgo, .ref msk, .ref mfo, .int 0, .int 0, .ref mul, .ref mup, .ref mun, .int 0, .ref mfr, .ref mta, .int 0]))] := hD
  subst hw
  obtain ⟨hP9, hD9⟩ := z_get hP hD [0] (wc := [(mm, .inr (12, [.int 1, .ref mlv, .ref msr, .ref mrs, .ref mpa, .ref mnu, .ref mlt, .ref mpl, .ref mod, .ref mic, .ref mgo, .ref msk, .ref mfo, .int 0, .int 0, .ref mul, .ref mup, .ref mun, .int 0, .ref mfr, .ref mta, .int 0]))]) rfl rfl
  exact W.zret (ty := .boolean) (v := 0) hx hb hr rfl (fun t ht hW => ⟨⟨0, (), rfl, rfl, by rw [ht]; exact hP9, hD9⟩, hS.F ht⟩) hS.2.2 dX9_isBroken_26

set_option maxHeartbeats 4000000 in
set_option maxRecDepth 100000 in
theorem k_isVoid0 (l : Launch) (D : va_G) (cI : ClassId) (mm mlv msr mrs mpa mnu mlt mpl mod mic mgo msk mfo mul mup mun mfr mta : Nat) (t i : Int32) (sz : Nat) : Met l yX9_isVoid wsX9_isVoid ({ frames := 2, cells := 0, slots := 0, locals := 43 }) (va_Pc [.ref mm, .int i] (zPre D [(cI, .int)] [(mm, .inr (12, [.int t, .ref mlv, .ref msr, .ref mrs, .ref mpa, .ref mnu, .ref mlt, .ref mpl, .ref mod, .ref mic, .ref mgo, .ref msk, .ref mfo, .int 0, .int 0, .ref mul, .ref mup, .ref mun, .int 0, .ref mfr, .ref mta, .int 0]))] sz)) (va_Qi (fun rv (_ : Unit) => rv = 1) (fun (_ : Unit) => zB D [(mm, .inr (12, [.int 1, .ref mlv, .ref msr, .ref mrs, .ref mpa, .ref mnu, .ref mlt, .ref mpl, .ref mod, .ref mic, .ref mgo, .ref msk, .ref mfo, .int 0, .int 0, .ref mul, .ref mup, .ref mun, .int 0, .ref mfr, .ref mta, .int 0]))] (va_A [(mm, .inr (12, [.int t, .ref mlv, .ref msr, .ref mrs, .ref mpa, .ref mnu, .ref mlt, .ref mpl, .ref mod, .ref mic, .ref mgo, .ref msk, .ref mfo, .int 0, .int 0, .ref mul, .ref mup, .ref mun, .int 0, .ref mfr, .ref mta, .int 0]))] sz)) (va_A [(mm, .inr (12, [.int t, .ref mlv, .ref msr, .ref mrs, .ref mpa, .ref mnu, .ref mlt, .ref mpl, .ref mod, .ref mic, .ref mgo, .ref msk, .ref mfo, .int 0, .int 0, .ref mul, .ref mup, .ref mun, .int 0, .ref mfr, .ref mta, .int 0]))] sz)) 0 0 (va_A [(mm, .inr (12, [.int t, .ref mlv, .ref msr, .ref mrs, .ref mpa, .ref mnu, .ref mlt, .ref mpl, .ref mod, .ref mic, .ref mgo, .ref msk, .ref mfo, .int 0, .int 0, .ref mul, .ref mup, .ref mun, .int 0, .ref mfr, .ref mta, .int 0]))] sz) := by
  refine Met.ofW (cc := cX9_isVoid) (maxL := 2) (ret := (some .boolean)) (by decide) rfl ?_
  intro P0 E0 s m args below meth C9 s₁ B hml hv
  obtain ⟨rfl, hsz, hP, hK, hD0⟩ := hv
  have hx := B.exec
  have hb := B.bytes
  have hr := B.returns
  have hts := atoms_spec (ws := wsX9_isVoid) B.pre
  have hown : s.vm.findClass RX9 = some m.cls := findClass_of_methodNamed B.named
  have hlocks := B.notSynchronized
  subst hsz
  have hD := hD0.self (sz := s.heap.size)
  generalize hAe : va_A [(mm, .inr (12, [.int t, .ref mlv, .ref msr, .ref mrs, .ref mpa, .ref mnu, .ref mlt, .ref mpl, .ref mod, .ref mic, .ref mgo, .ref msk, .ref mfo, .int 0, .int 0, .ref mul, .ref mup, .ref mun, .int 0, .ref mfr, .ref mta, .int 0]))] s.heap.size = A at hD ⊢
  have hA : ∀ q : Nat, s.heap.size ≤ q → A q := fun q h => by rw [← hAe]; exact Or.inr h
  have hS : va_S A s.heap s.heap [] := va_S.rf
  have hl := lv_entry ([.ref mm, .int i]) (n := 2) (Nat.le_of_ble_eq_true rfl)
  rw [lg_entry_eq]
  generalize (lg_sl ([.ref mm, .int i]) ++ List.replicate (2 - (lg_sl ([.ref mm, .int i])).length) Slot.unset).toArray = ls at hl ⊢
  have hl : lv_has ls 2 [(0, .ref mm), (1, .int i)] := hl
  refine lv_aload_n hx hb dX9_isVoid_0 rfl (lv_at hl 0 rfl) ?_
  refine lv_aload_n hx hb dX9_isVoid_1 rfl (lv_at hl 0 rfl) ?_
  refine lv_iload_n hx hb dX9_isVoid_2 rfl (lv_at hl 1 rfl) ?_
  refine zc_i (wc := [(mm, .inr (12, [.int t, .ref mlv, .ref msr, .ref mrs, .ref mpa, .ref mnu, .ref mlt, .ref mpl, .ref mod, .ref mic, .ref mgo, .ref msk, .ref mfo, .int 0, .int 0, .ref mul, .ref mup, .ref mun, .int 0, .ref mfr, .ref mta, .int 0]))]) (wr := []) (va_runV (As := [.int i]) (rest := [.ref mm]) ⟨hx, hb, hml, hown, hts⟩ (k_isReference0 l D cI mm mlv msr mrs mpa mnu mlt mpl mod mic mgo msk mfo mul mup mun mfr mta t i s.heap.size) (cwV 1 hts gX9_isVoid_X9_isReference rfl rfl rfl (by decide +kernel) ⟨Nat.le_of_ble_eq_true rfl, Nat.le_of_ble_eq_true rfl⟩) (zPV hK hP hD [0] rfl rfl [0] rfl 0 rfl rfl rfl) rfl rfl hl.1 rfl (lv_room (Nat.le_of_ble_eq_true rfl)) dX9_isVoid_3 ⟨Nat.le_of_ble_eq_true rfl, Nat.le_of_ble_eq_true rfl⟩) hP hD hS hA [0] [] rfl rfl rfl (by decide) (fun r _ H locs hw hP hD hS => ?_)
  have hP : va_P D vwCl [(mm, .inr (12, [.int t, .ref mlv, .ref msr, .ref mrs, .ref mpa, .ref mnu, .ref mlt, .ref mpl, .ref mod, .ref mic, .ref mgo, .ref msk, .ref mfo, .int 0, .int 0, .ref mul, .ref mup, .ref mun, .int 0, .ref mfr, .ref mta, .int 0]))] H := hP
  have hD : va_D A [(mm, .inr (12, [.int t, .ref mlv, .ref msr, .ref mrs, .ref mpa, .ref mnu, .ref mlt, .ref mpl, .ref mod, .ref mic, .ref mgo, .ref msk, .ref mfo, .int 0, .int 0, .ref mul, .ref mup, .ref mun, .int 0, .ref mfr, .ref mta, .int 0]))] := hD
  subst hw
  refine lv_if_ne (tgt := 13) hx hb dX9_isVoid_6 (by decide) (fun q => absurd q (by decide)) (fun _ => ?_)
  refine lv_iconst (v := 1) hx hb dX9_isVoid_9 (by decide) ?_
  refine lv_goto (tgt := 26) hx hb dX9_isVoid_10 (by decide) ?_
  refine va_put (D := D) (ci := 12) (v := .int 1) (ty := .int) (C := RX9) (T := TX9) (N := 22) hx hb hts (fun _ h => List.mem_cons_of_mem _ (List.mem_append_left _ (List.mem_append_right _ h))) tyX9 tyX9_ok nmX9 hown hK hP hD hS 0 rfl rfl 0 (by decide) (hts (.fieldLink RX9 65 "NumberingTreeModel" "thrown" "I") (List.mem_of_getElem? (i := 1) rfl)) (fun _ h9 => h9) rfl (by decide +kernel) rfl rfl (Nat.le_of_ble_eq_true rfl) dX9_isVoid_26 (fun H locs hP hD hS => ?_)
  have hP : va_P D vwCl [(mm, .inr (12, [.int 1, .ref mlv, .ref msr, .ref mrs, .ref mpa, .ref mnu, .ref mlt, .ref mpl, .ref mod, .ref mic, .ref mgo, .ref msk, .ref mfo, .int 0, .int 0, .ref mul, .ref mup, .ref mun, .int 0, .ref mfr, .ref mta, .int 0]))] H := hP
  have hD : va_D A [(mm, .inr (12, [.int 1, .ref mlv, .ref msr, .ref mrs, .ref mpa, .ref mnu, .ref mlt, .ref mpl, .ref mod, .ref mic, .ref mgo, .ref msk, .ref mfo, .int 0, .int 0, .ref mul, .ref mup, .ref mun, .int 0, .ref mfr, .ref mta, .int 0]))] := hD
  refine lv_aload_n hx hb dX9_isVoid_29 rfl (lv_at hl 0 rfl) ?_
  refine va_get (D := D) (ci := 12) (v := .int 1) (C := RX9) (T := TX9) (N := 22) hx hb hts (fun _ h => List.mem_cons_of_mem _ (List.mem_append_left _ (List.mem_append_right _ h))) hown hK hP 0 rfl rfl 0 (by decide) (hts (.fieldLink RX9 65 "NumberingTreeModel" "thrown" "I") (List.mem_of_getElem? (i := 1) rfl)) (fun _ h9 => h9) rfl dX9_isVoid_30 ?_
  refine lv_if_le (tgt := 40) hx hb dX9_isVoid_33 (by decide) (fun q => absurd q (by decide)) (fun _ => ?_)
  refine lv_iconst (v := 1) hx hb dX9_isVoid_36 (by decide) ?_
  refine lv_goto (tgt := 41) hx hb dX9_isVoid_37 (by decide) ?_
  obtain ⟨hP9, hD9⟩ := z_get hP hD [0] (wc := [(mm, .inr (12, [.int 1, .ref mlv, .ref msr, .ref mrs, .ref mpa, .ref mnu, .ref mlt, .ref mpl, .ref mod, .ref mic, .ref mgo, .ref msk, .ref mfo, .int 0, .int 0, .ref mul, .ref mup, .ref mun, .int 0, .ref mfr, .ref mta, .int 0]))]) rfl rfl
  exact W.zret (ty := .boolean) (v := 1) hx hb hr rfl (fun t ht hW => ⟨⟨1, (), rfl, rfl, by rw [ht]; exact hP9, hD9⟩, hS.F ht⟩) hS.2.2 dX9_isVoid_41

set_option maxHeartbeats 4000000 in
set_option maxRecDepth 100000 in
theorem m_refer (l : Launch) (D : va_G) (cI : ClassId) (mm mlv msr mrs mpa mnu mlt mpl mod mic mgo msk mfo mul mup mun mfr mta : Nat) (t i j : Int32) (sz : Nat) : Met l yX9_refer wsX9_refer ({ frames := 2, cells := 0, slots := 0, locals := 43 }) (va_Pc [.ref mm, .int i, .int j] (zPre D [(cI, .int)] [(mm, .inr (12, [.int t, .ref mlv, .ref msr, .ref mrs, .ref mpa, .ref mnu, .ref mlt, .ref mpl, .ref mod, .ref mic, .ref mgo, .ref msk, .ref mfo, .int 0, .int 0, .ref mul, .ref mup, .ref mun, .int 0, .ref mfr, .ref mta, .int 0]))] sz)) (va_Qi (fun rv (_ : Unit) => rv = 0) (fun (_ : Unit) => zB D [(mm, .inr (12, [.int 1, .ref mlv, .ref msr, .ref mrs, .ref mpa, .ref mnu, .ref mlt, .ref mpl, .ref mod, .ref mic, .ref mgo, .ref msk, .ref mfo, .int 0, .int 0, .ref mul, .ref mup, .ref mun, .int 0, .ref mfr, .ref mta, .int 0]))] (va_A [(mm, .inr (12, [.int t, .ref mlv, .ref msr, .ref mrs, .ref mpa, .ref mnu, .ref mlt, .ref mpl, .ref mod, .ref mic, .ref mgo, .ref msk, .ref mfo, .int 0, .int 0, .ref mul, .ref mup, .ref mun, .int 0, .ref mfr, .ref mta, .int 0]))] sz)) (va_A [(mm, .inr (12, [.int t, .ref mlv, .ref msr, .ref mrs, .ref mpa, .ref mnu, .ref mlt, .ref mpl, .ref mod, .ref mic, .ref mgo, .ref msk, .ref mfo, .int 0, .int 0, .ref mul, .ref mup, .ref mun, .int 0, .ref mfr, .ref mta, .int 0]))] sz)) 0 0 (va_A [(mm, .inr (12, [.int t, .ref mlv, .ref msr, .ref mrs, .ref mpa, .ref mnu, .ref mlt, .ref mpl, .ref mod, .ref mic, .ref mgo, .ref msk, .ref mfo, .int 0, .int 0, .ref mul, .ref mup, .ref mun, .int 0, .ref mfr, .ref mta, .int 0]))] sz) := by
  refine Met.ofW (cc := cX9_refer) (maxL := 3) (ret := (some .int)) (by decide) rfl ?_
  intro P0 E0 s m args below meth C9 s₁ B hml hv
  obtain ⟨rfl, hsz, hP, hK, hD0⟩ := hv
  have hx := B.exec
  have hb := B.bytes
  have hr := B.returns
  have hts := atoms_spec (ws := wsX9_refer) B.pre
  have hown : s.vm.findClass RX9 = some m.cls := findClass_of_methodNamed B.named
  have hlocks := B.notSynchronized
  subst hsz
  have hD := hD0.self (sz := s.heap.size)
  generalize hAe : va_A [(mm, .inr (12, [.int t, .ref mlv, .ref msr, .ref mrs, .ref mpa, .ref mnu, .ref mlt, .ref mpl, .ref mod, .ref mic, .ref mgo, .ref msk, .ref mfo, .int 0, .int 0, .ref mul, .ref mup, .ref mun, .int 0, .ref mfr, .ref mta, .int 0]))] s.heap.size = A at hD ⊢
  have hA : ∀ q : Nat, s.heap.size ≤ q → A q := fun q h => by rw [← hAe]; exact Or.inr h
  have hS : va_S A s.heap s.heap [] := va_S.rf
  have hl := lv_entry ([.ref mm, .int i, .int j]) (n := 3) (Nat.le_of_ble_eq_true rfl)
  rw [lg_entry_eq]
  generalize (lg_sl ([.ref mm, .int i, .int j]) ++ List.replicate (3 - (lg_sl ([.ref mm, .int i, .int j])).length) Slot.unset).toArray = ls at hl ⊢
  have hl : lv_has ls 3 [(0, .ref mm), (1, .int i), (2, .int j)] := hl
  refine lv_aload_n hx hb dX9_refer_0 rfl (lv_at hl 0 rfl) ?_
  refine lv_iconst (v := 0) hx hb dX9_refer_1 (by decide) ?_
  refine va_put (D := D) (ci := 12) (v := .int 0) (ty := .int) (C := RX9) (T := TX9) (N := 22) hx hb hts (fun _ h => List.mem_cons_of_mem _ (List.mem_append_left _ (List.mem_append_right _ h))) tyX9 tyX9_ok nmX9 hown hK hP hD hS 0 rfl rfl 0 (by decide) (hts (.fieldLink RX9 65 "NumberingTreeModel" "thrown" "I") (List.mem_of_getElem? (i := 1) rfl)) (fun _ h9 => h9) rfl (by decide +kernel) rfl rfl (Nat.le_of_ble_eq_true rfl) dX9_refer_2 (fun H locs hP hD hS => ?_)
  have hP : va_P D vwCl [(mm, .inr (12, [.int 0, .ref mlv, .ref msr, .ref mrs, .ref mpa, .ref mnu, .ref mlt, .ref mpl, .ref mod, .ref mic, .ref mgo, .ref msk, .ref mfo, .int 0, .int 0, .ref mul, .ref mup, .ref mun, .int 0, .ref mfr, .ref mta, .int 0]))] H := hP
  have hD : va_D A [(mm, .inr (12, [.int 0, .ref mlv, .ref msr, .ref mrs, .ref mpa, .ref mnu, .ref mlt, .ref mpl, .ref mod, .ref mic, .ref mgo, .ref msk, .ref mfo, .int 0, .int 0, .ref mul, .ref mup, .ref mun, .int 0, .ref mfr, .ref mta, .int 0]))] := hD
  refine lv_aload_n hx hb dX9_refer_5 rfl (lv_at hl 0 rfl) ?_
  refine lv_iload_n hx hb dX9_refer_6 rfl (lv_at hl 1 rfl) ?_
  refine zc_i (wc := [(mm, .inr (12, [.int 0, .ref mlv, .ref msr, .ref mrs, .ref mpa, .ref mnu, .ref mlt, .ref mpl, .ref mod, .ref mic, .ref mgo, .ref msk, .ref mfo, .int 0, .int 0, .ref mul, .ref mup, .ref mun, .int 0, .ref mfr, .ref mta, .int 0]))]) (wr := []) (va_runV (As := [.int i]) (rest := []) ⟨hx, hb, hml, hown, hts⟩ (k_isThere0 l D cI mm mlv msr mrs mpa mnu mlt mpl mod mic mgo msk mfo mul mup mun mfr mta 0 i H.size) (cwV 1 hts gX9_refer_X9_isThere rfl rfl rfl (by decide +kernel) ⟨Nat.le_of_ble_eq_true rfl, Nat.le_of_ble_eq_true rfl⟩) (zPV hK hP hD [0] rfl rfl [0] rfl 0 rfl rfl rfl) rfl rfl hl.1 rfl (lv_room (Nat.le_of_ble_eq_true rfl)) dX9_refer_7 ⟨Nat.le_of_ble_eq_true rfl, Nat.le_of_ble_eq_true rfl⟩) hP hD hS hA [0] [] rfl rfl rfl (by decide) (fun r _ H locs hw hP hD hS => ?_)
  have hP : va_P D vwCl [(mm, .inr (12, [.int 0, .ref mlv, .ref msr, .ref mrs, .ref mpa, .ref mnu, .ref mlt, .ref mpl, .ref mod, .ref mic, .ref mgo, .ref msk, .ref mfo, .int 0, .int 0, .ref mul, .ref mup, .ref mun, .int 0, .ref mfr, .ref mta, .int 0]))] H := hP
  have hD : va_D A [(mm, .inr (12, [.int 0, .ref mlv, .ref msr, .ref mrs, .ref mpa, .ref mnu, .ref mlt, .ref mpl, .ref mod, .ref mic, .ref mgo, .ref msk, .ref mfo, .int 0, .int 0, .ref mul, .ref mup, .ref mun, .int 0, .ref mfr, .ref mta, .int 0]))] := hD
  subst hw
  refine lv_if_eq (tgt := 21) hx hb dX9_refer_10 (by decide) (fun _ => ?_) (fun q => absurd q (by decide))
  refine lv_aload_n hx hb dX9_refer_21 rfl (lv_at hl 0 rfl) ?_
  refine lv_iconst (v := 1) hx hb dX9_refer_22 (by decide) ?_
  refine zc_i (wc := [(mm, .inr (12, [.int 0, .ref mlv, .ref msr, .ref mrs, .ref mpa, .ref mnu, .ref mlt, .ref mpl, .ref mod, .ref mic, .ref mgo, .ref msk, .ref mfo, .int 0, .int 0, .ref mul, .ref mup, .ref mun, .int 0, .ref mfr, .ref mta, .int 0]))]) (wr := []) (va_runV (As := [.int 1]) (rest := []) ⟨hx, hb, hml, hown, hts⟩ (k_fails l D cI mm mlv msr mrs mpa mnu mlt mpl mod mic mgo msk mfo mul mup mun mfr mta 0 1 0 0 0 0 H.size) (cwV 1 hts gX9_refer_X9_fails rfl rfl rfl (by decide +kernel) ⟨Nat.le_of_ble_eq_true rfl, Nat.le_of_ble_eq_true rfl⟩) (zPV hK hP hD [0] rfl rfl [0] rfl 0 rfl rfl rfl) rfl rfl hl.1 rfl (lv_room (Nat.le_of_ble_eq_true rfl)) dX9_refer_23 ⟨Nat.le_of_ble_eq_true rfl, Nat.le_of_ble_eq_true rfl⟩) hP hD hS hA [0] [] rfl rfl rfl (by decide) (fun r _ H locs hw hP hD hS => ?_)
  have hP : va_P D vwCl [(mm, .inr (12, [.int 1, .ref mlv, .ref msr, .ref mrs, .ref mpa, .ref mnu, .ref mlt, .ref mpl, .ref mod, .ref mic, .ref mgo, .ref msk, .ref mfo, .int 0, .int 0, .ref mul, .ref mup, .ref mun, .int 0, .ref mfr, .ref mta, .int 0]))] H := hP
  have hD : va_D A [(mm, .inr (12, [.int 1, .ref mlv, .ref msr, .ref mrs, .ref mpa, .ref mnu, .ref mlt, .ref mpl, .ref mod, .ref mic, .ref mgo, .ref msk, .ref mfo, .int 0, .int 0, .ref mul, .ref mup, .ref mun, .int 0, .ref mfr, .ref mta, .int 0]))] := hD
  subst hw
  obtain ⟨hP9, hD9⟩ := z_get hP hD [0] (wc := [(mm, .inr (12, [.int 1, .ref mlv, .ref msr, .ref mrs, .ref mpa, .ref mnu, .ref mlt, .ref mpl, .ref mod, .ref mic, .ref mgo, .ref msk, .ref mfo, .int 0, .int 0, .ref mul, .ref mup, .ref mun, .int 0, .ref mfr, .ref mta, .int 0]))]) rfl rfl
  exact W.iret (v := 0) hx hb hr (fun t ht hW => ⟨⟨0, (), rfl, rfl, by rw [ht]; exact hP9, hD9⟩, hS.F ht⟩) hS.2.2 dX9_refer_26

set_option maxHeartbeats 4000000 in
set_option maxRecDepth 100000 in
theorem k_many0 (l : Launch) (D : va_G) (cI : ClassId) (mm mlv msr mrs mpa mnu mlt mpl mod mic mgo msk mfo mul mup mun mfr mta : Nat) (t i : Int32) (sz : Nat) : Met l yX9_many wsX9_many ({ frames := 0, cells := 0, slots := 0, locals := 0 }) (va_Pc [.ref mm, .int i] (zPre D [(cI, .int)] [(mm, .inr (12, [.int t, .ref mlv, .ref msr, .ref mrs, .ref mpa, .ref mnu, .ref mlt, .ref mpl, .ref mod, .ref mic, .ref mgo, .ref msk, .ref mfo, .int 0, .int 0, .ref mul, .ref mup, .ref mun, .int 0, .ref mfr, .ref mta, .int 0]))] sz)) (va_Qi (fun rv (_ : Unit) => rv = 0) (fun (_ : Unit) => zB D [(mm, .inr (12, [.int t, .ref mlv, .ref msr, .ref mrs, .ref mpa, .ref mnu, .ref mlt, .ref mpl, .ref mod, .ref mic, .ref mgo, .ref msk, .ref mfo, .int 0, .int 0, .ref mul, .ref mup, .ref mun, .int 0, .ref mfr, .ref mta, .int 0]))] (va_A [(mm, .inr (12, [.int t, .ref mlv, .ref msr, .ref mrs, .ref mpa, .ref mnu, .ref mlt, .ref mpl, .ref mod, .ref mic, .ref mgo, .ref msk, .ref mfo, .int 0, .int 0, .ref mul, .ref mup, .ref mun, .int 0, .ref mfr, .ref mta, .int 0]))] sz)) (va_A [(mm, .inr (12, [.int t, .ref mlv, .ref msr, .ref mrs, .ref mpa, .ref mnu, .ref mlt, .ref mpl, .ref mod, .ref mic, .ref mgo, .ref msk, .ref mfo, .int 0, .int 0, .ref mul, .ref mup, .ref mun, .int 0, .ref mfr, .ref mta, .int 0]))] sz)) 0 0 (va_A [(mm, .inr (12, [.int t, .ref mlv, .ref msr, .ref mrs, .ref mpa, .ref mnu, .ref mlt, .ref mpl, .ref mod, .ref mic, .ref mgo, .ref msk, .ref mfo, .int 0, .int 0, .ref mul, .ref mup, .ref mun, .int 0, .ref mfr, .ref mta, .int 0]))] sz) := by
  refine Met.ofW (cc := cX9_many) (maxL := 5) (ret := (some .int)) (by decide) rfl ?_
  intro P0 E0 s m args below meth C9 s₁ B hml hv
  obtain ⟨rfl, hsz, hP, hK, hD0⟩ := hv
  have hx := B.exec
  have hb := B.bytes
  have hr := B.returns
  have hts := atoms_spec (ws := wsX9_many) B.pre
  have hown : s.vm.findClass RX9 = some m.cls := findClass_of_methodNamed B.named
  have hlocks := B.notSynchronized
  subst hsz
  have hD := hD0.self (sz := s.heap.size)
  generalize hAe : va_A [(mm, .inr (12, [.int t, .ref mlv, .ref msr, .ref mrs, .ref mpa, .ref mnu, .ref mlt, .ref mpl, .ref mod, .ref mic, .ref mgo, .ref msk, .ref mfo, .int 0, .int 0, .ref mul, .ref mup, .ref mun, .int 0, .ref mfr, .ref mta, .int 0]))] s.heap.size = A at hD ⊢
  have hA : ∀ q : Nat, s.heap.size ≤ q → A q := fun q h => by rw [← hAe]; exact Or.inr h
  have hS : va_S A s.heap s.heap [] := va_S.rf
  have hl := lv_entry ([.ref mm, .int i]) (n := 5) (Nat.le_of_ble_eq_true rfl)
  rw [lg_entry_eq]
  generalize (lg_sl ([.ref mm, .int i]) ++ List.replicate (5 - (lg_sl ([.ref mm, .int i])).length) Slot.unset).toArray = ls at hl ⊢
  have hl : lv_has ls 5 [(0, .ref mm), (1, .int i)] := hl
  refine lv_iconst (v := 0) hx hb dX9_many_0 (by decide) ?_
  refine lv_istore_n (lv' := [(2, .int 0), (0, .ref mm), (1, .int i)]) hx hb dX9_many_1 rfl hl (by decide) rfl (fun ls hl => ?_)
  refine lv_iconst (v := 0) hx hb dX9_many_2 (by decide) ?_
  refine lv_istore_n (lv' := [(3, .int 0), (2, .int 0), (0, .ref mm), (1, .int i)]) hx hb dX9_many_3 rfl hl (by decide) rfl (fun ls hl => ?_)
  refine lv_iload_n hx hb dX9_many_4 rfl (lv_at hl 0 rfl) ?_
  refine lv_aload_n hx hb dX9_many_5 rfl (lv_at hl 2 rfl) ?_
  refine va_get (D := D) (ci := 12) (v := .int 0) (C := RX9) (T := TX9) (N := 22) hx hb hts (fun _ h => List.mem_cons_of_mem _ (List.mem_append_left _ (List.mem_append_right _ h))) hown hK hP 0 rfl rfl 14 (by decide) (hts (.fieldLink RX9 91 "NumberingTreeModel" "size" "I") (List.mem_of_getElem? (i := 1) rfl)) (fun _ h9 => h9) rfl dX9_many_6 ?_
  refine lv_icmp_ge (tgt := 70) hx hb dX9_many_9 (by decide) (fun _ => ?_) (fun q => absurd q (by decide))
  refine lv_iload_n hx hb dX9_many_70 rfl (lv_at hl 1 rfl) ?_
  obtain ⟨hP9, hD9⟩ := z_get hP hD [0] (wc := [(mm, .inr (12, [.int t, .ref mlv, .ref msr, .ref mrs, .ref mpa, .ref mnu, .ref mlt, .ref mpl, .ref mod, .ref mic, .ref mgo, .ref msk, .ref mfo, .int 0, .int 0, .ref mul, .ref mup, .ref mun, .int 0, .ref mfr, .ref mta, .int 0]))]) rfl rfl
  exact W.iret (v := 0) hx hb hr (fun t ht hW => ⟨⟨0, (), rfl, rfl, by rw [ht]; exact hP9, hD9⟩, hS.F ht⟩) hS.2.2 dX9_many_71

set_option maxHeartbeats 4000000 in
set_option maxRecDepth 100000 in
theorem m_countT (l : Launch) (D : va_G) (cI : ClassId) (mm mlv msr mrs mpa mnu mlt mpl mod mic mgo msk mfo mul mup mun mfr mta : Nat) (t i : Int32) (sz : Nat) (hp : zKi i) : Met l yX9_count wsX9_count ({ frames := 1, cells := 0, slots := 0, locals := 24 }) (va_Pc [.ref mm, .int i] (zPre D [(cI, .int)] [(mm, .inr (12, [.int t, .ref mlv, .ref msr, .ref mrs, .ref mpa, .ref mnu, .ref mlt, .ref mpl, .ref mod, .ref mic, .ref mgo, .ref msk, .ref mfo, .int 0, .int 0, .ref mul, .ref mup, .ref mun, .int 0, .ref mfr, .ref mta, .int 0]))] sz)) (va_Qi (fun rv (_ : Unit) => rv = 0) (fun (_ : Unit) => zB D [(mm, .inr (12, [.int 0, .ref mlv, .ref msr, .ref mrs, .ref mpa, .ref mnu, .ref mlt, .ref mpl, .ref mod, .ref mic, .ref mgo, .ref msk, .ref mfo, .int 0, .int 0, .ref mul, .ref mup, .ref mun, .int 0, .ref mfr, .ref mta, .int 0]))] (va_A [(mm, .inr (12, [.int t, .ref mlv, .ref msr, .ref mrs, .ref mpa, .ref mnu, .ref mlt, .ref mpl, .ref mod, .ref mic, .ref mgo, .ref msk, .ref mfo, .int 0, .int 0, .ref mul, .ref mup, .ref mun, .int 0, .ref mfr, .ref mta, .int 0]))] sz)) (va_A [(mm, .inr (12, [.int t, .ref mlv, .ref msr, .ref mrs, .ref mpa, .ref mnu, .ref mlt, .ref mpl, .ref mod, .ref mic, .ref mgo, .ref msk, .ref mfo, .int 0, .int 0, .ref mul, .ref mup, .ref mun, .int 0, .ref mfr, .ref mta, .int 0]))] sz)) 0 0 (va_A [(mm, .inr (12, [.int t, .ref mlv, .ref msr, .ref mrs, .ref mpa, .ref mnu, .ref mlt, .ref mpl, .ref mod, .ref mic, .ref mgo, .ref msk, .ref mfo, .int 0, .int 0, .ref mul, .ref mup, .ref mun, .int 0, .ref mfr, .ref mta, .int 0]))] sz) := by
  refine Met.ofW (cc := cX9_count) (maxL := 2) (ret := (some .int)) (by decide) rfl ?_
  intro P0 E0 s m args below meth C9 s₁ B hml hv
  obtain ⟨rfl, hsz, hP, hK, hD0⟩ := hv
  have hx := B.exec
  have hb := B.bytes
  have hr := B.returns
  have hts := atoms_spec (ws := wsX9_count) B.pre
  have hown : s.vm.findClass RX9 = some m.cls := findClass_of_methodNamed B.named
  have hlocks := B.notSynchronized
  subst hsz
  have hD := hD0.self (sz := s.heap.size)
  generalize hAe : va_A [(mm, .inr (12, [.int t, .ref mlv, .ref msr, .ref mrs, .ref mpa, .ref mnu, .ref mlt, .ref mpl, .ref mod, .ref mic, .ref mgo, .ref msk, .ref mfo, .int 0, .int 0, .ref mul, .ref mup, .ref mun, .int 0, .ref mfr, .ref mta, .int 0]))] s.heap.size = A at hD ⊢
  have hA : ∀ q : Nat, s.heap.size ≤ q → A q := fun q h => by rw [← hAe]; exact Or.inr h
  have hS : va_S A s.heap s.heap [] := va_S.rf
  have hl := lv_entry ([.ref mm, .int i]) (n := 2) (Nat.le_of_ble_eq_true rfl)
  rw [lg_entry_eq]
  generalize (lg_sl ([.ref mm, .int i]) ++ List.replicate (2 - (lg_sl ([.ref mm, .int i])).length) Slot.unset).toArray = ls at hl ⊢
  have hl : lv_has ls 2 [(0, .ref mm), (1, .int i)] := hl
  refine lv_aload_n hx hb dX9_count_0 rfl (lv_at hl 0 rfl) ?_
  refine lv_iconst (v := 0) hx hb dX9_count_1 (by decide) ?_
  refine va_put (D := D) (ci := 12) (v := .int 0) (ty := .int) (C := RX9) (T := TX9) (N := 22) hx hb hts (fun _ h => List.mem_cons_of_mem _ (List.mem_append_left _ (List.mem_append_right _ h))) tyX9 tyX9_ok nmX9 hown hK hP hD hS 0 rfl rfl 0 (by decide) (hts (.fieldLink RX9 65 "NumberingTreeModel" "thrown" "I") (List.mem_of_getElem? (i := 1) rfl)) (fun _ h9 => h9) rfl (by decide +kernel) rfl rfl (Nat.le_of_ble_eq_true rfl) dX9_count_2 (fun H locs hP hD hS => ?_)
  have hP : va_P D vwCl [(mm, .inr (12, [.int 0, .ref mlv, .ref msr, .ref mrs, .ref mpa, .ref mnu, .ref mlt, .ref mpl, .ref mod, .ref mic, .ref mgo, .ref msk, .ref mfo, .int 0, .int 0, .ref mul, .ref mup, .ref mun, .int 0, .ref mfr, .ref mta, .int 0]))] H := hP
  have hD : va_D A [(mm, .inr (12, [.int 0, .ref mlv, .ref msr, .ref mrs, .ref mpa, .ref mnu, .ref mlt, .ref mpl, .ref mod, .ref mic, .ref mgo, .ref msk, .ref mfo, .int 0, .int 0, .ref mul, .ref mup, .ref mun, .int 0, .ref mfr, .ref mta, .int 0]))] := hD
  refine lv_iload_n hx hb dX9_count_5 rfl (lv_at hl 1 rfl) ?_
  refine lv_bipush (v := 112) hx hb dX9_count_6 (by decide) ?_
  refine lv_icmp_eq (tgt := 23) hx hb dX9_count_8 (by decide) (fun c1 => ?_) (fun c1 => ?_)
  · refine lv_aload_n hx hb dX9_count_23 rfl (lv_at hl 0 rfl) ?_
    refine lv_iload_n hx hb dX9_count_24 rfl (lv_at hl 1 rfl) ?_
    refine zc_i (wc := [(mm, .inr (12, [.int 0, .ref mlv, .ref msr, .ref mrs, .ref mpa, .ref mnu, .ref mlt, .ref mpl, .ref mod, .ref mic, .ref mgo, .ref msk, .ref mfo, .int 0, .int 0, .ref mul, .ref mup, .ref mun, .int 0, .ref mfr, .ref mta, .int 0]))]) (wr := []) (va_runV (As := [.int i]) (rest := []) ⟨hx, hb, hml, hown, hts⟩ (k_many0 l D cI mm mlv msr mrs mpa mnu mlt mpl mod mic mgo msk mfo mul mup mun mfr mta 0 i H.size) (cwV 1 hts gX9_count_X9_many rfl rfl rfl (by decide +kernel) ⟨Nat.le_of_ble_eq_true rfl, Nat.le_of_ble_eq_true rfl⟩) (zPV hK hP hD [0] rfl rfl [0] rfl 0 rfl rfl rfl) rfl rfl hl.1 rfl (lv_room (Nat.le_of_ble_eq_true rfl)) dX9_count_25 ⟨Nat.le_of_ble_eq_true rfl, Nat.le_of_ble_eq_true rfl⟩) hP hD hS hA [0] [] rfl rfl rfl (by decide) (fun r _ H locs hw hP hD hS => ?_)
    have hP : va_P D vwCl [(mm, .inr (12, [.int 0, .ref mlv, .ref msr, .ref mrs, .ref mpa, .ref mnu, .ref mlt, .ref mpl, .ref mod, .ref mic, .ref mgo, .ref msk, .ref mfo, .int 0, .int 0, .ref mul, .ref mup, .ref mun, .int 0, .ref mfr, .ref mta, .int 0]))] H := hP
    have hD : va_D A [(mm, .inr (12, [.int 0, .ref mlv, .ref msr, .ref mrs, .ref mpa, .ref mnu, .ref mlt, .ref mpl, .ref mod, .ref mic, .ref mgo, .ref msk, .ref mfo, .int 0, .int 0, .ref mul, .ref mup, .ref mun, .int 0, .ref mfr, .ref mta, .int 0]))] := hD
    subst hw
    refine lv_goto (tgt := 36) hx hb dX9_count_28 (by decide) ?_
    obtain ⟨hP9, hD9⟩ := z_get hP hD [0] (wc := [(mm, .inr (12, [.int 0, .ref mlv, .ref msr, .ref mrs, .ref mpa, .ref mnu, .ref mlt, .ref mpl, .ref mod, .ref mic, .ref mgo, .ref msk, .ref mfo, .int 0, .int 0, .ref mul, .ref mup, .ref mun, .int 0, .ref mfr, .ref mta, .int 0]))]) rfl rfl
    exact W.iret (v := 0) hx hb hr (fun t ht hW => ⟨⟨0, (), rfl, rfl, by rw [ht]; exact hP9, hD9⟩, hS.F ht⟩) hS.2.2 dX9_count_36
  · refine lv_iload_n hx hb dX9_count_11 rfl (lv_at hl 1 rfl) ?_
    refine lv_bipush (v := 102) hx hb dX9_count_12 (by decide) ?_
    refine lv_icmp_eq (tgt := 23) hx hb dX9_count_14 (by decide) (fun c2 => ?_) (fun c2 => ?_)
    · refine lv_aload_n hx hb dX9_count_23 rfl (lv_at hl 0 rfl) ?_
      refine lv_iload_n hx hb dX9_count_24 rfl (lv_at hl 1 rfl) ?_
      refine zc_i (wc := [(mm, .inr (12, [.int 0, .ref mlv, .ref msr, .ref mrs, .ref mpa, .ref mnu, .ref mlt, .ref mpl, .ref mod, .ref mic, .ref mgo, .ref msk, .ref mfo, .int 0, .int 0, .ref mul, .ref mup, .ref mun, .int 0, .ref mfr, .ref mta, .int 0]))]) (wr := []) (va_runV (As := [.int i]) (rest := []) ⟨hx, hb, hml, hown, hts⟩ (k_many0 l D cI mm mlv msr mrs mpa mnu mlt mpl mod mic mgo msk mfo mul mup mun mfr mta 0 i H.size) (cwV 1 hts gX9_count_X9_many rfl rfl rfl (by decide +kernel) ⟨Nat.le_of_ble_eq_true rfl, Nat.le_of_ble_eq_true rfl⟩) (zPV hK hP hD [0] rfl rfl [0] rfl 0 rfl rfl rfl) rfl rfl hl.1 rfl (lv_room (Nat.le_of_ble_eq_true rfl)) dX9_count_25 ⟨Nat.le_of_ble_eq_true rfl, Nat.le_of_ble_eq_true rfl⟩) hP hD hS hA [0] [] rfl rfl rfl (by decide) (fun r _ H locs hw hP hD hS => ?_)
      have hP : va_P D vwCl [(mm, .inr (12, [.int 0, .ref mlv, .ref msr, .ref mrs, .ref mpa, .ref mnu, .ref mlt, .ref mpl, .ref mod, .ref mic, .ref mgo, .ref msk, .ref mfo, .int 0, .int 0, .ref mul, .ref mup, .ref mun, .int 0, .ref mfr, .ref mta, .int 0]))] H := hP
      have hD : va_D A [(mm, .inr (12, [.int 0, .ref mlv, .ref msr, .ref mrs, .ref mpa, .ref mnu, .ref mlt, .ref mpl, .ref mod, .ref mic, .ref mgo, .ref msk, .ref mfo, .int 0, .int 0, .ref mul, .ref mup, .ref mun, .int 0, .ref mfr, .ref mta, .int 0]))] := hD
      subst hw
      refine lv_goto (tgt := 36) hx hb dX9_count_28 (by decide) ?_
      obtain ⟨hP9, hD9⟩ := z_get hP hD [0] (wc := [(mm, .inr (12, [.int 0, .ref mlv, .ref msr, .ref mrs, .ref mpa, .ref mnu, .ref mlt, .ref mpl, .ref mod, .ref mic, .ref mgo, .ref msk, .ref mfo, .int 0, .int 0, .ref mul, .ref mup, .ref mun, .int 0, .ref mfr, .ref mta, .int 0]))]) rfl rfl
      exact W.iret (v := 0) hx hb hr (fun t ht hW => ⟨⟨0, (), rfl, rfl, by rw [ht]; exact hP9, hD9⟩, hS.F ht⟩) hS.2.2 dX9_count_36
    · refine lv_iload_n hx hb dX9_count_17 rfl (lv_at hl 1 rfl) ?_
      refine lv_bipush (v := 111) hx hb dX9_count_18 (by decide) ?_
      refine lv_icmp_ne (tgt := 31) hx hb dX9_count_20 (by decide) (fun q => absurd q (fun h => hp.elim c1 (fun z => z.elim c2 h))) (fun _ => ?_)
      refine lv_aload_n hx hb dX9_count_23 rfl (lv_at hl 0 rfl) ?_
      refine lv_iload_n hx hb dX9_count_24 rfl (lv_at hl 1 rfl) ?_
      refine zc_i (wc := [(mm, .inr (12, [.int 0, .ref mlv, .ref msr, .ref mrs, .ref mpa, .ref mnu, .ref mlt, .ref mpl, .ref mod, .ref mic, .ref mgo, .ref msk, .ref mfo, .int 0, .int 0, .ref mul, .ref mup, .ref mun, .int 0, .ref mfr, .ref mta, .int 0]))]) (wr := []) (va_runV (As := [.int i]) (rest := []) ⟨hx, hb, hml, hown, hts⟩ (k_many0 l D cI mm mlv msr mrs mpa mnu mlt mpl mod mic mgo msk mfo mul mup mun mfr mta 0 i H.size) (cwV 1 hts gX9_count_X9_many rfl rfl rfl (by decide +kernel) ⟨Nat.le_of_ble_eq_true rfl, Nat.le_of_ble_eq_true rfl⟩) (zPV hK hP hD [0] rfl rfl [0] rfl 0 rfl rfl rfl) rfl rfl hl.1 rfl (lv_room (Nat.le_of_ble_eq_true rfl)) dX9_count_25 ⟨Nat.le_of_ble_eq_true rfl, Nat.le_of_ble_eq_true rfl⟩) hP hD hS hA [0] [] rfl rfl rfl (by decide) (fun r _ H locs hw hP hD hS => ?_)
      have hP : va_P D vwCl [(mm, .inr (12, [.int 0, .ref mlv, .ref msr, .ref mrs, .ref mpa, .ref mnu, .ref mlt, .ref mpl, .ref mod, .ref mic, .ref mgo, .ref msk, .ref mfo, .int 0, .int 0, .ref mul, .ref mup, .ref mun, .int 0, .ref mfr, .ref mta, .int 0]))] H := hP
      have hD : va_D A [(mm, .inr (12, [.int 0, .ref mlv, .ref msr, .ref mrs, .ref mpa, .ref mnu, .ref mlt, .ref mpl, .ref mod, .ref mic, .ref mgo, .ref msk, .ref mfo, .int 0, .int 0, .ref mul, .ref mup, .ref mun, .int 0, .ref mfr, .ref mta, .int 0]))] := hD
      subst hw
      refine lv_goto (tgt := 36) hx hb dX9_count_28 (by decide) ?_
      obtain ⟨hP9, hD9⟩ := z_get hP hD [0] (wc := [(mm, .inr (12, [.int 0, .ref mlv, .ref msr, .ref mrs, .ref mpa, .ref mnu, .ref mlt, .ref mpl, .ref mod, .ref mic, .ref mgo, .ref msk, .ref mfo, .int 0, .int 0, .ref mul, .ref mup, .ref mun, .int 0, .ref mfr, .ref mta, .int 0]))]) rfl rfl
      exact W.iret (v := 0) hx hb hr (fun t ht hW => ⟨⟨0, (), rfl, rfl, by rw [ht]; exact hP9, hD9⟩, hS.F ht⟩) hS.2.2 dX9_count_36

set_option maxHeartbeats 4000000 in
set_option maxRecDepth 100000 in
theorem m_countF (l : Launch) (D : va_G) (cI : ClassId) (mm mlv msr mrs mpa mnu mlt mpl mod mic mgo msk mfo mul mup mun mfr mta : Nat) (t i : Int32) (sz : Nat) (hp : ¬ zKi i) : Met l yX9_count wsX9_count ({ frames := 1, cells := 0, slots := 0, locals := 21 }) (va_Pc [.ref mm, .int i] (zPre D [(cI, .int)] [(mm, .inr (12, [.int t, .ref mlv, .ref msr, .ref mrs, .ref mpa, .ref mnu, .ref mlt, .ref mpl, .ref mod, .ref mic, .ref mgo, .ref msk, .ref mfo, .int 0, .int 0, .ref mul, .ref mup, .ref mun, .int 0, .ref mfr, .ref mta, .int 0]))] sz)) (va_Qi (fun rv (_ : Unit) => rv = 0) (fun (_ : Unit) => zB D [(mm, .inr (12, [.int 1, .ref mlv, .ref msr, .ref mrs, .ref mpa, .ref mnu, .ref mlt, .ref mpl, .ref mod, .ref mic, .ref mgo, .ref msk, .ref mfo, .int 0, .int 0, .ref mul, .ref mup, .ref mun, .int 0, .ref mfr, .ref mta, .int 0]))] (va_A [(mm, .inr (12, [.int t, .ref mlv, .ref msr, .ref mrs, .ref mpa, .ref mnu, .ref mlt, .ref mpl, .ref mod, .ref mic, .ref mgo, .ref msk, .ref mfo, .int 0, .int 0, .ref mul, .ref mup, .ref mun, .int 0, .ref mfr, .ref mta, .int 0]))] sz)) (va_A [(mm, .inr (12, [.int t, .ref mlv, .ref msr, .ref mrs, .ref mpa, .ref mnu, .ref mlt, .ref mpl, .ref mod, .ref mic, .ref mgo, .ref msk, .ref mfo, .int 0, .int 0, .ref mul, .ref mup, .ref mun, .int 0, .ref mfr, .ref mta, .int 0]))] sz)) 0 0 (va_A [(mm, .inr (12, [.int t, .ref mlv, .ref msr, .ref mrs, .ref mpa, .ref mnu, .ref mlt, .ref mpl, .ref mod, .ref mic, .ref mgo, .ref msk, .ref mfo, .int 0, .int 0, .ref mul, .ref mup, .ref mun, .int 0, .ref mfr, .ref mta, .int 0]))] sz) := by
  refine Met.ofW (cc := cX9_count) (maxL := 2) (ret := (some .int)) (by decide) rfl ?_
  intro P0 E0 s m args below meth C9 s₁ B hml hv
  obtain ⟨rfl, hsz, hP, hK, hD0⟩ := hv
  have hx := B.exec
  have hb := B.bytes
  have hr := B.returns
  have hts := atoms_spec (ws := wsX9_count) B.pre
  have hown : s.vm.findClass RX9 = some m.cls := findClass_of_methodNamed B.named
  have hlocks := B.notSynchronized
  subst hsz
  have hD := hD0.self (sz := s.heap.size)
  generalize hAe : va_A [(mm, .inr (12, [.int t, .ref mlv, .ref msr, .ref mrs, .ref mpa, .ref mnu, .ref mlt, .ref mpl, .ref mod, .ref mic, .ref mgo, .ref msk, .ref mfo, .int 0, .int 0, .ref mul, .ref mup, .ref mun, .int 0, .ref mfr, .ref mta, .int 0]))] s.heap.size = A at hD ⊢
  have hA : ∀ q : Nat, s.heap.size ≤ q → A q := fun q h => by rw [← hAe]; exact Or.inr h
  have hS : va_S A s.heap s.heap [] := va_S.rf
  have hl := lv_entry ([.ref mm, .int i]) (n := 2) (Nat.le_of_ble_eq_true rfl)
  rw [lg_entry_eq]
  generalize (lg_sl ([.ref mm, .int i]) ++ List.replicate (2 - (lg_sl ([.ref mm, .int i])).length) Slot.unset).toArray = ls at hl ⊢
  have hl : lv_has ls 2 [(0, .ref mm), (1, .int i)] := hl
  refine lv_aload_n hx hb dX9_count_0 rfl (lv_at hl 0 rfl) ?_
  refine lv_iconst (v := 0) hx hb dX9_count_1 (by decide) ?_
  refine va_put (D := D) (ci := 12) (v := .int 0) (ty := .int) (C := RX9) (T := TX9) (N := 22) hx hb hts (fun _ h => List.mem_cons_of_mem _ (List.mem_append_left _ (List.mem_append_right _ h))) tyX9 tyX9_ok nmX9 hown hK hP hD hS 0 rfl rfl 0 (by decide) (hts (.fieldLink RX9 65 "NumberingTreeModel" "thrown" "I") (List.mem_of_getElem? (i := 1) rfl)) (fun _ h9 => h9) rfl (by decide +kernel) rfl rfl (Nat.le_of_ble_eq_true rfl) dX9_count_2 (fun H locs hP hD hS => ?_)
  have hP : va_P D vwCl [(mm, .inr (12, [.int 0, .ref mlv, .ref msr, .ref mrs, .ref mpa, .ref mnu, .ref mlt, .ref mpl, .ref mod, .ref mic, .ref mgo, .ref msk, .ref mfo, .int 0, .int 0, .ref mul, .ref mup, .ref mun, .int 0, .ref mfr, .ref mta, .int 0]))] H := hP
  have hD : va_D A [(mm, .inr (12, [.int 0, .ref mlv, .ref msr, .ref mrs, .ref mpa, .ref mnu, .ref mlt, .ref mpl, .ref mod, .ref mic, .ref mgo, .ref msk, .ref mfo, .int 0, .int 0, .ref mul, .ref mup, .ref mun, .int 0, .ref mfr, .ref mta, .int 0]))] := hD
  refine lv_iload_n hx hb dX9_count_5 rfl (lv_at hl 1 rfl) ?_
  refine lv_bipush (v := 112) hx hb dX9_count_6 (by decide) ?_
  refine lv_icmp_eq (tgt := 23) hx hb dX9_count_8 (by decide) (fun q => absurd q (fun h => hp (Or.inl h))) (fun _ => ?_)
  refine lv_iload_n hx hb dX9_count_11 rfl (lv_at hl 1 rfl) ?_
  refine lv_bipush (v := 102) hx hb dX9_count_12 (by decide) ?_
  refine lv_icmp_eq (tgt := 23) hx hb dX9_count_14 (by decide) (fun q => absurd q (fun h => hp (Or.inr (Or.inl h)))) (fun _ => ?_)
  refine lv_iload_n hx hb dX9_count_17 rfl (lv_at hl 1 rfl) ?_
  refine lv_bipush (v := 111) hx hb dX9_count_18 (by decide) ?_
  refine lv_icmp_ne (tgt := 31) hx hb dX9_count_20 (by decide) (fun _ => ?_) (fun q => absurd q (fun h => hp (Or.inr (Or.inr h))))
  refine lv_aload_n hx hb dX9_count_31 rfl (lv_at hl 0 rfl) ?_
  refine lv_iconst (v := 1) hx hb dX9_count_32 (by decide) ?_
  refine zc_i (wc := [(mm, .inr (12, [.int 0, .ref mlv, .ref msr, .ref mrs, .ref mpa, .ref mnu, .ref mlt, .ref mpl, .ref mod, .ref mic, .ref mgo, .ref msk, .ref mfo, .int 0, .int 0, .ref mul, .ref mup, .ref mun, .int 0, .ref mfr, .ref mta, .int 0]))]) (wr := []) (va_runV (As := [.int 1]) (rest := []) ⟨hx, hb, hml, hown, hts⟩ (k_fails l D cI mm mlv msr mrs mpa mnu mlt mpl mod mic mgo msk mfo mul mup mun mfr mta 0 1 0 0 0 0 H.size) (cwV 1 hts gX9_count_X9_fails rfl rfl rfl (by decide +kernel) ⟨Nat.le_of_ble_eq_true rfl, Nat.le_of_ble_eq_true rfl⟩) (zPV hK hP hD [0] rfl rfl [0] rfl 0 rfl rfl rfl) rfl rfl hl.1 rfl (lv_room (Nat.le_of_ble_eq_true rfl)) dX9_count_33 ⟨Nat.le_of_ble_eq_true rfl, Nat.le_of_ble_eq_true rfl⟩) hP hD hS hA [0] [] rfl rfl rfl (by decide) (fun r _ H locs hw hP hD hS => ?_)
  have hP : va_P D vwCl [(mm, .inr (12, [.int 1, .ref mlv, .ref msr, .ref mrs, .ref mpa, .ref mnu, .ref mlt, .ref mpl, .ref mod, .ref mic, .ref mgo, .ref msk, .ref mfo, .int 0, .int 0, .ref mul, .ref mup, .ref mun, .int 0, .ref mfr, .ref mta, .int 0]))] H := hP
  have hD : va_D A [(mm, .inr (12, [.int 1, .ref mlv, .ref msr, .ref mrs, .ref mpa, .ref mnu, .ref mlt, .ref mpl, .ref mod, .ref mic, .ref mgo, .ref msk, .ref mfo, .int 0, .int 0, .ref mul, .ref mup, .ref mun, .int 0, .ref mfr, .ref mta, .int 0]))] := hD
  subst hw
  obtain ⟨hP9, hD9⟩ := z_get hP hD [0] (wc := [(mm, .inr (12, [.int 1, .ref mlv, .ref msr, .ref mrs, .ref mpa, .ref mnu, .ref mlt, .ref mpl, .ref mod, .ref mic, .ref mgo, .ref msk, .ref mfo, .int 0, .int 0, .ref mul, .ref mup, .ref mun, .int 0, .ref mfr, .ref mta, .int 0]))]) rfl rfl
  exact W.iret (v := 0) hx hb hr (fun t ht hW => ⟨⟨0, (), rfl, rfl, by rw [ht]; exact hP9, hD9⟩, hS.F ht⟩) hS.2.2 dX9_count_36

set_option maxHeartbeats 4000000 in
set_option maxRecDepth 100000 in
theorem m_sum (l : Launch) (D : va_G) (cI : ClassId) (mm mlv msr mrs mpa mnu mlt mpl mod mic mgo msk mfo mul mup mun mfr mta : Nat) (t : Int32) (sz : Nat) : Met l yX9_sum wsX9_sum ({ frames := 0, cells := 0, slots := 0, locals := 0 }) (va_Pc [.ref mm] (zPre D [(cI, .int)] [(mm, .inr (12, [.int t, .ref mlv, .ref msr, .ref mrs, .ref mpa, .ref mnu, .ref mlt, .ref mpl, .ref mod, .ref mic, .ref mgo, .ref msk, .ref mfo, .int 0, .int 0, .ref mul, .ref mup, .ref mun, .int 0, .ref mfr, .ref mta, .int 0]))] sz)) (va_Ql (fun rv (_ : Unit) => rv = 0) (fun (_ : Unit) => zB D [(mm, .inr (12, [.int 0, .ref mlv, .ref msr, .ref mrs, .ref mpa, .ref mnu, .ref mlt, .ref mpl, .ref mod, .ref mic, .ref mgo, .ref msk, .ref mfo, .int 0, .int 0, .ref mul, .ref mup, .ref mun, .int 0, .ref mfr, .ref mta, .int 0]))] (va_A [(mm, .inr (12, [.int t, .ref mlv, .ref msr, .ref mrs, .ref mpa, .ref mnu, .ref mlt, .ref mpl, .ref mod, .ref mic, .ref mgo, .ref msk, .ref mfo, .int 0, .int 0, .ref mul, .ref mup, .ref mun, .int 0, .ref mfr, .ref mta, .int 0]))] sz)) (va_A [(mm, .inr (12, [.int t, .ref mlv, .ref msr, .ref mrs, .ref mpa, .ref mnu, .ref mlt, .ref mpl, .ref mod, .ref mic, .ref mgo, .ref msk, .ref mfo, .int 0, .int 0, .ref mul, .ref mup, .ref mun, .int 0, .ref mfr, .ref mta, .int 0]))] sz)) 0 0 (va_A [(mm, .inr (12, [.int t, .ref mlv, .ref msr, .ref mrs, .ref mpa, .ref mnu, .ref mlt, .ref mpl, .ref mod, .ref mic, .ref mgo, .ref msk, .ref mfo, .int 0, .int 0, .ref mul, .ref mup, .ref mun, .int 0, .ref mfr, .ref mta, .int 0]))] sz) := by
  refine Met.ofW (cc := cX9_sum) (maxL := 4) (ret := (some .long)) (by decide) rfl ?_
  intro P0 E0 s m args below meth C9 s₁ B hml hv
  obtain ⟨rfl, hsz, hP, hK, hD0⟩ := hv
  have hx := B.exec
  have hb := B.bytes
  have hr := B.returns
  have hts := atoms_spec (ws := wsX9_sum) B.pre
  have hown : s.vm.findClass RX9 = some m.cls := findClass_of_methodNamed B.named
  have hlocks := B.notSynchronized
  subst hsz
  have hD := hD0.self (sz := s.heap.size)
  generalize hAe : va_A [(mm, .inr (12, [.int t, .ref mlv, .ref msr, .ref mrs, .ref mpa, .ref mnu, .ref mlt, .ref mpl, .ref mod, .ref mic, .ref mgo, .ref msk, .ref mfo, .int 0, .int 0, .ref mul, .ref mup, .ref mun, .int 0, .ref mfr, .ref mta, .int 0]))] s.heap.size = A at hD ⊢
  have hA : ∀ q : Nat, s.heap.size ≤ q → A q := fun q h => by rw [← hAe]; exact Or.inr h
  have hS : va_S A s.heap s.heap [] := va_S.rf
  have hl := lv_entry ([.ref mm]) (n := 4) (Nat.le_of_ble_eq_true rfl)
  rw [lg_entry_eq]
  generalize (lg_sl ([.ref mm]) ++ List.replicate (4 - (lg_sl ([.ref mm])).length) Slot.unset).toArray = ls at hl ⊢
  have hl : lv_has ls 4 [(0, .ref mm)] := hl
  refine lv_aload_n hx hb dX9_sum_0 rfl (lv_at hl 0 rfl) ?_
  refine lv_iconst (v := 0) hx hb dX9_sum_1 (by decide) ?_
  refine va_put (D := D) (ci := 12) (v := .int 0) (ty := .int) (C := RX9) (T := TX9) (N := 22) hx hb hts (fun _ h => List.mem_cons_of_mem _ (List.mem_append_left _ (List.mem_append_right _ h))) tyX9 tyX9_ok nmX9 hown hK hP hD hS 0 rfl rfl 0 (by decide) (hts (.fieldLink RX9 65 "NumberingTreeModel" "thrown" "I") (List.mem_of_getElem? (i := 1) rfl)) (fun _ h9 => h9) rfl (by decide +kernel) rfl rfl (Nat.le_of_ble_eq_true rfl) dX9_sum_2 (fun H locs hP hD hS => ?_)
  have hP : va_P D vwCl [(mm, .inr (12, [.int 0, .ref mlv, .ref msr, .ref mrs, .ref mpa, .ref mnu, .ref mlt, .ref mpl, .ref mod, .ref mic, .ref mgo, .ref msk, .ref mfo, .int 0, .int 0, .ref mul, .ref mup, .ref mun, .int 0, .ref mfr, .ref mta, .int 0]))] H := hP
  have hD : va_D A [(mm, .inr (12, [.int 0, .ref mlv, .ref msr, .ref mrs, .ref mpa, .ref mnu, .ref mlt, .ref mpl, .ref mod, .ref mic, .ref mgo, .ref msk, .ref mfo, .int 0, .int 0, .ref mul, .ref mup, .ref mun, .int 0, .ref mfr, .ref mta, .int 0]))] := hD
  refine lv_lconst (v := 0) hx hb dX9_sum_5 (by decide) ?_
  refine lv_lstore_n (lv' := [(1, .long 0), (0, .ref mm)]) hx hb dX9_sum_6 rfl hl (by decide) rfl (fun ls hl => ?_)
  refine lv_iconst (v := 0) hx hb dX9_sum_7 (by decide) ?_
  refine lv_istore_n (lv' := [(3, .int 0), (1, .long 0), (0, .ref mm)]) hx hb dX9_sum_8 rfl hl (by decide) rfl (fun ls hl => ?_)
  refine lv_iload_n hx hb dX9_sum_9 rfl (lv_at hl 0 rfl) ?_
  refine lv_aload_n hx hb dX9_sum_10 rfl (lv_at hl 2 rfl) ?_
  refine va_get (D := D) (ci := 12) (v := .int 0) (C := RX9) (T := TX9) (N := 22) hx hb hts (fun _ h => List.mem_cons_of_mem _ (List.mem_append_left _ (List.mem_append_right _ h))) hown hK hP 0 rfl rfl 14 (by decide) (hts (.fieldLink RX9 91 "NumberingTreeModel" "size" "I") (List.mem_of_getElem? (i := 2) rfl)) (fun _ h9 => h9) rfl dX9_sum_11 ?_
  refine lv_icmp_ge (tgt := 56) hx hb dX9_sum_14 (by decide) (fun _ => ?_) (fun q => absurd q (by decide))
  refine lv_lload_n hx hb dX9_sum_56 rfl (lv_at hl 1 rfl) ?_
  obtain ⟨hP9, hD9⟩ := z_get hP hD [0] (wc := [(mm, .inr (12, [.int 0, .ref mlv, .ref msr, .ref mrs, .ref mpa, .ref mnu, .ref mlt, .ref mpl, .ref mod, .ref mic, .ref mgo, .ref msk, .ref mfo, .int 0, .int 0, .ref mul, .ref mup, .ref mun, .int 0, .ref mfr, .ref mta, .int 0]))]) rfl rfl
  exact W.lret (v := 0) hx hb hr (fun t ht hW => ⟨⟨0, (), rfl, rfl, by rw [ht]; exact hP9, hD9⟩, hS.F ht⟩) hS.2.2 dX9_sum_57

set_option maxHeartbeats 4000000 in
set_option maxRecDepth 100000 in
theorem m_findT (l : Launch) (D : va_G) (cI : ClassId) (mm mlv msr mrs mpa mnu mlt mpl mod mic mgo msk mfo mul mup mun mfr mta : Nat) (t p q : Int32) (sz : Nat) (hp : zLv p) : Met l yX9_find wsX9_find ({ frames := 2, cells := 0, slots := 0, locals := 42 }) (va_Pc [.ref mm, .int p, .int q] (zPre D [(cI, .int)] [(mm, .inr (12, [.int t, .ref mlv, .ref msr, .ref mrs, .ref mpa, .ref mnu, .ref mlt, .ref mpl, .ref mod, .ref mic, .ref mgo, .ref msk, .ref mfo, .int 0, .int 0, .ref mul, .ref mup, .ref mun, .int 0, .ref mfr, .ref mta, .int 0]))] sz)) (va_Qi (fun rv (_ : Unit) => rv = 0) (fun (_ : Unit) => zB D [(mm, .inr (12, [.int 2, .ref mlv, .ref msr, .ref mrs, .ref mpa, .ref mnu, .ref mlt, .ref mpl, .ref mod, .ref mic, .ref mgo, .ref msk, .ref mfo, .int 0, .int 0, .ref mul, .ref mup, .ref mun, .int 0, .ref mfr, .ref mta, .int 0]))] (va_A [(mm, .inr (12, [.int t, .ref mlv, .ref msr, .ref mrs, .ref mpa, .ref mnu, .ref mlt, .ref mpl, .ref mod, .ref mic, .ref mgo, .ref msk, .ref mfo, .int 0, .int 0, .ref mul, .ref mup, .ref mun, .int 0, .ref mfr, .ref mta, .int 0]))] sz)) (va_A [(mm, .inr (12, [.int t, .ref mlv, .ref msr, .ref mrs, .ref mpa, .ref mnu, .ref mlt, .ref mpl, .ref mod, .ref mic, .ref mgo, .ref msk, .ref mfo, .int 0, .int 0, .ref mul, .ref mup, .ref mun, .int 0, .ref mfr, .ref mta, .int 0]))] sz)) 0 0 (va_A [(mm, .inr (12, [.int t, .ref mlv, .ref msr, .ref mrs, .ref mpa, .ref mnu, .ref mlt, .ref mpl, .ref mod, .ref mic, .ref mgo, .ref msk, .ref mfo, .int 0, .int 0, .ref mul, .ref mup, .ref mun, .int 0, .ref mfr, .ref mta, .int 0]))] sz) := by
  refine Met.ofW (cc := cX9_find) (maxL := 5) (ret := (some .int)) (by decide) rfl ?_
  intro P0 E0 s m args below meth C9 s₁ B hml hv
  obtain ⟨rfl, hsz, hP, hK, hD0⟩ := hv
  have hx := B.exec
  have hb := B.bytes
  have hr := B.returns
  have hts := atoms_spec (ws := wsX9_find) B.pre
  have hown : s.vm.findClass RX9 = some m.cls := findClass_of_methodNamed B.named
  have hlocks := B.notSynchronized
  subst hsz
  have hD := hD0.self (sz := s.heap.size)
  generalize hAe : va_A [(mm, .inr (12, [.int t, .ref mlv, .ref msr, .ref mrs, .ref mpa, .ref mnu, .ref mlt, .ref mpl, .ref mod, .ref mic, .ref mgo, .ref msk, .ref mfo, .int 0, .int 0, .ref mul, .ref mup, .ref mun, .int 0, .ref mfr, .ref mta, .int 0]))] s.heap.size = A at hD ⊢
  have hA : ∀ q : Nat, s.heap.size ≤ q → A q := fun q h => by rw [← hAe]; exact Or.inr h
  have hS : va_S A s.heap s.heap [] := va_S.rf
  have hl := lv_entry ([.ref mm, .int p, .int q]) (n := 5) (Nat.le_of_ble_eq_true rfl)
  rw [lg_entry_eq]
  generalize (lg_sl ([.ref mm, .int p, .int q]) ++ List.replicate (5 - (lg_sl ([.ref mm, .int p, .int q])).length) Slot.unset).toArray = ls at hl ⊢
  have hl : lv_has ls 5 [(0, .ref mm), (1, .int p), (2, .int q)] := hl
  refine lv_aload_n hx hb dX9_find_0 rfl (lv_at hl 0 rfl) ?_
  refine lv_iconst (v := 0) hx hb dX9_find_1 (by decide) ?_
  refine va_put (D := D) (ci := 12) (v := .int 0) (ty := .int) (C := RX9) (T := TX9) (N := 22) hx hb hts (fun _ h => List.mem_cons_of_mem _ (List.mem_append_left _ (List.mem_append_right _ h))) tyX9 tyX9_ok nmX9 hown hK hP hD hS 0 rfl rfl 0 (by decide) (hts (.fieldLink RX9 65 "NumberingTreeModel" "thrown" "I") (List.mem_of_getElem? (i := 1) rfl)) (fun _ h9 => h9) rfl (by decide +kernel) rfl rfl (Nat.le_of_ble_eq_true rfl) dX9_find_2 (fun H locs hP hD hS => ?_)
  have hP : va_P D vwCl [(mm, .inr (12, [.int 0, .ref mlv, .ref msr, .ref mrs, .ref mpa, .ref mnu, .ref mlt, .ref mpl, .ref mod, .ref mic, .ref mgo, .ref msk, .ref mfo, .int 0, .int 0, .ref mul, .ref mup, .ref mun, .int 0, .ref mfr, .ref mta, .int 0]))] H := hP
  have hD : va_D A [(mm, .inr (12, [.int 0, .ref mlv, .ref msr, .ref mrs, .ref mpa, .ref mnu, .ref mlt, .ref mpl, .ref mod, .ref mic, .ref mgo, .ref msk, .ref mfo, .int 0, .int 0, .ref mul, .ref mup, .ref mun, .int 0, .ref mfr, .ref mta, .int 0]))] := hD
  refine lv_iload_n hx hb dX9_find_5 rfl (lv_at hl 1 rfl) ?_
  refine zc_i (wc := []) (wr := [(mm, .inr (12, [.int 0, .ref mlv, .ref msr, .ref mrs, .ref mpa, .ref mnu, .ref mlt, .ref mpl, .ref mod, .ref mic, .ref mgo, .ref msk, .ref mfo, .int 0, .int 0, .ref mul, .ref mup, .ref mun, .int 0, .ref mfr, .ref mta, .int 0]))]) (va_runS (As := [.int p]) (rest := []) ⟨hx, hb, hml, hown, hts⟩ (k_isLevelT l D cI p H.size hp) (va_cwS 1 hts gX9_find_X9_isLevel rfl rfl rfl (by decide +kernel) ⟨Nat.le_of_ble_eq_true rfl, Nat.le_of_ble_eq_true rfl⟩) (zPS hK hP hD [] rfl rfl [0] rfl) rfl rfl hl.1 rfl (lv_room (Nat.le_of_ble_eq_true rfl)) dX9_find_6 ⟨Nat.le_of_ble_eq_true rfl, Nat.le_of_ble_eq_true rfl⟩) hP hD hS hA [] [0] rfl rfl rfl (by decide) (fun r _ H locs hw hP hD hS => ?_)
  have hP : va_P D vwCl [(mm, .inr (12, [.int 0, .ref mlv, .ref msr, .ref mrs, .ref mpa, .ref mnu, .ref mlt, .ref mpl, .ref mod, .ref mic, .ref mgo, .ref msk, .ref mfo, .int 0, .int 0, .ref mul, .ref mup, .ref mun, .int 0, .ref mfr, .ref mta, .int 0]))] H := hP
  have hD : va_D A [(mm, .inr (12, [.int 0, .ref mlv, .ref msr, .ref mrs, .ref mpa, .ref mnu, .ref mlt, .ref mpl, .ref mod, .ref mic, .ref mgo, .ref msk, .ref mfo, .int 0, .int 0, .ref mul, .ref mup, .ref mun, .int 0, .ref mfr, .ref mta, .int 0]))] := hD
  subst hw
  refine lv_if_ne (tgt := 18) hx hb dX9_find_9 (by decide) (fun _ => ?_) (fun q => absurd q (by decide))
  refine lv_iconst (v := 0) hx hb dX9_find_18 (by decide) ?_
  refine lv_istore_n (lv' := [(3, .int 0), (0, .ref mm), (1, .int p), (2, .int q)]) hx hb dX9_find_19 rfl hl (by decide) rfl (fun ls hl => ?_)
  refine lv_iload_n hx hb dX9_find_20 rfl (lv_at hl 0 rfl) ?_
  refine lv_aload_n hx hb dX9_find_21 rfl (lv_at hl 1 rfl) ?_
  refine va_get (D := D) (ci := 12) (v := .int 0) (C := RX9) (T := TX9) (N := 22) hx hb hts (fun _ h => List.mem_cons_of_mem _ (List.mem_append_left _ (List.mem_append_right _ h))) hown hK hP 0 rfl rfl 14 (by decide) (hts (.fieldLink RX9 91 "NumberingTreeModel" "size" "I") (List.mem_of_getElem? (i := 2) rfl)) (fun _ h9 => h9) rfl dX9_find_22 ?_
  refine lv_icmp_ge (tgt := 77) hx hb dX9_find_25 (by decide) (fun _ => ?_) (fun q => absurd q (by decide))
  refine lv_aload_n hx hb dX9_find_77 rfl (lv_at hl 1 rfl) ?_
  refine lv_iconst (v := 2) hx hb dX9_find_78 (by decide) ?_
  refine zc_i (wc := [(mm, .inr (12, [.int 0, .ref mlv, .ref msr, .ref mrs, .ref mpa, .ref mnu, .ref mlt, .ref mpl, .ref mod, .ref mic, .ref mgo, .ref msk, .ref mfo, .int 0, .int 0, .ref mul, .ref mup, .ref mun, .int 0, .ref mfr, .ref mta, .int 0]))]) (wr := []) (va_runV (As := [.int 2]) (rest := []) ⟨hx, hb, hml, hown, hts⟩ (k_fails l D cI mm mlv msr mrs mpa mnu mlt mpl mod mic mgo msk mfo mul mup mun mfr mta 0 2 0 0 0 0 H.size) (cwV 1 hts gX9_find_X9_fails rfl rfl rfl (by decide +kernel) ⟨Nat.le_of_ble_eq_true rfl, Nat.le_of_ble_eq_true rfl⟩) (zPV hK hP hD [0] rfl rfl [0] rfl 0 rfl rfl rfl) rfl rfl hl.1 rfl (lv_room (Nat.le_of_ble_eq_true rfl)) dX9_find_79 ⟨Nat.le_of_ble_eq_true rfl, Nat.le_of_ble_eq_true rfl⟩) hP hD hS hA [0] [] rfl rfl rfl (by decide) (fun r _ H locs hw hP hD hS => ?_)
  have hP : va_P D vwCl [(mm, .inr (12, [.int 2, .ref mlv, .ref msr, .ref mrs, .ref mpa, .ref mnu, .ref mlt, .ref mpl, .ref mod, .ref mic, .ref mgo, .ref msk, .ref mfo, .int 0, .int 0, .ref mul, .ref mup, .ref mun, .int 0, .ref mfr, .ref mta, .int 0]))] H := hP
  have hD : va_D A [(mm, .inr (12, [.int 2, .ref mlv, .ref msr, .ref mrs, .ref mpa, .ref mnu, .ref mlt, .ref mpl, .ref mod, .ref mic, .ref mgo, .ref msk, .ref mfo, .int 0, .int 0, .ref mul, .ref mup, .ref mun, .int 0, .ref mfr, .ref mta, .int 0]))] := hD
  subst hw
  obtain ⟨hP9, hD9⟩ := z_get hP hD [0] (wc := [(mm, .inr (12, [.int 2, .ref mlv, .ref msr, .ref mrs, .ref mpa, .ref mnu, .ref mlt, .ref mpl, .ref mod, .ref mic, .ref mgo, .ref msk, .ref mfo, .int 0, .int 0, .ref mul, .ref mup, .ref mun, .int 0, .ref mfr, .ref mta, .int 0]))]) rfl rfl
  exact W.iret (v := 0) hx hb hr (fun t ht hW => ⟨⟨0, (), rfl, rfl, by rw [ht]; exact hP9, hD9⟩, hS.F ht⟩) hS.2.2 dX9_find_82

set_option maxHeartbeats 4000000 in
set_option maxRecDepth 100000 in
theorem m_findF (l : Launch) (D : va_G) (cI : ClassId) (mm mlv msr mrs mpa mnu mlt mpl mod mic mgo msk mfo mul mup mun mfr mta : Nat) (t p q : Int32) (sz : Nat) (hp : ¬ zLv p) : Met l yX9_find wsX9_find ({ frames := 2, cells := 0, slots := 0, locals := 42 }) (va_Pc [.ref mm, .int p, .int q] (zPre D [(cI, .int)] [(mm, .inr (12, [.int t, .ref mlv, .ref msr, .ref mrs, .ref mpa, .ref mnu, .ref mlt, .ref mpl, .ref mod, .ref mic, .ref mgo, .ref msk, .ref mfo, .int 0, .int 0, .ref mul, .ref mup, .ref mun, .int 0, .ref mfr, .ref mta, .int 0]))] sz)) (va_Qi (fun rv (_ : Unit) => rv = 0) (fun (_ : Unit) => zB D [(mm, .inr (12, [.int 1, .ref mlv, .ref msr, .ref mrs, .ref mpa, .ref mnu, .ref mlt, .ref mpl, .ref mod, .ref mic, .ref mgo, .ref msk, .ref mfo, .int 0, .int 0, .ref mul, .ref mup, .ref mun, .int 0, .ref mfr, .ref mta, .int 0]))] (va_A [(mm, .inr (12, [.int t, .ref mlv, .ref msr, .ref mrs, .ref mpa, .ref mnu, .ref mlt, .ref mpl, .ref mod, .ref mic, .ref mgo, .ref msk, .ref mfo, .int 0, .int 0, .ref mul, .ref mup, .ref mun, .int 0, .ref mfr, .ref mta, .int 0]))] sz)) (va_A [(mm, .inr (12, [.int t, .ref mlv, .ref msr, .ref mrs, .ref mpa, .ref mnu, .ref mlt, .ref mpl, .ref mod, .ref mic, .ref mgo, .ref msk, .ref mfo, .int 0, .int 0, .ref mul, .ref mup, .ref mun, .int 0, .ref mfr, .ref mta, .int 0]))] sz)) 0 0 (va_A [(mm, .inr (12, [.int t, .ref mlv, .ref msr, .ref mrs, .ref mpa, .ref mnu, .ref mlt, .ref mpl, .ref mod, .ref mic, .ref mgo, .ref msk, .ref mfo, .int 0, .int 0, .ref mul, .ref mup, .ref mun, .int 0, .ref mfr, .ref mta, .int 0]))] sz) := by
  refine Met.ofW (cc := cX9_find) (maxL := 5) (ret := (some .int)) (by decide) rfl ?_
  intro P0 E0 s m args below meth C9 s₁ B hml hv
  obtain ⟨rfl, hsz, hP, hK, hD0⟩ := hv
  have hx := B.exec
  have hb := B.bytes
  have hr := B.returns
  have hts := atoms_spec (ws := wsX9_find) B.pre
  have hown : s.vm.findClass RX9 = some m.cls := findClass_of_methodNamed B.named
  have hlocks := B.notSynchronized
  subst hsz
  have hD := hD0.self (sz := s.heap.size)
  generalize hAe : va_A [(mm, .inr (12, [.int t, .ref mlv, .ref msr, .ref mrs, .ref mpa, .ref mnu, .ref mlt, .ref mpl, .ref mod, .ref mic, .ref mgo, .ref msk, .ref mfo, .int 0, .int 0, .ref mul, .ref mup, .ref mun, .int 0, .ref mfr, .ref mta, .int 0]))] s.heap.size = A at hD ⊢
  have hA : ∀ q : Nat, s.heap.size ≤ q → A q := fun q h => by rw [← hAe]; exact Or.inr h
  have hS : va_S A s.heap s.heap [] := va_S.rf
  have hl := lv_entry ([.ref mm, .int p, .int q]) (n := 5) (Nat.le_of_ble_eq_true rfl)
  rw [lg_entry_eq]
  generalize (lg_sl ([.ref mm, .int p, .int q]) ++ List.replicate (5 - (lg_sl ([.ref mm, .int p, .int q])).length) Slot.unset).toArray = ls at hl ⊢
  have hl : lv_has ls 5 [(0, .ref mm), (1, .int p), (2, .int q)] := hl
  refine lv_aload_n hx hb dX9_find_0 rfl (lv_at hl 0 rfl) ?_
  refine lv_iconst (v := 0) hx hb dX9_find_1 (by decide) ?_
  refine va_put (D := D) (ci := 12) (v := .int 0) (ty := .int) (C := RX9) (T := TX9) (N := 22) hx hb hts (fun _ h => List.mem_cons_of_mem _ (List.mem_append_left _ (List.mem_append_right _ h))) tyX9 tyX9_ok nmX9 hown hK hP hD hS 0 rfl rfl 0 (by decide) (hts (.fieldLink RX9 65 "NumberingTreeModel" "thrown" "I") (List.mem_of_getElem? (i := 1) rfl)) (fun _ h9 => h9) rfl (by decide +kernel) rfl rfl (Nat.le_of_ble_eq_true rfl) dX9_find_2 (fun H locs hP hD hS => ?_)
  have hP : va_P D vwCl [(mm, .inr (12, [.int 0, .ref mlv, .ref msr, .ref mrs, .ref mpa, .ref mnu, .ref mlt, .ref mpl, .ref mod, .ref mic, .ref mgo, .ref msk, .ref mfo, .int 0, .int 0, .ref mul, .ref mup, .ref mun, .int 0, .ref mfr, .ref mta, .int 0]))] H := hP
  have hD : va_D A [(mm, .inr (12, [.int 0, .ref mlv, .ref msr, .ref mrs, .ref mpa, .ref mnu, .ref mlt, .ref mpl, .ref mod, .ref mic, .ref mgo, .ref msk, .ref mfo, .int 0, .int 0, .ref mul, .ref mup, .ref mun, .int 0, .ref mfr, .ref mta, .int 0]))] := hD
  refine lv_iload_n hx hb dX9_find_5 rfl (lv_at hl 1 rfl) ?_
  refine zc_i (wc := []) (wr := [(mm, .inr (12, [.int 0, .ref mlv, .ref msr, .ref mrs, .ref mpa, .ref mnu, .ref mlt, .ref mpl, .ref mod, .ref mic, .ref mgo, .ref msk, .ref mfo, .int 0, .int 0, .ref mul, .ref mup, .ref mun, .int 0, .ref mfr, .ref mta, .int 0]))]) (va_runS (As := [.int p]) (rest := []) ⟨hx, hb, hml, hown, hts⟩ (k_isLevelF l D cI p H.size hp) (va_cwS 1 hts gX9_find_X9_isLevel rfl rfl rfl (by decide +kernel) ⟨Nat.le_of_ble_eq_true rfl, Nat.le_of_ble_eq_true rfl⟩) (zPS hK hP hD [] rfl rfl [0] rfl) rfl rfl hl.1 rfl (lv_room (Nat.le_of_ble_eq_true rfl)) dX9_find_6 ⟨Nat.le_of_ble_eq_true rfl, Nat.le_of_ble_eq_true rfl⟩) hP hD hS hA [] [0] rfl rfl rfl (by decide) (fun r _ H locs hw hP hD hS => ?_)
  have hP : va_P D vwCl [(mm, .inr (12, [.int 0, .ref mlv, .ref msr, .ref mrs, .ref mpa, .ref mnu, .ref mlt, .ref mpl, .ref mod, .ref mic, .ref mgo, .ref msk, .ref mfo, .int 0, .int 0, .ref mul, .ref mup, .ref mun, .int 0, .ref mfr, .ref mta, .int 0]))] H := hP
  have hD : va_D A [(mm, .inr (12, [.int 0, .ref mlv, .ref msr, .ref mrs, .ref mpa, .ref mnu, .ref mlt, .ref mpl, .ref mod, .ref mic, .ref mgo, .ref msk, .ref mfo, .int 0, .int 0, .ref mul, .ref mup, .ref mun, .int 0, .ref mfr, .ref mta, .int 0]))] := hD
  subst hw
  refine lv_if_ne (tgt := 18) hx hb dX9_find_9 (by decide) (fun q => absurd q (by decide)) (fun _ => ?_)
  refine lv_aload_n hx hb dX9_find_12 rfl (lv_at hl 0 rfl) ?_
  refine lv_iconst (v := 1) hx hb dX9_find_13 (by decide) ?_
  refine zc_i (wc := [(mm, .inr (12, [.int 0, .ref mlv, .ref msr, .ref mrs, .ref mpa, .ref mnu, .ref mlt, .ref mpl, .ref mod, .ref mic, .ref mgo, .ref msk, .ref mfo, .int 0, .int 0, .ref mul, .ref mup, .ref mun, .int 0, .ref mfr, .ref mta, .int 0]))]) (wr := []) (va_runV (As := [.int 1]) (rest := []) ⟨hx, hb, hml, hown, hts⟩ (k_fails l D cI mm mlv msr mrs mpa mnu mlt mpl mod mic mgo msk mfo mul mup mun mfr mta 0 1 0 0 0 0 H.size) (cwV 1 hts gX9_find_X9_fails rfl rfl rfl (by decide +kernel) ⟨Nat.le_of_ble_eq_true rfl, Nat.le_of_ble_eq_true rfl⟩) (zPV hK hP hD [0] rfl rfl [0] rfl 0 rfl rfl rfl) rfl rfl hl.1 rfl (lv_room (Nat.le_of_ble_eq_true rfl)) dX9_find_14 ⟨Nat.le_of_ble_eq_true rfl, Nat.le_of_ble_eq_true rfl⟩) hP hD hS hA [0] [] rfl rfl rfl (by decide) (fun r _ H locs hw hP hD hS => ?_)
  have hP : va_P D vwCl [(mm, .inr (12, [.int 1, .ref mlv, .ref msr, .ref mrs, .ref mpa, .ref mnu, .ref mlt, .ref mpl, .ref mod, .ref mic, .ref mgo, .ref msk, .ref mfo, .int 0, .int 0, .ref mul, .ref mup, .ref mun, .int 0, .ref mfr, .ref mta, .int 0]))] H := hP
  have hD : va_D A [(mm, .inr (12, [.int 1, .ref mlv, .ref msr, .ref mrs, .ref mpa, .ref mnu, .ref mlt, .ref mpl, .ref mod, .ref mic, .ref mgo, .ref msk, .ref mfo, .int 0, .int 0, .ref mul, .ref mup, .ref mun, .int 0, .ref mfr, .ref mta, .int 0]))] := hD
  subst hw
  obtain ⟨hP9, hD9⟩ := z_get hP hD [0] (wc := [(mm, .inr (12, [.int 1, .ref mlv, .ref msr, .ref mrs, .ref mpa, .ref mnu, .ref mlt, .ref mpl, .ref mod, .ref mic, .ref mgo, .ref msk, .ref mfo, .int 0, .int 0, .ref mul, .ref mup, .ref mun, .int 0, .ref mfr, .ref mta, .int 0]))]) rfl rfl
  exact W.iret (v := 0) hx hb hr (fun t ht hW => ⟨⟨0, (), rfl, rfl, by rw [ht]; exact hP9, hD9⟩, hS.F ht⟩) hS.2.2 dX9_find_17

set_option maxHeartbeats 4000000 in
set_option maxRecDepth 100000 in
theorem k_share (l : Launch) (D : va_G) (cI : ClassId) (mm mlv msr mrs mpa mnu mlt mpl mod mic mgo msk mfo mul mup mun mfr mta : Nat) (t : Int32) (sz : Nat) : Met l yX9_share wsX9_share ({ frames := 1, cells := 0, slots := 0, locals := 24 }) (va_Pc [.ref mm] (zPre D [(cI, .int)] [(mm, .inr (12, [.int t, .ref mlv, .ref msr, .ref mrs, .ref mpa, .ref mnu, .ref mlt, .ref mpl, .ref mod, .ref mic, .ref mgo, .ref msk, .ref mfo, .int 0, .int 0, .ref mul, .ref mup, .ref mun, .int 0, .ref mfr, .ref mta, .int 0]))] sz)) (va_Qf (fun rv (_ : Unit) => rv = FP.i2f 0) (fun (_ : Unit) => zB D [(mm, .inr (12, [.int 1, .ref mlv, .ref msr, .ref mrs, .ref mpa, .ref mnu, .ref mlt, .ref mpl, .ref mod, .ref mic, .ref mgo, .ref msk, .ref mfo, .int 0, .int 0, .ref mul, .ref mup, .ref mun, .int 0, .ref mfr, .ref mta, .int 0]))] (va_A [(mm, .inr (12, [.int t, .ref mlv, .ref msr, .ref mrs, .ref mpa, .ref mnu, .ref mlt, .ref mpl, .ref mod, .ref mic, .ref mgo, .ref msk, .ref mfo, .int 0, .int 0, .ref mul, .ref mup, .ref mun, .int 0, .ref mfr, .ref mta, .int 0]))] sz)) (va_A [(mm, .inr (12, [.int t, .ref mlv, .ref msr, .ref mrs, .ref mpa, .ref mnu, .ref mlt, .ref mpl, .ref mod, .ref mic, .ref mgo, .ref msk, .ref mfo, .int 0, .int 0, .ref mul, .ref mup, .ref mun, .int 0, .ref mfr, .ref mta, .int 0]))] sz)) 0 0 (va_A [(mm, .inr (12, [.int t, .ref mlv, .ref msr, .ref mrs, .ref mpa, .ref mnu, .ref mlt, .ref mpl, .ref mod, .ref mic, .ref mgo, .ref msk, .ref mfo, .int 0, .int 0, .ref mul, .ref mup, .ref mun, .int 0, .ref mfr, .ref mta, .int 0]))] sz) := by
  refine Met.ofW (cc := cX9_share) (maxL := 2) (ret := (some .float)) (by decide) rfl ?_
  intro P0 E0 s m args below meth C9 s₁ B hml hv
  obtain ⟨rfl, hsz, hP, hK, hD0⟩ := hv
  have hx := B.exec
  have hb := B.bytes
  have hr := B.returns
  have hts := atoms_spec (ws := wsX9_share) B.pre
  have hown : s.vm.findClass RX9 = some m.cls := findClass_of_methodNamed B.named
  have hlocks := B.notSynchronized
  subst hsz
  have hD := hD0.self (sz := s.heap.size)
  generalize hAe : va_A [(mm, .inr (12, [.int t, .ref mlv, .ref msr, .ref mrs, .ref mpa, .ref mnu, .ref mlt, .ref mpl, .ref mod, .ref mic, .ref mgo, .ref msk, .ref mfo, .int 0, .int 0, .ref mul, .ref mup, .ref mun, .int 0, .ref mfr, .ref mta, .int 0]))] s.heap.size = A at hD ⊢
  have hA : ∀ q : Nat, s.heap.size ≤ q → A q := fun q h => by rw [← hAe]; exact Or.inr h
  have hS : va_S A s.heap s.heap [] := va_S.rf
  have hl := lv_entry ([.ref mm]) (n := 2) (Nat.le_of_ble_eq_true rfl)
  rw [lg_entry_eq]
  generalize (lg_sl ([.ref mm]) ++ List.replicate (2 - (lg_sl ([.ref mm])).length) Slot.unset).toArray = ls at hl ⊢
  have hl : lv_has ls 2 [(0, .ref mm)] := hl
  refine lv_aload_n hx hb dX9_share_0 rfl (lv_at hl 0 rfl) ?_
  refine lv_bipush (v := 102) hx hb dX9_share_1 (by decide) ?_
  refine zc_i (wc := [(mm, .inr (12, [.int t, .ref mlv, .ref msr, .ref mrs, .ref mpa, .ref mnu, .ref mlt, .ref mpl, .ref mod, .ref mic, .ref mgo, .ref msk, .ref mfo, .int 0, .int 0, .ref mul, .ref mup, .ref mun, .int 0, .ref mfr, .ref mta, .int 0]))]) (wr := []) (va_runV (As := [.int 102]) (rest := []) ⟨hx, hb, hml, hown, hts⟩ (k_many0 l D cI mm mlv msr mrs mpa mnu mlt mpl mod mic mgo msk mfo mul mup mun mfr mta t 102 s.heap.size) (cwV 1 hts gX9_share_X9_many rfl rfl rfl (by decide +kernel) ⟨Nat.le_of_ble_eq_true rfl, Nat.le_of_ble_eq_true rfl⟩) (zPV hK hP hD [0] rfl rfl [0] rfl 0 rfl rfl rfl) rfl rfl hl.1 rfl (lv_room (Nat.le_of_ble_eq_true rfl)) dX9_share_3 ⟨Nat.le_of_ble_eq_true rfl, Nat.le_of_ble_eq_true rfl⟩) hP hD hS hA [0] [] rfl rfl rfl (by decide) (fun r _ H locs hw hP hD hS => ?_)
  have hP : va_P D vwCl [(mm, .inr (12, [.int t, .ref mlv, .ref msr, .ref mrs, .ref mpa, .ref mnu, .ref mlt, .ref mpl, .ref mod, .ref mic, .ref mgo, .ref msk, .ref mfo, .int 0, .int 0, .ref mul, .ref mup, .ref mun, .int 0, .ref mfr, .ref mta, .int 0]))] H := hP
  have hD : va_D A [(mm, .inr (12, [.int t, .ref mlv, .ref msr, .ref mrs, .ref mpa, .ref mnu, .ref mlt, .ref mpl, .ref mod, .ref mic, .ref mgo, .ref msk, .ref mfo, .int 0, .int 0, .ref mul, .ref mup, .ref mun, .int 0, .ref mfr, .ref mta, .int 0]))] := hD
  subst hw
  refine lv_aload_n hx hb dX9_share_6 rfl (lv_at hl 0 rfl) ?_
  refine lv_bipush (v := 111) hx hb dX9_share_7 (by decide) ?_
  refine zc_i (wc := [(mm, .inr (12, [.int t, .ref mlv, .ref msr, .ref mrs, .ref mpa, .ref mnu, .ref mlt, .ref mpl, .ref mod, .ref mic, .ref mgo, .ref msk, .ref mfo, .int 0, .int 0, .ref mul, .ref mup, .ref mun, .int 0, .ref mfr, .ref mta, .int 0]))]) (wr := []) (va_runV (As := [.int 111]) (rest := [.int 0]) ⟨hx, hb, hml, hown, hts⟩ (k_many0 l D cI mm mlv msr mrs mpa mnu mlt mpl mod mic mgo msk mfo mul mup mun mfr mta t 111 H.size) (cwV 1 hts gX9_share_X9_many rfl rfl rfl (by decide +kernel) ⟨Nat.le_of_ble_eq_true rfl, Nat.le_of_ble_eq_true rfl⟩) (zPV hK hP hD [0] rfl rfl [0] rfl 0 rfl rfl rfl) rfl rfl hl.1 rfl (lv_room (Nat.le_of_ble_eq_true rfl)) dX9_share_9 ⟨Nat.le_of_ble_eq_true rfl, Nat.le_of_ble_eq_true rfl⟩) hP hD hS hA [0] [] rfl rfl rfl (by decide) (fun r _ H locs hw hP hD hS => ?_)
  have hP : va_P D vwCl [(mm, .inr (12, [.int t, .ref mlv, .ref msr, .ref mrs, .ref mpa, .ref mnu, .ref mlt, .ref mpl, .ref mod, .ref mic, .ref mgo, .ref msk, .ref mfo, .int 0, .int 0, .ref mul, .ref mup, .ref mun, .int 0, .ref mfr, .ref mta, .int 0]))] H := hP
  have hD : va_D A [(mm, .inr (12, [.int t, .ref mlv, .ref msr, .ref mrs, .ref mpa, .ref mnu, .ref mlt, .ref mpl, .ref mod, .ref mic, .ref mgo, .ref msk, .ref mfo, .int 0, .int 0, .ref mul, .ref mup, .ref mun, .int 0, .ref mfr, .ref mta, .int 0]))] := hD
  subst hw
  refine lv_iadd hx hb dX9_share_12 ?_
  refine zt_i 0 (by decide) ?_
  refine lv_istore_n (lv' := [(1, .int 0), (0, .ref mm)]) hx hb dX9_share_13 rfl hl (by decide) rfl (fun ls hl => ?_)
  refine lv_iload_n hx hb dX9_share_14 rfl (lv_at hl 0 rfl) ?_
  refine lv_if_ne (tgt := 25) hx hb dX9_share_15 (by decide) (fun q => absurd q (by decide)) (fun _ => ?_)
  refine lv_aload_n hx hb dX9_share_18 rfl (lv_at hl 1 rfl) ?_
  refine lv_iconst (v := 1) hx hb dX9_share_19 (by decide) ?_
  refine zc_i (wc := [(mm, .inr (12, [.int t, .ref mlv, .ref msr, .ref mrs, .ref mpa, .ref mnu, .ref mlt, .ref mpl, .ref mod, .ref mic, .ref mgo, .ref msk, .ref mfo, .int 0, .int 0, .ref mul, .ref mup, .ref mun, .int 0, .ref mfr, .ref mta, .int 0]))]) (wr := []) (va_runV (As := [.int 1]) (rest := []) ⟨hx, hb, hml, hown, hts⟩ (k_fails l D cI mm mlv msr mrs mpa mnu mlt mpl mod mic mgo msk mfo mul mup mun mfr mta t 1 0 0 0 0 H.size) (cwV 1 hts gX9_share_X9_fails rfl rfl rfl (by decide +kernel) ⟨Nat.le_of_ble_eq_true rfl, Nat.le_of_ble_eq_true rfl⟩) (zPV hK hP hD [0] rfl rfl [0] rfl 0 rfl rfl rfl) rfl rfl hl.1 rfl (lv_room (Nat.le_of_ble_eq_true rfl)) dX9_share_20 ⟨Nat.le_of_ble_eq_true rfl, Nat.le_of_ble_eq_true rfl⟩) hP hD hS hA [0] [] rfl rfl rfl (by decide) (fun r _ H locs hw hP hD hS => ?_)
  have hP : va_P D vwCl [(mm, .inr (12, [.int 1, .ref mlv, .ref msr, .ref mrs, .ref mpa, .ref mnu, .ref mlt, .ref mpl, .ref mod, .ref mic, .ref mgo, .ref msk, .ref mfo, .int 0, .int 0, .ref mul, .ref mup, .ref mun, .int 0, .ref mfr, .ref mta, .int 0]))] H := hP
  have hD : va_D A [(mm, .inr (12, [.int 1, .ref mlv, .ref msr, .ref mrs, .ref mpa, .ref mnu, .ref mlt, .ref mpl, .ref mod, .ref mic, .ref mgo, .ref msk, .ref mfo, .int 0, .int 0, .ref mul, .ref mup, .ref mun, .int 0, .ref mfr, .ref mta, .int 0]))] := hD
  subst hw
  refine lv_i2f hx hb dX9_share_23 ?_
  obtain ⟨hP9, hD9⟩ := z_get hP hD [0] (wc := [(mm, .inr (12, [.int 1, .ref mlv, .ref msr, .ref mrs, .ref mpa, .ref mnu, .ref mlt, .ref mpl, .ref mod, .ref mic, .ref mgo, .ref msk, .ref mfo, .int 0, .int 0, .ref mul, .ref mup, .ref mun, .int 0, .ref mfr, .ref mta, .int 0]))]) rfl rfl
  exact W.fret (v := FP.i2f 0) hx hb hr (fun t ht hW => ⟨⟨FP.i2f 0, (), rfl, rfl, by rw [ht]; exact hP9, hD9⟩, hS.F ht⟩) hS.2.2 dX9_share_24

set_option maxHeartbeats 4000000 in
set_option maxRecDepth 100000 in
theorem m_frozenShare (l : Launch) (D : va_G) (cI : ClassId) (mm mlv msr mrs mpa mnu mlt mpl mod mic mgo msk mfo mul mup mun mfr mta : Nat) (t : Int32) (sz : Nat) : Met l yX9_frozenShare wsX9_frozenShare ({ frames := 2, cells := 0, slots := 0, locals := 45 }) (va_Pc [.ref mm] (zPre D [(cI, .int)] [(mm, .inr (12, [.int t, .ref mlv, .ref msr, .ref mrs, .ref mpa, .ref mnu, .ref mlt, .ref mpl, .ref mod, .ref mic, .ref mgo, .ref msk, .ref mfo, .int 0, .int 0, .ref mul, .ref mup, .ref mun, .int 0, .ref mfr, .ref mta, .int 0]))] sz)) (va_Qf (fun rv (_ : Unit) => rv = FP.i2f 0) (fun (_ : Unit) => zB D [(mm, .inr (12, [.int 1, .ref mlv, .ref msr, .ref mrs, .ref mpa, .ref mnu, .ref mlt, .ref mpl, .ref mod, .ref mic, .ref mgo, .ref msk, .ref mfo, .int 0, .int 0, .ref mul, .ref mup, .ref mun, .int 0, .ref mfr, .ref mta, .int 0]))] (va_A [(mm, .inr (12, [.int t, .ref mlv, .ref msr, .ref mrs, .ref mpa, .ref mnu, .ref mlt, .ref mpl, .ref mod, .ref mic, .ref mgo, .ref msk, .ref mfo, .int 0, .int 0, .ref mul, .ref mup, .ref mun, .int 0, .ref mfr, .ref mta, .int 0]))] sz)) (va_A [(mm, .inr (12, [.int t, .ref mlv, .ref msr, .ref mrs, .ref mpa, .ref mnu, .ref mlt, .ref mpl, .ref mod, .ref mic, .ref mgo, .ref msk, .ref mfo, .int 0, .int 0, .ref mul, .ref mup, .ref mun, .int 0, .ref mfr, .ref mta, .int 0]))] sz)) 0 0 (va_A [(mm, .inr (12, [.int t, .ref mlv, .ref msr, .ref mrs, .ref mpa, .ref mnu, .ref mlt, .ref mpl, .ref mod, .ref mic, .ref mgo, .ref msk, .ref mfo, .int 0, .int 0, .ref mul, .ref mup, .ref mun, .int 0, .ref mfr, .ref mta, .int 0]))] sz) := by
  refine Met.ofW (cc := cX9_frozenShare) (maxL := 1) (ret := (some .float)) (by decide) rfl ?_
  intro P0 E0 s m args below meth C9 s₁ B hml hv
  obtain ⟨rfl, hsz, hP, hK, hD0⟩ := hv
  have hx := B.exec
  have hb := B.bytes
  have hr := B.returns
  have hts := atoms_spec (ws := wsX9_frozenShare) B.pre
  have hown : s.vm.findClass RX9 = some m.cls := findClass_of_methodNamed B.named
  have hlocks := B.notSynchronized
  subst hsz
  have hD := hD0.self (sz := s.heap.size)
  generalize hAe : va_A [(mm, .inr (12, [.int t, .ref mlv, .ref msr, .ref mrs, .ref mpa, .ref mnu, .ref mlt, .ref mpl, .ref mod, .ref mic, .ref mgo, .ref msk, .ref mfo, .int 0, .int 0, .ref mul, .ref mup, .ref mun, .int 0, .ref mfr, .ref mta, .int 0]))] s.heap.size = A at hD ⊢
  have hA : ∀ q : Nat, s.heap.size ≤ q → A q := fun q h => by rw [← hAe]; exact Or.inr h
  have hS : va_S A s.heap s.heap [] := va_S.rf
  have hl := lv_entry ([.ref mm]) (n := 1) (Nat.le_of_ble_eq_true rfl)
  rw [lg_entry_eq]
  generalize (lg_sl ([.ref mm]) ++ List.replicate (1 - (lg_sl ([.ref mm])).length) Slot.unset).toArray = ls at hl ⊢
  have hl : lv_has ls 1 [(0, .ref mm)] := hl
  refine lv_aload_n hx hb dX9_frozenShare_0 rfl (lv_at hl 0 rfl) ?_
  refine lv_iconst (v := 0) hx hb dX9_frozenShare_1 (by decide) ?_
  refine va_put (D := D) (ci := 12) (v := .int 0) (ty := .int) (C := RX9) (T := TX9) (N := 22) hx hb hts (fun _ h => List.mem_cons_of_mem _ (List.mem_append_left _ (List.mem_append_right _ h))) tyX9 tyX9_ok nmX9 hown hK hP hD hS 0 rfl rfl 0 (by decide) (hts (.fieldLink RX9 65 "NumberingTreeModel" "thrown" "I") (List.mem_of_getElem? (i := 1) rfl)) (fun _ h9 => h9) rfl (by decide +kernel) rfl rfl (Nat.le_of_ble_eq_true rfl) dX9_frozenShare_2 (fun H locs hP hD hS => ?_)
  have hP : va_P D vwCl [(mm, .inr (12, [.int 0, .ref mlv, .ref msr, .ref mrs, .ref mpa, .ref mnu, .ref mlt, .ref mpl, .ref mod, .ref mic, .ref mgo, .ref msk, .ref mfo, .int 0, .int 0, .ref mul, .ref mup, .ref mun, .int 0, .ref mfr, .ref mta, .int 0]))] H := hP
  have hD : va_D A [(mm, .inr (12, [.int 0, .ref mlv, .ref msr, .ref mrs, .ref mpa, .ref mnu, .ref mlt, .ref mpl, .ref mod, .ref mic, .ref mgo, .ref msk, .ref mfo, .int 0, .int 0, .ref mul, .ref mup, .ref mun, .int 0, .ref mfr, .ref mta, .int 0]))] := hD
  refine lv_aload_n hx hb dX9_frozenShare_5 rfl (lv_at hl 0 rfl) ?_
  refine zc_f (wc := [(mm, .inr (12, [.int 0, .ref mlv, .ref msr, .ref mrs, .ref mpa, .ref mnu, .ref mlt, .ref mpl, .ref mod, .ref mic, .ref mgo, .ref msk, .ref mfo, .int 0, .int 0, .ref mul, .ref mup, .ref mun, .int 0, .ref mfr, .ref mta, .int 0]))]) (wr := []) (va_runV (As := []) (rest := []) ⟨hx, hb, hml, hown, hts⟩ (k_share l D cI mm mlv msr mrs mpa mnu mlt mpl mod mic mgo msk mfo mul mup mun mfr mta 0 H.size) (cwV 0 hts gX9_frozenShare_X9_share rfl rfl rfl (by decide +kernel) ⟨Nat.le_of_ble_eq_true rfl, Nat.le_of_ble_eq_true rfl⟩) (zPV hK hP hD [0] rfl rfl [0] rfl 0 rfl rfl rfl) rfl rfl hl.1 rfl (lv_room (Nat.le_of_ble_eq_true rfl)) dX9_frozenShare_6 ⟨Nat.le_of_ble_eq_true rfl, Nat.le_of_ble_eq_true rfl⟩) hP hD hS hA [0] [] rfl rfl rfl (by decide) (fun r _ H locs hw hP hD hS => ?_)
  have hP : va_P D vwCl [(mm, .inr (12, [.int 1, .ref mlv, .ref msr, .ref mrs, .ref mpa, .ref mnu, .ref mlt, .ref mpl, .ref mod, .ref mic, .ref mgo, .ref msk, .ref mfo, .int 0, .int 0, .ref mul, .ref mup, .ref mun, .int 0, .ref mfr, .ref mta, .int 0]))] H := hP
  have hD : va_D A [(mm, .inr (12, [.int 1, .ref mlv, .ref msr, .ref mrs, .ref mpa, .ref mnu, .ref mlt, .ref mpl, .ref mod, .ref mic, .ref mgo, .ref msk, .ref mfo, .int 0, .int 0, .ref mul, .ref mup, .ref mun, .int 0, .ref mfr, .ref mta, .int 0]))] := hD
  subst hw
  obtain ⟨hP9, hD9⟩ := z_get hP hD [0] (wc := [(mm, .inr (12, [.int 1, .ref mlv, .ref msr, .ref mrs, .ref mpa, .ref mnu, .ref mlt, .ref mpl, .ref mod, .ref mic, .ref mgo, .ref msk, .ref mfo, .int 0, .int 0, .ref mul, .ref mup, .ref mun, .int 0, .ref mfr, .ref mta, .int 0]))]) rfl rfl
  exact W.fret (v := FP.i2f 0) hx hb hr (fun t ht hW => ⟨⟨FP.i2f 0, (), rfl, rfl, by rw [ht]; exact hP9, hD9⟩, hS.F ht⟩) hS.2.2 dX9_frozenShare_9

set_option maxHeartbeats 4000000 in
set_option maxRecDepth 100000 in
theorem m_meanT (l : Launch) (D : va_G) (cI : ClassId) (mm mlv msr mrs mpa mnu mlt mpl mod mic mgo msk mfo mul mup mun mfr mta : Nat) (t p : Int32) (sz : Nat) (hp : zLv p) : Met l yX9_meanNumber wsX9_meanNumber ({ frames := 2, cells := 0, slots := 0, locals := 42 }) (va_Pc [.ref mm, .int p] (zPre D [(cI, .int)] [(mm, .inr (12, [.int t, .ref mlv, .ref msr, .ref mrs, .ref mpa, .ref mnu, .ref mlt, .ref mpl, .ref mod, .ref mic, .ref mgo, .ref msk, .ref mfo, .int 0, .int 0, .ref mul, .ref mup, .ref mun, .int 0, .ref mfr, .ref mta, .int 0]))] sz)) (va_Qd (fun rv (_ : Unit) => rv = FP.i2d 0) (fun (_ : Unit) => zB D [(mm, .inr (12, [.int 2, .ref mlv, .ref msr, .ref mrs, .ref mpa, .ref mnu, .ref mlt, .ref mpl, .ref mod, .ref mic, .ref mgo, .ref msk, .ref mfo, .int 0, .int 0, .ref mul, .ref mup, .ref mun, .int 0, .ref mfr, .ref mta, .int 0]))] (va_A [(mm, .inr (12, [.int t, .ref mlv, .ref msr, .ref mrs, .ref mpa, .ref mnu, .ref mlt, .ref mpl, .ref mod, .ref mic, .ref mgo, .ref msk, .ref mfo, .int 0, .int 0, .ref mul, .ref mup, .ref mun, .int 0, .ref mfr, .ref mta, .int 0]))] sz)) (va_A [(mm, .inr (12, [.int t, .ref mlv, .ref msr, .ref mrs, .ref mpa, .ref mnu, .ref mlt, .ref mpl, .ref mod, .ref mic, .ref mgo, .ref msk, .ref mfo, .int 0, .int 0, .ref mul, .ref mup, .ref mun, .int 0, .ref mfr, .ref mta, .int 0]))] sz)) 0 0 (va_A [(mm, .inr (12, [.int t, .ref mlv, .ref msr, .ref mrs, .ref mpa, .ref mnu, .ref mlt, .ref mpl, .ref mod, .ref mic, .ref mgo, .ref msk, .ref mfo, .int 0, .int 0, .ref mul, .ref mup, .ref mun, .int 0, .ref mfr, .ref mta, .int 0]))] sz) := by
  refine Met.ofW (cc := cX9_meanNumber) (maxL := 5) (ret := (some .double)) (by decide) rfl ?_
  intro P0 E0 s m args below meth C9 s₁ B hml hv
  obtain ⟨rfl, hsz, hP, hK, hD0⟩ := hv
  have hx := B.exec
  have hb := B.bytes
  have hr := B.returns
  have hts := atoms_spec (ws := wsX9_meanNumber) B.pre
  have hown : s.vm.findClass RX9 = some m.cls := findClass_of_methodNamed B.named
  have hlocks := B.notSynchronized
  subst hsz
  have hD := hD0.self (sz := s.heap.size)
  generalize hAe : va_A [(mm, .inr (12, [.int t, .ref mlv, .ref msr, .ref mrs, .ref mpa, .ref mnu, .ref mlt, .ref mpl, .ref mod, .ref mic, .ref mgo, .ref msk, .ref mfo, .int 0, .int 0, .ref mul, .ref mup, .ref mun, .int 0, .ref mfr, .ref mta, .int 0]))] s.heap.size = A at hD ⊢
  have hA : ∀ q : Nat, s.heap.size ≤ q → A q := fun q h => by rw [← hAe]; exact Or.inr h
  have hS : va_S A s.heap s.heap [] := va_S.rf
  have hl := lv_entry ([.ref mm, .int p]) (n := 5) (Nat.le_of_ble_eq_true rfl)
  rw [lg_entry_eq]
  generalize (lg_sl ([.ref mm, .int p]) ++ List.replicate (5 - (lg_sl ([.ref mm, .int p])).length) Slot.unset).toArray = ls at hl ⊢
  have hl : lv_has ls 5 [(0, .ref mm), (1, .int p)] := hl
  refine lv_aload_n hx hb dX9_meanNumber_0 rfl (lv_at hl 0 rfl) ?_
  refine lv_iconst (v := 0) hx hb dX9_meanNumber_1 (by decide) ?_
  refine va_put (D := D) (ci := 12) (v := .int 0) (ty := .int) (C := RX9) (T := TX9) (N := 22) hx hb hts (fun _ h => List.mem_cons_of_mem _ (List.mem_append_left _ (List.mem_append_right _ h))) tyX9 tyX9_ok nmX9 hown hK hP hD hS 0 rfl rfl 0 (by decide) (hts (.fieldLink RX9 65 "NumberingTreeModel" "thrown" "I") (List.mem_of_getElem? (i := 1) rfl)) (fun _ h9 => h9) rfl (by decide +kernel) rfl rfl (Nat.le_of_ble_eq_true rfl) dX9_meanNumber_2 (fun H locs hP hD hS => ?_)
  have hP : va_P D vwCl [(mm, .inr (12, [.int 0, .ref mlv, .ref msr, .ref mrs, .ref mpa, .ref mnu, .ref mlt, .ref mpl, .ref mod, .ref mic, .ref mgo, .ref msk, .ref mfo, .int 0, .int 0, .ref mul, .ref mup, .ref mun, .int 0, .ref mfr, .ref mta, .int 0]))] H := hP
  have hD : va_D A [(mm, .inr (12, [.int 0, .ref mlv, .ref msr, .ref mrs, .ref mpa, .ref mnu, .ref mlt, .ref mpl, .ref mod, .ref mic, .ref mgo, .ref msk, .ref mfo, .int 0, .int 0, .ref mul, .ref mup, .ref mun, .int 0, .ref mfr, .ref mta, .int 0]))] := hD
  refine lv_iload_n hx hb dX9_meanNumber_5 rfl (lv_at hl 1 rfl) ?_
  refine zc_i (wc := []) (wr := [(mm, .inr (12, [.int 0, .ref mlv, .ref msr, .ref mrs, .ref mpa, .ref mnu, .ref mlt, .ref mpl, .ref mod, .ref mic, .ref mgo, .ref msk, .ref mfo, .int 0, .int 0, .ref mul, .ref mup, .ref mun, .int 0, .ref mfr, .ref mta, .int 0]))]) (va_runS (As := [.int p]) (rest := []) ⟨hx, hb, hml, hown, hts⟩ (k_isLevelT l D cI p H.size hp) (va_cwS 1 hts gX9_meanNumber_X9_isLevel rfl rfl rfl (by decide +kernel) ⟨Nat.le_of_ble_eq_true rfl, Nat.le_of_ble_eq_true rfl⟩) (zPS hK hP hD [] rfl rfl [0] rfl) rfl rfl hl.1 rfl (lv_room (Nat.le_of_ble_eq_true rfl)) dX9_meanNumber_6 ⟨Nat.le_of_ble_eq_true rfl, Nat.le_of_ble_eq_true rfl⟩) hP hD hS hA [] [0] rfl rfl rfl (by decide) (fun r _ H locs hw hP hD hS => ?_)
  have hP : va_P D vwCl [(mm, .inr (12, [.int 0, .ref mlv, .ref msr, .ref mrs, .ref mpa, .ref mnu, .ref mlt, .ref mpl, .ref mod, .ref mic, .ref mgo, .ref msk, .ref mfo, .int 0, .int 0, .ref mul, .ref mup, .ref mun, .int 0, .ref mfr, .ref mta, .int 0]))] H := hP
  have hD : va_D A [(mm, .inr (12, [.int 0, .ref mlv, .ref msr, .ref mrs, .ref mpa, .ref mnu, .ref mlt, .ref mpl, .ref mod, .ref mic, .ref mgo, .ref msk, .ref mfo, .int 0, .int 0, .ref mul, .ref mup, .ref mun, .int 0, .ref mfr, .ref mta, .int 0]))] := hD
  subst hw
  refine lv_if_ne (tgt := 19) hx hb dX9_meanNumber_9 (by decide) (fun _ => ?_) (fun q => absurd q (by decide))
  refine lv_iconst (v := 0) hx hb dX9_meanNumber_19 (by decide) ?_
  refine lv_istore_n (lv' := [(2, .int 0), (0, .ref mm), (1, .int p)]) hx hb dX9_meanNumber_20 rfl hl (by decide) rfl (fun ls hl => ?_)
  refine lv_iconst (v := 0) hx hb dX9_meanNumber_21 (by decide) ?_
  refine lv_istore_n (lv' := [(3, .int 0), (2, .int 0), (0, .ref mm), (1, .int p)]) hx hb dX9_meanNumber_22 rfl hl (by decide) rfl (fun ls hl => ?_)
  refine lv_iconst (v := 0) hx hb dX9_meanNumber_23 (by decide) ?_
  refine lv_istore (lv' := [(4, .int 0), (3, .int 0), (2, .int 0), (0, .ref mm), (1, .int p)]) hx hb dX9_meanNumber_24 hl (by decide) rfl (fun ls hl => ?_)
  refine lv_iload hx hb dX9_meanNumber_26 (lv_at hl 0 rfl) ?_
  refine lv_aload_n hx hb dX9_meanNumber_28 rfl (lv_at hl 3 rfl) ?_
  refine va_get (D := D) (ci := 12) (v := .int 0) (C := RX9) (T := TX9) (N := 22) hx hb hts (fun _ h => List.mem_cons_of_mem _ (List.mem_append_left _ (List.mem_append_right _ h))) hown hK hP 0 rfl rfl 14 (by decide) (hts (.fieldLink RX9 91 "NumberingTreeModel" "size" "I") (List.mem_of_getElem? (i := 2) rfl)) (fun _ h9 => h9) rfl dX9_meanNumber_29 ?_
  refine lv_icmp_ge (tgt := 78) hx hb dX9_meanNumber_32 (by decide) (fun _ => ?_) (fun q => absurd q (by decide))
  refine lv_iload_n hx hb dX9_meanNumber_78 rfl (lv_at hl 2 rfl) ?_
  refine lv_if_ne (tgt := 91) hx hb dX9_meanNumber_79 (by decide) (fun q => absurd q (by decide)) (fun _ => ?_)
  refine lv_aload_n hx hb dX9_meanNumber_82 rfl (lv_at hl 3 rfl) ?_
  refine lv_iconst (v := 2) hx hb dX9_meanNumber_83 (by decide) ?_
  refine zc_i (wc := [(mm, .inr (12, [.int 0, .ref mlv, .ref msr, .ref mrs, .ref mpa, .ref mnu, .ref mlt, .ref mpl, .ref mod, .ref mic, .ref mgo, .ref msk, .ref mfo, .int 0, .int 0, .ref mul, .ref mup, .ref mun, .int 0, .ref mfr, .ref mta, .int 0]))]) (wr := []) (va_runV (As := [.int 2]) (rest := []) ⟨hx, hb, hml, hown, hts⟩ (k_fails l D cI mm mlv msr mrs mpa mnu mlt mpl mod mic mgo msk mfo mul mup mun mfr mta 0 2 0 0 0 0 H.size) (cwV 1 hts gX9_meanNumber_X9_fails rfl rfl rfl (by decide +kernel) ⟨Nat.le_of_ble_eq_true rfl, Nat.le_of_ble_eq_true rfl⟩) (zPV hK hP hD [0] rfl rfl [0] rfl 0 rfl rfl rfl) rfl rfl hl.1 rfl (lv_room (Nat.le_of_ble_eq_true rfl)) dX9_meanNumber_84 ⟨Nat.le_of_ble_eq_true rfl, Nat.le_of_ble_eq_true rfl⟩) hP hD hS hA [0] [] rfl rfl rfl (by decide) (fun r _ H locs hw hP hD hS => ?_)
  have hP : va_P D vwCl [(mm, .inr (12, [.int 2, .ref mlv, .ref msr, .ref mrs, .ref mpa, .ref mnu, .ref mlt, .ref mpl, .ref mod, .ref mic, .ref mgo, .ref msk, .ref mfo, .int 0, .int 0, .ref mul, .ref mup, .ref mun, .int 0, .ref mfr, .ref mta, .int 0]))] H := hP
  have hD : va_D A [(mm, .inr (12, [.int 2, .ref mlv, .ref msr, .ref mrs, .ref mpa, .ref mnu, .ref mlt, .ref mpl, .ref mod, .ref mic, .ref mgo, .ref msk, .ref mfo, .int 0, .int 0, .ref mul, .ref mup, .ref mun, .int 0, .ref mfr, .ref mta, .int 0]))] := hD
  subst hw
  refine lv_i2d hx hb dX9_meanNumber_87 ?_
  refine lv_goto (tgt := 96) hx hb dX9_meanNumber_88 (by decide) ?_
  obtain ⟨hP9, hD9⟩ := z_get hP hD [0] (wc := [(mm, .inr (12, [.int 2, .ref mlv, .ref msr, .ref mrs, .ref mpa, .ref mnu, .ref mlt, .ref mpl, .ref mod, .ref mic, .ref mgo, .ref msk, .ref mfo, .int 0, .int 0, .ref mul, .ref mup, .ref mun, .int 0, .ref mfr, .ref mta, .int 0]))]) rfl rfl
  exact W.dret (v := FP.i2d 0) hx hb hr (fun t ht hW => ⟨⟨FP.i2d 0, (), rfl, rfl, by rw [ht]; exact hP9, hD9⟩, hS.F ht⟩) hS.2.2 dX9_meanNumber_96

set_option maxHeartbeats 4000000 in
set_option maxRecDepth 100000 in
theorem m_meanF (l : Launch) (D : va_G) (cI : ClassId) (mm mlv msr mrs mpa mnu mlt mpl mod mic mgo msk mfo mul mup mun mfr mta : Nat) (t p : Int32) (sz : Nat) (hp : ¬ zLv p) : Met l yX9_meanNumber wsX9_meanNumber ({ frames := 2, cells := 0, slots := 0, locals := 42 }) (va_Pc [.ref mm, .int p] (zPre D [(cI, .int)] [(mm, .inr (12, [.int t, .ref mlv, .ref msr, .ref mrs, .ref mpa, .ref mnu, .ref mlt, .ref mpl, .ref mod, .ref mic, .ref mgo, .ref msk, .ref mfo, .int 0, .int 0, .ref mul, .ref mup, .ref mun, .int 0, .ref mfr, .ref mta, .int 0]))] sz)) (va_Qd (fun rv (_ : Unit) => rv = FP.i2d 0) (fun (_ : Unit) => zB D [(mm, .inr (12, [.int 1, .ref mlv, .ref msr, .ref mrs, .ref mpa, .ref mnu, .ref mlt, .ref mpl, .ref mod, .ref mic, .ref mgo, .ref msk, .ref mfo, .int 0, .int 0, .ref mul, .ref mup, .ref mun, .int 0, .ref mfr, .ref mta, .int 0]))] (va_A [(mm, .inr (12, [.int t, .ref mlv, .ref msr, .ref mrs, .ref mpa, .ref mnu, .ref mlt, .ref mpl, .ref mod, .ref mic, .ref mgo, .ref msk, .ref mfo, .int 0, .int 0, .ref mul, .ref mup, .ref mun, .int 0, .ref mfr, .ref mta, .int 0]))] sz)) (va_A [(mm, .inr (12, [.int t, .ref mlv, .ref msr, .ref mrs, .ref mpa, .ref mnu, .ref mlt, .ref mpl, .ref mod, .ref mic, .ref mgo, .ref msk, .ref mfo, .int 0, .int 0, .ref mul, .ref mup, .ref mun, .int 0, .ref mfr, .ref mta, .int 0]))] sz)) 0 0 (va_A [(mm, .inr (12, [.int t, .ref mlv, .ref msr, .ref mrs, .ref mpa, .ref mnu, .ref mlt, .ref mpl, .ref mod, .ref mic, .ref mgo, .ref msk, .ref mfo, .int 0, .int 0, .ref mul, .ref mup, .ref mun, .int 0, .ref mfr, .ref mta, .int 0]))] sz) := by
  refine Met.ofW (cc := cX9_meanNumber) (maxL := 5) (ret := (some .double)) (by decide) rfl ?_
  intro P0 E0 s m args below meth C9 s₁ B hml hv
  obtain ⟨rfl, hsz, hP, hK, hD0⟩ := hv
  have hx := B.exec
  have hb := B.bytes
  have hr := B.returns
  have hts := atoms_spec (ws := wsX9_meanNumber) B.pre
  have hown : s.vm.findClass RX9 = some m.cls := findClass_of_methodNamed B.named
  have hlocks := B.notSynchronized
  subst hsz
  have hD := hD0.self (sz := s.heap.size)
  generalize hAe : va_A [(mm, .inr (12, [.int t, .ref mlv, .ref msr, .ref mrs, .ref mpa, .ref mnu, .ref mlt, .ref mpl, .ref mod, .ref mic, .ref mgo, .ref msk, .ref mfo, .int 0, .int 0, .ref mul, .ref mup, .ref mun, .int 0, .ref mfr, .ref mta, .int 0]))] s.heap.size = A at hD ⊢
  have hA : ∀ q : Nat, s.heap.size ≤ q → A q := fun q h => by rw [← hAe]; exact Or.inr h
  have hS : va_S A s.heap s.heap [] := va_S.rf
  have hl := lv_entry ([.ref mm, .int p]) (n := 5) (Nat.le_of_ble_eq_true rfl)
  rw [lg_entry_eq]
  generalize (lg_sl ([.ref mm, .int p]) ++ List.replicate (5 - (lg_sl ([.ref mm, .int p])).length) Slot.unset).toArray = ls at hl ⊢
  have hl : lv_has ls 5 [(0, .ref mm), (1, .int p)] := hl
  refine lv_aload_n hx hb dX9_meanNumber_0 rfl (lv_at hl 0 rfl) ?_
  refine lv_iconst (v := 0) hx hb dX9_meanNumber_1 (by decide) ?_
  refine va_put (D := D) (ci := 12) (v := .int 0) (ty := .int) (C := RX9) (T := TX9) (N := 22) hx hb hts (fun _ h => List.mem_cons_of_mem _ (List.mem_append_left _ (List.mem_append_right _ h))) tyX9 tyX9_ok nmX9 hown hK hP hD hS 0 rfl rfl 0 (by decide) (hts (.fieldLink RX9 65 "NumberingTreeModel" "thrown" "I") (List.mem_of_getElem? (i := 1) rfl)) (fun _ h9 => h9) rfl (by decide +kernel) rfl rfl (Nat.le_of_ble_eq_true rfl) dX9_meanNumber_2 (fun H locs hP hD hS => ?_)
  have hP : va_P D vwCl [(mm, .inr (12, [.int 0, .ref mlv, .ref msr, .ref mrs, .ref mpa, .ref mnu, .ref mlt, .ref mpl, .ref mod, .ref mic, .ref mgo, .ref msk, .ref mfo, .int 0, .int 0, .ref mul, .ref mup, .ref mun, .int 0, .ref mfr, .ref mta, .int 0]))] H := hP
  have hD : va_D A [(mm, .inr (12, [.int 0, .ref mlv, .ref msr, .ref mrs, .ref mpa, .ref mnu, .ref mlt, .ref mpl, .ref mod, .ref mic, .ref mgo, .ref msk, .ref mfo, .int 0, .int 0, .ref mul, .ref mup, .ref mun, .int 0, .ref mfr, .ref mta, .int 0]))] := hD
  refine lv_iload_n hx hb dX9_meanNumber_5 rfl (lv_at hl 1 rfl) ?_
  refine zc_i (wc := []) (wr := [(mm, .inr (12, [.int 0, .ref mlv, .ref msr, .ref mrs, .ref mpa, .ref mnu, .ref mlt, .ref mpl, .ref mod, .ref mic, .ref mgo, .ref msk, .ref mfo, .int 0, .int 0, .ref mul, .ref mup, .ref mun, .int 0, .ref mfr, .ref mta, .int 0]))]) (va_runS (As := [.int p]) (rest := []) ⟨hx, hb, hml, hown, hts⟩ (k_isLevelF l D cI p H.size hp) (va_cwS 1 hts gX9_meanNumber_X9_isLevel rfl rfl rfl (by decide +kernel) ⟨Nat.le_of_ble_eq_true rfl, Nat.le_of_ble_eq_true rfl⟩) (zPS hK hP hD [] rfl rfl [0] rfl) rfl rfl hl.1 rfl (lv_room (Nat.le_of_ble_eq_true rfl)) dX9_meanNumber_6 ⟨Nat.le_of_ble_eq_true rfl, Nat.le_of_ble_eq_true rfl⟩) hP hD hS hA [] [0] rfl rfl rfl (by decide) (fun r _ H locs hw hP hD hS => ?_)
  have hP : va_P D vwCl [(mm, .inr (12, [.int 0, .ref mlv, .ref msr, .ref mrs, .ref mpa, .ref mnu, .ref mlt, .ref mpl, .ref mod, .ref mic, .ref mgo, .ref msk, .ref mfo, .int 0, .int 0, .ref mul, .ref mup, .ref mun, .int 0, .ref mfr, .ref mta, .int 0]))] H := hP
  have hD : va_D A [(mm, .inr (12, [.int 0, .ref mlv, .ref msr, .ref mrs, .ref mpa, .ref mnu, .ref mlt, .ref mpl, .ref mod, .ref mic, .ref mgo, .ref msk, .ref mfo, .int 0, .int 0, .ref mul, .ref mup, .ref mun, .int 0, .ref mfr, .ref mta, .int 0]))] := hD
  subst hw
  refine lv_if_ne (tgt := 19) hx hb dX9_meanNumber_9 (by decide) (fun q => absurd q (by decide)) (fun _ => ?_)
  refine lv_aload_n hx hb dX9_meanNumber_12 rfl (lv_at hl 0 rfl) ?_
  refine lv_iconst (v := 1) hx hb dX9_meanNumber_13 (by decide) ?_
  refine zc_i (wc := [(mm, .inr (12, [.int 0, .ref mlv, .ref msr, .ref mrs, .ref mpa, .ref mnu, .ref mlt, .ref mpl, .ref mod, .ref mic, .ref mgo, .ref msk, .ref mfo, .int 0, .int 0, .ref mul, .ref mup, .ref mun, .int 0, .ref mfr, .ref mta, .int 0]))]) (wr := []) (va_runV (As := [.int 1]) (rest := []) ⟨hx, hb, hml, hown, hts⟩ (k_fails l D cI mm mlv msr mrs mpa mnu mlt mpl mod mic mgo msk mfo mul mup mun mfr mta 0 1 0 0 0 0 H.size) (cwV 1 hts gX9_meanNumber_X9_fails rfl rfl rfl (by decide +kernel) ⟨Nat.le_of_ble_eq_true rfl, Nat.le_of_ble_eq_true rfl⟩) (zPV hK hP hD [0] rfl rfl [0] rfl 0 rfl rfl rfl) rfl rfl hl.1 rfl (lv_room (Nat.le_of_ble_eq_true rfl)) dX9_meanNumber_14 ⟨Nat.le_of_ble_eq_true rfl, Nat.le_of_ble_eq_true rfl⟩) hP hD hS hA [0] [] rfl rfl rfl (by decide) (fun r _ H locs hw hP hD hS => ?_)
  have hP : va_P D vwCl [(mm, .inr (12, [.int 1, .ref mlv, .ref msr, .ref mrs, .ref mpa, .ref mnu, .ref mlt, .ref mpl, .ref mod, .ref mic, .ref mgo, .ref msk, .ref mfo, .int 0, .int 0, .ref mul, .ref mup, .ref mun, .int 0, .ref mfr, .ref mta, .int 0]))] H := hP
  have hD : va_D A [(mm, .inr (12, [.int 1, .ref mlv, .ref msr, .ref mrs, .ref mpa, .ref mnu, .ref mlt, .ref mpl, .ref mod, .ref mic, .ref mgo, .ref msk, .ref mfo, .int 0, .int 0, .ref mul, .ref mup, .ref mun, .int 0, .ref mfr, .ref mta, .int 0]))] := hD
  subst hw
  refine lv_i2d hx hb dX9_meanNumber_17 ?_
  obtain ⟨hP9, hD9⟩ := z_get hP hD [0] (wc := [(mm, .inr (12, [.int 1, .ref mlv, .ref msr, .ref mrs, .ref mpa, .ref mnu, .ref mlt, .ref mpl, .ref mod, .ref mic, .ref mgo, .ref msk, .ref mfo, .int 0, .int 0, .ref mul, .ref mup, .ref mun, .int 0, .ref mfr, .ref mta, .int 0]))]) rfl rfl
  exact W.dret (v := FP.i2d 0) hx hb hr (fun t ht hW => ⟨⟨FP.i2d 0, (), rfl, rfl, by rw [ht]; exact hP9, hD9⟩, hS.F ht⟩) hS.2.2 dX9_meanNumber_18

set_option maxHeartbeats 4000000 in
set_option maxRecDepth 100000 in
theorem m_setFormatT (l : Launch) (D : va_G) (cC cI : ClassId) (mm mlv msr mrs mpa mnu mlt mpl mod mic mgo msk mfo mul mup mun mfr mta : Nat) (t p q : Int32) (f : Nat → Int32) (sz : Nat) (hp : zLv p) (hq : zFo q) (hf : f p.toNatClampNeg = 100) : Met l yX9_setFormat wsX9_setFormat ({ frames := 2, cells := 0, slots := 0, locals := 42 }) (va_Pc [.ref mm, .int p, .int q] (zPre D [(cC, .char), (cI, .int)] [(mm, .inr (12, [.int t, .ref mlv, .ref msr, .ref mrs, .ref mpa, .ref mnu, .ref mlt, .ref mpl, .ref mod, .ref mic, .ref mgo, .ref msk, .ref mfo, .int 0, .int 0, .ref mul, .ref mup, .ref mun, .int 0, .ref mfr, .ref mta, .int 0])), (mfo, .inl (cC, 5, .inl f))] sz)) (va_Qi (fun rv (_ : Unit) => rv = 100) (fun (_ : Unit) => zB D [(mm, .inr (12, [.int 0, .ref mlv, .ref msr, .ref mrs, .ref mpa, .ref mnu, .ref mlt, .ref mpl, .ref mod, .ref mic, .ref mgo, .ref msk, .ref mfo, .int 0, .int 0, .ref mul, .ref mup, .ref mun, .int 0, .ref mfr, .ref mta, .int 0]))] (va_A [(mm, .inr (12, [.int t, .ref mlv, .ref msr, .ref mrs, .ref mpa, .ref mnu, .ref mlt, .ref mpl, .ref mod, .ref mic, .ref mgo, .ref msk, .ref mfo, .int 0, .int 0, .ref mul, .ref mup, .ref mun, .int 0, .ref mfr, .ref mta, .int 0])), (mfo, .inl (cC, 5, .inl f))] sz)) (va_A [(mm, .inr (12, [.int t, .ref mlv, .ref msr, .ref mrs, .ref mpa, .ref mnu, .ref mlt, .ref mpl, .ref mod, .ref mic, .ref mgo, .ref msk, .ref mfo, .int 0, .int 0, .ref mul, .ref mup, .ref mun, .int 0, .ref mfr, .ref mta, .int 0])), (mfo, .inl (cC, 5, .inl f))] sz)) 0 0 (va_A [(mm, .inr (12, [.int t, .ref mlv, .ref msr, .ref mrs, .ref mpa, .ref mnu, .ref mlt, .ref mpl, .ref mod, .ref mic, .ref mgo, .ref msk, .ref mfo, .int 0, .int 0, .ref mul, .ref mup, .ref mun, .int 0, .ref mfr, .ref mta, .int 0])), (mfo, .inl (cC, 5, .inl f))] sz) := by
  refine Met.ofW (cc := cX9_setFormat) (maxL := 4) (ret := (some .char)) (by decide) rfl ?_
  intro P0 E0 s m args below meth C9 s₁ B hml hv
  obtain ⟨rfl, hsz, hP, hK, hD0⟩ := hv
  have hx := B.exec
  have hb := B.bytes
  have hr := B.returns
  have hts := atoms_spec (ws := wsX9_setFormat) B.pre
  have hown : s.vm.findClass RX9 = some m.cls := findClass_of_methodNamed B.named
  have hlocks := B.notSynchronized
  subst hsz
  have hD := hD0.self (sz := s.heap.size)
  generalize hAe : va_A [(mm, .inr (12, [.int t, .ref mlv, .ref msr, .ref mrs, .ref mpa, .ref mnu, .ref mlt, .ref mpl, .ref mod, .ref mic, .ref mgo, .ref msk, .ref mfo, .int 0, .int 0, .ref mul, .ref mup, .ref mun, .int 0, .ref mfr, .ref mta, .int 0])), (mfo, .inl (cC, 5, .inl f))] s.heap.size = A at hD ⊢
  have hA : ∀ q : Nat, s.heap.size ≤ q → A q := fun q h => by rw [← hAe]; exact Or.inr h
  have hS : va_S A s.heap s.heap [] := va_S.rf
  have hl := lv_entry ([.ref mm, .int p, .int q]) (n := 4) (Nat.le_of_ble_eq_true rfl)
  rw [lg_entry_eq]
  generalize (lg_sl ([.ref mm, .int p, .int q]) ++ List.replicate (4 - (lg_sl ([.ref mm, .int p, .int q])).length) Slot.unset).toArray = ls at hl ⊢
  have hl : lv_has ls 4 [(0, .ref mm), (1, .int p), (2, .int q)] := hl
  refine lv_aload_n hx hb dX9_setFormat_0 rfl (lv_at hl 0 rfl) ?_
  refine lv_iconst (v := 0) hx hb dX9_setFormat_1 (by decide) ?_
  refine va_put (D := D) (ci := 12) (v := .int 0) (ty := .int) (C := RX9) (T := TX9) (N := 22) hx hb hts (fun _ h => List.mem_cons_of_mem _ (List.mem_append_left _ (List.mem_append_right _ h))) tyX9 tyX9_ok nmX9 hown hK hP hD hS 0 rfl rfl 0 (by decide) (hts (.fieldLink RX9 65 "NumberingTreeModel" "thrown" "I") (List.mem_of_getElem? (i := 1) rfl)) (fun _ h9 => h9) rfl (by decide +kernel) rfl rfl (Nat.le_of_ble_eq_true rfl) dX9_setFormat_2 (fun H locs hP hD hS => ?_)
  have hP : va_P D vwCl [(mm, .inr (12, [.int 0, .ref mlv, .ref msr, .ref mrs, .ref mpa, .ref mnu, .ref mlt, .ref mpl, .ref mod, .ref mic, .ref mgo, .ref msk, .ref mfo, .int 0, .int 0, .ref mul, .ref mup, .ref mun, .int 0, .ref mfr, .ref mta, .int 0])), (mfo, .inl (cC, 5, .inl f))] H := hP
  have hD : va_D A [(mm, .inr (12, [.int 0, .ref mlv, .ref msr, .ref mrs, .ref mpa, .ref mnu, .ref mlt, .ref mpl, .ref mod, .ref mic, .ref mgo, .ref msk, .ref mfo, .int 0, .int 0, .ref mul, .ref mup, .ref mun, .int 0, .ref mfr, .ref mta, .int 0])), (mfo, .inl (cC, 5, .inl f))] := hD
  refine lv_iload_n hx hb dX9_setFormat_5 rfl (lv_at hl 1 rfl) ?_
  refine zc_i (wc := []) (wr := [(mm, .inr (12, [.int 0, .ref mlv, .ref msr, .ref mrs, .ref mpa, .ref mnu, .ref mlt, .ref mpl, .ref mod, .ref mic, .ref mgo, .ref msk, .ref mfo, .int 0, .int 0, .ref mul, .ref mup, .ref mun, .int 0, .ref mfr, .ref mta, .int 0])), (mfo, .inl (cC, 5, .inl f))]) (va_runS (As := [.int p]) (rest := []) ⟨hx, hb, hml, hown, hts⟩ (k_isLevelT l D cI p H.size hp) (va_cwS 1 hts gX9_setFormat_X9_isLevel rfl rfl rfl (by decide +kernel) ⟨Nat.le_of_ble_eq_true rfl, Nat.le_of_ble_eq_true rfl⟩) (zPS hK hP hD [] rfl rfl [1] rfl) rfl rfl hl.1 rfl (lv_room (Nat.le_of_ble_eq_true rfl)) dX9_setFormat_6 ⟨Nat.le_of_ble_eq_true rfl, Nat.le_of_ble_eq_true rfl⟩) hP hD hS hA [] [0, 1] rfl rfl rfl (by decide) (fun r _ H locs hw hP hD hS => ?_)
  have hP : va_P D vwCl [(mm, .inr (12, [.int 0, .ref mlv, .ref msr, .ref mrs, .ref mpa, .ref mnu, .ref mlt, .ref mpl, .ref mod, .ref mic, .ref mgo, .ref msk, .ref mfo, .int 0, .int 0, .ref mul, .ref mup, .ref mun, .int 0, .ref mfr, .ref mta, .int 0])), (mfo, .inl (cC, 5, .inl f))] H := hP
  have hD : va_D A [(mm, .inr (12, [.int 0, .ref mlv, .ref msr, .ref mrs, .ref mpa, .ref mnu, .ref mlt, .ref mpl, .ref mod, .ref mic, .ref mgo, .ref msk, .ref mfo, .int 0, .int 0, .ref mul, .ref mup, .ref mun, .int 0, .ref mfr, .ref mta, .int 0])), (mfo, .inl (cC, 5, .inl f))] := hD
  subst hw
  refine lv_if_eq (tgt := 36) hx hb dX9_setFormat_9 (by decide) (fun q => absurd q (by decide)) (fun _ => ?_)
  refine lv_iload_n hx hb dX9_setFormat_12 rfl (lv_at hl 2 rfl) ?_
  refine lv_bipush (v := 100) hx hb dX9_setFormat_13 (by decide) ?_
  refine lv_icmp_eq (tgt := 43) hx hb dX9_setFormat_15 (by decide) (fun c1 => ?_) (fun c1 => ?_)
  · refine lv_aload_n hx hb dX9_setFormat_43 rfl (lv_at hl 0 rfl) ?_
    refine va_get (D := D) (ci := 12) (v := .ref mfo) (C := RX9) (T := TX9) (N := 22) hx hb hts (fun _ h => List.mem_cons_of_mem _ (List.mem_append_left _ (List.mem_append_right _ h))) hown hK hP 0 rfl rfl 12 (by decide) (hts (.fieldLink RX9 46 "NumberingTreeModel" "formats" "[C") (List.mem_of_getElem? (i := 2) rfl)) (fun _ h9 => h9) rfl dX9_setFormat_44 ?_
    refine lv_iload_n hx hb dX9_setFormat_47 rfl (lv_at hl 1 rfl) ?_
    refine va_cald hx hb hK hP 1 0 rfl rfl (zLv_in hp) dX9_setFormat_48 ?_
    refine zt_i 100 hf ?_
    refine lv_istore_n (lv' := [(3, .int 100), (0, .ref mm), (1, .int p), (2, .int q)]) hx hb dX9_setFormat_49 rfl hl (by decide) rfl (fun ls hl => ?_)
    refine lv_aload_n hx hb dX9_setFormat_50 rfl (lv_at hl 1 rfl) ?_
    refine va_get (D := D) (ci := 12) (v := .ref mfo) (C := RX9) (T := TX9) (N := 22) hx hb hts (fun _ h => List.mem_cons_of_mem _ (List.mem_append_left _ (List.mem_append_right _ h))) hown hK hP 0 rfl rfl 12 (by decide) (hts (.fieldLink RX9 46 "NumberingTreeModel" "formats" "[C") (List.mem_of_getElem? (i := 2) rfl)) (fun _ h9 => h9) rfl dX9_setFormat_51 ?_
    refine lv_iload_n hx hb dX9_setFormat_54 rfl (lv_at hl 2 rfl) ?_
    refine lv_iload_n hx hb dX9_setFormat_55 rfl (lv_at hl 3 rfl) ?_
    refine va_cast hx hb hK hP hD hS 1 0 rfl rfl (zLv_in hp) dX9_setFormat_56 (fun H locs hP hD hS => ?_)
    have hP : va_P D vwCl [(mm, .inr (12, [.int 0, .ref mlv, .ref msr, .ref mrs, .ref mpa, .ref mnu, .ref mlt, .ref mpl, .ref mod, .ref mic, .ref mgo, .ref msk, .ref mfo, .int 0, .int 0, .ref mul, .ref mup, .ref mun, .int 0, .ref mfr, .ref mta, .int 0])), (mfo, .inl (cC, 5, .inl (upd f (p).toNatClampNeg (vp_nar .char q))))] H := hP
    have hD : va_D A [(mm, .inr (12, [.int 0, .ref mlv, .ref msr, .ref mrs, .ref mpa, .ref mnu, .ref mlt, .ref mpl, .ref mod, .ref mic, .ref mgo, .ref msk, .ref mfo, .int 0, .int 0, .ref mul, .ref mup, .ref mun, .int 0, .ref mfr, .ref mta, .int 0])), (mfo, .inl (cC, 5, .inl (upd f (p).toNatClampNeg (vp_nar .char q))))] := hD
    refine lv_iload_n hx hb dX9_setFormat_57 rfl (lv_at hl 0 rfl) ?_
    obtain ⟨hP9, hD9⟩ := z_get hP hD [0] (wc := [(mm, .inr (12, [.int 0, .ref mlv, .ref msr, .ref mrs, .ref mpa, .ref mnu, .ref mlt, .ref mpl, .ref mod, .ref mic, .ref mgo, .ref msk, .ref mfo, .int 0, .int 0, .ref mul, .ref mup, .ref mun, .int 0, .ref mfr, .ref mta, .int 0]))]) rfl rfl
    exact W.zret (ty := .char) (v := 100) hx hb hr rfl (fun t ht hW => ⟨⟨100, (), rfl, rfl, by rw [ht]; exact hP9, hD9⟩, hS.F ht⟩) hS.2.2 dX9_setFormat_58
  · refine lv_iload_n hx hb dX9_setFormat_18 rfl (lv_at hl 2 rfl) ?_
    refine lv_bipush (v := 108) hx hb dX9_setFormat_19 (by decide) ?_
    refine lv_icmp_eq (tgt := 43) hx hb dX9_setFormat_21 (by decide) (fun c2 => ?_) (fun c2 => ?_)
    · refine lv_aload_n hx hb dX9_setFormat_43 rfl (lv_at hl 0 rfl) ?_
      refine va_get (D := D) (ci := 12) (v := .ref mfo) (C := RX9) (T := TX9) (N := 22) hx hb hts (fun _ h => List.mem_cons_of_mem _ (List.mem_append_left _ (List.mem_append_right _ h))) hown hK hP 0 rfl rfl 12 (by decide) (hts (.fieldLink RX9 46 "NumberingTreeModel" "formats" "[C") (List.mem_of_getElem? (i := 2) rfl)) (fun _ h9 => h9) rfl dX9_setFormat_44 ?_
      refine lv_iload_n hx hb dX9_setFormat_47 rfl (lv_at hl 1 rfl) ?_
      refine va_cald hx hb hK hP 1 0 rfl rfl (zLv_in hp) dX9_setFormat_48 ?_
      refine zt_i 100 hf ?_
      refine lv_istore_n (lv' := [(3, .int 100), (0, .ref mm), (1, .int p), (2, .int q)]) hx hb dX9_setFormat_49 rfl hl (by decide) rfl (fun ls hl => ?_)
      refine lv_aload_n hx hb dX9_setFormat_50 rfl (lv_at hl 1 rfl) ?_
      refine va_get (D := D) (ci := 12) (v := .ref mfo) (C := RX9) (T := TX9) (N := 22) hx hb hts (fun _ h => List.mem_cons_of_mem _ (List.mem_append_left _ (List.mem_append_right _ h))) hown hK hP 0 rfl rfl 12 (by decide) (hts (.fieldLink RX9 46 "NumberingTreeModel" "formats" "[C") (List.mem_of_getElem? (i := 2) rfl)) (fun _ h9 => h9) rfl dX9_setFormat_51 ?_
      refine lv_iload_n hx hb dX9_setFormat_54 rfl (lv_at hl 2 rfl) ?_
      refine lv_iload_n hx hb dX9_setFormat_55 rfl (lv_at hl 3 rfl) ?_
      refine va_cast hx hb hK hP hD hS 1 0 rfl rfl (zLv_in hp) dX9_setFormat_56 (fun H locs hP hD hS => ?_)
      have hP : va_P D vwCl [(mm, .inr (12, [.int 0, .ref mlv, .ref msr, .ref mrs, .ref mpa, .ref mnu, .ref mlt, .ref mpl, .ref mod, .ref mic, .ref mgo, .ref msk, .ref mfo, .int 0, .int 0, .ref mul, .ref mup, .ref mun, .int 0, .ref mfr, .ref mta, .int 0])), (mfo, .inl (cC, 5, .inl (upd f (p).toNatClampNeg (vp_nar .char q))))] H := hP
      have hD : va_D A [(mm, .inr (12, [.int 0, .ref mlv, .ref msr, .ref mrs, .ref mpa, .ref mnu, .ref mlt, .ref mpl, .ref mod, .ref mic, .ref mgo, .ref msk, .ref mfo, .int 0, .int 0, .ref mul, .ref mup, .ref mun, .int 0, .ref mfr, .ref mta, .int 0])), (mfo, .inl (cC, 5, .inl (upd f (p).toNatClampNeg (vp_nar .char q))))] := hD
      refine lv_iload_n hx hb dX9_setFormat_57 rfl (lv_at hl 0 rfl) ?_
      obtain ⟨hP9, hD9⟩ := z_get hP hD [0] (wc := [(mm, .inr (12, [.int 0, .ref mlv, .ref msr, .ref mrs, .ref mpa, .ref mnu, .ref mlt, .ref mpl, .ref mod, .ref mic, .ref mgo, .ref msk, .ref mfo, .int 0, .int 0, .ref mul, .ref mup, .ref mun, .int 0, .ref mfr, .ref mta, .int 0]))]) rfl rfl
      exact W.zret (ty := .char) (v := 100) hx hb hr rfl (fun t ht hW => ⟨⟨100, (), rfl, rfl, by rw [ht]; exact hP9, hD9⟩, hS.F ht⟩) hS.2.2 dX9_setFormat_58
    · refine lv_iload_n hx hb dX9_setFormat_24 rfl (lv_at hl 2 rfl) ?_
      refine lv_bipush (v := 114) hx hb dX9_setFormat_25 (by decide) ?_
      refine lv_icmp_eq (tgt := 43) hx hb dX9_setFormat_27 (by decide) (fun c3 => ?_) (fun c3 => ?_)
      · refine lv_aload_n hx hb dX9_setFormat_43 rfl (lv_at hl 0 rfl) ?_
        refine va_get (D := D) (ci := 12) (v := .ref mfo) (C := RX9) (T := TX9) (N := 22) hx hb hts (fun _ h => List.mem_cons_of_mem _ (List.mem_append_left _ (List.mem_append_right _ h))) hown hK hP 0 rfl rfl 12 (by decide) (hts (.fieldLink RX9 46 "NumberingTreeModel" "formats" "[C") (List.mem_of_getElem? (i := 2) rfl)) (fun _ h9 => h9) rfl dX9_setFormat_44 ?_
        refine lv_iload_n hx hb dX9_setFormat_47 rfl (lv_at hl 1 rfl) ?_
        refine va_cald hx hb hK hP 1 0 rfl rfl (zLv_in hp) dX9_setFormat_48 ?_
        refine zt_i 100 hf ?_
        refine lv_istore_n (lv' := [(3, .int 100), (0, .ref mm), (1, .int p), (2, .int q)]) hx hb dX9_setFormat_49 rfl hl (by decide) rfl (fun ls hl => ?_)
        refine lv_aload_n hx hb dX9_setFormat_50 rfl (lv_at hl 1 rfl) ?_
        refine va_get (D := D) (ci := 12) (v := .ref mfo) (C := RX9) (T := TX9) (N := 22) hx hb hts (fun _ h => List.mem_cons_of_mem _ (List.mem_append_left _ (List.mem_append_right _ h))) hown hK hP 0 rfl rfl 12 (by decide) (hts (.fieldLink RX9 46 "NumberingTreeModel" "formats" "[C") (List.mem_of_getElem? (i := 2) rfl)) (fun _ h9 => h9) rfl dX9_setFormat_51 ?_
        refine lv_iload_n hx hb dX9_setFormat_54 rfl (lv_at hl 2 rfl) ?_
        refine lv_iload_n hx hb dX9_setFormat_55 rfl (lv_at hl 3 rfl) ?_
        refine va_cast hx hb hK hP hD hS 1 0 rfl rfl (zLv_in hp) dX9_setFormat_56 (fun H locs hP hD hS => ?_)
        have hP : va_P D vwCl [(mm, .inr (12, [.int 0, .ref mlv, .ref msr, .ref mrs, .ref mpa, .ref mnu, .ref mlt, .ref mpl, .ref mod, .ref mic, .ref mgo, .ref msk, .ref mfo, .int 0, .int 0, .ref mul, .ref mup, .ref mun, .int 0, .ref mfr, .ref mta, .int 0])), (mfo, .inl (cC, 5, .inl (upd f (p).toNatClampNeg (vp_nar .char q))))] H := hP
        have hD : va_D A [(mm, .inr (12, [.int 0, .ref mlv, .ref msr, .ref mrs, .ref mpa, .ref mnu, .ref mlt, .ref mpl, .ref mod, .ref mic, .ref mgo, .ref msk, .ref mfo, .int 0, .int 0, .ref mul, .ref mup, .ref mun, .int 0, .ref mfr, .ref mta, .int 0])), (mfo, .inl (cC, 5, .inl (upd f (p).toNatClampNeg (vp_nar .char q))))] := hD
        refine lv_iload_n hx hb dX9_setFormat_57 rfl (lv_at hl 0 rfl) ?_
        obtain ⟨hP9, hD9⟩ := z_get hP hD [0] (wc := [(mm, .inr (12, [.int 0, .ref mlv, .ref msr, .ref mrs, .ref mpa, .ref mnu, .ref mlt, .ref mpl, .ref mod, .ref mic, .ref mgo, .ref msk, .ref mfo, .int 0, .int 0, .ref mul, .ref mup, .ref mun, .int 0, .ref mfr, .ref mta, .int 0]))]) rfl rfl
        exact W.zret (ty := .char) (v := 100) hx hb hr rfl (fun t ht hW => ⟨⟨100, (), rfl, rfl, by rw [ht]; exact hP9, hD9⟩, hS.F ht⟩) hS.2.2 dX9_setFormat_58
      · refine lv_iload_n hx hb dX9_setFormat_30 rfl (lv_at hl 2 rfl) ?_
        refine lv_bipush (v := 82) hx hb dX9_setFormat_31 (by decide) ?_
        refine lv_icmp_eq (tgt := 43) hx hb dX9_setFormat_33 (by decide) (fun _ => ?_) (fun q => absurd q (fun h => hq.elim c1 (fun z => z.elim c2 (fun z => z.elim c3 h))))
        refine lv_aload_n hx hb dX9_setFormat_43 rfl (lv_at hl 0 rfl) ?_
        refine va_get (D := D) (ci := 12) (v := .ref mfo) (C := RX9) (T := TX9) (N := 22) hx hb hts (fun _ h => List.mem_cons_of_mem _ (List.mem_append_left _ (List.mem_append_right _ h))) hown hK hP 0 rfl rfl 12 (by decide) (hts (.fieldLink RX9 46 "NumberingTreeModel" "formats" "[C") (List.mem_of_getElem? (i := 2) rfl)) (fun _ h9 => h9) rfl dX9_setFormat_44 ?_
        refine lv_iload_n hx hb dX9_setFormat_47 rfl (lv_at hl 1 rfl) ?_
        refine va_cald hx hb hK hP 1 0 rfl rfl (zLv_in hp) dX9_setFormat_48 ?_
        refine zt_i 100 hf ?_
        refine lv_istore_n (lv' := [(3, .int 100), (0, .ref mm), (1, .int p), (2, .int q)]) hx hb dX9_setFormat_49 rfl hl (by decide) rfl (fun ls hl => ?_)
        refine lv_aload_n hx hb dX9_setFormat_50 rfl (lv_at hl 1 rfl) ?_
        refine va_get (D := D) (ci := 12) (v := .ref mfo) (C := RX9) (T := TX9) (N := 22) hx hb hts (fun _ h => List.mem_cons_of_mem _ (List.mem_append_left _ (List.mem_append_right _ h))) hown hK hP 0 rfl rfl 12 (by decide) (hts (.fieldLink RX9 46 "NumberingTreeModel" "formats" "[C") (List.mem_of_getElem? (i := 2) rfl)) (fun _ h9 => h9) rfl dX9_setFormat_51 ?_
        refine lv_iload_n hx hb dX9_setFormat_54 rfl (lv_at hl 2 rfl) ?_
        refine lv_iload_n hx hb dX9_setFormat_55 rfl (lv_at hl 3 rfl) ?_
        refine va_cast hx hb hK hP hD hS 1 0 rfl rfl (zLv_in hp) dX9_setFormat_56 (fun H locs hP hD hS => ?_)
        have hP : va_P D vwCl [(mm, .inr (12, [.int 0, .ref mlv, .ref msr, .ref mrs, .ref mpa, .ref mnu, .ref mlt, .ref mpl, .ref mod, .ref mic, .ref mgo, .ref msk, .ref mfo, .int 0, .int 0, .ref mul, .ref mup, .ref mun, .int 0, .ref mfr, .ref mta, .int 0])), (mfo, .inl (cC, 5, .inl (upd f (p).toNatClampNeg (vp_nar .char q))))] H := hP
        have hD : va_D A [(mm, .inr (12, [.int 0, .ref mlv, .ref msr, .ref mrs, .ref mpa, .ref mnu, .ref mlt, .ref mpl, .ref mod, .ref mic, .ref mgo, .ref msk, .ref mfo, .int 0, .int 0, .ref mul, .ref mup, .ref mun, .int 0, .ref mfr, .ref mta, .int 0])), (mfo, .inl (cC, 5, .inl (upd f (p).toNatClampNeg (vp_nar .char q))))] := hD
        refine lv_iload_n hx hb dX9_setFormat_57 rfl (lv_at hl 0 rfl) ?_
        obtain ⟨hP9, hD9⟩ := z_get hP hD [0] (wc := [(mm, .inr (12, [.int 0, .ref mlv, .ref msr, .ref mrs, .ref mpa, .ref mnu, .ref mlt, .ref mpl, .ref mod, .ref mic, .ref mgo, .ref msk, .ref mfo, .int 0, .int 0, .ref mul, .ref mup, .ref mun, .int 0, .ref mfr, .ref mta, .int 0]))]) rfl rfl
        exact W.zret (ty := .char) (v := 100) hx hb hr rfl (fun t ht hW => ⟨⟨100, (), rfl, rfl, by rw [ht]; exact hP9, hD9⟩, hS.F ht⟩) hS.2.2 dX9_setFormat_58

set_option maxHeartbeats 4000000 in
set_option maxRecDepth 100000 in
theorem m_setFormatF (l : Launch) (D : va_G) (cI : ClassId) (mm mlv msr mrs mpa mnu mlt mpl mod mic mgo msk mfo mul mup mun mfr mta : Nat) (t p q : Int32) (sz : Nat) (hp : ¬ (zLv p ∧ zFo q)) : Met l yX9_setFormat wsX9_setFormat ({ frames := 2, cells := 0, slots := 0, locals := 42 }) (va_Pc [.ref mm, .int p, .int q] (zPre D [(cI, .int)] [(mm, .inr (12, [.int t, .ref mlv, .ref msr, .ref mrs, .ref mpa, .ref mnu, .ref mlt, .ref mpl, .ref mod, .ref mic, .ref mgo, .ref msk, .ref mfo, .int 0, .int 0, .ref mul, .ref mup, .ref mun, .int 0, .ref mfr, .ref mta, .int 0]))] sz)) (va_Qi (fun rv (_ : Unit) => rv = 0) (fun (_ : Unit) => zB D [(mm, .inr (12, [.int 1, .ref mlv, .ref msr, .ref mrs, .ref mpa, .ref mnu, .ref mlt, .ref mpl, .ref mod, .ref mic, .ref mgo, .ref msk, .ref mfo, .int 0, .int 0, .ref mul, .ref mup, .ref mun, .int 0, .ref mfr, .ref mta, .int 0]))] (va_A [(mm, .inr (12, [.int t, .ref mlv, .ref msr, .ref mrs, .ref mpa, .ref mnu, .ref mlt, .ref mpl, .ref mod, .ref mic, .ref mgo, .ref msk, .ref mfo, .int 0, .int 0, .ref mul, .ref mup, .ref mun, .int 0, .ref mfr, .ref mta, .int 0]))] sz)) (va_A [(mm, .inr (12, [.int t, .ref mlv, .ref msr, .ref mrs, .ref mpa, .ref mnu, .ref mlt, .ref mpl, .ref mod, .ref mic, .ref mgo, .ref msk, .ref mfo, .int 0, .int 0, .ref mul, .ref mup, .ref mun, .int 0, .ref mfr, .ref mta, .int 0]))] sz)) 0 0 (va_A [(mm, .inr (12, [.int t, .ref mlv, .ref msr, .ref mrs, .ref mpa, .ref mnu, .ref mlt, .ref mpl, .ref mod, .ref mic, .ref mgo, .ref msk, .ref mfo, .int 0, .int 0, .ref mul, .ref mup, .ref mun, .int 0, .ref mfr, .ref mta, .int 0]))] sz) := by
  refine Met.ofW (cc := cX9_setFormat) (maxL := 4) (ret := (some .char)) (by decide) rfl ?_
  intro P0 E0 s m args below meth C9 s₁ B hml hv
  obtain ⟨rfl, hsz, hP, hK, hD0⟩ := hv
  have hx := B.exec
  have hb := B.bytes
  have hr := B.returns
  have hts := atoms_spec (ws := wsX9_setFormat) B.pre
  have hown : s.vm.findClass RX9 = some m.cls := findClass_of_methodNamed B.named
  have hlocks := B.notSynchronized
  subst hsz
  have hD := hD0.self (sz := s.heap.size)
  generalize hAe : va_A [(mm, .inr (12, [.int t, .ref mlv, .ref msr, .ref mrs, .ref mpa, .ref mnu, .ref mlt, .ref mpl, .ref mod, .ref mic, .ref mgo, .ref msk, .ref mfo, .int 0, .int 0, .ref mul, .ref mup, .ref mun, .int 0, .ref mfr, .ref mta, .int 0]))] s.heap.size = A at hD ⊢
  have hA : ∀ q : Nat, s.heap.size ≤ q → A q := fun q h => by rw [← hAe]; exact Or.inr h
  have hS : va_S A s.heap s.heap [] := va_S.rf
  have hl := lv_entry ([.ref mm, .int p, .int q]) (n := 4) (Nat.le_of_ble_eq_true rfl)
  rw [lg_entry_eq]
  generalize (lg_sl ([.ref mm, .int p, .int q]) ++ List.replicate (4 - (lg_sl ([.ref mm, .int p, .int q])).length) Slot.unset).toArray = ls at hl ⊢
  have hl : lv_has ls 4 [(0, .ref mm), (1, .int p), (2, .int q)] := hl
  refine lv_aload_n hx hb dX9_setFormat_0 rfl (lv_at hl 0 rfl) ?_
  refine lv_iconst (v := 0) hx hb dX9_setFormat_1 (by decide) ?_
  refine va_put (D := D) (ci := 12) (v := .int 0) (ty := .int) (C := RX9) (T := TX9) (N := 22) hx hb hts (fun _ h => List.mem_cons_of_mem _ (List.mem_append_left _ (List.mem_append_right _ h))) tyX9 tyX9_ok nmX9 hown hK hP hD hS 0 rfl rfl 0 (by decide) (hts (.fieldLink RX9 65 "NumberingTreeModel" "thrown" "I") (List.mem_of_getElem? (i := 1) rfl)) (fun _ h9 => h9) rfl (by decide +kernel) rfl rfl (Nat.le_of_ble_eq_true rfl) dX9_setFormat_2 (fun H locs hP hD hS => ?_)
  have hP : va_P D vwCl [(mm, .inr (12, [.int 0, .ref mlv, .ref msr, .ref mrs, .ref mpa, .ref mnu, .ref mlt, .ref mpl, .ref mod, .ref mic, .ref mgo, .ref msk, .ref mfo, .int 0, .int 0, .ref mul, .ref mup, .ref mun, .int 0, .ref mfr, .ref mta, .int 0]))] H := hP
  have hD : va_D A [(mm, .inr (12, [.int 0, .ref mlv, .ref msr, .ref mrs, .ref mpa, .ref mnu, .ref mlt, .ref mpl, .ref mod, .ref mic, .ref mgo, .ref msk, .ref mfo, .int 0, .int 0, .ref mul, .ref mup, .ref mun, .int 0, .ref mfr, .ref mta, .int 0]))] := hD
  refine lv_iload_n hx hb dX9_setFormat_5 rfl (lv_at hl 1 rfl) ?_
  by_cases hc : zLv p
  · refine zc_i (wc := []) (wr := [(mm, .inr (12, [.int 0, .ref mlv, .ref msr, .ref mrs, .ref mpa, .ref mnu, .ref mlt, .ref mpl, .ref mod, .ref mic, .ref mgo, .ref msk, .ref mfo, .int 0, .int 0, .ref mul, .ref mup, .ref mun, .int 0, .ref mfr, .ref mta, .int 0]))]) (va_runS (As := [.int p]) (rest := []) ⟨hx, hb, hml, hown, hts⟩ (k_isLevelT l D cI p H.size hc) (va_cwS 1 hts gX9_setFormat_X9_isLevel rfl rfl rfl (by decide +kernel) ⟨Nat.le_of_ble_eq_true rfl, Nat.le_of_ble_eq_true rfl⟩) (zPS hK hP hD [] rfl rfl [0] rfl) rfl rfl hl.1 rfl (lv_room (Nat.le_of_ble_eq_true rfl)) dX9_setFormat_6 ⟨Nat.le_of_ble_eq_true rfl, Nat.le_of_ble_eq_true rfl⟩) hP hD hS hA [] [0] rfl rfl rfl (by decide) (fun r _ H locs hw hP hD hS => ?_)
    have hP : va_P D vwCl [(mm, .inr (12, [.int 0, .ref mlv, .ref msr, .ref mrs, .ref mpa, .ref mnu, .ref mlt, .ref mpl, .ref mod, .ref mic, .ref mgo, .ref msk, .ref mfo, .int 0, .int 0, .ref mul, .ref mup, .ref mun, .int 0, .ref mfr, .ref mta, .int 0]))] H := hP
    have hD : va_D A [(mm, .inr (12, [.int 0, .ref mlv, .ref msr, .ref mrs, .ref mpa, .ref mnu, .ref mlt, .ref mpl, .ref mod, .ref mic, .ref mgo, .ref msk, .ref mfo, .int 0, .int 0, .ref mul, .ref mup, .ref mun, .int 0, .ref mfr, .ref mta, .int 0]))] := hD
    subst hw
    refine lv_if_eq (tgt := 36) hx hb dX9_setFormat_9 (by decide) (fun q => absurd q (by decide)) (fun _ => ?_)
    refine lv_iload_n hx hb dX9_setFormat_12 rfl (lv_at hl 2 rfl) ?_
    refine lv_bipush (v := 100) hx hb dX9_setFormat_13 (by decide) ?_
    refine lv_icmp_eq (tgt := 43) hx hb dX9_setFormat_15 (by decide) (fun q => absurd q (fun h => hp ⟨hc, Or.inl h⟩)) (fun _ => ?_)
    refine lv_iload_n hx hb dX9_setFormat_18 rfl (lv_at hl 2 rfl) ?_
    refine lv_bipush (v := 108) hx hb dX9_setFormat_19 (by decide) ?_
    refine lv_icmp_eq (tgt := 43) hx hb dX9_setFormat_21 (by decide) (fun q => absurd q (fun h => hp ⟨hc, Or.inr (Or.inl h)⟩)) (fun _ => ?_)
    refine lv_iload_n hx hb dX9_setFormat_24 rfl (lv_at hl 2 rfl) ?_
    refine lv_bipush (v := 114) hx hb dX9_setFormat_25 (by decide) ?_
    refine lv_icmp_eq (tgt := 43) hx hb dX9_setFormat_27 (by decide) (fun q => absurd q (fun h => hp ⟨hc, Or.inr (Or.inr (Or.inl h))⟩)) (fun _ => ?_)
    refine lv_iload_n hx hb dX9_setFormat_30 rfl (lv_at hl 2 rfl) ?_
    refine lv_bipush (v := 82) hx hb dX9_setFormat_31 (by decide) ?_
    refine lv_icmp_eq (tgt := 43) hx hb dX9_setFormat_33 (by decide) (fun q => absurd q (fun h => hp ⟨hc, Or.inr (Or.inr (Or.inr h))⟩)) (fun _ => ?_)
    refine lv_aload_n hx hb dX9_setFormat_36 rfl (lv_at hl 0 rfl) ?_
    refine lv_iconst (v := 1) hx hb dX9_setFormat_37 (by decide) ?_
    refine zc_i (wc := [(mm, .inr (12, [.int 0, .ref mlv, .ref msr, .ref mrs, .ref mpa, .ref mnu, .ref mlt, .ref mpl, .ref mod, .ref mic, .ref mgo, .ref msk, .ref mfo, .int 0, .int 0, .ref mul, .ref mup, .ref mun, .int 0, .ref mfr, .ref mta, .int 0]))]) (wr := []) (va_runV (As := [.int 1]) (rest := []) ⟨hx, hb, hml, hown, hts⟩ (k_fails l D cI mm mlv msr mrs mpa mnu mlt mpl mod mic mgo msk mfo mul mup mun mfr mta 0 1 0 0 0 0 H.size) (cwV 1 hts gX9_setFormat_X9_fails rfl rfl rfl (by decide +kernel) ⟨Nat.le_of_ble_eq_true rfl, Nat.le_of_ble_eq_true rfl⟩) (zPV hK hP hD [0] rfl rfl [0] rfl 0 rfl rfl rfl) rfl rfl hl.1 rfl (lv_room (Nat.le_of_ble_eq_true rfl)) dX9_setFormat_38 ⟨Nat.le_of_ble_eq_true rfl, Nat.le_of_ble_eq_true rfl⟩) hP hD hS hA [0] [] rfl rfl rfl (by decide) (fun r _ H locs hw hP hD hS => ?_)
    have hP : va_P D vwCl [(mm, .inr (12, [.int 1, .ref mlv, .ref msr, .ref mrs, .ref mpa, .ref mnu, .ref mlt, .ref mpl, .ref mod, .ref mic, .ref mgo, .ref msk, .ref mfo, .int 0, .int 0, .ref mul, .ref mup, .ref mun, .int 0, .ref mfr, .ref mta, .int 0]))] H := hP
    have hD : va_D A [(mm, .inr (12, [.int 1, .ref mlv, .ref msr, .ref mrs, .ref mpa, .ref mnu, .ref mlt, .ref mpl, .ref mod, .ref mic, .ref mgo, .ref msk, .ref mfo, .int 0, .int 0, .ref mul, .ref mup, .ref mun, .int 0, .ref mfr, .ref mta, .int 0]))] := hD
    subst hw
    refine lv_i2c (v := 0) hx hb dX9_setFormat_41 (by decide) ?_
    obtain ⟨hP9, hD9⟩ := z_get hP hD [0] (wc := [(mm, .inr (12, [.int 1, .ref mlv, .ref msr, .ref mrs, .ref mpa, .ref mnu, .ref mlt, .ref mpl, .ref mod, .ref mic, .ref mgo, .ref msk, .ref mfo, .int 0, .int 0, .ref mul, .ref mup, .ref mun, .int 0, .ref mfr, .ref mta, .int 0]))]) rfl rfl
    exact W.zret (ty := .char) (v := 0) hx hb hr rfl (fun t ht hW => ⟨⟨0, (), rfl, rfl, by rw [ht]; exact hP9, hD9⟩, hS.F ht⟩) hS.2.2 dX9_setFormat_42
  · refine zc_i (wc := []) (wr := [(mm, .inr (12, [.int 0, .ref mlv, .ref msr, .ref mrs, .ref mpa, .ref mnu, .ref mlt, .ref mpl, .ref mod, .ref mic, .ref mgo, .ref msk, .ref mfo, .int 0, .int 0, .ref mul, .ref mup, .ref mun, .int 0, .ref mfr, .ref mta, .int 0]))]) (va_runS (As := [.int p]) (rest := []) ⟨hx, hb, hml, hown, hts⟩ (k_isLevelF l D cI p H.size hc) (va_cwS 1 hts gX9_setFormat_X9_isLevel rfl rfl rfl (by decide +kernel) ⟨Nat.le_of_ble_eq_true rfl, Nat.le_of_ble_eq_true rfl⟩) (zPS hK hP hD [] rfl rfl [0] rfl) rfl rfl hl.1 rfl (lv_room (Nat.le_of_ble_eq_true rfl)) dX9_setFormat_6 ⟨Nat.le_of_ble_eq_true rfl, Nat.le_of_ble_eq_true rfl⟩) hP hD hS hA [] [0] rfl rfl rfl (by decide) (fun r _ H locs hw hP hD hS => ?_)
    have hP : va_P D vwCl [(mm, .inr (12, [.int 0, .ref mlv, .ref msr, .ref mrs, .ref mpa, .ref mnu, .ref mlt, .ref mpl, .ref mod, .ref mic, .ref mgo, .ref msk, .ref mfo, .int 0, .int 0, .ref mul, .ref mup, .ref mun, .int 0, .ref mfr, .ref mta, .int 0]))] H := hP
    have hD : va_D A [(mm, .inr (12, [.int 0, .ref mlv, .ref msr, .ref mrs, .ref mpa, .ref mnu, .ref mlt, .ref mpl, .ref mod, .ref mic, .ref mgo, .ref msk, .ref mfo, .int 0, .int 0, .ref mul, .ref mup, .ref mun, .int 0, .ref mfr, .ref mta, .int 0]))] := hD
    subst hw
    refine lv_if_eq (tgt := 36) hx hb dX9_setFormat_9 (by decide) (fun _ => ?_) (fun q => absurd q (by decide))
    refine lv_aload_n hx hb dX9_setFormat_36 rfl (lv_at hl 0 rfl) ?_
    refine lv_iconst (v := 1) hx hb dX9_setFormat_37 (by decide) ?_
    refine zc_i (wc := [(mm, .inr (12, [.int 0, .ref mlv, .ref msr, .ref mrs, .ref mpa, .ref mnu, .ref mlt, .ref mpl, .ref mod, .ref mic, .ref mgo, .ref msk, .ref mfo, .int 0, .int 0, .ref mul, .ref mup, .ref mun, .int 0, .ref mfr, .ref mta, .int 0]))]) (wr := []) (va_runV (As := [.int 1]) (rest := []) ⟨hx, hb, hml, hown, hts⟩ (k_fails l D cI mm mlv msr mrs mpa mnu mlt mpl mod mic mgo msk mfo mul mup mun mfr mta 0 1 0 0 0 0 H.size) (cwV 1 hts gX9_setFormat_X9_fails rfl rfl rfl (by decide +kernel) ⟨Nat.le_of_ble_eq_true rfl, Nat.le_of_ble_eq_true rfl⟩) (zPV hK hP hD [0] rfl rfl [0] rfl 0 rfl rfl rfl) rfl rfl hl.1 rfl (lv_room (Nat.le_of_ble_eq_true rfl)) dX9_setFormat_38 ⟨Nat.le_of_ble_eq_true rfl, Nat.le_of_ble_eq_true rfl⟩) hP hD hS hA [0] [] rfl rfl rfl (by decide) (fun r _ H locs hw hP hD hS => ?_)
    have hP : va_P D vwCl [(mm, .inr (12, [.int 1, .ref mlv, .ref msr, .ref mrs, .ref mpa, .ref mnu, .ref mlt, .ref mpl, .ref mod, .ref mic, .ref mgo, .ref msk, .ref mfo, .int 0, .int 0, .ref mul, .ref mup, .ref mun, .int 0, .ref mfr, .ref mta, .int 0]))] H := hP
    have hD : va_D A [(mm, .inr (12, [.int 1, .ref mlv, .ref msr, .ref mrs, .ref mpa, .ref mnu, .ref mlt, .ref mpl, .ref mod, .ref mic, .ref mgo, .ref msk, .ref mfo, .int 0, .int 0, .ref mul, .ref mup, .ref mun, .int 0, .ref mfr, .ref mta, .int 0]))] := hD
    subst hw
    refine lv_i2c (v := 0) hx hb dX9_setFormat_41 (by decide) ?_
    obtain ⟨hP9, hD9⟩ := z_get hP hD [0] (wc := [(mm, .inr (12, [.int 1, .ref mlv, .ref msr, .ref mrs, .ref mpa, .ref mnu, .ref mlt, .ref mpl, .ref mod, .ref mic, .ref mgo, .ref msk, .ref mfo, .int 0, .int 0, .ref mul, .ref mup, .ref mun, .int 0, .ref mfr, .ref mta, .int 0]))]) rfl rfl
    exact W.zret (ty := .char) (v := 0) hx hb hr rfl (fun t ht hW => ⟨⟨0, (), rfl, rfl, by rw [ht]; exact hP9, hD9⟩, hS.F ht⟩) hS.2.2 dX9_setFormat_42

set_option maxHeartbeats 4000000 in
set_option maxRecDepth 100000 in
theorem m_setGoingOnT (l : Launch) (D : va_G) (cI cZ : ClassId) (mm mlv msr mrs mpa mnu mlt mpl mod mic mgo msk mfo mul mup mun mfr mta : Nat) (t p q : Int32) (sz : Nat) (hp : zLv p) : Met l yX9_setGoingOn wsX9_setGoingOn ({ frames := 2, cells := 0, slots := 0, locals := 42 }) (va_Pc [.ref mm, .int p, .int q] (zPre D [(cI, .int), (cZ, .boolean)] [(mm, .inr (12, [.int t, .ref mlv, .ref msr, .ref mrs, .ref mpa, .ref mnu, .ref mlt, .ref mpl, .ref mod, .ref mic, .ref mgo, .ref msk, .ref mfo, .int 0, .int 0, .ref mul, .ref mup, .ref mun, .int 0, .ref mfr, .ref mta, .int 0])), (mgo, .inl (cZ, 5, .inl (fun _ => 0)))] sz)) (va_Qi (fun rv (_ : Unit) => rv = 0) (fun (_ : Unit) => zB D [(mm, .inr (12, [.int 0, .ref mlv, .ref msr, .ref mrs, .ref mpa, .ref mnu, .ref mlt, .ref mpl, .ref mod, .ref mic, .ref mgo, .ref msk, .ref mfo, .int 0, .int 0, .ref mul, .ref mup, .ref mun, .int 0, .ref mfr, .ref mta, .int 0]))] (va_A [(mm, .inr (12, [.int t, .ref mlv, .ref msr, .ref mrs, .ref mpa, .ref mnu, .ref mlt, .ref mpl, .ref mod, .ref mic, .ref mgo, .ref msk, .ref mfo, .int 0, .int 0, .ref mul, .ref mup, .ref mun, .int 0, .ref mfr, .ref mta, .int 0])), (mgo, .inl (cZ, 5, .inl (fun _ => 0)))] sz)) (va_A [(mm, .inr (12, [.int t, .ref mlv, .ref msr, .ref mrs, .ref mpa, .ref mnu, .ref mlt, .ref mpl, .ref mod, .ref mic, .ref mgo, .ref msk, .ref mfo, .int 0, .int 0, .ref mul, .ref mup, .ref mun, .int 0, .ref mfr, .ref mta, .int 0])), (mgo, .inl (cZ, 5, .inl (fun _ => 0)))] sz)) 0 0 (va_A [(mm, .inr (12, [.int t, .ref mlv, .ref msr, .ref mrs, .ref mpa, .ref mnu, .ref mlt, .ref mpl, .ref mod, .ref mic, .ref mgo, .ref msk, .ref mfo, .int 0, .int 0, .ref mul, .ref mup, .ref mun, .int 0, .ref mfr, .ref mta, .int 0])), (mgo, .inl (cZ, 5, .inl (fun _ => 0)))] sz) := by
  refine Met.ofW (cc := cX9_setGoingOn) (maxL := 4) (ret := (some .boolean)) (by decide) rfl ?_
  intro P0 E0 s m args below meth C9 s₁ B hml hv
  obtain ⟨rfl, hsz, hP, hK, hD0⟩ := hv
  have hx := B.exec
  have hb := B.bytes
  have hr := B.returns
  have hts := atoms_spec (ws := wsX9_setGoingOn) B.pre
  have hown : s.vm.findClass RX9 = some m.cls := findClass_of_methodNamed B.named
  have hlocks := B.notSynchronized
  subst hsz
  have hD := hD0.self (sz := s.heap.size)
  generalize hAe : va_A [(mm, .inr (12, [.int t, .ref mlv, .ref msr, .ref mrs, .ref mpa, .ref mnu, .ref mlt, .ref mpl, .ref mod, .ref mic, .ref mgo, .ref msk, .ref mfo, .int 0, .int 0, .ref mul, .ref mup, .ref mun, .int 0, .ref mfr, .ref mta, .int 0])), (mgo, .inl (cZ, 5, .inl (fun _ => 0)))] s.heap.size = A at hD ⊢
  have hA : ∀ q : Nat, s.heap.size ≤ q → A q := fun q h => by rw [← hAe]; exact Or.inr h
  have hS : va_S A s.heap s.heap [] := va_S.rf
  have hl := lv_entry ([.ref mm, .int p, .int q]) (n := 4) (Nat.le_of_ble_eq_true rfl)
  rw [lg_entry_eq]
  generalize (lg_sl ([.ref mm, .int p, .int q]) ++ List.replicate (4 - (lg_sl ([.ref mm, .int p, .int q])).length) Slot.unset).toArray = ls at hl ⊢
  have hl : lv_has ls 4 [(0, .ref mm), (1, .int p), (2, .int q)] := hl
  refine lv_aload_n hx hb dX9_setGoingOn_0 rfl (lv_at hl 0 rfl) ?_
  refine lv_iconst (v := 0) hx hb dX9_setGoingOn_1 (by decide) ?_
  refine va_put (D := D) (ci := 12) (v := .int 0) (ty := .int) (C := RX9) (T := TX9) (N := 22) hx hb hts (fun _ h => List.mem_cons_of_mem _ (List.mem_append_left _ (List.mem_append_right _ h))) tyX9 tyX9_ok nmX9 hown hK hP hD hS 0 rfl rfl 0 (by decide) (hts (.fieldLink RX9 65 "NumberingTreeModel" "thrown" "I") (List.mem_of_getElem? (i := 1) rfl)) (fun _ h9 => h9) rfl (by decide +kernel) rfl rfl (Nat.le_of_ble_eq_true rfl) dX9_setGoingOn_2 (fun H locs hP hD hS => ?_)
  have hP : va_P D vwCl [(mm, .inr (12, [.int 0, .ref mlv, .ref msr, .ref mrs, .ref mpa, .ref mnu, .ref mlt, .ref mpl, .ref mod, .ref mic, .ref mgo, .ref msk, .ref mfo, .int 0, .int 0, .ref mul, .ref mup, .ref mun, .int 0, .ref mfr, .ref mta, .int 0])), (mgo, .inl (cZ, 5, .inl (fun _ => 0)))] H := hP
  have hD : va_D A [(mm, .inr (12, [.int 0, .ref mlv, .ref msr, .ref mrs, .ref mpa, .ref mnu, .ref mlt, .ref mpl, .ref mod, .ref mic, .ref mgo, .ref msk, .ref mfo, .int 0, .int 0, .ref mul, .ref mup, .ref mun, .int 0, .ref mfr, .ref mta, .int 0])), (mgo, .inl (cZ, 5, .inl (fun _ => 0)))] := hD
  refine lv_iload_n hx hb dX9_setGoingOn_5 rfl (lv_at hl 1 rfl) ?_
  refine zc_i (wc := []) (wr := [(mm, .inr (12, [.int 0, .ref mlv, .ref msr, .ref mrs, .ref mpa, .ref mnu, .ref mlt, .ref mpl, .ref mod, .ref mic, .ref mgo, .ref msk, .ref mfo, .int 0, .int 0, .ref mul, .ref mup, .ref mun, .int 0, .ref mfr, .ref mta, .int 0])), (mgo, .inl (cZ, 5, .inl (fun _ => 0)))]) (va_runS (As := [.int p]) (rest := []) ⟨hx, hb, hml, hown, hts⟩ (k_isLevelT l D cI p H.size hp) (va_cwS 1 hts gX9_setGoingOn_X9_isLevel rfl rfl rfl (by decide +kernel) ⟨Nat.le_of_ble_eq_true rfl, Nat.le_of_ble_eq_true rfl⟩) (zPS hK hP hD [] rfl rfl [0] rfl) rfl rfl hl.1 rfl (lv_room (Nat.le_of_ble_eq_true rfl)) dX9_setGoingOn_6 ⟨Nat.le_of_ble_eq_true rfl, Nat.le_of_ble_eq_true rfl⟩) hP hD hS hA [] [0, 1] rfl rfl rfl (by decide) (fun r _ H locs hw hP hD hS => ?_)
  have hP : va_P D vwCl [(mm, .inr (12, [.int 0, .ref mlv, .ref msr, .ref mrs, .ref mpa, .ref mnu, .ref mlt, .ref mpl, .ref mod, .ref mic, .ref mgo, .ref msk, .ref mfo, .int 0, .int 0, .ref mul, .ref mup, .ref mun, .int 0, .ref mfr, .ref mta, .int 0])), (mgo, .inl (cZ, 5, .inl (fun _ => 0)))] H := hP
  have hD : va_D A [(mm, .inr (12, [.int 0, .ref mlv, .ref msr, .ref mrs, .ref mpa, .ref mnu, .ref mlt, .ref mpl, .ref mod, .ref mic, .ref mgo, .ref msk, .ref mfo, .int 0, .int 0, .ref mul, .ref mup, .ref mun, .int 0, .ref mfr, .ref mta, .int 0])), (mgo, .inl (cZ, 5, .inl (fun _ => 0)))] := hD
  subst hw
  refine lv_if_ne (tgt := 18) hx hb dX9_setGoingOn_9 (by decide) (fun _ => ?_) (fun q => absurd q (by decide))
  refine lv_iconst (v := 0) hx hb dX9_setGoingOn_18 (by decide) ?_
  refine lv_istore_n (lv' := [(3, .int 0), (0, .ref mm), (1, .int p), (2, .int q)]) hx hb dX9_setGoingOn_19 rfl hl (by decide) rfl (fun ls hl => ?_)
  refine lv_iload_n hx hb dX9_setGoingOn_20 rfl (lv_at hl 0 rfl) ?_
  refine lv_aload_n hx hb dX9_setGoingOn_21 rfl (lv_at hl 1 rfl) ?_
  refine va_get (D := D) (ci := 12) (v := .int 0) (C := RX9) (T := TX9) (N := 22) hx hb hts (fun _ h => List.mem_cons_of_mem _ (List.mem_append_left _ (List.mem_append_right _ h))) hown hK hP 0 rfl rfl 14 (by decide) (hts (.fieldLink RX9 91 "NumberingTreeModel" "size" "I") (List.mem_of_getElem? (i := 2) rfl)) (fun _ h9 => h9) rfl dX9_setGoingOn_22 ?_
  refine lv_icmp_ge (tgt := 69) hx hb dX9_setGoingOn_25 (by decide) (fun _ => ?_) (fun q => absurd q (by decide))
  refine lv_aload_n hx hb dX9_setGoingOn_69 rfl (lv_at hl 1 rfl) ?_
  refine va_get (D := D) (ci := 12) (v := .ref mgo) (C := RX9) (T := TX9) (N := 22) hx hb hts (fun _ h => List.mem_cons_of_mem _ (List.mem_append_left _ (List.mem_append_right _ h))) hown hK hP 0 rfl rfl 10 (by decide) (hts (.fieldLink RX9 38 "NumberingTreeModel" "goesOn" "[Z") (List.mem_of_getElem? (i := 6) rfl)) (fun _ h9 => h9) rfl dX9_setGoingOn_70 ?_
  refine lv_iload_n hx hb dX9_setGoingOn_73 rfl (lv_at hl 2 rfl) ?_
  refine va_zald hx hb hK hP 1 1 rfl rfl (zLv_in hp) dX9_setGoingOn_74 ?_
  refine zt_i 0 rfl ?_
  refine lv_istore_n (lv' := [(3, .int 0), (0, .ref mm), (1, .int p), (2, .int q)]) hx hb dX9_setGoingOn_75 rfl hl (by decide) rfl (fun ls hl => ?_)
  refine lv_aload_n hx hb dX9_setGoingOn_76 rfl (lv_at hl 1 rfl) ?_
  refine va_get (D := D) (ci := 12) (v := .ref mgo) (C := RX9) (T := TX9) (N := 22) hx hb hts (fun _ h => List.mem_cons_of_mem _ (List.mem_append_left _ (List.mem_append_right _ h))) hown hK hP 0 rfl rfl 10 (by decide) (hts (.fieldLink RX9 38 "NumberingTreeModel" "goesOn" "[Z") (List.mem_of_getElem? (i := 6) rfl)) (fun _ h9 => h9) rfl dX9_setGoingOn_77 ?_
  refine lv_iload_n hx hb dX9_setGoingOn_80 rfl (lv_at hl 2 rfl) ?_
  refine lv_iload_n hx hb dX9_setGoingOn_81 rfl (lv_at hl 3 rfl) ?_
  refine va_zast hx hb hK hP hD hS 1 1 rfl rfl (zLv_in hp) dX9_setGoingOn_82 (fun H locs hP hD hS => ?_)
  have hP : va_P D vwCl [(mm, .inr (12, [.int 0, .ref mlv, .ref msr, .ref mrs, .ref mpa, .ref mnu, .ref mlt, .ref mpl, .ref mod, .ref mic, .ref mgo, .ref msk, .ref mfo, .int 0, .int 0, .ref mul, .ref mup, .ref mun, .int 0, .ref mfr, .ref mta, .int 0])), (mgo, .inl (cZ, 5, .inl (upd (fun _ => 0) (p).toNatClampNeg (vp_nar .boolean q))))] H := hP
  have hD : va_D A [(mm, .inr (12, [.int 0, .ref mlv, .ref msr, .ref mrs, .ref mpa, .ref mnu, .ref mlt, .ref mpl, .ref mod, .ref mic, .ref mgo, .ref msk, .ref mfo, .int 0, .int 0, .ref mul, .ref mup, .ref mun, .int 0, .ref mfr, .ref mta, .int 0])), (mgo, .inl (cZ, 5, .inl (upd (fun _ => 0) (p).toNatClampNeg (vp_nar .boolean q))))] := hD
  refine lv_aload_n hx hb dX9_setGoingOn_83 rfl (lv_at hl 1 rfl) ?_
  refine zc_v (wc := [(mm, .inr (12, [.int 0, .ref mlv, .ref msr, .ref mrs, .ref mpa, .ref mnu, .ref mlt, .ref mpl, .ref mod, .ref mic, .ref mgo, .ref msk, .ref mfo, .int 0, .int 0, .ref mul, .ref mup, .ref mun, .int 0, .ref mfr, .ref mta, .int 0]))]) (wr := [(mgo, .inl (cZ, 5, .inl (upd (fun _ => 0) (p).toNatClampNeg (vp_nar .boolean q))))]) (va_runV (As := []) (rest := []) ⟨hx, hb, hml, hown, hts⟩ (k_settles0 l D cI mm mlv msr mrs mpa mnu mlt mpl mod mic mgo msk mfo mul mup mun mfr mta 0 H.size) (cwV 0 hts gX9_setGoingOn_X9_settles rfl rfl rfl (by decide +kernel) ⟨Nat.le_of_ble_eq_true rfl, Nat.le_of_ble_eq_true rfl⟩) (zPV hK hP hD [0] rfl rfl [0] rfl 0 rfl rfl rfl) rfl rfl hl.1 rfl (lv_room (Nat.le_of_ble_eq_true rfl)) dX9_setGoingOn_84 ⟨Nat.le_of_ble_eq_true rfl, Nat.le_of_ble_eq_true rfl⟩) hP hD hS hA [0] [1] rfl rfl rfl (by decide) (fun  _ H locs hw hP hD hS => ?_)
  have hP : va_P D vwCl [(mgo, .inl (cZ, 5, .inl (upd (fun _ => 0) (p).toNatClampNeg (vp_nar .boolean q)))), (mm, .inr (12, [.int 0, .ref mlv, .ref msr, .ref mrs, .ref mpa, .ref mnu, .ref mlt, .ref mpl, .ref mod, .ref mic, .ref mgo, .ref msk, .ref mfo, .int 0, .int 0, .ref mul, .ref mup, .ref mun, .int 0, .ref mfr, .ref mta, .int 0]))] H := hP
  have hD : va_D A [(mgo, .inl (cZ, 5, .inl (upd (fun _ => 0) (p).toNatClampNeg (vp_nar .boolean q)))), (mm, .inr (12, [.int 0, .ref mlv, .ref msr, .ref mrs, .ref mpa, .ref mnu, .ref mlt, .ref mpl, .ref mod, .ref mic, .ref mgo, .ref msk, .ref mfo, .int 0, .int 0, .ref mul, .ref mup, .ref mun, .int 0, .ref mfr, .ref mta, .int 0]))] := hD
  refine lv_iload_n hx hb dX9_setGoingOn_87 rfl (lv_at hl 0 rfl) ?_
  obtain ⟨hP9, hD9⟩ := z_get hP hD [1] (wc := [(mm, .inr (12, [.int 0, .ref mlv, .ref msr, .ref mrs, .ref mpa, .ref mnu, .ref mlt, .ref mpl, .ref mod, .ref mic, .ref mgo, .ref msk, .ref mfo, .int 0, .int 0, .ref mul, .ref mup, .ref mun, .int 0, .ref mfr, .ref mta, .int 0]))]) rfl rfl
  exact W.zret (ty := .boolean) (v := 0) hx hb hr rfl (fun t ht hW => ⟨⟨0, (), rfl, rfl, by rw [ht]; exact hP9, hD9⟩, hS.F ht⟩) hS.2.2 dX9_setGoingOn_88

set_option maxHeartbeats 4000000 in
set_option maxRecDepth 100000 in
theorem m_setGoingOnF (l : Launch) (D : va_G) (cI : ClassId) (mm mlv msr mrs mpa mnu mlt mpl mod mic mgo msk mfo mul mup mun mfr mta : Nat) (t p q : Int32) (sz : Nat) (hp : ¬ zLv p) : Met l yX9_setGoingOn wsX9_setGoingOn ({ frames := 2, cells := 0, slots := 0, locals := 42 }) (va_Pc [.ref mm, .int p, .int q] (zPre D [(cI, .int)] [(mm, .inr (12, [.int t, .ref mlv, .ref msr, .ref mrs, .ref mpa, .ref mnu, .ref mlt, .ref mpl, .ref mod, .ref mic, .ref mgo, .ref msk, .ref mfo, .int 0, .int 0, .ref mul, .ref mup, .ref mun, .int 0, .ref mfr, .ref mta, .int 0]))] sz)) (va_Qi (fun rv (_ : Unit) => rv = 0) (fun (_ : Unit) => zB D [(mm, .inr (12, [.int 1, .ref mlv, .ref msr, .ref mrs, .ref mpa, .ref mnu, .ref mlt, .ref mpl, .ref mod, .ref mic, .ref mgo, .ref msk, .ref mfo, .int 0, .int 0, .ref mul, .ref mup, .ref mun, .int 0, .ref mfr, .ref mta, .int 0]))] (va_A [(mm, .inr (12, [.int t, .ref mlv, .ref msr, .ref mrs, .ref mpa, .ref mnu, .ref mlt, .ref mpl, .ref mod, .ref mic, .ref mgo, .ref msk, .ref mfo, .int 0, .int 0, .ref mul, .ref mup, .ref mun, .int 0, .ref mfr, .ref mta, .int 0]))] sz)) (va_A [(mm, .inr (12, [.int t, .ref mlv, .ref msr, .ref mrs, .ref mpa, .ref mnu, .ref mlt, .ref mpl, .ref mod, .ref mic, .ref mgo, .ref msk, .ref mfo, .int 0, .int 0, .ref mul, .ref mup, .ref mun, .int 0, .ref mfr, .ref mta, .int 0]))] sz)) 0 0 (va_A [(mm, .inr (12, [.int t, .ref mlv, .ref msr, .ref mrs, .ref mpa, .ref mnu, .ref mlt, .ref mpl, .ref mod, .ref mic, .ref mgo, .ref msk, .ref mfo, .int 0, .int 0, .ref mul, .ref mup, .ref mun, .int 0, .ref mfr, .ref mta, .int 0]))] sz) := by
  refine Met.ofW (cc := cX9_setGoingOn) (maxL := 4) (ret := (some .boolean)) (by decide) rfl ?_
  intro P0 E0 s m args below meth C9 s₁ B hml hv
  obtain ⟨rfl, hsz, hP, hK, hD0⟩ := hv
  have hx := B.exec
  have hb := B.bytes
  have hr := B.returns
  have hts := atoms_spec (ws := wsX9_setGoingOn) B.pre
  have hown : s.vm.findClass RX9 = some m.cls := findClass_of_methodNamed B.named
  have hlocks := B.notSynchronized
  subst hsz
  have hD := hD0.self (sz := s.heap.size)
  generalize hAe : va_A [(mm, .inr (12, [.int t, .ref mlv, .ref msr, .ref mrs, .ref mpa, .ref mnu, .ref mlt, .ref mpl, .ref mod, .ref mic, .ref mgo, .ref msk, .ref mfo, .int 0, .int 0, .ref mul, .ref mup, .ref mun, .int 0, .ref mfr, .ref mta, .int 0]))] s.heap.size = A at hD ⊢
  have hA : ∀ q : Nat, s.heap.size ≤ q → A q := fun q h => by rw [← hAe]; exact Or.inr h
  have hS : va_S A s.heap s.heap [] := va_S.rf
  have hl := lv_entry ([.ref mm, .int p, .int q]) (n := 4) (Nat.le_of_ble_eq_true rfl)
  rw [lg_entry_eq]
  generalize (lg_sl ([.ref mm, .int p, .int q]) ++ List.replicate (4 - (lg_sl ([.ref mm, .int p, .int q])).length) Slot.unset).toArray = ls at hl ⊢
  have hl : lv_has ls 4 [(0, .ref mm), (1, .int p), (2, .int q)] := hl
  refine lv_aload_n hx hb dX9_setGoingOn_0 rfl (lv_at hl 0 rfl) ?_
  refine lv_iconst (v := 0) hx hb dX9_setGoingOn_1 (by decide) ?_
  refine va_put (D := D) (ci := 12) (v := .int 0) (ty := .int) (C := RX9) (T := TX9) (N := 22) hx hb hts (fun _ h => List.mem_cons_of_mem _ (List.mem_append_left _ (List.mem_append_right _ h))) tyX9 tyX9_ok nmX9 hown hK hP hD hS 0 rfl rfl 0 (by decide) (hts (.fieldLink RX9 65 "NumberingTreeModel" "thrown" "I") (List.mem_of_getElem? (i := 1) rfl)) (fun _ h9 => h9) rfl (by decide +kernel) rfl rfl (Nat.le_of_ble_eq_true rfl) dX9_setGoingOn_2 (fun H locs hP hD hS => ?_)
  have hP : va_P D vwCl [(mm, .inr (12, [.int 0, .ref mlv, .ref msr, .ref mrs, .ref mpa, .ref mnu, .ref mlt, .ref mpl, .ref mod, .ref mic, .ref mgo, .ref msk, .ref mfo, .int 0, .int 0, .ref mul, .ref mup, .ref mun, .int 0, .ref mfr, .ref mta, .int 0]))] H := hP
  have hD : va_D A [(mm, .inr (12, [.int 0, .ref mlv, .ref msr, .ref mrs, .ref mpa, .ref mnu, .ref mlt, .ref mpl, .ref mod, .ref mic, .ref mgo, .ref msk, .ref mfo, .int 0, .int 0, .ref mul, .ref mup, .ref mun, .int 0, .ref mfr, .ref mta, .int 0]))] := hD
  refine lv_iload_n hx hb dX9_setGoingOn_5 rfl (lv_at hl 1 rfl) ?_
  refine zc_i (wc := []) (wr := [(mm, .inr (12, [.int 0, .ref mlv, .ref msr, .ref mrs, .ref mpa, .ref mnu, .ref mlt, .ref mpl, .ref mod, .ref mic, .ref mgo, .ref msk, .ref mfo, .int 0, .int 0, .ref mul, .ref mup, .ref mun, .int 0, .ref mfr, .ref mta, .int 0]))]) (va_runS (As := [.int p]) (rest := []) ⟨hx, hb, hml, hown, hts⟩ (k_isLevelF l D cI p H.size hp) (va_cwS 1 hts gX9_setGoingOn_X9_isLevel rfl rfl rfl (by decide +kernel) ⟨Nat.le_of_ble_eq_true rfl, Nat.le_of_ble_eq_true rfl⟩) (zPS hK hP hD [] rfl rfl [0] rfl) rfl rfl hl.1 rfl (lv_room (Nat.le_of_ble_eq_true rfl)) dX9_setGoingOn_6 ⟨Nat.le_of_ble_eq_true rfl, Nat.le_of_ble_eq_true rfl⟩) hP hD hS hA [] [0] rfl rfl rfl (by decide) (fun r _ H locs hw hP hD hS => ?_)
  have hP : va_P D vwCl [(mm, .inr (12, [.int 0, .ref mlv, .ref msr, .ref mrs, .ref mpa, .ref mnu, .ref mlt, .ref mpl, .ref mod, .ref mic, .ref mgo, .ref msk, .ref mfo, .int 0, .int 0, .ref mul, .ref mup, .ref mun, .int 0, .ref mfr, .ref mta, .int 0]))] H := hP
  have hD : va_D A [(mm, .inr (12, [.int 0, .ref mlv, .ref msr, .ref mrs, .ref mpa, .ref mnu, .ref mlt, .ref mpl, .ref mod, .ref mic, .ref mgo, .ref msk, .ref mfo, .int 0, .int 0, .ref mul, .ref mup, .ref mun, .int 0, .ref mfr, .ref mta, .int 0]))] := hD
  subst hw
  refine lv_if_ne (tgt := 18) hx hb dX9_setGoingOn_9 (by decide) (fun q => absurd q (by decide)) (fun _ => ?_)
  refine lv_aload_n hx hb dX9_setGoingOn_12 rfl (lv_at hl 0 rfl) ?_
  refine lv_iconst (v := 1) hx hb dX9_setGoingOn_13 (by decide) ?_
  refine zc_i (wc := [(mm, .inr (12, [.int 0, .ref mlv, .ref msr, .ref mrs, .ref mpa, .ref mnu, .ref mlt, .ref mpl, .ref mod, .ref mic, .ref mgo, .ref msk, .ref mfo, .int 0, .int 0, .ref mul, .ref mup, .ref mun, .int 0, .ref mfr, .ref mta, .int 0]))]) (wr := []) (va_runV (As := [.int 1]) (rest := []) ⟨hx, hb, hml, hown, hts⟩ (k_isWrong l D cI mm mlv msr mrs mpa mnu mlt mpl mod mic mgo msk mfo mul mup mun mfr mta 0 1 H.size) (cwV 1 hts gX9_setGoingOn_X9_isWrong rfl rfl rfl (by decide +kernel) ⟨Nat.le_of_ble_eq_true rfl, Nat.le_of_ble_eq_true rfl⟩) (zPV hK hP hD [0] rfl rfl [0] rfl 0 rfl rfl rfl) rfl rfl hl.1 rfl (lv_room (Nat.le_of_ble_eq_true rfl)) dX9_setGoingOn_14 ⟨Nat.le_of_ble_eq_true rfl, Nat.le_of_ble_eq_true rfl⟩) hP hD hS hA [0] [] rfl rfl rfl (by decide) (fun r _ H locs hw hP hD hS => ?_)
  have hP : va_P D vwCl [(mm, .inr (12, [.int 1, .ref mlv, .ref msr, .ref mrs, .ref mpa, .ref mnu, .ref mlt, .ref mpl, .ref mod, .ref mic, .ref mgo, .ref msk, .ref mfo, .int 0, .int 0, .ref mul, .ref mup, .ref mun, .int 0, .ref mfr, .ref mta, .int 0]))] H := hP
  have hD : va_D A [(mm, .inr (12, [.int 1, .ref mlv, .ref msr, .ref mrs, .ref mpa, .ref mnu, .ref mlt, .ref mpl, .ref mod, .ref mic, .ref mgo, .ref msk, .ref mfo, .int 0, .int 0, .ref mul, .ref mup, .ref mun, .int 0, .ref mfr, .ref mta, .int 0]))] := hD
  subst hw
  obtain ⟨hP9, hD9⟩ := z_get hP hD [0] (wc := [(mm, .inr (12, [.int 1, .ref mlv, .ref msr, .ref mrs, .ref mpa, .ref mnu, .ref mlt, .ref mpl, .ref mod, .ref mic, .ref mgo, .ref msk, .ref mfo, .int 0, .int 0, .ref mul, .ref mup, .ref mun, .int 0, .ref mfr, .ref mta, .int 0]))]) rfl rfl
  exact W.zret (ty := .boolean) (v := 0) hx hb hr rfl (fun t ht hW => ⟨⟨0, (), rfl, rfl, by rw [ht]; exact hP9, hD9⟩, hS.F ht⟩) hS.2.2 dX9_setGoingOn_17

set_option maxHeartbeats 4000000 in
set_option maxRecDepth 100000 in
theorem k_skips1 (l : Launch) (D : va_G) (cI cQ cZ : ClassId) (mm mlv msr mrs mpa mnu mlt mpl mod mic mgo msk mfo mul mup mun mfr mta yy : Nat) (t p q : Int32) (g : Nat → Option Nat) (sz : Nat) (hp : zSk p q) (hg : g p.toNatClampNeg = some yy) : Met l yX9_skips wsX9_skips ({ frames := 2, cells := 0, slots := 0, locals := 42 }) (va_Pc [.ref mm, .int p, .int q, .int 1] (zPre D [(cI, .int), (cZ, .boolean), (cQ, .array .boolean)] [(mm, .inr (12, [.int t, .ref mlv, .ref msr, .ref mrs, .ref mpa, .ref mnu, .ref mlt, .ref mpl, .ref mod, .ref mic, .ref mgo, .ref msk, .ref mfo, .int 0, .int 0, .ref mul, .ref mup, .ref mun, .int 0, .ref mfr, .ref mta, .int 0])), (msk, .inl (cQ, 5, .inr (.inr (.inr (.inr g))))), (yy, .inl (cZ, 100, .inl (fun _ => 0)))] sz)) (va_Qi (fun rv (_ : Unit) => rv = 1) (fun (_ : Unit) => zB D [(mm, .inr (12, [.int 0, .ref mlv, .ref msr, .ref mrs, .ref mpa, .ref mnu, .ref mlt, .ref mpl, .ref mod, .ref mic, .ref mgo, .ref msk, .ref mfo, .int 0, .int 0, .ref mul, .ref mup, .ref mun, .int 0, .ref mfr, .ref mta, .int 0]))] (va_A [(mm, .inr (12, [.int t, .ref mlv, .ref msr, .ref mrs, .ref mpa, .ref mnu, .ref mlt, .ref mpl, .ref mod, .ref mic, .ref mgo, .ref msk, .ref mfo, .int 0, .int 0, .ref mul, .ref mup, .ref mun, .int 0, .ref mfr, .ref mta, .int 0])), (msk, .inl (cQ, 5, .inr (.inr (.inr (.inr g))))), (yy, .inl (cZ, 100, .inl (fun _ => 0)))] sz)) (va_A [(mm, .inr (12, [.int t, .ref mlv, .ref msr, .ref mrs, .ref mpa, .ref mnu, .ref mlt, .ref mpl, .ref mod, .ref mic, .ref mgo, .ref msk, .ref mfo, .int 0, .int 0, .ref mul, .ref mup, .ref mun, .int 0, .ref mfr, .ref mta, .int 0])), (msk, .inl (cQ, 5, .inr (.inr (.inr (.inr g))))), (yy, .inl (cZ, 100, .inl (fun _ => 0)))] sz)) 0 0 (va_A [(mm, .inr (12, [.int t, .ref mlv, .ref msr, .ref mrs, .ref mpa, .ref mnu, .ref mlt, .ref mpl, .ref mod, .ref mic, .ref mgo, .ref msk, .ref mfo, .int 0, .int 0, .ref mul, .ref mup, .ref mun, .int 0, .ref mfr, .ref mta, .int 0])), (msk, .inl (cQ, 5, .inr (.inr (.inr (.inr g))))), (yy, .inl (cZ, 100, .inl (fun _ => 0)))] sz) := by
  refine Met.ofW (cc := cX9_skips) (maxL := 6) (ret := (some .int)) (by decide) rfl ?_
  intro P0 E0 s m args below meth C9 s₁ B hml hv
  obtain ⟨rfl, hsz, hP, hK, hD0⟩ := hv
  have hx := B.exec
  have hb := B.bytes
  have hr := B.returns
  have hts := atoms_spec (ws := wsX9_skips) B.pre
  have hown : s.vm.findClass RX9 = some m.cls := findClass_of_methodNamed B.named
  have hlocks := B.notSynchronized
  subst hsz
  have hD := hD0.self (sz := s.heap.size)
  generalize hAe : va_A [(mm, .inr (12, [.int t, .ref mlv, .ref msr, .ref mrs, .ref mpa, .ref mnu, .ref mlt, .ref mpl, .ref mod, .ref mic, .ref mgo, .ref msk, .ref mfo, .int 0, .int 0, .ref mul, .ref mup, .ref mun, .int 0, .ref mfr, .ref mta, .int 0])), (msk, .inl (cQ, 5, .inr (.inr (.inr (.inr g))))), (yy, .inl (cZ, 100, .inl (fun _ => 0)))] s.heap.size = A at hD ⊢
  have hA : ∀ q : Nat, s.heap.size ≤ q → A q := fun q h => by rw [← hAe]; exact Or.inr h
  have hS : va_S A s.heap s.heap [] := va_S.rf
  have hl := lv_entry ([.ref mm, .int p, .int q, .int 1]) (n := 6) (Nat.le_of_ble_eq_true rfl)
  rw [lg_entry_eq]
  generalize (lg_sl ([.ref mm, .int p, .int q, .int 1]) ++ List.replicate (6 - (lg_sl ([.ref mm, .int p, .int q, .int 1])).length) Slot.unset).toArray = ls at hl ⊢
  have hl : lv_has ls 6 [(0, .ref mm), (1, .int p), (2, .int q), (3, .int 1)] := hl
  refine lv_aload_n hx hb dX9_skips_0 rfl (lv_at hl 0 rfl) ?_
  refine lv_iconst (v := 0) hx hb dX9_skips_1 (by decide) ?_
  refine va_put (D := D) (ci := 12) (v := .int 0) (ty := .int) (C := RX9) (T := TX9) (N := 22) hx hb hts (fun _ h => List.mem_cons_of_mem _ (List.mem_append_left _ (List.mem_append_right _ h))) tyX9 tyX9_ok nmX9 hown hK hP hD hS 0 rfl rfl 0 (by decide) (hts (.fieldLink RX9 65 "NumberingTreeModel" "thrown" "I") (List.mem_of_getElem? (i := 1) rfl)) (fun _ h9 => h9) rfl (by decide +kernel) rfl rfl (Nat.le_of_ble_eq_true rfl) dX9_skips_2 (fun H locs hP hD hS => ?_)
  have hP : va_P D vwCl [(mm, .inr (12, [.int 0, .ref mlv, .ref msr, .ref mrs, .ref mpa, .ref mnu, .ref mlt, .ref mpl, .ref mod, .ref mic, .ref mgo, .ref msk, .ref mfo, .int 0, .int 0, .ref mul, .ref mup, .ref mun, .int 0, .ref mfr, .ref mta, .int 0])), (msk, .inl (cQ, 5, .inr (.inr (.inr (.inr g))))), (yy, .inl (cZ, 100, .inl (fun _ => 0)))] H := hP
  have hD : va_D A [(mm, .inr (12, [.int 0, .ref mlv, .ref msr, .ref mrs, .ref mpa, .ref mnu, .ref mlt, .ref mpl, .ref mod, .ref mic, .ref mgo, .ref msk, .ref mfo, .int 0, .int 0, .ref mul, .ref mup, .ref mun, .int 0, .ref mfr, .ref mta, .int 0])), (msk, .inl (cQ, 5, .inr (.inr (.inr (.inr g))))), (yy, .inl (cZ, 100, .inl (fun _ => 0)))] := hD
  refine lv_iload_n hx hb dX9_skips_5 rfl (lv_at hl 1 rfl) ?_
  refine zc_i (wc := []) (wr := [(mm, .inr (12, [.int 0, .ref mlv, .ref msr, .ref mrs, .ref mpa, .ref mnu, .ref mlt, .ref mpl, .ref mod, .ref mic, .ref mgo, .ref msk, .ref mfo, .int 0, .int 0, .ref mul, .ref mup, .ref mun, .int 0, .ref mfr, .ref mta, .int 0])), (msk, .inl (cQ, 5, .inr (.inr (.inr (.inr g))))), (yy, .inl (cZ, 100, .inl (fun _ => 0)))]) (va_runS (As := [.int p]) (rest := []) ⟨hx, hb, hml, hown, hts⟩ (k_isLevelT l D cI p H.size hp.1) (va_cwS 1 hts gX9_skips_X9_isLevel rfl rfl rfl (by decide +kernel) ⟨Nat.le_of_ble_eq_true rfl, Nat.le_of_ble_eq_true rfl⟩) (zPS hK hP hD [] rfl rfl [0] rfl) rfl rfl hl.1 rfl (lv_room (Nat.le_of_ble_eq_true rfl)) dX9_skips_6 ⟨Nat.le_of_ble_eq_true rfl, Nat.le_of_ble_eq_true rfl⟩) hP hD hS hA [] [0, 1, 2] rfl rfl rfl (by decide) (fun r _ H locs hw hP hD hS => ?_)
  have hP : va_P D vwCl [(mm, .inr (12, [.int 0, .ref mlv, .ref msr, .ref mrs, .ref mpa, .ref mnu, .ref mlt, .ref mpl, .ref mod, .ref mic, .ref mgo, .ref msk, .ref mfo, .int 0, .int 0, .ref mul, .ref mup, .ref mun, .int 0, .ref mfr, .ref mta, .int 0])), (msk, .inl (cQ, 5, .inr (.inr (.inr (.inr g))))), (yy, .inl (cZ, 100, .inl (fun _ => 0)))] H := hP
  have hD : va_D A [(mm, .inr (12, [.int 0, .ref mlv, .ref msr, .ref mrs, .ref mpa, .ref mnu, .ref mlt, .ref mpl, .ref mod, .ref mic, .ref mgo, .ref msk, .ref mfo, .int 0, .int 0, .ref mul, .ref mup, .ref mun, .int 0, .ref mfr, .ref mta, .int 0])), (msk, .inl (cQ, 5, .inr (.inr (.inr (.inr g))))), (yy, .inl (cZ, 100, .inl (fun _ => 0)))] := hD
  subst hw
  refine lv_if_eq (tgt := 22) hx hb dX9_skips_9 (by decide) (fun q => absurd q (by decide)) (fun _ => ?_)
  refine lv_iload_n hx hb dX9_skips_12 rfl (lv_at hl 2 rfl) ?_
  refine lv_iconst (v := 1) hx hb dX9_skips_13 (by decide) ?_
  refine lv_bipush (v := 99) hx hb dX9_skips_14 (by decide) ?_
  refine zc_i (wc := []) (wr := [(mm, .inr (12, [.int 0, .ref mlv, .ref msr, .ref mrs, .ref mpa, .ref mnu, .ref mlt, .ref mpl, .ref mod, .ref mic, .ref mgo, .ref msk, .ref mfo, .int 0, .int 0, .ref mul, .ref mup, .ref mun, .int 0, .ref mfr, .ref mta, .int 0])), (msk, .inl (cQ, 5, .inr (.inr (.inr (.inr g))))), (yy, .inl (cZ, 100, .inl (fun _ => 0)))]) (va_runS (As := [.int q, .int 1, .int 99]) (rest := []) ⟨hx, hb, hml, hown, hts⟩ (k_isBetweenT l D cI q 1 99 H.size hp.2.1 (Int32.not_lt.mpr hp.2.2)) (va_cwS 3 hts gX9_skips_X9_isBetween rfl rfl rfl (by decide +kernel) ⟨Nat.le_of_ble_eq_true rfl, Nat.le_of_ble_eq_true rfl⟩) (zPS hK hP hD [] rfl rfl [0] rfl) rfl rfl hl.1 rfl (lv_room (Nat.le_of_ble_eq_true rfl)) dX9_skips_16 ⟨Nat.le_of_ble_eq_true rfl, Nat.le_of_ble_eq_true rfl⟩) hP hD hS hA [] [0, 1, 2] rfl rfl rfl (by decide) (fun r _ H locs hw hP hD hS => ?_)
  have hP : va_P D vwCl [(mm, .inr (12, [.int 0, .ref mlv, .ref msr, .ref mrs, .ref mpa, .ref mnu, .ref mlt, .ref mpl, .ref mod, .ref mic, .ref mgo, .ref msk, .ref mfo, .int 0, .int 0, .ref mul, .ref mup, .ref mun, .int 0, .ref mfr, .ref mta, .int 0])), (msk, .inl (cQ, 5, .inr (.inr (.inr (.inr g))))), (yy, .inl (cZ, 100, .inl (fun _ => 0)))] H := hP
  have hD : va_D A [(mm, .inr (12, [.int 0, .ref mlv, .ref msr, .ref mrs, .ref mpa, .ref mnu, .ref mlt, .ref mpl, .ref mod, .ref mic, .ref mgo, .ref msk, .ref mfo, .int 0, .int 0, .ref mul, .ref mup, .ref mun, .int 0, .ref mfr, .ref mta, .int 0])), (msk, .inl (cQ, 5, .inr (.inr (.inr (.inr g))))), (yy, .inl (cZ, 100, .inl (fun _ => 0)))] := hD
  subst hw
  refine lv_if_ne (tgt := 28) hx hb dX9_skips_19 (by decide) (fun _ => ?_) (fun q => absurd q (by decide))
  refine lv_aload_n hx hb dX9_skips_28 rfl (lv_at hl 0 rfl) ?_
  refine va_get (D := D) (ci := 12) (v := .ref msk) (C := RX9) (T := TX9) (N := 22) hx hb hts (fun _ h => List.mem_cons_of_mem _ (List.mem_append_left _ (List.mem_append_right _ h))) hown hK hP 0 rfl rfl 11 (by decide) (hts (.fieldLink RX9 43 "NumberingTreeModel" "skipped" "[[Z") (List.mem_of_getElem? (i := 2) rfl)) (fun _ h9 => h9) rfl dX9_skips_29 ?_
  refine lv_iload_n hx hb dX9_skips_32 rfl (lv_at hl 1 rfl) ?_
  refine za_ald hx hb hK hP 1 2 rfl rfl (zLv_in hp.1) (y := yy) hg dX9_skips_33 ?_
  refine lv_iload_n hx hb dX9_skips_34 rfl (lv_at hl 2 rfl) ?_
  refine va_zald hx hb hK hP 2 1 rfl rfl (zSk_in hp) dX9_skips_35 ?_
  refine zt_i 0 rfl ?_
  refine lv_iload_n hx hb dX9_skips_36 rfl (lv_at hl 3 rfl) ?_
  refine lv_icmp_ne (tgt := 46) hx hb dX9_skips_37 (by decide) (fun _ => ?_) (fun q => absurd q (by decide))
  refine lv_aload_n hx hb dX9_skips_46 rfl (lv_at hl 0 rfl) ?_
  refine va_get (D := D) (ci := 12) (v := .ref msk) (C := RX9) (T := TX9) (N := 22) hx hb hts (fun _ h => List.mem_cons_of_mem _ (List.mem_append_left _ (List.mem_append_right _ h))) hown hK hP 0 rfl rfl 11 (by decide) (hts (.fieldLink RX9 43 "NumberingTreeModel" "skipped" "[[Z") (List.mem_of_getElem? (i := 2) rfl)) (fun _ h9 => h9) rfl dX9_skips_47 ?_
  refine lv_iload_n hx hb dX9_skips_50 rfl (lv_at hl 1 rfl) ?_
  refine za_ald hx hb hK hP 1 2 rfl rfl (zLv_in hp.1) (y := yy) hg dX9_skips_51 ?_
  refine lv_iload_n hx hb dX9_skips_52 rfl (lv_at hl 2 rfl) ?_
  refine lv_iload_n hx hb dX9_skips_53 rfl (lv_at hl 3 rfl) ?_
  refine va_zast hx hb hK hP hD hS 2 1 rfl rfl (zSk_in hp) dX9_skips_54 (fun H locs hP hD hS => ?_)
  have hP : va_P D vwCl [(mm, .inr (12, [.int 0, .ref mlv, .ref msr, .ref mrs, .ref mpa, .ref mnu, .ref mlt, .ref mpl, .ref mod, .ref mic, .ref mgo, .ref msk, .ref mfo, .int 0, .int 0, .ref mul, .ref mup, .ref mun, .int 0, .ref mfr, .ref mta, .int 0])), (msk, .inl (cQ, 5, .inr (.inr (.inr (.inr g))))), (yy, .inl (cZ, 100, .inl (upd (fun _ => 0) (q).toNatClampNeg (vp_nar .boolean 1))))] H := hP
  have hD : va_D A [(mm, .inr (12, [.int 0, .ref mlv, .ref msr, .ref mrs, .ref mpa, .ref mnu, .ref mlt, .ref mpl, .ref mod, .ref mic, .ref mgo, .ref msk, .ref mfo, .int 0, .int 0, .ref mul, .ref mup, .ref mun, .int 0, .ref mfr, .ref mta, .int 0])), (msk, .inl (cQ, 5, .inr (.inr (.inr (.inr g))))), (yy, .inl (cZ, 100, .inl (upd (fun _ => 0) (q).toNatClampNeg (vp_nar .boolean 1))))] := hD
  refine lv_aload_n hx hb dX9_skips_55 rfl (lv_at hl 0 rfl) ?_
  refine zc_v (wc := [(mm, .inr (12, [.int 0, .ref mlv, .ref msr, .ref mrs, .ref mpa, .ref mnu, .ref mlt, .ref mpl, .ref mod, .ref mic, .ref mgo, .ref msk, .ref mfo, .int 0, .int 0, .ref mul, .ref mup, .ref mun, .int 0, .ref mfr, .ref mta, .int 0]))]) (wr := [(msk, .inl (cQ, 5, .inr (.inr (.inr (.inr g))))), (yy, .inl (cZ, 100, .inl (upd (fun _ => 0) (q).toNatClampNeg (vp_nar .boolean 1))))]) (va_runV (As := []) (rest := []) ⟨hx, hb, hml, hown, hts⟩ (k_settles0 l D cI mm mlv msr mrs mpa mnu mlt mpl mod mic mgo msk mfo mul mup mun mfr mta 0 H.size) (cwV 0 hts gX9_skips_X9_settles rfl rfl rfl (by decide +kernel) ⟨Nat.le_of_ble_eq_true rfl, Nat.le_of_ble_eq_true rfl⟩) (zPV hK hP hD [0] rfl rfl [0] rfl 0 rfl rfl rfl) rfl rfl hl.1 rfl (lv_room (Nat.le_of_ble_eq_true rfl)) dX9_skips_56 ⟨Nat.le_of_ble_eq_true rfl, Nat.le_of_ble_eq_true rfl⟩) hP hD hS hA [0] [1, 2] rfl rfl rfl (by decide) (fun  _ H locs hw hP hD hS => ?_)
  have hP : va_P D vwCl [(msk, .inl (cQ, 5, .inr (.inr (.inr (.inr g))))), (yy, .inl (cZ, 100, .inl (upd (fun _ => 0) (q).toNatClampNeg (vp_nar .boolean 1)))), (mm, .inr (12, [.int 0, .ref mlv, .ref msr, .ref mrs, .ref mpa, .ref mnu, .ref mlt, .ref mpl, .ref mod, .ref mic, .ref mgo, .ref msk, .ref mfo, .int 0, .int 0, .ref mul, .ref mup, .ref mun, .int 0, .ref mfr, .ref mta, .int 0]))] H := hP
  have hD : va_D A [(msk, .inl (cQ, 5, .inr (.inr (.inr (.inr g))))), (yy, .inl (cZ, 100, .inl (upd (fun _ => 0) (q).toNatClampNeg (vp_nar .boolean 1)))), (mm, .inr (12, [.int 0, .ref mlv, .ref msr, .ref mrs, .ref mpa, .ref mnu, .ref mlt, .ref mpl, .ref mod, .ref mic, .ref mgo, .ref msk, .ref mfo, .int 0, .int 0, .ref mul, .ref mup, .ref mun, .int 0, .ref mfr, .ref mta, .int 0]))] := hD
  refine lv_iconst (v := 0) hx hb dX9_skips_59 (by decide) ?_
  refine lv_istore (lv' := [(4, .int 0), (0, .ref mm), (1, .int p), (2, .int q), (3, .int 1)]) hx hb dX9_skips_60 hl (by decide) rfl (fun ls hl => ?_)
  refine lv_iconst (v := 1) hx hb dX9_skips_62 (by decide) ?_
  refine lv_istore (lv' := [(5, .int 1), (4, .int 0), (0, .ref mm), (1, .int p), (2, .int q), (3, .int 1)]) hx hb dX9_skips_63 hl (by decide) rfl (fun ls hl => ?_)
  obtain ⟨F, hF⟩ : ∃ F : Nat → Int32, F = upd (fun _ => 0) (q).toNatClampNeg (vp_nar .boolean 1) := ⟨_, rfl⟩
  rw [← hF] at hP hD
  refine z_loop (G := fun ls => W _ _ _ _ _ _ _ _ _ _ _ _ _ _ _ (F0 m 65 ls [])) (ls0 := ls) (fun kk ls => lv_has ls 6 [(5, .int (nI kk)), (4, .int (zCnt q kk)), (0, .ref mm), (1, .int p), (2, .int q), (3, .int 1)]) 100 (k0 := 1) (by rw [zCnt_1 hp]; exact hl) (by decide) (fun ls hl => ?_) (fun kk ls hk1 hk hl ih => ?_)
  · refine lv_iload hx hb dX9_skips_65 (lv_at hl 0 rfl) ?_
    refine lv_bipush (v := 100) hx hb dX9_skips_67 (by decide) ?_
    refine lv_icmp_ge (tgt := 100) hx hb dX9_skips_69 (by decide) (fun _ => ?_) (fun q => absurd q (fun h => h ((nI_leI (by decide) (by decide)).mpr (Nat.le_refl 100))))
    refine lv_iload hx hb dX9_skips_100 (lv_at hl 1 rfl) ?_
    obtain ⟨hP9, hD9⟩ := z_get hP hD [2] (wc := [(mm, .inr (12, [.int 0, .ref mlv, .ref msr, .ref mrs, .ref mpa, .ref mnu, .ref mlt, .ref mpl, .ref mod, .ref mic, .ref mgo, .ref msk, .ref mfo, .int 0, .int 0, .ref mul, .ref mup, .ref mun, .int 0, .ref mfr, .ref mta, .int 0]))]) rfl rfl
    exact W.iret (v := zCnt q 100) hx hb hr (fun t ht hW => ⟨⟨zCnt q 100, (), rfl, (zCnt_100 hp), by rw [ht]; exact hP9, hD9⟩, hS.F ht⟩) hS.2.2 dX9_skips_102
  · refine lv_iload hx hb dX9_skips_65 (lv_at hl 0 rfl) ?_
    refine lv_bipush (v := 100) hx hb dX9_skips_67 (by decide) ?_
    refine lv_icmp_ge (tgt := 100) hx hb dX9_skips_69 (by decide) (fun q => absurd q (fun h => absurd ((nI_leI (a := 100) (by decide) (by omega)).mp h) (by omega))) (fun _ => ?_)
    refine lv_iload hx hb dX9_skips_72 (lv_at hl 1 rfl) ?_
    refine lv_aload_n hx hb dX9_skips_74 rfl (lv_at hl 2 rfl) ?_
    refine va_get (D := D) (ci := 12) (v := .ref msk) (C := RX9) (T := TX9) (N := 22) hx hb hts (fun _ h => List.mem_cons_of_mem _ (List.mem_append_left _ (List.mem_append_right _ h))) hown hK hP 2 rfl rfl 11 (by decide) (hts (.fieldLink RX9 43 "NumberingTreeModel" "skipped" "[[Z") (List.mem_of_getElem? (i := 2) rfl)) (fun _ h9 => h9) rfl dX9_skips_75 ?_
    refine lv_iload_n hx hb dX9_skips_78 rfl (lv_at hl 3 rfl) ?_
    refine za_ald hx hb hK hP 0 2 rfl rfl (zLv_in hp.1) (y := yy) hg dX9_skips_79 ?_
    refine lv_iload hx hb dX9_skips_80 (lv_at hl 0 rfl) ?_
    refine va_zald hx hb hK hP 1 1 rfl rfl (vp_in_nI (n := kk) hk (by decide)) dX9_skips_82 ?_
    refine lv_if_eq (tgt := 90) hx hb dX9_skips_83 (by decide) (fun c1 => ?_) (fun c1 => ?_)
    · refine lv_iconst (v := 0) hx hb dX9_skips_90 (by decide) ?_
      refine lv_iadd hx hb dX9_skips_91 ?_
      refine zt_i (zCnt q (kk + 1)) (zCnt_T hF hk c1) ?_
      refine lv_istore (lv' := [(4, .int (zCnt q (kk + 1))), (5, .int (nI kk)), (0, .ref mm), (1, .int p), (2, .int q), (3, .int 1)]) hx hb dX9_skips_92 hl (by decide) rfl (fun ls hl => ?_)
      refine lv_iinc (v := (nI (kk + 1))) (lv' := [(5, .int (nI (kk + 1))), (4, .int (zCnt q (kk + 1))), (0, .ref mm), (1, .int p), (2, .int q), (3, .int 1)]) hx hb dX9_skips_94 hl (k := 1) rfl (nI_1 kk) (by decide) rfl (fun ls hl => ?_)
      refine lv_goto (tgt := 65) hx hb dX9_skips_97 (by decide) ?_
      exact ih ls (lv_sub hl [0, 1, 2, 3, 4, 5] rfl)
    · refine lv_iconst (v := 1) hx hb dX9_skips_86 (by decide) ?_
      refine lv_goto (tgt := 91) hx hb dX9_skips_87 (by decide) ?_
      refine lv_iadd hx hb dX9_skips_91 ?_
      refine zt_i (zCnt q (kk + 1)) (zCnt_F hF hk c1) ?_
      refine lv_istore (lv' := [(4, .int (zCnt q (kk + 1))), (5, .int (nI kk)), (0, .ref mm), (1, .int p), (2, .int q), (3, .int 1)]) hx hb dX9_skips_92 hl (by decide) rfl (fun ls hl => ?_)
      refine lv_iinc (v := (nI (kk + 1))) (lv' := [(5, .int (nI (kk + 1))), (4, .int (zCnt q (kk + 1))), (0, .ref mm), (1, .int p), (2, .int q), (3, .int 1)]) hx hb dX9_skips_94 hl (k := 1) rfl (nI_1 kk) (by decide) rfl (fun ls hl => ?_)
      refine lv_goto (tgt := 65) hx hb dX9_skips_97 (by decide) ?_
      exact ih ls (lv_sub hl [0, 1, 2, 3, 4, 5] rfl)

set_option maxHeartbeats 4000000 in
set_option maxRecDepth 100000 in
theorem m_skip (l : Launch) (D : va_G) (cI cQ cZ : ClassId) (mm mlv msr mrs mpa mnu mlt mpl mod mic mgo msk mfo mul mup mun mfr mta yy : Nat) (t p q : Int32) (g : Nat → Option Nat) (sz : Nat) (hp : zSk p q) (hg : g p.toNatClampNeg = some yy) : Met l yX9_skip wsX9_skip ({ frames := 3, cells := 0, slots := 0, locals := 67 }) (va_Pc [.ref mm, .int p, .int q] (zPre D [(cI, .int), (cZ, .boolean), (cQ, .array .boolean)] [(mm, .inr (12, [.int t, .ref mlv, .ref msr, .ref mrs, .ref mpa, .ref mnu, .ref mlt, .ref mpl, .ref mod, .ref mic, .ref mgo, .ref msk, .ref mfo, .int 0, .int 0, .ref mul, .ref mup, .ref mun, .int 0, .ref mfr, .ref mta, .int 0])), (msk, .inl (cQ, 5, .inr (.inr (.inr (.inr g))))), (yy, .inl (cZ, 100, .inl (fun _ => 0)))] sz)) (va_Qi (fun rv (_ : Unit) => rv = 1) (fun (_ : Unit) => zB D [(mm, .inr (12, [.int 0, .ref mlv, .ref msr, .ref mrs, .ref mpa, .ref mnu, .ref mlt, .ref mpl, .ref mod, .ref mic, .ref mgo, .ref msk, .ref mfo, .int 0, .int 0, .ref mul, .ref mup, .ref mun, .int 0, .ref mfr, .ref mta, .int 0]))] (va_A [(mm, .inr (12, [.int t, .ref mlv, .ref msr, .ref mrs, .ref mpa, .ref mnu, .ref mlt, .ref mpl, .ref mod, .ref mic, .ref mgo, .ref msk, .ref mfo, .int 0, .int 0, .ref mul, .ref mup, .ref mun, .int 0, .ref mfr, .ref mta, .int 0])), (msk, .inl (cQ, 5, .inr (.inr (.inr (.inr g))))), (yy, .inl (cZ, 100, .inl (fun _ => 0)))] sz)) (va_A [(mm, .inr (12, [.int t, .ref mlv, .ref msr, .ref mrs, .ref mpa, .ref mnu, .ref mlt, .ref mpl, .ref mod, .ref mic, .ref mgo, .ref msk, .ref mfo, .int 0, .int 0, .ref mul, .ref mup, .ref mun, .int 0, .ref mfr, .ref mta, .int 0])), (msk, .inl (cQ, 5, .inr (.inr (.inr (.inr g))))), (yy, .inl (cZ, 100, .inl (fun _ => 0)))] sz)) 0 0 (va_A [(mm, .inr (12, [.int t, .ref mlv, .ref msr, .ref mrs, .ref mpa, .ref mnu, .ref mlt, .ref mpl, .ref mod, .ref mic, .ref mgo, .ref msk, .ref mfo, .int 0, .int 0, .ref mul, .ref mup, .ref mun, .int 0, .ref mfr, .ref mta, .int 0])), (msk, .inl (cQ, 5, .inr (.inr (.inr (.inr g))))), (yy, .inl (cZ, 100, .inl (fun _ => 0)))] sz) := by
  refine Met.ofW (cc := cX9_skip) (maxL := 3) (ret := (some .int)) (by decide) rfl ?_
  intro P0 E0 s m args below meth C9 s₁ B hml hv
  obtain ⟨rfl, hsz, hP, hK, hD0⟩ := hv
  have hx := B.exec
  have hb := B.bytes
  have hr := B.returns
  have hts := atoms_spec (ws := wsX9_skip) B.pre
  have hown : s.vm.findClass RX9 = some m.cls := findClass_of_methodNamed B.named
  have hlocks := B.notSynchronized
  subst hsz
  have hD := hD0.self (sz := s.heap.size)
  generalize hAe : va_A [(mm, .inr (12, [.int t, .ref mlv, .ref msr, .ref mrs, .ref mpa, .ref mnu, .ref mlt, .ref mpl, .ref mod, .ref mic, .ref mgo, .ref msk, .ref mfo, .int 0, .int 0, .ref mul, .ref mup, .ref mun, .int 0, .ref mfr, .ref mta, .int 0])), (msk, .inl (cQ, 5, .inr (.inr (.inr (.inr g))))), (yy, .inl (cZ, 100, .inl (fun _ => 0)))] s.heap.size = A at hD ⊢
  have hA : ∀ q : Nat, s.heap.size ≤ q → A q := fun q h => by rw [← hAe]; exact Or.inr h
  have hS : va_S A s.heap s.heap [] := va_S.rf
  have hl := lv_entry ([.ref mm, .int p, .int q]) (n := 3) (Nat.le_of_ble_eq_true rfl)
  rw [lg_entry_eq]
  generalize (lg_sl ([.ref mm, .int p, .int q]) ++ List.replicate (3 - (lg_sl ([.ref mm, .int p, .int q])).length) Slot.unset).toArray = ls at hl ⊢
  have hl : lv_has ls 3 [(0, .ref mm), (1, .int p), (2, .int q)] := hl
  refine lv_aload_n hx hb dX9_skip_0 rfl (lv_at hl 0 rfl) ?_
  refine lv_iload_n hx hb dX9_skip_1 rfl (lv_at hl 1 rfl) ?_
  refine lv_iload_n hx hb dX9_skip_2 rfl (lv_at hl 2 rfl) ?_
  refine lv_iconst (v := 1) hx hb dX9_skip_3 (by decide) ?_
  refine zc_i (wc := [(mm, .inr (12, [.int t, .ref mlv, .ref msr, .ref mrs, .ref mpa, .ref mnu, .ref mlt, .ref mpl, .ref mod, .ref mic, .ref mgo, .ref msk, .ref mfo, .int 0, .int 0, .ref mul, .ref mup, .ref mun, .int 0, .ref mfr, .ref mta, .int 0])), (msk, .inl (cQ, 5, .inr (.inr (.inr (.inr g))))), (yy, .inl (cZ, 100, .inl (fun _ => 0)))]) (wr := []) (va_runV (As := [.int p, .int q, .int 1]) (rest := []) ⟨hx, hb, hml, hown, hts⟩ (k_skips1 l D cI cQ cZ mm mlv msr mrs mpa mnu mlt mpl mod mic mgo msk mfo mul mup mun mfr mta yy t p q g s.heap.size hp hg) (cwV 3 hts gX9_skip_X9_skips rfl rfl rfl (by decide +kernel) ⟨Nat.le_of_ble_eq_true rfl, Nat.le_of_ble_eq_true rfl⟩) (zPV hK hP hD [0, 1, 2] rfl rfl [0, 1, 2] rfl 0 rfl rfl rfl) rfl rfl hl.1 rfl (lv_room (Nat.le_of_ble_eq_true rfl)) dX9_skip_4 ⟨Nat.le_of_ble_eq_true rfl, Nat.le_of_ble_eq_true rfl⟩) hP hD hS hA [0, 1, 2] [] rfl rfl rfl (by decide) (fun r _ H locs hw hP hD hS => ?_)
  have hP : va_P D vwCl [(mm, .inr (12, [.int 0, .ref mlv, .ref msr, .ref mrs, .ref mpa, .ref mnu, .ref mlt, .ref mpl, .ref mod, .ref mic, .ref mgo, .ref msk, .ref mfo, .int 0, .int 0, .ref mul, .ref mup, .ref mun, .int 0, .ref mfr, .ref mta, .int 0]))] H := hP
  have hD : va_D A [(mm, .inr (12, [.int 0, .ref mlv, .ref msr, .ref mrs, .ref mpa, .ref mnu, .ref mlt, .ref mpl, .ref mod, .ref mic, .ref mgo, .ref msk, .ref mfo, .int 0, .int 0, .ref mul, .ref mup, .ref mun, .int 0, .ref mfr, .ref mta, .int 0]))] := hD
  subst hw
  obtain ⟨hP9, hD9⟩ := z_get hP hD [0] (wc := [(mm, .inr (12, [.int 0, .ref mlv, .ref msr, .ref mrs, .ref mpa, .ref mnu, .ref mlt, .ref mpl, .ref mod, .ref mic, .ref mgo, .ref msk, .ref mfo, .int 0, .int 0, .ref mul, .ref mup, .ref mun, .int 0, .ref mfr, .ref mta, .int 0]))]) rfl rfl
  exact W.iret (v := 1) hx hb hr (fun t ht hW => ⟨⟨1, (), rfl, rfl, by rw [ht]; exact hP9, hD9⟩, hS.F ht⟩) hS.2.2 dX9_skip_7

def vsX9_labelLength : List Cond := .code yX9_labelLength cX9_labelLength 2 (some .int) :: (wsV RX9 146 RX9 yX9_isPlain wsX9_isPlain)
theorem gvX9_labelLength : GoodIn vsX9_labelLength (wsV RX9 146 RX9 yX9_isPlain wsX9_isPlain) := fun w h => ⟨List.mem_cons_of_mem _ h, (gX9_labelLength_X9_isPlain w h).2⟩

def vsX9_labelAt : List Cond := .code yX9_labelAt cX9_labelAt 4 (some .char) :: (wsV RX9 146 RX9 yX9_isPlain wsX9_isPlain)
theorem gvX9_labelAt : GoodIn vsX9_labelAt (wsV RX9 146 RX9 yX9_isPlain wsX9_isPlain) := fun w h => ⟨List.mem_cons_of_mem _ h, (gX9_labelAt_X9_isPlain w h).2⟩

def vsX9_referenceLength : List Cond := .code yX9_referenceLength cX9_referenceLength 2 (some .int) :: (wsV RX9 239 RX9 yX9_isVoid wsX9_isVoid)
theorem gvX9_referenceLength : GoodIn vsX9_referenceLength (wsV RX9 239 RX9 yX9_isVoid wsX9_isVoid) := fun w h => ⟨List.mem_cons_of_mem _ h, (gX9_referenceLength_X9_isVoid w h).2⟩

def vsX9_referenceAt : List Cond := .code yX9_referenceAt cX9_referenceAt 4 (some .char) :: (wsV RX9 239 RX9 yX9_isVoid wsX9_isVoid)
theorem gvX9_referenceAt : GoodIn vsX9_referenceAt (wsV RX9 239 RX9 yX9_isVoid wsX9_isVoid) := fun w h => ⟨List.mem_cons_of_mem _ h, (gX9_referenceAt_X9_isVoid w h).2⟩

def vsX9_isUnique : List Cond := .code yX9_isUnique cX9_isUnique 3 (some .boolean) :: ([.fieldLink RX9 65 "NumberingTreeModel" "thrown" "I", .fieldLink RX9 91 "NumberingTreeModel" "size" "I"] ++ wsX90)

set_option maxHeartbeats 4000000 in
set_option maxRecDepth 100000 in
theorem m_labelLength (l : Launch) (D : va_G) (cI : ClassId) (mm mlv msr mrs mpa mnu mlt mpl mod mic mgo msk mfo mul mup mun mfr mta : Nat) (t i : Int32) (sz : Nat) : Met l yX9_labelLength vsX9_labelLength ({ frames := 4, cells := 0, slots := 0, locals := 85 }) (va_Pc [.ref mm, .int i] (zPre D [(cI, .int)] [(mm, .inr (12, [.int t, .ref mlv, .ref msr, .ref mrs, .ref mpa, .ref mnu, .ref mlt, .ref mpl, .ref mod, .ref mic, .ref mgo, .ref msk, .ref mfo, .int 0, .int 0, .ref mul, .ref mup, .ref mun, .int 0, .ref mfr, .ref mta, .int 0]))] sz)) (va_Qi (fun rv (_ : Unit) => rv = 0) (fun (_ : Unit) => zB D [(mm, .inr (12, [.int 1, .ref mlv, .ref msr, .ref mrs, .ref mpa, .ref mnu, .ref mlt, .ref mpl, .ref mod, .ref mic, .ref mgo, .ref msk, .ref mfo, .int 0, .int 0, .ref mul, .ref mup, .ref mun, .int 0, .ref mfr, .ref mta, .int 0]))] (va_A [(mm, .inr (12, [.int t, .ref mlv, .ref msr, .ref mrs, .ref mpa, .ref mnu, .ref mlt, .ref mpl, .ref mod, .ref mic, .ref mgo, .ref msk, .ref mfo, .int 0, .int 0, .ref mul, .ref mup, .ref mun, .int 0, .ref mfr, .ref mta, .int 0]))] sz)) (va_A [(mm, .inr (12, [.int t, .ref mlv, .ref msr, .ref mrs, .ref mpa, .ref mnu, .ref mlt, .ref mpl, .ref mod, .ref mic, .ref mgo, .ref msk, .ref mfo, .int 0, .int 0, .ref mul, .ref mup, .ref mun, .int 0, .ref mfr, .ref mta, .int 0]))] sz)) 0 0 (va_A [(mm, .inr (12, [.int t, .ref mlv, .ref msr, .ref mrs, .ref mpa, .ref mnu, .ref mlt, .ref mpl, .ref mod, .ref mic, .ref mgo, .ref msk, .ref mfo, .int 0, .int 0, .ref mul, .ref mup, .ref mun, .int 0, .ref mfr, .ref mta, .int 0]))] sz) := by
  refine Met.ofW (cc := cX9_labelLength) (maxL := 2) (ret := (some .int)) (by decide) rfl ?_
  intro P0 E0 s m args below meth C9 s₁ B hml hv
  obtain ⟨rfl, hsz, hP, hK, hD0⟩ := hv
  have hx := B.exec
  have hb := B.bytes
  have hr := B.returns
  have hts := atoms_spec (ws := vsX9_labelLength) B.pre
  have hown : s.vm.findClass RX9 = some m.cls := findClass_of_methodNamed B.named
  have hlocks := B.notSynchronized
  subst hsz
  have hD := hD0.self (sz := s.heap.size)
  generalize hAe : va_A [(mm, .inr (12, [.int t, .ref mlv, .ref msr, .ref mrs, .ref mpa, .ref mnu, .ref mlt, .ref mpl, .ref mod, .ref mic, .ref mgo, .ref msk, .ref mfo, .int 0, .int 0, .ref mul, .ref mup, .ref mun, .int 0, .ref mfr, .ref mta, .int 0]))] s.heap.size = A at hD ⊢
  have hA : ∀ q : Nat, s.heap.size ≤ q → A q := fun q h => by rw [← hAe]; exact Or.inr h
  have hS : va_S A s.heap s.heap [] := va_S.rf
  have hl := lv_entry ([.ref mm, .int i]) (n := 2) (Nat.le_of_ble_eq_true rfl)
  rw [lg_entry_eq]
  generalize (lg_sl ([.ref mm, .int i]) ++ List.replicate (2 - (lg_sl ([.ref mm, .int i])).length) Slot.unset).toArray = ls at hl ⊢
  have hl : lv_has ls 2 [(0, .ref mm), (1, .int i)] := hl
  refine lv_aload_n hx hb dX9_labelLength_0 rfl (lv_at hl 0 rfl) ?_
  refine lv_iload_n hx hb dX9_labelLength_1 rfl (lv_at hl 1 rfl) ?_
  refine zc_i (wc := [(mm, .inr (12, [.int t, .ref mlv, .ref msr, .ref mrs, .ref mpa, .ref mnu, .ref mlt, .ref mpl, .ref mod, .ref mic, .ref mgo, .ref msk, .ref mfo, .int 0, .int 0, .ref mul, .ref mup, .ref mun, .int 0, .ref mfr, .ref mta, .int 0]))]) (wr := []) (va_runV (As := [.int i]) (rest := []) ⟨hx, hb, hml, hown, hts⟩ (k_misPlain0 l D cI mm mlv msr mrs mpa mnu mlt mpl mod mic mgo msk mfo mul mup mun mfr mta t i s.heap.size) (cwV 1 hts gvX9_labelLength rfl rfl rfl (by decide +kernel) ⟨Nat.le_of_ble_eq_true rfl, Nat.le_of_ble_eq_true rfl⟩) (zPV hK hP hD [0] rfl rfl [0] rfl 0 rfl rfl rfl) rfl rfl hl.1 rfl (lv_room (Nat.le_of_ble_eq_true rfl)) dX9_labelLength_2 ⟨Nat.le_of_ble_eq_true rfl, Nat.le_of_ble_eq_true rfl⟩) hP hD hS hA [0] [] rfl rfl rfl (by decide) (fun r _ H locs hw hP hD hS => ?_)
  have hP : va_P D vwCl [(mm, .inr (12, [.int 1, .ref mlv, .ref msr, .ref mrs, .ref mpa, .ref mnu, .ref mlt, .ref mpl, .ref mod, .ref mic, .ref mgo, .ref msk, .ref mfo, .int 0, .int 0, .ref mul, .ref mup, .ref mun, .int 0, .ref mfr, .ref mta, .int 0]))] H := hP
  have hD : va_D A [(mm, .inr (12, [.int 1, .ref mlv, .ref msr, .ref mrs, .ref mpa, .ref mnu, .ref mlt, .ref mpl, .ref mod, .ref mic, .ref mgo, .ref msk, .ref mfo, .int 0, .int 0, .ref mul, .ref mup, .ref mun, .int 0, .ref mfr, .ref mta, .int 0]))] := hD
  subst hw
  refine lv_if_eq (tgt := 12) hx hb dX9_labelLength_5 (by decide) (fun q => absurd q (by decide)) (fun _ => ?_)
  refine lv_iconst (v := 0) hx hb dX9_labelLength_8 (by decide) ?_
  refine lv_goto (tgt := 21) hx hb dX9_labelLength_9 (by decide) ?_
  obtain ⟨hP9, hD9⟩ := z_get hP hD [0] (wc := [(mm, .inr (12, [.int 1, .ref mlv, .ref msr, .ref mrs, .ref mpa, .ref mnu, .ref mlt, .ref mpl, .ref mod, .ref mic, .ref mgo, .ref msk, .ref mfo, .int 0, .int 0, .ref mul, .ref mup, .ref mun, .int 0, .ref mfr, .ref mta, .int 0]))]) rfl rfl
  exact W.iret (v := 0) hx hb hr (fun t ht hW => ⟨⟨0, (), rfl, rfl, by rw [ht]; exact hP9, hD9⟩, hS.F ht⟩) hS.2.2 dX9_labelLength_21

set_option maxHeartbeats 4000000 in
set_option maxRecDepth 100000 in
theorem m_labelAt (l : Launch) (D : va_G) (cI : ClassId) (mm mlv msr mrs mpa mnu mlt mpl mod mic mgo msk mfo mul mup mun mfr mta : Nat) (t i j : Int32) (sz : Nat) : Met l yX9_labelAt vsX9_labelAt ({ frames := 4, cells := 0, slots := 0, locals := 85 }) (va_Pc [.ref mm, .int i, .int j] (zPre D [(cI, .int)] [(mm, .inr (12, [.int t, .ref mlv, .ref msr, .ref mrs, .ref mpa, .ref mnu, .ref mlt, .ref mpl, .ref mod, .ref mic, .ref mgo, .ref msk, .ref mfo, .int 0, .int 0, .ref mul, .ref mup, .ref mun, .int 0, .ref mfr, .ref mta, .int 0]))] sz)) (va_Qi (fun rv (_ : Unit) => rv = 0) (fun (_ : Unit) => zB D [(mm, .inr (12, [.int 1, .ref mlv, .ref msr, .ref mrs, .ref mpa, .ref mnu, .ref mlt, .ref mpl, .ref mod, .ref mic, .ref mgo, .ref msk, .ref mfo, .int 0, .int 0, .ref mul, .ref mup, .ref mun, .int 0, .ref mfr, .ref mta, .int 0]))] (va_A [(mm, .inr (12, [.int t, .ref mlv, .ref msr, .ref mrs, .ref mpa, .ref mnu, .ref mlt, .ref mpl, .ref mod, .ref mic, .ref mgo, .ref msk, .ref mfo, .int 0, .int 0, .ref mul, .ref mup, .ref mun, .int 0, .ref mfr, .ref mta, .int 0]))] sz)) (va_A [(mm, .inr (12, [.int t, .ref mlv, .ref msr, .ref mrs, .ref mpa, .ref mnu, .ref mlt, .ref mpl, .ref mod, .ref mic, .ref mgo, .ref msk, .ref mfo, .int 0, .int 0, .ref mul, .ref mup, .ref mun, .int 0, .ref mfr, .ref mta, .int 0]))] sz)) 0 0 (va_A [(mm, .inr (12, [.int t, .ref mlv, .ref msr, .ref mrs, .ref mpa, .ref mnu, .ref mlt, .ref mpl, .ref mod, .ref mic, .ref mgo, .ref msk, .ref mfo, .int 0, .int 0, .ref mul, .ref mup, .ref mun, .int 0, .ref mfr, .ref mta, .int 0]))] sz) := by
  refine Met.ofW (cc := cX9_labelAt) (maxL := 4) (ret := (some .char)) (by decide) rfl ?_
  intro P0 E0 s m args below meth C9 s₁ B hml hv
  obtain ⟨rfl, hsz, hP, hK, hD0⟩ := hv
  have hx := B.exec
  have hb := B.bytes
  have hr := B.returns
  have hts := atoms_spec (ws := vsX9_labelAt) B.pre
  have hown : s.vm.findClass RX9 = some m.cls := findClass_of_methodNamed B.named
  have hlocks := B.notSynchronized
  subst hsz
  have hD := hD0.self (sz := s.heap.size)
  generalize hAe : va_A [(mm, .inr (12, [.int t, .ref mlv, .ref msr, .ref mrs, .ref mpa, .ref mnu, .ref mlt, .ref mpl, .ref mod, .ref mic, .ref mgo, .ref msk, .ref mfo, .int 0, .int 0, .ref mul, .ref mup, .ref mun, .int 0, .ref mfr, .ref mta, .int 0]))] s.heap.size = A at hD ⊢
  have hA : ∀ q : Nat, s.heap.size ≤ q → A q := fun q h => by rw [← hAe]; exact Or.inr h
  have hS : va_S A s.heap s.heap [] := va_S.rf
  have hl := lv_entry ([.ref mm, .int i, .int j]) (n := 4) (Nat.le_of_ble_eq_true rfl)
  rw [lg_entry_eq]
  generalize (lg_sl ([.ref mm, .int i, .int j]) ++ List.replicate (4 - (lg_sl ([.ref mm, .int i, .int j])).length) Slot.unset).toArray = ls at hl ⊢
  have hl : lv_has ls 4 [(0, .ref mm), (1, .int i), (2, .int j)] := hl
  refine lv_aload_n hx hb dX9_labelAt_0 rfl (lv_at hl 0 rfl) ?_
  refine lv_iload_n hx hb dX9_labelAt_1 rfl (lv_at hl 1 rfl) ?_
  refine zc_i (wc := [(mm, .inr (12, [.int t, .ref mlv, .ref msr, .ref mrs, .ref mpa, .ref mnu, .ref mlt, .ref mpl, .ref mod, .ref mic, .ref mgo, .ref msk, .ref mfo, .int 0, .int 0, .ref mul, .ref mup, .ref mun, .int 0, .ref mfr, .ref mta, .int 0]))]) (wr := []) (va_runV (As := [.int i]) (rest := []) ⟨hx, hb, hml, hown, hts⟩ (k_misPlain0 l D cI mm mlv msr mrs mpa mnu mlt mpl mod mic mgo msk mfo mul mup mun mfr mta t i s.heap.size) (cwV 1 hts gvX9_labelAt rfl rfl rfl (by decide +kernel) ⟨Nat.le_of_ble_eq_true rfl, Nat.le_of_ble_eq_true rfl⟩) (zPV hK hP hD [0] rfl rfl [0] rfl 0 rfl rfl rfl) rfl rfl hl.1 rfl (lv_room (Nat.le_of_ble_eq_true rfl)) dX9_labelAt_2 ⟨Nat.le_of_ble_eq_true rfl, Nat.le_of_ble_eq_true rfl⟩) hP hD hS hA [0] [] rfl rfl rfl (by decide) (fun r _ H locs hw hP hD hS => ?_)
  have hP : va_P D vwCl [(mm, .inr (12, [.int 1, .ref mlv, .ref msr, .ref mrs, .ref mpa, .ref mnu, .ref mlt, .ref mpl, .ref mod, .ref mic, .ref mgo, .ref msk, .ref mfo, .int 0, .int 0, .ref mul, .ref mup, .ref mun, .int 0, .ref mfr, .ref mta, .int 0]))] H := hP
  have hD : va_D A [(mm, .inr (12, [.int 1, .ref mlv, .ref msr, .ref mrs, .ref mpa, .ref mnu, .ref mlt, .ref mpl, .ref mod, .ref mic, .ref mgo, .ref msk, .ref mfo, .int 0, .int 0, .ref mul, .ref mup, .ref mun, .int 0, .ref mfr, .ref mta, .int 0]))] := hD
  subst hw
  refine lv_if_eq (tgt := 10) hx hb dX9_labelAt_5 (by decide) (fun q => absurd q (by decide)) (fun _ => ?_)
  refine lv_iconst (v := 0) hx hb dX9_labelAt_8 (by decide) ?_
  obtain ⟨hP9, hD9⟩ := z_get hP hD [0] (wc := [(mm, .inr (12, [.int 1, .ref mlv, .ref msr, .ref mrs, .ref mpa, .ref mnu, .ref mlt, .ref mpl, .ref mod, .ref mic, .ref mgo, .ref msk, .ref mfo, .int 0, .int 0, .ref mul, .ref mup, .ref mun, .int 0, .ref mfr, .ref mta, .int 0]))]) rfl rfl
  exact W.zret (ty := .char) (v := 0) hx hb hr rfl (fun t ht hW => ⟨⟨0, (), rfl, rfl, by rw [ht]; exact hP9, hD9⟩, hS.F ht⟩) hS.2.2 dX9_labelAt_9

set_option maxHeartbeats 4000000 in
set_option maxRecDepth 100000 in
theorem m_referenceLength (l : Launch) (D : va_G) (cI : ClassId) (mm mlv msr mrs mpa mnu mlt mpl mod mic mgo msk mfo mul mup mun mfr mta : Nat) (t i : Int32) (sz : Nat) : Met l yX9_referenceLength vsX9_referenceLength ({ frames := 3, cells := 0, slots := 0, locals := 64 }) (va_Pc [.ref mm, .int i] (zPre D [(cI, .int)] [(mm, .inr (12, [.int t, .ref mlv, .ref msr, .ref mrs, .ref mpa, .ref mnu, .ref mlt, .ref mpl, .ref mod, .ref mic, .ref mgo, .ref msk, .ref mfo, .int 0, .int 0, .ref mul, .ref mup, .ref mun, .int 0, .ref mfr, .ref mta, .int 0]))] sz)) (va_Qi (fun rv (_ : Unit) => rv = 0) (fun (_ : Unit) => zB D [(mm, .inr (12, [.int 1, .ref mlv, .ref msr, .ref mrs, .ref mpa, .ref mnu, .ref mlt, .ref mpl, .ref mod, .ref mic, .ref mgo, .ref msk, .ref mfo, .int 0, .int 0, .ref mul, .ref mup, .ref mun, .int 0, .ref mfr, .ref mta, .int 0]))] (va_A [(mm, .inr (12, [.int t, .ref mlv, .ref msr, .ref mrs, .ref mpa, .ref mnu, .ref mlt, .ref mpl, .ref mod, .ref mic, .ref mgo, .ref msk, .ref mfo, .int 0, .int 0, .ref mul, .ref mup, .ref mun, .int 0, .ref mfr, .ref mta, .int 0]))] sz)) (va_A [(mm, .inr (12, [.int t, .ref mlv, .ref msr, .ref mrs, .ref mpa, .ref mnu, .ref mlt, .ref mpl, .ref mod, .ref mic, .ref mgo, .ref msk, .ref mfo, .int 0, .int 0, .ref mul, .ref mup, .ref mun, .int 0, .ref mfr, .ref mta, .int 0]))] sz)) 0 0 (va_A [(mm, .inr (12, [.int t, .ref mlv, .ref msr, .ref mrs, .ref mpa, .ref mnu, .ref mlt, .ref mpl, .ref mod, .ref mic, .ref mgo, .ref msk, .ref mfo, .int 0, .int 0, .ref mul, .ref mup, .ref mun, .int 0, .ref mfr, .ref mta, .int 0]))] sz) := by
  refine Met.ofW (cc := cX9_referenceLength) (maxL := 2) (ret := (some .int)) (by decide) rfl ?_
  intro P0 E0 s m args below meth C9 s₁ B hml hv
  obtain ⟨rfl, hsz, hP, hK, hD0⟩ := hv
  have hx := B.exec
  have hb := B.bytes
  have hr := B.returns
  have hts := atoms_spec (ws := vsX9_referenceLength) B.pre
  have hown : s.vm.findClass RX9 = some m.cls := findClass_of_methodNamed B.named
  have hlocks := B.notSynchronized
  subst hsz
  have hD := hD0.self (sz := s.heap.size)
  generalize hAe : va_A [(mm, .inr (12, [.int t, .ref mlv, .ref msr, .ref mrs, .ref mpa, .ref mnu, .ref mlt, .ref mpl, .ref mod, .ref mic, .ref mgo, .ref msk, .ref mfo, .int 0, .int 0, .ref mul, .ref mup, .ref mun, .int 0, .ref mfr, .ref mta, .int 0]))] s.heap.size = A at hD ⊢
  have hA : ∀ q : Nat, s.heap.size ≤ q → A q := fun q h => by rw [← hAe]; exact Or.inr h
  have hS : va_S A s.heap s.heap [] := va_S.rf
  have hl := lv_entry ([.ref mm, .int i]) (n := 2) (Nat.le_of_ble_eq_true rfl)
  rw [lg_entry_eq]
  generalize (lg_sl ([.ref mm, .int i]) ++ List.replicate (2 - (lg_sl ([.ref mm, .int i])).length) Slot.unset).toArray = ls at hl ⊢
  have hl : lv_has ls 2 [(0, .ref mm), (1, .int i)] := hl
  refine lv_aload_n hx hb dX9_referenceLength_0 rfl (lv_at hl 0 rfl) ?_
  refine lv_iload_n hx hb dX9_referenceLength_1 rfl (lv_at hl 1 rfl) ?_
  refine zc_i (wc := [(mm, .inr (12, [.int t, .ref mlv, .ref msr, .ref mrs, .ref mpa, .ref mnu, .ref mlt, .ref mpl, .ref mod, .ref mic, .ref mgo, .ref msk, .ref mfo, .int 0, .int 0, .ref mul, .ref mup, .ref mun, .int 0, .ref mfr, .ref mta, .int 0]))]) (wr := []) (va_runV (As := [.int i]) (rest := []) ⟨hx, hb, hml, hown, hts⟩ (k_isVoid0 l D cI mm mlv msr mrs mpa mnu mlt mpl mod mic mgo msk mfo mul mup mun mfr mta t i s.heap.size) (cwV 1 hts gvX9_referenceLength rfl rfl rfl (by decide +kernel) ⟨Nat.le_of_ble_eq_true rfl, Nat.le_of_ble_eq_true rfl⟩) (zPV hK hP hD [0] rfl rfl [0] rfl 0 rfl rfl rfl) rfl rfl hl.1 rfl (lv_room (Nat.le_of_ble_eq_true rfl)) dX9_referenceLength_2 ⟨Nat.le_of_ble_eq_true rfl, Nat.le_of_ble_eq_true rfl⟩) hP hD hS hA [0] [] rfl rfl rfl (by decide) (fun r _ H locs hw hP hD hS => ?_)
  have hP : va_P D vwCl [(mm, .inr (12, [.int 1, .ref mlv, .ref msr, .ref mrs, .ref mpa, .ref mnu, .ref mlt, .ref mpl, .ref mod, .ref mic, .ref mgo, .ref msk, .ref mfo, .int 0, .int 0, .ref mul, .ref mup, .ref mun, .int 0, .ref mfr, .ref mta, .int 0]))] H := hP
  have hD : va_D A [(mm, .inr (12, [.int 1, .ref mlv, .ref msr, .ref mrs, .ref mpa, .ref mnu, .ref mlt, .ref mpl, .ref mod, .ref mic, .ref mgo, .ref msk, .ref mfo, .int 0, .int 0, .ref mul, .ref mup, .ref mun, .int 0, .ref mfr, .ref mta, .int 0]))] := hD
  subst hw
  refine lv_if_eq (tgt := 12) hx hb dX9_referenceLength_5 (by decide) (fun q => absurd q (by decide)) (fun _ => ?_)
  refine lv_iconst (v := 0) hx hb dX9_referenceLength_8 (by decide) ?_
  refine lv_goto (tgt := 31) hx hb dX9_referenceLength_9 (by decide) ?_
  obtain ⟨hP9, hD9⟩ := z_get hP hD [0] (wc := [(mm, .inr (12, [.int 1, .ref mlv, .ref msr, .ref mrs, .ref mpa, .ref mnu, .ref mlt, .ref mpl, .ref mod, .ref mic, .ref mgo, .ref msk, .ref mfo, .int 0, .int 0, .ref mul, .ref mup, .ref mun, .int 0, .ref mfr, .ref mta, .int 0]))]) rfl rfl
  exact W.iret (v := 0) hx hb hr (fun t ht hW => ⟨⟨0, (), rfl, rfl, by rw [ht]; exact hP9, hD9⟩, hS.F ht⟩) hS.2.2 dX9_referenceLength_31

set_option maxHeartbeats 4000000 in
set_option maxRecDepth 100000 in
theorem m_referenceAt (l : Launch) (D : va_G) (cI : ClassId) (mm mlv msr mrs mpa mnu mlt mpl mod mic mgo msk mfo mul mup mun mfr mta : Nat) (t i j : Int32) (sz : Nat) : Met l yX9_referenceAt vsX9_referenceAt ({ frames := 3, cells := 0, slots := 0, locals := 64 }) (va_Pc [.ref mm, .int i, .int j] (zPre D [(cI, .int)] [(mm, .inr (12, [.int t, .ref mlv, .ref msr, .ref mrs, .ref mpa, .ref mnu, .ref mlt, .ref mpl, .ref mod, .ref mic, .ref mgo, .ref msk, .ref mfo, .int 0, .int 0, .ref mul, .ref mup, .ref mun, .int 0, .ref mfr, .ref mta, .int 0]))] sz)) (va_Qi (fun rv (_ : Unit) => rv = 0) (fun (_ : Unit) => zB D [(mm, .inr (12, [.int 1, .ref mlv, .ref msr, .ref mrs, .ref mpa, .ref mnu, .ref mlt, .ref mpl, .ref mod, .ref mic, .ref mgo, .ref msk, .ref mfo, .int 0, .int 0, .ref mul, .ref mup, .ref mun, .int 0, .ref mfr, .ref mta, .int 0]))] (va_A [(mm, .inr (12, [.int t, .ref mlv, .ref msr, .ref mrs, .ref mpa, .ref mnu, .ref mlt, .ref mpl, .ref mod, .ref mic, .ref mgo, .ref msk, .ref mfo, .int 0, .int 0, .ref mul, .ref mup, .ref mun, .int 0, .ref mfr, .ref mta, .int 0]))] sz)) (va_A [(mm, .inr (12, [.int t, .ref mlv, .ref msr, .ref mrs, .ref mpa, .ref mnu, .ref mlt, .ref mpl, .ref mod, .ref mic, .ref mgo, .ref msk, .ref mfo, .int 0, .int 0, .ref mul, .ref mup, .ref mun, .int 0, .ref mfr, .ref mta, .int 0]))] sz)) 0 0 (va_A [(mm, .inr (12, [.int t, .ref mlv, .ref msr, .ref mrs, .ref mpa, .ref mnu, .ref mlt, .ref mpl, .ref mod, .ref mic, .ref mgo, .ref msk, .ref mfo, .int 0, .int 0, .ref mul, .ref mup, .ref mun, .int 0, .ref mfr, .ref mta, .int 0]))] sz) := by
  refine Met.ofW (cc := cX9_referenceAt) (maxL := 4) (ret := (some .char)) (by decide) rfl ?_
  intro P0 E0 s m args below meth C9 s₁ B hml hv
  obtain ⟨rfl, hsz, hP, hK, hD0⟩ := hv
  have hx := B.exec
  have hb := B.bytes
  have hr := B.returns
  have hts := atoms_spec (ws := vsX9_referenceAt) B.pre
  have hown : s.vm.findClass RX9 = some m.cls := findClass_of_methodNamed B.named
  have hlocks := B.notSynchronized
  subst hsz
  have hD := hD0.self (sz := s.heap.size)
  generalize hAe : va_A [(mm, .inr (12, [.int t, .ref mlv, .ref msr, .ref mrs, .ref mpa, .ref mnu, .ref mlt, .ref mpl, .ref mod, .ref mic, .ref mgo, .ref msk, .ref mfo, .int 0, .int 0, .ref mul, .ref mup, .ref mun, .int 0, .ref mfr, .ref mta, .int 0]))] s.heap.size = A at hD ⊢
  have hA : ∀ q : Nat, s.heap.size ≤ q → A q := fun q h => by rw [← hAe]; exact Or.inr h
  have hS : va_S A s.heap s.heap [] := va_S.rf
  have hl := lv_entry ([.ref mm, .int i, .int j]) (n := 4) (Nat.le_of_ble_eq_true rfl)
  rw [lg_entry_eq]
  generalize (lg_sl ([.ref mm, .int i, .int j]) ++ List.replicate (4 - (lg_sl ([.ref mm, .int i, .int j])).length) Slot.unset).toArray = ls at hl ⊢
  have hl : lv_has ls 4 [(0, .ref mm), (1, .int i), (2, .int j)] := hl
  refine lv_aload_n hx hb dX9_referenceAt_0 rfl (lv_at hl 0 rfl) ?_
  refine lv_iload_n hx hb dX9_referenceAt_1 rfl (lv_at hl 1 rfl) ?_
  refine zc_i (wc := [(mm, .inr (12, [.int t, .ref mlv, .ref msr, .ref mrs, .ref mpa, .ref mnu, .ref mlt, .ref mpl, .ref mod, .ref mic, .ref mgo, .ref msk, .ref mfo, .int 0, .int 0, .ref mul, .ref mup, .ref mun, .int 0, .ref mfr, .ref mta, .int 0]))]) (wr := []) (va_runV (As := [.int i]) (rest := []) ⟨hx, hb, hml, hown, hts⟩ (k_isVoid0 l D cI mm mlv msr mrs mpa mnu mlt mpl mod mic mgo msk mfo mul mup mun mfr mta t i s.heap.size) (cwV 1 hts gvX9_referenceAt rfl rfl rfl (by decide +kernel) ⟨Nat.le_of_ble_eq_true rfl, Nat.le_of_ble_eq_true rfl⟩) (zPV hK hP hD [0] rfl rfl [0] rfl 0 rfl rfl rfl) rfl rfl hl.1 rfl (lv_room (Nat.le_of_ble_eq_true rfl)) dX9_referenceAt_2 ⟨Nat.le_of_ble_eq_true rfl, Nat.le_of_ble_eq_true rfl⟩) hP hD hS hA [0] [] rfl rfl rfl (by decide) (fun r _ H locs hw hP hD hS => ?_)
  have hP : va_P D vwCl [(mm, .inr (12, [.int 1, .ref mlv, .ref msr, .ref mrs, .ref mpa, .ref mnu, .ref mlt, .ref mpl, .ref mod, .ref mic, .ref mgo, .ref msk, .ref mfo, .int 0, .int 0, .ref mul, .ref mup, .ref mun, .int 0, .ref mfr, .ref mta, .int 0]))] H := hP
  have hD : va_D A [(mm, .inr (12, [.int 1, .ref mlv, .ref msr, .ref mrs, .ref mpa, .ref mnu, .ref mlt, .ref mpl, .ref mod, .ref mic, .ref mgo, .ref msk, .ref mfo, .int 0, .int 0, .ref mul, .ref mup, .ref mun, .int 0, .ref mfr, .ref mta, .int 0]))] := hD
  subst hw
  refine lv_if_eq (tgt := 10) hx hb dX9_referenceAt_5 (by decide) (fun q => absurd q (by decide)) (fun _ => ?_)
  refine lv_iconst (v := 0) hx hb dX9_referenceAt_8 (by decide) ?_
  obtain ⟨hP9, hD9⟩ := z_get hP hD [0] (wc := [(mm, .inr (12, [.int 1, .ref mlv, .ref msr, .ref mrs, .ref mpa, .ref mnu, .ref mlt, .ref mpl, .ref mod, .ref mic, .ref mgo, .ref msk, .ref mfo, .int 0, .int 0, .ref mul, .ref mup, .ref mun, .int 0, .ref mfr, .ref mta, .int 0]))]) rfl rfl
  exact W.zret (ty := .char) (v := 0) hx hb hr rfl (fun t ht hW => ⟨⟨0, (), rfl, rfl, by rw [ht]; exact hP9, hD9⟩, hS.F ht⟩) hS.2.2 dX9_referenceAt_9

set_option maxHeartbeats 4000000 in
set_option maxRecDepth 100000 in
theorem m_isUnique (l : Launch) (D : va_G) (cI : ClassId) (mm mlv msr mrs mpa mnu mlt mpl mod mic mgo msk mfo mul mup mun mfr mta : Nat) (t : Int32) (sz : Nat) : Met l yX9_isUnique vsX9_isUnique ({ frames := 0, cells := 0, slots := 0, locals := 0 }) (va_Pc [.ref mm] (zPre D [(cI, .int)] [(mm, .inr (12, [.int t, .ref mlv, .ref msr, .ref mrs, .ref mpa, .ref mnu, .ref mlt, .ref mpl, .ref mod, .ref mic, .ref mgo, .ref msk, .ref mfo, .int 0, .int 0, .ref mul, .ref mup, .ref mun, .int 0, .ref mfr, .ref mta, .int 0]))] sz)) (va_Qi (fun rv (_ : Unit) => rv = 1) (fun (_ : Unit) => zB D [(mm, .inr (12, [.int 0, .ref mlv, .ref msr, .ref mrs, .ref mpa, .ref mnu, .ref mlt, .ref mpl, .ref mod, .ref mic, .ref mgo, .ref msk, .ref mfo, .int 0, .int 0, .ref mul, .ref mup, .ref mun, .int 0, .ref mfr, .ref mta, .int 0]))] (va_A [(mm, .inr (12, [.int t, .ref mlv, .ref msr, .ref mrs, .ref mpa, .ref mnu, .ref mlt, .ref mpl, .ref mod, .ref mic, .ref mgo, .ref msk, .ref mfo, .int 0, .int 0, .ref mul, .ref mup, .ref mun, .int 0, .ref mfr, .ref mta, .int 0]))] sz)) (va_A [(mm, .inr (12, [.int t, .ref mlv, .ref msr, .ref mrs, .ref mpa, .ref mnu, .ref mlt, .ref mpl, .ref mod, .ref mic, .ref mgo, .ref msk, .ref mfo, .int 0, .int 0, .ref mul, .ref mup, .ref mun, .int 0, .ref mfr, .ref mta, .int 0]))] sz)) 0 0 (va_A [(mm, .inr (12, [.int t, .ref mlv, .ref msr, .ref mrs, .ref mpa, .ref mnu, .ref mlt, .ref mpl, .ref mod, .ref mic, .ref mgo, .ref msk, .ref mfo, .int 0, .int 0, .ref mul, .ref mup, .ref mun, .int 0, .ref mfr, .ref mta, .int 0]))] sz) := by
  refine Met.ofW (cc := cX9_isUnique) (maxL := 3) (ret := (some .boolean)) (by decide) rfl ?_
  intro P0 E0 s m args below meth C9 s₁ B hml hv
  obtain ⟨rfl, hsz, hP, hK, hD0⟩ := hv
  have hx := B.exec
  have hb := B.bytes
  have hr := B.returns
  have hts := atoms_spec (ws := vsX9_isUnique) B.pre
  have hown : s.vm.findClass RX9 = some m.cls := findClass_of_methodNamed B.named
  have hlocks := B.notSynchronized
  subst hsz
  have hD := hD0.self (sz := s.heap.size)
  generalize hAe : va_A [(mm, .inr (12, [.int t, .ref mlv, .ref msr, .ref mrs, .ref mpa, .ref mnu, .ref mlt, .ref mpl, .ref mod, .ref mic, .ref mgo, .ref msk, .ref mfo, .int 0, .int 0, .ref mul, .ref mup, .ref mun, .int 0, .ref mfr, .ref mta, .int 0]))] s.heap.size = A at hD ⊢
  have hA : ∀ q : Nat, s.heap.size ≤ q → A q := fun q h => by rw [← hAe]; exact Or.inr h
  have hS : va_S A s.heap s.heap [] := va_S.rf
  have hl := lv_entry ([.ref mm]) (n := 3) (Nat.le_of_ble_eq_true rfl)
  rw [lg_entry_eq]
  generalize (lg_sl ([.ref mm]) ++ List.replicate (3 - (lg_sl ([.ref mm])).length) Slot.unset).toArray = ls at hl ⊢
  have hl : lv_has ls 3 [(0, .ref mm)] := hl
  refine lv_aload_n hx hb dX9_isUnique_0 rfl (lv_at hl 0 rfl) ?_
  refine lv_iconst (v := 0) hx hb dX9_isUnique_1 (by decide) ?_
  refine va_put (D := D) (ci := 12) (v := .int 0) (ty := .int) (C := RX9) (T := TX9) (N := 22) hx hb hts (fun _ h => List.mem_cons_of_mem _ (List.mem_append_right _ h)) tyX9 tyX9_ok nmX9 hown hK hP hD hS 0 rfl rfl 0 (by decide) (hts (.fieldLink RX9 65 "NumberingTreeModel" "thrown" "I") (List.mem_of_getElem? (i := 1) rfl)) (fun _ h9 => h9) rfl (by decide +kernel) rfl rfl (Nat.le_of_ble_eq_true rfl) dX9_isUnique_2 (fun H locs hP hD hS => ?_)
  have hP : va_P D vwCl [(mm, .inr (12, [.int 0, .ref mlv, .ref msr, .ref mrs, .ref mpa, .ref mnu, .ref mlt, .ref mpl, .ref mod, .ref mic, .ref mgo, .ref msk, .ref mfo, .int 0, .int 0, .ref mul, .ref mup, .ref mun, .int 0, .ref mfr, .ref mta, .int 0]))] H := hP
  have hD : va_D A [(mm, .inr (12, [.int 0, .ref mlv, .ref msr, .ref mrs, .ref mpa, .ref mnu, .ref mlt, .ref mpl, .ref mod, .ref mic, .ref mgo, .ref msk, .ref mfo, .int 0, .int 0, .ref mul, .ref mup, .ref mun, .int 0, .ref mfr, .ref mta, .int 0]))] := hD
  refine lv_iconst (v := 0) hx hb dX9_isUnique_5 (by decide) ?_
  refine lv_istore_n (lv' := [(1, .int 0), (0, .ref mm)]) hx hb dX9_isUnique_6 rfl hl (by decide) rfl (fun ls hl => ?_)
  refine lv_iload_n hx hb dX9_isUnique_7 rfl (lv_at hl 0 rfl) ?_
  refine lv_aload_n hx hb dX9_isUnique_8 rfl (lv_at hl 1 rfl) ?_
  refine va_get (D := D) (ci := 12) (v := .int 0) (C := RX9) (T := TX9) (N := 22) hx hb hts (fun _ h => List.mem_cons_of_mem _ (List.mem_append_right _ h)) hown hK hP 0 rfl rfl 14 (by decide) (hts (.fieldLink RX9 91 "NumberingTreeModel" "size" "I") (List.mem_of_getElem? (i := 2) rfl)) (fun _ h9 => h9) rfl dX9_isUnique_9 ?_
  refine lv_icmp_ge (tgt := 103) hx hb dX9_isUnique_12 (by decide) (fun _ => ?_) (fun q => absurd q (by decide))
  refine lv_iconst (v := 1) hx hb dX9_isUnique_103 (by decide) ?_
  obtain ⟨hP9, hD9⟩ := z_get hP hD [0] (wc := [(mm, .inr (12, [.int 0, .ref mlv, .ref msr, .ref mrs, .ref mpa, .ref mnu, .ref mlt, .ref mpl, .ref mod, .ref mic, .ref mgo, .ref msk, .ref mfo, .int 0, .int 0, .ref mul, .ref mup, .ref mun, .int 0, .ref mfr, .ref mta, .int 0]))]) rfl rfl
  exact W.zret (ty := .boolean) (v := 1) hx hb hr rfl (fun t ht hW => ⟨⟨1, (), rfl, rfl, by rw [ht]; exact hP9, hD9⟩, hS.F ht⟩) hS.2.2 dX9_isUnique_104

set_option maxHeartbeats 4000000 in
set_option maxRecDepth 100000 in
theorem k_isNaN0 (l : Launch) (D : va_G) (cI : ClassId) (sz : Nat) : Met l yJxf58ca_isNaN_12338 wsJxf58ca_isNaN_12338 ({ frames := 0, cells := 0, slots := 0, locals := 0 }) (va_Pc [.float (FP.i2f 0)] (zPre D [(cI, .int)] [] sz)) (va_Qi (fun rv (_ : Unit) => rv = 0) (fun (_ : Unit) => zB D [] (va_A [] sz)) (va_A [] sz)) 0 0 (va_A [] sz) := by
  refine zofWF (cc := cJxf58ca_isNaN_12338) (maxL := 1) (ret := (some .boolean)) (by decide +kernel) rfl ?_
  intro P0 E0 s m args below meth C9 s₁ B hml hv
  obtain ⟨rfl, hsz, hP, hK, hD0⟩ := hv
  have hx := B.exec
  have hb := B.bytes
  have hr := B.returns
  have hts := atoms_spec (ws := wsJxf58ca_isNaN_12338) B.pre
  have hown : s.vm.findClass RJxf58ca = some m.cls := findClass_of_methodNamed B.named
  have hlocks := B.notSynchronized
  subst hsz
  have hD := hD0.self (sz := s.heap.size)
  generalize hAe : va_A [] s.heap.size = A at hD ⊢
  have hA : ∀ q : Nat, s.heap.size ≤ q → A q := fun q h => by rw [← hAe]; exact Or.inr h
  have hS : va_S A s.heap s.heap [] := va_S.rf
  have hl := lv_entry ([.float (FP.i2f 0)]) (n := 1) (Nat.le_of_ble_eq_true rfl)
  rw [lg_entry_eq]
  generalize (lg_sl ([.float (FP.i2f 0)]) ++ List.replicate (1 - (lg_sl ([.float (FP.i2f 0)])).length) Slot.unset).toArray = ls at hl ⊢
  have hl : lv_has ls 1 [(0, .float (FP.i2f 0))] := hl
  refine lv_fload_n hx hb dJxf58ca_isNaN_12338_0 rfl (lv_at hl 0 rfl) ?_
  refine lv_fload_n hx hb dJxf58ca_isNaN_12338_1 rfl (lv_at hl 0 rfl) ?_
  refine lv_fcmp hx hb dJxf58ca_isNaN_12338_2 ?_
  refine zt_i 0 (by decide +kernel) ?_
  refine lv_if_eq (tgt := 10) hx hb dJxf58ca_isNaN_12338_3 (by decide) (fun _ => ?_) (fun q => absurd q (by decide))
  refine lv_iconst (v := 0) hx hb dJxf58ca_isNaN_12338_10 (by decide) ?_
  obtain ⟨hP9, hD9⟩ := z_get hP hD [] (wc := []) rfl rfl
  exact W.zret (ty := .boolean) (v := 0) hx hb hr rfl (fun t ht hW => ⟨⟨0, (), rfl, rfl, by rw [ht]; exact hP9, hD9⟩, hS.F ht⟩) hS.2.2 dJxf58ca_isNaN_12338_11

set_option maxHeartbeats 4000000 in
set_option maxRecDepth 100000 in
theorem k_fbits0 (l : Launch) (D : va_G) (cI : ClassId) (sz : Nat) : Met l yJxf58ca_floatToIntBits_5c35a wsJxf58ca_floatToIntBits_5c35a ({ frames := 1, cells := 0, slots := 0, locals := 23 }) (va_Pc [.float (FP.i2f 0)] (zPre D [(cI, .int)] [] sz)) (va_Qi (fun rv (_ : Unit) => rv = 0) (fun (_ : Unit) => zB D [] (va_A [] sz)) (va_A [] sz)) 0 0 (va_A [] sz) := by
  refine zofWF (cc := cJxf58ca_floatToIntBits_5c35a) (maxL := 1) (ret := (some .int)) (by decide +kernel) rfl ?_
  intro P0 E0 s m args below meth C9 s₁ B hml hv
  obtain ⟨rfl, hsz, hP, hK, hD0⟩ := hv
  have hx := B.exec
  have hb := B.bytes
  have hr := B.returns
  have hts := atoms_spec (ws := wsJxf58ca_floatToIntBits_5c35a) B.pre
  have hown : s.vm.findClass RJxf58ca = some m.cls := findClass_of_methodNamed B.named
  have hlocks := B.notSynchronized
  subst hsz
  have hD := hD0.self (sz := s.heap.size)
  generalize hAe : va_A [] s.heap.size = A at hD ⊢
  have hA : ∀ q : Nat, s.heap.size ≤ q → A q := fun q h => by rw [← hAe]; exact Or.inr h
  have hS : va_S A s.heap s.heap [] := va_S.rf
  have hl := lv_entry ([.float (FP.i2f 0)]) (n := 1) (Nat.le_of_ble_eq_true rfl)
  rw [lg_entry_eq]
  generalize (lg_sl ([.float (FP.i2f 0)]) ++ List.replicate (1 - (lg_sl ([.float (FP.i2f 0)])).length) Slot.unset).toArray = ls at hl ⊢
  have hl : lv_has ls 1 [(0, .float (FP.i2f 0))] := hl
  refine lv_fload_n hx hb dJxf58ca_floatToIntBits_5c35a_0 rfl (lv_at hl 0 rfl) ?_
  refine zc_i (wc := []) (wr := []) (va_runS (As := [.float (FP.i2f 0)]) (rest := []) ⟨hx, hb, hml, hown, hts⟩ (k_isNaN0 l D cI s.heap.size) (va_cwS 1 hts gJxf58ca_floatToIntBits_5c35a_Jxf58ca_isNaN_12338 rfl rfl rfl (by decide +kernel) ⟨Nat.le_of_ble_eq_true rfl, Nat.le_of_ble_eq_true rfl⟩) (zPS hK hP hD [] rfl rfl [0] rfl) rfl rfl hl.1 rfl (lv_room (Nat.le_of_ble_eq_true rfl)) dJxf58ca_floatToIntBits_5c35a_1 ⟨Nat.le_of_ble_eq_true rfl, Nat.le_of_ble_eq_true rfl⟩) hP hD hS hA [] [] rfl rfl rfl (by decide) (fun r _ H locs hw hP hD hS => ?_)
  have hP : va_P D vwCl [] H := hP
  have hD : va_D A [] := hD
  subst hw
  refine lv_if_ne (tgt := 12) hx hb dJxf58ca_floatToIntBits_5c35a_4 (by decide) (fun q => absurd q (by decide)) (fun _ => ?_)
  refine lv_fload_n hx hb dJxf58ca_floatToIntBits_5c35a_7 rfl (lv_at hl 0 rfl) ?_
  refine vn_f2i hx hb (hml.trans hl.1.symm) hown (hts (.methodLink RJxf58ca 74 ⟨"java/lang/Float", "floatToRawIntBits", "(F)I"⟩) (List.mem_of_getElem? (i := 1) rfl)) (hts (.native ⟨"java/lang/Float", "floatToRawIntBits", "(F)I"⟩) (List.mem_of_getElem? (i := 2) rfl)) (hts (.static ⟨"java/lang/Float", "floatToRawIntBits", "(F)I"⟩) (List.mem_of_getElem? (i := 3) rfl)) (hts (.initialized "java/lang/Float") (List.mem_of_getElem? (i := 4) rfl)) (Nat.le_of_ble_eq_true rfl) (Nat.le_of_ble_eq_true rfl) dJxf58ca_floatToIntBits_5c35a_8 ?_
  refine zt_i 0 (by decide +kernel) ?_
  obtain ⟨hP9, hD9⟩ := z_get hP hD [] (wc := []) rfl rfl
  exact W.iret (v := 0) hx hb hr (fun t ht hW => ⟨⟨0, (), rfl, rfl, by rw [ht]; exact hP9, hD9⟩, hS.F ht⟩) hS.2.2 dJxf58ca_floatToIntBits_5c35a_11

set_option maxHeartbeats 4000000 in
set_option maxRecDepth 100000 in
theorem m_shareBits (l : Launch) (D : va_G) (cI : ClassId) (mm mlv msr mrs mpa mnu mlt mpl mod mic mgo msk mfo mul mup mun mfr mta : Nat) (t : Int32) (sz : Nat) : Met l yX9_shareBits wsX9_shareBits ({ frames := 2, cells := 0, slots := 0, locals := 45 }) (va_Pc [.ref mm] (zPre D [(cI, .int)] [(mm, .inr (12, [.int t, .ref mlv, .ref msr, .ref mrs, .ref mpa, .ref mnu, .ref mlt, .ref mpl, .ref mod, .ref mic, .ref mgo, .ref msk, .ref mfo, .int 0, .int 0, .ref mul, .ref mup, .ref mun, .int 0, .ref mfr, .ref mta, .int 0]))] sz)) (va_Qi (fun rv (_ : Unit) => rv = 0) (fun (_ : Unit) => zB D [(mm, .inr (12, [.int 1, .ref mlv, .ref msr, .ref mrs, .ref mpa, .ref mnu, .ref mlt, .ref mpl, .ref mod, .ref mic, .ref mgo, .ref msk, .ref mfo, .int 0, .int 0, .ref mul, .ref mup, .ref mun, .int 0, .ref mfr, .ref mta, .int 0]))] (va_A [(mm, .inr (12, [.int t, .ref mlv, .ref msr, .ref mrs, .ref mpa, .ref mnu, .ref mlt, .ref mpl, .ref mod, .ref mic, .ref mgo, .ref msk, .ref mfo, .int 0, .int 0, .ref mul, .ref mup, .ref mun, .int 0, .ref mfr, .ref mta, .int 0]))] sz)) (va_A [(mm, .inr (12, [.int t, .ref mlv, .ref msr, .ref mrs, .ref mpa, .ref mnu, .ref mlt, .ref mpl, .ref mod, .ref mic, .ref mgo, .ref msk, .ref mfo, .int 0, .int 0, .ref mul, .ref mup, .ref mun, .int 0, .ref mfr, .ref mta, .int 0]))] sz)) 0 0 (va_A [(mm, .inr (12, [.int t, .ref mlv, .ref msr, .ref mrs, .ref mpa, .ref mnu, .ref mlt, .ref mpl, .ref mod, .ref mic, .ref mgo, .ref msk, .ref mfo, .int 0, .int 0, .ref mul, .ref mup, .ref mun, .int 0, .ref mfr, .ref mta, .int 0]))] sz) := by
  refine Met.ofW (cc := cX9_shareBits) (maxL := 1) (ret := (some .int)) (by decide) rfl ?_
  intro P0 E0 s m args below meth C9 s₁ B hml hv
  obtain ⟨rfl, hsz, hP, hK, hD0⟩ := hv
  have hx := B.exec
  have hb := B.bytes
  have hr := B.returns
  have hts := atoms_spec (ws := wsX9_shareBits) B.pre
  have hown : s.vm.findClass RX9 = some m.cls := findClass_of_methodNamed B.named
  have hlocks := B.notSynchronized
  subst hsz
  have hD := hD0.self (sz := s.heap.size)
  generalize hAe : va_A [(mm, .inr (12, [.int t, .ref mlv, .ref msr, .ref mrs, .ref mpa, .ref mnu, .ref mlt, .ref mpl, .ref mod, .ref mic, .ref mgo, .ref msk, .ref mfo, .int 0, .int 0, .ref mul, .ref mup, .ref mun, .int 0, .ref mfr, .ref mta, .int 0]))] s.heap.size = A at hD ⊢
  have hA : ∀ q : Nat, s.heap.size ≤ q → A q := fun q h => by rw [← hAe]; exact Or.inr h
  have hS : va_S A s.heap s.heap [] := va_S.rf
  have hl := lv_entry ([.ref mm]) (n := 1) (Nat.le_of_ble_eq_true rfl)
  rw [lg_entry_eq]
  generalize (lg_sl ([.ref mm]) ++ List.replicate (1 - (lg_sl ([.ref mm])).length) Slot.unset).toArray = ls at hl ⊢
  have hl : lv_has ls 1 [(0, .ref mm)] := hl
  refine lv_aload_n hx hb dX9_shareBits_0 rfl (lv_at hl 0 rfl) ?_
  refine lv_iconst (v := 0) hx hb dX9_shareBits_1 (by decide) ?_
  refine va_put (D := D) (ci := 12) (v := .int 0) (ty := .int) (C := RX9) (T := TX9) (N := 22) hx hb hts (fun _ h => List.mem_cons_of_mem _ (List.mem_append_left _ (List.mem_append_right _ h))) tyX9 tyX9_ok nmX9 hown hK hP hD hS 0 rfl rfl 0 (by decide) (hts (.fieldLink RX9 65 "NumberingTreeModel" "thrown" "I") (List.mem_of_getElem? (i := 1) rfl)) (fun _ h9 => h9) rfl (by decide +kernel) rfl rfl (Nat.le_of_ble_eq_true rfl) dX9_shareBits_2 (fun H locs hP hD hS => ?_)
  have hP : va_P D vwCl [(mm, .inr (12, [.int 0, .ref mlv, .ref msr, .ref mrs, .ref mpa, .ref mnu, .ref mlt, .ref mpl, .ref mod, .ref mic, .ref mgo, .ref msk, .ref mfo, .int 0, .int 0, .ref mul, .ref mup, .ref mun, .int 0, .ref mfr, .ref mta, .int 0]))] H := hP
  have hD : va_D A [(mm, .inr (12, [.int 0, .ref mlv, .ref msr, .ref mrs, .ref mpa, .ref mnu, .ref mlt, .ref mpl, .ref mod, .ref mic, .ref mgo, .ref msk, .ref mfo, .int 0, .int 0, .ref mul, .ref mup, .ref mun, .int 0, .ref mfr, .ref mta, .int 0]))] := hD
  refine lv_aload_n hx hb dX9_shareBits_5 rfl (lv_at hl 0 rfl) ?_
  refine zc_f (wc := [(mm, .inr (12, [.int 0, .ref mlv, .ref msr, .ref mrs, .ref mpa, .ref mnu, .ref mlt, .ref mpl, .ref mod, .ref mic, .ref mgo, .ref msk, .ref mfo, .int 0, .int 0, .ref mul, .ref mup, .ref mun, .int 0, .ref mfr, .ref mta, .int 0]))]) (wr := []) (va_runV (As := []) (rest := []) ⟨hx, hb, hml, hown, hts⟩ (k_share l D cI mm mlv msr mrs mpa mnu mlt mpl mod mic mgo msk mfo mul mup mun mfr mta 0 H.size) (cwV 0 hts gX9_shareBits_X9_share rfl rfl rfl (by decide +kernel) ⟨Nat.le_of_ble_eq_true rfl, Nat.le_of_ble_eq_true rfl⟩) (zPV hK hP hD [0] rfl rfl [0] rfl 0 rfl rfl rfl) rfl rfl hl.1 rfl (lv_room (Nat.le_of_ble_eq_true rfl)) dX9_shareBits_6 ⟨Nat.le_of_ble_eq_true rfl, Nat.le_of_ble_eq_true rfl⟩) hP hD hS hA [0] [] rfl rfl rfl (by decide) (fun r _ H locs hw hP hD hS => ?_)
  have hP : va_P D vwCl [(mm, .inr (12, [.int 1, .ref mlv, .ref msr, .ref mrs, .ref mpa, .ref mnu, .ref mlt, .ref mpl, .ref mod, .ref mic, .ref mgo, .ref msk, .ref mfo, .int 0, .int 0, .ref mul, .ref mup, .ref mun, .int 0, .ref mfr, .ref mta, .int 0]))] H := hP
  have hD : va_D A [(mm, .inr (12, [.int 1, .ref mlv, .ref msr, .ref mrs, .ref mpa, .ref mnu, .ref mlt, .ref mpl, .ref mod, .ref mic, .ref mgo, .ref msk, .ref mfo, .int 0, .int 0, .ref mul, .ref mup, .ref mun, .int 0, .ref mfr, .ref mta, .int 0]))] := hD
  subst hw
  refine zc_i (wc := []) (wr := [(mm, .inr (12, [.int 1, .ref mlv, .ref msr, .ref mrs, .ref mpa, .ref mnu, .ref mlt, .ref mpl, .ref mod, .ref mic, .ref mgo, .ref msk, .ref mfo, .int 0, .int 0, .ref mul, .ref mup, .ref mun, .int 0, .ref mfr, .ref mta, .int 0]))]) (va_runS (As := [.float (FP.i2f 0)]) (rest := []) ⟨hx, hb, hml, hown, hts⟩ (k_fbits0 l D cI H.size) (va_cwS 1 hts gX9_shareBits_Jxf58ca_floatToIntBits_5c35a rfl rfl rfl (by decide +kernel) ⟨Nat.le_of_ble_eq_true rfl, Nat.le_of_ble_eq_true rfl⟩) (zPS hK hP hD [] rfl rfl [0] rfl) rfl rfl hl.1 rfl (lv_room (Nat.le_of_ble_eq_true rfl)) dX9_shareBits_9 ⟨Nat.le_of_ble_eq_true rfl, Nat.le_of_ble_eq_true rfl⟩) hP hD hS hA [] [0] rfl rfl rfl (by decide) (fun r _ H locs hw hP hD hS => ?_)
  have hP : va_P D vwCl [(mm, .inr (12, [.int 1, .ref mlv, .ref msr, .ref mrs, .ref mpa, .ref mnu, .ref mlt, .ref mpl, .ref mod, .ref mic, .ref mgo, .ref msk, .ref mfo, .int 0, .int 0, .ref mul, .ref mup, .ref mun, .int 0, .ref mfr, .ref mta, .int 0]))] H := hP
  have hD : va_D A [(mm, .inr (12, [.int 1, .ref mlv, .ref msr, .ref mrs, .ref mpa, .ref mnu, .ref mlt, .ref mpl, .ref mod, .ref mic, .ref mgo, .ref msk, .ref mfo, .int 0, .int 0, .ref mul, .ref mup, .ref mun, .int 0, .ref mfr, .ref mta, .int 0]))] := hD
  subst hw
  obtain ⟨hP9, hD9⟩ := z_get hP hD [0] (wc := [(mm, .inr (12, [.int 1, .ref mlv, .ref msr, .ref mrs, .ref mpa, .ref mnu, .ref mlt, .ref mpl, .ref mod, .ref mic, .ref mgo, .ref msk, .ref mfo, .int 0, .int 0, .ref mul, .ref mup, .ref mun, .int 0, .ref mfr, .ref mta, .int 0]))]) rfl rfl
  exact W.iret (v := 0) hx hb hr (fun t ht hW => ⟨⟨0, (), rfl, rfl, by rw [ht]; exact hP9, hD9⟩, hS.F ht⟩) hS.2.2 dX9_shareBits_12

set_option maxHeartbeats 8000000 in
set_option maxRecDepth 100000 in
/-- the one call -/
theorem law_disp {P0 : Program} {l : Launch} {E0 : Env} {s : State} {m : MethodId} {below : List Frame} {meth : Method} {C9 : Code} {b : Nat} {xs : Nat → Int32} {D : va_G} {cI cZ cC cQ cL cD : ClassId} {A : Nat → Prop} (C : lcx P0 l s m meth C9 b 3 xs D cI cZ cC cQ cL cD A) {xa xa35 xa36 xa37 xa40 xa39 xa0 xa2 xa4 xa6 xa1 xa3 xa5 xa7 xa8 xa10 xa12 xa14 xa9 xa11 xa13 xa15 xa38 xa16 xa18 xa20 xa22 xa24 xa26 xa28 xa30 xa31 xa32 xa17 xa19 xa21 xa23 xa25 xa27 xa29 xa33 xa34 ma mb0 mb1 mb2 mb3 mb4 mb5 mb6 mb7 mb8 mb9 mb10 mb11 mb12 mb13 mb14 mb15 mb16 mb17 mb18 mb19 mb20 mb21 oa da : Nat} {H : Heap} {locs : List Loc} {ls : Array Slot} (hP : va_P D vwCl [(xa, .inr (11, [.ref xa35, .ref xa36, .ref xa37, .ref xa40, .ref xa39, .int 0])), (xa35, .inr (8, [.ref xa0, .ref xa2, .ref xa4, .ref xa6, .int 0])), (xa0, .inr (7, [.ref xa1])), (xa1, .inl (cI, 60, .inl (fun _ => 0))), (xa2, .inr (7, [.ref xa3])), (xa3, .inl (cI, 60, .inl (fun _ => 0))), (xa4, .inr (7, [.ref xa5])), (xa5, .inl (cI, 60, .inl (fun _ => 0))), (xa6, .inr (7, [.ref xa7])), (xa7, .inl (cI, 60, .inl (fun _ => 0))), (xa36, .inr (4, [.ref xa8, .ref xa10, .ref xa12, .ref xa14])), (xa8, .inr (7, [.ref xa9])), (xa9, .inl (cI, 5, .inl (zPut 5 (zPut 5 (zPut 5 (zPut 5 (fun _ => 0) 1 100) 2 100) 3 100) 4 100))), (xa10, .inr (7, [.ref xa11])), (xa11, .inl (cI, 5, .inl (fun _ => 0))), (xa12, .inr (7, [.ref xa13])), (xa13, .inl (cI, 500, .inl (fun _ => 0))), (xa14, .inr (7, [.ref xa15])), (xa15, .inl (cI, 5, .inl (fun _ => 0))), (xa37, .inr (6, [.ref xa35, .ref xa36, .ref xa38, .ref xa16, .ref xa18, .ref xa20, .ref xa22, .ref xa24, .ref xa26, .ref xa28, .ref xa30, .int 0, .int 0])), (xa38, .inr (10, [.ref xa31, .ref xa32, .int 0])), (xa16, .inr (7, [.ref xa17])), (xa17, .inl (cI, 60, .inl (fun _ => 0))), (xa18, .inr (7, [.ref xa19])), (xa19, .inl (cI, 60, .inl (fun _ => 0))), (xa20, .inr (7, [.ref xa21])), (xa21, .inl (cI, 60, .inl (fun _ => 0))), (xa22, .inr (7, [.ref xa23])), (xa23, .inl (cI, 60, .inl (fun _ => 0))), (xa24, .inr (7, [.ref xa25])), (xa25, .inl (cI, 60, .inl (fun _ => 0))), (xa26, .inr (7, [.ref xa27])), (xa27, .inl (cI, 60, .inl (fun _ => 0))), (xa28, .inr (7, [.ref xa29])), (xa29, .inl (cI, 60, .inl (fun _ => 0))), (xa39, .inr (5, [.ref xa33, .ref xa34, .int 0])), (ma, .inr (12, [.int 0, .ref mb0, .ref mb1, .ref mb2, .ref mb3, .ref mb4, .ref mb5, .ref mb6, .ref mb7, .ref mb8, .ref mb9, .ref mb10, .ref mb11, .int 0, .int 0, .ref mb12, .ref mb13, .ref mb14, .int 0, .ref mb15, .ref mb16, .int 0])), (mb0, .inl (cI, 60, .inl (fun _ => 0))), (mb1, .inl (cI, 60, .inl (fun _ => 0))), (mb3, .inl (cI, 60, .inl (fun _ => 0))), (mb4, .inl (cI, 60, .inl (fun _ => 0))), (mb5, .inl (cI, 60, .inl (fun _ => 0))), (mb6, .inl (cI, 60, .inl (fun _ => 0))), (mb7, .inl (cI, 61, .inl (fun _ => 0))), (mb8, .inl (cZ, 60, .inl (fun _ => 0))), (mb9, .inl (cZ, 5, .inl (fun _ => 0))), (mb10, .inl (cQ, 5, .inr (.inr (.inr (.inr (zG (mb17) (mb18) (mb19) (mb20) (mb21))))))), (mb17, .inl (cZ, 100, .inl (fun _ => 0))), (mb18, .inl (cZ, 100, .inl (fun _ => 0))), (mb19, .inl (cZ, 100, .inl (fun _ => 0))), (mb20, .inl (cZ, 100, .inl (fun _ => 0))), (mb21, .inl (cZ, 100, .inl (fun _ => 0))), (mb11, .inl (cC, 5, .inl (upd (upd (upd (upd (upd (fun _ => 0) 0 (vp_nar .char 100)) 1 (vp_nar .char 100)) 2 (vp_nar .char 100)) 3 (vp_nar .char 100)) 4 (vp_nar .char 100)))), (oa, .inl (cL, 1, .inr (.inl (fun _ => 0)))), (da, .inl (cD, 1, .inr (.inr (.inr (.inl (fun _ => 0))))))] H) (hD : va_D A [(xa, .inr (11, [.ref xa35, .ref xa36, .ref xa37, .ref xa40, .ref xa39, .int 0])), (xa35, .inr (8, [.ref xa0, .ref xa2, .ref xa4, .ref xa6, .int 0])), (xa0, .inr (7, [.ref xa1])), (xa1, .inl (cI, 60, .inl (fun _ => 0))), (xa2, .inr (7, [.ref xa3])), (xa3, .inl (cI, 60, .inl (fun _ => 0))), (xa4, .inr (7, [.ref xa5])), (xa5, .inl (cI, 60, .inl (fun _ => 0))), (xa6, .inr (7, [.ref xa7])), (xa7, .inl (cI, 60, .inl (fun _ => 0))), (xa36, .inr (4, [.ref xa8, .ref xa10, .ref xa12, .ref xa14])), (xa8, .inr (7, [.ref xa9])), (xa9, .inl (cI, 5, .inl (zPut 5 (zPut 5 (zPut 5 (zPut 5 (fun _ => 0) 1 100) 2 100) 3 100) 4 100))), (xa10, .inr (7, [.ref xa11])), (xa11, .inl (cI, 5, .inl (fun _ => 0))), (xa12, .inr (7, [.ref xa13])), (xa13, .inl (cI, 500, .inl (fun _ => 0))), (xa14, .inr (7, [.ref xa15])), (xa15, .inl (cI, 5, .inl (fun _ => 0))), (xa37, .inr (6, [.ref xa35, .ref xa36, .ref xa38, .ref xa16, .ref xa18, .ref xa20, .ref xa22, .ref xa24, .ref xa26, .ref xa28, .ref xa30, .int 0, .int 0])), (xa38, .inr (10, [.ref xa31, .ref xa32, .int 0])), (xa16, .inr (7, [.ref xa17])), (xa17, .inl (cI, 60, .inl (fun _ => 0))), (xa18, .inr (7, [.ref xa19])), (xa19, .inl (cI, 60, .inl (fun _ => 0))), (xa20, .inr (7, [.ref xa21])), (xa21, .inl (cI, 60, .inl (fun _ => 0))), (xa22, .inr (7, [.ref xa23])), (xa23, .inl (cI, 60, .inl (fun _ => 0))), (xa24, .inr (7, [.ref xa25])), (xa25, .inl (cI, 60, .inl (fun _ => 0))), (xa26, .inr (7, [.ref xa27])), (xa27, .inl (cI, 60, .inl (fun _ => 0))), (xa28, .inr (7, [.ref xa29])), (xa29, .inl (cI, 60, .inl (fun _ => 0))), (xa39, .inr (5, [.ref xa33, .ref xa34, .int 0])), (ma, .inr (12, [.int 0, .ref mb0, .ref mb1, .ref mb2, .ref mb3, .ref mb4, .ref mb5, .ref mb6, .ref mb7, .ref mb8, .ref mb9, .ref mb10, .ref mb11, .int 0, .int 0, .ref mb12, .ref mb13, .ref mb14, .int 0, .ref mb15, .ref mb16, .int 0])), (mb0, .inl (cI, 60, .inl (fun _ => 0))), (mb1, .inl (cI, 60, .inl (fun _ => 0))), (mb3, .inl (cI, 60, .inl (fun _ => 0))), (mb4, .inl (cI, 60, .inl (fun _ => 0))), (mb5, .inl (cI, 60, .inl (fun _ => 0))), (mb6, .inl (cI, 60, .inl (fun _ => 0))), (mb7, .inl (cI, 61, .inl (fun _ => 0))), (mb8, .inl (cZ, 60, .inl (fun _ => 0))), (mb9, .inl (cZ, 5, .inl (fun _ => 0))), (mb10, .inl (cQ, 5, .inr (.inr (.inr (.inr (zG (mb17) (mb18) (mb19) (mb20) (mb21))))))), (mb17, .inl (cZ, 100, .inl (fun _ => 0))), (mb18, .inl (cZ, 100, .inl (fun _ => 0))), (mb19, .inl (cZ, 100, .inl (fun _ => 0))), (mb20, .inl (cZ, 100, .inl (fun _ => 0))), (mb21, .inl (cZ, 100, .inl (fun _ => 0))), (mb11, .inl (cC, 5, .inl (upd (upd (upd (upd (upd (fun _ => 0) 0 (vp_nar .char 100)) 1 (vp_nar .char 100)) 2 (vp_nar .char 100)) 3 (vp_nar .char 100)) 4 (vp_nar .char 100)))), (oa, .inl (cL, 1, .inr (.inl (fun _ => 0)))), (da, .inl (cD, 1, .inr (.inr (.inr (.inl (fun _ => 0))))))]) (hS : va_S A s.heap H locs) (hl : lv_has ls 9 [(0, .ref b), (1, .ref xa), (2, .ref ma), (3, .ref oa), (4, .ref da), (5, .int 0)]) : W P0 l E0 room_1 s m #[Value.ref b] below meth C9 H locs 200 20000 (lw_Z below #[Value.ref b] s) (F0 m 37 ls []) := by
  obtain ⟨⟨hx, hb, hr, hml, hown, hts, hX, hbl, hlocks, hgv⟩, hst, hK, ⟨hU, hN⟩, hKB, hA, hA2, hbA⟩ := id C
  refine lv_aload_n hx hb dL_law_37 rfl (lv_at hl 0 rfl) ?_
  refine lv_iload hx hb dL_law_38 (lv_at hl 5 rfl) ?_
  refine va_sld hx hb hX hbl hbA hS (vp_in_nI (n := 0) (by decide) (by decide)) dL_law_40 ?_
  refine zt_i (xs 0) rfl ?_
  refine lv_bipush (v := 63) hx hb dL_law_41 (by decide) ?_
  refine lv_iand hx hb dL_law_43 ?_
  obtain ⟨j, hj, hje⟩ := pk_andE (xs 0) (m := 63) 6 (by decide)
  refine zt_i (nI j) hje ?_
  have hc : j = 0 ∨ j = 1 ∨ j = 2 ∨ j = 3 ∨ j = 4 ∨ j = 5 ∨ j = 6 ∨ j = 7 ∨ j = 8 ∨ j = 9 ∨ j = 10 ∨ j = 11 ∨ j = 12 ∨ j = 13 ∨ j = 14 ∨ j = 15 ∨ j = 16 ∨ j = 17 ∨ j = 18 ∨ j = 19 ∨ j = 20 ∨ j = 21 ∨ j = 22 ∨ j = 23 ∨ j = 24 ∨ j = 25 ∨ j = 26 ∨ j = 27 ∨ j = 28 ∨ j = 29 ∨ j = 30 ∨ j = 31 ∨ j = 32 ∨ j = 33 ∨ j = 34 ∨ j = 35 ∨ j = 36 ∨ j = 37 ∨ j = 38 ∨ j = 39 ∨ 40 ≤ j := by omega
  rcases hc with rfl | rfl | rfl | rfl | rfl | rfl | rfl | rfl | rfl | rfl | rfl | rfl | rfl | rfl | rfl | rfl | rfl | rfl | rfl | rfl | rfl | rfl | rfl | rfl | rfl | rfl | rfl | rfl | rfl | rfl | rfl | rfl | rfl | rfl | rfl | rfl | rfl | rfl | rfl | rfl | hc
  · refine lv_tableIn (off := 176) (tgt := 220) hx hb dL_law_44 (by decide) (by decide) (by decide) (by decide) ?_
    by_cases hp : zIn (xs 1) (xs 2)
    · obtain ⟨h1, h2⟩ := zIn_cases hp
      rcases h2 with h2 | h2 | h2 | h2 | h2
      · exact lc_insertP C hP hD hS hl h1 h2 (by rw [h1, h2] at hp; exact hp) rfl
      · exact lc_insertN1 C hP hD hS hl h1 h2 (by rw [h1, h2] at hp; exact hp) (by decide) (by unfold zLv; decide)
      · exact lc_insertN2 C hP hD hS hl h1 h2 (by rw [h1, h2] at hp; exact hp) (by decide) (by unfold zLv; decide)
      · exact lc_insertN3 C hP hD hS hl h1 h2 (by rw [h1, h2] at hp; exact hp) (by decide) (by unfold zLv; decide)
      · exact lc_insertN4 C hP hD hS hl h1 h2 (by rw [h1, h2] at hp; exact hp) (by decide) (by unfold zLv; decide)
    · exact lc_insertF C hP hD hS hl hp
  · refine lv_tableIn (off := 244) (tgt := 288) hx hb dL_law_44 (by decide) (by decide) (by decide) (by decide) ?_
    exact lc_move C hP hD hS hl
  · refine lv_tableIn (off := 312) (tgt := 356) hx hb dL_law_44 (by decide) (by decide) (by decide) (by decide) ?_
    exact lc_setLevel C hP hD hS hl
  · refine lv_tableIn (off := 380) (tgt := 424) hx hb dL_law_44 (by decide) (by decide) (by decide) (by decide) ?_
    exact lc_remove C hP hD hS hl
  · refine lv_tableIn (off := 436) (tgt := 480) hx hb dL_law_44 (by decide) (by decide) (by decide) (by decide) ?_
    exact lc_startAt C hP hD hS hl
  · refine lv_tableIn (off := 504) (tgt := 548) hx hb dL_law_44 (by decide) (by decide) (by decide) (by decide) ?_
    exact lc_reserve C hP hD hS hl
  · refine lv_tableIn (off := 572) (tgt := 616) hx hb dL_law_44 (by decide) (by decide) (by decide) (by decide) ?_
    by_cases hp : zSk (xs 1) (xs 2)
    · rcases zLv_cases hp.1 with h1 | h1 | h1 | h1
      · exact lc_skip1 C hP hD hS hl h1 (by rw [h1] at hp; exact hp)
      · exact lc_skip2 C hP hD hS hl h1 (by rw [h1] at hp; exact hp)
      · exact lc_skip3 C hP hD hS hl h1 (by rw [h1] at hp; exact hp)
      · exact lc_skip4 C hP hD hS hl h1 (by rw [h1] at hp; exact hp)
    · exact lc_skipF C hP hD hS hl hp
  · refine lv_tableIn (off := 640) (tgt := 684) hx hb dL_law_44 (by decide) (by decide) (by decide) (by decide) ?_
    by_cases hp : zSk (xs 1) (xs 2)
    · rcases zLv_cases hp.1 with h1 | h1 | h1 | h1
      · exact lc_unskip1 C hP hD hS hl h1 (by rw [h1] at hp; exact hp)
      · exact lc_unskip2 C hP hD hS hl h1 (by rw [h1] at hp; exact hp)
      · exact lc_unskip3 C hP hD hS hl h1 (by rw [h1] at hp; exact hp)
      · exact lc_unskip4 C hP hD hS hl h1 (by rw [h1] at hp; exact hp)
    · exact lc_unskipF C hP hD hS hl hp
  · refine lv_tableIn (off := 708) (tgt := 752) hx hb dL_law_44 (by decide) (by decide) (by decide) (by decide) ?_
    by_cases hp : zLv (xs 1) ∧ zFo (((xs 2).toUInt32 % 65536).toInt32)
    · exact lc_setFormat C hP hD hS hl hp.1 hp.2
    · exact lc_setFormatF C hP hD hS hl hp
  · refine lv_tableIn (off := 778) (tgt := 822) hx hb dL_law_44 (by decide) (by decide) (by decide) (by decide) ?_
    by_cases hp : zLv (xs 1)
    · exact lc_setGoingOn C hP hD hS hl hp
    · exact lc_setGoingOnF C hP hD hS hl hp
  · refine lv_tableIn (off := 869) (tgt := 913) hx hb dL_law_44 (by decide) (by decide) (by decide) (by decide) ?_
    exact lc_freeze C hP hD hS hl
  · refine lv_tableIn (off := 882) (tgt := 926) hx hb dL_law_44 (by decide) (by decide) (by decide) (by decide) ?_
    exact lc_refer C hP hD hS hl
  · refine lv_tableIn (off := 950) (tgt := 994) hx hb dL_law_44 (by decide) (by decide) (by decide) (by decide) ?_
    exact lc_size C hP hD hS hl
  · refine lv_tableIn (off := 963) (tgt := 1007) hx hb dL_law_44 (by decide) (by decide) (by decide) (by decide) ?_
    exact lc_paragraphAt C hP hD hS hl
  · refine lv_tableIn (off := 1019) (tgt := 1063) hx hb dL_law_44 (by decide) (by decide) (by decide) (by decide) ?_
    exact lc_placeOf C hP hD hS hl
  · refine lv_tableIn (off := 1075) (tgt := 1119) hx hb dL_law_44 (by decide) (by decide) (by decide) (by decide) ?_
    exact lc_levelOf C hP hD hS hl
  · refine lv_tableIn (off := 1131) (tgt := 1175) hx hb dL_law_44 (by decide) (by decide) (by decide) (by decide) ?_
    exact lc_parentOf C hP hD hS hl
  · refine lv_tableIn (off := 1187) (tgt := 1231) hx hb dL_law_44 (by decide) (by decide) (by decide) (by decide) ?_
    exact lc_below C hP hD hS hl
  · refine lv_tableIn (off := 1243) (tgt := 1287) hx hb dL_law_44 (by decide) (by decide) (by decide) (by decide) ?_
    exact lc_isFrozen C hP hD hS hl
  · refine lv_tableIn (off := 1306) (tgt := 1350) hx hb dL_law_44 (by decide) (by decide) (by decide) (by decide) ?_
    exact lc_numberOf C hP hD hS hl
  · refine lv_tableIn (off := 1362) (tgt := 1406) hx hb dL_law_44 (by decide) (by decide) (by decide) (by decide) ?_
    exact lc_lettersOf C hP hD hS hl
  · refine lv_tableIn (off := 1418) (tgt := 1462) hx hb dL_law_44 (by decide) (by decide) (by decide) (by decide) ?_
    exact lc_numberByWalk C hP hD hS hl
  · refine lv_tableIn (off := 1474) (tgt := 1518) hx hb dL_law_44 (by decide) (by decide) (by decide) (by decide) ?_
    exact lc_lettersByWalk C hP hD hS hl
  · refine lv_tableIn (off := 1530) (tgt := 1574) hx hb dL_law_44 (by decide) (by decide) (by decide) (by decide) ?_
    exact lc_ahead C hP hD hS hl
  · refine lv_tableIn (off := 1586) (tgt := 1630) hx hb dL_law_44 (by decide) (by decide) (by decide) (by decide) ?_
    exact lc_labelLength C hP hD hS hl
  · refine lv_tableIn (off := 1642) (tgt := 1686) hx hb dL_law_44 (by decide) (by decide) (by decide) (by decide) ?_
    exact lc_labelAt C hP hD hS hl
  · refine lv_tableIn (off := 1710) (tgt := 1754) hx hb dL_law_44 (by decide) (by decide) (by decide) (by decide) ?_
    by_cases hp : zLv (xs 1)
    · exact lc_find C hP hD hS hl hp
    · exact lc_findF C hP hD hS hl hp
  · refine lv_tableIn (off := 1778) (tgt := 1822) hx hb dL_law_44 (by decide) (by decide) (by decide) (by decide) ?_
    exact lc_references C hP hD hS hl
  · refine lv_tableIn (off := 1791) (tgt := 1835) hx hb dL_law_44 (by decide) (by decide) (by decide) (by decide) ?_
    exact lc_targetOf C hP hD hS hl
  · refine lv_tableIn (off := 1847) (tgt := 1891) hx hb dL_law_44 (by decide) (by decide) (by decide) (by decide) ?_
    exact lc_isBroken C hP hD hS hl
  · refine lv_tableIn (off := 1910) (tgt := 1954) hx hb dL_law_44 (by decide) (by decide) (by decide) (by decide) ?_
    exact lc_referenceLength C hP hD hS hl
  · refine lv_tableIn (off := 1966) (tgt := 2010) hx hb dL_law_44 (by decide) (by decide) (by decide) (by decide) ?_
    exact lc_referenceAt C hP hD hS hl
  · refine lv_tableIn (off := 2034) (tgt := 2078) hx hb dL_law_44 (by decide) (by decide) (by decide) (by decide) ?_
    exact lc_broken C hP hD hS hl
  · refine lv_tableIn (off := 2047) (tgt := 2091) hx hb dL_law_44 (by decide) (by decide) (by decide) (by decide) ?_
    exact lc_used C hP hD hS hl
  · refine lv_tableIn (off := 2060) (tgt := 2104) hx hb dL_law_44 (by decide) (by decide) (by decide) (by decide) ?_
    by_cases hp : zKi (((xs 1).toUInt32 % 65536).toInt32)
    · exact lc_count C hP hD hS hl hp
    · exact lc_countF C hP hD hS hl hp
  · refine lv_tableIn (off := 2118) (tgt := 2162) hx hb dL_law_44 (by decide) (by decide) (by decide) (by decide) ?_
    exact lc_sum C hP hD hS hl
  · refine lv_tableIn (off := 2132) (tgt := 2176) hx hb dL_law_44 (by decide) (by decide) (by decide) (by decide) ?_
    exact lc_isUnique C hP hD hS hl
  · refine lv_tableIn (off := 2145) (tgt := 2189) hx hb dL_law_44 (by decide) (by decide) (by decide) (by decide) ?_
    exact lc_frozenShare C hP hD hS hl
  · refine lv_tableIn (off := 2211) (tgt := 2255) hx hb dL_law_44 (by decide) (by decide) (by decide) (by decide) ?_
    exact lc_shareBits C hP hD hS hl
  · refine lv_tableIn (off := 2255) (tgt := 2299) hx hb dL_law_44 (by decide) (by decide) (by decide) (by decide) ?_
    by_cases hp : zLv (xs 1)
    · exact lc_meanNumber C hP hD hS hl hp
    · exact lc_meanNumberF C hP hD hS hl hp
  · refine lv_tableOut (tgt := 2376) hx hb dL_law_44 (Or.inr (by rw [nI_toInt (by omega)]; omega)) (by decide) ?_
    refine W.widen (k := 1000) (n := 100000) (by omega) (by omega) ?_
    exact law_end C hS (lv_sub hl [0, 5] rfl)

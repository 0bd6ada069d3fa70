/-! the law's cases, a row each (printed by wip/whole/law.py) -/
def KK (p : Program) (l : Launch) (e : Env) (s : State) (m : MethodId) (below : List Frame) (meth : Method) (c : Code) (Q : State → Prop) (D : va_G) (X : Nat → ClassId) (b o x0 m0 i n cl sl : Nat) : Prop := ∀ (ad' : Nat → Nat → Nat) (np' nb' nz' nt' tk' : Nat) (t' : TT) (f' : Nat → Int64) (H1 : Heap) (locs1 : List Loc) (ls1 : Array Slot), Inv (n + 1) np' nb' nz' nt' tk' t' → LSt D X ad' (AL s) np' nb' nz' nt' t' t' o f' x0 m0 H1 → va_S (AL s) s.heap H1 locs1 → lv_has ls1 7 (LV b x0 m0 o i) → W p l e room_1 s m #[Value.ref b] below meth c H1 locs1 (cl + 5) (sl + 2030) Q (F0 m 1609 ls1 [])
section LAWK
variable {p : Program} {l : Launch} {e : Env} {s : State} {m : MethodId} {below : List Frame} {meth : Method} {c : Code} {Q : State → Prop} {D : va_G} {X : Nat → ClassId} {ad : Nat → Nat → Nat} {b L : Nat} {xs : Nat → Int32} {H : Heap} {locs : List Loc} {ls : Array Slot} {n np nb nz nt tk : Nat} {t : TT} {o x0 m0 i : Nat} {f : Nat → Int64} {cl sl : Nat}
theorem dT_platform : dOK (dTi 167 (1412)) := by unfold dOK; decide +kernel
def dK_platform : List (Nat × Instr × Nat) := [(144, .aload_n 1, 1), (145, .aload_n 0, 1), (146, .iload 4, 2), (148, .iconst 1, 1), (149, .iadd, 1), (150, .iaload, 1), (151, .aload_n 3, 1), (152, .invokestatic 92, 3), (155, .istore 5, 2), (157, .aload_n 2, 1), (158, .aload_n 0, 1), (159, .iload 4, 2), (161, .iconst 1, 1), (162, .iadd, 1), (163, .iaload, 1), (164, .invokevirtual 97, 3)]
theorem dK_platform_ok : dOK dK_platform := by unfold dOK; decide +kernel
set_option maxHeartbeats 4000000 in
set_option maxRecDepth 100000 in
theorem law_platform (hC : LC p l s m c D X b L xs) (hI : Inv n np nb nz nt tk t) (hn : n < 512) (hi : i + 4 ≤ L) (hL : LSt D X ad (AL s) np nb nz nt t t o f x0 m0 H) (hS : va_S (AL s) s.heap H locs) (hl : lv_has ls 7 (LV b x0 m0 o i)) (hc : cl + 5 ≤ 601024) (hs : sl + 2030 ≤ 7293034) (K : KK p l e s m below meth c Q D X b o x0 m0 i n cl sl) : W p l e room_1 s m #[Value.ref b] below meth c H locs cl sl Q (F0 m 144 ls []) := by
  obtain ⟨hx, hb, hml, hts, hown, hK, hE, hY, hX, hbl, hL9, hst⟩ := id hC
  have hA : ∀ q, s.heap.size ≤ q → AL s q := fun _ h => h
  have hbA : ¬ AL s b := Nat.not_le.mpr hbl
  have hx0 := hL.2.2.2.2.2.2.2.1
  obtain ⟨cd, r, s', c9, ⟨hcd, hth, hI1⟩, hcs, hCE, hMd⟩ := oq_platform hI (xs (i + 1))
  refine lv_aload_n hx hb (dAt dK_platform_ok 0 rfl) rfl (lv_at hl 3 rfl) ?_
  refine lw_arg (j := 1) (v := 1) hx hb hX hbl hbA hS hl (List.mem_of_getElem? (i := 4) rfl) (List.mem_of_getElem? (i := 0) rfl) (by omega) hL9 (by decide +kernel) (dAt dK_platform_ok 1 rfl) (dAt dK_platform_ok 2 rfl) (dAt dK_platform_ok 3 rfl) (dAt dK_platform_ok 4 rfl) (dAt dK_platform_ok 5 rfl) ?_
  refine lv_aload_n hx hb (dAt dK_platform_ok 6 rfl) rfl (lv_at hl 1 rfl) ?_
  refine W.eq (g2 := F0 m 152 ls ((([.inr (.inl (0, 0)), .inl (xs (i + 1))] : List VV).map (toV ad) ++ ([.ref o] : List Value)).reverse)) (by rw [← hx0]; rfl) ?_
  refine law_wrap (R := room_1) (cl := cl) (sl := sl) (own := R_law) (n := 3) hx hb hml hts hown hK hA hE hY (w_platform D X ad (xs (i + 1)) hcd (fun z => by rw [hcs z]) MS_0 (hCE l hst D X ad)) ⟨LT_in (by decide +kernel) (by decide +kernel), LT_in (by decide +kernel) (by decide +kernel), LT_in (by decide +kernel) (by decide +kernel), LT_in (by decide +kernel) (by decide +kernel)⟩ (by decide +kernel) ⟨by exact Nat.le_of_ble_eq_true rfl, by exact Nat.le_of_ble_eq_true rfl⟩ rfl rfl rfl hL hS hl.1 (by show cl + 3 ≤ 601024; omega) (by show sl + 20 ≤ 7293034; omega) (dAt dK_platform_ok 7 rfl) (fun ad1 f1 H1 locs1 hL1 hf1 hS1 => ?_)
  refine W.widen (k := cl + 5) (n := sl + 2030) (by omega) (by omega) ?_
  refine lv_istore (lv' := (5, .int (nI cd)) :: LV b x0 m0 o i) hx hb (dAt dK_platform_ok 8 rfl) hl (by decide) rfl (fun ls1 hl1 => ?_)
  have hm01 := hL1.2.2.2.2.2.2.2.2
  refine lv_aload_n hx hb (dAt dK_platform_ok 9 rfl) rfl (lv_at hl1 3 rfl) ?_
  refine lw_arg (j := 1) (v := 1) hx hb hX hbl hbA hS1 hl1 (List.mem_of_getElem? (i := 5) rfl) (List.mem_of_getElem? (i := 1) rfl) (by omega) hL9 (by decide +kernel) (dAt dK_platform_ok 10 rfl) (dAt dK_platform_ok 11 rfl) (dAt dK_platform_ok 12 rfl) (dAt dK_platform_ok 13 rfl) (dAt dK_platform_ok 14 rfl) ?_
  refine W.eq (g2 := F0 m 164 ls1 ((([.inr (.inl (20, 0)), .inl (xs (i + 1))] : List VV).map (toV ad1)).reverse ++ [])) (by rw [← hm01]; rfl) ?_
  refine law_model (post := PMI cd r s') (n := 1) hC (c_X5_platform hst 0 (xs (i + 1)) t hMd) ⟨LT_in (by decide +kernel) (by decide +kernel), ws_X5_platform.1, ws_X5_platform.2.1, ws_X5_platform.2.2.1, ws_X5_platform.2.2.2⟩ (by decide +kernel) ⟨by exact Nat.le_of_ble_eq_true rfl, by exact Nat.le_of_ble_eq_true rfl⟩ rfl rfl rfl rfl rfl hL1 hS1 hl1.1 (rest := []) (by decide) hc hs (dAt dK_platform_ok 15 rfl) (fun v u1 ad2 ad3 H2 locs2 hp hL2 hS2 => ?_)
  cases v with
  | none => exact hp.elim
  | some v =>
  cases v with
  | inr _ => exact hp.elim
  | inl r2 =>
  have hp : (cd = 0 → r2 = r) ∧ u1 = s' := hp
  obtain ⟨hq9, rfl⟩ := hp
  exact law_tailI hC dT_platform (by decide) hcd hth hq9 (fun z => hf1 z rfl) hL2 hS2 hl1 hc hs (fun ad4 H3 locs3 ls3 h1 h2 h3 => K _ _ _ _ _ _ _ _ _ _ _ hI1 h1 h2 h3)
theorem dT_beacon : dOK (dTi 223 (1356)) := by unfold dOK; decide +kernel
def dK_beacon : List (Nat × Instr × Nat) := [(200, .aload_n 1, 1), (201, .aload_n 0, 1), (202, .iload 4, 2), (204, .iconst 1, 1), (205, .iadd, 1), (206, .iaload, 1), (207, .aload_n 3, 1), (208, .invokestatic 102, 3), (211, .istore 5, 2), (213, .aload_n 2, 1), (214, .aload_n 0, 1), (215, .iload 4, 2), (217, .iconst 1, 1), (218, .iadd, 1), (219, .iaload, 1), (220, .invokevirtual 104, 3)]
theorem dK_beacon_ok : dOK dK_beacon := by unfold dOK; decide +kernel
set_option maxHeartbeats 4000000 in
set_option maxRecDepth 100000 in
theorem law_beacon (hC : LC p l s m c D X b L xs) (hI : Inv n np nb nz nt tk t) (hn : n < 512) (hi : i + 4 ≤ L) (hL : LSt D X ad (AL s) np nb nz nt t t o f x0 m0 H) (hS : va_S (AL s) s.heap H locs) (hl : lv_has ls 7 (LV b x0 m0 o i)) (hc : cl + 5 ≤ 601024) (hs : sl + 2030 ≤ 7293034) (K : KK p l e s m below meth c Q D X b o x0 m0 i n cl sl) : W p l e room_1 s m #[Value.ref b] below meth c H locs cl sl Q (F0 m 200 ls []) := by
  obtain ⟨hx, hb, hml, hts, hown, hK, hE, hY, hX, hbl, hL9, hst⟩ := id hC
  have hA : ∀ q, s.heap.size ≤ q → AL s q := fun _ h => h
  have hbA : ¬ AL s b := Nat.not_le.mpr hbl
  have hx0 := hL.2.2.2.2.2.2.2.1
  obtain ⟨cd, r, s', c9, ⟨hcd, hth, hI1⟩, hcs, hCE, hMd⟩ := oq_beacon hI (xs (i + 1))
  refine lv_aload_n hx hb (dAt dK_beacon_ok 0 rfl) rfl (lv_at hl 3 rfl) ?_
  refine lw_arg (j := 1) (v := 1) hx hb hX hbl hbA hS hl (List.mem_of_getElem? (i := 4) rfl) (List.mem_of_getElem? (i := 0) rfl) (by omega) hL9 (by decide +kernel) (dAt dK_beacon_ok 1 rfl) (dAt dK_beacon_ok 2 rfl) (dAt dK_beacon_ok 3 rfl) (dAt dK_beacon_ok 4 rfl) (dAt dK_beacon_ok 5 rfl) ?_
  refine lv_aload_n hx hb (dAt dK_beacon_ok 6 rfl) rfl (lv_at hl 1 rfl) ?_
  refine W.eq (g2 := F0 m 208 ls ((([.inr (.inl (0, 0)), .inl (xs (i + 1))] : List VV).map (toV ad) ++ ([.ref o] : List Value)).reverse)) (by rw [← hx0]; rfl) ?_
  refine law_wrap (R := room_1) (cl := cl) (sl := sl) (own := R_law) (n := 3) hx hb hml hts hown hK hA hE hY (w_beacon D X ad (xs (i + 1)) hcd (fun z => by rw [hcs z]) MS_0 (hCE l hst D X ad)) ⟨LT_in (by decide +kernel) (by decide +kernel), LT_in (by decide +kernel) (by decide +kernel), LT_in (by decide +kernel) (by decide +kernel), LT_in (by decide +kernel) (by decide +kernel)⟩ (by decide +kernel) ⟨by exact Nat.le_of_ble_eq_true rfl, by exact Nat.le_of_ble_eq_true rfl⟩ rfl rfl rfl hL hS hl.1 (by show cl + 3 ≤ 601024; omega) (by show sl + 14 ≤ 7293034; omega) (dAt dK_beacon_ok 7 rfl) (fun ad1 f1 H1 locs1 hL1 hf1 hS1 => ?_)
  refine W.widen (k := cl + 5) (n := sl + 2030) (by omega) (by omega) ?_
  refine lv_istore (lv' := (5, .int (nI cd)) :: LV b x0 m0 o i) hx hb (dAt dK_beacon_ok 8 rfl) hl (by decide) rfl (fun ls1 hl1 => ?_)
  have hm01 := hL1.2.2.2.2.2.2.2.2
  refine lv_aload_n hx hb (dAt dK_beacon_ok 9 rfl) rfl (lv_at hl1 3 rfl) ?_
  refine lw_arg (j := 1) (v := 1) hx hb hX hbl hbA hS1 hl1 (List.mem_of_getElem? (i := 5) rfl) (List.mem_of_getElem? (i := 1) rfl) (by omega) hL9 (by decide +kernel) (dAt dK_beacon_ok 10 rfl) (dAt dK_beacon_ok 11 rfl) (dAt dK_beacon_ok 12 rfl) (dAt dK_beacon_ok 13 rfl) (dAt dK_beacon_ok 14 rfl) ?_
  refine W.eq (g2 := F0 m 220 ls1 ((([.inr (.inl (20, 0)), .inl (xs (i + 1))] : List VV).map (toV ad1)).reverse ++ [])) (by rw [← hm01]; rfl) ?_
  refine law_model (post := PMI cd r s') (n := 1) hC (c_X5_beacon hst 0 (xs (i + 1)) t hMd) ⟨LT_in (by decide +kernel) (by decide +kernel), ws_X5_beacon.1, ws_X5_beacon.2.1, ws_X5_beacon.2.2.1, ws_X5_beacon.2.2.2⟩ (by decide +kernel) ⟨by exact Nat.le_of_ble_eq_true rfl, by exact Nat.le_of_ble_eq_true rfl⟩ rfl rfl rfl rfl rfl hL1 hS1 hl1.1 (rest := []) (by decide) hc hs (dAt dK_beacon_ok 15 rfl) (fun v u1 ad2 ad3 H2 locs2 hp hL2 hS2 => ?_)
  cases v with
  | none => exact hp.elim
  | some v =>
  cases v with
  | inr _ => exact hp.elim
  | inl r2 =>
  have hp : (cd = 0 → r2 = r) ∧ u1 = s' := hp
  obtain ⟨hq9, rfl⟩ := hp
  exact law_tailI hC dT_beacon (by decide) hcd hth hq9 (fun z => hf1 z rfl) hL2 hS2 hl1 hc hs (fun ad4 H3 locs3 ls3 h1 h2 h3 => K _ _ _ _ _ _ _ _ _ _ _ hI1 h1 h2 h3)
theorem dT_works : dOK (dTz 307 (1265)) := by unfold dOK; decide +kernel
def dK_works : List (Nat × Instr × Nat) := [(256, .aload_n 1, 1), (257, .aload_n 0, 1), (258, .iload 4, 2), (260, .iconst 1, 1), (261, .iadd, 1), (262, .iaload, 1), (263, .aload_n 0, 1), (264, .iload 4, 2), (266, .iconst 2, 1), (267, .iadd, 1), (268, .iaload, 1), (269, .ifCond .eq 7, 3), (272, .iconst 1, 1), (273, .goto 4, 3), (276, .iconst 0, 1), (277, .aload_n 3, 1), (278, .invokestatic 105, 3), (281, .istore 5, 2), (283, .aload_n 2, 1), (284, .aload_n 0, 1), (285, .iload 4, 2), (287, .iconst 1, 1), (288, .iadd, 1), (289, .iaload, 1), (290, .aload_n 0, 1), (291, .iload 4, 2), (293, .iconst 2, 1), (294, .iadd, 1), (295, .iaload, 1), (296, .ifCond .eq 7, 3), (299, .iconst 1, 1), (300, .goto 4, 3), (303, .iconst 0, 1), (304, .invokevirtual 108, 3)]
theorem dK_works_ok : dOK dK_works := by unfold dOK; decide +kernel
set_option maxHeartbeats 4000000 in
set_option maxRecDepth 100000 in
theorem law_works (hC : LC p l s m c D X b L xs) (hI : Inv n np nb nz nt tk t) (hn : n < 512) (hi : i + 4 ≤ L) (hL : LSt D X ad (AL s) np nb nz nt t t o f x0 m0 H) (hS : va_S (AL s) s.heap H locs) (hl : lv_has ls 7 (LV b x0 m0 o i)) (hc : cl + 5 ≤ 601024) (hs : sl + 2030 ≤ 7293034) (K : KK p l e s m below meth c Q D X b o x0 m0 i n cl sl) : W p l e room_1 s m #[Value.ref b] below meth c H locs cl sl Q (F0 m 256 ls []) := by
  obtain ⟨hx, hb, hml, hts, hown, hK, hE, hY, hX, hbl, hL9, hst⟩ := id hC
  have hA : ∀ q, s.heap.size ≤ q → AL s q := fun _ h => h
  have hbA : ¬ AL s b := Nat.not_le.mpr hbl
  have hx0 := hL.2.2.2.2.2.2.2.1
  obtain ⟨cd, r, s', ⟨hcd, hth, hI1⟩, hB, hCl, hMd⟩ := op_works hI (xs (i + 1)) (bz (xs (i + 2))) (bz_B _)
  refine lv_aload_n hx hb (dAt dK_works_ok 0 rfl) rfl (lv_at hl 3 rfl) ?_
  refine lw_arg (j := 1) (v := 1) hx hb hX hbl hbA hS hl (List.mem_of_getElem? (i := 4) rfl) (List.mem_of_getElem? (i := 0) rfl) (by omega) hL9 (by decide +kernel) (dAt dK_works_ok 1 rfl) (dAt dK_works_ok 2 rfl) (dAt dK_works_ok 3 rfl) (dAt dK_works_ok 4 rfl) (dAt dK_works_ok 5 rfl) ?_
  refine lw_arg (j := 2) (v := 2) hx hb hX hbl hbA hS hl (List.mem_of_getElem? (i := 4) rfl) (List.mem_of_getElem? (i := 0) rfl) (by omega) hL9 (by decide +kernel) (dAt dK_works_ok 6 rfl) (dAt dK_works_ok 7 rfl) (dAt dK_works_ok 8 rfl) (dAt dK_works_ok 9 rfl) (dAt dK_works_ok 10 rfl) ?_
  refine lw_bool hx hb (dAt dK_works_ok 11 rfl) (dAt dK_works_ok 12 rfl) (dAt dK_works_ok 13 rfl) (dAt dK_works_ok 14 rfl) ?_
  refine lv_aload_n hx hb (dAt dK_works_ok 15 rfl) rfl (lv_at hl 1 rfl) ?_
  refine W.eq (g2 := F0 m 278 ls ((([.inr (.inl (0, 0)), .inl (xs (i + 1)), .inl (bz (xs (i + 2)))] : List VV).map (toV ad) ++ ([.ref o] : List Value)).reverse)) (by rw [← hx0]; rfl) ?_
  refine law_wrap (R := room_1) (cl := cl) (sl := sl) (own := R_law) (n := 4) hx hb hml hts hown hK hA hE hY (w_works D X ad (xs (i + 1)) (bz (xs (i + 2))) hcd (fun _ => rfl) MS_0 hB ((c_X4_works (post := PO cd r (over s')) hst 0 (xs (i + 1)) (bz (xs (i + 2))) (over t) hCl).toE)) ⟨LT_in (by decide +kernel) (by decide +kernel), LT_in (by decide +kernel) (by decide +kernel), LT_in (by decide +kernel) (by decide +kernel), LT_in (by decide +kernel) (by decide +kernel)⟩ (by decide +kernel) ⟨by exact Nat.le_of_ble_eq_true rfl, by exact Nat.le_of_ble_eq_true rfl⟩ rfl rfl rfl hL hS hl.1 (by show cl + 1 ≤ 601024; omega) (by show sl + 6 ≤ 7293034; omega) (dAt dK_works_ok 16 rfl) (fun ad1 f1 H1 locs1 hL1 hf1 hS1 => ?_)
  refine W.widen (k := cl + 5) (n := sl + 2030) (by omega) (by omega) ?_
  refine lv_istore (lv' := (5, .int (nI cd)) :: LV b x0 m0 o i) hx hb (dAt dK_works_ok 17 rfl) hl (by decide) rfl (fun ls1 hl1 => ?_)
  have hm01 := hL1.2.2.2.2.2.2.2.2
  refine lv_aload_n hx hb (dAt dK_works_ok 18 rfl) rfl (lv_at hl1 3 rfl) ?_
  refine lw_arg (j := 1) (v := 1) hx hb hX hbl hbA hS1 hl1 (List.mem_of_getElem? (i := 5) rfl) (List.mem_of_getElem? (i := 1) rfl) (by omega) hL9 (by decide +kernel) (dAt dK_works_ok 19 rfl) (dAt dK_works_ok 20 rfl) (dAt dK_works_ok 21 rfl) (dAt dK_works_ok 22 rfl) (dAt dK_works_ok 23 rfl) ?_
  refine lw_arg (j := 2) (v := 2) hx hb hX hbl hbA hS1 hl1 (List.mem_of_getElem? (i := 5) rfl) (List.mem_of_getElem? (i := 1) rfl) (by omega) hL9 (by decide +kernel) (dAt dK_works_ok 24 rfl) (dAt dK_works_ok 25 rfl) (dAt dK_works_ok 26 rfl) (dAt dK_works_ok 27 rfl) (dAt dK_works_ok 28 rfl) ?_
  refine lw_bool hx hb (dAt dK_works_ok 29 rfl) (dAt dK_works_ok 30 rfl) (dAt dK_works_ok 31 rfl) (dAt dK_works_ok 32 rfl) ?_
  refine W.eq (g2 := F0 m 304 ls1 ((([.inr (.inl (20, 0)), .inl (xs (i + 1)), .inl (bz (xs (i + 2)))] : List VV).map (toV ad1)).reverse ++ [])) (by rw [← hm01]; rfl) ?_
  refine law_model (post := PMI cd r s') (n := 2) hC (c_X5_works hst 0 (xs (i + 1)) (bz (xs (i + 2))) t hMd) ⟨LT_in (by decide +kernel) (by decide +kernel), ws_X5_works.1, ws_X5_works.2.1, ws_X5_works.2.2.1, ws_X5_works.2.2.2⟩ (by decide +kernel) ⟨by exact Nat.le_of_ble_eq_true rfl, by exact Nat.le_of_ble_eq_true rfl⟩ rfl rfl rfl rfl rfl hL1 hS1 hl1.1 (rest := []) (by decide) hc hs (dAt dK_works_ok 33 rfl) (fun v u1 ad2 ad3 H2 locs2 hp hL2 hS2 => ?_)
  cases v with
  | none => exact hp.elim
  | some v =>
  cases v with
  | inr _ => exact hp.elim
  | inl r2 =>
  have hp : (cd = 0 → r2 = r) ∧ u1 = s' := hp
  obtain ⟨hq9, rfl⟩ := hp
  exact law_tailZ hC dT_works (by decide) hcd hth hB hq9 (fun z => hf1 z rfl) hL2 hS2 hl1 hc hs (fun ad4 H3 locs3 ls3 h1 h2 h3 => K _ _ _ _ _ _ _ _ _ _ _ hI1 h1 h2 h3)
theorem dT_zone : dOK (dTi 382 (1197)) := by unfold dOK; decide +kernel
def dK_zone : List (Nat × Instr × Nat) := [(347, .aload_n 1, 1), (348, .aload_n 0, 1), (349, .iload 4, 2), (351, .iconst 1, 1), (352, .iadd, 1), (353, .iaload, 1), (354, .aload_n 0, 1), (355, .iload 4, 2), (357, .iconst 2, 1), (358, .iadd, 1), (359, .iaload, 1), (360, .aload_n 3, 1), (361, .invokestatic 109, 3), (364, .istore 5, 2), (366, .aload_n 2, 1), (367, .aload_n 0, 1), (368, .iload 4, 2), (370, .iconst 1, 1), (371, .iadd, 1), (372, .iaload, 1), (373, .aload_n 0, 1), (374, .iload 4, 2), (376, .iconst 2, 1), (377, .iadd, 1), (378, .iaload, 1), (379, .invokevirtual 112, 3)]
theorem dK_zone_ok : dOK dK_zone := by unfold dOK; decide +kernel
set_option maxHeartbeats 4000000 in
set_option maxRecDepth 100000 in
theorem law_zone (hC : LC p l s m c D X b L xs) (hI : Inv n np nb nz nt tk t) (hn : n < 512) (hi : i + 4 ≤ L) (hL : LSt D X ad (AL s) np nb nz nt t t o f x0 m0 H) (hS : va_S (AL s) s.heap H locs) (hl : lv_has ls 7 (LV b x0 m0 o i)) (hc : cl + 5 ≤ 601024) (hs : sl + 2030 ≤ 7293034) (K : KK p l e s m below meth c Q D X b o x0 m0 i n cl sl) : W p l e room_1 s m #[Value.ref b] below meth c H locs cl sl Q (F0 m 347 ls []) := by
  obtain ⟨hx, hb, hml, hts, hown, hK, hE, hY, hX, hbl, hL9, hst⟩ := id hC
  have hA : ∀ q, s.heap.size ≤ q → AL s q := fun _ h => h
  have hbA : ¬ AL s b := Nat.not_le.mpr hbl
  have hx0 := hL.2.2.2.2.2.2.2.1
  obtain ⟨cd, r, s', c9, ⟨hcd, hth, hI1⟩, hcs, hCE, hMd⟩ := oq_zone hI (xs (i + 1)) (xs (i + 2))
  refine lv_aload_n hx hb (dAt dK_zone_ok 0 rfl) rfl (lv_at hl 3 rfl) ?_
  refine lw_arg (j := 1) (v := 1) hx hb hX hbl hbA hS hl (List.mem_of_getElem? (i := 4) rfl) (List.mem_of_getElem? (i := 0) rfl) (by omega) hL9 (by decide +kernel) (dAt dK_zone_ok 1 rfl) (dAt dK_zone_ok 2 rfl) (dAt dK_zone_ok 3 rfl) (dAt dK_zone_ok 4 rfl) (dAt dK_zone_ok 5 rfl) ?_
  refine lw_arg (j := 2) (v := 2) hx hb hX hbl hbA hS hl (List.mem_of_getElem? (i := 4) rfl) (List.mem_of_getElem? (i := 0) rfl) (by omega) hL9 (by decide +kernel) (dAt dK_zone_ok 6 rfl) (dAt dK_zone_ok 7 rfl) (dAt dK_zone_ok 8 rfl) (dAt dK_zone_ok 9 rfl) (dAt dK_zone_ok 10 rfl) ?_
  refine lv_aload_n hx hb (dAt dK_zone_ok 11 rfl) rfl (lv_at hl 1 rfl) ?_
  refine W.eq (g2 := F0 m 361 ls ((([.inr (.inl (0, 0)), .inl (xs (i + 1)), .inl (xs (i + 2))] : List VV).map (toV ad) ++ ([.ref o] : List Value)).reverse)) (by rw [← hx0]; rfl) ?_
  refine law_wrap (R := room_1) (cl := cl) (sl := sl) (own := R_law) (n := 4) hx hb hml hts hown hK hA hE hY (w_zone D X ad (xs (i + 1)) (xs (i + 2)) hcd (fun z => by rw [hcs z]) MS_0 (hCE l hst D X ad)) ⟨LT_in (by decide +kernel) (by decide +kernel), LT_in (by decide +kernel) (by decide +kernel), LT_in (by decide +kernel) (by decide +kernel), LT_in (by decide +kernel) (by decide +kernel)⟩ (by decide +kernel) ⟨by exact Nat.le_of_ble_eq_true rfl, by exact Nat.le_of_ble_eq_true rfl⟩ rfl rfl rfl hL hS hl.1 (by show cl + 4 ≤ 601024; omega) (by show sl + 21 ≤ 7293034; omega) (dAt dK_zone_ok 12 rfl) (fun ad1 f1 H1 locs1 hL1 hf1 hS1 => ?_)
  refine W.widen (k := cl + 5) (n := sl + 2030) (by omega) (by omega) ?_
  refine lv_istore (lv' := (5, .int (nI cd)) :: LV b x0 m0 o i) hx hb (dAt dK_zone_ok 13 rfl) hl (by decide) rfl (fun ls1 hl1 => ?_)
  have hm01 := hL1.2.2.2.2.2.2.2.2
  refine lv_aload_n hx hb (dAt dK_zone_ok 14 rfl) rfl (lv_at hl1 3 rfl) ?_
  refine lw_arg (j := 1) (v := 1) hx hb hX hbl hbA hS1 hl1 (List.mem_of_getElem? (i := 5) rfl) (List.mem_of_getElem? (i := 1) rfl) (by omega) hL9 (by decide +kernel) (dAt dK_zone_ok 15 rfl) (dAt dK_zone_ok 16 rfl) (dAt dK_zone_ok 17 rfl) (dAt dK_zone_ok 18 rfl) (dAt dK_zone_ok 19 rfl) ?_
  refine lw_arg (j := 2) (v := 2) hx hb hX hbl hbA hS1 hl1 (List.mem_of_getElem? (i := 5) rfl) (List.mem_of_getElem? (i := 1) rfl) (by omega) hL9 (by decide +kernel) (dAt dK_zone_ok 20 rfl) (dAt dK_zone_ok 21 rfl) (dAt dK_zone_ok 22 rfl) (dAt dK_zone_ok 23 rfl) (dAt dK_zone_ok 24 rfl) ?_
  refine W.eq (g2 := F0 m 379 ls1 ((([.inr (.inl (20, 0)), .inl (xs (i + 1)), .inl (xs (i + 2))] : List VV).map (toV ad1)).reverse ++ [])) (by rw [← hm01]; rfl) ?_
  refine law_model (post := PMI cd r s') (n := 2) hC (c_X5_zone hst 0 (xs (i + 1)) (xs (i + 2)) t hMd) ⟨LT_in (by decide +kernel) (by decide +kernel), ws_X5_zone.1, ws_X5_zone.2.1, ws_X5_zone.2.2.1, ws_X5_zone.2.2.2⟩ (by decide +kernel) ⟨by exact Nat.le_of_ble_eq_true rfl, by exact Nat.le_of_ble_eq_true rfl⟩ rfl rfl rfl rfl rfl hL1 hS1 hl1.1 (rest := []) (by decide) hc hs (dAt dK_zone_ok 25 rfl) (fun v u1 ad2 ad3 H2 locs2 hp hL2 hS2 => ?_)
  cases v with
  | none => exact hp.elim
  | some v =>
  cases v with
  | inr _ => exact hp.elim
  | inl r2 =>
  have hp : (cd = 0 → r2 = r) ∧ u1 = s' := hp
  obtain ⟨hq9, rfl⟩ := hp
  exact law_tailI hC dT_zone (by decide) hcd hth hq9 (fun z => hf1 z rfl) hL2 hS2 hl1 hc hs (fun ad4 H3 locs3 ls3 h1 h2 h3 => K _ _ _ _ _ _ _ _ _ _ _ hI1 h1 h2 h3)
theorem dT_close : dOK (dTz 466 (1106)) := by unfold dOK; decide +kernel
def dK_close : List (Nat × Instr × Nat) := [(415, .aload_n 1, 1), (416, .aload_n 0, 1), (417, .iload 4, 2), (419, .iconst 1, 1), (420, .iadd, 1), (421, .iaload, 1), (422, .aload_n 0, 1), (423, .iload 4, 2), (425, .iconst 2, 1), (426, .iadd, 1), (427, .iaload, 1), (428, .ifCond .eq 7, 3), (431, .iconst 1, 1), (432, .goto 4, 3), (435, .iconst 0, 1), (436, .aload_n 3, 1), (437, .invokestatic 113, 3), (440, .istore 5, 2), (442, .aload_n 2, 1), (443, .aload_n 0, 1), (444, .iload 4, 2), (446, .iconst 1, 1), (447, .iadd, 1), (448, .iaload, 1), (449, .aload_n 0, 1), (450, .iload 4, 2), (452, .iconst 2, 1), (453, .iadd, 1), (454, .iaload, 1), (455, .ifCond .eq 7, 3), (458, .iconst 1, 1), (459, .goto 4, 3), (462, .iconst 0, 1), (463, .invokevirtual 115, 3)]
theorem dK_close_ok : dOK dK_close := by unfold dOK; decide +kernel
set_option maxHeartbeats 4000000 in
set_option maxRecDepth 100000 in
theorem law_close (hC : LC p l s m c D X b L xs) (hI : Inv n np nb nz nt tk t) (hn : n < 512) (hi : i + 4 ≤ L) (hL : LSt D X ad (AL s) np nb nz nt t t o f x0 m0 H) (hS : va_S (AL s) s.heap H locs) (hl : lv_has ls 7 (LV b x0 m0 o i)) (hc : cl + 5 ≤ 601024) (hs : sl + 2030 ≤ 7293034) (K : KK p l e s m below meth c Q D X b o x0 m0 i n cl sl) : W p l e room_1 s m #[Value.ref b] below meth c H locs cl sl Q (F0 m 415 ls []) := by
  obtain ⟨hx, hb, hml, hts, hown, hK, hE, hY, hX, hbl, hL9, hst⟩ := id hC
  have hA : ∀ q, s.heap.size ≤ q → AL s q := fun _ h => h
  have hbA : ¬ AL s b := Nat.not_le.mpr hbl
  have hx0 := hL.2.2.2.2.2.2.2.1
  obtain ⟨cd, r, s', ⟨hcd, hth, hI1⟩, hB, hCl, hMd⟩ := op_close hI (xs (i + 1)) (bz (xs (i + 2))) (bz_B _)
  refine lv_aload_n hx hb (dAt dK_close_ok 0 rfl) rfl (lv_at hl 3 rfl) ?_
  refine lw_arg (j := 1) (v := 1) hx hb hX hbl hbA hS hl (List.mem_of_getElem? (i := 4) rfl) (List.mem_of_getElem? (i := 0) rfl) (by omega) hL9 (by decide +kernel) (dAt dK_close_ok 1 rfl) (dAt dK_close_ok 2 rfl) (dAt dK_close_ok 3 rfl) (dAt dK_close_ok 4 rfl) (dAt dK_close_ok 5 rfl) ?_
  refine lw_arg (j := 2) (v := 2) hx hb hX hbl hbA hS hl (List.mem_of_getElem? (i := 4) rfl) (List.mem_of_getElem? (i := 0) rfl) (by omega) hL9 (by decide +kernel) (dAt dK_close_ok 6 rfl) (dAt dK_close_ok 7 rfl) (dAt dK_close_ok 8 rfl) (dAt dK_close_ok 9 rfl) (dAt dK_close_ok 10 rfl) ?_
  refine lw_bool hx hb (dAt dK_close_ok 11 rfl) (dAt dK_close_ok 12 rfl) (dAt dK_close_ok 13 rfl) (dAt dK_close_ok 14 rfl) ?_
  refine lv_aload_n hx hb (dAt dK_close_ok 15 rfl) rfl (lv_at hl 1 rfl) ?_
  refine W.eq (g2 := F0 m 437 ls ((([.inr (.inl (0, 0)), .inl (xs (i + 1)), .inl (bz (xs (i + 2)))] : List VV).map (toV ad) ++ ([.ref o] : List Value)).reverse)) (by rw [← hx0]; rfl) ?_
  refine law_wrap (R := room_1) (cl := cl) (sl := sl) (own := R_law) (n := 4) hx hb hml hts hown hK hA hE hY (w_close D X ad (xs (i + 1)) (bz (xs (i + 2))) hcd (fun _ => rfl) MS_0 hB ((c_X4_close (post := PO cd r (over s')) hst 0 (xs (i + 1)) (bz (xs (i + 2))) (over t) hCl).toE)) ⟨LT_in (by decide +kernel) (by decide +kernel), LT_in (by decide +kernel) (by decide +kernel), LT_in (by decide +kernel) (by decide +kernel), LT_in (by decide +kernel) (by decide +kernel)⟩ (by decide +kernel) ⟨by exact Nat.le_of_ble_eq_true rfl, by exact Nat.le_of_ble_eq_true rfl⟩ rfl rfl rfl hL hS hl.1 (by show cl + 2 ≤ 601024; omega) (by show sl + 12 ≤ 7293034; omega) (dAt dK_close_ok 16 rfl) (fun ad1 f1 H1 locs1 hL1 hf1 hS1 => ?_)
  refine W.widen (k := cl + 5) (n := sl + 2030) (by omega) (by omega) ?_
  refine lv_istore (lv' := (5, .int (nI cd)) :: LV b x0 m0 o i) hx hb (dAt dK_close_ok 17 rfl) hl (by decide) rfl (fun ls1 hl1 => ?_)
  have hm01 := hL1.2.2.2.2.2.2.2.2
  refine lv_aload_n hx hb (dAt dK_close_ok 18 rfl) rfl (lv_at hl1 3 rfl) ?_
  refine lw_arg (j := 1) (v := 1) hx hb hX hbl hbA hS1 hl1 (List.mem_of_getElem? (i := 5) rfl) (List.mem_of_getElem? (i := 1) rfl) (by omega) hL9 (by decide +kernel) (dAt dK_close_ok 19 rfl) (dAt dK_close_ok 20 rfl) (dAt dK_close_ok 21 rfl) (dAt dK_close_ok 22 rfl) (dAt dK_close_ok 23 rfl) ?_
  refine lw_arg (j := 2) (v := 2) hx hb hX hbl hbA hS1 hl1 (List.mem_of_getElem? (i := 5) rfl) (List.mem_of_getElem? (i := 1) rfl) (by omega) hL9 (by decide +kernel) (dAt dK_close_ok 24 rfl) (dAt dK_close_ok 25 rfl) (dAt dK_close_ok 26 rfl) (dAt dK_close_ok 27 rfl) (dAt dK_close_ok 28 rfl) ?_
  refine lw_bool hx hb (dAt dK_close_ok 29 rfl) (dAt dK_close_ok 30 rfl) (dAt dK_close_ok 31 rfl) (dAt dK_close_ok 32 rfl) ?_
  refine W.eq (g2 := F0 m 463 ls1 ((([.inr (.inl (20, 0)), .inl (xs (i + 1)), .inl (bz (xs (i + 2)))] : List VV).map (toV ad1)).reverse ++ [])) (by rw [← hm01]; rfl) ?_
  refine law_model (post := PMI cd r s') (n := 2) hC (c_X5_close hst 0 (xs (i + 1)) (bz (xs (i + 2))) t hMd) ⟨LT_in (by decide +kernel) (by decide +kernel), ws_X5_close.1, ws_X5_close.2.1, ws_X5_close.2.2.1, ws_X5_close.2.2.2⟩ (by decide +kernel) ⟨by exact Nat.le_of_ble_eq_true rfl, by exact Nat.le_of_ble_eq_true rfl⟩ rfl rfl rfl rfl rfl hL1 hS1 hl1.1 (rest := []) (by decide) hc hs (dAt dK_close_ok 33 rfl) (fun v u1 ad2 ad3 H2 locs2 hp hL2 hS2 => ?_)
  cases v with
  | none => exact hp.elim
  | some v =>
  cases v with
  | inr _ => exact hp.elim
  | inl r2 =>
  have hp : (cd = 0 → r2 = r) ∧ u1 = s' := hp
  obtain ⟨hq9, rfl⟩ := hp
  exact law_tailZ hC dT_close (by decide) hcd hth hB hq9 (fun z => hf1 z rfl) hL2 hS2 hl1 hc hs (fun ad4 H3 locs3 ls3 h1 h2 h3 => K _ _ _ _ _ _ _ _ _ _ _ hI1 h1 h2 h3)
theorem dT_speed : dOK (dTi 529 (1050)) := by unfold dOK; decide +kernel
def dK_speed : List (Nat × Instr × Nat) := [(506, .aload_n 1, 1), (507, .aload_n 0, 1), (508, .iload 4, 2), (510, .iconst 1, 1), (511, .iadd, 1), (512, .iaload, 1), (513, .aload_n 3, 1), (514, .invokestatic 116, 3), (517, .istore 5, 2), (519, .aload_n 2, 1), (520, .aload_n 0, 1), (521, .iload 4, 2), (523, .iconst 1, 1), (524, .iadd, 1), (525, .iaload, 1), (526, .invokevirtual 118, 3)]
theorem dK_speed_ok : dOK dK_speed := by unfold dOK; decide +kernel
set_option maxHeartbeats 4000000 in
set_option maxRecDepth 100000 in
theorem law_speed (hC : LC p l s m c D X b L xs) (hI : Inv n np nb nz nt tk t) (hn : n < 512) (hi : i + 4 ≤ L) (hL : LSt D X ad (AL s) np nb nz nt t t o f x0 m0 H) (hS : va_S (AL s) s.heap H locs) (hl : lv_has ls 7 (LV b x0 m0 o i)) (hc : cl + 5 ≤ 601024) (hs : sl + 2030 ≤ 7293034) (K : KK p l e s m below meth c Q D X b o x0 m0 i n cl sl) : W p l e room_1 s m #[Value.ref b] below meth c H locs cl sl Q (F0 m 506 ls []) := by
  obtain ⟨hx, hb, hml, hts, hown, hK, hE, hY, hX, hbl, hL9, hst⟩ := id hC
  have hA : ∀ q, s.heap.size ≤ q → AL s q := fun _ h => h
  have hbA : ¬ AL s b := Nat.not_le.mpr hbl
  have hx0 := hL.2.2.2.2.2.2.2.1
  obtain ⟨cd, r, s', ⟨hcd, hth, hI1⟩, hCl, hMd⟩ := op_speed hI (xs (i + 1))
  refine lv_aload_n hx hb (dAt dK_speed_ok 0 rfl) rfl (lv_at hl 3 rfl) ?_
  refine lw_arg (j := 1) (v := 1) hx hb hX hbl hbA hS hl (List.mem_of_getElem? (i := 4) rfl) (List.mem_of_getElem? (i := 0) rfl) (by omega) hL9 (by decide +kernel) (dAt dK_speed_ok 1 rfl) (dAt dK_speed_ok 2 rfl) (dAt dK_speed_ok 3 rfl) (dAt dK_speed_ok 4 rfl) (dAt dK_speed_ok 5 rfl) ?_
  refine lv_aload_n hx hb (dAt dK_speed_ok 6 rfl) rfl (lv_at hl 1 rfl) ?_
  refine W.eq (g2 := F0 m 514 ls ((([.inr (.inl (0, 0)), .inl (xs (i + 1))] : List VV).map (toV ad) ++ ([.ref o] : List Value)).reverse)) (by rw [← hx0]; rfl) ?_
  refine law_wrap (R := room_1) (cl := cl) (sl := sl) (own := R_law) (n := 3) hx hb hml hts hown hK hA hE hY (w_speed D X ad (xs (i + 1)) hcd (fun _ => rfl) MS_0 ((c_X4_speed (post := PO cd r (over s')) hst 0 (xs (i + 1)) (over t) hCl).toE)) ⟨LT_in (by decide +kernel) (by decide +kernel), LT_in (by decide +kernel) (by decide +kernel), LT_in (by decide +kernel) (by decide +kernel), LT_in (by decide +kernel) (by decide +kernel)⟩ (by decide +kernel) ⟨by exact Nat.le_of_ble_eq_true rfl, by exact Nat.le_of_ble_eq_true rfl⟩ rfl rfl rfl hL hS hl.1 (by show cl + 1 ≤ 601024; omega) (by show sl + 6 ≤ 7293034; omega) (dAt dK_speed_ok 7 rfl) (fun ad1 f1 H1 locs1 hL1 hf1 hS1 => ?_)
  refine W.widen (k := cl + 5) (n := sl + 2030) (by omega) (by omega) ?_
  refine lv_istore (lv' := (5, .int (nI cd)) :: LV b x0 m0 o i) hx hb (dAt dK_speed_ok 8 rfl) hl (by decide) rfl (fun ls1 hl1 => ?_)
  have hm01 := hL1.2.2.2.2.2.2.2.2
  refine lv_aload_n hx hb (dAt dK_speed_ok 9 rfl) rfl (lv_at hl1 3 rfl) ?_
  refine lw_arg (j := 1) (v := 1) hx hb hX hbl hbA hS1 hl1 (List.mem_of_getElem? (i := 5) rfl) (List.mem_of_getElem? (i := 1) rfl) (by omega) hL9 (by decide +kernel) (dAt dK_speed_ok 10 rfl) (dAt dK_speed_ok 11 rfl) (dAt dK_speed_ok 12 rfl) (dAt dK_speed_ok 13 rfl) (dAt dK_speed_ok 14 rfl) ?_
  refine W.eq (g2 := F0 m 526 ls1 ((([.inr (.inl (20, 0)), .inl (xs (i + 1))] : List VV).map (toV ad1)).reverse ++ [])) (by rw [← hm01]; rfl) ?_
  refine law_model (post := PMI cd r s') (n := 1) hC (c_X5_speed hst 0 (xs (i + 1)) t hMd) ⟨LT_in (by decide +kernel) (by decide +kernel), ws_X5_speed.1, ws_X5_speed.2.1, ws_X5_speed.2.2.1, ws_X5_speed.2.2.2⟩ (by decide +kernel) ⟨by exact Nat.le_of_ble_eq_true rfl, by exact Nat.le_of_ble_eq_true rfl⟩ rfl rfl rfl rfl rfl hL1 hS1 hl1.1 (rest := []) (by decide) hc hs (dAt dK_speed_ok 15 rfl) (fun v u1 ad2 ad3 H2 locs2 hp hL2 hS2 => ?_)
  cases v with
  | none => exact hp.elim
  | some v =>
  cases v with
  | inr _ => exact hp.elim
  | inl r2 =>
  have hp : (cd = 0 → r2 = r) ∧ u1 = s' := hp
  obtain ⟨hq9, rfl⟩ := hp
  exact law_tailI hC dT_speed (by decide) hcd hth hq9 (fun z => hf1 z rfl) hL2 hS2 hl1 hc hs (fun ad4 H3 locs3 ls3 h1 h2 h3 => K _ _ _ _ _ _ _ _ _ _ _ hI1 h1 h2 h3)
theorem dT_train : dOK (dTi 585 (994)) := by unfold dOK; decide +kernel
def dK_train : List (Nat × Instr × Nat) := [(562, .aload_n 1, 1), (563, .aload_n 0, 1), (564, .iload 4, 2), (566, .iconst 1, 1), (567, .iadd, 1), (568, .iaload, 1), (569, .aload_n 3, 1), (570, .invokestatic 119, 3), (573, .istore 5, 2), (575, .aload_n 2, 1), (576, .aload_n 0, 1), (577, .iload 4, 2), (579, .iconst 1, 1), (580, .iadd, 1), (581, .iaload, 1), (582, .invokevirtual 121, 3)]
theorem dK_train_ok : dOK dK_train := by unfold dOK; decide +kernel
set_option maxHeartbeats 4000000 in
set_option maxRecDepth 100000 in
theorem law_train (hC : LC p l s m c D X b L xs) (hI : Inv n np nb nz nt tk t) (hn : n < 512) (hi : i + 4 ≤ L) (hL : LSt D X ad (AL s) np nb nz nt t t o f x0 m0 H) (hS : va_S (AL s) s.heap H locs) (hl : lv_has ls 7 (LV b x0 m0 o i)) (hc : cl + 5 ≤ 601024) (hs : sl + 2030 ≤ 7293034) (K : KK p l e s m below meth c Q D X b o x0 m0 i n cl sl) : W p l e room_1 s m #[Value.ref b] below meth c H locs cl sl Q (F0 m 562 ls []) := by
  obtain ⟨hx, hb, hml, hts, hown, hK, hE, hY, hX, hbl, hL9, hst⟩ := id hC
  have hA : ∀ q, s.heap.size ≤ q → AL s q := fun _ h => h
  have hbA : ¬ AL s b := Nat.not_le.mpr hbl
  have hx0 := hL.2.2.2.2.2.2.2.1
  obtain ⟨cd, r, s', c9, ⟨hcd, hth, hI1⟩, hcs, hCE, hMd⟩ := oq_train hI (xs (i + 1))
  refine lv_aload_n hx hb (dAt dK_train_ok 0 rfl) rfl (lv_at hl 3 rfl) ?_
  refine lw_arg (j := 1) (v := 1) hx hb hX hbl hbA hS hl (List.mem_of_getElem? (i := 4) rfl) (List.mem_of_getElem? (i := 0) rfl) (by omega) hL9 (by decide +kernel) (dAt dK_train_ok 1 rfl) (dAt dK_train_ok 2 rfl) (dAt dK_train_ok 3 rfl) (dAt dK_train_ok 4 rfl) (dAt dK_train_ok 5 rfl) ?_
  refine lv_aload_n hx hb (dAt dK_train_ok 6 rfl) rfl (lv_at hl 1 rfl) ?_
  refine W.eq (g2 := F0 m 570 ls ((([.inr (.inl (0, 0)), .inl (xs (i + 1))] : List VV).map (toV ad) ++ ([.ref o] : List Value)).reverse)) (by rw [← hx0]; rfl) ?_
  refine law_wrap (R := room_1) (cl := cl) (sl := sl) (own := R_law) (n := 3) hx hb hml hts hown hK hA hE hY (w_train D X ad (xs (i + 1)) hcd (fun z => by rw [hcs z]) MS_0 (hCE l hst D X ad)) ⟨LT_in (by decide +kernel) (by decide +kernel), LT_in (by decide +kernel) (by decide +kernel), LT_in (by decide +kernel) (by decide +kernel), LT_in (by decide +kernel) (by decide +kernel)⟩ (by decide +kernel) ⟨by exact Nat.le_of_ble_eq_true rfl, by exact Nat.le_of_ble_eq_true rfl⟩ rfl rfl rfl hL hS hl.1 (by show cl + 5 ≤ 601024; omega) (by show sl + 2030 ≤ 7293034; omega) (dAt dK_train_ok 7 rfl) (fun ad1 f1 H1 locs1 hL1 hf1 hS1 => ?_)
  refine W.widen (k := cl + 5) (n := sl + 2030) (by omega) (by omega) ?_
  refine lv_istore (lv' := (5, .int (nI cd)) :: LV b x0 m0 o i) hx hb (dAt dK_train_ok 8 rfl) hl (by decide) rfl (fun ls1 hl1 => ?_)
  have hm01 := hL1.2.2.2.2.2.2.2.2
  refine lv_aload_n hx hb (dAt dK_train_ok 9 rfl) rfl (lv_at hl1 3 rfl) ?_
  refine lw_arg (j := 1) (v := 1) hx hb hX hbl hbA hS1 hl1 (List.mem_of_getElem? (i := 5) rfl) (List.mem_of_getElem? (i := 1) rfl) (by omega) hL9 (by decide +kernel) (dAt dK_train_ok 10 rfl) (dAt dK_train_ok 11 rfl) (dAt dK_train_ok 12 rfl) (dAt dK_train_ok 13 rfl) (dAt dK_train_ok 14 rfl) ?_
  refine W.eq (g2 := F0 m 582 ls1 ((([.inr (.inl (20, 0)), .inl (xs (i + 1))] : List VV).map (toV ad1)).reverse ++ [])) (by rw [← hm01]; rfl) ?_
  refine law_model (post := PMI cd r s') (n := 1) hC (c_X5_train hst 0 (xs (i + 1)) t hMd) ⟨LT_in (by decide +kernel) (by decide +kernel), ws_X5_train.1, ws_X5_train.2.1, ws_X5_train.2.2.1, ws_X5_train.2.2.2⟩ (by decide +kernel) ⟨by exact Nat.le_of_ble_eq_true rfl, by exact Nat.le_of_ble_eq_true rfl⟩ rfl rfl rfl rfl rfl hL1 hS1 hl1.1 (rest := []) (by decide) hc hs (dAt dK_train_ok 15 rfl) (fun v u1 ad2 ad3 H2 locs2 hp hL2 hS2 => ?_)
  cases v with
  | none => exact hp.elim
  | some v =>
  cases v with
  | inr _ => exact hp.elim
  | inl r2 =>
  have hp : (cd = 0 → r2 = r) ∧ u1 = s' := hp
  obtain ⟨hq9, rfl⟩ := hp
  exact law_tailI hC dT_train (by decide) hcd hth hq9 (fun z => hf1 z rfl) hL2 hS2 hl1 hc hs (fun ad4 H3 locs3 ls3 h1 h2 h3 => K _ _ _ _ _ _ _ _ _ _ _ hI1 h1 h2 h3)
theorem dT_trainIs : dOK (dTi 653 (926)) := by unfold dOK; decide +kernel
def dK_trainIs : List (Nat × Instr × Nat) := [(618, .aload_n 1, 1), (619, .aload_n 0, 1), (620, .iload 4, 2), (622, .iconst 1, 1), (623, .iadd, 1), (624, .iaload, 1), (625, .aload_n 0, 1), (626, .iload 4, 2), (628, .iconst 2, 1), (629, .iadd, 1), (630, .iaload, 1), (631, .aload_n 3, 1), (632, .invokestatic 122, 3), (635, .istore 5, 2), (637, .aload_n 2, 1), (638, .aload_n 0, 1), (639, .iload 4, 2), (641, .iconst 1, 1), (642, .iadd, 1), (643, .iaload, 1), (644, .aload_n 0, 1), (645, .iload 4, 2), (647, .iconst 2, 1), (648, .iadd, 1), (649, .iaload, 1), (650, .invokevirtual 124, 3)]
theorem dK_trainIs_ok : dOK dK_trainIs := by unfold dOK; decide +kernel
set_option maxHeartbeats 4000000 in
set_option maxRecDepth 100000 in
theorem law_trainIs (hC : LC p l s m c D X b L xs) (hI : Inv n np nb nz nt tk t) (hn : n < 512) (hi : i + 4 ≤ L) (hL : LSt D X ad (AL s) np nb nz nt t t o f x0 m0 H) (hS : va_S (AL s) s.heap H locs) (hl : lv_has ls 7 (LV b x0 m0 o i)) (hc : cl + 5 ≤ 601024) (hs : sl + 2030 ≤ 7293034) (K : KK p l e s m below meth c Q D X b o x0 m0 i n cl sl) : W p l e room_1 s m #[Value.ref b] below meth c H locs cl sl Q (F0 m 618 ls []) := by
  obtain ⟨hx, hb, hml, hts, hown, hK, hE, hY, hX, hbl, hL9, hst⟩ := id hC
  have hA : ∀ q, s.heap.size ≤ q → AL s q := fun _ h => h
  have hbA : ¬ AL s b := Nat.not_le.mpr hbl
  have hx0 := hL.2.2.2.2.2.2.2.1
  obtain ⟨cd, r, s', ⟨hcd, hth, hI1⟩, hCl, hMd⟩ := op_trainIs hI (xs (i + 1)) (xs (i + 2))
  refine lv_aload_n hx hb (dAt dK_trainIs_ok 0 rfl) rfl (lv_at hl 3 rfl) ?_
  refine lw_arg (j := 1) (v := 1) hx hb hX hbl hbA hS hl (List.mem_of_getElem? (i := 4) rfl) (List.mem_of_getElem? (i := 0) rfl) (by omega) hL9 (by decide +kernel) (dAt dK_trainIs_ok 1 rfl) (dAt dK_trainIs_ok 2 rfl) (dAt dK_trainIs_ok 3 rfl) (dAt dK_trainIs_ok 4 rfl) (dAt dK_trainIs_ok 5 rfl) ?_
  refine lw_arg (j := 2) (v := 2) hx hb hX hbl hbA hS hl (List.mem_of_getElem? (i := 4) rfl) (List.mem_of_getElem? (i := 0) rfl) (by omega) hL9 (by decide +kernel) (dAt dK_trainIs_ok 6 rfl) (dAt dK_trainIs_ok 7 rfl) (dAt dK_trainIs_ok 8 rfl) (dAt dK_trainIs_ok 9 rfl) (dAt dK_trainIs_ok 10 rfl) ?_
  refine lv_aload_n hx hb (dAt dK_trainIs_ok 11 rfl) rfl (lv_at hl 1 rfl) ?_
  refine W.eq (g2 := F0 m 632 ls ((([.inr (.inl (0, 0)), .inl (xs (i + 1)), .inl (xs (i + 2))] : List VV).map (toV ad) ++ ([.ref o] : List Value)).reverse)) (by rw [← hx0]; rfl) ?_
  refine law_wrap (R := room_1) (cl := cl) (sl := sl) (own := R_law) (n := 4) hx hb hml hts hown hK hA hE hY (w_trainIs D X ad (xs (i + 1)) (xs (i + 2)) hcd (fun _ => rfl) MS_0 ((c_X4_trainIs (post := PO cd r (over s')) hst 0 (xs (i + 1)) (xs (i + 2)) (over t) hCl).toE)) ⟨LT_in (by decide +kernel) (by decide +kernel), LT_in (by decide +kernel) (by decide +kernel), LT_in (by decide +kernel) (by decide +kernel), LT_in (by decide +kernel) (by decide +kernel)⟩ (by decide +kernel) ⟨by exact Nat.le_of_ble_eq_true rfl, by exact Nat.le_of_ble_eq_true rfl⟩ rfl rfl rfl hL hS hl.1 (by show cl + 2 ≤ 601024; omega) (by show sl + 12 ≤ 7293034; omega) (dAt dK_trainIs_ok 12 rfl) (fun ad1 f1 H1 locs1 hL1 hf1 hS1 => ?_)
  refine W.widen (k := cl + 5) (n := sl + 2030) (by omega) (by omega) ?_
  refine lv_istore (lv' := (5, .int (nI cd)) :: LV b x0 m0 o i) hx hb (dAt dK_trainIs_ok 13 rfl) hl (by decide) rfl (fun ls1 hl1 => ?_)
  have hm01 := hL1.2.2.2.2.2.2.2.2
  refine lv_aload_n hx hb (dAt dK_trainIs_ok 14 rfl) rfl (lv_at hl1 3 rfl) ?_
  refine lw_arg (j := 1) (v := 1) hx hb hX hbl hbA hS1 hl1 (List.mem_of_getElem? (i := 5) rfl) (List.mem_of_getElem? (i := 1) rfl) (by omega) hL9 (by decide +kernel) (dAt dK_trainIs_ok 15 rfl) (dAt dK_trainIs_ok 16 rfl) (dAt dK_trainIs_ok 17 rfl) (dAt dK_trainIs_ok 18 rfl) (dAt dK_trainIs_ok 19 rfl) ?_
  refine lw_arg (j := 2) (v := 2) hx hb hX hbl hbA hS1 hl1 (List.mem_of_getElem? (i := 5) rfl) (List.mem_of_getElem? (i := 1) rfl) (by omega) hL9 (by decide +kernel) (dAt dK_trainIs_ok 20 rfl) (dAt dK_trainIs_ok 21 rfl) (dAt dK_trainIs_ok 22 rfl) (dAt dK_trainIs_ok 23 rfl) (dAt dK_trainIs_ok 24 rfl) ?_
  refine W.eq (g2 := F0 m 650 ls1 ((([.inr (.inl (20, 0)), .inl (xs (i + 1)), .inl (xs (i + 2))] : List VV).map (toV ad1)).reverse ++ [])) (by rw [← hm01]; rfl) ?_
  refine law_model (post := PMI cd r s') (n := 2) hC (c_X5_trainIs hst 0 (xs (i + 1)) (xs (i + 2)) t hMd) ⟨LT_in (by decide +kernel) (by decide +kernel), ws_X5_trainIs.1, ws_X5_trainIs.2.1, ws_X5_trainIs.2.2.1, ws_X5_trainIs.2.2.2⟩ (by decide +kernel) ⟨by exact Nat.le_of_ble_eq_true rfl, by exact Nat.le_of_ble_eq_true rfl⟩ rfl rfl rfl rfl rfl hL1 hS1 hl1.1 (rest := []) (by decide) hc hs (dAt dK_trainIs_ok 25 rfl) (fun v u1 ad2 ad3 H2 locs2 hp hL2 hS2 => ?_)
  cases v with
  | none => exact hp.elim
  | some v =>
  cases v with
  | inr _ => exact hp.elim
  | inl r2 =>
  have hp : (cd = 0 → r2 = r) ∧ u1 = s' := hp
  obtain ⟨hq9, rfl⟩ := hp
  exact law_tailI hC dT_trainIs (by decide) hcd hth hq9 (fun z => hf1 z rfl) hL2 hS2 hl1 hc hs (fun ad4 H3 locs3 ls3 h1 h2 h3 => K _ _ _ _ _ _ _ _ _ _ _ hI1 h1 h2 h3)
theorem dT_slip : dOK (dTi 721 (858)) := by unfold dOK; decide +kernel
def dK_slip : List (Nat × Instr × Nat) := [(686, .aload_n 1, 1), (687, .aload_n 0, 1), (688, .iload 4, 2), (690, .iconst 1, 1), (691, .iadd, 1), (692, .iaload, 1), (693, .aload_n 0, 1), (694, .iload 4, 2), (696, .iconst 2, 1), (697, .iadd, 1), (698, .iaload, 1), (699, .aload_n 3, 1), (700, .invokestatic 125, 3), (703, .istore 5, 2), (705, .aload_n 2, 1), (706, .aload_n 0, 1), (707, .iload 4, 2), (709, .iconst 1, 1), (710, .iadd, 1), (711, .iaload, 1), (712, .aload_n 0, 1), (713, .iload 4, 2), (715, .iconst 2, 1), (716, .iadd, 1), (717, .iaload, 1), (718, .invokevirtual 127, 3)]
theorem dK_slip_ok : dOK dK_slip := by unfold dOK; decide +kernel
set_option maxHeartbeats 4000000 in
set_option maxRecDepth 100000 in
theorem law_slip (hC : LC p l s m c D X b L xs) (hI : Inv n np nb nz nt tk t) (hn : n < 512) (hi : i + 4 ≤ L) (hL : LSt D X ad (AL s) np nb nz nt t t o f x0 m0 H) (hS : va_S (AL s) s.heap H locs) (hl : lv_has ls 7 (LV b x0 m0 o i)) (hc : cl + 5 ≤ 601024) (hs : sl + 2030 ≤ 7293034) (K : KK p l e s m below meth c Q D X b o x0 m0 i n cl sl) : W p l e room_1 s m #[Value.ref b] below meth c H locs cl sl Q (F0 m 686 ls []) := by
  obtain ⟨hx, hb, hml, hts, hown, hK, hE, hY, hX, hbl, hL9, hst⟩ := id hC
  have hA : ∀ q, s.heap.size ≤ q → AL s q := fun _ h => h
  have hbA : ¬ AL s b := Nat.not_le.mpr hbl
  have hx0 := hL.2.2.2.2.2.2.2.1
  obtain ⟨cd, r, s', ⟨hcd, hth, hI1⟩, hCl, hMd⟩ := op_slip hI (xs (i + 1)) (xs (i + 2))
  refine lv_aload_n hx hb (dAt dK_slip_ok 0 rfl) rfl (lv_at hl 3 rfl) ?_
  refine lw_arg (j := 1) (v := 1) hx hb hX hbl hbA hS hl (List.mem_of_getElem? (i := 4) rfl) (List.mem_of_getElem? (i := 0) rfl) (by omega) hL9 (by decide +kernel) (dAt dK_slip_ok 1 rfl) (dAt dK_slip_ok 2 rfl) (dAt dK_slip_ok 3 rfl) (dAt dK_slip_ok 4 rfl) (dAt dK_slip_ok 5 rfl) ?_
  refine lw_arg (j := 2) (v := 2) hx hb hX hbl hbA hS hl (List.mem_of_getElem? (i := 4) rfl) (List.mem_of_getElem? (i := 0) rfl) (by omega) hL9 (by decide +kernel) (dAt dK_slip_ok 6 rfl) (dAt dK_slip_ok 7 rfl) (dAt dK_slip_ok 8 rfl) (dAt dK_slip_ok 9 rfl) (dAt dK_slip_ok 10 rfl) ?_
  refine lv_aload_n hx hb (dAt dK_slip_ok 11 rfl) rfl (lv_at hl 1 rfl) ?_
  refine W.eq (g2 := F0 m 700 ls ((([.inr (.inl (0, 0)), .inl (xs (i + 1)), .inl (xs (i + 2))] : List VV).map (toV ad) ++ ([.ref o] : List Value)).reverse)) (by rw [← hx0]; rfl) ?_
  refine law_wrap (R := room_1) (cl := cl) (sl := sl) (own := R_law) (n := 4) hx hb hml hts hown hK hA hE hY (w_slip D X ad (xs (i + 1)) (xs (i + 2)) hcd (fun _ => rfl) MS_0 ((c_X4_slip (post := PO cd r (over s')) hst 0 (xs (i + 1)) (xs (i + 2)) (over t) hCl).toE)) ⟨LT_in (by decide +kernel) (by decide +kernel), LT_in (by decide +kernel) (by decide +kernel), LT_in (by decide +kernel) (by decide +kernel), LT_in (by decide +kernel) (by decide +kernel)⟩ (by decide +kernel) ⟨by exact Nat.le_of_ble_eq_true rfl, by exact Nat.le_of_ble_eq_true rfl⟩ rfl rfl rfl hL hS hl.1 (by show cl + 2 ≤ 601024; omega) (by show sl + 12 ≤ 7293034; omega) (dAt dK_slip_ok 12 rfl) (fun ad1 f1 H1 locs1 hL1 hf1 hS1 => ?_)
  refine W.widen (k := cl + 5) (n := sl + 2030) (by omega) (by omega) ?_
  refine lv_istore (lv' := (5, .int (nI cd)) :: LV b x0 m0 o i) hx hb (dAt dK_slip_ok 13 rfl) hl (by decide) rfl (fun ls1 hl1 => ?_)
  have hm01 := hL1.2.2.2.2.2.2.2.2
  refine lv_aload_n hx hb (dAt dK_slip_ok 14 rfl) rfl (lv_at hl1 3 rfl) ?_
  refine lw_arg (j := 1) (v := 1) hx hb hX hbl hbA hS1 hl1 (List.mem_of_getElem? (i := 5) rfl) (List.mem_of_getElem? (i := 1) rfl) (by omega) hL9 (by decide +kernel) (dAt dK_slip_ok 15 rfl) (dAt dK_slip_ok 16 rfl) (dAt dK_slip_ok 17 rfl) (dAt dK_slip_ok 18 rfl) (dAt dK_slip_ok 19 rfl) ?_
  refine lw_arg (j := 2) (v := 2) hx hb hX hbl hbA hS1 hl1 (List.mem_of_getElem? (i := 5) rfl) (List.mem_of_getElem? (i := 1) rfl) (by omega) hL9 (by decide +kernel) (dAt dK_slip_ok 20 rfl) (dAt dK_slip_ok 21 rfl) (dAt dK_slip_ok 22 rfl) (dAt dK_slip_ok 23 rfl) (dAt dK_slip_ok 24 rfl) ?_
  refine W.eq (g2 := F0 m 718 ls1 ((([.inr (.inl (20, 0)), .inl (xs (i + 1)), .inl (xs (i + 2))] : List VV).map (toV ad1)).reverse ++ [])) (by rw [← hm01]; rfl) ?_
  refine law_model (post := PMI cd r s') (n := 2) hC (c_X5_slip hst 0 (xs (i + 1)) (xs (i + 2)) t hMd) ⟨LT_in (by decide +kernel) (by decide +kernel), ws_X5_slip.1, ws_X5_slip.2.1, ws_X5_slip.2.2.1, ws_X5_slip.2.2.2⟩ (by decide +kernel) ⟨by exact Nat.le_of_ble_eq_true rfl, by exact Nat.le_of_ble_eq_true rfl⟩ rfl rfl rfl rfl rfl hL1 hS1 hl1.1 (rest := []) (by decide) hc hs (dAt dK_slip_ok 25 rfl) (fun v u1 ad2 ad3 H2 locs2 hp hL2 hS2 => ?_)
  cases v with
  | none => exact hp.elim
  | some v =>
  cases v with
  | inr _ => exact hp.elim
  | inl r2 =>
  have hp : (cd = 0 → r2 = r) ∧ u1 = s' := hp
  obtain ⟨hq9, rfl⟩ := hp
  exact law_tailI hC dT_slip (by decide) hcd hth hq9 (fun z => hf1 z rfl) hL2 hS2 hl1 hc hs (fun ad4 H3 locs3 ls3 h1 h2 h3 => K _ _ _ _ _ _ _ _ _ _ _ hI1 h1 h2 h3)
theorem dT_silent : dOK (dTz 805 (767)) := by unfold dOK; decide +kernel
def dK_silent : List (Nat × Instr × Nat) := [(754, .aload_n 1, 1), (755, .aload_n 0, 1), (756, .iload 4, 2), (758, .iconst 1, 1), (759, .iadd, 1), (760, .iaload, 1), (761, .aload_n 0, 1), (762, .iload 4, 2), (764, .iconst 2, 1), (765, .iadd, 1), (766, .iaload, 1), (767, .ifCond .eq 7, 3), (770, .iconst 1, 1), (771, .goto 4, 3), (774, .iconst 0, 1), (775, .aload_n 3, 1), (776, .invokestatic 128, 3), (779, .istore 5, 2), (781, .aload_n 2, 1), (782, .aload_n 0, 1), (783, .iload 4, 2), (785, .iconst 1, 1), (786, .iadd, 1), (787, .iaload, 1), (788, .aload_n 0, 1), (789, .iload 4, 2), (791, .iconst 2, 1), (792, .iadd, 1), (793, .iaload, 1), (794, .ifCond .eq 7, 3), (797, .iconst 1, 1), (798, .goto 4, 3), (801, .iconst 0, 1), (802, .invokevirtual 130, 3)]
theorem dK_silent_ok : dOK dK_silent := by unfold dOK; decide +kernel
set_option maxHeartbeats 4000000 in
set_option maxRecDepth 100000 in
theorem law_silent (hC : LC p l s m c D X b L xs) (hI : Inv n np nb nz nt tk t) (hn : n < 512) (hi : i + 4 ≤ L) (hL : LSt D X ad (AL s) np nb nz nt t t o f x0 m0 H) (hS : va_S (AL s) s.heap H locs) (hl : lv_has ls 7 (LV b x0 m0 o i)) (hc : cl + 5 ≤ 601024) (hs : sl + 2030 ≤ 7293034) (K : KK p l e s m below meth c Q D X b o x0 m0 i n cl sl) : W p l e room_1 s m #[Value.ref b] below meth c H locs cl sl Q (F0 m 754 ls []) := by
  obtain ⟨hx, hb, hml, hts, hown, hK, hE, hY, hX, hbl, hL9, hst⟩ := id hC
  have hA : ∀ q, s.heap.size ≤ q → AL s q := fun _ h => h
  have hbA : ¬ AL s b := Nat.not_le.mpr hbl
  have hx0 := hL.2.2.2.2.2.2.2.1
  obtain ⟨cd, r, s', ⟨hcd, hth, hI1⟩, hB, hCl, hMd⟩ := op_silent hI (xs (i + 1)) (bz (xs (i + 2))) (bz_B _)
  refine lv_aload_n hx hb (dAt dK_silent_ok 0 rfl) rfl (lv_at hl 3 rfl) ?_
  refine lw_arg (j := 1) (v := 1) hx hb hX hbl hbA hS hl (List.mem_of_getElem? (i := 4) rfl) (List.mem_of_getElem? (i := 0) rfl) (by omega) hL9 (by decide +kernel) (dAt dK_silent_ok 1 rfl) (dAt dK_silent_ok 2 rfl) (dAt dK_silent_ok 3 rfl) (dAt dK_silent_ok 4 rfl) (dAt dK_silent_ok 5 rfl) ?_
  refine lw_arg (j := 2) (v := 2) hx hb hX hbl hbA hS hl (List.mem_of_getElem? (i := 4) rfl) (List.mem_of_getElem? (i := 0) rfl) (by omega) hL9 (by decide +kernel) (dAt dK_silent_ok 6 rfl) (dAt dK_silent_ok 7 rfl) (dAt dK_silent_ok 8 rfl) (dAt dK_silent_ok 9 rfl) (dAt dK_silent_ok 10 rfl) ?_
  refine lw_bool hx hb (dAt dK_silent_ok 11 rfl) (dAt dK_silent_ok 12 rfl) (dAt dK_silent_ok 13 rfl) (dAt dK_silent_ok 14 rfl) ?_
  refine lv_aload_n hx hb (dAt dK_silent_ok 15 rfl) rfl (lv_at hl 1 rfl) ?_
  refine W.eq (g2 := F0 m 776 ls ((([.inr (.inl (0, 0)), .inl (xs (i + 1)), .inl (bz (xs (i + 2)))] : List VV).map (toV ad) ++ ([.ref o] : List Value)).reverse)) (by rw [← hx0]; rfl) ?_
  refine law_wrap (R := room_1) (cl := cl) (sl := sl) (own := R_law) (n := 4) hx hb hml hts hown hK hA hE hY (w_silent D X ad (xs (i + 1)) (bz (xs (i + 2))) hcd (fun _ => rfl) MS_0 hB ((c_X4_silent (post := PO cd r (over s')) hst 0 (xs (i + 1)) (bz (xs (i + 2))) (over t) hCl).toE)) ⟨LT_in (by decide +kernel) (by decide +kernel), LT_in (by decide +kernel) (by decide +kernel), LT_in (by decide +kernel) (by decide +kernel), LT_in (by decide +kernel) (by decide +kernel)⟩ (by decide +kernel) ⟨by exact Nat.le_of_ble_eq_true rfl, by exact Nat.le_of_ble_eq_true rfl⟩ rfl rfl rfl hL hS hl.1 (by show cl + 1 ≤ 601024; omega) (by show sl + 6 ≤ 7293034; omega) (dAt dK_silent_ok 16 rfl) (fun ad1 f1 H1 locs1 hL1 hf1 hS1 => ?_)
  refine W.widen (k := cl + 5) (n := sl + 2030) (by omega) (by omega) ?_
  refine lv_istore (lv' := (5, .int (nI cd)) :: LV b x0 m0 o i) hx hb (dAt dK_silent_ok 17 rfl) hl (by decide) rfl (fun ls1 hl1 => ?_)
  have hm01 := hL1.2.2.2.2.2.2.2.2
  refine lv_aload_n hx hb (dAt dK_silent_ok 18 rfl) rfl (lv_at hl1 3 rfl) ?_
  refine lw_arg (j := 1) (v := 1) hx hb hX hbl hbA hS1 hl1 (List.mem_of_getElem? (i := 5) rfl) (List.mem_of_getElem? (i := 1) rfl) (by omega) hL9 (by decide +kernel) (dAt dK_silent_ok 19 rfl) (dAt dK_silent_ok 20 rfl) (dAt dK_silent_ok 21 rfl) (dAt dK_silent_ok 22 rfl) (dAt dK_silent_ok 23 rfl) ?_
  refine lw_arg (j := 2) (v := 2) hx hb hX hbl hbA hS1 hl1 (List.mem_of_getElem? (i := 5) rfl) (List.mem_of_getElem? (i := 1) rfl) (by omega) hL9 (by decide +kernel) (dAt dK_silent_ok 24 rfl) (dAt dK_silent_ok 25 rfl) (dAt dK_silent_ok 26 rfl) (dAt dK_silent_ok 27 rfl) (dAt dK_silent_ok 28 rfl) ?_
  refine lw_bool hx hb (dAt dK_silent_ok 29 rfl) (dAt dK_silent_ok 30 rfl) (dAt dK_silent_ok 31 rfl) (dAt dK_silent_ok 32 rfl) ?_
  refine W.eq (g2 := F0 m 802 ls1 ((([.inr (.inl (20, 0)), .inl (xs (i + 1)), .inl (bz (xs (i + 2)))] : List VV).map (toV ad1)).reverse ++ [])) (by rw [← hm01]; rfl) ?_
  refine law_model (post := PMI cd r s') (n := 2) hC (c_X5_silent hst 0 (xs (i + 1)) (bz (xs (i + 2))) t hMd) ⟨LT_in (by decide +kernel) (by decide +kernel), ws_X5_silent.1, ws_X5_silent.2.1, ws_X5_silent.2.2.1, ws_X5_silent.2.2.2⟩ (by decide +kernel) ⟨by exact Nat.le_of_ble_eq_true rfl, by exact Nat.le_of_ble_eq_true rfl⟩ rfl rfl rfl rfl rfl hL1 hS1 hl1.1 (rest := []) (by decide) hc hs (dAt dK_silent_ok 33 rfl) (fun v u1 ad2 ad3 H2 locs2 hp hL2 hS2 => ?_)
  cases v with
  | none => exact hp.elim
  | some v =>
  cases v with
  | inr _ => exact hp.elim
  | inl r2 =>
  have hp : (cd = 0 → r2 = r) ∧ u1 = s' := hp
  obtain ⟨hq9, rfl⟩ := hp
  exact law_tailZ hC dT_silent (by decide) hcd hth hB hq9 (fun z => hf1 z rfl) hL2 hS2 hl1 hc hs (fun ad4 H3 locs3 ls3 h1 h2 h3 => K _ _ _ _ _ _ _ _ _ _ _ hI1 h1 h2 h3)
theorem dT_emergency : dOK (dTz 868 (704)) := by unfold dOK; decide +kernel
def dK_emergency : List (Nat × Instr × Nat) := [(845, .aload_n 1, 1), (846, .aload_n 0, 1), (847, .iload 4, 2), (849, .iconst 1, 1), (850, .iadd, 1), (851, .iaload, 1), (852, .aload_n 3, 1), (853, .invokestatic 131, 3), (856, .istore 5, 2), (858, .aload_n 2, 1), (859, .aload_n 0, 1), (860, .iload 4, 2), (862, .iconst 1, 1), (863, .iadd, 1), (864, .iaload, 1), (865, .invokevirtual 133, 3)]
theorem dK_emergency_ok : dOK dK_emergency := by unfold dOK; decide +kernel
set_option maxHeartbeats 4000000 in
set_option maxRecDepth 100000 in
theorem law_emergency (hC : LC p l s m c D X b L xs) (hI : Inv n np nb nz nt tk t) (hn : n < 512) (hi : i + 4 ≤ L) (hL : LSt D X ad (AL s) np nb nz nt t t o f x0 m0 H) (hS : va_S (AL s) s.heap H locs) (hl : lv_has ls 7 (LV b x0 m0 o i)) (hc : cl + 5 ≤ 601024) (hs : sl + 2030 ≤ 7293034) (K : KK p l e s m below meth c Q D X b o x0 m0 i n cl sl) : W p l e room_1 s m #[Value.ref b] below meth c H locs cl sl Q (F0 m 845 ls []) := by
  obtain ⟨hx, hb, hml, hts, hown, hK, hE, hY, hX, hbl, hL9, hst⟩ := id hC
  have hA : ∀ q, s.heap.size ≤ q → AL s q := fun _ h => h
  have hbA : ¬ AL s b := Nat.not_le.mpr hbl
  have hx0 := hL.2.2.2.2.2.2.2.1
  obtain ⟨cd, r, s', ⟨hcd, hth, hI1⟩, hB, hCl, hMd⟩ := op_emergency hI (xs (i + 1))
  refine lv_aload_n hx hb (dAt dK_emergency_ok 0 rfl) rfl (lv_at hl 3 rfl) ?_
  refine lw_arg (j := 1) (v := 1) hx hb hX hbl hbA hS hl (List.mem_of_getElem? (i := 4) rfl) (List.mem_of_getElem? (i := 0) rfl) (by omega) hL9 (by decide +kernel) (dAt dK_emergency_ok 1 rfl) (dAt dK_emergency_ok 2 rfl) (dAt dK_emergency_ok 3 rfl) (dAt dK_emergency_ok 4 rfl) (dAt dK_emergency_ok 5 rfl) ?_
  refine lv_aload_n hx hb (dAt dK_emergency_ok 6 rfl) rfl (lv_at hl 1 rfl) ?_
  refine W.eq (g2 := F0 m 853 ls ((([.inr (.inl (0, 0)), .inl (xs (i + 1))] : List VV).map (toV ad) ++ ([.ref o] : List Value)).reverse)) (by rw [← hx0]; rfl) ?_
  refine law_wrap (R := room_1) (cl := cl) (sl := sl) (own := R_law) (n := 3) hx hb hml hts hown hK hA hE hY (w_emergency D X ad (xs (i + 1)) hcd (fun _ => rfl) MS_0 hB ((c_X4_emergency (post := PO cd r (over s')) hst 0 (xs (i + 1)) (over t) hCl).toE)) ⟨LT_in (by decide +kernel) (by decide +kernel), LT_in (by decide +kernel) (by decide +kernel), LT_in (by decide +kernel) (by decide +kernel), LT_in (by decide +kernel) (by decide +kernel)⟩ (by decide +kernel) ⟨by exact Nat.le_of_ble_eq_true rfl, by exact Nat.le_of_ble_eq_true rfl⟩ rfl rfl rfl hL hS hl.1 (by show cl + 1 ≤ 601024; omega) (by show sl + 6 ≤ 7293034; omega) (dAt dK_emergency_ok 7 rfl) (fun ad1 f1 H1 locs1 hL1 hf1 hS1 => ?_)
  refine W.widen (k := cl + 5) (n := sl + 2030) (by omega) (by omega) ?_
  refine lv_istore (lv' := (5, .int (nI cd)) :: LV b x0 m0 o i) hx hb (dAt dK_emergency_ok 8 rfl) hl (by decide) rfl (fun ls1 hl1 => ?_)
  have hm01 := hL1.2.2.2.2.2.2.2.2
  refine lv_aload_n hx hb (dAt dK_emergency_ok 9 rfl) rfl (lv_at hl1 3 rfl) ?_
  refine lw_arg (j := 1) (v := 1) hx hb hX hbl hbA hS1 hl1 (List.mem_of_getElem? (i := 5) rfl) (List.mem_of_getElem? (i := 1) rfl) (by omega) hL9 (by decide +kernel) (dAt dK_emergency_ok 10 rfl) (dAt dK_emergency_ok 11 rfl) (dAt dK_emergency_ok 12 rfl) (dAt dK_emergency_ok 13 rfl) (dAt dK_emergency_ok 14 rfl) ?_
  refine W.eq (g2 := F0 m 865 ls1 ((([.inr (.inl (20, 0)), .inl (xs (i + 1))] : List VV).map (toV ad1)).reverse ++ [])) (by rw [← hm01]; rfl) ?_
  refine law_model (post := PMI cd r s') (n := 1) hC (c_X5_emergency hst 0 (xs (i + 1)) t hMd) ⟨LT_in (by decide +kernel) (by decide +kernel), ws_X5_emergency.1, ws_X5_emergency.2.1, ws_X5_emergency.2.2.1, ws_X5_emergency.2.2.2⟩ (by decide +kernel) ⟨by exact Nat.le_of_ble_eq_true rfl, by exact Nat.le_of_ble_eq_true rfl⟩ rfl rfl rfl rfl rfl hL1 hS1 hl1.1 (rest := []) (by decide) hc hs (dAt dK_emergency_ok 15 rfl) (fun v u1 ad2 ad3 H2 locs2 hp hL2 hS2 => ?_)
  cases v with
  | none => exact hp.elim
  | some v =>
  cases v with
  | inr _ => exact hp.elim
  | inl r2 =>
  have hp : (cd = 0 → r2 = r) ∧ u1 = s' := hp
  obtain ⟨hq9, rfl⟩ := hp
  exact law_tailZ hC dT_emergency (by decide) hcd hth hB hq9 (fun z => hf1 z rfl) hL2 hS2 hl1 hc hs (fun ad4 H3 locs3 ls3 h1 h2 h3 => K _ _ _ _ _ _ _ _ _ _ _ hI1 h1 h2 h3)
theorem dT_pass : dOK (dTi 931 (648)) := by unfold dOK; decide +kernel
def dK_pass : List (Nat × Instr × Nat) := [(908, .aload_n 1, 1), (909, .aload_n 0, 1), (910, .iload 4, 2), (912, .iconst 1, 1), (913, .iadd, 1), (914, .iaload, 1), (915, .aload_n 3, 1), (916, .invokestatic 134, 3), (919, .istore 5, 2), (921, .aload_n 2, 1), (922, .aload_n 0, 1), (923, .iload 4, 2), (925, .iconst 1, 1), (926, .iadd, 1), (927, .iaload, 1), (928, .invokevirtual 136, 3)]
theorem dK_pass_ok : dOK dK_pass := by unfold dOK; decide +kernel
set_option maxHeartbeats 4000000 in
set_option maxRecDepth 100000 in
theorem law_pass (hC : LC p l s m c D X b L xs) (hI : Inv n np nb nz nt tk t) (hn : n < 512) (hi : i + 4 ≤ L) (hL : LSt D X ad (AL s) np nb nz nt t t o f x0 m0 H) (hS : va_S (AL s) s.heap H locs) (hl : lv_has ls 7 (LV b x0 m0 o i)) (hc : cl + 5 ≤ 601024) (hs : sl + 2030 ≤ 7293034) (K : KK p l e s m below meth c Q D X b o x0 m0 i n cl sl) : W p l e room_1 s m #[Value.ref b] below meth c H locs cl sl Q (F0 m 908 ls []) := by
  obtain ⟨hx, hb, hml, hts, hown, hK, hE, hY, hX, hbl, hL9, hst⟩ := id hC
  have hA : ∀ q, s.heap.size ≤ q → AL s q := fun _ h => h
  have hbA : ¬ AL s b := Nat.not_le.mpr hbl
  have hx0 := hL.2.2.2.2.2.2.2.1
  obtain ⟨cd, r, s', tk1, ⟨hcd, hth, hI1⟩, hCl, hMd⟩ := op_pass hI (xs (i + 1))
  refine lv_aload_n hx hb (dAt dK_pass_ok 0 rfl) rfl (lv_at hl 3 rfl) ?_
  refine lw_arg (j := 1) (v := 1) hx hb hX hbl hbA hS hl (List.mem_of_getElem? (i := 4) rfl) (List.mem_of_getElem? (i := 0) rfl) (by omega) hL9 (by decide +kernel) (dAt dK_pass_ok 1 rfl) (dAt dK_pass_ok 2 rfl) (dAt dK_pass_ok 3 rfl) (dAt dK_pass_ok 4 rfl) (dAt dK_pass_ok 5 rfl) ?_
  refine lv_aload_n hx hb (dAt dK_pass_ok 6 rfl) rfl (lv_at hl 1 rfl) ?_
  refine W.eq (g2 := F0 m 916 ls ((([.inr (.inl (0, 0)), .inl (xs (i + 1))] : List VV).map (toV ad) ++ ([.ref o] : List Value)).reverse)) (by rw [← hx0]; rfl) ?_
  refine law_wrap (R := room_1) (cl := cl) (sl := sl) (own := R_law) (n := 3) hx hb hml hts hown hK hA hE hY (w_pass D X ad (xs (i + 1)) hcd (fun _ => rfl) MS_0 ((c_X4_pass (post := PO cd r (over s')) hst 0 (xs (i + 1)) (over t) hCl).toE)) ⟨LT_in (by decide +kernel) (by decide +kernel), LT_in (by decide +kernel) (by decide +kernel), LT_in (by decide +kernel) (by decide +kernel), LT_in (by decide +kernel) (by decide +kernel)⟩ (by decide +kernel) ⟨by exact Nat.le_of_ble_eq_true rfl, by exact Nat.le_of_ble_eq_true rfl⟩ rfl rfl rfl hL hS hl.1 (by show cl + 2 ≤ 601024; omega) (by show sl + 12 ≤ 7293034; omega) (dAt dK_pass_ok 7 rfl) (fun ad1 f1 H1 locs1 hL1 hf1 hS1 => ?_)
  refine W.widen (k := cl + 5) (n := sl + 2030) (by omega) (by omega) ?_
  refine lv_istore (lv' := (5, .int (nI cd)) :: LV b x0 m0 o i) hx hb (dAt dK_pass_ok 8 rfl) hl (by decide) rfl (fun ls1 hl1 => ?_)
  have hm01 := hL1.2.2.2.2.2.2.2.2
  refine lv_aload_n hx hb (dAt dK_pass_ok 9 rfl) rfl (lv_at hl1 3 rfl) ?_
  refine lw_arg (j := 1) (v := 1) hx hb hX hbl hbA hS1 hl1 (List.mem_of_getElem? (i := 5) rfl) (List.mem_of_getElem? (i := 1) rfl) (by omega) hL9 (by decide +kernel) (dAt dK_pass_ok 10 rfl) (dAt dK_pass_ok 11 rfl) (dAt dK_pass_ok 12 rfl) (dAt dK_pass_ok 13 rfl) (dAt dK_pass_ok 14 rfl) ?_
  refine W.eq (g2 := F0 m 928 ls1 ((([.inr (.inl (20, 0)), .inl (xs (i + 1))] : List VV).map (toV ad1)).reverse ++ [])) (by rw [← hm01]; rfl) ?_
  refine law_model (post := PMI cd r s') (n := 1) hC (c_X5_pass hst 0 (xs (i + 1)) t hMd) ⟨LT_in (by decide +kernel) (by decide +kernel), ws_X5_pass.1, ws_X5_pass.2.1, ws_X5_pass.2.2.1, ws_X5_pass.2.2.2⟩ (by decide +kernel) ⟨by exact Nat.le_of_ble_eq_true rfl, by exact Nat.le_of_ble_eq_true rfl⟩ rfl rfl rfl rfl rfl hL1 hS1 hl1.1 (rest := []) (by decide) hc hs (dAt dK_pass_ok 15 rfl) (fun v u1 ad2 ad3 H2 locs2 hp hL2 hS2 => ?_)
  cases v with
  | none => exact hp.elim
  | some v =>
  cases v with
  | inr _ => exact hp.elim
  | inl r2 =>
  have hp : (cd = 0 → r2 = r) ∧ u1 = s' := hp
  obtain ⟨hq9, rfl⟩ := hp
  exact law_tailI hC dT_pass (by decide) hcd hth hq9 (fun z => hf1 z rfl) hL2 hS2 hl1 hc hs (fun ad4 H3 locs3 ls3 h1 h2 h3 => K _ _ _ _ _ _ _ _ _ _ _ hI1 h1 h2 h3)
theorem dT_stop : dOK (dTv 998 (600)) := by unfold dOK; decide +kernel
def dK_stop : List (Nat × Instr × Nat) := [(964, .aload_n 1, 1), (965, .aload_n 0, 1), (966, .iload 4, 2), (968, .iconst 1, 1), (969, .iadd, 1), (970, .iaload, 1), (971, .aload_n 0, 1), (972, .iload 4, 2), (974, .iconst 2, 1), (975, .iadd, 1), (976, .iaload, 1), (977, .invokestatic 137, 3), (980, .istore 5, 2), (982, .aload_n 2, 1), (983, .aload_n 0, 1), (984, .iload 4, 2), (986, .iconst 1, 1), (987, .iadd, 1), (988, .iaload, 1), (989, .aload_n 0, 1), (990, .iload 4, 2), (992, .iconst 2, 1), (993, .iadd, 1), (994, .iaload, 1), (995, .invokevirtual 140, 3)]
theorem dK_stop_ok : dOK dK_stop := by unfold dOK; decide +kernel
set_option maxHeartbeats 4000000 in
set_option maxRecDepth 100000 in
theorem law_stop (hC : LC p l s m c D X b L xs) (hI : Inv n np nb nz nt tk t) (hn : n < 512) (hi : i + 4 ≤ L) (hL : LSt D X ad (AL s) np nb nz nt t t o f x0 m0 H) (hS : va_S (AL s) s.heap H locs) (hl : lv_has ls 7 (LV b x0 m0 o i)) (hc : cl + 5 ≤ 601024) (hs : sl + 2030 ≤ 7293034) (K : KK p l e s m below meth c Q D X b o x0 m0 i n cl sl) : W p l e room_1 s m #[Value.ref b] below meth c H locs cl sl Q (F0 m 964 ls []) := by
  obtain ⟨hx, hb, hml, hts, hown, hK, hE, hY, hX, hbl, hL9, hst⟩ := id hC
  have hA : ∀ q, s.heap.size ≤ q → AL s q := fun _ h => h
  have hbA : ¬ AL s b := Nat.not_le.mpr hbl
  have hx0 := hL.2.2.2.2.2.2.2.1
  obtain ⟨cd, s', ⟨hcd, hth, hI1⟩, hCl, hMd⟩ := op_stop hI (xs (i + 1)) (xs (i + 2))
  refine lv_aload_n hx hb (dAt dK_stop_ok 0 rfl) rfl (lv_at hl 3 rfl) ?_
  refine lw_arg (j := 1) (v := 1) hx hb hX hbl hbA hS hl (List.mem_of_getElem? (i := 4) rfl) (List.mem_of_getElem? (i := 0) rfl) (by omega) hL9 (by decide +kernel) (dAt dK_stop_ok 1 rfl) (dAt dK_stop_ok 2 rfl) (dAt dK_stop_ok 3 rfl) (dAt dK_stop_ok 4 rfl) (dAt dK_stop_ok 5 rfl) ?_
  refine lw_arg (j := 2) (v := 2) hx hb hX hbl hbA hS hl (List.mem_of_getElem? (i := 4) rfl) (List.mem_of_getElem? (i := 0) rfl) (by omega) hL9 (by decide +kernel) (dAt dK_stop_ok 6 rfl) (dAt dK_stop_ok 7 rfl) (dAt dK_stop_ok 8 rfl) (dAt dK_stop_ok 9 rfl) (dAt dK_stop_ok 10 rfl) ?_
  refine W.eq (g2 := F0 m 977 ls ((([.inr (.inl (0, 0)), .inl (xs (i + 1)), .inl (xs (i + 2))] : List VV).map (toV ad) ++ ([] : List Value)).reverse)) (by rw [← hx0]; rfl) ?_
  refine law_wrap (R := room_1) (cl := cl) (sl := sl) (own := R_law) (n := 3) hx hb hml hts hown hK hA hE hY (w_stop (r := 0) D X ad (xs (i + 1)) (xs (i + 2)) hcd (fun _ => rfl) MS_0 ((c_X4_stop (post := PV cd (over s')) hst 0 (xs (i + 1)) (xs (i + 2)) (over t) hCl).toE)) ⟨LT_in (by decide +kernel) (by decide +kernel), LT_in (by decide +kernel) (by decide +kernel), LT_in (by decide +kernel) (by decide +kernel), LT_in (by decide +kernel) (by decide +kernel)⟩ (by decide +kernel) ⟨by exact Nat.le_of_ble_eq_true rfl, by exact Nat.le_of_ble_eq_true rfl⟩ rfl rfl rfl hL hS hl.1 (by show cl + 3 ≤ 601024; omega) (by show sl + 18 ≤ 7293034; omega) (dAt dK_stop_ok 11 rfl) (fun ad1 f1 H1 locs1 hL1 hf1 hS1 => ?_)
  refine W.widen (k := cl + 5) (n := sl + 2030) (by omega) (by omega) ?_
  refine lv_istore (lv' := (5, .int (nI cd)) :: LV b x0 m0 o i) hx hb (dAt dK_stop_ok 12 rfl) hl (by decide) rfl (fun ls1 hl1 => ?_)
  have hm01 := hL1.2.2.2.2.2.2.2.2
  refine lv_aload_n hx hb (dAt dK_stop_ok 13 rfl) rfl (lv_at hl1 3 rfl) ?_
  refine lw_arg (j := 1) (v := 1) hx hb hX hbl hbA hS1 hl1 (List.mem_of_getElem? (i := 5) rfl) (List.mem_of_getElem? (i := 1) rfl) (by omega) hL9 (by decide +kernel) (dAt dK_stop_ok 14 rfl) (dAt dK_stop_ok 15 rfl) (dAt dK_stop_ok 16 rfl) (dAt dK_stop_ok 17 rfl) (dAt dK_stop_ok 18 rfl) ?_
  refine lw_arg (j := 2) (v := 2) hx hb hX hbl hbA hS1 hl1 (List.mem_of_getElem? (i := 5) rfl) (List.mem_of_getElem? (i := 1) rfl) (by omega) hL9 (by decide +kernel) (dAt dK_stop_ok 19 rfl) (dAt dK_stop_ok 20 rfl) (dAt dK_stop_ok 21 rfl) (dAt dK_stop_ok 22 rfl) (dAt dK_stop_ok 23 rfl) ?_
  refine W.eq (g2 := F0 m 995 ls1 ((([.inr (.inl (20, 0)), .inl (xs (i + 1)), .inl (xs (i + 2))] : List VV).map (toV ad1)).reverse ++ [])) (by rw [← hm01]; rfl) ?_
  refine law_model (post := PMV s') (n := 2) hC (c_X5_stop hst 0 (xs (i + 1)) (xs (i + 2)) t hMd) ⟨LT_in (by decide +kernel) (by decide +kernel), ws_X5_stop.1, ws_X5_stop.2.1, ws_X5_stop.2.2.1, ws_X5_stop.2.2.2⟩ (by decide +kernel) ⟨by exact Nat.le_of_ble_eq_true rfl, by exact Nat.le_of_ble_eq_true rfl⟩ rfl rfl rfl rfl rfl hL1 hS1 hl1.1 (rest := []) (by decide) hc hs (dAt dK_stop_ok 24 rfl) (fun v u1 ad2 ad3 H2 locs2 hp hL2 hS2 => ?_)
  cases v with
  | some v => exact hp.elim
  | none =>
  have hp : u1 = s' := hp
  subst hp
  exact law_tailV hC dT_stop (by decide) hth hL2 hS2 hl1 hc hs (fun ad4 H3 locs3 ls3 h1 h2 h3 => K _ _ _ _ _ _ _ _ _ _ _ hI1 h1 h2 h3)
theorem dT_bar : dOK (dTi 1075 (504)) := by unfold dOK; decide +kernel
def dK_bar : List (Nat × Instr × Nat) := [(1012, .aload_n 1, 1), (1013, .aload_n 0, 1), (1014, .iload 4, 2), (1016, .iconst 1, 1), (1017, .iadd, 1), (1018, .iaload, 1), (1019, .ifCond .eq 7, 3), (1022, .iconst 1, 1), (1023, .goto 4, 3), (1026, .iconst 0, 1), (1027, .aload_n 0, 1), (1028, .iload 4, 2), (1030, .iconst 2, 1), (1031, .iadd, 1), (1032, .iaload, 1), (1033, .aload_n 0, 1), (1034, .iload 4, 2), (1036, .iconst 3, 1), (1037, .iadd, 1), (1038, .iaload, 1), (1039, .aload_n 3, 1), (1040, .invokestatic 141, 3), (1043, .istore 5, 2), (1045, .aload_n 2, 1), (1046, .aload_n 0, 1), (1047, .iload 4, 2), (1049, .iconst 1, 1), (1050, .iadd, 1), (1051, .iaload, 1), (1052, .ifCond .eq 7, 3), (1055, .iconst 1, 1), (1056, .goto 4, 3), (1059, .iconst 0, 1), (1060, .aload_n 0, 1), (1061, .iload 4, 2), (1063, .iconst 2, 1), (1064, .iadd, 1), (1065, .iaload, 1), (1066, .aload_n 0, 1), (1067, .iload 4, 2), (1069, .iconst 3, 1), (1070, .iadd, 1), (1071, .iaload, 1), (1072, .invokevirtual 144, 3)]
theorem dK_bar_ok : dOK dK_bar := by unfold dOK; decide +kernel
set_option maxHeartbeats 4000000 in
set_option maxRecDepth 100000 in
theorem law_bar (hC : LC p l s m c D X b L xs) (hI : Inv n np nb nz nt tk t) (hn : n < 512) (hi : i + 4 ≤ L) (hL : LSt D X ad (AL s) np nb nz nt t t o f x0 m0 H) (hS : va_S (AL s) s.heap H locs) (hl : lv_has ls 7 (LV b x0 m0 o i)) (hc : cl + 5 ≤ 601024) (hs : sl + 2030 ≤ 7293034) (K : KK p l e s m below meth c Q D X b o x0 m0 i n cl sl) : W p l e room_1 s m #[Value.ref b] below meth c H locs cl sl Q (F0 m 1012 ls []) := by
  obtain ⟨hx, hb, hml, hts, hown, hK, hE, hY, hX, hbl, hL9, hst⟩ := id hC
  have hA : ∀ q, s.heap.size ≤ q → AL s q := fun _ h => h
  have hbA : ¬ AL s b := Nat.not_le.mpr hbl
  have hx0 := hL.2.2.2.2.2.2.2.1
  obtain ⟨cd, r, s', ⟨hcd, hth, hI1⟩, hCl, hMd⟩ := op_bar hI (bz (xs (i + 1))) (xs (i + 2)) (xs (i + 3)) (bz_B _)
  refine lv_aload_n hx hb (dAt dK_bar_ok 0 rfl) rfl (lv_at hl 3 rfl) ?_
  refine lw_arg (j := 1) (v := 1) hx hb hX hbl hbA hS hl (List.mem_of_getElem? (i := 4) rfl) (List.mem_of_getElem? (i := 0) rfl) (by omega) hL9 (by decide +kernel) (dAt dK_bar_ok 1 rfl) (dAt dK_bar_ok 2 rfl) (dAt dK_bar_ok 3 rfl) (dAt dK_bar_ok 4 rfl) (dAt dK_bar_ok 5 rfl) ?_
  refine lw_bool hx hb (dAt dK_bar_ok 6 rfl) (dAt dK_bar_ok 7 rfl) (dAt dK_bar_ok 8 rfl) (dAt dK_bar_ok 9 rfl) ?_
  refine lw_arg (j := 2) (v := 2) hx hb hX hbl hbA hS hl (List.mem_of_getElem? (i := 4) rfl) (List.mem_of_getElem? (i := 0) rfl) (by omega) hL9 (by decide +kernel) (dAt dK_bar_ok 10 rfl) (dAt dK_bar_ok 11 rfl) (dAt dK_bar_ok 12 rfl) (dAt dK_bar_ok 13 rfl) (dAt dK_bar_ok 14 rfl) ?_
  refine lw_arg (j := 3) (v := 3) hx hb hX hbl hbA hS hl (List.mem_of_getElem? (i := 4) rfl) (List.mem_of_getElem? (i := 0) rfl) (by omega) hL9 (by decide +kernel) (dAt dK_bar_ok 15 rfl) (dAt dK_bar_ok 16 rfl) (dAt dK_bar_ok 17 rfl) (dAt dK_bar_ok 18 rfl) (dAt dK_bar_ok 19 rfl) ?_
  refine lv_aload_n hx hb (dAt dK_bar_ok 20 rfl) rfl (lv_at hl 1 rfl) ?_
  refine W.eq (g2 := F0 m 1040 ls ((([.inr (.inl (0, 0)), .inl (bz (xs (i + 1))), .inl (xs (i + 2)), .inl (xs (i + 3))] : List VV).map (toV ad) ++ ([.ref o] : List Value)).reverse)) (by rw [← hx0]; rfl) ?_
  refine law_wrap (R := room_1) (cl := cl) (sl := sl) (own := R_law) (n := 5) hx hb hml hts hown hK hA hE hY (w_bar D X ad (bz (xs (i + 1))) (xs (i + 2)) (xs (i + 3)) hcd (fun _ => rfl) MS_0 ((c_X4_bar (post := PO cd r (over s')) hst 0 (bz (xs (i + 1))) (xs (i + 2)) (xs (i + 3)) (over t) hCl).toE)) ⟨LT_in (by decide +kernel) (by decide +kernel), LT_in (by decide +kernel) (by decide +kernel), LT_in (by decide +kernel) (by decide +kernel), LT_in (by decide +kernel) (by decide +kernel)⟩ (by decide +kernel) ⟨by exact Nat.le_of_ble_eq_true rfl, by exact Nat.le_of_ble_eq_true rfl⟩ rfl rfl rfl hL hS hl.1 (by show cl + 2 ≤ 601024; omega) (by show sl + 12 ≤ 7293034; omega) (dAt dK_bar_ok 21 rfl) (fun ad1 f1 H1 locs1 hL1 hf1 hS1 => ?_)
  refine W.widen (k := cl + 5) (n := sl + 2030) (by omega) (by omega) ?_
  refine lv_istore (lv' := (5, .int (nI cd)) :: LV b x0 m0 o i) hx hb (dAt dK_bar_ok 22 rfl) hl (by decide) rfl (fun ls1 hl1 => ?_)
  have hm01 := hL1.2.2.2.2.2.2.2.2
  refine lv_aload_n hx hb (dAt dK_bar_ok 23 rfl) rfl (lv_at hl1 3 rfl) ?_
  refine lw_arg (j := 1) (v := 1) hx hb hX hbl hbA hS1 hl1 (List.mem_of_getElem? (i := 5) rfl) (List.mem_of_getElem? (i := 1) rfl) (by omega) hL9 (by decide +kernel) (dAt dK_bar_ok 24 rfl) (dAt dK_bar_ok 25 rfl) (dAt dK_bar_ok 26 rfl) (dAt dK_bar_ok 27 rfl) (dAt dK_bar_ok 28 rfl) ?_
  refine lw_bool hx hb (dAt dK_bar_ok 29 rfl) (dAt dK_bar_ok 30 rfl) (dAt dK_bar_ok 31 rfl) (dAt dK_bar_ok 32 rfl) ?_
  refine lw_arg (j := 2) (v := 2) hx hb hX hbl hbA hS1 hl1 (List.mem_of_getElem? (i := 5) rfl) (List.mem_of_getElem? (i := 1) rfl) (by omega) hL9 (by decide +kernel) (dAt dK_bar_ok 33 rfl) (dAt dK_bar_ok 34 rfl) (dAt dK_bar_ok 35 rfl) (dAt dK_bar_ok 36 rfl) (dAt dK_bar_ok 37 rfl) ?_
  refine lw_arg (j := 3) (v := 3) hx hb hX hbl hbA hS1 hl1 (List.mem_of_getElem? (i := 5) rfl) (List.mem_of_getElem? (i := 1) rfl) (by omega) hL9 (by decide +kernel) (dAt dK_bar_ok 38 rfl) (dAt dK_bar_ok 39 rfl) (dAt dK_bar_ok 40 rfl) (dAt dK_bar_ok 41 rfl) (dAt dK_bar_ok 42 rfl) ?_
  refine W.eq (g2 := F0 m 1072 ls1 ((([.inr (.inl (20, 0)), .inl (bz (xs (i + 1))), .inl (xs (i + 2)), .inl (xs (i + 3))] : List VV).map (toV ad1)).reverse ++ [])) (by rw [← hm01]; rfl) ?_
  refine law_model (post := PMI cd r s') (n := 3) hC (c_X5_bar hst 0 (bz (xs (i + 1))) (xs (i + 2)) (xs (i + 3)) t hMd) ⟨LT_in (by decide +kernel) (by decide +kernel), ws_X5_bar.1, ws_X5_bar.2.1, ws_X5_bar.2.2.1, ws_X5_bar.2.2.2⟩ (by decide +kernel) ⟨by exact Nat.le_of_ble_eq_true rfl, by exact Nat.le_of_ble_eq_true rfl⟩ rfl rfl rfl rfl rfl hL1 hS1 hl1.1 (rest := []) (by decide) hc hs (dAt dK_bar_ok 43 rfl) (fun v u1 ad2 ad3 H2 locs2 hp hL2 hS2 => ?_)
  cases v with
  | none => exact hp.elim
  | some v =>
  cases v with
  | inr _ => exact hp.elim
  | inl r2 =>
  have hp : (cd = 0 → r2 = r) ∧ u1 = s' := hp
  obtain ⟨hq9, rfl⟩ := hp
  exact law_tailI hC dT_bar (by decide) hcd hth hq9 (fun z => hf1 z rfl) hL2 hS2 hl1 hc hs (fun ad4 H3 locs3 ls3 h1 h2 h3 => K _ _ _ _ _ _ _ _ _ _ _ hI1 h1 h2 h3)
theorem dT_open : dOK (dTi 1143 (436)) := by unfold dOK; decide +kernel
def dK_open : List (Nat × Instr × Nat) := [(1108, .aload_n 1, 1), (1109, .aload_n 0, 1), (1110, .iload 4, 2), (1112, .iconst 1, 1), (1113, .iadd, 1), (1114, .iaload, 1), (1115, .aload_n 0, 1), (1116, .iload 4, 2), (1118, .iconst 2, 1), (1119, .iadd, 1), (1120, .iaload, 1), (1121, .aload_n 3, 1), (1122, .invokestatic 145, 3), (1125, .istore 5, 2), (1127, .aload_n 2, 1), (1128, .aload_n 0, 1), (1129, .iload 4, 2), (1131, .iconst 1, 1), (1132, .iadd, 1), (1133, .iaload, 1), (1134, .aload_n 0, 1), (1135, .iload 4, 2), (1137, .iconst 2, 1), (1138, .iadd, 1), (1139, .iaload, 1), (1140, .invokevirtual 147, 3)]
theorem dK_open_ok : dOK dK_open := by unfold dOK; decide +kernel
set_option maxHeartbeats 4000000 in
set_option maxRecDepth 100000 in
theorem law_open (hC : LC p l s m c D X b L xs) (hI : Inv n np nb nz nt tk t) (hn : n < 512) (hi : i + 4 ≤ L) (hL : LSt D X ad (AL s) np nb nz nt t t o f x0 m0 H) (hS : va_S (AL s) s.heap H locs) (hl : lv_has ls 7 (LV b x0 m0 o i)) (hc : cl + 5 ≤ 601024) (hs : sl + 2030 ≤ 7293034) (K : KK p l e s m below meth c Q D X b o x0 m0 i n cl sl) : W p l e room_1 s m #[Value.ref b] below meth c H locs cl sl Q (F0 m 1108 ls []) := by
  obtain ⟨hx, hb, hml, hts, hown, hK, hE, hY, hX, hbl, hL9, hst⟩ := id hC
  have hA : ∀ q, s.heap.size ≤ q → AL s q := fun _ h => h
  have hbA : ¬ AL s b := Nat.not_le.mpr hbl
  have hx0 := hL.2.2.2.2.2.2.2.1
  obtain ⟨cd, r, s', ⟨hcd, hth, hI1⟩, hCl, hMd⟩ := op_open hI (xs (i + 1)) (xs (i + 2))
  refine lv_aload_n hx hb (dAt dK_open_ok 0 rfl) rfl (lv_at hl 3 rfl) ?_
  refine lw_arg (j := 1) (v := 1) hx hb hX hbl hbA hS hl (List.mem_of_getElem? (i := 4) rfl) (List.mem_of_getElem? (i := 0) rfl) (by omega) hL9 (by decide +kernel) (dAt dK_open_ok 1 rfl) (dAt dK_open_ok 2 rfl) (dAt dK_open_ok 3 rfl) (dAt dK_open_ok 4 rfl) (dAt dK_open_ok 5 rfl) ?_
  refine lw_arg (j := 2) (v := 2) hx hb hX hbl hbA hS hl (List.mem_of_getElem? (i := 4) rfl) (List.mem_of_getElem? (i := 0) rfl) (by omega) hL9 (by decide +kernel) (dAt dK_open_ok 6 rfl) (dAt dK_open_ok 7 rfl) (dAt dK_open_ok 8 rfl) (dAt dK_open_ok 9 rfl) (dAt dK_open_ok 10 rfl) ?_
  refine lv_aload_n hx hb (dAt dK_open_ok 11 rfl) rfl (lv_at hl 1 rfl) ?_
  refine W.eq (g2 := F0 m 1122 ls ((([.inr (.inl (0, 0)), .inl (xs (i + 1)), .inl (xs (i + 2))] : List VV).map (toV ad) ++ ([.ref o] : List Value)).reverse)) (by rw [← hx0]; rfl) ?_
  refine law_wrap (R := room_1) (cl := cl) (sl := sl) (own := R_law) (n := 4) hx hb hml hts hown hK hA hE hY (w_open D X ad (xs (i + 1)) (xs (i + 2)) hcd (fun _ => rfl) MS_0 ((c_X4_open (post := PO cd r (over s')) hst 0 (xs (i + 1)) (xs (i + 2)) (over t) hCl).toE)) ⟨LT_in (by decide +kernel) (by decide +kernel), LT_in (by decide +kernel) (by decide +kernel), LT_in (by decide +kernel) (by decide +kernel), LT_in (by decide +kernel) (by decide +kernel)⟩ (by decide +kernel) ⟨by exact Nat.le_of_ble_eq_true rfl, by exact Nat.le_of_ble_eq_true rfl⟩ rfl rfl rfl hL hS hl.1 (by show cl + 3 ≤ 601024; omega) (by show sl + 18 ≤ 7293034; omega) (dAt dK_open_ok 12 rfl) (fun ad1 f1 H1 locs1 hL1 hf1 hS1 => ?_)
  refine W.widen (k := cl + 5) (n := sl + 2030) (by omega) (by omega) ?_
  refine lv_istore (lv' := (5, .int (nI cd)) :: LV b x0 m0 o i) hx hb (dAt dK_open_ok 13 rfl) hl (by decide) rfl (fun ls1 hl1 => ?_)
  have hm01 := hL1.2.2.2.2.2.2.2.2
  refine lv_aload_n hx hb (dAt dK_open_ok 14 rfl) rfl (lv_at hl1 3 rfl) ?_
  refine lw_arg (j := 1) (v := 1) hx hb hX hbl hbA hS1 hl1 (List.mem_of_getElem? (i := 5) rfl) (List.mem_of_getElem? (i := 1) rfl) (by omega) hL9 (by decide +kernel) (dAt dK_open_ok 15 rfl) (dAt dK_open_ok 16 rfl) (dAt dK_open_ok 17 rfl) (dAt dK_open_ok 18 rfl) (dAt dK_open_ok 19 rfl) ?_
  refine lw_arg (j := 2) (v := 2) hx hb hX hbl hbA hS1 hl1 (List.mem_of_getElem? (i := 5) rfl) (List.mem_of_getElem? (i := 1) rfl) (by omega) hL9 (by decide +kernel) (dAt dK_open_ok 20 rfl) (dAt dK_open_ok 21 rfl) (dAt dK_open_ok 22 rfl) (dAt dK_open_ok 23 rfl) (dAt dK_open_ok 24 rfl) ?_
  refine W.eq (g2 := F0 m 1140 ls1 ((([.inr (.inl (20, 0)), .inl (xs (i + 1)), .inl (xs (i + 2))] : List VV).map (toV ad1)).reverse ++ [])) (by rw [← hm01]; rfl) ?_
  refine law_model (post := PMI cd r s') (n := 2) hC (c_X5_open hst 0 (xs (i + 1)) (xs (i + 2)) t hMd) ⟨LT_in (by decide +kernel) (by decide +kernel), ws_X5_open.1, ws_X5_open.2.1, ws_X5_open.2.2.1, ws_X5_open.2.2.2⟩ (by decide +kernel) ⟨by exact Nat.le_of_ble_eq_true rfl, by exact Nat.le_of_ble_eq_true rfl⟩ rfl rfl rfl rfl rfl hL1 hS1 hl1.1 (rest := []) (by decide) hc hs (dAt dK_open_ok 25 rfl) (fun v u1 ad2 ad3 H2 locs2 hp hL2 hS2 => ?_)
  cases v with
  | none => exact hp.elim
  | some v =>
  cases v with
  | inr _ => exact hp.elim
  | inl r2 =>
  have hp : (cd = 0 → r2 = r) ∧ u1 = s' := hp
  obtain ⟨hq9, rfl⟩ := hp
  exact law_tailI hC dT_open (by decide) hcd hth hq9 (fun z => hf1 z rfl) hL2 hS2 hl1 hc hs (fun ad4 H3 locs3 ls3 h1 h2 h3 => K _ _ _ _ _ _ _ _ _ _ _ hI1 h1 h2 h3)
theorem dT_shut : dOK (dTv 1198 (400)) := by unfold dOK; decide +kernel
def dK_shut : List (Nat × Instr × Nat) := [(1176, .aload_n 1, 1), (1177, .aload_n 0, 1), (1178, .iload 4, 2), (1180, .iconst 1, 1), (1181, .iadd, 1), (1182, .iaload, 1), (1183, .invokestatic 148, 3), (1186, .istore 5, 2), (1188, .aload_n 2, 1), (1189, .aload_n 0, 1), (1190, .iload 4, 2), (1192, .iconst 1, 1), (1193, .iadd, 1), (1194, .iaload, 1), (1195, .invokevirtual 151, 3)]
theorem dK_shut_ok : dOK dK_shut := by unfold dOK; decide +kernel
set_option maxHeartbeats 4000000 in
set_option maxRecDepth 100000 in
theorem law_shut (hC : LC p l s m c D X b L xs) (hI : Inv n np nb nz nt tk t) (hn : n < 512) (hi : i + 4 ≤ L) (hL : LSt D X ad (AL s) np nb nz nt t t o f x0 m0 H) (hS : va_S (AL s) s.heap H locs) (hl : lv_has ls 7 (LV b x0 m0 o i)) (hc : cl + 5 ≤ 601024) (hs : sl + 2030 ≤ 7293034) (K : KK p l e s m below meth c Q D X b o x0 m0 i n cl sl) : W p l e room_1 s m #[Value.ref b] below meth c H locs cl sl Q (F0 m 1176 ls []) := by
  obtain ⟨hx, hb, hml, hts, hown, hK, hE, hY, hX, hbl, hL9, hst⟩ := id hC
  have hA : ∀ q, s.heap.size ≤ q → AL s q := fun _ h => h
  have hbA : ¬ AL s b := Nat.not_le.mpr hbl
  have hx0 := hL.2.2.2.2.2.2.2.1
  obtain ⟨cd, s', ⟨hcd, hth, hI1⟩, hCl, hMd⟩ := op_shut hI (xs (i + 1))
  refine lv_aload_n hx hb (dAt dK_shut_ok 0 rfl) rfl (lv_at hl 3 rfl) ?_
  refine lw_arg (j := 1) (v := 1) hx hb hX hbl hbA hS hl (List.mem_of_getElem? (i := 4) rfl) (List.mem_of_getElem? (i := 0) rfl) (by omega) hL9 (by decide +kernel) (dAt dK_shut_ok 1 rfl) (dAt dK_shut_ok 2 rfl) (dAt dK_shut_ok 3 rfl) (dAt dK_shut_ok 4 rfl) (dAt dK_shut_ok 5 rfl) ?_
  refine W.eq (g2 := F0 m 1183 ls ((([.inr (.inl (0, 0)), .inl (xs (i + 1))] : List VV).map (toV ad) ++ ([] : List Value)).reverse)) (by rw [← hx0]; rfl) ?_
  refine law_wrap (R := room_1) (cl := cl) (sl := sl) (own := R_law) (n := 2) hx hb hml hts hown hK hA hE hY (w_shut (r := 0) D X ad (xs (i + 1)) hcd (fun _ => rfl) MS_0 ((c_X4_shut (post := PV cd (over s')) hst 0 (xs (i + 1)) (over t) hCl).toE)) ⟨LT_in (by decide +kernel) (by decide +kernel), LT_in (by decide +kernel) (by decide +kernel), LT_in (by decide +kernel) (by decide +kernel), LT_in (by decide +kernel) (by decide +kernel)⟩ (by decide +kernel) ⟨by exact Nat.le_of_ble_eq_true rfl, by exact Nat.le_of_ble_eq_true rfl⟩ rfl rfl rfl hL hS hl.1 (by show cl + 2 ≤ 601024; omega) (by show sl + 12 ≤ 7293034; omega) (dAt dK_shut_ok 6 rfl) (fun ad1 f1 H1 locs1 hL1 hf1 hS1 => ?_)
  refine W.widen (k := cl + 5) (n := sl + 2030) (by omega) (by omega) ?_
  refine lv_istore (lv' := (5, .int (nI cd)) :: LV b x0 m0 o i) hx hb (dAt dK_shut_ok 7 rfl) hl (by decide) rfl (fun ls1 hl1 => ?_)
  have hm01 := hL1.2.2.2.2.2.2.2.2
  refine lv_aload_n hx hb (dAt dK_shut_ok 8 rfl) rfl (lv_at hl1 3 rfl) ?_
  refine lw_arg (j := 1) (v := 1) hx hb hX hbl hbA hS1 hl1 (List.mem_of_getElem? (i := 5) rfl) (List.mem_of_getElem? (i := 1) rfl) (by omega) hL9 (by decide +kernel) (dAt dK_shut_ok 9 rfl) (dAt dK_shut_ok 10 rfl) (dAt dK_shut_ok 11 rfl) (dAt dK_shut_ok 12 rfl) (dAt dK_shut_ok 13 rfl) ?_
  refine W.eq (g2 := F0 m 1195 ls1 ((([.inr (.inl (20, 0)), .inl (xs (i + 1))] : List VV).map (toV ad1)).reverse ++ [])) (by rw [← hm01]; rfl) ?_
  refine law_model (post := PMV s') (n := 1) hC (c_X5_shut hst 0 (xs (i + 1)) t hMd) ⟨LT_in (by decide +kernel) (by decide +kernel), ws_X5_shut.1, ws_X5_shut.2.1, ws_X5_shut.2.2.1, ws_X5_shut.2.2.2⟩ (by decide +kernel) ⟨by exact Nat.le_of_ble_eq_true rfl, by exact Nat.le_of_ble_eq_true rfl⟩ rfl rfl rfl rfl rfl hL1 hS1 hl1.1 (rest := []) (by decide) hc hs (dAt dK_shut_ok 14 rfl) (fun v u1 ad2 ad3 H2 locs2 hp hL2 hS2 => ?_)
  cases v with
  | some v => exact hp.elim
  | none =>
  have hp : u1 = s' := hp
  subst hp
  exact law_tailV hC dT_shut (by decide) hth hL2 hS2 hl1 hc hs (fun ad4 H3 locs3 ls3 h1 h2 h3 => K _ _ _ _ _ _ _ _ _ _ _ hI1 h1 h2 h3)
theorem dT_hold : dOK (dTi 1247 (332)) := by unfold dOK; decide +kernel
def dK_hold : List (Nat × Instr × Nat) := [(1212, .aload_n 1, 1), (1213, .aload_n 0, 1), (1214, .iload 4, 2), (1216, .iconst 1, 1), (1217, .iadd, 1), (1218, .iaload, 1), (1219, .aload_n 0, 1), (1220, .iload 4, 2), (1222, .iconst 2, 1), (1223, .iadd, 1), (1224, .iaload, 1), (1225, .aload_n 3, 1), (1226, .invokestatic 152, 3), (1229, .istore 5, 2), (1231, .aload_n 2, 1), (1232, .aload_n 0, 1), (1233, .iload 4, 2), (1235, .iconst 1, 1), (1236, .iadd, 1), (1237, .iaload, 1), (1238, .aload_n 0, 1), (1239, .iload 4, 2), (1241, .iconst 2, 1), (1242, .iadd, 1), (1243, .iaload, 1), (1244, .invokevirtual 154, 3)]
theorem dK_hold_ok : dOK dK_hold := by unfold dOK; decide +kernel
set_option maxHeartbeats 4000000 in
set_option maxRecDepth 100000 in
theorem law_hold (hC : LC p l s m c D X b L xs) (hI : Inv n np nb nz nt tk t) (hn : n < 512) (hi : i + 4 ≤ L) (hL : LSt D X ad (AL s) np nb nz nt t t o f x0 m0 H) (hS : va_S (AL s) s.heap H locs) (hl : lv_has ls 7 (LV b x0 m0 o i)) (hc : cl + 5 ≤ 601024) (hs : sl + 2030 ≤ 7293034) (K : KK p l e s m below meth c Q D X b o x0 m0 i n cl sl) : W p l e room_1 s m #[Value.ref b] below meth c H locs cl sl Q (F0 m 1212 ls []) := by
  obtain ⟨hx, hb, hml, hts, hown, hK, hE, hY, hX, hbl, hL9, hst⟩ := id hC
  have hA : ∀ q, s.heap.size ≤ q → AL s q := fun _ h => h
  have hbA : ¬ AL s b := Nat.not_le.mpr hbl
  have hx0 := hL.2.2.2.2.2.2.2.1
  obtain ⟨cd, r, s', ⟨hcd, hth, hI1⟩, hCl, hMd⟩ := op_hold hI (xs (i + 1)) (xs (i + 2))
  refine lv_aload_n hx hb (dAt dK_hold_ok 0 rfl) rfl (lv_at hl 3 rfl) ?_
  refine lw_arg (j := 1) (v := 1) hx hb hX hbl hbA hS hl (List.mem_of_getElem? (i := 4) rfl) (List.mem_of_getElem? (i := 0) rfl) (by omega) hL9 (by decide +kernel) (dAt dK_hold_ok 1 rfl) (dAt dK_hold_ok 2 rfl) (dAt dK_hold_ok 3 rfl) (dAt dK_hold_ok 4 rfl) (dAt dK_hold_ok 5 rfl) ?_
  refine lw_arg (j := 2) (v := 2) hx hb hX hbl hbA hS hl (List.mem_of_getElem? (i := 4) rfl) (List.mem_of_getElem? (i := 0) rfl) (by omega) hL9 (by decide +kernel) (dAt dK_hold_ok 6 rfl) (dAt dK_hold_ok 7 rfl) (dAt dK_hold_ok 8 rfl) (dAt dK_hold_ok 9 rfl) (dAt dK_hold_ok 10 rfl) ?_
  refine lv_aload_n hx hb (dAt dK_hold_ok 11 rfl) rfl (lv_at hl 1 rfl) ?_
  refine W.eq (g2 := F0 m 1226 ls ((([.inr (.inl (0, 0)), .inl (xs (i + 1)), .inl (xs (i + 2))] : List VV).map (toV ad) ++ ([.ref o] : List Value)).reverse)) (by rw [← hx0]; rfl) ?_
  refine law_wrap (R := room_1) (cl := cl) (sl := sl) (own := R_law) (n := 4) hx hb hml hts hown hK hA hE hY (w_hold D X ad (xs (i + 1)) (xs (i + 2)) hcd (fun _ => rfl) MS_0 ((c_X4_hold (post := PO cd r (over s')) hst 0 (xs (i + 1)) (xs (i + 2)) (over t) hCl).toE)) ⟨LT_in (by decide +kernel) (by decide +kernel), LT_in (by decide +kernel) (by decide +kernel), LT_in (by decide +kernel) (by decide +kernel), LT_in (by decide +kernel) (by decide +kernel)⟩ (by decide +kernel) ⟨by exact Nat.le_of_ble_eq_true rfl, by exact Nat.le_of_ble_eq_true rfl⟩ rfl rfl rfl hL hS hl.1 (by show cl + 3 ≤ 601024; omega) (by show sl + 18 ≤ 7293034; omega) (dAt dK_hold_ok 12 rfl) (fun ad1 f1 H1 locs1 hL1 hf1 hS1 => ?_)
  refine W.widen (k := cl + 5) (n := sl + 2030) (by omega) (by omega) ?_
  refine lv_istore (lv' := (5, .int (nI cd)) :: LV b x0 m0 o i) hx hb (dAt dK_hold_ok 13 rfl) hl (by decide) rfl (fun ls1 hl1 => ?_)
  have hm01 := hL1.2.2.2.2.2.2.2.2
  refine lv_aload_n hx hb (dAt dK_hold_ok 14 rfl) rfl (lv_at hl1 3 rfl) ?_
  refine lw_arg (j := 1) (v := 1) hx hb hX hbl hbA hS1 hl1 (List.mem_of_getElem? (i := 5) rfl) (List.mem_of_getElem? (i := 1) rfl) (by omega) hL9 (by decide +kernel) (dAt dK_hold_ok 15 rfl) (dAt dK_hold_ok 16 rfl) (dAt dK_hold_ok 17 rfl) (dAt dK_hold_ok 18 rfl) (dAt dK_hold_ok 19 rfl) ?_
  refine lw_arg (j := 2) (v := 2) hx hb hX hbl hbA hS1 hl1 (List.mem_of_getElem? (i := 5) rfl) (List.mem_of_getElem? (i := 1) rfl) (by omega) hL9 (by decide +kernel) (dAt dK_hold_ok 20 rfl) (dAt dK_hold_ok 21 rfl) (dAt dK_hold_ok 22 rfl) (dAt dK_hold_ok 23 rfl) (dAt dK_hold_ok 24 rfl) ?_
  refine W.eq (g2 := F0 m 1244 ls1 ((([.inr (.inl (20, 0)), .inl (xs (i + 1)), .inl (xs (i + 2))] : List VV).map (toV ad1)).reverse ++ [])) (by rw [← hm01]; rfl) ?_
  refine law_model (post := PMI cd r s') (n := 2) hC (c_X5_hold hst 0 (xs (i + 1)) (xs (i + 2)) t hMd) ⟨LT_in (by decide +kernel) (by decide +kernel), ws_X5_hold.1, ws_X5_hold.2.1, ws_X5_hold.2.2.1, ws_X5_hold.2.2.2⟩ (by decide +kernel) ⟨by exact Nat.le_of_ble_eq_true rfl, by exact Nat.le_of_ble_eq_true rfl⟩ rfl rfl rfl rfl rfl hL1 hS1 hl1.1 (rest := []) (by decide) hc hs (dAt dK_hold_ok 25 rfl) (fun v u1 ad2 ad3 H2 locs2 hp hL2 hS2 => ?_)
  cases v with
  | none => exact hp.elim
  | some v =>
  cases v with
  | inr _ => exact hp.elim
  | inl r2 =>
  have hp : (cd = 0 → r2 = r) ∧ u1 = s' := hp
  obtain ⟨hq9, rfl⟩ := hp
  exact law_tailI hC dT_hold (by decide) hcd hth hq9 (fun z => hf1 z rfl) hL2 hS2 hl1 hc hs (fun ad4 H3 locs3 ls3 h1 h2 h3 => K _ _ _ _ _ _ _ _ _ _ _ hI1 h1 h2 h3)
theorem dT_depart : dOK (dTi 1303 (276)) := by unfold dOK; decide +kernel
def dK_depart : List (Nat × Instr × Nat) := [(1280, .aload_n 1, 1), (1281, .aload_n 0, 1), (1282, .iload 4, 2), (1284, .iconst 1, 1), (1285, .iadd, 1), (1286, .iaload, 1), (1287, .aload_n 3, 1), (1288, .invokestatic 155, 3), (1291, .istore 5, 2), (1293, .aload_n 2, 1), (1294, .aload_n 0, 1), (1295, .iload 4, 2), (1297, .iconst 1, 1), (1298, .iadd, 1), (1299, .iaload, 1), (1300, .invokevirtual 157, 3)]
theorem dK_depart_ok : dOK dK_depart := by unfold dOK; decide +kernel
set_option maxHeartbeats 4000000 in
set_option maxRecDepth 100000 in
theorem law_depart (hC : LC p l s m c D X b L xs) (hI : Inv n np nb nz nt tk t) (hn : n < 512) (hi : i + 4 ≤ L) (hL : LSt D X ad (AL s) np nb nz nt t t o f x0 m0 H) (hS : va_S (AL s) s.heap H locs) (hl : lv_has ls 7 (LV b x0 m0 o i)) (hc : cl + 5 ≤ 601024) (hs : sl + 2030 ≤ 7293034) (K : KK p l e s m below meth c Q D X b o x0 m0 i n cl sl) : W p l e room_1 s m #[Value.ref b] below meth c H locs cl sl Q (F0 m 1280 ls []) := by
  obtain ⟨hx, hb, hml, hts, hown, hK, hE, hY, hX, hbl, hL9, hst⟩ := id hC
  have hA : ∀ q, s.heap.size ≤ q → AL s q := fun _ h => h
  have hbA : ¬ AL s b := Nat.not_le.mpr hbl
  have hx0 := hL.2.2.2.2.2.2.2.1
  obtain ⟨cd, r, s', ⟨hcd, hth, hI1⟩, hCl, hMd⟩ := op_depart hI (by omega) (xs (i + 1))
  refine lv_aload_n hx hb (dAt dK_depart_ok 0 rfl) rfl (lv_at hl 3 rfl) ?_
  refine lw_arg (j := 1) (v := 1) hx hb hX hbl hbA hS hl (List.mem_of_getElem? (i := 4) rfl) (List.mem_of_getElem? (i := 0) rfl) (by omega) hL9 (by decide +kernel) (dAt dK_depart_ok 1 rfl) (dAt dK_depart_ok 2 rfl) (dAt dK_depart_ok 3 rfl) (dAt dK_depart_ok 4 rfl) (dAt dK_depart_ok 5 rfl) ?_
  refine lv_aload_n hx hb (dAt dK_depart_ok 6 rfl) rfl (lv_at hl 1 rfl) ?_
  refine W.eq (g2 := F0 m 1288 ls ((([.inr (.inl (0, 0)), .inl (xs (i + 1))] : List VV).map (toV ad) ++ ([.ref o] : List Value)).reverse)) (by rw [← hx0]; rfl) ?_
  refine law_wrap (R := room_1) (cl := cl) (sl := sl) (own := R_law) (n := 3) hx hb hml hts hown hK hA hE hY (w_depart D X ad (xs (i + 1)) hcd (fun _ => rfl) MS_0 ((c_X4_depart (post := PO cd r (over s')) hst 0 (xs (i + 1)) (over t) hCl).toE)) ⟨LT_in (by decide +kernel) (by decide +kernel), LT_in (by decide +kernel) (by decide +kernel), LT_in (by decide +kernel) (by decide +kernel), LT_in (by decide +kernel) (by decide +kernel)⟩ (by decide +kernel) ⟨by exact Nat.le_of_ble_eq_true rfl, by exact Nat.le_of_ble_eq_true rfl⟩ rfl rfl rfl hL hS hl.1 (by show cl + 2 ≤ 601024; omega) (by show sl + 12 ≤ 7293034; omega) (dAt dK_depart_ok 7 rfl) (fun ad1 f1 H1 locs1 hL1 hf1 hS1 => ?_)
  refine W.widen (k := cl + 5) (n := sl + 2030) (by omega) (by omega) ?_
  refine lv_istore (lv' := (5, .int (nI cd)) :: LV b x0 m0 o i) hx hb (dAt dK_depart_ok 8 rfl) hl (by decide) rfl (fun ls1 hl1 => ?_)
  have hm01 := hL1.2.2.2.2.2.2.2.2
  refine lv_aload_n hx hb (dAt dK_depart_ok 9 rfl) rfl (lv_at hl1 3 rfl) ?_
  refine lw_arg (j := 1) (v := 1) hx hb hX hbl hbA hS1 hl1 (List.mem_of_getElem? (i := 5) rfl) (List.mem_of_getElem? (i := 1) rfl) (by omega) hL9 (by decide +kernel) (dAt dK_depart_ok 10 rfl) (dAt dK_depart_ok 11 rfl) (dAt dK_depart_ok 12 rfl) (dAt dK_depart_ok 13 rfl) (dAt dK_depart_ok 14 rfl) ?_
  refine W.eq (g2 := F0 m 1300 ls1 ((([.inr (.inl (20, 0)), .inl (xs (i + 1))] : List VV).map (toV ad1)).reverse ++ [])) (by rw [← hm01]; rfl) ?_
  refine law_model (post := PMI cd r s') (n := 1) hC (c_X5_depart hst 0 (xs (i + 1)) t hMd) ⟨LT_in (by decide +kernel) (by decide +kernel), ws_X5_depart.1, ws_X5_depart.2.1, ws_X5_depart.2.2.1, ws_X5_depart.2.2.2⟩ (by decide +kernel) ⟨by exact Nat.le_of_ble_eq_true rfl, by exact Nat.le_of_ble_eq_true rfl⟩ rfl rfl rfl rfl rfl hL1 hS1 hl1.1 (rest := []) (by decide) hc hs (dAt dK_depart_ok 15 rfl) (fun v u1 ad2 ad3 H2 locs2 hp hL2 hS2 => ?_)
  cases v with
  | none => exact hp.elim
  | some v =>
  cases v with
  | inr _ => exact hp.elim
  | inl r2 =>
  have hp : (cd = 0 → r2 = r) ∧ u1 = s' := hp
  obtain ⟨hq9, rfl⟩ := hp
  exact law_tailI hC dT_depart (by decide) hcd hth hq9 (fun z => hf1 z rfl) hL2 hS2 hl1 hc hs (fun ad4 H3 locs3 ls3 h1 h2 h3 => K _ _ _ _ _ _ _ _ _ _ _ hI1 h1 h2 h3)
theorem dT_rate : dOK (dTi 1371 (208)) := by unfold dOK; decide +kernel
def dK_rate : List (Nat × Instr × Nat) := [(1336, .aload_n 1, 1), (1337, .aload_n 0, 1), (1338, .iload 4, 2), (1340, .iconst 1, 1), (1341, .iadd, 1), (1342, .iaload, 1), (1343, .aload_n 0, 1), (1344, .iload 4, 2), (1346, .iconst 2, 1), (1347, .iadd, 1), (1348, .iaload, 1), (1349, .aload_n 3, 1), (1350, .invokestatic 158, 3), (1353, .istore 5, 2), (1355, .aload_n 2, 1), (1356, .aload_n 0, 1), (1357, .iload 4, 2), (1359, .iconst 1, 1), (1360, .iadd, 1), (1361, .iaload, 1), (1362, .aload_n 0, 1), (1363, .iload 4, 2), (1365, .iconst 2, 1), (1366, .iadd, 1), (1367, .iaload, 1), (1368, .invokevirtual 160, 3)]
theorem dK_rate_ok : dOK dK_rate := by unfold dOK; decide +kernel
set_option maxHeartbeats 4000000 in
set_option maxRecDepth 100000 in
theorem law_rate (hC : LC p l s m c D X b L xs) (hI : Inv n np nb nz nt tk t) (hn : n < 512) (hi : i + 4 ≤ L) (hL : LSt D X ad (AL s) np nb nz nt t t o f x0 m0 H) (hS : va_S (AL s) s.heap H locs) (hl : lv_has ls 7 (LV b x0 m0 o i)) (hc : cl + 5 ≤ 601024) (hs : sl + 2030 ≤ 7293034) (K : KK p l e s m below meth c Q D X b o x0 m0 i n cl sl) : W p l e room_1 s m #[Value.ref b] below meth c H locs cl sl Q (F0 m 1336 ls []) := by
  obtain ⟨hx, hb, hml, hts, hown, hK, hE, hY, hX, hbl, hL9, hst⟩ := id hC
  have hA : ∀ q, s.heap.size ≤ q → AL s q := fun _ h => h
  have hbA : ¬ AL s b := Nat.not_le.mpr hbl
  have hx0 := hL.2.2.2.2.2.2.2.1
  obtain ⟨cd, r, s', ⟨hcd, hth, hI1⟩, hCl, hMd⟩ := op_rate hI (xs (i + 1)) (xs (i + 2))
  refine lv_aload_n hx hb (dAt dK_rate_ok 0 rfl) rfl (lv_at hl 3 rfl) ?_
  refine lw_arg (j := 1) (v := 1) hx hb hX hbl hbA hS hl (List.mem_of_getElem? (i := 4) rfl) (List.mem_of_getElem? (i := 0) rfl) (by omega) hL9 (by decide +kernel) (dAt dK_rate_ok 1 rfl) (dAt dK_rate_ok 2 rfl) (dAt dK_rate_ok 3 rfl) (dAt dK_rate_ok 4 rfl) (dAt dK_rate_ok 5 rfl) ?_
  refine lw_arg (j := 2) (v := 2) hx hb hX hbl hbA hS hl (List.mem_of_getElem? (i := 4) rfl) (List.mem_of_getElem? (i := 0) rfl) (by omega) hL9 (by decide +kernel) (dAt dK_rate_ok 6 rfl) (dAt dK_rate_ok 7 rfl) (dAt dK_rate_ok 8 rfl) (dAt dK_rate_ok 9 rfl) (dAt dK_rate_ok 10 rfl) ?_
  refine lv_aload_n hx hb (dAt dK_rate_ok 11 rfl) rfl (lv_at hl 1 rfl) ?_
  refine W.eq (g2 := F0 m 1350 ls ((([.inr (.inl (0, 0)), .inl (xs (i + 1)), .inl (xs (i + 2))] : List VV).map (toV ad) ++ ([.ref o] : List Value)).reverse)) (by rw [← hx0]; rfl) ?_
  refine law_wrap (R := room_1) (cl := cl) (sl := sl) (own := R_law) (n := 4) hx hb hml hts hown hK hA hE hY (w_rate D X ad (xs (i + 1)) (xs (i + 2)) hcd (fun _ => rfl) MS_0 ((c_X4_rate (post := PO cd r (over s')) hst 0 (xs (i + 1)) (xs (i + 2)) (over t) hCl).toE)) ⟨LT_in (by decide +kernel) (by decide +kernel), LT_in (by decide +kernel) (by decide +kernel), LT_in (by decide +kernel) (by decide +kernel), LT_in (by decide +kernel) (by decide +kernel)⟩ (by decide +kernel) ⟨by exact Nat.le_of_ble_eq_true rfl, by exact Nat.le_of_ble_eq_true rfl⟩ rfl rfl rfl hL hS hl.1 (by show cl + 2 ≤ 601024; omega) (by show sl + 12 ≤ 7293034; omega) (dAt dK_rate_ok 12 rfl) (fun ad1 f1 H1 locs1 hL1 hf1 hS1 => ?_)
  refine W.widen (k := cl + 5) (n := sl + 2030) (by omega) (by omega) ?_
  refine lv_istore (lv' := (5, .int (nI cd)) :: LV b x0 m0 o i) hx hb (dAt dK_rate_ok 13 rfl) hl (by decide) rfl (fun ls1 hl1 => ?_)
  have hm01 := hL1.2.2.2.2.2.2.2.2
  refine lv_aload_n hx hb (dAt dK_rate_ok 14 rfl) rfl (lv_at hl1 3 rfl) ?_
  refine lw_arg (j := 1) (v := 1) hx hb hX hbl hbA hS1 hl1 (List.mem_of_getElem? (i := 5) rfl) (List.mem_of_getElem? (i := 1) rfl) (by omega) hL9 (by decide +kernel) (dAt dK_rate_ok 15 rfl) (dAt dK_rate_ok 16 rfl) (dAt dK_rate_ok 17 rfl) (dAt dK_rate_ok 18 rfl) (dAt dK_rate_ok 19 rfl) ?_
  refine lw_arg (j := 2) (v := 2) hx hb hX hbl hbA hS1 hl1 (List.mem_of_getElem? (i := 5) rfl) (List.mem_of_getElem? (i := 1) rfl) (by omega) hL9 (by decide +kernel) (dAt dK_rate_ok 20 rfl) (dAt dK_rate_ok 21 rfl) (dAt dK_rate_ok 22 rfl) (dAt dK_rate_ok 23 rfl) (dAt dK_rate_ok 24 rfl) ?_
  refine W.eq (g2 := F0 m 1368 ls1 ((([.inr (.inl (20, 0)), .inl (xs (i + 1)), .inl (xs (i + 2))] : List VV).map (toV ad1)).reverse ++ [])) (by rw [← hm01]; rfl) ?_
  refine law_model (post := PMI cd r s') (n := 2) hC (c_X5_rate hst 0 (xs (i + 1)) (xs (i + 2)) t hMd) ⟨LT_in (by decide +kernel) (by decide +kernel), ws_X5_rate.1, ws_X5_rate.2.1, ws_X5_rate.2.2.1, ws_X5_rate.2.2.2⟩ (by decide +kernel) ⟨by exact Nat.le_of_ble_eq_true rfl, by exact Nat.le_of_ble_eq_true rfl⟩ rfl rfl rfl rfl rfl hL1 hS1 hl1.1 (rest := []) (by decide) hc hs (dAt dK_rate_ok 25 rfl) (fun v u1 ad2 ad3 H2 locs2 hp hL2 hS2 => ?_)
  cases v with
  | none => exact hp.elim
  | some v =>
  cases v with
  | inr _ => exact hp.elim
  | inl r2 =>
  have hp : (cd = 0 → r2 = r) ∧ u1 = s' := hp
  obtain ⟨hq9, rfl⟩ := hp
  exact law_tailI hC dT_rate (by decide) hcd hth hq9 (fun z => hf1 z rfl) hL2 hS2 hl1 hc hs (fun ad4 H3 locs3 ls3 h1 h2 h3 => K _ _ _ _ _ _ _ _ _ _ _ hI1 h1 h2 h3)
theorem dT_platformIs : dOK (dTi 1439 (140)) := by unfold dOK; decide +kernel
def dK_platformIs : List (Nat × Instr × Nat) := [(1404, .aload_n 1, 1), (1405, .aload_n 0, 1), (1406, .iload 4, 2), (1408, .iconst 1, 1), (1409, .iadd, 1), (1410, .iaload, 1), (1411, .aload_n 0, 1), (1412, .iload 4, 2), (1414, .iconst 2, 1), (1415, .iadd, 1), (1416, .iaload, 1), (1417, .aload_n 3, 1), (1418, .invokestatic 161, 3), (1421, .istore 5, 2), (1423, .aload_n 2, 1), (1424, .aload_n 0, 1), (1425, .iload 4, 2), (1427, .iconst 1, 1), (1428, .iadd, 1), (1429, .iaload, 1), (1430, .aload_n 0, 1), (1431, .iload 4, 2), (1433, .iconst 2, 1), (1434, .iadd, 1), (1435, .iaload, 1), (1436, .invokevirtual 163, 3)]
theorem dK_platformIs_ok : dOK dK_platformIs := by unfold dOK; decide +kernel
set_option maxHeartbeats 4000000 in
set_option maxRecDepth 100000 in
theorem law_platformIs (hC : LC p l s m c D X b L xs) (hI : Inv n np nb nz nt tk t) (hn : n < 512) (hi : i + 4 ≤ L) (hL : LSt D X ad (AL s) np nb nz nt t t o f x0 m0 H) (hS : va_S (AL s) s.heap H locs) (hl : lv_has ls 7 (LV b x0 m0 o i)) (hc : cl + 5 ≤ 601024) (hs : sl + 2030 ≤ 7293034) (K : KK p l e s m below meth c Q D X b o x0 m0 i n cl sl) : W p l e room_1 s m #[Value.ref b] below meth c H locs cl sl Q (F0 m 1404 ls []) := by
  obtain ⟨hx, hb, hml, hts, hown, hK, hE, hY, hX, hbl, hL9, hst⟩ := id hC
  have hA : ∀ q, s.heap.size ≤ q → AL s q := fun _ h => h
  have hbA : ¬ AL s b := Nat.not_le.mpr hbl
  have hx0 := hL.2.2.2.2.2.2.2.1
  obtain ⟨cd, r, s', ⟨hcd, hth, hI1⟩, hCl, hMd⟩ := op_platformIs hI (xs (i + 1)) (xs (i + 2))
  refine lv_aload_n hx hb (dAt dK_platformIs_ok 0 rfl) rfl (lv_at hl 3 rfl) ?_
  refine lw_arg (j := 1) (v := 1) hx hb hX hbl hbA hS hl (List.mem_of_getElem? (i := 4) rfl) (List.mem_of_getElem? (i := 0) rfl) (by omega) hL9 (by decide +kernel) (dAt dK_platformIs_ok 1 rfl) (dAt dK_platformIs_ok 2 rfl) (dAt dK_platformIs_ok 3 rfl) (dAt dK_platformIs_ok 4 rfl) (dAt dK_platformIs_ok 5 rfl) ?_
  refine lw_arg (j := 2) (v := 2) hx hb hX hbl hbA hS hl (List.mem_of_getElem? (i := 4) rfl) (List.mem_of_getElem? (i := 0) rfl) (by omega) hL9 (by decide +kernel) (dAt dK_platformIs_ok 6 rfl) (dAt dK_platformIs_ok 7 rfl) (dAt dK_platformIs_ok 8 rfl) (dAt dK_platformIs_ok 9 rfl) (dAt dK_platformIs_ok 10 rfl) ?_
  refine lv_aload_n hx hb (dAt dK_platformIs_ok 11 rfl) rfl (lv_at hl 1 rfl) ?_
  refine W.eq (g2 := F0 m 1418 ls ((([.inr (.inl (0, 0)), .inl (xs (i + 1)), .inl (xs (i + 2))] : List VV).map (toV ad) ++ ([.ref o] : List Value)).reverse)) (by rw [← hx0]; rfl) ?_
  refine law_wrap (R := room_1) (cl := cl) (sl := sl) (own := R_law) (n := 4) hx hb hml hts hown hK hA hE hY (w_platformIs D X ad (xs (i + 1)) (xs (i + 2)) hcd (fun _ => rfl) MS_0 ((c_X4_platformIs (post := PO cd r (over s')) hst 0 (xs (i + 1)) (xs (i + 2)) (over t) hCl).toE)) ⟨LT_in (by decide +kernel) (by decide +kernel), LT_in (by decide +kernel) (by decide +kernel), LT_in (by decide +kernel) (by decide +kernel), LT_in (by decide +kernel) (by decide +kernel)⟩ (by decide +kernel) ⟨by exact Nat.le_of_ble_eq_true rfl, by exact Nat.le_of_ble_eq_true rfl⟩ rfl rfl rfl hL hS hl.1 (by show cl + 2 ≤ 601024; omega) (by show sl + 12 ≤ 7293034; omega) (dAt dK_platformIs_ok 12 rfl) (fun ad1 f1 H1 locs1 hL1 hf1 hS1 => ?_)
  refine W.widen (k := cl + 5) (n := sl + 2030) (by omega) (by omega) ?_
  refine lv_istore (lv' := (5, .int (nI cd)) :: LV b x0 m0 o i) hx hb (dAt dK_platformIs_ok 13 rfl) hl (by decide) rfl (fun ls1 hl1 => ?_)
  have hm01 := hL1.2.2.2.2.2.2.2.2
  refine lv_aload_n hx hb (dAt dK_platformIs_ok 14 rfl) rfl (lv_at hl1 3 rfl) ?_
  refine lw_arg (j := 1) (v := 1) hx hb hX hbl hbA hS1 hl1 (List.mem_of_getElem? (i := 5) rfl) (List.mem_of_getElem? (i := 1) rfl) (by omega) hL9 (by decide +kernel) (dAt dK_platformIs_ok 15 rfl) (dAt dK_platformIs_ok 16 rfl) (dAt dK_platformIs_ok 17 rfl) (dAt dK_platformIs_ok 18 rfl) (dAt dK_platformIs_ok 19 rfl) ?_
  refine lw_arg (j := 2) (v := 2) hx hb hX hbl hbA hS1 hl1 (List.mem_of_getElem? (i := 5) rfl) (List.mem_of_getElem? (i := 1) rfl) (by omega) hL9 (by decide +kernel) (dAt dK_platformIs_ok 20 rfl) (dAt dK_platformIs_ok 21 rfl) (dAt dK_platformIs_ok 22 rfl) (dAt dK_platformIs_ok 23 rfl) (dAt dK_platformIs_ok 24 rfl) ?_
  refine W.eq (g2 := F0 m 1436 ls1 ((([.inr (.inl (20, 0)), .inl (xs (i + 1)), .inl (xs (i + 2))] : List VV).map (toV ad1)).reverse ++ [])) (by rw [← hm01]; rfl) ?_
  refine law_model (post := PMI cd r s') (n := 2) hC (c_X5_platformIs hst 0 (xs (i + 1)) (xs (i + 2)) t hMd) ⟨LT_in (by decide +kernel) (by decide +kernel), ws_X5_platformIs.1, ws_X5_platformIs.2.1, ws_X5_platformIs.2.2.1, ws_X5_platformIs.2.2.2⟩ (by decide +kernel) ⟨by exact Nat.le_of_ble_eq_true rfl, by exact Nat.le_of_ble_eq_true rfl⟩ rfl rfl rfl rfl rfl hL1 hS1 hl1.1 (rest := []) (by decide) hc hs (dAt dK_platformIs_ok 25 rfl) (fun v u1 ad2 ad3 H2 locs2 hp hL2 hS2 => ?_)
  cases v with
  | none => exact hp.elim
  | some v =>
  cases v with
  | inr _ => exact hp.elim
  | inl r2 =>
  have hp : (cd = 0 → r2 = r) ∧ u1 = s' := hp
  obtain ⟨hq9, rfl⟩ := hp
  exact law_tailI hC dT_platformIs (by decide) hcd hth hq9 (fun z => hf1 z rfl) hL2 hS2 hl1 hc hs (fun ad4 H3 locs3 ls3 h1 h2 h3 => K _ _ _ _ _ _ _ _ _ _ _ hI1 h1 h2 h3)
theorem dT_record : dOK (dTi 1507 (72)) := by unfold dOK; decide +kernel
def dK_record : List (Nat × Instr × Nat) := [(1472, .aload_n 1, 1), (1473, .aload_n 0, 1), (1474, .iload 4, 2), (1476, .iconst 1, 1), (1477, .iadd, 1), (1478, .iaload, 1), (1479, .aload_n 0, 1), (1480, .iload 4, 2), (1482, .iconst 2, 1), (1483, .iadd, 1), (1484, .iaload, 1), (1485, .aload_n 3, 1), (1486, .invokestatic 164, 3), (1489, .istore 5, 2), (1491, .aload_n 2, 1), (1492, .aload_n 0, 1), (1493, .iload 4, 2), (1495, .iconst 1, 1), (1496, .iadd, 1), (1497, .iaload, 1), (1498, .aload_n 0, 1), (1499, .iload 4, 2), (1501, .iconst 2, 1), (1502, .iadd, 1), (1503, .iaload, 1), (1504, .invokevirtual 166, 3)]
theorem dK_record_ok : dOK dK_record := by unfold dOK; decide +kernel
set_option maxHeartbeats 4000000 in
set_option maxRecDepth 100000 in
theorem law_record (hC : LC p l s m c D X b L xs) (hI : Inv n np nb nz nt tk t) (hn : n < 512) (hi : i + 4 ≤ L) (hL : LSt D X ad (AL s) np nb nz nt t t o f x0 m0 H) (hS : va_S (AL s) s.heap H locs) (hl : lv_has ls 7 (LV b x0 m0 o i)) (hc : cl + 5 ≤ 601024) (hs : sl + 2030 ≤ 7293034) (K : KK p l e s m below meth c Q D X b o x0 m0 i n cl sl) : W p l e room_1 s m #[Value.ref b] below meth c H locs cl sl Q (F0 m 1472 ls []) := by
  obtain ⟨hx, hb, hml, hts, hown, hK, hE, hY, hX, hbl, hL9, hst⟩ := id hC
  have hA : ∀ q, s.heap.size ≤ q → AL s q := fun _ h => h
  have hbA : ¬ AL s b := Nat.not_le.mpr hbl
  have hx0 := hL.2.2.2.2.2.2.2.1
  obtain ⟨cd, r, s', ⟨hcd, hth, hI1⟩, hCl, hMd⟩ := op_record hI (xs (i + 1)) (xs (i + 2))
  refine lv_aload_n hx hb (dAt dK_record_ok 0 rfl) rfl (lv_at hl 3 rfl) ?_
  refine lw_arg (j := 1) (v := 1) hx hb hX hbl hbA hS hl (List.mem_of_getElem? (i := 4) rfl) (List.mem_of_getElem? (i := 0) rfl) (by omega) hL9 (by decide +kernel) (dAt dK_record_ok 1 rfl) (dAt dK_record_ok 2 rfl) (dAt dK_record_ok 3 rfl) (dAt dK_record_ok 4 rfl) (dAt dK_record_ok 5 rfl) ?_
  refine lw_arg (j := 2) (v := 2) hx hb hX hbl hbA hS hl (List.mem_of_getElem? (i := 4) rfl) (List.mem_of_getElem? (i := 0) rfl) (by omega) hL9 (by decide +kernel) (dAt dK_record_ok 6 rfl) (dAt dK_record_ok 7 rfl) (dAt dK_record_ok 8 rfl) (dAt dK_record_ok 9 rfl) (dAt dK_record_ok 10 rfl) ?_
  refine lv_aload_n hx hb (dAt dK_record_ok 11 rfl) rfl (lv_at hl 1 rfl) ?_
  refine W.eq (g2 := F0 m 1486 ls ((([.inr (.inl (0, 0)), .inl (xs (i + 1)), .inl (xs (i + 2))] : List VV).map (toV ad) ++ ([.ref o] : List Value)).reverse)) (by rw [← hx0]; rfl) ?_
  refine law_wrap (R := room_1) (cl := cl) (sl := sl) (own := R_law) (n := 4) hx hb hml hts hown hK hA hE hY (w_record D X ad (xs (i + 1)) (xs (i + 2)) hcd (fun _ => rfl) MS_0 ((c_X4_record (post := PO cd r (over s')) hst 0 (xs (i + 1)) (xs (i + 2)) (over t) hCl).toE)) ⟨LT_in (by decide +kernel) (by decide +kernel), LT_in (by decide +kernel) (by decide +kernel), LT_in (by decide +kernel) (by decide +kernel), LT_in (by decide +kernel) (by decide +kernel)⟩ (by decide +kernel) ⟨by exact Nat.le_of_ble_eq_true rfl, by exact Nat.le_of_ble_eq_true rfl⟩ rfl rfl rfl hL hS hl.1 (by show cl + 2 ≤ 601024; omega) (by show sl + 12 ≤ 7293034; omega) (dAt dK_record_ok 12 rfl) (fun ad1 f1 H1 locs1 hL1 hf1 hS1 => ?_)
  refine W.widen (k := cl + 5) (n := sl + 2030) (by omega) (by omega) ?_
  refine lv_istore (lv' := (5, .int (nI cd)) :: LV b x0 m0 o i) hx hb (dAt dK_record_ok 13 rfl) hl (by decide) rfl (fun ls1 hl1 => ?_)
  have hm01 := hL1.2.2.2.2.2.2.2.2
  refine lv_aload_n hx hb (dAt dK_record_ok 14 rfl) rfl (lv_at hl1 3 rfl) ?_
  refine lw_arg (j := 1) (v := 1) hx hb hX hbl hbA hS1 hl1 (List.mem_of_getElem? (i := 5) rfl) (List.mem_of_getElem? (i := 1) rfl) (by omega) hL9 (by decide +kernel) (dAt dK_record_ok 15 rfl) (dAt dK_record_ok 16 rfl) (dAt dK_record_ok 17 rfl) (dAt dK_record_ok 18 rfl) (dAt dK_record_ok 19 rfl) ?_
  refine lw_arg (j := 2) (v := 2) hx hb hX hbl hbA hS1 hl1 (List.mem_of_getElem? (i := 5) rfl) (List.mem_of_getElem? (i := 1) rfl) (by omega) hL9 (by decide +kernel) (dAt dK_record_ok 20 rfl) (dAt dK_record_ok 21 rfl) (dAt dK_record_ok 22 rfl) (dAt dK_record_ok 23 rfl) (dAt dK_record_ok 24 rfl) ?_
  refine W.eq (g2 := F0 m 1504 ls1 ((([.inr (.inl (20, 0)), .inl (xs (i + 1)), .inl (xs (i + 2))] : List VV).map (toV ad1)).reverse ++ [])) (by rw [← hm01]; rfl) ?_
  refine law_model (post := PMI cd r s') (n := 2) hC (c_X5_record hst 0 (xs (i + 1)) (xs (i + 2)) t hMd) ⟨LT_in (by decide +kernel) (by decide +kernel), ws_X5_record.1, ws_X5_record.2.1, ws_X5_record.2.2.1, ws_X5_record.2.2.2⟩ (by decide +kernel) ⟨by exact Nat.le_of_ble_eq_true rfl, by exact Nat.le_of_ble_eq_true rfl⟩ rfl rfl rfl rfl rfl hL1 hS1 hl1.1 (rest := []) (by decide) hc hs (dAt dK_record_ok 25 rfl) (fun v u1 ad2 ad3 H2 locs2 hp hL2 hS2 => ?_)
  cases v with
  | none => exact hp.elim
  | some v =>
  cases v with
  | inr _ => exact hp.elim
  | inl r2 =>
  have hp : (cd = 0 → r2 = r) ∧ u1 = s' := hp
  obtain ⟨hq9, rfl⟩ := hp
  exact law_tailI hC dT_record (by decide) hcd hth hq9 (fun z => hf1 z rfl) hL2 hS2 hl1 hc hs (fun ad4 H3 locs3 ls3 h1 h2 h3 => K _ _ _ _ _ _ _ _ _ _ _ hI1 h1 h2 h3)
theorem dT_placeAnew : dOK (dTi 1563 (16)) := by unfold dOK; decide +kernel
def dK_placeAnew : List (Nat × Instr × Nat) := [(1540, .aload_n 1, 1), (1541, .aload_n 0, 1), (1542, .iload 4, 2), (1544, .iconst 1, 1), (1545, .iadd, 1), (1546, .iaload, 1), (1547, .aload_n 3, 1), (1548, .invokestatic 167, 3), (1551, .istore 5, 2), (1553, .aload_n 2, 1), (1554, .aload_n 0, 1), (1555, .iload 4, 2), (1557, .iconst 1, 1), (1558, .iadd, 1), (1559, .iaload, 1), (1560, .invokevirtual 169, 3)]
theorem dK_placeAnew_ok : dOK dK_placeAnew := by unfold dOK; decide +kernel
set_option maxHeartbeats 4000000 in
set_option maxRecDepth 100000 in
theorem law_placeAnew (hC : LC p l s m c D X b L xs) (hI : Inv n np nb nz nt tk t) (hn : n < 512) (hi : i + 4 ≤ L) (hL : LSt D X ad (AL s) np nb nz nt t t o f x0 m0 H) (hS : va_S (AL s) s.heap H locs) (hl : lv_has ls 7 (LV b x0 m0 o i)) (hc : cl + 5 ≤ 601024) (hs : sl + 2030 ≤ 7293034) (K : KK p l e s m below meth c Q D X b o x0 m0 i n cl sl) : W p l e room_1 s m #[Value.ref b] below meth c H locs cl sl Q (F0 m 1540 ls []) := by
  obtain ⟨hx, hb, hml, hts, hown, hK, hE, hY, hX, hbl, hL9, hst⟩ := id hC
  have hA : ∀ q, s.heap.size ≤ q → AL s q := fun _ h => h
  have hbA : ¬ AL s b := Nat.not_le.mpr hbl
  have hx0 := hL.2.2.2.2.2.2.2.1
  obtain ⟨cd, r, s', ⟨hcd, hth, hI1⟩, hCl, hMd⟩ := op_placeAnew hI (xs (i + 1))
  refine lv_aload_n hx hb (dAt dK_placeAnew_ok 0 rfl) rfl (lv_at hl 3 rfl) ?_
  refine lw_arg (j := 1) (v := 1) hx hb hX hbl hbA hS hl (List.mem_of_getElem? (i := 4) rfl) (List.mem_of_getElem? (i := 0) rfl) (by omega) hL9 (by decide +kernel) (dAt dK_placeAnew_ok 1 rfl) (dAt dK_placeAnew_ok 2 rfl) (dAt dK_placeAnew_ok 3 rfl) (dAt dK_placeAnew_ok 4 rfl) (dAt dK_placeAnew_ok 5 rfl) ?_
  refine lv_aload_n hx hb (dAt dK_placeAnew_ok 6 rfl) rfl (lv_at hl 1 rfl) ?_
  refine W.eq (g2 := F0 m 1548 ls ((([.inr (.inl (0, 0)), .inl (xs (i + 1))] : List VV).map (toV ad) ++ ([.ref o] : List Value)).reverse)) (by rw [← hx0]; rfl) ?_
  refine law_wrap (R := room_1) (cl := cl) (sl := sl) (own := R_law) (n := 3) hx hb hml hts hown hK hA hE hY (w_placeAnew D X ad (xs (i + 1)) hcd (fun _ => rfl) MS_0 ((c_X4_placeAnew (post := PO cd r (over s')) hst 0 (xs (i + 1)) (over t) hCl).toE)) ⟨LT_in (by decide +kernel) (by decide +kernel), LT_in (by decide +kernel) (by decide +kernel), LT_in (by decide +kernel) (by decide +kernel), LT_in (by decide +kernel) (by decide +kernel)⟩ (by decide +kernel) ⟨by exact Nat.le_of_ble_eq_true rfl, by exact Nat.le_of_ble_eq_true rfl⟩ rfl rfl rfl hL hS hl.1 (by show cl + 1 ≤ 601024; omega) (by show sl + 6 ≤ 7293034; omega) (dAt dK_placeAnew_ok 7 rfl) (fun ad1 f1 H1 locs1 hL1 hf1 hS1 => ?_)
  refine W.widen (k := cl + 5) (n := sl + 2030) (by omega) (by omega) ?_
  refine lv_istore (lv' := (5, .int (nI cd)) :: LV b x0 m0 o i) hx hb (dAt dK_placeAnew_ok 8 rfl) hl (by decide) rfl (fun ls1 hl1 => ?_)
  have hm01 := hL1.2.2.2.2.2.2.2.2
  refine lv_aload_n hx hb (dAt dK_placeAnew_ok 9 rfl) rfl (lv_at hl1 3 rfl) ?_
  refine lw_arg (j := 1) (v := 1) hx hb hX hbl hbA hS1 hl1 (List.mem_of_getElem? (i := 5) rfl) (List.mem_of_getElem? (i := 1) rfl) (by omega) hL9 (by decide +kernel) (dAt dK_placeAnew_ok 10 rfl) (dAt dK_placeAnew_ok 11 rfl) (dAt dK_placeAnew_ok 12 rfl) (dAt dK_placeAnew_ok 13 rfl) (dAt dK_placeAnew_ok 14 rfl) ?_
  refine W.eq (g2 := F0 m 1560 ls1 ((([.inr (.inl (20, 0)), .inl (xs (i + 1))] : List VV).map (toV ad1)).reverse ++ [])) (by rw [← hm01]; rfl) ?_
  refine law_model (post := PMI cd r s') (n := 1) hC (c_X5_placeAnew hst 0 (xs (i + 1)) t hMd) ⟨LT_in (by decide +kernel) (by decide +kernel), ws_X5_placeAnew.1, ws_X5_placeAnew.2.1, ws_X5_placeAnew.2.2.1, ws_X5_placeAnew.2.2.2⟩ (by decide +kernel) ⟨by exact Nat.le_of_ble_eq_true rfl, by exact Nat.le_of_ble_eq_true rfl⟩ rfl rfl rfl rfl rfl hL1 hS1 hl1.1 (rest := []) (by decide) hc hs (dAt dK_placeAnew_ok 15 rfl) (fun v u1 ad2 ad3 H2 locs2 hp hL2 hS2 => ?_)
  cases v with
  | none => exact hp.elim
  | some v =>
  cases v with
  | inr _ => exact hp.elim
  | inl r2 =>
  have hp : (cd = 0 → r2 = r) ∧ u1 = s' := hp
  obtain ⟨hq9, rfl⟩ := hp
  exact law_tailI hC dT_placeAnew (by decide) hcd hth hq9 (fun z => hf1 z rfl) hL2 hS2 hl1 hc hs (fun ad4 H3 locs3 ls3 h1 h2 h3 => K _ _ _ _ _ _ _ _ _ _ _ hI1 h1 h2 h3)
def dK_isSafe : List (Nat × Instr × Nat) := [(1596, .aload_n 1, 1), (1597, .invokevirtual 170, 3), (1600, .aload_n 2, 1), (1601, .invokevirtual 174, 3), (1604, .if_icmp .eq 5, 3)]
theorem dK_isSafe_ok : dOK dK_isSafe := by unfold dOK; decide +kernel
set_option maxHeartbeats 4000000 in
set_option maxRecDepth 100000 in
theorem law_isSafe (hC : LC p l s m c D X b L xs) (hI : Inv n np nb nz nt tk t) (hn : n < 512) (hi : i + 4 ≤ L) (hL : LSt D X ad (AL s) np nb nz nt t t o f x0 m0 H) (hS : va_S (AL s) s.heap H locs) (hl : lv_has ls 7 (LV b x0 m0 o i)) (hc : cl + 5 ≤ 601024) (hs : sl + 2030 ≤ 7293034) (K : KK p l e s m below meth c Q D X b o x0 m0 i n cl sl) : W p l e room_1 s m #[Value.ref b] below meth c H locs cl sl Q (F0 m 1596 ls []) := by
  obtain ⟨hx, hb, hml, hts, hown, hK, hE, hY, hX, hbl, hL9, hst⟩ := id hC
  have hx0 := hL.2.2.2.2.2.2.2.1
  obtain ⟨r, s', ⟨hcd, hth, hI1⟩, hB, hCl, hMd⟩ := op_isSafe hI
  refine W.widen (k := cl + 5) (n := sl + 2030) (by omega) (by omega) ?_
  refine lv_aload_n hx hb (dAt dK_isSafe_ok 0 rfl) rfl (lv_at hl 3 rfl) ?_
  refine W.eq (g2 := F0 m 1597 ls ((([.inr (.inl (0, 0))] : List VV).map (toV ad)).reverse ++ [])) (by rw [← hx0]; rfl) ?_
  have hM4 : CT l yX4_isSafe (Cond.code yX4_isSafe cX4_isSafe 3 (some .boolean) :: LT) { frames := 1, cells := 0, slots := 0, locals := 22 } D X ad (MS np nb nz nt) [.inr (.inl (0, 0))] (over t) 0 0 (PO 0 r (over s')) (PX [] 0 (over s')) := c_X4_isSafe hst 0 (over t) hCl
  refine law_self (s' := s') (post := PO 0 r (over s')) (n := 0) hC hM4 (fun E t' h => h.1 rfl) (fun v w h => by
    cases v with
    | none => exact h.elim
    | some v =>
    cases v with
    | inr _ => exact h.elim
    | inl _ => exact h.2.2) ⟨LT_in (by decide +kernel) (by decide +kernel), ws_X4_isSafe.1, ws_X4_isSafe.2.1, ws_X4_isSafe.2.2.1, ws_X4_isSafe.2.2.2⟩ (by decide +kernel) ⟨by exact Nat.le_of_ble_eq_true rfl, by exact Nat.le_of_ble_eq_true rfl⟩ rfl rfl rfl rfl rfl hL hS hl.1 (rest := []) (by decide) hc hs (dAt dK_isSafe_ok 1 rfl) (fun v w ad1 ad2 H1 locs1 hp hL1 hS1 => ?_)
  have hm01 := hL1.2.2.2.2.2.2.2.2
  cases v with
  | none => exact hp.elim
  | some v =>
  cases v with
  | inr _ => exact hp.elim
  | inl r2 =>
  obtain ⟨-, rfl, rfl⟩ := hp
  refine W.eq (g2 := F0 m 1600 ls [.int r2]) rfl ?_
  refine lv_aload_n hx hb (dAt dK_isSafe_ok 2 rfl) rfl (lv_at hl 2 rfl) ?_
  refine W.eq (g2 := F0 m 1601 ls ((([.inr (.inl (20, 0))] : List VV).map (toV ad2)).reverse ++ [.int r2])) (by rw [← hm01]; rfl) ?_
  refine law_model (post := PMI 0 r2 s') (n := 0) hC (c_X5_isSafe hst 0 t hMd) ⟨LT_in (by decide +kernel) (by decide +kernel), ws_X5_isSafe.1, ws_X5_isSafe.2.1, ws_X5_isSafe.2.2.1, ws_X5_isSafe.2.2.2⟩ (by decide +kernel) ⟨by exact Nat.le_of_ble_eq_true rfl, by exact Nat.le_of_ble_eq_true rfl⟩ rfl rfl rfl rfl rfl hL1 hS1 hl.1 (rest := [.int r2]) (by exact Nat.le_of_ble_eq_true rfl) hc hs (dAt dK_isSafe_ok 3 rfl) (fun v u1 ad3 ad4 H2 locs2 hp hL2 hS2 => ?_)
  cases v with
  | none => exact hp.elim
  | some v =>
  cases v with
  | inr _ => exact hp.elim
  | inl r3 =>
  have hp : ((0 : Nat) = 0 → r3 = r2) ∧ u1 = s' := hp
  obtain ⟨hq9, rfl⟩ := hp
  have hq8 := hq9 rfl
  subst hq8
  refine W.eq (g2 := F0 m 1604 ls [.int r3, .int r3]) rfl ?_
  exact lv_icmp_eq (tgt := 1609) hx hb (dAt dK_isSafe_ok 4 rfl) (by decide) (fun _ => K _ _ _ _ _ _ _ _ _ _ _ hI1 hL2 hS2 hl) (fun z => absurd rfl z)
end LAWK

/-! the law's loop, the law from its entry -/
def dLp : List (Nat × Instr × Nat) := [(23, .iload 4, 2), (25, .aload_n 0, 1), (26, .arraylength, 1), (27, .iconst 4, 1), (28, .isub, 1), (29, .if_icmp .gt 1586, 3), (32, .aload_n 0, 1), (33, .iload 4, 2), (35, .iaload, 1), (36, .bipush 31, 2), (38, .iand, 1), (1609, .iinc 4 4, 3), (1612, .goto (-1589), 3), (1615, .iconst 1, 1), (1616, .ireturn, 1)]
theorem dLp_ok : dOK dLp := by unfold dOK; decide +kernel
theorem d_law_39 : decode code 39 = .ok (.tableswitch 1570 0 22 #[105, 161, 217, 308, 376, 467, 523, 579, 647, 715, 806, 869, 925, 973, 1069, 1137, 1173, 1241, 1297, 1365, 1433, 1501, 1557], 105) := by decide +kernel
def dSt : List (Nat × Instr × Nat) := [(0, .new 8, 3), (3, .dup, 1), (4, .invokespecial 88, 3), (7, .astore_n 1, 1), (8, .new 89, 3), (11, .dup, 1), (12, .invokespecial 91, 3), (15, .astore_n 2, 1), (16, .iconst 1, 1), (17, .newarray .long, 2), (19, .astore_n 3, 1), (20, .iconst 0, 1), (21, .istore 4, 2)]
theorem dSt_ok : dOK dSt := by unfold dOK; decide +kernel
theorem lp_more {L n : Nat} (hL : L ≤ 2048) (h : ¬ nI L - 4 < nI (4 * n)) (hn : 4 * n ≤ L + 4) : 4 * n + 4 ≤ L := by
  rw [i_lt] at h
  have h4 : (4 : Int32).toInt = 4 := by decide +kernel
  have hl := nI_toInt (n := L) (by omega)
  have hr := nI_toInt (n := 4 * n) (by omega)
  have hs : (nI L - 4).toInt = (L : Int) - 4 := by rw [i_sub (by rw [hl, h4]; omega) (by rw [hl, h4]; omega), hl, h4]
  rw [hs, hr] at h
  omega
section LAWL
variable {p : Program} {l : Launch} {e : Env} {s : State} {m : MethodId} {below : List Frame} {meth : Method} {c : Code} {D : va_G} {X : Nat → ClassId} {b L : Nat} {xs : Nat → Int32} {o x0 m0 : Nat}
set_option maxHeartbeats 4000000 in
set_option maxRecDepth 100000 in
theorem law_loop (hC : LC p l s m c D X b L xs) (hr : meth.sig.returnType = ret) (hlocks : meth.locks = false) : ∀ (k q n np nb nz nt tk : Nat) (t : TT) (ad : Nat → Nat → Nat) (f : Nat → Int64) (H : Heap) (locs : List Loc) (ls : Array Slot) (cl sl : Nat), L + 4 < 4 * q + 4 * k → 4 * q ≤ L + 4 → n ≤ q → cl ≤ 37 + 5 * q → sl ≤ 10233 + 2030 * q → Inv n np nb nz nt tk t → LSt D X ad (AL s) np nb nz nt t t o f x0 m0 H → va_S (AL s) s.heap H locs → lv_has ls 7 (LV b x0 m0 o (4 * q)) → W p l e room_1 s m #[Value.ref b] below meth c H locs cl sl (lw_Z below #[Value.ref b] s) (F0 m 23 ls [])
  | 0, q, n, np, nb, nz, nt, tk, t, ad, f, H, locs, ls, cl, sl, hk, hq, hnq, hcl, hsl, hI, hW, hS, hl => absurd hk (by omega)
  | k + 1, q, n, np, nb, nz, nt, tk, t, ad, f, H, locs, ls, cl, sl, hk, hq, hnq, hcl, hsl, hI, hW, hS, hl => by
    obtain ⟨hx, hb, hml, hts, hown, hK, hE, hY, hX, hbl, hL9, hst⟩ := id hC
    have hbA : ¬ AL s b := Nat.not_le.mpr hbl
    refine lv_iload hx hb (dAt dLp_ok 0 rfl) (lv_at hl 0 rfl) ?_
    refine lv_aload_n hx hb (dAt dLp_ok 1 rfl) rfl (lv_at hl 4 rfl) ?_
    refine va_slen hx hb hX hbl hbA hS (dAt dLp_ok 2 rfl) ?_
    refine lv_iconst (v := 4) hx hb (dAt dLp_ok 3 rfl) (by decide +kernel) ?_
    refine lv_isub hx hb (dAt dLp_ok 4 rfl) ?_
    refine lv_icmp_gt (tgt := 1615) hx hb (dAt dLp_ok 5 rfl) (by decide) (fun _ => ?_) (fun z => ?_)
    · refine lv_iconst (v := 1) hx hb (dAt dLp_ok 13 rfl) (by decide +kernel) ?_
      refine va_forget hS.2.2 ?_
      refine W.widen (k := 601024) (n := 7293034) (by omega) (by omega) ?_
      exact lw_ret hx hb hr hlocks (dAt dLp_ok 14 rfl)
    · have hi : 4 * q + 4 ≤ L := lp_more hL9 z hq
      have fin : ∀ (n' np' nb' nz' nt' tk' : Nat) (t' : TT) (ad' : Nat → Nat → Nat) (f' : Nat → Int64) (H1 : Heap) (locs1 : List Loc) (ls1 : Array Slot), n' ≤ q + 1 → Inv n' np' nb' nz' nt' tk' t' → LSt D X ad' (AL s) np' nb' nz' nt' t' t' o f' x0 m0 H1 → va_S (AL s) s.heap H1 locs1 → lv_has ls1 7 (LV b x0 m0 o (4 * q)) → W p l e room_1 s m #[Value.ref b] below meth c H1 locs1 (cl + 5) (sl + 2030) (lw_Z below #[Value.ref b] s) (F0 m 1609 ls1 []) := by
        intro n' np' nb' nz' nt' tk' t' ad' f' H1 locs1 ls1 hn1 hI1 hW1 hS1 hl1
        refine lv_iinc (k := 0) (v := nI (4 * (q + 1))) (lv' := LV b x0 m0 o (4 * (q + 1))) hx hb (dAt dLp_ok 11 rfl) hl1 rfl (by rw [show Int32.ofInt 4 = nI 4 by decide +kernel, nI_add]; exact congrArg nI (by omega)) (by decide) rfl (fun ls2 hl2 => ?_)
        refine lv_goto hx hb (dAt dLp_ok 12 rfl) (tgt := 23) (by decide) ?_
        exact law_loop hC hr hlocks k (q + 1) n' np' nb' nz' nt' tk' t' ad' f' H1 locs1 ls2 (cl + 5) (sl + 2030) (by omega) (by omega) hn1 (by omega) (by omega) hI1 hW1 hS1 hl2
      have K : KK p l e s m below meth c (lw_Z below #[Value.ref b] s) D X b o x0 m0 (4 * q) n cl sl := fun ad' np' nb' nz' nt' tk' t' f' H1 locs1 ls1 h1 h2 h3 h4 => fin (n + 1) np' nb' nz' nt' tk' t' ad' f' H1 locs1 ls1 (by omega) h1 h2 h3 h4
      have hc5 : cl + 5 ≤ 601024 := by omega
      have hs5 : sl + 2030 ≤ 7293034 := by omega
      have hn5 : n < 512 := by omega
      refine lv_aload_n hx hb (dAt dLp_ok 6 rfl) rfl (lv_at hl 4 rfl) ?_
      refine lv_iload hx hb (dAt dLp_ok 7 rfl) (lv_at hl 0 rfl) ?_
      refine va_sld hx hb hX hbl hbA hS (vp0 (by omega) (by omega)) (dAt dLp_ok 8 rfl) ?_
      refine lv_bipush (v := 31) hx hb (dAt dLp_ok 9 rfl) (by decide +kernel) ?_
      refine lv_iand hx hb (dAt dLp_ok 10 rfl) ?_
      refine lv_topi (fun x ex => ?_)
      clear ex
      by_cases hout : x.toInt < 0 ∨ 22 < x.toInt
      · refine lv_tableOut hx hb d_law_39 hout (tgt := 1609) (by decide) ?_
        refine W.widen (k := cl + 5) (n := sl + 2030) (by omega) (by omega) ?_
        exact fin n np nb nz nt tk t ad f H locs ls (by omega) hI hW hS hl
      · have h1 : ¬ x.toInt < 0 := fun z => hout (Or.inl z)
        have h2 : ¬ 22 < x.toInt := fun z => hout (Or.inr z)
        have hcs : x.toInt = 0 ∨ x.toInt = 1 ∨ x.toInt = 2 ∨ x.toInt = 3 ∨ x.toInt = 4 ∨ x.toInt = 5 ∨ x.toInt = 6 ∨ x.toInt = 7 ∨ x.toInt = 8 ∨ x.toInt = 9 ∨ x.toInt = 10 ∨ x.toInt = 11 ∨ x.toInt = 12 ∨ x.toInt = 13 ∨ x.toInt = 14 ∨ x.toInt = 15 ∨ x.toInt = 16 ∨ x.toInt = 17 ∨ x.toInt = 18 ∨ x.toInt = 19 ∨ x.toInt = 20 ∨ x.toInt = 21 ∨ x.toInt = 22 := by omega
        rcases hcs with hv | hv | hv | hv | hv | hv | hv | hv | hv | hv | hv | hv | hv | hv | hv | hv | hv | hv | hv | hv | hv | hv | hv
        · exact lv_tableIn hx hb d_law_39 h1 h2 (off := 105) (by rw [hv]; rfl) (tgt := 144) (by decide) (law_platform hC hI hn5 hi hW hS hl hc5 hs5 K)
        · exact lv_tableIn hx hb d_law_39 h1 h2 (off := 161) (by rw [hv]; rfl) (tgt := 200) (by decide) (law_beacon hC hI hn5 hi hW hS hl hc5 hs5 K)
        · exact lv_tableIn hx hb d_law_39 h1 h2 (off := 217) (by rw [hv]; rfl) (tgt := 256) (by decide) (law_works hC hI hn5 hi hW hS hl hc5 hs5 K)
        · exact lv_tableIn hx hb d_law_39 h1 h2 (off := 308) (by rw [hv]; rfl) (tgt := 347) (by decide) (law_zone hC hI hn5 hi hW hS hl hc5 hs5 K)
        · exact lv_tableIn hx hb d_law_39 h1 h2 (off := 376) (by rw [hv]; rfl) (tgt := 415) (by decide) (law_close hC hI hn5 hi hW hS hl hc5 hs5 K)
        · exact lv_tableIn hx hb d_law_39 h1 h2 (off := 467) (by rw [hv]; rfl) (tgt := 506) (by decide) (law_speed hC hI hn5 hi hW hS hl hc5 hs5 K)
        · exact lv_tableIn hx hb d_law_39 h1 h2 (off := 523) (by rw [hv]; rfl) (tgt := 562) (by decide) (law_train hC hI hn5 hi hW hS hl hc5 hs5 K)
        · exact lv_tableIn hx hb d_law_39 h1 h2 (off := 579) (by rw [hv]; rfl) (tgt := 618) (by decide) (law_trainIs hC hI hn5 hi hW hS hl hc5 hs5 K)
        · exact lv_tableIn hx hb d_law_39 h1 h2 (off := 647) (by rw [hv]; rfl) (tgt := 686) (by decide) (law_slip hC hI hn5 hi hW hS hl hc5 hs5 K)
        · exact lv_tableIn hx hb d_law_39 h1 h2 (off := 715) (by rw [hv]; rfl) (tgt := 754) (by decide) (law_silent hC hI hn5 hi hW hS hl hc5 hs5 K)
        · exact lv_tableIn hx hb d_law_39 h1 h2 (off := 806) (by rw [hv]; rfl) (tgt := 845) (by decide) (law_emergency hC hI hn5 hi hW hS hl hc5 hs5 K)
        · exact lv_tableIn hx hb d_law_39 h1 h2 (off := 869) (by rw [hv]; rfl) (tgt := 908) (by decide) (law_pass hC hI hn5 hi hW hS hl hc5 hs5 K)
        · exact lv_tableIn hx hb d_law_39 h1 h2 (off := 925) (by rw [hv]; rfl) (tgt := 964) (by decide) (law_stop hC hI hn5 hi hW hS hl hc5 hs5 K)
        · exact lv_tableIn hx hb d_law_39 h1 h2 (off := 973) (by rw [hv]; rfl) (tgt := 1012) (by decide) (law_bar hC hI hn5 hi hW hS hl hc5 hs5 K)
        · exact lv_tableIn hx hb d_law_39 h1 h2 (off := 1069) (by rw [hv]; rfl) (tgt := 1108) (by decide) (law_open hC hI hn5 hi hW hS hl hc5 hs5 K)
        · exact lv_tableIn hx hb d_law_39 h1 h2 (off := 1137) (by rw [hv]; rfl) (tgt := 1176) (by decide) (law_shut hC hI hn5 hi hW hS hl hc5 hs5 K)
        · exact lv_tableIn hx hb d_law_39 h1 h2 (off := 1173) (by rw [hv]; rfl) (tgt := 1212) (by decide) (law_hold hC hI hn5 hi hW hS hl hc5 hs5 K)
        · exact lv_tableIn hx hb d_law_39 h1 h2 (off := 1241) (by rw [hv]; rfl) (tgt := 1280) (by decide) (law_depart hC hI hn5 hi hW hS hl hc5 hs5 K)
        · exact lv_tableIn hx hb d_law_39 h1 h2 (off := 1297) (by rw [hv]; rfl) (tgt := 1336) (by decide) (law_rate hC hI hn5 hi hW hS hl hc5 hs5 K)
        · exact lv_tableIn hx hb d_law_39 h1 h2 (off := 1365) (by rw [hv]; rfl) (tgt := 1404) (by decide) (law_platformIs hC hI hn5 hi hW hS hl hc5 hs5 K)
        · exact lv_tableIn hx hb d_law_39 h1 h2 (off := 1433) (by rw [hv]; rfl) (tgt := 1472) (by decide) (law_record hC hI hn5 hi hW hS hl hc5 hs5 K)
        · exact lv_tableIn hx hb d_law_39 h1 h2 (off := 1501) (by rw [hv]; rfl) (tgt := 1540) (by decide) (law_placeAnew hC hI hn5 hi hW hS hl hc5 hs5 K)
        · exact lv_tableIn hx hb d_law_39 h1 h2 (off := 1557) (by rw [hv]; rfl) (tgt := 1596) (by decide) (law_isSafe hC hI hn5 hi hW hS hl hc5 hs5 K)
end LAWL
set_option maxHeartbeats 4000000 in
set_option maxRecDepth 100000 in
/-- THE LAW, from its entry -/
theorem whole_start {p : Program} {e : Env} {s : State} {m : MethodId} {below : List Frame} {meth : Method} {c : Code} (l : Launch) (hflags : l.flags = flags0) {b L : Nat} {xs : Nat → Int32} (hL : L ≤ 2048) (C0 : lw_At p s m meth c b L xs) : W p l e room_1 s m #[Value.ref b] below meth c s.heap [] 0 0 (lw_Z below #[Value.ref b] s) (entryFrame m ([Value.ref b] : List Value).toArray 7) := by
  obtain ⟨hx, hb, hr, hml, hown, hts, hX, hbl, hlocks, hgv⟩ := id C0
  have hst : l.stackTraces = false := by
    unfold Launch.stackTraces
    rw [hflags]
    decide +kernel
  have hLT : ∀ w ∈ LT, w.before #[Value.ref b] s = true := fun w hw => hts w (List.mem_filter.mp hw).1
  have hA : ∀ q : Nat, s.heap.size ≤ q → AL s q := fun _ h => h
  have hbA : ¬ AL s b := Nat.not_le.mpr hbl
  obtain ⟨D, X, hK⟩ := start_K hts
  have hC : LC p l s m c D X b L xs := ⟨hx, hb, hml, hLT, hown, hK, start_E hts hgv, start_Y hts hgv, hX, hbl, hL, hst⟩
  have hAO1 : va_AO RX1 s := va_AO.of (hts (.arrayOver (.object RX1)) (by decide +kernel))
  have hAO0 : va_AO RX0 s := va_AO.of (hts (.arrayOver (.object RX0)) (by decide +kernel))
  have hAO3 : va_AO RX3 s := va_AO.of (hts (.arrayOver (.object RX3)) (by decide +kernel))
  have hAO2 : va_AO RX2 s := va_AO.of (hts (.arrayOver (.object RX2)) (by decide +kernel))
  have hS : va_S (AL s) s.heap s.heap [] := va_S.rf
  have hl := lv_entry ([.ref b]) (n := 7) (Nat.le_of_ble_eq_true rfl)
  rw [lg_entry_eq]
  generalize (lg_sl ([.ref b]) ++ List.replicate (7 - (lg_sl ([.ref b])).length) Slot.unset).toArray = ls at hl ⊢
  have hl : lv_has ls 7 [(0, .ref b)] := hl
  refine sw_new (C := RX4) (T := TX4) (N := 10) (ci := 4) (fs := [.null, .null, .null, .null, .int 0, .int 0, .int 0, .int 0, .int 0, .int 0]) hx hb hLT (obj_lays_lw (kp := 0) (by unfold isObj; omega)) tyX4 tyX4_ok hown (LT_in (by decide +kernel) (by decide +kernel)) (LT_in (by decide +kernel) (by decide +kernel)) (LT_in (by decide +kernel) (by decide +kernel)) hK hS rfl (fun j hj => by rcases (show j = 0 ∨ j = 1 ∨ j = 2 ∨ j = 3 ∨ j = 4 ∨ j = 5 ∨ j = 6 ∨ j = 7 ∨ j = 8 ∨ j = 9 by omega) with rfl | rfl | rfl | rfl | rfl | rfl | rfl | rfl | rfl | rfl <;> rfl) (Nat.le_of_ble_eq_true rfl) (Nat.le_of_ble_eq_true rfl) (dAt dSt_ok 0 rfl) (fun H1 hn1 hz1 ho1 hS1 => ?_)
  refine lv_dup hx hb (dAt dSt_ok 1 rfl) rfl ?_
  refine W.eq (g2 := F0 m 4 ls (([] : List Value).reverse ++ .ref s.heap.size :: [.ref s.heap.size])) rfl ?_
  refine sw_ctorG (G := fun U => va_AO RX1 U ∧ va_AO RX0 U ∧ va_AO RX3 U ∧ va_AO RX2 U) (q := s.heap.size) (n := 0) (As := []) (rest := [.ref s.heap.size]) hx hb hml hLT hown hK hA hS1 hn1 (Nat.le_refl _) (c_X4_init l D X s.heap.size H1.size) (fun a U g mk z => ⟨va_AO.moved (u := U) (U := U.calling g mk a) (Vm.Alike.refl U.vm) z.1, va_AO.moved (u := U) (U := U.calling g mk a) (Vm.Alike.refl U.vm) z.2.1, va_AO.moved (u := U) (U := U.calling g mk a) (Vm.Alike.refl U.vm) z.2.2.1, va_AO.moved (u := U) (U := U.calling g mk a) (Vm.Alike.refl U.vm) z.2.2.2⟩) (fun U hw => ⟨va_AO.moved hw.alike hAO1, va_AO.moved hw.alike hAO0, va_AO.moved hw.alike hAO3, va_AO.moved hw.alike hAO2⟩) (ix := 88) ⟨LT_in (by decide +kernel) (by decide +kernel), LT_in (by decide +kernel) (by decide +kernel), LT_in (by decide +kernel) (by decide +kernel), LT_in (by decide +kernel) (by decide +kernel)⟩ rfl (by decide +kernel) ⟨Nat.le_of_ble_eq_true rfl, Nat.le_of_ble_eq_true rfl⟩ rfl rfl rfl hl.1 (by exact Nat.le_of_ble_eq_true rfl) (dAt dSt_ok 2 rfl) (by exact Nat.le_of_ble_eq_true rfl) (by exact Nat.le_of_ble_eq_true rfl) (fun u2 t2 H2 locs2 e2 hB2 hz2 hk2 hS2 => ?_)
  subst e2
  obtain ⟨a0, a1, a2, a3⟩ := u2
  obtain ⟨hP2, hD2⟩ := hB2
  refine lv_astore_n (lv' := [(1, .ref s.heap.size), (0, .ref b)]) hx hb (dAt dSt_ok 3 rfl) rfl hl (by decide) rfl (fun ls1 hl1 => ?_)
  refine sw_new (C := RX5) (T := TX5) (N := 37) (ci := 5) (fs := [.int 0, .int 0, .int 0, .int 0, .null, .null, .null, .null, .null, .null, .null, .int 0, .null, .null, .int 0, .null, .null, .null, .int 0, .null, .null, .null, .null, .null, .null, .null, .null, .null, .null, .null, .null, .null, .null, .null, .null, .null, .null]) hx hb hLT (obj_lays_lw (kp := 20) (by unfold isObj; omega)) tyX5 tyX5_ok hown (LT_in (by decide +kernel) (by decide +kernel)) (LT_in (by decide +kernel) (by decide +kernel)) (LT_in (by decide +kernel) (by decide +kernel)) hK hS2 rfl (fun j hj => by
    match j, hj with
    | 0, _ => rfl
    | 1, _ => rfl
    | 2, _ => rfl
    | 3, _ => rfl
    | 4, _ => rfl
    | 5, _ => rfl
    | 6, _ => rfl
    | 7, _ => rfl
    | 8, _ => rfl
    | 9, _ => rfl
    | 10, _ => rfl
    | 11, _ => rfl
    | 12, _ => rfl
    | 13, _ => rfl
    | 14, _ => rfl
    | 15, _ => rfl
    | 16, _ => rfl
    | 17, _ => rfl
    | 18, _ => rfl
    | 19, _ => rfl
    | 20, _ => rfl
    | 21, _ => rfl
    | 22, _ => rfl
    | 23, _ => rfl
    | 24, _ => rfl
    | 25, _ => rfl
    | 26, _ => rfl
    | 27, _ => rfl
    | 28, _ => rfl
    | 29, _ => rfl
    | 30, _ => rfl
    | 31, _ => rfl
    | 32, _ => rfl
    | 33, _ => rfl
    | 34, _ => rfl
    | 35, _ => rfl
    | 36, _ => rfl
    | j + 37, hj => exact absurd hj (by omega)) (Nat.le_of_ble_eq_true rfl) (Nat.le_of_ble_eq_true rfl) (dAt dSt_ok 4 rfl) (fun H3 hn3 hz3 ho3 hS3 => ?_)
  refine lv_dup hx hb (dAt dSt_ok 5 rfl) rfl ?_
  refine W.eq (g2 := F0 m 12 ls1 (([] : List Value).reverse ++ .ref t2.heap.size :: [.ref t2.heap.size])) rfl ?_
  refine sw_ctor (q := t2.heap.size) (n := 0) (As := []) (rest := [.ref t2.heap.size]) hx hb hml hLT hown hK hA hS3 hn3 (hA _ hS2.1) (c_X5_init l D X t2.heap.size H3.size) (ix := 91) ⟨LT_in (by decide +kernel) (by decide +kernel), LT_in (by decide +kernel) (by decide +kernel), LT_in (by decide +kernel) (by decide +kernel), LT_in (by decide +kernel) (by decide +kernel)⟩ rfl (by decide +kernel) ⟨Nat.le_of_ble_eq_true rfl, Nat.le_of_ble_eq_true rfl⟩ rfl rfl rfl hl1.1 (by exact Nat.le_of_ble_eq_true rfl) (dAt dSt_ok 6 rfl) (by exact Nat.le_of_ble_eq_true rfl) (by exact Nat.le_of_ble_eq_true rfl) (fun u4 t4 H4 locs4 e4 hB4 hz4 hk4 hS4 => ?_)
  subst e4
  obtain ⟨q0, q1, q2, q3, q4, q5, q6, q7, q8, q9, q10, q11, q12, q13, q14, q15, q16, q17, q18, q19, q20, q21, q22, q23, q24, q25, q26, q27, q28, q29⟩ := u4
  obtain ⟨hP4, hD4⟩ := hB4
  refine lv_astore_n (lv' := [(2, .ref t2.heap.size), (1, .ref s.heap.size), (0, .ref b)]) hx hb (dAt dSt_ok 7 rfl) rfl hl1 (by decide) rfl (fun ls2 hl2 => ?_)
  refine lv_iconst (v := 1) hx hb (dAt dSt_ok 8 rfl) (by decide +kernel) ?_
  refine va_newaK (atype := .long) (N := 1) hx hb (hts (.arrayClass .long) (by decide +kernel)) rfl (dAt dSt_ok 9 rfl) rfl (by decide +kernel) (by decide +kernel) (by decide +kernel) (by exact Nat.le_of_ble_eq_true rfl) (by exact Nat.le_of_ble_eq_true rfl) rfl (fun H5 cA e5 z5 o5 _ hnm => ?_)
  have hcA : cA = X 30 := Option.some.inj (hnm.symm.trans (hK.2 7 (X 30, .long) rfl).2)
  subst hcA
  have hS5 : va_S (AL s) s.heap H5 locs4 := ⟨Nat.le_trans hS4.1 (by omega), fun x h1 h2 => (o5 x (Nat.lt_of_lt_of_le h1 hS4.1)).trans (hS4.2.1 x h1 h2), hS4.2.2⟩
  refine W.eq (g2 := F0 m 19 ls2 [.ref t4.heap.size]) rfl ?_
  refine lv_astore_n (lv' := [(3, .ref t4.heap.size), (2, .ref t2.heap.size), (1, .ref s.heap.size), (0, .ref b)]) hx hb (dAt dSt_ok 10 rfl) rfl hl2 (by decide) rfl (fun ls3 hl3 => ?_)
  refine lv_iconst (v := 0) hx hb (dAt dSt_ok 11 rfl) (by decide +kernel) ?_
  refine lv_istore (lv' := LV b s.heap.size t2.heap.size t4.heap.size 0) hx hb (dAt dSt_ok 12 rfl) hl3 (by decide) (by rw [show LV b s.heap.size t2.heap.size t4.heap.size 0 = [(4, .int 0), (3, .ref t4.heap.size), (2, .ref t2.heap.size), (1, .ref s.heap.size), (0, .ref b)] by unfold LV; rw [nI_0]]; rfl) (fun ls4 hl4 => ?_)
  have hlt2 := fun (k : Nat) (z : Nat × va_E) hz => (hP2 k z hz).lt
  have hlt4 := fun (k : Nat) (z : Nat × va_E) hz => (hP4 k z hz).lt
  have hP5 := hP4.kept (fun k z hz => o5 z.1 (hlt4 k z hz))
  have hP25 := hP2.kept (fun k z hz => (o5 z.1 (by have := hlt2 k z hz; omega)).trans ((hk4 z.1 (by have := hlt2 k z hz; omega) (by have := hlt2 k z hz; omega)).trans (ho3 z.1 (hlt2 k z hz))))
  have hM := start_M (B := AL s) (cL := [s.heap.size, a0, a1, a2, a3]) hP5 hD4 (fun q hq => by
    rcases hq with ⟨k, e9, h9⟩ | h9
    · match k, h9 with
      | 0, h9 => cases h9; exact hS2.1
      | k + 1, h9 => simp at h9
    · have := hS3.1
      show s.heap.size ≤ q
      omega)
  have hCl := start_C (B := AL s) (mL := [t2.heap.size, q0, q1, q2, q3, q4, q5, q6, q7, q8, q9, q10, q11, q12, q13, q14, q15, q16, q17, q18, q19, q20, q21, q22, q23, q24, q25, q26, q27, q28, q29]) hP25 hD2 (fun q hq => by
    rcases hq with ⟨k, e9, h9⟩ | h9
    · match k, h9 with
      | 0, h9 => cases h9; exact Nat.le_refl _
      | k + 1, h9 => simp at h9
    · have := hS1.1
      show s.heap.size ≤ q
      omega)
  have hltM : ∀ kp i, MM kp i = true → adS [s.heap.size, a0, a1, a2, a3] [t2.heap.size, q0, q1, q2, q3, q4, q5, q6, q7, q8, q9, q10, q11, q12, q13, q14, q15, q16, q17, q18, q19, q20, q21, q22, q23, q24, q25, q26, q27, q28, q29] kp i < t4.heap.size ∧ t2.heap.size ≤ adS [s.heap.size, a0, a1, a2, a3] [t2.heap.size, q0, q1, q2, q3, q4, q5, q6, q7, q8, q9, q10, q11, q12, q13, q14, q15, q16, q17, q18, q19, q20, q21, q22, q23, q24, q25, q26, q27, q28, q29] kp i := fun kp i h => by
    have hM4 := start_M (B := fun q => t2.heap.size ≤ q) (cL := [s.heap.size, a0, a1, a2, a3]) hP4 hD4 (fun q hq => by
      rcases hq with ⟨k, e9, h9⟩ | h9
      · match k, h9 with
        | 0, h9 => cases h9; exact Nat.le_refl _
        | k + 1, h9 => simp at h9
      · show t2.heap.size ≤ q
        omega)
    exact ⟨hM4.lt h, hM4.2.2.1 kp i h⟩
  have hltC : ∀ kp i, MS 0 0 0 0 kp i = true → adS [s.heap.size, a0, a1, a2, a3] [t2.heap.size, q0, q1, q2, q3, q4, q5, q6, q7, q8, q9, q10, q11, q12, q13, q14, q15, q16, q17, q18, q19, q20, q21, q22, q23, q24, q25, q26, q27, q28, q29] kp i < t2.heap.size := fun kp i h => (start_C (B := AL s) (mL := [t2.heap.size, q0, q1, q2, q3, q4, q5, q6, q7, q8, q9, q10, q11, q12, q13, q14, q15, q16, q17, q18, q19, q20, q21, q22, q23, q24, q25, q26, q27, q28, q29]) hP2 hD2 (fun q hq => by
    rcases hq with ⟨k, e9, h9⟩ | h9
    · match k, h9 with
      | 0, h9 => cases h9; exact Nat.le_refl _
      | k + 1, h9 => simp at h9
    · have := hS1.1
      show s.heap.size ≤ q
      omega)).lt h
  refine law_loop hC hr hlocks (L + 2) 0 0 0 0 0 0 0 tN0 (adS [s.heap.size, a0, a1, a2, a3] [t2.heap.size, q0, q1, q2, q3, q4, q5, q6, q7, q8, q9, q10, q11, q12, q13, q14, q15, q16, q17, q18, q19, q20, q21, q22, q23, q24, q25, q26, q27, q28, q29]) (fun _ => 0) H5 locs4 ls4 _ _ (by omega) (by omega) (Nat.le_refl 0) (by exact Nat.le_of_ble_eq_true rfl) (by exact Nat.le_of_ble_eq_true rfl) tN0_inv ⟨hCl, hM, fun kp i kq j h1 h2 h3 => ?_, e5, hS4.1, fun kp i h1 h3 => ?_, fun kp i h1 h3 => ?_, rfl, rfl⟩ hS5 hl4
  · have g1 := hltC kp i h1
    have g2 := hltM kq j h2
    omega
  · exact absurd h3 (Nat.ne_of_lt (Nat.lt_of_lt_of_le (hltC kp i h1) (Nat.le_trans (by rw [hz3]; exact Nat.le_succ _) hz4)))
  · exact absurd h3 (Nat.ne_of_lt (hltM kp i h1).1)

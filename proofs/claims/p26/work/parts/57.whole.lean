/-! printed (wip/p26/start.py): the walk of the law from its entry -/
theorem dL_law_0 : decode cL_law 0 = .ok (.new 10, 3) := by decide +kernel
theorem dL_law_3 : decode cL_law 3 = .ok (.dup, 1) := by decide +kernel
theorem dL_law_4 : decode cL_law 4 = .ok (.invokespecial 48, 3) := by decide +kernel
theorem dL_law_7 : decode cL_law 7 = .ok (.astore_n 1, 1) := by decide +kernel
theorem dL_law_8 : decode cL_law 8 = .ok (.iconst 4, 1) := by decide +kernel
theorem dL_law_9 : decode cL_law 9 = .ok (.newarray .int, 2) := by decide +kernel
theorem dL_law_11 : decode cL_law 11 = .ok (.astore_n 2, 1) := by decide +kernel
theorem dL_law_12 : decode cL_law 12 = .ok (.iconst 4, 1) := by decide +kernel
theorem dL_law_13 : decode cL_law 13 = .ok (.newarray .int, 2) := by decide +kernel
theorem dL_law_15 : decode cL_law 15 = .ok (.astore_n 3, 1) := by decide +kernel
theorem dL_law_16 : decode cL_law 16 = .ok (.iconst 0, 1) := by decide +kernel
theorem dL_law_17 : decode cL_law 17 = .ok (.istore 4, 2) := by decide +kernel
theorem dL_law_77 : decode cL_law 77 = .ok (.iconst 0, 1) := by decide +kernel
theorem dL_law_78 : decode cL_law 78 = .ok (.istore 4, 2) := by decide +kernel
theorem dL_law_122 : decode cL_law 122 = .ok (.iconst 0, 1) := by decide +kernel
theorem dL_law_123 : decode cL_law 123 = .ok (.istore 4, 2) := by decide +kernel
theorem dL_law_206 : decode cL_law 206 = .ok (.iconst 1, 1) := by decide +kernel
theorem dL_law_207 : decode cL_law 207 = .ok (.istore 4, 2) := by decide +kernel
theorem dL_law_209 : decode cL_law 209 = .ok (.iconst 0, 1) := by decide +kernel
theorem dL_law_210 : decode cL_law 210 = .ok (.istore 5, 2) := by decide +kernel
theorem dL_law_269 : decode cL_law 269 = .ok (.bipush 27, 2) := by decide +kernel
theorem dL_law_271 : decode cL_law 271 = .ok (.istore 5, 2) := by decide +kernel
set_option maxHeartbeats 4000000 in
theorem whole_start {p : Program} {e : Env} {s : State} {m : MethodId} {below : List Frame} {meth : Method} {c : Code} (l : Launch) (hflags : l.flags = flags0) {b L : Nat} {xs : Nat → Int32} (hL : L ≤ 260) (C0 : lw_At p s m meth c b L xs) : W p l e room_1 s m #[Value.ref b] below meth c s.heap [] 0 0 (lw_Z below #[Value.ref b] s) (entryFrame m ([Value.ref b] : List Value).toArray 10) := by
  obtain ⟨hx, hb, hr, hml, hown, hts, hX, hbl, hlocks, hgv⟩ := id C0
  have hst : l.stackTraces = false := by
    unfold Launch.stackTraces
    rw [hflags]
    decide +kernel
  have hLT : ∀ w ∈ LT, w.before #[Value.ref b] s = true := fun w hw => hts w (List.mem_filter.mp hw).1
  have hA : ∀ q : Nat, s.heap.size ≤ q → AL s q := fun _ h => h
  have hbA : ¬ AL s b := Nat.not_le.mpr hbl
  obtain ⟨D, X, hK⟩ := start_K hts
  have hC : LC p l s m c D X b L xs := ⟨hx, hb, hml, hLT, hown, hK, trivial, hX, hbl, hL, hst⟩
  have hAO1 : va_AO RX1 s := va_AO.of (hts (.arrayOver (.object RX1)) (by decide +kernel))
  have hAO0 : va_AO RX0 s := va_AO.of (hts (.arrayOver (.object RX0)) (by decide +kernel))
  have hAO3 : va_AO RX3 s := va_AO.of (hts (.arrayOver (.object RX3)) (by decide +kernel))
  have hAO2 : va_AO RX2 s := va_AO.of (hts (.arrayOver (.object RX2)) (by decide +kernel))
  have hS : va_S (AL s) s.heap s.heap [] := va_S.rf
  have hl := lv_entry ([.ref b]) (n := 10) (Nat.le_of_ble_eq_true rfl)
  rw [lg_entry_eq]
  generalize (lg_sl ([.ref b]) ++ List.replicate (10 - (lg_sl ([.ref b])).length) Slot.unset).toArray = ls at hl ⊢
  have hl : lv_has ls 10 [(0, .ref b)] := hl
  refine sw_new (C := RX4) (T := TX4) (N := 10) (ci := 4) (fs := [.null, .null, .null, .null, .int 0, .int 0, .int 0, .int 0, .int 0, .int 0]) hx hb hLT (obj_lays_lw (kp := 0) (by unfold isObj; omega)) tyX4 tyX4_ok hown (LT_in (by decide +kernel) (by decide +kernel)) (LT_in (by decide +kernel) (by decide +kernel)) (LT_in (by decide +kernel) (by decide +kernel)) hK hS rfl (fun j hj => by rcases (show j = 0 ∨ j = 1 ∨ j = 2 ∨ j = 3 ∨ j = 4 ∨ j = 5 ∨ j = 6 ∨ j = 7 ∨ j = 8 ∨ j = 9 by omega) with rfl | rfl | rfl | rfl | rfl | rfl | rfl | rfl | rfl | rfl <;> rfl) (Nat.le_of_ble_eq_true rfl) (Nat.le_of_ble_eq_true rfl) dL_law_0 (fun H1 hn1 hz1 ho1 hS1 => ?_)
  refine lv_dup hx hb dL_law_3 rfl ?_
  refine W.eq (g2 := F0 m 4 ls (([] : List Value).reverse ++ .ref s.heap.size :: [.ref s.heap.size])) rfl ?_
  refine sw_ctorG (G := fun U => va_AO RX1 U ∧ va_AO RX0 U ∧ va_AO RX3 U ∧ va_AO RX2 U) (q := s.heap.size) (n := 0) (As := []) (rest := [.ref s.heap.size]) hx hb hml hLT hown hK hA hS1 hn1 (Nat.le_refl _) (c_X4_init l D X s.heap.size H1.size) (fun a U g mk z => ⟨va_AO.moved (u := U) (U := U.calling g mk a) (Vm.Alike.refl U.vm) z.1, va_AO.moved (u := U) (U := U.calling g mk a) (Vm.Alike.refl U.vm) z.2.1, va_AO.moved (u := U) (U := U.calling g mk a) (Vm.Alike.refl U.vm) z.2.2.1, va_AO.moved (u := U) (U := U.calling g mk a) (Vm.Alike.refl U.vm) z.2.2.2⟩) (fun U hw => ⟨va_AO.moved hw.alike hAO1, va_AO.moved hw.alike hAO0, va_AO.moved hw.alike hAO3, va_AO.moved hw.alike hAO2⟩) (ix := 48) ⟨LT_in (by decide +kernel) (by decide +kernel), LT_in (by decide +kernel) (by decide +kernel), LT_in (by decide +kernel) (by decide +kernel), LT_in (by decide +kernel) (by decide +kernel)⟩ rfl (by decide +kernel) ⟨Nat.le_of_ble_eq_true rfl, Nat.le_of_ble_eq_true rfl⟩ rfl rfl rfl hl.1 (by exact Nat.le_of_ble_eq_true rfl) dL_law_4 (by exact Nat.le_of_ble_eq_true rfl) (by exact Nat.le_of_ble_eq_true rfl) (fun u2 t2 H2 locs2 e2 hB2 hz2 hk2 hS2 => ?_)
  subst e2
  obtain ⟨a0, a1, a2, a3⟩ := u2
  obtain ⟨hP2, hD2⟩ := hB2
  refine lv_astore_n (lv' := [(1, .ref s.heap.size), (0, .ref b)]) hx hb dL_law_7 rfl hl (by decide) rfl (fun ls1 hl1 => ?_)
  refine lv_iconst (v := 4) hx hb dL_law_8 (by decide +kernel) ?_
  refine va_newaK (atype := .int) (N := 4) hx hb (hts (.arrayClass .int) (by decide +kernel)) rfl dL_law_9 rfl (by decide +kernel) (by decide +kernel) (by decide +kernel) (by exact Nat.le_of_ble_eq_true rfl) (by exact Nat.le_of_ble_eq_true rfl) rfl (fun H3 cA9 e3 z3 o3 _ hnm9 => ?_)
  have hcA9 : cA9 = X 21 := Option.some.inj (hnm9.symm.trans (hK.2 5 (X 21, .int) rfl).2)
  subst hcA9
  have hS3 : va_S (AL s) s.heap H3 locs2 := ⟨Nat.le_trans hS2.1 (by omega), fun x h1 h2 => (o3 x (Nat.lt_of_lt_of_le h1 hS2.1)).trans (hS2.2.1 x h1 h2), hS2.2.2⟩
  refine W.eq (g2 := F0 m 11 ls1 [.ref t2.heap.size]) rfl ?_
  refine lv_astore_n (lv' := [(2, .ref t2.heap.size), (1, .ref s.heap.size), (0, .ref b)]) hx hb dL_law_11 rfl hl1 (by decide) rfl (fun ls2 hl2 => ?_)
  refine lv_iconst (v := 4) hx hb dL_law_12 (by decide +kernel) ?_
  refine va_newaK (atype := .int) (N := 4) hx hb (hts (.arrayClass .int) (by decide +kernel)) rfl dL_law_13 rfl (by decide +kernel) (by decide +kernel) (by decide +kernel) (by exact Nat.le_of_ble_eq_true rfl) (by exact Nat.le_of_ble_eq_true rfl) rfl (fun H4 cA13 e4 z4 o4 _ hnm13 => ?_)
  have hcA13 : cA13 = X 21 := Option.some.inj (hnm13.symm.trans (hK.2 5 (X 21, .int) rfl).2)
  subst hcA13
  have hS4 : va_S (AL s) s.heap H4 locs2 := ⟨Nat.le_trans hS3.1 (by omega), fun x h1 h2 => (o4 x (Nat.lt_of_lt_of_le h1 hS3.1)).trans (hS3.2.1 x h1 h2), hS3.2.2⟩
  refine W.eq (g2 := F0 m 15 ls2 [.ref H3.size]) rfl ?_
  refine lv_astore_n (lv' := [(3, .ref H3.size), (2, .ref t2.heap.size), (1, .ref s.heap.size), (0, .ref b)]) hx hb dL_law_15 rfl hl2 (by decide) rfl (fun ls3 hl3 => ?_)
  refine lv_iconst (v := 0) hx hb dL_law_16 (by decide +kernel) ?_
  refine lv_istore (lv' := [(4, .int (nI 0)), (3, .ref H3.size), (2, .ref t2.heap.size), (1, .ref s.heap.size), (0, .ref b)]) hx hb dL_law_17 hl3 (by decide) (by rw [nI_0]; rfl) (fun ls4 hl4 => ?_)
  have hlt2 := fun (k : Nat) (z : Nat × va_E) hz => (hP2 k z hz).lt
  have hP4 := hP2.kept (fun k z hz => (o4 z.1 (by have := hlt2 k z hz; omega)).trans (o3 z.1 (hlt2 k z hz)))
  have hCl := start_C (B := AL s) hP4 hD2 (fun q hq => by
    rcases hq with ⟨k, e9, h9⟩ | h9
    · match k, h9 with
      | 0, h9 => cases h9; exact Nat.le_refl _
      | k + 1, h9 => simp at h9
    · have := hS1.1
      show s.heap.size ≤ q
      omega)
  have hC2 := start_C (B := AL s) hP2 hD2 (fun q hq => by
    rcases hq with ⟨k, e9, h9⟩ | h9
    · match k, h9 with
      | 0, h9 => cases h9; exact Nat.le_refl _
      | k + 1, h9 => simp at h9
    · have := hS1.1
      show s.heap.size ≤ q
      omega)
  have at3 : va_at D vwCl (t2.heap.size, .inl (X 21, 4, .inl (fun _ => 0))) H3 := e3
  have at4 : va_at D vwCl (H3.size, .inl (X 21, 4, .inl (fun _ => 0))) H4 := e4
  have hL4 : LSt D X (adS [s.heap.size, a0, a1, a2, a3]) (AL s) 0 0 0 0 tN0 t2.heap.size H3.size (fun _ => 0) (fun _ => 0) s.heap.size H4 := ⟨hCl, at3.kept (o4 _ (by omega)), at4, hS2.1, hS3.1, by omega, fun kp i h => by
    have := hC2.lt h
    exact ⟨by omega, by omega⟩, rfl⟩
  have hG0 : GU 0 0 0 0 0 (fun _ => 0) (fun _ => 0) tN0 := ⟨tN0_inv, ⟨⟨fun i hi => by omega, fun i hi => by omega, fun z i hz => by omega⟩, fun z hz => by omega, fun i hi => by omega⟩, fun z hz => by omega, fun i hi => by omega⟩
  refine law_l1 hC (fun n t ad H locs ls cl sl f g hG hL hS hl hn hc hs => ?_) 6 0 rfl 0 tN0 _ H4 locs2 ls4 _ _ (fun _ => 0) (fun _ => 0) hG0 hL4 hS4 hl4 (by omega) (by exact Nat.le_of_ble_eq_true rfl) (by exact Nat.le_of_ble_eq_true rfl)
  refine lv_iconst (v := 0) hx hb dL_law_77 (by decide +kernel) ?_
  refine lv_istore (lv' := [(4, .int (nI 0)), (3, .ref H3.size), (2, .ref t2.heap.size), (1, .ref s.heap.size), (0, .ref b)]) hx hb dL_law_78 hl (by decide) (by rw [nI_0]; rfl) (fun lm0 hm0 => ?_)
  refine law_l2 hC (fun n t ad H locs ls cl sl f g hG hL hS hl hn hc hs => ?_) 12 0 rfl n t ad H locs lm0 cl sl f g hG hL hS hm0 (by omega) (by omega) (by omega)
  refine lv_iconst (v := 0) hx hb dL_law_122 (by decide +kernel) ?_
  refine lv_istore (lv' := [(4, .int (nI 0)), (3, .ref H3.size), (2, .ref t2.heap.size), (1, .ref s.heap.size), (0, .ref b)]) hx hb dL_law_123 hl (by decide) (by rw [nI_0]; rfl) (fun lm0 hm0 => ?_)
  refine law_l3 hC (fun n t ad H locs ls cl sl f g hG hL hS hl hn hc hs => ?_) 4 0 rfl n t ad H locs lm0 cl sl f g hG hL hS hm0 (by omega) (by omega) (by omega)
  refine lv_iconst (v := 1) hx hb dL_law_206 (by decide +kernel) ?_
  refine lv_istore (lv' := [(4, .int 1), (3, .ref H3.size), (2, .ref t2.heap.size), (1, .ref s.heap.size), (0, .ref b)]) hx hb dL_law_207 hl (by decide) rfl (fun lm0 hm0 => ?_)
  refine lv_iconst (v := 0) hx hb dL_law_209 (by decide +kernel) ?_
  refine lv_istore (lv' := [(5, .int (nI 0)), (4, .int 1), (3, .ref H3.size), (2, .ref t2.heap.size), (1, .ref s.heap.size), (0, .ref b)]) hx hb dL_law_210 hm0 (by decide) (by rw [nI_0]; rfl) (fun lm1 hm1 => ?_)
  refine law_l4 hC (fun n t ad H locs ls cl sl f g hG hL hS hl hn hc hs => ?_) 5 0 rfl n t ad H locs lm1 cl sl f g hG hL hS hm1 (by omega) (by omega) (by omega)
  refine lv_bipush (v := 27) hx hb dL_law_269 (by decide +kernel) ?_
  refine lv_istore (lv' := [(5, .int (nI 27)), (4, .int 1), (3, .ref H3.size), (2, .ref t2.heap.size), (1, .ref s.heap.size), (0, .ref b)]) hx hb dL_law_271 hl (by decide) rfl (fun lm0 hm0 => ?_)
  exact law_main hC hr hlocks (by omega) (by omega) 90 27 rfl (Nat.le_refl _) n 0 t ad H locs lm0 hG.done (by omega) (by omega) hL hS hm0

/-! printed (wip/p26/made.py): platform, beacon, zone of the class -/
theorem nle_of {a b : Nat} (h : nI a ≤ nI b) (ha : a < 2 ^ 31) (hb : b < 2 ^ 31) : a ≤ b := by
  rw [i_le, nI_toInt ha, nI_toInt hb] at h
  omega
theorem sw_get {p : Program} {l : Launch} {e : Env} {R : Room} {s : State} {m : MethodId} {args : Array Value} {below : List Frame} {meth : Method} {c : Code} {Q : State → Prop} {D : va_G} {X : Nat → ClassId} {ad : Nat → Nat → Nat} {A : Nat → Prop} {M : Nat → Nat → Bool} {b : ByteArray} {t : TT} {H : Heap} {locs : List Loc} {ls : Array Slot} {pc : Nat} {cl sl : Nat} {rest : List Value} (hx : p.tables.exec = Jvm.exec) (hb : c.code = b) {own : String} (hts : ∀ w ∈ LT, w.before args s = true) (hown : s.vm.findClass own = some m.cls) (hK : va_K D vwCl (TYX X) s) (hW : SW D X ad A M t H) {ix kp i k : Nat} {f : Nat × Nat} (hf : fldOK own ix (kp, k)) (hd : decode b pc = .ok (.getfield ix, 3)) (hi : M kp i = true) (he : (FL kp)[k]? = some f) (h : W p l e R s m args below meth c H locs cl sl Q (F0 m (pc + 3) ls (toV ad (fvv t i f) :: rest))) : W p l e R s m args below meth c H locs cl sl Q (F0 m pc ls (.ref (ad kp i) :: rest)) :=
  va_get (D := D) (ci := kci kp) (v := toV ad (fvv t i f)) (C := RXk kp) (T := TXk kp) (N := (FL kp).length) hx hb hts (obj_lays_lw hf.1) hown hK (SW.oneE hW hi (obj_cell hf.1 X ad M t i)) 0 rfl (obj_cl hf.1) k (List.getElem?_eq_some_iff.mp he).1 (hts _ hf.2) (fun _ h9 => h9) (by rw [List.getElem?_map, he]; rfl) hd h
theorem dX4_platform_0 : decode cX4_platform 0 = .ok (.iload_n 1, 1) := by decide +kernel
theorem dX4_platform_1 : decode cX4_platform 1 = .ok (.bipush 100, 2) := by decide +kernel
theorem dX4_platform_3 : decode cX4_platform 3 = .ok (.sipush 5000, 3) := by decide +kernel
theorem dX4_platform_6 : decode cX4_platform 6 = .ok (.invokestatic 37, 3) := by decide +kernel
theorem dX4_platform_9 : decode cX4_platform 9 = .ok (.aload_n 0, 1) := by decide +kernel
theorem dX4_platform_10 : decode cX4_platform 10 = .ok (.getfield 41, 3) := by decide +kernel
theorem dX4_platform_13 : decode cX4_platform 13 = .ok (.bipush 6, 2) := by decide +kernel
theorem dX4_platform_15 : decode cX4_platform 15 = .ok (.if_icmp .ge 7, 3) := by decide +kernel
theorem dX4_platform_18 : decode cX4_platform 18 = .ok (.iconst 1, 1) := by decide +kernel
theorem dX4_platform_19 : decode cX4_platform 19 = .ok (.goto 4, 3) := by decide +kernel
theorem dX4_platform_22 : decode cX4_platform 22 = .ok (.iconst 0, 1) := by decide +kernel
theorem dX4_platform_23 : decode cX4_platform 23 = .ok (.invokestatic 44, 3) := by decide +kernel
theorem dX4_platform_26 : decode cX4_platform 26 = .ok (.aload_n 0, 1) := by decide +kernel
theorem dX4_platform_27 : decode cX4_platform 27 = .ok (.getfield 11, 3) := by decide +kernel
theorem dX4_platform_30 : decode cX4_platform 30 = .ok (.aload_n 0, 1) := by decide +kernel
theorem dX4_platform_31 : decode cX4_platform 31 = .ok (.getfield 41, 3) := by decide +kernel
theorem dX4_platform_34 : decode cX4_platform 34 = .ok (.new 9, 3) := by decide +kernel
theorem dX4_platform_37 : decode cX4_platform 37 = .ok (.dup, 1) := by decide +kernel
theorem dX4_platform_38 : decode cX4_platform 38 = .ok (.aload_n 0, 1) := by decide +kernel
theorem dX4_platform_39 : decode cX4_platform 39 = .ok (.getfield 41, 3) := by decide +kernel
theorem dX4_platform_42 : decode cX4_platform 42 = .ok (.iload_n 1, 1) := by decide +kernel
theorem dX4_platform_43 : decode cX4_platform 43 = .ok (.invokespecial 48, 3) := by decide +kernel
theorem dX4_platform_46 : decode cX4_platform 46 = .ok (.aastore, 1) := by decide +kernel
theorem dX4_platform_47 : decode cX4_platform 47 = .ok (.aload_n 0, 1) := by decide +kernel
theorem dX4_platform_48 : decode cX4_platform 48 = .ok (.dup, 1) := by decide +kernel
theorem dX4_platform_49 : decode cX4_platform 49 = .ok (.getfield 41, 3) := by decide +kernel
theorem dX4_platform_52 : decode cX4_platform 52 = .ok (.iconst 1, 1) := by decide +kernel
theorem dX4_platform_53 : decode cX4_platform 53 = .ok (.iadd, 1) := by decide +kernel
theorem dX4_platform_54 : decode cX4_platform 54 = .ok (.putfield 41, 3) := by decide +kernel
theorem dX4_platform_57 : decode cX4_platform 57 = .ok (.aload_n 0, 1) := by decide +kernel
theorem dX4_platform_58 : decode cX4_platform 58 = .ok (.getfield 41, 3) := by decide +kernel
theorem dX4_platform_61 : decode cX4_platform 61 = .ok (.iconst 1, 1) := by decide +kernel
theorem dX4_platform_62 : decode cX4_platform 62 = .ok (.isub, 1) := by decide +kernel
theorem dX4_platform_63 : decode cX4_platform 63 = .ok (.ireturn, 1) := by decide +kernel
set_option maxHeartbeats 4000000 in
theorem c_X4_platform {l : Launch} (hst9 : l.stackTraces = false) (D : va_G) (X : Nat → ClassId) (ad : Nat → Nat → Nat) {n np nb nz nt tk : Nat} {t : TT} (hI : Inv n np nb nz nt tk t) (a : Int32) {post : Option VV → (Nat → Nat → Bool) → TT → Prop} {px : String → TT → Prop} (h10 : (a < 100 ∨ (¬ a < 100 ∧ ¬ a ≤ 5000)) → False) (h2 : ¬ a < 100 → a ≤ 5000 → np = 6 → False) (h3 : ¬ a < 100 → a ≤ 5000 → np < 6 → post (some (.inl (nI np))) (MS (np + 1) nb nz nt) (over (platS t np a))) : CE l yX4_platform (Cond.code yX4_platform cX4_platform 2 (some .int) :: LT) { frames := 8, cells := 1, slots := 8, locals := 150 } D X ad (MS np nb nz nt) [.inr (.inl (0, 0)), .inl a] (over t) 1 8 post px := by
  refine grow_of (by decide +kernel) (Nat.le_of_ble_eq_true rfl) ?_
  intro p e s m args below meth c A hx hb hml hts hown hK hnt hlocks hret hA hE
  have hcnt : over t 3 0 = nI np := by rw [ov_3]; exact hI.1.1
  have hcap : np ≤ 6 := hI.1.2.1
  have hT : ∀ i, i < nt → over t 26 i = -1 ∨ ∃ q, q < np ∧ q ≤ 5000 ∧ over t 26 i = nI q := fun i hi => by
    have h6 := hI.1.2.1
    rw [ov_26]
    exact (hI.2.2.2.1 i hi).2.2.1.imp id (fun ⟨q, q1, q2⟩ => ⟨q, q1, by omega, q2⟩)
  refine go_iload (f := 1) hx hb dX4_platform_0 rfl ?_
  refine go_bipush (v := 100) hx hb dX4_platform_1 (by decide +kernel) ?_
  refine go_sipush (v := 5000) hx hb dX4_platform_3 (by decide +kernel) ?_
  refine ge_call (n := 3) (k := fun v t1 => v = none ∧ t1 = over t ∧ ¬ a < 100 ∧ a ≤ 5000) hnt hlocks dX4_platform_6 (Nat.le_of_ble_eq_true rfl) (Nat.le_of_ble_eq_true rfl) (Nat.le_of_ble_eq_true rfl) (k_X4_askRange hx hb hml hts hown hK hA hE hst9 (by decide +kernel) ⟨Nat.le_of_ble_eq_true rfl, Nat.le_of_ble_eq_true rfl⟩ rfl rfl ?_) (fun v t1 hk => ?_)
  · show P_X4_askRange _ _ _ a 100 5000 (over t)
    rw [pc_askRange]
    by_cases g1 : a < 100
    · rw [if_pos g1]; exact h10 (Or.inl g1)
    · rw [if_neg g1]
      by_cases g2 : a ≤ 5000
      · rw [if_pos g2]; exact ⟨rfl, rfl, g1, g2⟩
      · rw [if_neg g2]; exact h10 (Or.inr ⟨g1, g2⟩)
  obtain ⟨rfl, rfl, r0a, r0b⟩ := hk
  refine go_aload (f := 0) hx hb dX4_platform_9 rfl ?_
  refine go_get (k := 4) hx hb hts hown hK (F_X4_ok 41 (0, 4) (by decide +kernel)) dX4_platform_10 MS_0 rfl rfl ?_
  refine go_bipush (v := 6) hx hb dX4_platform_13 (by decide +kernel) ?_
  refine go_icmp_ge hx hb dX4_platform_15 (tgt := 22) (by decide) (fun z => ?_) (fun z => ?_)
  · have hf : np = 6 := by
      have z2 : (6 : Int32) ≤ nI np := by rw [← hcnt]; exact z
      have := nle_of (a := 6) z2 (by omega) (by omega)
      omega
    refine go_iconst (v := 0) hx hb dX4_platform_22 (by decide +kernel) ?_
    refine ge_call (n := 1) (k := fun _ _ => False) hnt hlocks dX4_platform_23 (Nat.le_of_ble_eq_true rfl) (Nat.le_of_ble_eq_true rfl) (Nat.le_of_ble_eq_true rfl) (k_X4_askThat hx hb hml hts hown hK hA hE hst9 (by decide +kernel) ⟨Nat.le_of_ble_eq_true rfl, Nat.le_of_ble_eq_true rfl⟩ rfl rfl ?_) (fun v t1 hk => hk.elim)
    show P_X4_askThat (MS np nb nz nt) (fun _ => False) px 0 (over t)
    rw [pc_askThat, if_pos rfl]
    exact h2 r0a r0b hf
  · have hf : np < 6 := by
      refine Nat.lt_of_not_le fun z2 => z ?_
      show (6 : Int32) ≤ over t 3 0
      rw [hcnt]
      exact nI_le (a := 6) z2 (by omega)
    refine go_iconst (v := 1) hx hb dX4_platform_18 (by decide +kernel) ?_
    refine go_goto hx hb dX4_platform_19 (tgt := 23) (by decide) ?_
    refine ge_call (n := 1) (k := fun v t1 => v = none ∧ t1 = over t) hnt hlocks dX4_platform_23 (Nat.le_of_ble_eq_true rfl) (Nat.le_of_ble_eq_true rfl) (Nat.le_of_ble_eq_true rfl) (k_X4_askThat hx hb hml hts hown hK hA hE hst9 (by decide +kernel) ⟨Nat.le_of_ble_eq_true rfl, Nat.le_of_ble_eq_true rfl⟩ rfl rfl ?_) (fun v t1 hk => ?_)
    · show P_X4_askThat (MS np nb nz nt) _ px 1 (over t)
      rw [pc_askThat, if_neg (by rw [i10]; exact id)]
      exact ⟨rfl, rfl⟩
    obtain ⟨rfl, rfl⟩ := hk
    refine go_aload (f := 0) hx hb dX4_platform_26 rfl ?_
    refine go_get (k := 0) hx hb hts hown hK (F_X4_ok 11 (0, 0) (by decide +kernel)) dX4_platform_27 MS_0 rfl rfl ?_
    refine go_aload (f := 0) hx hb dX4_platform_30 rfl ?_
    refine go_get (k := 4) hx hb hts hown hK (F_X4_ok 41 (0, 4) (by decide +kernel)) dX4_platform_31 MS_0 rfl rfl ?_
    intro H locs ls hW hS hl
    have hl0 : ls[0]? = some (.val (.ref (ad 0 0))) := at_loc hl (k := 0) (v := .inr (.inl (0, 0))) rfl
    have hl1 : ls[1]? = some (.val (.int a)) := at_loc hl (k := 1) (v := .inl a) rfl
    refine W.eq (g2 := F0 m 34 ls [.int (nI np), .ref (ad 1 0)]) (by rw [← hcnt]; rfl) ?_
    refine sw_new (C := RX1) (T := TX1) (N := 8) (ci := 1) (fs := [.int 0, .int 0, .int 0, .int 0, .int 0, .int 0, .int 0, .int 0]) hx hb hts (obj_lays_lw (kp := 5) (by unfold isObj; omega)) tyX1 tyX1_ok hown (LT_in (by decide +kernel) (by decide +kernel)) (LT_in (by decide +kernel) (by decide +kernel)) (LT_in (by decide +kernel) (by decide +kernel)) hK hS rfl (fun j hj => by rcases (show j = 0 ∨ j = 1 ∨ j = 2 ∨ j = 3 ∨ j = 4 ∨ j = 5 ∨ j = 6 ∨ j = 7 by omega) with rfl | rfl | rfl | rfl | rfl | rfl | rfl | rfl <;> rfl) (Nat.le_of_ble_eq_true rfl) (Nat.le_of_ble_eq_true rfl) dX4_platform_34 (fun H1 hn1 hz1 ho1 hS1 => ?_)
    have hW1 := hW.kept (fun kp i hi => ho1 _ (hW.lt hi))
    refine lv_dup hx hb dX4_platform_37 rfl ?_
    refine lv_aload_n hx hb dX4_platform_38 rfl hl0 ?_
    refine sw_get (k := 4) hx hb hts hown hK hW1 (F_X4_ok 41 (0, 4) (by decide +kernel)) dX4_platform_39 MS_0 rfl ?_
    refine W.eq (g2 := F0 m 42 ls [.int (nI np), .ref H.size, .ref H.size, .int (nI np), .ref (ad 1 0)]) (by rw [← hcnt]; rfl) ?_
    refine lv_iload_n hx hb dX4_platform_42 rfl hl1 ?_
    refine W.eq (g2 := F0 m 43 ls (([.int (nI np), .int a] : List Value).reverse ++ .ref H.size :: [.ref H.size, .int (nI np), .ref (ad 1 0)])) rfl ?_
    refine sw_ctor (q := H.size) (n := 2) (As := [.int (nI np), .int a]) (rest := [.ref H.size, .int (nI np), .ref (ad 1 0)]) hx hb hml hts hown hK hA hS1 hn1 (hA _ hS.1) (c_X1_init l D X H.size H1.size (nI np) a) (ix := 48) ⟨LT_in (by decide +kernel) (by decide +kernel), LT_in (by decide +kernel) (by decide +kernel), LT_in (by decide +kernel) (by decide +kernel), LT_in (by decide +kernel) (by decide +kernel)⟩ rfl (by decide +kernel) ⟨Nat.le_of_ble_eq_true rfl, Nat.le_of_ble_eq_true rfl⟩ rfl rfl rfl hl.1 (by exact Nat.le_of_ble_eq_true rfl) dX4_platform_43 (by exact Nat.le_of_ble_eq_true rfl) (by exact Nat.le_of_ble_eq_true rfl) (fun u2 t2 H2 locs2 e2 hB2 hz2 hk2 hS2 => ?_)
    subst e2
    have hob := hB2.1 0 _ rfl
    have harr0 : va_at D vwCl (ad 1 0, cellE X ad (MS np nb nz nt) (over t) 1 0) H1 := hW1.1 1 0 (MS_mk (by omega))
    have hlt := hW.lt (kp := 1) (i := 0) (MS_mk (by omega))
    have harr2 := va_at.kept harr0 (hk2 _ (by omega) (by omega))
    refine sw_aast (t0 := 0) hx hb hK harr2 hob rfl rfl hS2 (hW.2.2.1 1 0 (MS_mk (by omega))) (vp0 hf (by omega)) dX4_platform_46 (fun H3 locs3 ha3 hk3 hS3 => ?_)
    rw [cl0 (n := np) (by omega)] at ha3
    have z40 : over t 40 np = nI np := rfl
    have z10 : over t 10 np = 0 := by rw [ov_10]; exact hI.2.2.2.2.2.2.2.2.2.1 10 np (Nat.le_refl np) (by omega) (by omega)
    have z5 : over t 5 np = 0 := by rw [ov_5]; exact hI.2.2.2.2.2.2.2.2.2.1 5 np (Nat.le_refl np) (by omega) (by omega)
    have z6 : over t 6 np = 0 := by rw [ov_6]; exact hI.2.2.2.2.2.2.2.2.2.1 6 np (Nat.le_refl np) (by omega) (by omega)
    have z7 : over t 7 np = 0 := by rw [ov_7]; exact hI.2.2.2.2.2.2.2.2.2.1 7 np (Nat.le_refl np) (by omega) (by omega)
    have z8 : over t 8 np = 0 := by rw [ov_8]; exact hI.2.2.2.2.2.2.2.2.2.1 8 np (Nat.le_refl np) (by omega) (by omega)
    have z9 : over t 9 np = -1 := by
      show (if t 7 np < 2 then -1 else t 9 np) = -1
      rw [hI.2.2.2.2.2.2.2.2.2.1 7 np (Nat.le_refl np) (by omega) (by omega), if_pos (by decide +kernel)]
    have hW3 := SW_grow5 hW (hA _ hS.1) hT z40 z10 z5 z6 z7 z8 z9 (va_at.kept hob (hk3 _ (by show H.size ≠ _; omega))) ha3 (fun x h9 h99 => (hk3 x h99).trans ((hk2 x (by omega) (by omega)).trans (ho1 x h9)))
    have had0 : up2 ad 5 np H.size 0 0 = ad 0 0 := up2_ne (by omega)
    have hl3 : lv_has ls 2 (locV (up2 ad 5 np H.size) [(0, .inr (.inl (0, 0))), (1, .inl a)]) := by
      show lv_has ls 2 [(0, .ref (up2 ad 5 np H.size 0 0)), (1, .int a)]
      rw [had0]
      exact hl
    have hc3 : (up2 (over t) 4 np a) 3 0 = nI np := by rw [up2_ne (show ¬ (3 = 4 ∧ 0 = np) by omega)]; exact hcnt
    have hfin : (up2 (up2 (over t) 4 np a) 3 0 ((up2 (over t) 4 np a) 3 0 + 1)) = over (platS t np a) := by
      rw [hc3, nI_1]
      unfold platS
      rw [← over_up rfl, ← over_up rfl, over_thr]
    have tail : Wat p l e { frames := 8, cells := 1, slots := 8, locals := 150 } s m args below meth c (GM below args s D X ad A (MS np nb nz nt) 1 8 post px) D X (up2 ad 5 np H.size) A (MS (np + 1) nb nz nt) 2 47 [(0, .inr (.inl (0, 0))), (1, .inl a)] [] (up2 (over t) 4 np a) 1 8 := by
      refine go_aload (f := 0) hx hb dX4_platform_47 rfl ?_
      refine go_dup hx hb dX4_platform_48 ?_
      refine go_get (k := 4) hx hb hts hown hK (F_X4_ok 41 (0, 4) (by decide +kernel)) dX4_platform_49 MS_0 rfl rfl ?_
      refine go_iconst (v := 1) hx hb dX4_platform_52 (by decide +kernel) ?_
      refine go_iadd hx hb dX4_platform_53 ?_
      refine go_put (k := 4) (f := (0, 3)) (i := 0) hx hb hts hown hK (F_X4_ok 41 (0, 4) (by decide +kernel)) rfl dX4_platform_54 MS_0 rfl rfl (Or.inl rfl) (by show Value.int _ = Value.int _; rw [up2_same]) rfl rfl ?_
      refine go_aload (f := 0) hx hb dX4_platform_57 rfl ?_
      refine go_get (k := 4) hx hb hts hown hK (F_X4_ok 41 (0, 4) (by decide +kernel)) dX4_platform_58 MS_0 rfl rfl ?_
      refine go_iconst (v := 1) hx hb dX4_platform_61 (by decide +kernel) ?_
      refine go_isub hx hb dX4_platform_62 ?_
      intro H4 locs4 ls4 hW4 hS4 hl4
      rw [hfin] at hW4
      have hr4 : ((up2 (over t) 4 np a) 3 0 + 1) - 1 = nI np := by rw [hc3, nI_1, made_sub]
      refine W.eq (g2 := F0 m 63 ls4 [.int (nI np)]) (by rw [← hr4]; show F0 m _ ls4 [Value.int ((up2 (up2 (over t) 4 np a) 3 0 ((up2 (over t) 4 np a) 3 0 + 1)) 3 0 - 1)] = _; rw [up2_same]) ?_
      refine vx_ret (W.iret hx hb hret (fun u hu hw => ⟨⟨some (.inl (nI np)), _, up2 ad 5 np H.size, (MS (np + 1) nb nz nt), rfl, h3 r0a r0b hf, ⟨fun kp i h => ⟨MS_mk (by have := MS_cases h; omega), up2_ne (fun z => by have := MS_cases h; omega)⟩, fun kp i g1 g2 => ?_⟩, by rw [hu]; exact hW4⟩, hS4.F hu⟩) hS4.2.2 dX4_platform_63 hlocks)
      have e9 : kp = 5 ∧ i = np := by
        refine Classical.byContradiction fun z => ?_
        rw [MS_mk (by have := MS_cases g1; omega)] at g2
        cases g2
      rw [e9.1, e9.2, up2_same]
      exact hS.1
    exact tail H3 locs3 ls hW3 hS3 hl3
theorem dX4_beacon_0 : decode cX4_beacon 0 = .ok (.iload_n 1, 1) := by decide +kernel
theorem dX4_beacon_1 : decode cX4_beacon 1 = .ok (.iconst 0, 1) := by decide +kernel
theorem dX4_beacon_2 : decode cX4_beacon 2 = .ok (.sipush 5000, 3) := by decide +kernel
theorem dX4_beacon_5 : decode cX4_beacon 5 = .ok (.invokestatic 37, 3) := by decide +kernel
theorem dX4_beacon_8 : decode cX4_beacon 8 = .ok (.aload_n 0, 1) := by decide +kernel
theorem dX4_beacon_9 : decode cX4_beacon 9 = .ok (.getfield 51, 3) := by decide +kernel
theorem dX4_beacon_12 : decode cX4_beacon 12 = .ok (.bipush 12, 2) := by decide +kernel
theorem dX4_beacon_14 : decode cX4_beacon 14 = .ok (.if_icmp .ge 7, 3) := by decide +kernel
theorem dX4_beacon_17 : decode cX4_beacon 17 = .ok (.iconst 1, 1) := by decide +kernel
theorem dX4_beacon_18 : decode cX4_beacon 18 = .ok (.goto 4, 3) := by decide +kernel
theorem dX4_beacon_21 : decode cX4_beacon 21 = .ok (.iconst 0, 1) := by decide +kernel
theorem dX4_beacon_22 : decode cX4_beacon 22 = .ok (.invokestatic 44, 3) := by decide +kernel
theorem dX4_beacon_25 : decode cX4_beacon 25 = .ok (.aload_n 0, 1) := by decide +kernel
theorem dX4_beacon_26 : decode cX4_beacon 26 = .ok (.getfield 17, 3) := by decide +kernel
theorem dX4_beacon_29 : decode cX4_beacon 29 = .ok (.aload_n 0, 1) := by decide +kernel
theorem dX4_beacon_30 : decode cX4_beacon 30 = .ok (.getfield 51, 3) := by decide +kernel
theorem dX4_beacon_33 : decode cX4_beacon 33 = .ok (.new 15, 3) := by decide +kernel
theorem dX4_beacon_36 : decode cX4_beacon 36 = .ok (.dup, 1) := by decide +kernel
theorem dX4_beacon_37 : decode cX4_beacon 37 = .ok (.iload_n 1, 1) := by decide +kernel
theorem dX4_beacon_38 : decode cX4_beacon 38 = .ok (.invokespecial 54, 3) := by decide +kernel
theorem dX4_beacon_41 : decode cX4_beacon 41 = .ok (.aastore, 1) := by decide +kernel
theorem dX4_beacon_42 : decode cX4_beacon 42 = .ok (.aload_n 0, 1) := by decide +kernel
theorem dX4_beacon_43 : decode cX4_beacon 43 = .ok (.dup, 1) := by decide +kernel
theorem dX4_beacon_44 : decode cX4_beacon 44 = .ok (.getfield 51, 3) := by decide +kernel
theorem dX4_beacon_47 : decode cX4_beacon 47 = .ok (.iconst 1, 1) := by decide +kernel
theorem dX4_beacon_48 : decode cX4_beacon 48 = .ok (.iadd, 1) := by decide +kernel
theorem dX4_beacon_49 : decode cX4_beacon 49 = .ok (.putfield 51, 3) := by decide +kernel
theorem dX4_beacon_52 : decode cX4_beacon 52 = .ok (.aload_n 0, 1) := by decide +kernel
theorem dX4_beacon_53 : decode cX4_beacon 53 = .ok (.getfield 51, 3) := by decide +kernel
theorem dX4_beacon_56 : decode cX4_beacon 56 = .ok (.iconst 1, 1) := by decide +kernel
theorem dX4_beacon_57 : decode cX4_beacon 57 = .ok (.isub, 1) := by decide +kernel
theorem dX4_beacon_58 : decode cX4_beacon 58 = .ok (.ireturn, 1) := by decide +kernel
set_option maxHeartbeats 4000000 in
theorem c_X4_beacon {l : Launch} (hst9 : l.stackTraces = false) (D : va_G) (X : Nat → ClassId) (ad : Nat → Nat → Nat) {n np nb nz nt tk : Nat} {t : TT} (hI : Inv n np nb nz nt tk t) (a : Int32) {post : Option VV → (Nat → Nat → Bool) → TT → Prop} {px : String → TT → Prop} (h10 : (a < 0 ∨ (¬ a < 0 ∧ ¬ a ≤ 5000)) → False) (h2 : ¬ a < 0 → a ≤ 5000 → nb = 12 → False) (h3 : ¬ a < 0 → a ≤ 5000 → nb < 12 → post (some (.inl (nI nb))) (MS np (nb + 1) nz nt) (over (beaS t nb a))) : CE l yX4_beacon (Cond.code yX4_beacon cX4_beacon 2 (some .int) :: LT) { frames := 8, cells := 1, slots := 2, locals := 150 } D X ad (MS np nb nz nt) [.inr (.inl (0, 0)), .inl a] (over t) 1 2 post px := by
  refine grow_of (by decide +kernel) (Nat.le_of_ble_eq_true rfl) ?_
  intro p e s m args below meth c A hx hb hml hts hown hK hnt hlocks hret hA hE
  have hcnt : over t 11 0 = nI nb := by rw [ov_11]; exact hI.1.2.2.1
  have hcap : nb ≤ 12 := hI.1.2.2.2.1
  have hT : ∀ i, i < nt → over t 26 i = -1 ∨ ∃ q, q < np ∧ q ≤ 5000 ∧ over t 26 i = nI q := fun i hi => by
    have h6 := hI.1.2.1
    rw [ov_26]
    exact (hI.2.2.2.1 i hi).2.2.1.imp id (fun ⟨q, q1, q2⟩ => ⟨q, q1, by omega, q2⟩)
  refine go_iload (f := 1) hx hb dX4_beacon_0 rfl ?_
  refine go_iconst (v := 0) hx hb dX4_beacon_1 (by decide +kernel) ?_
  refine go_sipush (v := 5000) hx hb dX4_beacon_2 (by decide +kernel) ?_
  refine ge_call (n := 3) (k := fun v t1 => v = none ∧ t1 = over t ∧ ¬ a < 0 ∧ a ≤ 5000) hnt hlocks dX4_beacon_5 (Nat.le_of_ble_eq_true rfl) (Nat.le_of_ble_eq_true rfl) (Nat.le_of_ble_eq_true rfl) (k_X4_askRange hx hb hml hts hown hK hA hE hst9 (by decide +kernel) ⟨Nat.le_of_ble_eq_true rfl, Nat.le_of_ble_eq_true rfl⟩ rfl rfl ?_) (fun v t1 hk => ?_)
  · show P_X4_askRange _ _ _ a 0 5000 (over t)
    rw [pc_askRange]
    by_cases g1 : a < 0
    · rw [if_pos g1]; exact h10 (Or.inl g1)
    · rw [if_neg g1]
      by_cases g2 : a ≤ 5000
      · rw [if_pos g2]; exact ⟨rfl, rfl, g1, g2⟩
      · rw [if_neg g2]; exact h10 (Or.inr ⟨g1, g2⟩)
  obtain ⟨rfl, rfl, r0a, r0b⟩ := hk
  refine go_aload (f := 0) hx hb dX4_beacon_8 rfl ?_
  refine go_get (k := 5) hx hb hts hown hK (F_X4_ok 51 (0, 5) (by decide +kernel)) dX4_beacon_9 MS_0 rfl rfl ?_
  refine go_bipush (v := 12) hx hb dX4_beacon_12 (by decide +kernel) ?_
  refine go_icmp_ge hx hb dX4_beacon_14 (tgt := 21) (by decide) (fun z => ?_) (fun z => ?_)
  · have hf : nb = 12 := by
      have z2 : (12 : Int32) ≤ nI nb := by rw [← hcnt]; exact z
      have := nle_of (a := 12) z2 (by omega) (by omega)
      omega
    refine go_iconst (v := 0) hx hb dX4_beacon_21 (by decide +kernel) ?_
    refine ge_call (n := 1) (k := fun _ _ => False) hnt hlocks dX4_beacon_22 (Nat.le_of_ble_eq_true rfl) (Nat.le_of_ble_eq_true rfl) (Nat.le_of_ble_eq_true rfl) (k_X4_askThat hx hb hml hts hown hK hA hE hst9 (by decide +kernel) ⟨Nat.le_of_ble_eq_true rfl, Nat.le_of_ble_eq_true rfl⟩ rfl rfl ?_) (fun v t1 hk => hk.elim)
    show P_X4_askThat (MS np nb nz nt) (fun _ => False) px 0 (over t)
    rw [pc_askThat, if_pos rfl]
    exact h2 r0a r0b hf
  · have hf : nb < 12 := by
      refine Nat.lt_of_not_le fun z2 => z ?_
      show (12 : Int32) ≤ over t 11 0
      rw [hcnt]
      exact nI_le (a := 12) z2 (by omega)
    refine go_iconst (v := 1) hx hb dX4_beacon_17 (by decide +kernel) ?_
    refine go_goto hx hb dX4_beacon_18 (tgt := 22) (by decide) ?_
    refine ge_call (n := 1) (k := fun v t1 => v = none ∧ t1 = over t) hnt hlocks dX4_beacon_22 (Nat.le_of_ble_eq_true rfl) (Nat.le_of_ble_eq_true rfl) (Nat.le_of_ble_eq_true rfl) (k_X4_askThat hx hb hml hts hown hK hA hE hst9 (by decide +kernel) ⟨Nat.le_of_ble_eq_true rfl, Nat.le_of_ble_eq_true rfl⟩ rfl rfl ?_) (fun v t1 hk => ?_)
    · show P_X4_askThat (MS np nb nz nt) _ px 1 (over t)
      rw [pc_askThat, if_neg (by rw [i10]; exact id)]
      exact ⟨rfl, rfl⟩
    obtain ⟨rfl, rfl⟩ := hk
    refine go_aload (f := 0) hx hb dX4_beacon_25 rfl ?_
    refine go_get (k := 1) hx hb hts hown hK (F_X4_ok 17 (0, 1) (by decide +kernel)) dX4_beacon_26 MS_0 rfl rfl ?_
    refine go_aload (f := 0) hx hb dX4_beacon_29 rfl ?_
    refine go_get (k := 5) hx hb hts hown hK (F_X4_ok 51 (0, 5) (by decide +kernel)) dX4_beacon_30 MS_0 rfl rfl ?_
    intro H locs ls hW hS hl
    have hl0 : ls[0]? = some (.val (.ref (ad 0 0))) := at_loc hl (k := 0) (v := .inr (.inl (0, 0))) rfl
    have hl1 : ls[1]? = some (.val (.int a)) := at_loc hl (k := 1) (v := .inl a) rfl
    refine W.eq (g2 := F0 m 33 ls [.int (nI nb), .ref (ad 2 0)]) (by rw [← hcnt]; rfl) ?_
    refine sw_new (C := RX0) (T := TX0) (N := 2) (ci := 0) (fs := [.int 0, .int 0]) hx hb hts (obj_lays_lw (kp := 6) (by unfold isObj; omega)) tyX0 tyX0_ok hown (LT_in (by decide +kernel) (by decide +kernel)) (LT_in (by decide +kernel) (by decide +kernel)) (LT_in (by decide +kernel) (by decide +kernel)) hK hS rfl (fun j hj => by rcases (show j = 0 ∨ j = 1 by omega) with rfl | rfl <;> rfl) (Nat.le_of_ble_eq_true rfl) (Nat.le_of_ble_eq_true rfl) dX4_beacon_33 (fun H1 hn1 hz1 ho1 hS1 => ?_)
    have hW1 := hW.kept (fun kp i hi => ho1 _ (hW.lt hi))
    refine lv_dup hx hb dX4_beacon_36 rfl ?_
    refine lv_iload_n hx hb dX4_beacon_37 rfl hl1 ?_
    refine W.eq (g2 := F0 m 38 ls (([.int a] : List Value).reverse ++ .ref H.size :: [.ref H.size, .int (nI nb), .ref (ad 2 0)])) rfl ?_
    refine sw_ctor (q := H.size) (n := 1) (As := [.int a]) (rest := [.ref H.size, .int (nI nb), .ref (ad 2 0)]) hx hb hml hts hown hK hA hS1 hn1 (hA _ hS.1) (c_X0_init l D X H.size H1.size a) (ix := 54) ⟨LT_in (by decide +kernel) (by decide +kernel), LT_in (by decide +kernel) (by decide +kernel), LT_in (by decide +kernel) (by decide +kernel), LT_in (by decide +kernel) (by decide +kernel)⟩ rfl (by decide +kernel) ⟨Nat.le_of_ble_eq_true rfl, Nat.le_of_ble_eq_true rfl⟩ rfl rfl rfl hl.1 (by exact Nat.le_of_ble_eq_true rfl) dX4_beacon_38 (by exact Nat.le_of_ble_eq_true rfl) (by exact Nat.le_of_ble_eq_true rfl) (fun u2 t2 H2 locs2 e2 hB2 hz2 hk2 hS2 => ?_)
    subst e2
    have hob := hB2.1 0 _ rfl
    have harr0 : va_at D vwCl (ad 2 0, cellE X ad (MS np nb nz nt) (over t) 2 0) H1 := hW1.1 2 0 (MS_mk (by omega))
    have hlt := hW.lt (kp := 2) (i := 0) (MS_mk (by omega))
    have harr2 := va_at.kept harr0 (hk2 _ (by omega) (by omega))
    refine sw_aast (t0 := 1) hx hb hK harr2 hob rfl rfl hS2 (hW.2.2.1 2 0 (MS_mk (by omega))) (vp0 hf (by omega)) dX4_beacon_41 (fun H3 locs3 ha3 hk3 hS3 => ?_)
    rw [cl0 (n := nb) (by omega)] at ha3
    have hW3 := SW_grow6 hW (hA _ hS.1) hT  (va_at.kept hob (hk3 _ (by show H.size ≠ _; omega))) ha3 (fun x h9 h99 => (hk3 x h99).trans ((hk2 x (by omega) (by omega)).trans (ho1 x h9)))
    have had0 : up2 ad 6 nb H.size 0 0 = ad 0 0 := up2_ne (by omega)
    have hl3 : lv_has ls 2 (locV (up2 ad 6 nb H.size) [(0, .inr (.inl (0, 0))), (1, .inl a)]) := by
      show lv_has ls 2 [(0, .ref (up2 ad 6 nb H.size 0 0)), (1, .int a)]
      rw [had0]
      exact hl
    have hc3 : (up2 (up2 (over t) 12 nb a) 13 nb 1) 11 0 = nI nb := by rw [up2_ne (show ¬ (11 = 13 ∧ 0 = nb) by omega), up2_ne (show ¬ (11 = 12 ∧ 0 = nb) by omega)]; exact hcnt
    have hfin : (up2 (up2 (up2 (over t) 12 nb a) 13 nb 1) 11 0 ((up2 (up2 (over t) 12 nb a) 13 nb 1) 11 0 + 1)) = over (beaS t nb a) := by
      rw [hc3, nI_1]
      unfold beaS
      rw [← over_up rfl, ← over_up rfl, ← over_up rfl, over_thr]
    have tail : Wat p l e { frames := 8, cells := 1, slots := 2, locals := 150 } s m args below meth c (GM below args s D X ad A (MS np nb nz nt) 1 2 post px) D X (up2 ad 6 nb H.size) A (MS np (nb + 1) nz nt) 2 42 [(0, .inr (.inl (0, 0))), (1, .inl a)] [] (up2 (up2 (over t) 12 nb a) 13 nb 1) 1 2 := by
      refine go_aload (f := 0) hx hb dX4_beacon_42 rfl ?_
      refine go_dup hx hb dX4_beacon_43 ?_
      refine go_get (k := 5) hx hb hts hown hK (F_X4_ok 51 (0, 5) (by decide +kernel)) dX4_beacon_44 MS_0 rfl rfl ?_
      refine go_iconst (v := 1) hx hb dX4_beacon_47 (by decide +kernel) ?_
      refine go_iadd hx hb dX4_beacon_48 ?_
      refine go_put (k := 5) (f := (0, 11)) (i := 0) hx hb hts hown hK (F_X4_ok 51 (0, 5) (by decide +kernel)) rfl dX4_beacon_49 MS_0 rfl rfl (Or.inl rfl) (by show Value.int _ = Value.int _; rw [up2_same]) rfl rfl ?_
      refine go_aload (f := 0) hx hb dX4_beacon_52 rfl ?_
      refine go_get (k := 5) hx hb hts hown hK (F_X4_ok 51 (0, 5) (by decide +kernel)) dX4_beacon_53 MS_0 rfl rfl ?_
      refine go_iconst (v := 1) hx hb dX4_beacon_56 (by decide +kernel) ?_
      refine go_isub hx hb dX4_beacon_57 ?_
      intro H4 locs4 ls4 hW4 hS4 hl4
      rw [hfin] at hW4
      have hr4 : ((up2 (up2 (over t) 12 nb a) 13 nb 1) 11 0 + 1) - 1 = nI nb := by rw [hc3, nI_1, made_sub]
      refine W.eq (g2 := F0 m 58 ls4 [.int (nI nb)]) (by rw [← hr4]; show F0 m _ ls4 [Value.int ((up2 (up2 (up2 (over t) 12 nb a) 13 nb 1) 11 0 ((up2 (up2 (over t) 12 nb a) 13 nb 1) 11 0 + 1)) 11 0 - 1)] = _; rw [up2_same]) ?_
      refine vx_ret (W.iret hx hb hret (fun u hu hw => ⟨⟨some (.inl (nI nb)), _, up2 ad 6 nb H.size, (MS np (nb + 1) nz nt), rfl, h3 r0a r0b hf, ⟨fun kp i h => ⟨MS_mk (by have := MS_cases h; omega), up2_ne (fun z => by have := MS_cases h; omega)⟩, fun kp i g1 g2 => ?_⟩, by rw [hu]; exact hW4⟩, hS4.F hu⟩) hS4.2.2 dX4_beacon_58 hlocks)
      have e9 : kp = 6 ∧ i = nb := by
        refine Classical.byContradiction fun z => ?_
        rw [MS_mk (by have := MS_cases g1; omega)] at g2
        cases g2
      rw [e9.1, e9.2, up2_same]
      exact hS.1
    exact tail H3 locs3 ls hW3 hS3 hl3
theorem dX4_zone_0 : decode cX4_zone 0 = .ok (.iload_n 1, 1) := by decide +kernel
theorem dX4_zone_1 : decode cX4_zone 1 = .ok (.iconst 0, 1) := by decide +kernel
theorem dX4_zone_2 : decode cX4_zone 2 = .ok (.sipush 4999, 3) := by decide +kernel
theorem dX4_zone_5 : decode cX4_zone 5 = .ok (.invokestatic 37, 3) := by decide +kernel
theorem dX4_zone_8 : decode cX4_zone 8 = .ok (.iload_n 2, 1) := by decide +kernel
theorem dX4_zone_9 : decode cX4_zone 9 = .ok (.iload_n 1, 1) := by decide +kernel
theorem dX4_zone_10 : decode cX4_zone 10 = .ok (.iconst 1, 1) := by decide +kernel
theorem dX4_zone_11 : decode cX4_zone 11 = .ok (.iadd, 1) := by decide +kernel
theorem dX4_zone_12 : decode cX4_zone 12 = .ok (.sipush 5000, 3) := by decide +kernel
theorem dX4_zone_15 : decode cX4_zone 15 = .ok (.invokestatic 37, 3) := by decide +kernel
theorem dX4_zone_18 : decode cX4_zone 18 = .ok (.aload_n 0, 1) := by decide +kernel
theorem dX4_zone_19 : decode cX4_zone 19 = .ok (.getfield 64, 3) := by decide +kernel
theorem dX4_zone_22 : decode cX4_zone 22 = .ok (.iconst 4, 1) := by decide +kernel
theorem dX4_zone_23 : decode cX4_zone 23 = .ok (.if_icmp .ge 7, 3) := by decide +kernel
theorem dX4_zone_26 : decode cX4_zone 26 = .ok (.iconst 1, 1) := by decide +kernel
theorem dX4_zone_27 : decode cX4_zone 27 = .ok (.goto 4, 3) := by decide +kernel
theorem dX4_zone_30 : decode cX4_zone 30 = .ok (.iconst 0, 1) := by decide +kernel
theorem dX4_zone_31 : decode cX4_zone 31 = .ok (.invokestatic 44, 3) := by decide +kernel
theorem dX4_zone_34 : decode cX4_zone 34 = .ok (.aload_n 0, 1) := by decide +kernel
theorem dX4_zone_35 : decode cX4_zone 35 = .ok (.getfield 23, 3) := by decide +kernel
theorem dX4_zone_38 : decode cX4_zone 38 = .ok (.aload_n 0, 1) := by decide +kernel
theorem dX4_zone_39 : decode cX4_zone 39 = .ok (.getfield 64, 3) := by decide +kernel
theorem dX4_zone_42 : decode cX4_zone 42 = .ok (.new 21, 3) := by decide +kernel
theorem dX4_zone_45 : decode cX4_zone 45 = .ok (.dup, 1) := by decide +kernel
theorem dX4_zone_46 : decode cX4_zone 46 = .ok (.iload_n 1, 1) := by decide +kernel
theorem dX4_zone_47 : decode cX4_zone 47 = .ok (.iload_n 2, 1) := by decide +kernel
theorem dX4_zone_48 : decode cX4_zone 48 = .ok (.invokespecial 67, 3) := by decide +kernel
theorem dX4_zone_51 : decode cX4_zone 51 = .ok (.aastore, 1) := by decide +kernel
theorem dX4_zone_52 : decode cX4_zone 52 = .ok (.aload_n 0, 1) := by decide +kernel
theorem dX4_zone_53 : decode cX4_zone 53 = .ok (.dup, 1) := by decide +kernel
theorem dX4_zone_54 : decode cX4_zone 54 = .ok (.getfield 64, 3) := by decide +kernel
theorem dX4_zone_57 : decode cX4_zone 57 = .ok (.iconst 1, 1) := by decide +kernel
theorem dX4_zone_58 : decode cX4_zone 58 = .ok (.iadd, 1) := by decide +kernel
theorem dX4_zone_59 : decode cX4_zone 59 = .ok (.putfield 64, 3) := by decide +kernel
theorem dX4_zone_62 : decode cX4_zone 62 = .ok (.aload_n 0, 1) := by decide +kernel
theorem dX4_zone_63 : decode cX4_zone 63 = .ok (.getfield 64, 3) := by decide +kernel
theorem dX4_zone_66 : decode cX4_zone 66 = .ok (.iconst 1, 1) := by decide +kernel
theorem dX4_zone_67 : decode cX4_zone 67 = .ok (.isub, 1) := by decide +kernel
theorem dX4_zone_68 : decode cX4_zone 68 = .ok (.ireturn, 1) := by decide +kernel
set_option maxHeartbeats 4000000 in
theorem c_X4_zone {l : Launch} (hst9 : l.stackTraces = false) (D : va_G) (X : Nat → ClassId) (ad : Nat → Nat → Nat) {n np nb nz nt tk : Nat} {t : TT} (hI : Inv n np nb nz nt tk t) (a b : Int32) {post : Option VV → (Nat → Nat → Bool) → TT → Prop} {px : String → TT → Prop} (h10 : (a < 0 ∨ (¬ a < 0 ∧ ¬ a ≤ 4999)) → False) (h11 : ¬ a < 0 → a ≤ 4999 → (b < (a + 1) ∨ (¬ b < (a + 1) ∧ ¬ b ≤ 5000)) → False) (h2 : ¬ a < 0 → a ≤ 4999 → ¬ b < (a + 1) → b ≤ 5000 → nz = 4 → False) (h3 : ¬ a < 0 → a ≤ 4999 → ¬ b < (a + 1) → b ≤ 5000 → nz < 4 → post (some (.inl (nI nz))) (MS np nb (nz + 1) nt) (over (zonS t nz a b))) : CE l yX4_zone (Cond.code yX4_zone cX4_zone 3 (some .int) :: LT) { frames := 8, cells := 1, slots := 3, locals := 150 } D X ad (MS np nb nz nt) [.inr (.inl (0, 0)), .inl a, .inl b] (over t) 1 3 post px := by
  refine grow_of (by decide +kernel) (Nat.le_of_ble_eq_true rfl) ?_
  intro p e s m args below meth c A hx hb hml hts hown hK hnt hlocks hret hA hE
  have hcnt : over t 14 0 = nI nz := by rw [ov_14]; exact hI.1.2.2.2.2.1
  have hcap : nz ≤ 4 := hI.1.2.2.2.2.2.1
  have hT : ∀ i, i < nt → over t 26 i = -1 ∨ ∃ q, q < np ∧ q ≤ 5000 ∧ over t 26 i = nI q := fun i hi => by
    have h6 := hI.1.2.1
    rw [ov_26]
    exact (hI.2.2.2.1 i hi).2.2.1.imp id (fun ⟨q, q1, q2⟩ => ⟨q, q1, by omega, q2⟩)
  refine go_iload (f := 1) hx hb dX4_zone_0 rfl ?_
  refine go_iconst (v := 0) hx hb dX4_zone_1 (by decide +kernel) ?_
  refine go_sipush (v := 4999) hx hb dX4_zone_2 (by decide +kernel) ?_
  refine ge_call (n := 3) (k := fun v t1 => v = none ∧ t1 = over t ∧ ¬ a < 0 ∧ a ≤ 4999) hnt hlocks dX4_zone_5 (Nat.le_of_ble_eq_true rfl) (Nat.le_of_ble_eq_true rfl) (Nat.le_of_ble_eq_true rfl) (k_X4_askRange hx hb hml hts hown hK hA hE hst9 (by decide +kernel) ⟨Nat.le_of_ble_eq_true rfl, Nat.le_of_ble_eq_true rfl⟩ rfl rfl ?_) (fun v t1 hk => ?_)
  · show P_X4_askRange _ _ _ a 0 4999 (over t)
    rw [pc_askRange]
    by_cases g1 : a < 0
    · rw [if_pos g1]; exact h10 (Or.inl g1)
    · rw [if_neg g1]
      by_cases g2 : a ≤ 4999
      · rw [if_pos g2]; exact ⟨rfl, rfl, g1, g2⟩
      · rw [if_neg g2]; exact h10 (Or.inr ⟨g1, g2⟩)
  obtain ⟨rfl, rfl, r0a, r0b⟩ := hk
  refine go_iload (f := 2) hx hb dX4_zone_8 rfl ?_
  refine go_iload (f := 1) hx hb dX4_zone_9 rfl ?_
  refine go_iconst (v := 1) hx hb dX4_zone_10 (by decide +kernel) ?_
  refine go_iadd hx hb dX4_zone_11 ?_
  refine go_sipush (v := 5000) hx hb dX4_zone_12 (by decide +kernel) ?_
  refine ge_call (n := 3) (k := fun v t1 => v = none ∧ t1 = over t ∧ ¬ b < (a + 1) ∧ b ≤ 5000) hnt hlocks dX4_zone_15 (Nat.le_of_ble_eq_true rfl) (Nat.le_of_ble_eq_true rfl) (Nat.le_of_ble_eq_true rfl) (k_X4_askRange hx hb hml hts hown hK hA hE hst9 (by decide +kernel) ⟨Nat.le_of_ble_eq_true rfl, Nat.le_of_ble_eq_true rfl⟩ rfl rfl ?_) (fun v t1 hk => ?_)
  · show P_X4_askRange _ _ _ b (a + 1) 5000 (over t)
    rw [pc_askRange]
    by_cases g1 : b < (a + 1)
    · rw [if_pos g1]; exact h11 r0a r0b (Or.inl g1)
    · rw [if_neg g1]
      by_cases g2 : b ≤ 5000
      · rw [if_pos g2]; exact ⟨rfl, rfl, g1, g2⟩
      · rw [if_neg g2]; exact h11 r0a r0b (Or.inr ⟨g1, g2⟩)
  obtain ⟨rfl, rfl, r1a, r1b⟩ := hk
  refine go_aload (f := 0) hx hb dX4_zone_18 rfl ?_
  refine go_get (k := 6) hx hb hts hown hK (F_X4_ok 64 (0, 6) (by decide +kernel)) dX4_zone_19 MS_0 rfl rfl ?_
  refine go_iconst (v := 4) hx hb dX4_zone_22 (by decide +kernel) ?_
  refine go_icmp_ge hx hb dX4_zone_23 (tgt := 30) (by decide) (fun z => ?_) (fun z => ?_)
  · have hf : nz = 4 := by
      have z2 : (4 : Int32) ≤ nI nz := by rw [← hcnt]; exact z
      have := nle_of (a := 4) z2 (by omega) (by omega)
      omega
    refine go_iconst (v := 0) hx hb dX4_zone_30 (by decide +kernel) ?_
    refine ge_call (n := 1) (k := fun _ _ => False) hnt hlocks dX4_zone_31 (Nat.le_of_ble_eq_true rfl) (Nat.le_of_ble_eq_true rfl) (Nat.le_of_ble_eq_true rfl) (k_X4_askThat hx hb hml hts hown hK hA hE hst9 (by decide +kernel) ⟨Nat.le_of_ble_eq_true rfl, Nat.le_of_ble_eq_true rfl⟩ rfl rfl ?_) (fun v t1 hk => hk.elim)
    show P_X4_askThat (MS np nb nz nt) (fun _ => False) px 0 (over t)
    rw [pc_askThat, if_pos rfl]
    exact h2 r0a r0b r1a r1b hf
  · have hf : nz < 4 := by
      refine Nat.lt_of_not_le fun z2 => z ?_
      show (4 : Int32) ≤ over t 14 0
      rw [hcnt]
      exact nI_le (a := 4) z2 (by omega)
    refine go_iconst (v := 1) hx hb dX4_zone_26 (by decide +kernel) ?_
    refine go_goto hx hb dX4_zone_27 (tgt := 31) (by decide) ?_
    refine ge_call (n := 1) (k := fun v t1 => v = none ∧ t1 = over t) hnt hlocks dX4_zone_31 (Nat.le_of_ble_eq_true rfl) (Nat.le_of_ble_eq_true rfl) (Nat.le_of_ble_eq_true rfl) (k_X4_askThat hx hb hml hts hown hK hA hE hst9 (by decide +kernel) ⟨Nat.le_of_ble_eq_true rfl, Nat.le_of_ble_eq_true rfl⟩ rfl rfl ?_) (fun v t1 hk => ?_)
    · show P_X4_askThat (MS np nb nz nt) _ px 1 (over t)
      rw [pc_askThat, if_neg (by rw [i10]; exact id)]
      exact ⟨rfl, rfl⟩
    obtain ⟨rfl, rfl⟩ := hk
    refine go_aload (f := 0) hx hb dX4_zone_34 rfl ?_
    refine go_get (k := 2) hx hb hts hown hK (F_X4_ok 23 (0, 2) (by decide +kernel)) dX4_zone_35 MS_0 rfl rfl ?_
    refine go_aload (f := 0) hx hb dX4_zone_38 rfl ?_
    refine go_get (k := 6) hx hb hts hown hK (F_X4_ok 64 (0, 6) (by decide +kernel)) dX4_zone_39 MS_0 rfl rfl ?_
    intro H locs ls hW hS hl
    have hl0 : ls[0]? = some (.val (.ref (ad 0 0))) := at_loc hl (k := 0) (v := .inr (.inl (0, 0))) rfl
    have hl1 : ls[1]? = some (.val (.int a)) := at_loc hl (k := 1) (v := .inl a) rfl
    have hl2 : ls[2]? = some (.val (.int b)) := at_loc hl (k := 2) (v := .inl b) rfl
    refine W.eq (g2 := F0 m 42 ls [.int (nI nz), .ref (ad 3 0)]) (by rw [← hcnt]; rfl) ?_
    refine sw_new (C := RX3) (T := TX3) (N := 3) (ci := 3) (fs := [.int 0, .int 0, .int 0]) hx hb hts (obj_lays_lw (kp := 7) (by unfold isObj; omega)) tyX3 tyX3_ok hown (LT_in (by decide +kernel) (by decide +kernel)) (LT_in (by decide +kernel) (by decide +kernel)) (LT_in (by decide +kernel) (by decide +kernel)) hK hS rfl (fun j hj => by rcases (show j = 0 ∨ j = 1 ∨ j = 2 by omega) with rfl | rfl | rfl <;> rfl) (Nat.le_of_ble_eq_true rfl) (Nat.le_of_ble_eq_true rfl) dX4_zone_42 (fun H1 hn1 hz1 ho1 hS1 => ?_)
    have hW1 := hW.kept (fun kp i hi => ho1 _ (hW.lt hi))
    refine lv_dup hx hb dX4_zone_45 rfl ?_
    refine lv_iload_n hx hb dX4_zone_46 rfl hl1 ?_
    refine lv_iload_n hx hb dX4_zone_47 rfl hl2 ?_
    refine W.eq (g2 := F0 m 48 ls (([.int a, .int b] : List Value).reverse ++ .ref H.size :: [.ref H.size, .int (nI nz), .ref (ad 3 0)])) rfl ?_
    refine sw_ctor (q := H.size) (n := 2) (As := [.int a, .int b]) (rest := [.ref H.size, .int (nI nz), .ref (ad 3 0)]) hx hb hml hts hown hK hA hS1 hn1 (hA _ hS.1) (c_X3_init l D X H.size H1.size a b) (ix := 67) ⟨LT_in (by decide +kernel) (by decide +kernel), LT_in (by decide +kernel) (by decide +kernel), LT_in (by decide +kernel) (by decide +kernel), LT_in (by decide +kernel) (by decide +kernel)⟩ rfl (by decide +kernel) ⟨Nat.le_of_ble_eq_true rfl, Nat.le_of_ble_eq_true rfl⟩ rfl rfl rfl hl.1 (by exact Nat.le_of_ble_eq_true rfl) dX4_zone_48 (by exact Nat.le_of_ble_eq_true rfl) (by exact Nat.le_of_ble_eq_true rfl) (fun u2 t2 H2 locs2 e2 hB2 hz2 hk2 hS2 => ?_)
    subst e2
    have hob := hB2.1 0 _ rfl
    have harr0 : va_at D vwCl (ad 3 0, cellE X ad (MS np nb nz nt) (over t) 3 0) H1 := hW1.1 3 0 (MS_mk (by omega))
    have hlt := hW.lt (kp := 3) (i := 0) (MS_mk (by omega))
    have harr2 := va_at.kept harr0 (hk2 _ (by omega) (by omega))
    refine sw_aast (t0 := 2) hx hb hK harr2 hob rfl rfl hS2 (hW.2.2.1 3 0 (MS_mk (by omega))) (vp0 hf (by omega)) dX4_zone_51 (fun H3 locs3 ha3 hk3 hS3 => ?_)
    rw [cl0 (n := nz) (by omega)] at ha3
    have z17 : over t 17 nz = 0 := by rw [ov_17]; exact (hI.2.2.2.2.2.2.2.2.2.2.2 nz (Nat.le_refl nz)).2.2
    have hW3 := SW_grow7 hW (hA _ hS.1) hT z17 (va_at.kept hob (hk3 _ (by show H.size ≠ _; omega))) ha3 (fun x h9 h99 => (hk3 x h99).trans ((hk2 x (by omega) (by omega)).trans (ho1 x h9)))
    have had0 : up2 ad 7 nz H.size 0 0 = ad 0 0 := up2_ne (by omega)
    have hl3 : lv_has ls 3 (locV (up2 ad 7 nz H.size) [(0, .inr (.inl (0, 0))), (1, .inl a), (2, .inl b)]) := by
      show lv_has ls 3 [(0, .ref (up2 ad 7 nz H.size 0 0)), (1, .int a), (2, .int b)]
      rw [had0]
      exact hl
    have hc3 : (up2 (up2 (over t) 15 nz a) 16 nz b) 14 0 = nI nz := by rw [up2_ne (show ¬ (14 = 16 ∧ 0 = nz) by omega), up2_ne (show ¬ (14 = 15 ∧ 0 = nz) by omega)]; exact hcnt
    have hfin : (up2 (up2 (up2 (over t) 15 nz a) 16 nz b) 14 0 ((up2 (up2 (over t) 15 nz a) 16 nz b) 14 0 + 1)) = over (zonS t nz a b) := by
      rw [hc3, nI_1]
      unfold zonS
      rw [← over_up rfl, ← over_up rfl, ← over_up rfl, over_thr]
    have tail : Wat p l e { frames := 8, cells := 1, slots := 3, locals := 150 } s m args below meth c (GM below args s D X ad A (MS np nb nz nt) 1 3 post px) D X (up2 ad 7 nz H.size) A (MS np nb (nz + 1) nt) 3 52 [(0, .inr (.inl (0, 0))), (1, .inl a), (2, .inl b)] [] (up2 (up2 (over t) 15 nz a) 16 nz b) 1 3 := by
      refine go_aload (f := 0) hx hb dX4_zone_52 rfl ?_
      refine go_dup hx hb dX4_zone_53 ?_
      refine go_get (k := 6) hx hb hts hown hK (F_X4_ok 64 (0, 6) (by decide +kernel)) dX4_zone_54 MS_0 rfl rfl ?_
      refine go_iconst (v := 1) hx hb dX4_zone_57 (by decide +kernel) ?_
      refine go_iadd hx hb dX4_zone_58 ?_
      refine go_put (k := 6) (f := (0, 14)) (i := 0) hx hb hts hown hK (F_X4_ok 64 (0, 6) (by decide +kernel)) rfl dX4_zone_59 MS_0 rfl rfl (Or.inl rfl) (by show Value.int _ = Value.int _; rw [up2_same]) rfl rfl ?_
      refine go_aload (f := 0) hx hb dX4_zone_62 rfl ?_
      refine go_get (k := 6) hx hb hts hown hK (F_X4_ok 64 (0, 6) (by decide +kernel)) dX4_zone_63 MS_0 rfl rfl ?_
      refine go_iconst (v := 1) hx hb dX4_zone_66 (by decide +kernel) ?_
      refine go_isub hx hb dX4_zone_67 ?_
      intro H4 locs4 ls4 hW4 hS4 hl4
      rw [hfin] at hW4
      have hr4 : ((up2 (up2 (over t) 15 nz a) 16 nz b) 14 0 + 1) - 1 = nI nz := by rw [hc3, nI_1, made_sub]
      refine W.eq (g2 := F0 m 68 ls4 [.int (nI nz)]) (by rw [← hr4]; show F0 m _ ls4 [Value.int ((up2 (up2 (up2 (over t) 15 nz a) 16 nz b) 14 0 ((up2 (up2 (over t) 15 nz a) 16 nz b) 14 0 + 1)) 14 0 - 1)] = _; rw [up2_same]) ?_
      refine vx_ret (W.iret hx hb hret (fun u hu hw => ⟨⟨some (.inl (nI nz)), _, up2 ad 7 nz H.size, (MS np nb (nz + 1) nt), rfl, h3 r0a r0b r1a r1b hf, ⟨fun kp i h => ⟨MS_mk (by have := MS_cases h; omega), up2_ne (fun z => by have := MS_cases h; omega)⟩, fun kp i g1 g2 => ?_⟩, by rw [hu]; exact hW4⟩, hS4.F hu⟩) hS4.2.2 dX4_zone_68 hlocks)
      have e9 : kp = 7 ∧ i = nz := by
        refine Classical.byContradiction fun z => ?_
        rw [MS_mk (by have := MS_cases g1; omega)] at g2
        cases g2
      rw [e9.1, e9.2, up2_same]
      exact hS.1
    exact tail H3 locs3 ls hW3 hS3 hl3

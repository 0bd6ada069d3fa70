/-! printed (wip/p26/train.py): train of the class -/
theorem dX4_train_0 : decode cX4_train 0 = .ok (.iload_n 1, 1) := by decide +kernel
theorem dX4_train_1 : decode cX4_train 1 = .ok (.bipush 100, 2) := by decide +kernel
theorem dX4_train_3 : decode cX4_train 3 = .ok (.sipush 5000, 3) := by decide +kernel
theorem dX4_train_6 : decode cX4_train 6 = .ok (.invokestatic 37, 3) := by decide +kernel
theorem dX4_train_9 : decode cX4_train 9 = .ok (.aload_n 0, 1) := by decide +kernel
theorem dX4_train_10 : decode cX4_train 10 = .ok (.getfield 78, 3) := by decide +kernel
theorem dX4_train_13 : decode cX4_train 13 = .ok (.iconst 5, 1) := by decide +kernel
theorem dX4_train_14 : decode cX4_train 14 = .ok (.if_icmp .ge 15, 3) := by decide +kernel
theorem dX4_train_17 : decode cX4_train 17 = .ok (.aload_n 0, 1) := by decide +kernel
theorem dX4_train_18 : decode cX4_train 18 = .ok (.iload_n 1, 1) := by decide +kernel
theorem dX4_train_19 : decode cX4_train 19 = .ok (.invokevirtual 81, 3) := by decide +kernel
theorem dX4_train_22 : decode cX4_train 22 = .ok (.ifCond .eq 7, 3) := by decide +kernel
theorem dX4_train_25 : decode cX4_train 25 = .ok (.iconst 1, 1) := by decide +kernel
theorem dX4_train_26 : decode cX4_train 26 = .ok (.goto 4, 3) := by decide +kernel
theorem dX4_train_29 : decode cX4_train 29 = .ok (.iconst 0, 1) := by decide +kernel
theorem dX4_train_30 : decode cX4_train 30 = .ok (.invokestatic 44, 3) := by decide +kernel
theorem dX4_train_33 : decode cX4_train 33 = .ok (.aload_n 0, 1) := by decide +kernel
theorem dX4_train_34 : decode cX4_train 34 = .ok (.getfield 29, 3) := by decide +kernel
theorem dX4_train_37 : decode cX4_train 37 = .ok (.aload_n 0, 1) := by decide +kernel
theorem dX4_train_38 : decode cX4_train 38 = .ok (.getfield 78, 3) := by decide +kernel
theorem dX4_train_41 : decode cX4_train 41 = .ok (.new 27, 3) := by decide +kernel
theorem dX4_train_44 : decode cX4_train 44 = .ok (.dup, 1) := by decide +kernel
theorem dX4_train_45 : decode cX4_train 45 = .ok (.iload_n 1, 1) := by decide +kernel
theorem dX4_train_46 : decode cX4_train 46 = .ok (.aload_n 0, 1) := by decide +kernel
theorem dX4_train_47 : decode cX4_train 47 = .ok (.getfield 85, 3) := by decide +kernel
theorem dX4_train_50 : decode cX4_train 50 = .ok (.invokespecial 88, 3) := by decide +kernel
theorem dX4_train_53 : decode cX4_train 53 = .ok (.aastore, 1) := by decide +kernel
theorem dX4_train_54 : decode cX4_train 54 = .ok (.aload_n 0, 1) := by decide +kernel
theorem dX4_train_55 : decode cX4_train 55 = .ok (.dup, 1) := by decide +kernel
theorem dX4_train_56 : decode cX4_train 56 = .ok (.getfield 78, 3) := by decide +kernel
theorem dX4_train_59 : decode cX4_train 59 = .ok (.iconst 1, 1) := by decide +kernel
theorem dX4_train_60 : decode cX4_train 60 = .ok (.iadd, 1) := by decide +kernel
theorem dX4_train_61 : decode cX4_train 61 = .ok (.putfield 78, 3) := by decide +kernel
theorem dX4_train_64 : decode cX4_train 64 = .ok (.aload_n 0, 1) := by decide +kernel
theorem dX4_train_65 : decode cX4_train 65 = .ok (.invokevirtual 75, 3) := by decide +kernel
theorem dX4_train_68 : decode cX4_train 68 = .ok (.aload_n 0, 1) := by decide +kernel
theorem dX4_train_69 : decode cX4_train 69 = .ok (.getfield 78, 3) := by decide +kernel
theorem dX4_train_72 : decode cX4_train 72 = .ok (.iconst 1, 1) := by decide +kernel
theorem dX4_train_73 : decode cX4_train 73 = .ok (.isub, 1) := by decide +kernel
theorem dX4_train_74 : decode cX4_train 74 = .ok (.ireturn, 1) := by decide +kernel
theorem ge_callT {p : Program} {l : Launch} {e : Env} {R : Room} {s : State} {m : MethodId} {args : Array Value} {below : List Frame} {meth : Method} {c : Code} {Q : State → Prop} {D : va_G} {X : Nat → ClassId} {ad : Nat → Nat → Nat} {A : Nat → Prop} {M : Nat → Nat → Bool} {nL : Nat} {b : ByteArray} {mc ms : Nat} {t : TT} {pc : Nat} {loc : Loc9} {st : List VV} {cl sl mc1 ms1 n : Nat} {ins : Instr} {k : Option VV → TT → Prop} (hd : decode b pc = .ok (ins, 3)) (h8 : st.length - n ≤ 8) (hc : cl + mc1 ≤ mc) (hs : sl + ms1 ≤ ms)
    (hcall : CallOK p l e R s m args below meth c Q D X ad A M nL b mc ms ins mc1 ms1 (st.take n).reverse t k (fun _ _ => False))
    (hk : ∀ v t1, k v t1 → Wat p l e R s m args below meth c Q D X ad A M nL (pc + 3) loc (v.toList ++ st.drop n) t1 (cl + mc1) (sl + ms1)) : Wat p l e R s m args below meth c Q D X ad A M nL pc loc st t cl sl := by
  intro H locs ls hW hS hl
  have h := hcall H locs ls pc (st.drop n) cl sl hW hS hl.1 (by rw [List.length_drop]; exact h8) hc hs hd
    (fun v t1 H1 locs1 h1 hW1 hS1 => hk v t1 h1 H1 locs1 ls hW1 hS1 hl)
    (fun E ce q t1 H1 locs1 h1 _ _ _ _ _ => h1.elim)
  rw [List.reverse_reverse, List.take_append_drop] at h
  exact h
set_option maxHeartbeats 4000000 in
theorem c_X4_train {l : Launch} (hst9 : l.stackTraces = false) (D : va_G) (X : Nat → ClassId) (ad : Nat → Nat → Nat) {n np nb nz nt tk : Nat} {t : TT} (hI : Inv n np nb nz nt tk t) (a : Int32) {post : Option VV → (Nat → Nat → Bool) → TT → Prop} {px : String → TT → Prop} (h10 : (a < 100 ∨ (¬ a < 100 ∧ ¬ a ≤ 5000)) → False) (h2 : ¬ a < 100 → a ≤ 5000 → (nt = 5 ∨ (nt < 5 ∧ (allB (okT t a) nt && allB (okZ t a) nz) = false)) → False) (h3 : ¬ a < 100 → a ≤ 5000 → nt < 5 → (allB (okT t a) nt && allB (okZ t a) nz) = true → post (some (.inl (nI nt))) (MS np nb nz (nt + 1)) (over (dealR (traS t nt tk a) (nt + 1) nz (nt + 1)))) : CE l yX4_train (Cond.code yX4_train cX4_train 2 (some .int) :: LT) { frames := 8, cells := 3, slots := 2018, locals := 150 } D X ad (MS np nb nz nt) [.inr (.inl (0, 0)), .inl a] (over t) 3 2018 post px := by
  refine grow_of (by decide +kernel) (Nat.le_of_ble_eq_true rfl) ?_
  intro p e s m args below meth c A hx hb hml hts hown hK hnt hlocks hret hA hE
  have hcnt : over t 18 0 = nI nt := by rw [ov_18]; exact (fac hI).1
  have htk : over t 1 0 = nI tk := by rw [ov_1]; exact hI.2.1.1
  have hcap : nt ≤ 5 := (fac hI).2.1
  have hT : ∀ i, i < nt → over t 26 i = -1 ∨ ∃ q, q < np ∧ q ≤ 5000 ∧ over t 26 i = nI q := fun i hi => by
    have h6 := hI.1.2.1
    rw [ov_26]
    exact (hI.2.2.2.1 i hi).2.2.1.imp id (fun ⟨q, q1, q2⟩ => ⟨q, q1, by omega, q2⟩)
  refine go_iload (f := 1) hx hb dX4_train_0 rfl ?_
  refine go_bipush (v := 100) hx hb dX4_train_1 (by decide +kernel) ?_
  refine go_sipush (v := 5000) hx hb dX4_train_3 (by decide +kernel) ?_
  refine ge_call (n := 3) (k := fun v t1 => v = none ∧ t1 = over t ∧ ¬ a < 100 ∧ a ≤ 5000) hnt hlocks dX4_train_6 (Nat.le_of_ble_eq_true rfl) (Nat.le_of_ble_eq_true rfl) (Nat.le_of_ble_eq_true rfl) (k_X4_askRange hx hb hml hts hown hK hA hE hst9 (by decide +kernel) ⟨Nat.le_of_ble_eq_true rfl, Nat.le_of_ble_eq_true rfl⟩ rfl rfl ?_) (fun v t1 hk => ?_)
  · show P_X4_askRange _ _ _ a 100 5000 (over t)
    rw [pc_askRange]
    by_cases g1 : a < 100
    · rw [if_pos g1]; exact h10 (Or.inl g1)
    · rw [if_neg g1]
      by_cases g2 : a ≤ 5000
      · rw [if_pos g2]; exact ⟨rfl, rfl, g1, g2⟩
      · rw [if_neg g2]; exact h10 (Or.inr ⟨g1, g2⟩)
  obtain ⟨rfl, rfl, r0a, r0b⟩ := hk
  refine go_aload (f := 0) hx hb dX4_train_9 rfl ?_
  refine go_get (k := 7) hx hb hts hown hK (F_X4_ok 78 (0, 7) (by decide +kernel)) dX4_train_10 MS_0 rfl rfl ?_
  refine go_iconst (v := 5) hx hb dX4_train_13 (by decide +kernel) ?_
  refine go_icmp_ge hx hb dX4_train_14 (tgt := 29) (by decide) (fun z => ?_) (fun z => ?_)
  · have hf : nt = 5 := by
      have z2 : (5 : Int32) ≤ nI nt := by rw [← hcnt]; exact z
      have := nle_of (a := 5) z2 (by omega) (by omega)
      omega
    refine go_iconst (v := 0) hx hb dX4_train_29 (by decide +kernel) ?_
    refine ge_call (n := 1) (k := fun _ _ => False) hnt hlocks dX4_train_30 (Nat.le_of_ble_eq_true rfl) (Nat.le_of_ble_eq_true rfl) (Nat.le_of_ble_eq_true rfl) (k_X4_askThat hx hb hml hts hown hK hA hE hst9 (by decide +kernel) ⟨Nat.le_of_ble_eq_true rfl, Nat.le_of_ble_eq_true rfl⟩ rfl rfl ?_) (fun v t1 hk => hk.elim)
    show P_X4_askThat (MS np nb nz nt) (fun _ => False) px 0 (over t)
    rw [pc_askThat, if_pos rfl]
    exact h2 r0a r0b (Or.inl hf)
  have hf : nt < 5 := by
    refine Nat.lt_of_not_le fun z2 => z ?_
    show (5 : Int32) ≤ over t 18 0
    rw [hcnt]
    exact nI_le (a := 5) z2 (by omega)
  refine go_aload (f := 0) hx hb dX4_train_17 rfl ?_
  refine go_iload (f := 1) hx hb dX4_train_18 rfl ?_
  refine ge_call (n := 2) (k := fun v t1 => v = some (.inl (b2i (allB (okT t a) nt && allB (okZ t a) nz))) ∧ t1 = over t) hnt hlocks dX4_train_19 (Nat.le_of_ble_eq_true rfl) (by exact Nat.le_of_ble_eq_true rfl) (by exact Nat.le_of_ble_eq_true rfl) (k_X4_canBePutIn hx hb hml hts hown hK hA hE hst9 (by decide +kernel) ⟨Nat.le_of_ble_eq_true rfl, Nat.le_of_ble_eq_true rfl⟩ rfl rfl ?_) (fun v t1 hk => ?_)
  · exact ⟨MS_0, pc_canBePutIn hI.1 ⟨rfl, rfl⟩⟩
  obtain ⟨rfl, rfl⟩ := hk
  refine go_if_eq hx hb dX4_train_22 (tgt := 29) (by decide) (fun z => ?_) (fun z => ?_)
  · rw [b2i_0] at z
    refine go_iconst (v := 0) hx hb dX4_train_29 (by decide +kernel) ?_
    refine ge_call (n := 1) (k := fun _ _ => False) hnt hlocks dX4_train_30 (Nat.le_of_ble_eq_true rfl) (Nat.le_of_ble_eq_true rfl) (Nat.le_of_ble_eq_true rfl) (k_X4_askThat hx hb hml hts hown hK hA hE hst9 (by decide +kernel) ⟨Nat.le_of_ble_eq_true rfl, Nat.le_of_ble_eq_true rfl⟩ rfl rfl ?_) (fun v t1 hk => hk.elim)
    show P_X4_askThat (MS np nb nz nt) (fun _ => False) px 0 (over t)
    rw [pc_askThat, if_pos rfl]
    exact h2 r0a r0b (Or.inr ⟨hf, z⟩)
  have hC : (allB (okT t a) nt && allB (okZ t a) nz) = true := by rw [b2i_0] at z; simpa using z
  refine go_iconst (v := 1) hx hb dX4_train_25 (by decide +kernel) ?_
  refine go_goto hx hb dX4_train_26 (tgt := 30) (by decide) ?_
  refine ge_call (n := 1) (k := fun v t1 => v = none ∧ t1 = over t) hnt hlocks dX4_train_30 (Nat.le_of_ble_eq_true rfl) (Nat.le_of_ble_eq_true rfl) (Nat.le_of_ble_eq_true rfl) (k_X4_askThat hx hb hml hts hown hK hA hE hst9 (by decide +kernel) ⟨Nat.le_of_ble_eq_true rfl, Nat.le_of_ble_eq_true rfl⟩ rfl rfl ?_) (fun v t1 hk => ?_)
  · show P_X4_askThat (MS np nb nz nt) _ px 1 (over t)
    rw [pc_askThat, if_neg (by rw [i10]; exact id)]
    exact ⟨rfl, rfl⟩
  obtain ⟨rfl, rfl⟩ := hk
  refine go_aload (f := 0) hx hb dX4_train_33 rfl ?_
  refine go_get (k := 3) hx hb hts hown hK (F_X4_ok 29 (0, 3) (by decide +kernel)) dX4_train_34 MS_0 rfl rfl ?_
  refine go_aload (f := 0) hx hb dX4_train_37 rfl ?_
  refine go_get (k := 7) hx hb hts hown hK (F_X4_ok 78 (0, 7) (by decide +kernel)) dX4_train_38 MS_0 rfl rfl ?_
  intro H locs ls hW hS hl
  have hl0 : ls[0]? = some (.val (.ref (ad 0 0))) := at_loc hl (k := 0) (v := .inr (.inl (0, 0))) rfl
  have hl1 : ls[1]? = some (.val (.int a)) := at_loc hl (k := 1) (v := .inl a) rfl
  refine W.eq (g2 := F0 m 41 ls [.int (nI nt), .ref (ad 4 0)]) (by rw [← hcnt]; rfl) ?_
  refine sw_new (C := RX2) (T := TX2) (N := 18) (ci := 2) (fs := [.int 0, .int 0, .null, .null, .int 0, .int 0, .int 0, .int 0, .int 0, .int 0, .int 0, .int 0, .int 0, .null, .int 0, .int 0, .int 0, .int 0]) hx hb hts (obj_lays_lw (kp := 8) (by unfold isObj; omega)) tyX2 tyX2_ok hown (LT_in (by decide +kernel) (by decide +kernel)) (LT_in (by decide +kernel) (by decide +kernel)) (LT_in (by decide +kernel) (by decide +kernel)) hK hS rfl (fun j hj => by rcases (show j = 0 ∨ j = 1 ∨ j = 2 ∨ j = 3 ∨ j = 4 ∨ j = 5 ∨ j = 6 ∨ j = 7 ∨ j = 8 ∨ j = 9 ∨ j = 10 ∨ j = 11 ∨ j = 12 ∨ j = 13 ∨ j = 14 ∨ j = 15 ∨ j = 16 ∨ j = 17 by omega) with rfl | rfl | rfl | rfl | rfl | rfl | rfl | rfl | rfl | rfl | rfl | rfl | rfl | rfl | rfl | rfl | rfl | rfl <;> rfl) (Nat.le_of_ble_eq_true rfl) (Nat.le_of_ble_eq_true rfl) dX4_train_41 (fun H1 hn1 hz1 ho1 hS1 => ?_)
  have hW1 := hW.kept (fun kp i hi => ho1 _ (hW.lt hi))
  refine lv_dup hx hb dX4_train_44 rfl ?_
  refine lv_iload_n hx hb dX4_train_45 rfl hl1 ?_
  refine lv_aload_n hx hb dX4_train_46 rfl hl0 ?_
  refine sw_get (k := 9) hx hb hts hown hK hW1 (F_X4_ok 85 (0, 9) (by decide +kernel)) dX4_train_47 MS_0 rfl ?_
  refine W.eq (g2 := F0 m 50 ls (([.int a, .int (nI tk)] : List Value).reverse ++ .ref H.size :: [.ref H.size, .int (nI nt), .ref (ad 4 0)])) (by rw [← htk]; rfl) ?_
  refine sw_ctor (q := H.size) (n := 2) (As := [.int a, .int (nI tk)]) (rest := [.ref H.size, .int (nI nt), .ref (ad 4 0)]) hx hb hml hts hown hK hA hS1 hn1 (hA _ hS.1) (c_X2_init l D X H.size H1.size a (nI tk)) (ix := 88) ⟨LT_in (by decide +kernel) (by decide +kernel), LT_in (by decide +kernel) (by decide +kernel), LT_in (by decide +kernel) (by decide +kernel), LT_in (by decide +kernel) (by decide +kernel)⟩ rfl (by decide +kernel) ⟨Nat.le_of_ble_eq_true rfl, Nat.le_of_ble_eq_true rfl⟩ rfl rfl rfl hl.1 (by exact Nat.le_of_ble_eq_true rfl) dX4_train_50 (by exact Nat.le_of_ble_eq_true rfl) (by exact Nat.le_of_ble_eq_true rfl) (fun u2 t2 H2 locs2 e2 hB2 hz2 hk2 hS2 => ?_)
  subst e2
  obtain ⟨q1, q2⟩ := u2
  have hob := hB2.1 0 _ rfl
  have hob1 := hB2.1 1 _ rfl
  have hob2 := hB2.1 2 _ rfl
  have far : ∀ (k : Nat) (x : Nat × va_E), k ≠ 0 → va_A [(H.size, .inr (2, [.int 0, .int 0, .null, .null, .int 0, .int 0, .int 0, .int 0, .int 0, .int 0, .int 0, .int 0, .int 0, .null, .int 0, .int 0, .int 0, .int 0]))] H1.size x.1 → (x.1 = H.size → k = 0) → H.size < x.1 := by
    intro k x k0 h9 h0
    rcases h9 with ⟨j, e9, h9⟩ | h9
    · have : j < 1 := (List.getElem?_eq_some_iff.mp h9).1
      have e0 : j = 0 := by omega
      subst e0
      have e8 : H.size = x.1 := congrArg Prod.fst (Option.some.inj h9)
      exact absurd (h0 e8.symm) k0
    · omega
  have d1 : H.size < q1 := far 1 _ (by omega) (hB2.2.2 1 _ rfl) (fun z => hB2.2.1 1 0 _ _ rfl rfl z)
  have d2 : H.size < q2 := far 2 _ (by omega) (hB2.2.2 2 _ rfl) (fun z => hB2.2.1 2 0 _ _ rfl rfl z)
  have d3 : q1 ≠ q2 := fun z => by
    have := hB2.2.1 1 2 _ _ rfl rfl z
    omega
  have harr0 : va_at D vwCl (ad 4 0, cellE X ad (MS np nb nz nt) (over t) 4 0) H1 := hW1.1 4 0 (MS_mk (by omega))
  have hlt := hW.lt (kp := 4) (i := 0) (MS_mk (by omega))
  have harr2 := va_at.kept harr0 (hk2 _ (by omega) (by omega))
  refine sw_aast (t0 := 3) hx hb hK harr2 hob rfl rfl hS2 (hW.2.2.1 4 0 (MS_mk (by omega))) (vp0 hf (by omega)) dX4_train_53 (fun H3 locs3 ha3 hk3 hS3 => ?_)
  rw [cl0 (n := nt) (by omega)] at ha3
  have zz : ∀ k, 19 ≤ k → k ≤ 34 → t k nt = 0 := fun k z1 z2 => hI.2.2.2.2.2.2.2.1 k nt (Nat.le_refl nt) z1 z2
  have z22 : over t 22 nt = 0 := by rw [ov_22]; exact zz 22 (by omega) (by omega)
  have z23 : over t 23 nt = 0 := by rw [ov_23]; exact zz 23 (by omega) (by omega)
  have z25 : over t 25 nt = 0 := by rw [ov_25]; exact zz 25 (by omega) (by omega)
  have z28 : over t 28 nt = 0 := by rw [ov_28]; exact zz 28 (by omega) (by omega)
  have z29 : over t 29 nt = 0 := by rw [ov_29]; exact zz 29 (by omega) (by omega)
  have z30 : over t 30 nt = 0 := by rw [ov_30]; exact zz 30 (by omega) (by omega)
  have z33 : over t 33 nt = 0 := by rw [ov_33]; exact zz 33 (by omega) (by omega)
  have z34 : over t 34 nt = 0 := by rw [ov_34]; exact zz 34 (by omega) (by omega)
  have z35 : ∀ j, over t 35 (1000 * nt + j) = 0 := fun j => by rw [ov_35]; exact (hI.2.2.2.2.2.2.2.2.1 _ (by omega)).1
  have z36 : ∀ j, over t 36 (1000 * nt + j) = 0 := fun j => by rw [ov_36]; exact (hI.2.2.2.2.2.2.2.2.1 _ (by omega)).2
  have sz0 := hS.1
  have hW3 := SW_grow8 hW (hA _ hS.1) (hA q1 (by omega)) (hA q2 (by omega)) d1 d2 d3 hT z22 z23 z25 z28 z29 z30 z33 z34 z35 z36 (va_at.kept hob (hk3 _ (by show H.size ≠ _; omega))) (va_at.kept hob1 (hk3 _ (by show q1 ≠ _; omega))) (va_at.kept hob2 (hk3 _ (by show q2 ≠ _; omega))) ha3 (fun x h9 h99 => (hk3 x h99).trans ((hk2 x (by omega) (by omega)).trans (ho1 x h9)))
  have had0 : (up2 (up2 (up2 ad 8 nt H.size) 9 nt q1) 10 nt q2) 0 0 = ad 0 0 := by rw [up2_ne (by omega), up2_ne (by omega), up2_ne (by omega)]
  have hl3 : lv_has ls 2 (locV (up2 (up2 (up2 ad 8 nt H.size) 9 nt q1) 10 nt q2) [(0, .inr (.inl (0, 0))), (1, .inl a)]) := by
    show lv_has ls 2 [(0, .ref ((up2 (up2 (up2 ad 8 nt H.size) 9 nt q1) 10 nt q2) 0 0)), (1, .int a)]
    rw [had0]
    exact hl
  have hc3 : trU (over t) nt a (nI tk) 18 0 = nI nt := by rw [trU_ne (Or.inl rfl)]; exact hcnt
  have hfin : up2 (trU (over t) nt a (nI tk)) 18 0 (trU (over t) nt a (nI tk) 18 0 + 1) = over (traS t nt tk a) := by
    rw [hc3, nI_1]
    unfold traS trU
    rw [← over_up rfl, ← over_up rfl, ← over_up rfl, ← over_up rfl, ← over_up rfl, ← over_up rfl, ← over_up rfl, ← over_up rfl, ← over_up rfl, over_thr]
  have hI1 : Inv (n + 1) np nb nz (nt + 1) tk (traS t nt tk a) := traS_inv hI hf
  have tail : Wat p l e { frames := 8, cells := 3, slots := 2018, locals := 150 } s m args below meth c (GM below args s D X ad A (MS np nb nz nt) 3 2018 post px) D X (up2 (up2 (up2 ad 8 nt H.size) 9 nt q1) 10 nt q2) A (MS np nb nz (nt + 1)) 2 54 [(0, .inr (.inl (0, 0))), (1, .inl a)] [] (trU (over t) nt a (nI tk)) 3 2018 := by
    refine go_aload (f := 0) hx hb dX4_train_54 rfl ?_
    refine go_dup hx hb dX4_train_55 ?_
    refine go_get (k := 7) hx hb hts hown hK (F_X4_ok 78 (0, 7) (by decide +kernel)) dX4_train_56 MS_0 rfl rfl ?_
    refine go_iconst (v := 1) hx hb dX4_train_59 (by decide +kernel) ?_
    refine go_iadd hx hb dX4_train_60 ?_
    refine go_put (k := 7) (f := (0, 18)) (i := 0) hx hb hts hown hK (F_X4_ok 78 (0, 7) (by decide +kernel)) rfl dX4_train_61 MS_0 rfl rfl (Or.inl rfl) (by show Value.int _ = Value.int _; rw [up2_same]) rfl rfl ?_
    have tail2 : Wat p l e { frames := 8, cells := 3, slots := 2018, locals := 150 } s m args below meth c (GM below args s D X ad A (MS np nb nz nt) 3 2018 post px) D X (up2 (up2 (up2 ad 8 nt H.size) 9 nt q1) 10 nt q2) A (MS np nb nz (nt + 1)) 2 64 [(0, .inr (.inl (0, 0))), (1, .inl a)] [] (over (traS t nt tk a)) 3 2018 := by
      refine go_aload (f := 0) hx hb dX4_train_64 rfl ?_
      refine ge_callT (mc := 3) (ms := 2018) (n := 1) (k := fun v t1 => v = none ∧ t1 = over (dealR (traS t nt tk a) (nt + 1) nz (nt + 1))) dX4_train_65 (Nat.le_of_ble_eq_true rfl) (by exact Nat.le_of_ble_eq_true rfl) (by exact Nat.le_of_ble_eq_true rfl) (k_X4_dealLimits hx hb hml hts hown hK hA hE hst9 (by decide +kernel) ⟨Nat.le_of_ble_eq_true rfl, Nat.le_of_ble_eq_true rfl⟩ rfl rfl ?_) (fun v t1 hk => ?_)
      · exact ⟨MS_0, pc_dealLimits hI1.1 ⟨rfl, rfl⟩⟩
      obtain ⟨rfl, rfl⟩ := hk
      refine go_aload (f := 0) hx hb dX4_train_68 rfl ?_
      refine go_get (k := 7) hx hb hts hown hK (F_X4_ok 78 (0, 7) (by decide +kernel)) dX4_train_69 MS_0 rfl rfl ?_
      refine go_iconst (v := 1) hx hb dX4_train_72 (by decide +kernel) ?_
      refine go_isub hx hb dX4_train_73 ?_
      intro H4 locs4 ls4 hW4 hS4 hl4
      have hr4 : over (dealR (traS t nt tk a) (nt + 1) nz (nt + 1)) 18 0 - 1 = nI nt := by
        rw [ov_18, dealR_ne (by decide), show traS t nt tk a 18 0 = nI (nt + 1) from rfl, made_sub]
      refine W.eq (g2 := F0 m 74 ls4 [.int (nI nt)]) (by rw [← hr4]; rfl) ?_
      refine vx_ret (W.iret hx hb hret (fun u hu hw => ⟨⟨some (.inl (nI nt)), _, (up2 (up2 (up2 ad 8 nt H.size) 9 nt q1) 10 nt q2), (MS np nb nz (nt + 1)), rfl, h3 r0a r0b hf hC, ⟨fun kp i h => ⟨MS_mk (by have := MS_cases h; omega), ?_⟩, fun kp i g1 g2 => ?_⟩, by rw [hu]; exact hW4⟩, hS4.F hu⟩) hS4.2.2 dX4_train_74 hlocks)
      · have := MS_cases h
        rw [up2_ne (by omega), up2_ne (by omega), up2_ne (by omega)]
      · have e9 : (kp = 8 ∨ kp = 9 ∨ kp = 10) ∧ i = nt := by
          refine Classical.byContradiction fun z => ?_
          rw [MS_mk (by have := MS_cases g1; omega)] at g2
          cases g2
        obtain ⟨e9, rfl⟩ := e9
        rcases e9 with rfl | rfl | rfl
        · rw [up2_ne (by omega), up2_ne (by omega), up2_same]; exact sz0
        · rw [up2_ne (by omega), up2_same]; omega
        · rw [up2_same]; omega
    rw [← hfin] at tail2
    exact tail2
  exact tail H3 locs3 ls hW3 hS3 hl3


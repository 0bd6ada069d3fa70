/-! printed (wip/p26/ctor.py): constructor X4 -/
theorem dX4_init_0 : decode cX4_init 0 = .ok (.aload_n 0, 1) := by decide +kernel
theorem dX4_init_1 : decode cX4_init 1 = .ok (.invokespecial 1, 3) := by decide +kernel
theorem dX4_init_4 : decode cX4_init 4 = .ok (.aload_n 0, 1) := by decide +kernel
theorem dX4_init_5 : decode cX4_init 5 = .ok (.bipush 6, 2) := by decide +kernel
theorem dX4_init_7 : decode cX4_init 7 = .ok (.anewarray 9, 3) := by decide +kernel
theorem dX4_init_10 : decode cX4_init 10 = .ok (.putfield 11, 3) := by decide +kernel
theorem dX4_init_13 : decode cX4_init 13 = .ok (.aload_n 0, 1) := by decide +kernel
theorem dX4_init_14 : decode cX4_init 14 = .ok (.bipush 12, 2) := by decide +kernel
theorem dX4_init_16 : decode cX4_init 16 = .ok (.anewarray 15, 3) := by decide +kernel
theorem dX4_init_19 : decode cX4_init 19 = .ok (.putfield 17, 3) := by decide +kernel
theorem dX4_init_22 : decode cX4_init 22 = .ok (.aload_n 0, 1) := by decide +kernel
theorem dX4_init_23 : decode cX4_init 23 = .ok (.iconst 4, 1) := by decide +kernel
theorem dX4_init_24 : decode cX4_init 24 = .ok (.anewarray 21, 3) := by decide +kernel
theorem dX4_init_27 : decode cX4_init 27 = .ok (.putfield 23, 3) := by decide +kernel
theorem dX4_init_30 : decode cX4_init 30 = .ok (.aload_n 0, 1) := by decide +kernel
theorem dX4_init_31 : decode cX4_init 31 = .ok (.iconst 5, 1) := by decide +kernel
theorem dX4_init_32 : decode cX4_init 32 = .ok (.anewarray 27, 3) := by decide +kernel
theorem dX4_init_35 : decode cX4_init 35 = .ok (.putfield 29, 3) := by decide +kernel
theorem dX4_init_38 : decode cX4_init 38 = .ok (.aload_n 0, 1) := by decide +kernel
theorem dX4_init_39 : decode cX4_init 39 = .ok (.bipush 15, 2) := by decide +kernel
theorem dX4_init_41 : decode cX4_init 41 = .ok (.putfield 33, 3) := by decide +kernel
theorem dX4_init_44 : decode cX4_init 44 = .ok (.return_, 1) := by decide +kernel
def wkX4 : List Cond := [Cond.methodLink RX4 1 objectInit, Cond.instanceMethod objectInit, Cond.code objectInit ⟨#[0xb1]⟩ 1 none, Cond.fieldLink RX4 11 "HeadwayDeep" "platforms" "[LHeadwayDeep$Platform;", Cond.fieldLink RX4 17 "HeadwayDeep" "beacons" "[LHeadwayDeep$Beacon;", Cond.fieldLink RX4 23 "HeadwayDeep" "zones" "[LHeadwayDeep$Zone;", Cond.fieldLink RX4 29 "HeadwayDeep" "trains" "[LHeadwayDeep$Train;", Cond.fieldLink RX4 33 "HeadwayDeep" "lineSpeed" "I", Cond.classLink RX4 9 RX1, Cond.classLink RX4 15 RX0, Cond.classLink RX4 21 RX3, Cond.classLink RX4 27 RX2]
theorem wkX4_in : (wkX4.all (fun w => decide (w ∈ lw_tbl) && goodWord w)) = true := by decide +kernel
abbrev atX4 (D : va_G) (X : Nat → ClassId) (h0 sz : Nat) : (Nat × Nat × Nat × Nat) → State → Prop := fun (u : Nat × Nat × Nat × Nat) t => match u with | (q0, q1, q2, q3) => va_P D vwCl [(h0, .inr (4, [.ref q0, .ref q1, .ref q2, .ref q3, .int 0, .int 0, .int 0, .int 0, .int 15, .int 0])), (q0, .inl (X 1, 6, .inr (.inr (.inr (.inr (fun _ => none)))))), (q1, .inl (X 2, 12, .inr (.inr (.inr (.inr (fun _ => none)))))), (q2, .inl (X 3, 4, .inr (.inr (.inr (.inr (fun _ => none)))))), (q3, .inl (X 4, 5, .inr (.inr (.inr (.inr (fun _ => none))))))] t.heap ∧ va_D (va_A [(h0, .inr (4, [.null, .null, .null, .null, .int 0, .int 0, .int 0, .int 0, .int 0, .int 0]))] sz) [(h0, .inr (4, [.ref q0, .ref q1, .ref q2, .ref q3, .int 0, .int 0, .int 0, .int 0, .int 15, .int 0])), (q0, .inl (X 1, 6, .inr (.inr (.inr (.inr (fun _ => none)))))), (q1, .inl (X 2, 12, .inr (.inr (.inr (.inr (fun _ => none)))))), (q2, .inl (X 3, 4, .inr (.inr (.inr (.inr (fun _ => none)))))), (q3, .inl (X 4, 5, .inr (.inr (.inr (.inr (fun _ => none))))))]
set_option maxHeartbeats 4000000 in
set_option maxRecDepth 100000 in
theorem c_X4_init (l : Launch) (D : va_G) (X : Nat → ClassId) (h0 sz : Nat) : Met l yX4_init (Cond.code yX4_init cX4_init 1 none :: LT) { frames := 1, cells := 4, slots := 27, locals := 12 } (va_Pc [.ref h0] (fun U => U.heap.size = sz ∧ va_P D vwCl [(h0, .inr (4, [.null, .null, .null, .null, .int 0, .int 0, .int 0, .int 0, .int 0, .int 0]))] U.heap ∧ va_K D vwCl (TYX X) U ∧ va_D (fun _ => True) [(h0, .inr (4, [.null, .null, .null, .null, .int 0, .int 0, .int 0, .int 0, .int 0, .int 0]))] ∧ va_AO RX1 U ∧ va_AO RX0 U ∧ va_AO RX3 U ∧ va_AO RX2 U)) (va_Qv (fun _ => True) (atX4 D X h0 sz) (va_A [(h0, .inr (4, [.null, .null, .null, .null, .int 0, .int 0, .int 0, .int 0, .int 0, .int 0]))] sz)) 4 27 (va_A [(h0, .inr (4, [.null, .null, .null, .null, .int 0, .int 0, .int 0, .int 0, .int 0, .int 0]))] sz) := by
  refine Met.ofW (cc := cX4_init) (maxL := 1) (ret := none) (by decide) rfl ?_
  intro p e s m args below meth c s₁ B hml hv
  obtain ⟨rfl, hsz, hP, hK, hD0, hAO0, hAO1, hAO2, hAO3⟩ := hv
  have hx := B.exec
  have hb := B.bytes
  have hr := B.returns
  have hts0 := atoms_spec (ws := Cond.code yX4_init cX4_init 1 none :: LT) B.pre
  have hts : ∀ w ∈ LT, w.before _ s = true := fun w hw => hts0 w (List.mem_cons_of_mem _ hw)
  have hw9 : ∀ w : Cond, w ∈ wkX4 → w.before _ s = true := fun w hw => by
    have h9 := List.all_eq_true.mp wkX4_in w hw
    simp only [Bool.and_eq_true, decide_eq_true_eq] at h9
    exact hts w (LT_in h9.1 h9.2)
  have hown : s.vm.findClass RX4 = some m.cls := findClass_of_methodNamed B.named
  have hlocks := B.notSynchronized
  have hin : meth.name = "<init>" := (name_of_methodNamed B.named B.method).1
  subst hsz
  have hD := hD0.self (sz := s.heap.size)
  generalize hAe : va_A [(h0, .inr (4, [.null, .null, .null, .null, .int 0, .int 0, .int 0, .int 0, .int 0, .int 0]))] s.heap.size = A at hD ⊢
  have hA : ∀ q : Nat, s.heap.size ≤ q → A q := fun q h => by rw [← hAe]; exact Or.inr h
  have hS : va_S A s.heap s.heap [] := va_S.rf
  have hl := lv_entry ([.ref h0]) (n := 1) (Nat.le_of_ble_eq_true rfl)
  rw [lg_entry_eq]
  generalize (lg_sl ([.ref h0]) ++ List.replicate (1 - (lg_sl ([.ref h0])).length) Slot.unset).toArray = ls at hl ⊢
  have hl : lv_has ls 1 [(0, .ref h0)] := hl
  refine lv_aload_n hx hb dX4_init_0 rfl (lv_at hl 0 rfl) ?_
  refine W.objInit hx hb hown (hw9 (.methodLink RX4 1 objectInit) (by simp [wkX4])) (hw9 (.instanceMethod objectInit) (by simp [wkX4])) (hw9 (.code objectInit ⟨#[0xb1]⟩ 1 none) (by simp [wkX4])) rfl (by rw [hml]; exact hl.1) rfl dX4_init_1 (Nat.le_of_ble_eq_true rfl) (Nat.le_of_ble_eq_true rfl) ?_
  refine W.eq (g2 := F0 m 4 ls []) rfl ?_
  refine lv_aload_n hx hb dX4_init_4 rfl (lv_at hl 0 rfl) ?_
  refine lv_bipush (v := 6) hx hb dX4_init_5 (by decide +kernel) ?_
  refine va_newq (C := RX1) (N' := 6) hx hb hown (hw9 (.classLink RX4 9 RX1) (by simp [wkX4])) (hAO0) hK hP hD hS hA (by decide +kernel) (by decide +kernel) (by decide +kernel) (show 0 + 1 ≤ 4 by omega) (show 0 + 6 ≤ 27 by omega) dX4_init_7 (fun q0 cA H1 hK1 hP hD hS => ?_)
  cases (arr_sameO hK1 0 rfl rfl)
  clear hK1
  have hP : va_P D vwCl [(h0, .inr (4, [.null, .null, .null, .null, .int 0, .int 0, .int 0, .int 0, .int 0, .int 0])), (q0, .inl (X 1, 6, .inr (.inr (.inr (.inr (fun _ => none))))))] H1 := hP
  have hD : va_D A [(h0, .inr (4, [.null, .null, .null, .null, .int 0, .int 0, .int 0, .int 0, .int 0, .int 0])), (q0, .inl (X 1, 6, .inr (.inr (.inr (.inr (fun _ => none))))))] := hD
  refine va_putF (D := D) (ci := 4) (v := .ref q0) (ty := tyX4 0) (C := RX4) (T := TX4) (N := 10) hx hb hts (obj_lays_lw (kp := 0) (by unfold isObj; omega)) tyX4 tyX4_ok nmX4 hown hK hP hD hS 0 rfl rfl 0 (by decide) (hw9 (.fieldLink RX4 11 "HeadwayDeep" "platforms" "[LHeadwayDeep$Platform;") (by simp [wkX4])) (fun _ h9 => h9) rfl hin rfl (by decide +kernel) rfl rfl (Nat.le_of_ble_eq_true rfl) dX4_init_10 (fun H locs hP hD hS => ?_)
  have hP : va_P D vwCl [(h0, .inr (4, [.ref q0, .null, .null, .null, .int 0, .int 0, .int 0, .int 0, .int 0, .int 0])), (q0, .inl (X 1, 6, .inr (.inr (.inr (.inr (fun _ => none))))))] H := hP
  have hD : va_D A [(h0, .inr (4, [.ref q0, .null, .null, .null, .int 0, .int 0, .int 0, .int 0, .int 0, .int 0])), (q0, .inl (X 1, 6, .inr (.inr (.inr (.inr (fun _ => none))))))] := hD
  refine lv_aload_n hx hb dX4_init_13 rfl (lv_at hl 0 rfl) ?_
  refine lv_bipush (v := 12) hx hb dX4_init_14 (by decide +kernel) ?_
  refine va_newq (C := RX0) (N' := 12) hx hb hown (hw9 (.classLink RX4 15 RX0) (by simp [wkX4])) (hAO1) hK hP hD hS hA (by decide +kernel) (by decide +kernel) (by decide +kernel) (show 1 + 1 ≤ 4 by omega) (show 6 + 12 ≤ 27 by omega) dX4_init_16 (fun q1 cA H1 hK1 hP hD hS => ?_)
  cases (arr_sameO hK1 1 rfl rfl)
  clear hK1
  have hP : va_P D vwCl [(h0, .inr (4, [.ref q0, .null, .null, .null, .int 0, .int 0, .int 0, .int 0, .int 0, .int 0])), (q0, .inl (X 1, 6, .inr (.inr (.inr (.inr (fun _ => none)))))), (q1, .inl (X 2, 12, .inr (.inr (.inr (.inr (fun _ => none))))))] H1 := hP
  have hD : va_D A [(h0, .inr (4, [.ref q0, .null, .null, .null, .int 0, .int 0, .int 0, .int 0, .int 0, .int 0])), (q0, .inl (X 1, 6, .inr (.inr (.inr (.inr (fun _ => none)))))), (q1, .inl (X 2, 12, .inr (.inr (.inr (.inr (fun _ => none))))))] := hD
  refine va_putF (D := D) (ci := 4) (v := .ref q1) (ty := tyX4 1) (C := RX4) (T := TX4) (N := 10) hx hb hts (obj_lays_lw (kp := 0) (by unfold isObj; omega)) tyX4 tyX4_ok nmX4 hown hK hP hD hS 0 rfl rfl 1 (by decide) (hw9 (.fieldLink RX4 17 "HeadwayDeep" "beacons" "[LHeadwayDeep$Beacon;") (by simp [wkX4])) (fun _ h9 => h9) rfl hin rfl (by decide +kernel) rfl rfl (Nat.le_of_ble_eq_true rfl) dX4_init_19 (fun H locs hP hD hS => ?_)
  have hP : va_P D vwCl [(h0, .inr (4, [.ref q0, .ref q1, .null, .null, .int 0, .int 0, .int 0, .int 0, .int 0, .int 0])), (q0, .inl (X 1, 6, .inr (.inr (.inr (.inr (fun _ => none)))))), (q1, .inl (X 2, 12, .inr (.inr (.inr (.inr (fun _ => none))))))] H := hP
  have hD : va_D A [(h0, .inr (4, [.ref q0, .ref q1, .null, .null, .int 0, .int 0, .int 0, .int 0, .int 0, .int 0])), (q0, .inl (X 1, 6, .inr (.inr (.inr (.inr (fun _ => none)))))), (q1, .inl (X 2, 12, .inr (.inr (.inr (.inr (fun _ => none))))))] := hD
  refine lv_aload_n hx hb dX4_init_22 rfl (lv_at hl 0 rfl) ?_
  refine lv_iconst (v := 4) hx hb dX4_init_23 (by decide +kernel) ?_
  refine va_newq (C := RX3) (N' := 4) hx hb hown (hw9 (.classLink RX4 21 RX3) (by simp [wkX4])) (hAO2) hK hP hD hS hA (by decide +kernel) (by decide +kernel) (by decide +kernel) (show 2 + 1 ≤ 4 by omega) (show 18 + 4 ≤ 27 by omega) dX4_init_24 (fun q2 cA H1 hK1 hP hD hS => ?_)
  cases (arr_sameO hK1 2 rfl rfl)
  clear hK1
  have hP : va_P D vwCl [(h0, .inr (4, [.ref q0, .ref q1, .null, .null, .int 0, .int 0, .int 0, .int 0, .int 0, .int 0])), (q0, .inl (X 1, 6, .inr (.inr (.inr (.inr (fun _ => none)))))), (q1, .inl (X 2, 12, .inr (.inr (.inr (.inr (fun _ => none)))))), (q2, .inl (X 3, 4, .inr (.inr (.inr (.inr (fun _ => none))))))] H1 := hP
  have hD : va_D A [(h0, .inr (4, [.ref q0, .ref q1, .null, .null, .int 0, .int 0, .int 0, .int 0, .int 0, .int 0])), (q0, .inl (X 1, 6, .inr (.inr (.inr (.inr (fun _ => none)))))), (q1, .inl (X 2, 12, .inr (.inr (.inr (.inr (fun _ => none)))))), (q2, .inl (X 3, 4, .inr (.inr (.inr (.inr (fun _ => none))))))] := hD
  refine va_putF (D := D) (ci := 4) (v := .ref q2) (ty := tyX4 2) (C := RX4) (T := TX4) (N := 10) hx hb hts (obj_lays_lw (kp := 0) (by unfold isObj; omega)) tyX4 tyX4_ok nmX4 hown hK hP hD hS 0 rfl rfl 2 (by decide) (hw9 (.fieldLink RX4 23 "HeadwayDeep" "zones" "[LHeadwayDeep$Zone;") (by simp [wkX4])) (fun _ h9 => h9) rfl hin rfl (by decide +kernel) rfl rfl (Nat.le_of_ble_eq_true rfl) dX4_init_27 (fun H locs hP hD hS => ?_)
  have hP : va_P D vwCl [(h0, .inr (4, [.ref q0, .ref q1, .ref q2, .null, .int 0, .int 0, .int 0, .int 0, .int 0, .int 0])), (q0, .inl (X 1, 6, .inr (.inr (.inr (.inr (fun _ => none)))))), (q1, .inl (X 2, 12, .inr (.inr (.inr (.inr (fun _ => none)))))), (q2, .inl (X 3, 4, .inr (.inr (.inr (.inr (fun _ => none))))))] H := hP
  have hD : va_D A [(h0, .inr (4, [.ref q0, .ref q1, .ref q2, .null, .int 0, .int 0, .int 0, .int 0, .int 0, .int 0])), (q0, .inl (X 1, 6, .inr (.inr (.inr (.inr (fun _ => none)))))), (q1, .inl (X 2, 12, .inr (.inr (.inr (.inr (fun _ => none)))))), (q2, .inl (X 3, 4, .inr (.inr (.inr (.inr (fun _ => none))))))] := hD
  refine lv_aload_n hx hb dX4_init_30 rfl (lv_at hl 0 rfl) ?_
  refine lv_iconst (v := 5) hx hb dX4_init_31 (by decide +kernel) ?_
  refine va_newq (C := RX2) (N' := 5) hx hb hown (hw9 (.classLink RX4 27 RX2) (by simp [wkX4])) (hAO3) hK hP hD hS hA (by decide +kernel) (by decide +kernel) (by decide +kernel) (show 3 + 1 ≤ 4 by omega) (show 22 + 5 ≤ 27 by omega) dX4_init_32 (fun q3 cA H1 hK1 hP hD hS => ?_)
  cases (arr_sameO hK1 3 rfl rfl)
  clear hK1
  have hP : va_P D vwCl [(h0, .inr (4, [.ref q0, .ref q1, .ref q2, .null, .int 0, .int 0, .int 0, .int 0, .int 0, .int 0])), (q0, .inl (X 1, 6, .inr (.inr (.inr (.inr (fun _ => none)))))), (q1, .inl (X 2, 12, .inr (.inr (.inr (.inr (fun _ => none)))))), (q2, .inl (X 3, 4, .inr (.inr (.inr (.inr (fun _ => none)))))), (q3, .inl (X 4, 5, .inr (.inr (.inr (.inr (fun _ => none))))))] H1 := hP
  have hD : va_D A [(h0, .inr (4, [.ref q0, .ref q1, .ref q2, .null, .int 0, .int 0, .int 0, .int 0, .int 0, .int 0])), (q0, .inl (X 1, 6, .inr (.inr (.inr (.inr (fun _ => none)))))), (q1, .inl (X 2, 12, .inr (.inr (.inr (.inr (fun _ => none)))))), (q2, .inl (X 3, 4, .inr (.inr (.inr (.inr (fun _ => none)))))), (q3, .inl (X 4, 5, .inr (.inr (.inr (.inr (fun _ => none))))))] := hD
  refine va_putF (D := D) (ci := 4) (v := .ref q3) (ty := tyX4 3) (C := RX4) (T := TX4) (N := 10) hx hb hts (obj_lays_lw (kp := 0) (by unfold isObj; omega)) tyX4 tyX4_ok nmX4 hown hK hP hD hS 0 rfl rfl 3 (by decide) (hw9 (.fieldLink RX4 29 "HeadwayDeep" "trains" "[LHeadwayDeep$Train;") (by simp [wkX4])) (fun _ h9 => h9) rfl hin rfl (by decide +kernel) rfl rfl (Nat.le_of_ble_eq_true rfl) dX4_init_35 (fun H locs hP hD hS => ?_)
  have hP : va_P D vwCl [(h0, .inr (4, [.ref q0, .ref q1, .ref q2, .ref q3, .int 0, .int 0, .int 0, .int 0, .int 0, .int 0])), (q0, .inl (X 1, 6, .inr (.inr (.inr (.inr (fun _ => none)))))), (q1, .inl (X 2, 12, .inr (.inr (.inr (.inr (fun _ => none)))))), (q2, .inl (X 3, 4, .inr (.inr (.inr (.inr (fun _ => none)))))), (q3, .inl (X 4, 5, .inr (.inr (.inr (.inr (fun _ => none))))))] H := hP
  have hD : va_D A [(h0, .inr (4, [.ref q0, .ref q1, .ref q2, .ref q3, .int 0, .int 0, .int 0, .int 0, .int 0, .int 0])), (q0, .inl (X 1, 6, .inr (.inr (.inr (.inr (fun _ => none)))))), (q1, .inl (X 2, 12, .inr (.inr (.inr (.inr (fun _ => none)))))), (q2, .inl (X 3, 4, .inr (.inr (.inr (.inr (fun _ => none)))))), (q3, .inl (X 4, 5, .inr (.inr (.inr (.inr (fun _ => none))))))] := hD
  refine lv_aload_n hx hb dX4_init_38 rfl (lv_at hl 0 rfl) ?_
  refine lv_bipush (v := 15) hx hb dX4_init_39 (by decide +kernel) ?_
  refine va_put (D := D) (ci := 4) (v := .int 15) (ty := .int) (C := RX4) (T := TX4) (N := 10) hx hb hts (obj_lays_lw (kp := 0) (by unfold isObj; omega)) tyX4 tyX4_ok nmX4 hown hK hP hD hS 0 rfl rfl 8 (by decide) (hw9 (.fieldLink RX4 33 "HeadwayDeep" "lineSpeed" "I") (by simp [wkX4])) (fun _ h9 => h9) rfl (by decide +kernel) rfl rfl (Nat.le_of_ble_eq_true rfl) dX4_init_41 (fun H locs hP hD hS => ?_)
  have hP : va_P D vwCl [(h0, .inr (4, [.ref q0, .ref q1, .ref q2, .ref q3, .int 0, .int 0, .int 0, .int 0, .int 15, .int 0])), (q0, .inl (X 1, 6, .inr (.inr (.inr (.inr (fun _ => none)))))), (q1, .inl (X 2, 12, .inr (.inr (.inr (.inr (fun _ => none)))))), (q2, .inl (X 3, 4, .inr (.inr (.inr (.inr (fun _ => none)))))), (q3, .inl (X 4, 5, .inr (.inr (.inr (.inr (fun _ => none))))))] H := hP
  have hD : va_D A [(h0, .inr (4, [.ref q0, .ref q1, .ref q2, .ref q3, .int 0, .int 0, .int 0, .int 0, .int 15, .int 0])), (q0, .inl (X 1, 6, .inr (.inr (.inr (.inr (fun _ => none)))))), (q1, .inl (X 2, 12, .inr (.inr (.inr (.inr (fun _ => none)))))), (q2, .inl (X 3, 4, .inr (.inr (.inr (.inr (fun _ => none)))))), (q3, .inl (X 4, 5, .inr (.inr (.inr (.inr (fun _ => none))))))] := hD
  exact W.vret hx hb hr (fun t ht hW => ⟨⟨(q0, q1, q2, q3), rfl, trivial, by rw [ht]; exact hP, hAe.symm ▸ hD⟩, hS.F ht⟩) hS.2.2 dX4_init_44

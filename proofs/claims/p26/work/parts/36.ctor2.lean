/-! printed (wip/p26/ctor.py): constructor X2 -/
theorem dX2_init_0 : decode cX2_init 0 = .ok (.aload_n 0, 1) := by decide +kernel
theorem dX2_init_1 : decode cX2_init 1 = .ok (.invokespecial 3, 3) := by decide +kernel
theorem dX2_init_4 : decode cX2_init 4 = .ok (.aload_n 0, 1) := by decide +kernel
theorem dX2_init_5 : decode cX2_init 5 = .ok (.sipush 1000, 3) := by decide +kernel
theorem dX2_init_8 : decode cX2_init 8 = .ok (.newarray .byte, 2) := by decide +kernel
theorem dX2_init_10 : decode cX2_init 10 = .ok (.putfield 9, 3) := by decide +kernel
theorem dX2_init_13 : decode cX2_init 13 = .ok (.aload_n 0, 1) := by decide +kernel
theorem dX2_init_14 : decode cX2_init 14 = .ok (.sipush 1000, 3) := by decide +kernel
theorem dX2_init_17 : decode cX2_init 17 = .ok (.newarray .byte, 2) := by decide +kernel
theorem dX2_init_19 : decode cX2_init 19 = .ok (.putfield 15, 3) := by decide +kernel
theorem dX2_init_22 : decode cX2_init 22 = .ok (.aload_n 0, 1) := by decide +kernel
theorem dX2_init_23 : decode cX2_init 23 = .ok (.iconst (-1), 1) := by decide +kernel
theorem dX2_init_24 : decode cX2_init 24 = .ok (.putfield 18, 3) := by decide +kernel
theorem dX2_init_27 : decode cX2_init 27 = .ok (.aload_n 0, 1) := by decide +kernel
theorem dX2_init_28 : decode cX2_init 28 = .ok (.iload_n 1, 1) := by decide +kernel
theorem dX2_init_29 : decode cX2_init 29 = .ok (.putfield 22, 3) := by decide +kernel
theorem dX2_init_32 : decode cX2_init 32 = .ok (.aload_n 0, 1) := by decide +kernel
theorem dX2_init_33 : decode cX2_init 33 = .ok (.iload_n 2, 1) := by decide +kernel
theorem dX2_init_34 : decode cX2_init 34 = .ok (.putfield 25, 3) := by decide +kernel
theorem dX2_init_37 : decode cX2_init 37 = .ok (.aload_n 0, 1) := by decide +kernel
theorem dX2_init_38 : decode cX2_init 38 = .ok (.iload_n 1, 1) := by decide +kernel
theorem dX2_init_39 : decode cX2_init 39 = .ok (.putfield 28, 3) := by decide +kernel
theorem dX2_init_42 : decode cX2_init 42 = .ok (.aload_n 0, 1) := by decide +kernel
theorem dX2_init_43 : decode cX2_init 43 = .ok (.iload_n 1, 1) := by decide +kernel
theorem dX2_init_44 : decode cX2_init 44 = .ok (.putfield 31, 3) := by decide +kernel
theorem dX2_init_47 : decode cX2_init 47 = .ok (.aload_n 0, 1) := by decide +kernel
theorem dX2_init_48 : decode cX2_init 48 = .ok (.iload_n 1, 1) := by decide +kernel
theorem dX2_init_49 : decode cX2_init 49 = .ok (.putfield 34, 3) := by decide +kernel
theorem dX2_init_52 : decode cX2_init 52 = .ok (.aload_n 0, 1) := by decide +kernel
theorem dX2_init_53 : decode cX2_init 53 = .ok (.iload_n 1, 1) := by decide +kernel
theorem dX2_init_54 : decode cX2_init 54 = .ok (.putfield 37, 3) := by decide +kernel
theorem dX2_init_57 : decode cX2_init 57 = .ok (.return_, 1) := by decide +kernel
def wkX2 : List Cond := [Cond.methodLink RX2 3 objectInit, Cond.instanceMethod objectInit, Cond.code objectInit ⟨#[0xb1]⟩ 1 none, Cond.fieldLink RX2 9 "HeadwayDeep$Train" "speeds" "[B", Cond.fieldLink RX2 15 "HeadwayDeep$Train" "steps" "[B", Cond.fieldLink RX2 18 "HeadwayDeep$Train" "doors" "I", Cond.fieldLink RX2 22 "HeadwayDeep$Train" "firstPlace" "I", Cond.fieldLink RX2 25 "HeadwayDeep$Train" "firstTick" "I", Cond.fieldLink RX2 28 "HeadwayDeep$Train" "place" "I", Cond.fieldLink RX2 31 "HeadwayDeep$Train" "low" "I", Cond.fieldLink RX2 34 "HeadwayDeep$Train" "high" "I", Cond.fieldLink RX2 37 "HeadwayDeep$Train" "report" "I", Cond.arrayClass .byte]
theorem wkX2_in : (wkX2.all (fun w => decide (w ∈ lw_tbl) && goodWord w)) = true := by decide +kernel
abbrev atX2 (D : va_G) (X : Nat → ClassId) (h0 sz : Nat) (a b : Int32) : (Nat × Nat) → State → Prop := fun (u : Nat × Nat) t => match u with | (q0, q1) => va_P D vwCl [(h0, .inr (2, [.int a, .int b, .ref q0, .ref q1, .int a, .int a, .int a, .int a, .int 0, .int 0, .int 0, .int 0, .int 0, .null, .int 0, .int (-1), .int 0, .int 0])), (q0, .inl (X 9, 1000, .inl (fun _ => 0))), (q1, .inl (X 9, 1000, .inl (fun _ => 0)))] t.heap ∧ va_D (va_A [(h0, .inr (2, [.int 0, .int 0, .null, .null, .int 0, .int 0, .int 0, .int 0, .int 0, .int 0, .int 0, .int 0, .int 0, .null, .int 0, .int 0, .int 0, .int 0]))] sz) [(h0, .inr (2, [.int a, .int b, .ref q0, .ref q1, .int a, .int a, .int a, .int a, .int 0, .int 0, .int 0, .int 0, .int 0, .null, .int 0, .int (-1), .int 0, .int 0])), (q0, .inl (X 9, 1000, .inl (fun _ => 0))), (q1, .inl (X 9, 1000, .inl (fun _ => 0)))]
set_option maxHeartbeats 4000000 in
set_option maxRecDepth 100000 in
theorem c_X2_init (l : Launch) (D : va_G) (X : Nat → ClassId) (h0 sz : Nat) (a b : Int32) : Met l yX2_init (Cond.code yX2_init cX2_init 3 none :: LT) { frames := 1, cells := 2, slots := 2000, locals := 12 } (va_Pc [.ref h0, .int a, .int b] (fun U => U.heap.size = sz ∧ va_P D vwCl [(h0, .inr (2, [.int 0, .int 0, .null, .null, .int 0, .int 0, .int 0, .int 0, .int 0, .int 0, .int 0, .int 0, .int 0, .null, .int 0, .int 0, .int 0, .int 0]))] U.heap ∧ va_K D vwCl (TYX X) U ∧ va_D (fun _ => True) [(h0, .inr (2, [.int 0, .int 0, .null, .null, .int 0, .int 0, .int 0, .int 0, .int 0, .int 0, .int 0, .int 0, .int 0, .null, .int 0, .int 0, .int 0, .int 0]))])) (va_Qv (fun _ => True) (atX2 D X h0 sz a b) (va_A [(h0, .inr (2, [.int 0, .int 0, .null, .null, .int 0, .int 0, .int 0, .int 0, .int 0, .int 0, .int 0, .int 0, .int 0, .null, .int 0, .int 0, .int 0, .int 0]))] sz)) 2 2000 (va_A [(h0, .inr (2, [.int 0, .int 0, .null, .null, .int 0, .int 0, .int 0, .int 0, .int 0, .int 0, .int 0, .int 0, .int 0, .null, .int 0, .int 0, .int 0, .int 0]))] sz) := by
  refine Met.ofW (cc := cX2_init) (maxL := 3) (ret := none) (by decide) rfl ?_
  intro p e s m args below meth c s₁ B hml hv
  obtain ⟨rfl, hsz, hP, hK, hD0⟩ := hv
  have hx := B.exec
  have hb := B.bytes
  have hr := B.returns
  have hts0 := atoms_spec (ws := Cond.code yX2_init cX2_init 3 none :: LT) B.pre
  have hts : ∀ w ∈ LT, w.before _ s = true := fun w hw => hts0 w (List.mem_cons_of_mem _ hw)
  have hw9 : ∀ w : Cond, w ∈ wkX2 → w.before _ s = true := fun w hw => by
    have h9 := List.all_eq_true.mp wkX2_in w hw
    simp only [Bool.and_eq_true, decide_eq_true_eq] at h9
    exact hts w (LT_in h9.1 h9.2)
  have hown : s.vm.findClass RX2 = some m.cls := findClass_of_methodNamed B.named
  have hlocks := B.notSynchronized
  have hin : meth.name = "<init>" := (name_of_methodNamed B.named B.method).1
  subst hsz
  have hD := hD0.self (sz := s.heap.size)
  generalize hAe : va_A [(h0, .inr (2, [.int 0, .int 0, .null, .null, .int 0, .int 0, .int 0, .int 0, .int 0, .int 0, .int 0, .int 0, .int 0, .null, .int 0, .int 0, .int 0, .int 0]))] s.heap.size = A at hD ⊢
  have hA : ∀ q : Nat, s.heap.size ≤ q → A q := fun q h => by rw [← hAe]; exact Or.inr h
  have hS : va_S A s.heap s.heap [] := va_S.rf
  have hl := lv_entry ([.ref h0, .int a, .int b]) (n := 3) (Nat.le_of_ble_eq_true rfl)
  rw [lg_entry_eq]
  generalize (lg_sl ([.ref h0, .int a, .int b]) ++ List.replicate (3 - (lg_sl ([.ref h0, .int a, .int b])).length) Slot.unset).toArray = ls at hl ⊢
  have hl : lv_has ls 3 [(0, .ref h0), (1, .int a), (2, .int b)] := hl
  refine lv_aload_n hx hb dX2_init_0 rfl (lv_at hl 0 rfl) ?_
  refine W.objInit hx hb hown (hw9 (.methodLink RX2 3 objectInit) (by simp [wkX2])) (hw9 (.instanceMethod objectInit) (by simp [wkX2])) (hw9 (.code objectInit ⟨#[0xb1]⟩ 1 none) (by simp [wkX2])) rfl (by rw [hml]; exact hl.1) rfl dX2_init_1 (Nat.le_of_ble_eq_true rfl) (Nat.le_of_ble_eq_true rfl) ?_
  refine W.eq (g2 := F0 m 4 ls []) rfl ?_
  refine lv_aload_n hx hb dX2_init_4 rfl (lv_at hl 0 rfl) ?_
  refine lv_sipush (v := 1000) hx hb dX2_init_5 (by decide +kernel) ?_
  refine va_newa (atype := .byte) (ty := .byte) (a0 := (1000, .inl (fun _ => 0))) (N' := 1000) hx hb (hw9 (.arrayClass .byte) (by simp [wkX2])) rfl hK hP hD hS hA (fun _ => rfl) (by decide +kernel) (by decide +kernel) (by decide +kernel) (show 0 + 1 ≤ 2 by omega) (show 0 + 1000 ≤ 2000 by omega) dX2_init_8 (fun q0 cA H1 hK1 hP hD hS => ?_)
  cases (arr_same hK1 4 rfl rfl)
  clear hK1
  have hP : va_P D vwCl [(h0, .inr (2, [.int 0, .int 0, .null, .null, .int 0, .int 0, .int 0, .int 0, .int 0, .int 0, .int 0, .int 0, .int 0, .null, .int 0, .int 0, .int 0, .int 0])), (q0, .inl (X 9, 1000, .inl (fun _ => 0)))] H1 := hP
  have hD : va_D A [(h0, .inr (2, [.int 0, .int 0, .null, .null, .int 0, .int 0, .int 0, .int 0, .int 0, .int 0, .int 0, .int 0, .int 0, .null, .int 0, .int 0, .int 0, .int 0])), (q0, .inl (X 9, 1000, .inl (fun _ => 0)))] := hD
  refine va_putF (D := D) (ci := 2) (v := .ref q0) (ty := tyX2 2) (C := RX2) (T := TX2) (N := 18) hx hb hts (obj_lays_lw (kp := 8) (by unfold isObj; omega)) tyX2 tyX2_ok nmX2 hown hK hP hD hS 0 rfl rfl 2 (by decide) (hw9 (.fieldLink RX2 9 "HeadwayDeep$Train" "speeds" "[B") (by simp [wkX2])) (fun _ h9 => h9) rfl hin rfl (by decide +kernel) rfl rfl (Nat.le_of_ble_eq_true rfl) dX2_init_10 (fun H locs hP hD hS => ?_)
  have hP : va_P D vwCl [(h0, .inr (2, [.int 0, .int 0, .ref q0, .null, .int 0, .int 0, .int 0, .int 0, .int 0, .int 0, .int 0, .int 0, .int 0, .null, .int 0, .int 0, .int 0, .int 0])), (q0, .inl (X 9, 1000, .inl (fun _ => 0)))] H := hP
  have hD : va_D A [(h0, .inr (2, [.int 0, .int 0, .ref q0, .null, .int 0, .int 0, .int 0, .int 0, .int 0, .int 0, .int 0, .int 0, .int 0, .null, .int 0, .int 0, .int 0, .int 0])), (q0, .inl (X 9, 1000, .inl (fun _ => 0)))] := hD
  refine lv_aload_n hx hb dX2_init_13 rfl (lv_at hl 0 rfl) ?_
  refine lv_sipush (v := 1000) hx hb dX2_init_14 (by decide +kernel) ?_
  refine va_newa (atype := .byte) (ty := .byte) (a0 := (1000, .inl (fun _ => 0))) (N' := 1000) hx hb (hw9 (.arrayClass .byte) (by simp [wkX2])) rfl hK hP hD hS hA (fun _ => rfl) (by decide +kernel) (by decide +kernel) (by decide +kernel) (show 1 + 1 ≤ 2 by omega) (show 1000 + 1000 ≤ 2000 by omega) dX2_init_17 (fun q1 cA H1 hK1 hP hD hS => ?_)
  cases (arr_same hK1 4 rfl rfl)
  clear hK1
  have hP : va_P D vwCl [(h0, .inr (2, [.int 0, .int 0, .ref q0, .null, .int 0, .int 0, .int 0, .int 0, .int 0, .int 0, .int 0, .int 0, .int 0, .null, .int 0, .int 0, .int 0, .int 0])), (q0, .inl (X 9, 1000, .inl (fun _ => 0))), (q1, .inl (X 9, 1000, .inl (fun _ => 0)))] H1 := hP
  have hD : va_D A [(h0, .inr (2, [.int 0, .int 0, .ref q0, .null, .int 0, .int 0, .int 0, .int 0, .int 0, .int 0, .int 0, .int 0, .int 0, .null, .int 0, .int 0, .int 0, .int 0])), (q0, .inl (X 9, 1000, .inl (fun _ => 0))), (q1, .inl (X 9, 1000, .inl (fun _ => 0)))] := hD
  refine va_putF (D := D) (ci := 2) (v := .ref q1) (ty := tyX2 3) (C := RX2) (T := TX2) (N := 18) hx hb hts (obj_lays_lw (kp := 8) (by unfold isObj; omega)) tyX2 tyX2_ok nmX2 hown hK hP hD hS 0 rfl rfl 3 (by decide) (hw9 (.fieldLink RX2 15 "HeadwayDeep$Train" "steps" "[B") (by simp [wkX2])) (fun _ h9 => h9) rfl hin rfl (by decide +kernel) rfl rfl (Nat.le_of_ble_eq_true rfl) dX2_init_19 (fun H locs hP hD hS => ?_)
  have hP : va_P D vwCl [(h0, .inr (2, [.int 0, .int 0, .ref q0, .ref q1, .int 0, .int 0, .int 0, .int 0, .int 0, .int 0, .int 0, .int 0, .int 0, .null, .int 0, .int 0, .int 0, .int 0])), (q0, .inl (X 9, 1000, .inl (fun _ => 0))), (q1, .inl (X 9, 1000, .inl (fun _ => 0)))] H := hP
  have hD : va_D A [(h0, .inr (2, [.int 0, .int 0, .ref q0, .ref q1, .int 0, .int 0, .int 0, .int 0, .int 0, .int 0, .int 0, .int 0, .int 0, .null, .int 0, .int 0, .int 0, .int 0])), (q0, .inl (X 9, 1000, .inl (fun _ => 0))), (q1, .inl (X 9, 1000, .inl (fun _ => 0)))] := hD
  refine lv_aload_n hx hb dX2_init_22 rfl (lv_at hl 0 rfl) ?_
  refine lv_iconst (v := -1) hx hb dX2_init_23 (by decide +kernel) ?_
  refine va_put (D := D) (ci := 2) (v := .int (-1)) (ty := .int) (C := RX2) (T := TX2) (N := 18) hx hb hts (obj_lays_lw (kp := 8) (by unfold isObj; omega)) tyX2 tyX2_ok nmX2 hown hK hP hD hS 0 rfl rfl 15 (by decide) (hw9 (.fieldLink RX2 18 "HeadwayDeep$Train" "doors" "I") (by simp [wkX2])) (fun _ h9 => h9) rfl (by decide +kernel) rfl rfl (Nat.le_of_ble_eq_true rfl) dX2_init_24 (fun H locs hP hD hS => ?_)
  have hP : va_P D vwCl [(h0, .inr (2, [.int 0, .int 0, .ref q0, .ref q1, .int 0, .int 0, .int 0, .int 0, .int 0, .int 0, .int 0, .int 0, .int 0, .null, .int 0, .int (-1), .int 0, .int 0])), (q0, .inl (X 9, 1000, .inl (fun _ => 0))), (q1, .inl (X 9, 1000, .inl (fun _ => 0)))] H := hP
  have hD : va_D A [(h0, .inr (2, [.int 0, .int 0, .ref q0, .ref q1, .int 0, .int 0, .int 0, .int 0, .int 0, .int 0, .int 0, .int 0, .int 0, .null, .int 0, .int (-1), .int 0, .int 0])), (q0, .inl (X 9, 1000, .inl (fun _ => 0))), (q1, .inl (X 9, 1000, .inl (fun _ => 0)))] := hD
  refine lv_aload_n hx hb dX2_init_27 rfl (lv_at hl 0 rfl) ?_
  refine lv_iload_n hx hb dX2_init_28 rfl (lv_at hl 1 rfl) ?_
  refine va_putF (D := D) (ci := 2) (v := .int a) (ty := .int) (C := RX2) (T := TX2) (N := 18) hx hb hts (obj_lays_lw (kp := 8) (by unfold isObj; omega)) tyX2 tyX2_ok nmX2 hown hK hP hD hS 0 rfl rfl 0 (by decide) (hw9 (.fieldLink RX2 22 "HeadwayDeep$Train" "firstPlace" "I") (by simp [wkX2])) (fun _ h9 => h9) rfl hin rfl (by decide +kernel) rfl rfl (Nat.le_of_ble_eq_true rfl) dX2_init_29 (fun H locs hP hD hS => ?_)
  have hP : va_P D vwCl [(h0, .inr (2, [.int a, .int 0, .ref q0, .ref q1, .int 0, .int 0, .int 0, .int 0, .int 0, .int 0, .int 0, .int 0, .int 0, .null, .int 0, .int (-1), .int 0, .int 0])), (q0, .inl (X 9, 1000, .inl (fun _ => 0))), (q1, .inl (X 9, 1000, .inl (fun _ => 0)))] H := hP
  have hD : va_D A [(h0, .inr (2, [.int a, .int 0, .ref q0, .ref q1, .int 0, .int 0, .int 0, .int 0, .int 0, .int 0, .int 0, .int 0, .int 0, .null, .int 0, .int (-1), .int 0, .int 0])), (q0, .inl (X 9, 1000, .inl (fun _ => 0))), (q1, .inl (X 9, 1000, .inl (fun _ => 0)))] := hD
  refine lv_aload_n hx hb dX2_init_32 rfl (lv_at hl 0 rfl) ?_
  refine lv_iload_n hx hb dX2_init_33 rfl (lv_at hl 2 rfl) ?_
  refine va_putF (D := D) (ci := 2) (v := .int b) (ty := .int) (C := RX2) (T := TX2) (N := 18) hx hb hts (obj_lays_lw (kp := 8) (by unfold isObj; omega)) tyX2 tyX2_ok nmX2 hown hK hP hD hS 0 rfl rfl 1 (by decide) (hw9 (.fieldLink RX2 25 "HeadwayDeep$Train" "firstTick" "I") (by simp [wkX2])) (fun _ h9 => h9) rfl hin rfl (by decide +kernel) rfl rfl (Nat.le_of_ble_eq_true rfl) dX2_init_34 (fun H locs hP hD hS => ?_)
  have hP : va_P D vwCl [(h0, .inr (2, [.int a, .int b, .ref q0, .ref q1, .int 0, .int 0, .int 0, .int 0, .int 0, .int 0, .int 0, .int 0, .int 0, .null, .int 0, .int (-1), .int 0, .int 0])), (q0, .inl (X 9, 1000, .inl (fun _ => 0))), (q1, .inl (X 9, 1000, .inl (fun _ => 0)))] H := hP
  have hD : va_D A [(h0, .inr (2, [.int a, .int b, .ref q0, .ref q1, .int 0, .int 0, .int 0, .int 0, .int 0, .int 0, .int 0, .int 0, .int 0, .null, .int 0, .int (-1), .int 0, .int 0])), (q0, .inl (X 9, 1000, .inl (fun _ => 0))), (q1, .inl (X 9, 1000, .inl (fun _ => 0)))] := hD
  refine lv_aload_n hx hb dX2_init_37 rfl (lv_at hl 0 rfl) ?_
  refine lv_iload_n hx hb dX2_init_38 rfl (lv_at hl 1 rfl) ?_
  refine va_put (D := D) (ci := 2) (v := .int a) (ty := .int) (C := RX2) (T := TX2) (N := 18) hx hb hts (obj_lays_lw (kp := 8) (by unfold isObj; omega)) tyX2 tyX2_ok nmX2 hown hK hP hD hS 0 rfl rfl 4 (by decide) (hw9 (.fieldLink RX2 28 "HeadwayDeep$Train" "place" "I") (by simp [wkX2])) (fun _ h9 => h9) rfl (by decide +kernel) rfl rfl (Nat.le_of_ble_eq_true rfl) dX2_init_39 (fun H locs hP hD hS => ?_)
  have hP : va_P D vwCl [(h0, .inr (2, [.int a, .int b, .ref q0, .ref q1, .int a, .int 0, .int 0, .int 0, .int 0, .int 0, .int 0, .int 0, .int 0, .null, .int 0, .int (-1), .int 0, .int 0])), (q0, .inl (X 9, 1000, .inl (fun _ => 0))), (q1, .inl (X 9, 1000, .inl (fun _ => 0)))] H := hP
  have hD : va_D A [(h0, .inr (2, [.int a, .int b, .ref q0, .ref q1, .int a, .int 0, .int 0, .int 0, .int 0, .int 0, .int 0, .int 0, .int 0, .null, .int 0, .int (-1), .int 0, .int 0])), (q0, .inl (X 9, 1000, .inl (fun _ => 0))), (q1, .inl (X 9, 1000, .inl (fun _ => 0)))] := hD
  refine lv_aload_n hx hb dX2_init_42 rfl (lv_at hl 0 rfl) ?_
  refine lv_iload_n hx hb dX2_init_43 rfl (lv_at hl 1 rfl) ?_
  refine va_put (D := D) (ci := 2) (v := .int a) (ty := .int) (C := RX2) (T := TX2) (N := 18) hx hb hts (obj_lays_lw (kp := 8) (by unfold isObj; omega)) tyX2 tyX2_ok nmX2 hown hK hP hD hS 0 rfl rfl 5 (by decide) (hw9 (.fieldLink RX2 31 "HeadwayDeep$Train" "low" "I") (by simp [wkX2])) (fun _ h9 => h9) rfl (by decide +kernel) rfl rfl (Nat.le_of_ble_eq_true rfl) dX2_init_44 (fun H locs hP hD hS => ?_)
  have hP : va_P D vwCl [(h0, .inr (2, [.int a, .int b, .ref q0, .ref q1, .int a, .int a, .int 0, .int 0, .int 0, .int 0, .int 0, .int 0, .int 0, .null, .int 0, .int (-1), .int 0, .int 0])), (q0, .inl (X 9, 1000, .inl (fun _ => 0))), (q1, .inl (X 9, 1000, .inl (fun _ => 0)))] H := hP
  have hD : va_D A [(h0, .inr (2, [.int a, .int b, .ref q0, .ref q1, .int a, .int a, .int 0, .int 0, .int 0, .int 0, .int 0, .int 0, .int 0, .null, .int 0, .int (-1), .int 0, .int 0])), (q0, .inl (X 9, 1000, .inl (fun _ => 0))), (q1, .inl (X 9, 1000, .inl (fun _ => 0)))] := hD
  refine lv_aload_n hx hb dX2_init_47 rfl (lv_at hl 0 rfl) ?_
  refine lv_iload_n hx hb dX2_init_48 rfl (lv_at hl 1 rfl) ?_
  refine va_put (D := D) (ci := 2) (v := .int a) (ty := .int) (C := RX2) (T := TX2) (N := 18) hx hb hts (obj_lays_lw (kp := 8) (by unfold isObj; omega)) tyX2 tyX2_ok nmX2 hown hK hP hD hS 0 rfl rfl 6 (by decide) (hw9 (.fieldLink RX2 34 "HeadwayDeep$Train" "high" "I") (by simp [wkX2])) (fun _ h9 => h9) rfl (by decide +kernel) rfl rfl (Nat.le_of_ble_eq_true rfl) dX2_init_49 (fun H locs hP hD hS => ?_)
  have hP : va_P D vwCl [(h0, .inr (2, [.int a, .int b, .ref q0, .ref q1, .int a, .int a, .int a, .int 0, .int 0, .int 0, .int 0, .int 0, .int 0, .null, .int 0, .int (-1), .int 0, .int 0])), (q0, .inl (X 9, 1000, .inl (fun _ => 0))), (q1, .inl (X 9, 1000, .inl (fun _ => 0)))] H := hP
  have hD : va_D A [(h0, .inr (2, [.int a, .int b, .ref q0, .ref q1, .int a, .int a, .int a, .int 0, .int 0, .int 0, .int 0, .int 0, .int 0, .null, .int 0, .int (-1), .int 0, .int 0])), (q0, .inl (X 9, 1000, .inl (fun _ => 0))), (q1, .inl (X 9, 1000, .inl (fun _ => 0)))] := hD
  refine lv_aload_n hx hb dX2_init_52 rfl (lv_at hl 0 rfl) ?_
  refine lv_iload_n hx hb dX2_init_53 rfl (lv_at hl 1 rfl) ?_
  refine va_put (D := D) (ci := 2) (v := .int a) (ty := .int) (C := RX2) (T := TX2) (N := 18) hx hb hts (obj_lays_lw (kp := 8) (by unfold isObj; omega)) tyX2 tyX2_ok nmX2 hown hK hP hD hS 0 rfl rfl 7 (by decide) (hw9 (.fieldLink RX2 37 "HeadwayDeep$Train" "report" "I") (by simp [wkX2])) (fun _ h9 => h9) rfl (by decide +kernel) rfl rfl (Nat.le_of_ble_eq_true rfl) dX2_init_54 (fun H locs hP hD hS => ?_)
  have hP : va_P D vwCl [(h0, .inr (2, [.int a, .int b, .ref q0, .ref q1, .int a, .int a, .int a, .int a, .int 0, .int 0, .int 0, .int 0, .int 0, .null, .int 0, .int (-1), .int 0, .int 0])), (q0, .inl (X 9, 1000, .inl (fun _ => 0))), (q1, .inl (X 9, 1000, .inl (fun _ => 0)))] H := hP
  have hD : va_D A [(h0, .inr (2, [.int a, .int b, .ref q0, .ref q1, .int a, .int a, .int a, .int a, .int 0, .int 0, .int 0, .int 0, .int 0, .null, .int 0, .int (-1), .int 0, .int 0])), (q0, .inl (X 9, 1000, .inl (fun _ => 0))), (q1, .inl (X 9, 1000, .inl (fun _ => 0)))] := hD
  exact W.vret hx hb hr (fun t ht hW => ⟨⟨(q0, q1), rfl, trivial, by rw [ht]; exact hP, hAe.symm ▸ hD⟩, hS.F ht⟩) hS.2.2 dX2_init_57

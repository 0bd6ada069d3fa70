/-! printed (wip/p26/ctor.py): the constructors -/
theorem arr_same {D : va_G} {X : Nat → ClassId} {s : State} {cA : ClassId} {ty : FieldType} (h : va_K D vwCl (TYX X ++ [(cA, ty)]) s) (k : Nat) {x : ClassId} (hk : (TYX X)[k]? = some (x, ty)) (hn : (match ty with | .object _ => false | _ => true) = true) : x = cA := by
  have hk8 : k < (TYX X).length := (List.getElem?_eq_some_iff.mp hk).1
  have h1 := (h.2 k (x, ty) (by rw [List.getElem?_append_left hk8]; exact hk)).2
  have h2 := (h.2 (TYX X).length (cA, ty) (by rw [List.getElem?_append_right (Nat.le_refl _), Nat.sub_self]; rfl)).2
  cases ty with
  | object C => cases hn
  | _ => exact Option.some.inj (h1.symm.trans h2)
theorem arr_sameO {D : va_G} {X : Nat → ClassId} {s : State} {cA : ClassId} {C : String} (h : va_K D vwCl (TYX X ++ [(cA, .object C)]) s) (k : Nat) {x : ClassId} (hk : (TYX X)[k]? = some (x, .object C)) (_hn : True = True) : x = cA := by
  have hk8 : k < (TYX X).length := (List.getElem?_eq_some_iff.mp hk).1
  obtain ⟨_, _, _, _, _, h1⟩ := (h.2 k (x, .object C) (by rw [List.getElem?_append_left hk8]; exact hk)).2
  obtain ⟨_, _, _, _, _, h2⟩ := (h.2 (TYX X).length (cA, .object C) (by rw [List.getElem?_append_right (Nat.le_refl _), Nat.sub_self]; rfl)).2
  exact Option.some.inj (h1.symm.trans h2)
theorem dX0_init_0 : decode cX0_init 0 = .ok (.aload_n 0, 1) := by decide +kernel
theorem dX0_init_1 : decode cX0_init 1 = .ok (.invokespecial 1, 3) := by decide +kernel
theorem dX0_init_4 : decode cX0_init 4 = .ok (.aload_n 0, 1) := by decide +kernel
theorem dX0_init_5 : decode cX0_init 5 = .ok (.iconst 1, 1) := by decide +kernel
theorem dX0_init_6 : decode cX0_init 6 = .ok (.putfield 7, 3) := by decide +kernel
theorem dX0_init_9 : decode cX0_init 9 = .ok (.aload_n 0, 1) := by decide +kernel
theorem dX0_init_10 : decode cX0_init 10 = .ok (.iload_n 1, 1) := by decide +kernel
theorem dX0_init_11 : decode cX0_init 11 = .ok (.putfield 13, 3) := by decide +kernel
theorem dX0_init_14 : decode cX0_init 14 = .ok (.return_, 1) := by decide +kernel
def wkX0 : List Cond := [Cond.methodLink RX0 1 objectInit, Cond.instanceMethod objectInit, Cond.code objectInit ⟨#[0xb1]⟩ 1 none, Cond.fieldLink RX0 7 "HeadwayDeep$Beacon" "isWorking" "Z", Cond.fieldLink RX0 13 "HeadwayDeep$Beacon" "metre" "I"]
theorem wkX0_in : (wkX0.all (fun w => decide (w ∈ lw_tbl) && goodWord w)) = true := by decide +kernel
abbrev atX0 (D : va_G) (X : Nat → ClassId) (h0 sz : Nat) (a : Int32) : (Unit) → State → Prop := fun (_ : Unit) t => va_P D vwCl [(h0, .inr (0, [.int a, .int 1]))] t.heap ∧ va_D (va_A [(h0, .inr (0, [.int 0, .int 0]))] sz) [(h0, .inr (0, [.int a, .int 1]))]
set_option maxHeartbeats 4000000 in
set_option maxRecDepth 100000 in
theorem c_X0_init (l : Launch) (D : va_G) (X : Nat → ClassId) (h0 sz : Nat) (a : Int32) : Met l yX0_init (Cond.code yX0_init cX0_init 2 none :: LT) { frames := 1, cells := 0, slots := 0, locals := 12 } (va_Pc [.ref h0, .int a] (fun U => U.heap.size = sz ∧ va_P D vwCl [(h0, .inr (0, [.int 0, .int 0]))] U.heap ∧ va_K D vwCl (TYX X) U ∧ va_D (fun _ => True) [(h0, .inr (0, [.int 0, .int 0]))])) (va_Qv (fun _ => True) (atX0 D X h0 sz a) (va_A [(h0, .inr (0, [.int 0, .int 0]))] sz)) 0 0 (va_A [(h0, .inr (0, [.int 0, .int 0]))] sz) := by
  refine Met.ofW (cc := cX0_init) (maxL := 2) (ret := none) (by decide) rfl ?_
  intro p e s m args below meth c s₁ B hml hv
  obtain ⟨rfl, hsz, hP, hK, hD0⟩ := hv
  have hx := B.exec
  have hb := B.bytes
  have hr := B.returns
  have hts0 := atoms_spec (ws := Cond.code yX0_init cX0_init 2 none :: LT) B.pre
  have hts : ∀ w ∈ LT, w.before _ s = true := fun w hw => hts0 w (List.mem_cons_of_mem _ hw)
  have hw9 : ∀ w : Cond, w ∈ wkX0 → w.before _ s = true := fun w hw => by
    have h9 := List.all_eq_true.mp wkX0_in w hw
    simp only [Bool.and_eq_true, decide_eq_true_eq] at h9
    exact hts w (LT_in h9.1 h9.2)
  have hown : s.vm.findClass RX0 = some m.cls := findClass_of_methodNamed B.named
  have hlocks := B.notSynchronized
  have hin : meth.name = "<init>" := (name_of_methodNamed B.named B.method).1
  subst hsz
  have hD := hD0.self (sz := s.heap.size)
  generalize hAe : va_A [(h0, .inr (0, [.int 0, .int 0]))] s.heap.size = A at hD ⊢
  have hA : ∀ q : Nat, s.heap.size ≤ q → A q := fun q h => by rw [← hAe]; exact Or.inr h
  have hS : va_S A s.heap s.heap [] := va_S.rf
  have hl := lv_entry ([.ref h0, .int a]) (n := 2) (Nat.le_of_ble_eq_true rfl)
  rw [lg_entry_eq]
  generalize (lg_sl ([.ref h0, .int a]) ++ List.replicate (2 - (lg_sl ([.ref h0, .int a])).length) Slot.unset).toArray = ls at hl ⊢
  have hl : lv_has ls 2 [(0, .ref h0), (1, .int a)] := hl
  refine lv_aload_n hx hb dX0_init_0 rfl (lv_at hl 0 rfl) ?_
  refine W.objInit hx hb hown (hw9 (.methodLink RX0 1 objectInit) (by simp [wkX0])) (hw9 (.instanceMethod objectInit) (by simp [wkX0])) (hw9 (.code objectInit ⟨#[0xb1]⟩ 1 none) (by simp [wkX0])) rfl (by rw [hml]; exact hl.1) rfl dX0_init_1 (Nat.le_of_ble_eq_true rfl) (Nat.le_of_ble_eq_true rfl) ?_
  refine W.eq (g2 := F0 m 4 ls []) rfl ?_
  refine lv_aload_n hx hb dX0_init_4 rfl (lv_at hl 0 rfl) ?_
  refine lv_iconst (v := 1) hx hb dX0_init_5 (by decide +kernel) ?_
  refine va_put (D := D) (ci := 0) (v := .int 1) (ty := .boolean) (C := RX0) (T := TX0) (N := 2) hx hb hts (obj_lays_lw (kp := 6) (by unfold isObj; omega)) tyX0 tyX0_ok nmX0 hown hK hP hD hS 0 rfl rfl 1 (by decide) (hw9 (.fieldLink RX0 7 "HeadwayDeep$Beacon" "isWorking" "Z") (by simp [wkX0])) (fun _ h9 => h9) rfl (by decide +kernel) rfl rfl (Nat.le_of_ble_eq_true rfl) dX0_init_6 (fun H locs hP hD hS => ?_)
  have hP : va_P D vwCl [(h0, .inr (0, [.int 0, .int 1]))] H := hP
  have hD : va_D A [(h0, .inr (0, [.int 0, .int 1]))] := hD
  refine lv_aload_n hx hb dX0_init_9 rfl (lv_at hl 0 rfl) ?_
  refine lv_iload_n hx hb dX0_init_10 rfl (lv_at hl 1 rfl) ?_
  refine va_putF (D := D) (ci := 0) (v := .int a) (ty := .int) (C := RX0) (T := TX0) (N := 2) hx hb hts (obj_lays_lw (kp := 6) (by unfold isObj; omega)) tyX0 tyX0_ok nmX0 hown hK hP hD hS 0 rfl rfl 0 (by decide) (hw9 (.fieldLink RX0 13 "HeadwayDeep$Beacon" "metre" "I") (by simp [wkX0])) (fun _ h9 => h9) rfl hin rfl (by decide +kernel) rfl rfl (Nat.le_of_ble_eq_true rfl) dX0_init_11 (fun H locs hP hD hS => ?_)
  have hP : va_P D vwCl [(h0, .inr (0, [.int a, .int 1]))] H := hP
  have hD : va_D A [(h0, .inr (0, [.int a, .int 1]))] := hD
  exact W.vret hx hb hr (fun t ht hW => ⟨⟨(), rfl, trivial, by rw [ht]; exact hP, hAe.symm ▸ hD⟩, hS.F ht⟩) hS.2.2 dX0_init_14
theorem dX1_init_0 : decode cX1_init 0 = .ok (.aload_n 0, 1) := by decide +kernel
theorem dX1_init_1 : decode cX1_init 1 = .ok (.invokespecial 3, 3) := by decide +kernel
theorem dX1_init_4 : decode cX1_init 4 = .ok (.aload_n 0, 1) := by decide +kernel
theorem dX1_init_5 : decode cX1_init 5 = .ok (.iconst (-1), 1) := by decide +kernel
theorem dX1_init_6 : decode cX1_init 6 = .ok (.putfield 9, 3) := by decide +kernel
theorem dX1_init_9 : decode cX1_init 9 = .ok (.aload_n 0, 1) := by decide +kernel
theorem dX1_init_10 : decode cX1_init 10 = .ok (.iload_n 1, 1) := by decide +kernel
theorem dX1_init_11 : decode cX1_init 11 = .ok (.putfield 15, 3) := by decide +kernel
theorem dX1_init_14 : decode cX1_init 14 = .ok (.aload_n 0, 1) := by decide +kernel
theorem dX1_init_15 : decode cX1_init 15 = .ok (.iload_n 2, 1) := by decide +kernel
theorem dX1_init_16 : decode cX1_init 16 = .ok (.putfield 18, 3) := by decide +kernel
theorem dX1_init_19 : decode cX1_init 19 = .ok (.return_, 1) := by decide +kernel
def wkX1 : List Cond := [Cond.methodLink RX1 3 objectInit, Cond.instanceMethod objectInit, Cond.code objectInit ⟨#[0xb1]⟩ 1 none, Cond.fieldLink RX1 9 "HeadwayDeep$Platform" "gap" "I", Cond.fieldLink RX1 15 "HeadwayDeep$Platform" "number" "I", Cond.fieldLink RX1 18 "HeadwayDeep$Platform" "mark" "I"]
theorem wkX1_in : (wkX1.all (fun w => decide (w ∈ lw_tbl) && goodWord w)) = true := by decide +kernel
abbrev atX1 (D : va_G) (X : Nat → ClassId) (h0 sz : Nat) (a b : Int32) : (Unit) → State → Prop := fun (_ : Unit) t => va_P D vwCl [(h0, .inr (1, [.int a, .int b, .int 0, .int 0, .int 0, .int 0, .int 0, .int (-1)]))] t.heap ∧ va_D (va_A [(h0, .inr (1, [.int 0, .int 0, .int 0, .int 0, .int 0, .int 0, .int 0, .int 0]))] sz) [(h0, .inr (1, [.int a, .int b, .int 0, .int 0, .int 0, .int 0, .int 0, .int (-1)]))]
set_option maxHeartbeats 4000000 in
set_option maxRecDepth 100000 in
theorem c_X1_init (l : Launch) (D : va_G) (X : Nat → ClassId) (h0 sz : Nat) (a b : Int32) : Met l yX1_init (Cond.code yX1_init cX1_init 3 none :: LT) { frames := 1, cells := 0, slots := 0, locals := 12 } (va_Pc [.ref h0, .int a, .int b] (fun U => U.heap.size = sz ∧ va_P D vwCl [(h0, .inr (1, [.int 0, .int 0, .int 0, .int 0, .int 0, .int 0, .int 0, .int 0]))] U.heap ∧ va_K D vwCl (TYX X) U ∧ va_D (fun _ => True) [(h0, .inr (1, [.int 0, .int 0, .int 0, .int 0, .int 0, .int 0, .int 0, .int 0]))])) (va_Qv (fun _ => True) (atX1 D X h0 sz a b) (va_A [(h0, .inr (1, [.int 0, .int 0, .int 0, .int 0, .int 0, .int 0, .int 0, .int 0]))] sz)) 0 0 (va_A [(h0, .inr (1, [.int 0, .int 0, .int 0, .int 0, .int 0, .int 0, .int 0, .int 0]))] sz) := by
  refine Met.ofW (cc := cX1_init) (maxL := 3) (ret := none) (by decide) rfl ?_
  intro p e s m args below meth c s₁ B hml hv
  obtain ⟨rfl, hsz, hP, hK, hD0⟩ := hv
  have hx := B.exec
  have hb := B.bytes
  have hr := B.returns
  have hts0 := atoms_spec (ws := Cond.code yX1_init cX1_init 3 none :: LT) B.pre
  have hts : ∀ w ∈ LT, w.before _ s = true := fun w hw => hts0 w (List.mem_cons_of_mem _ hw)
  have hw9 : ∀ w : Cond, w ∈ wkX1 → w.before _ s = true := fun w hw => by
    have h9 := List.all_eq_true.mp wkX1_in w hw
    simp only [Bool.and_eq_true, decide_eq_true_eq] at h9
    exact hts w (LT_in h9.1 h9.2)
  have hown : s.vm.findClass RX1 = some m.cls := findClass_of_methodNamed B.named
  have hlocks := B.notSynchronized
  have hin : meth.name = "<init>" := (name_of_methodNamed B.named B.method).1
  subst hsz
  have hD := hD0.self (sz := s.heap.size)
  generalize hAe : va_A [(h0, .inr (1, [.int 0, .int 0, .int 0, .int 0, .int 0, .int 0, .int 0, .int 0]))] s.heap.size = A at hD ⊢
  have hA : ∀ q : Nat, s.heap.size ≤ q → A q := fun q h => by rw [← hAe]; exact Or.inr h
  have hS : va_S A s.heap s.heap [] := va_S.rf
  have hl := lv_entry ([.ref h0, .int a, .int b]) (n := 3) (Nat.le_of_ble_eq_true rfl)
  rw [lg_entry_eq]
  generalize (lg_sl ([.ref h0, .int a, .int b]) ++ List.replicate (3 - (lg_sl ([.ref h0, .int a, .int b])).length) Slot.unset).toArray = ls at hl ⊢
  have hl : lv_has ls 3 [(0, .ref h0), (1, .int a), (2, .int b)] := hl
  refine lv_aload_n hx hb dX1_init_0 rfl (lv_at hl 0 rfl) ?_
  refine W.objInit hx hb hown (hw9 (.methodLink RX1 3 objectInit) (by simp [wkX1])) (hw9 (.instanceMethod objectInit) (by simp [wkX1])) (hw9 (.code objectInit ⟨#[0xb1]⟩ 1 none) (by simp [wkX1])) rfl (by rw [hml]; exact hl.1) rfl dX1_init_1 (Nat.le_of_ble_eq_true rfl) (Nat.le_of_ble_eq_true rfl) ?_
  refine W.eq (g2 := F0 m 4 ls []) rfl ?_
  refine lv_aload_n hx hb dX1_init_4 rfl (lv_at hl 0 rfl) ?_
  refine lv_iconst (v := -1) hx hb dX1_init_5 (by decide +kernel) ?_
  refine va_put (D := D) (ci := 1) (v := .int (-1)) (ty := .int) (C := RX1) (T := TX1) (N := 8) hx hb hts (obj_lays_lw (kp := 5) (by unfold isObj; omega)) tyX1 tyX1_ok nmX1 hown hK hP hD hS 0 rfl rfl 7 (by decide) (hw9 (.fieldLink RX1 9 "HeadwayDeep$Platform" "gap" "I") (by simp [wkX1])) (fun _ h9 => h9) rfl (by decide +kernel) rfl rfl (Nat.le_of_ble_eq_true rfl) dX1_init_6 (fun H locs hP hD hS => ?_)
  have hP : va_P D vwCl [(h0, .inr (1, [.int 0, .int 0, .int 0, .int 0, .int 0, .int 0, .int 0, .int (-1)]))] H := hP
  have hD : va_D A [(h0, .inr (1, [.int 0, .int 0, .int 0, .int 0, .int 0, .int 0, .int 0, .int (-1)]))] := hD
  refine lv_aload_n hx hb dX1_init_9 rfl (lv_at hl 0 rfl) ?_
  refine lv_iload_n hx hb dX1_init_10 rfl (lv_at hl 1 rfl) ?_
  refine va_putF (D := D) (ci := 1) (v := .int a) (ty := .int) (C := RX1) (T := TX1) (N := 8) hx hb hts (obj_lays_lw (kp := 5) (by unfold isObj; omega)) tyX1 tyX1_ok nmX1 hown hK hP hD hS 0 rfl rfl 0 (by decide) (hw9 (.fieldLink RX1 15 "HeadwayDeep$Platform" "number" "I") (by simp [wkX1])) (fun _ h9 => h9) rfl hin rfl (by decide +kernel) rfl rfl (Nat.le_of_ble_eq_true rfl) dX1_init_11 (fun H locs hP hD hS => ?_)
  have hP : va_P D vwCl [(h0, .inr (1, [.int a, .int 0, .int 0, .int 0, .int 0, .int 0, .int 0, .int (-1)]))] H := hP
  have hD : va_D A [(h0, .inr (1, [.int a, .int 0, .int 0, .int 0, .int 0, .int 0, .int 0, .int (-1)]))] := hD
  refine lv_aload_n hx hb dX1_init_14 rfl (lv_at hl 0 rfl) ?_
  refine lv_iload_n hx hb dX1_init_15 rfl (lv_at hl 2 rfl) ?_
  refine va_putF (D := D) (ci := 1) (v := .int b) (ty := .int) (C := RX1) (T := TX1) (N := 8) hx hb hts (obj_lays_lw (kp := 5) (by unfold isObj; omega)) tyX1 tyX1_ok nmX1 hown hK hP hD hS 0 rfl rfl 1 (by decide) (hw9 (.fieldLink RX1 18 "HeadwayDeep$Platform" "mark" "I") (by simp [wkX1])) (fun _ h9 => h9) rfl hin rfl (by decide +kernel) rfl rfl (Nat.le_of_ble_eq_true rfl) dX1_init_16 (fun H locs hP hD hS => ?_)
  have hP : va_P D vwCl [(h0, .inr (1, [.int a, .int b, .int 0, .int 0, .int 0, .int 0, .int 0, .int (-1)]))] H := hP
  have hD : va_D A [(h0, .inr (1, [.int a, .int b, .int 0, .int 0, .int 0, .int 0, .int 0, .int (-1)]))] := hD
  exact W.vret hx hb hr (fun t ht hW => ⟨⟨(), rfl, trivial, by rw [ht]; exact hP, hAe.symm ▸ hD⟩, hS.F ht⟩) hS.2.2 dX1_init_19
theorem dX3_init_0 : decode cX3_init 0 = .ok (.aload_n 0, 1) := by decide +kernel
theorem dX3_init_1 : decode cX3_init 1 = .ok (.invokespecial 1, 3) := by decide +kernel
theorem dX3_init_4 : decode cX3_init 4 = .ok (.aload_n 0, 1) := by decide +kernel
theorem dX3_init_5 : decode cX3_init 5 = .ok (.iload_n 1, 1) := by decide +kernel
theorem dX3_init_6 : decode cX3_init 6 = .ok (.putfield 7, 3) := by decide +kernel
theorem dX3_init_9 : decode cX3_init 9 = .ok (.aload_n 0, 1) := by decide +kernel
theorem dX3_init_10 : decode cX3_init 10 = .ok (.iload_n 2, 1) := by decide +kernel
theorem dX3_init_11 : decode cX3_init 11 = .ok (.putfield 13, 3) := by decide +kernel
theorem dX3_init_14 : decode cX3_init 14 = .ok (.return_, 1) := by decide +kernel
def wkX3 : List Cond := [Cond.methodLink RX3 1 objectInit, Cond.instanceMethod objectInit, Cond.code objectInit ⟨#[0xb1]⟩ 1 none, Cond.fieldLink RX3 7 "HeadwayDeep$Zone" "from" "I", Cond.fieldLink RX3 13 "HeadwayDeep$Zone" "to" "I"]
theorem wkX3_in : (wkX3.all (fun w => decide (w ∈ lw_tbl) && goodWord w)) = true := by decide +kernel
abbrev atX3 (D : va_G) (X : Nat → ClassId) (h0 sz : Nat) (a b : Int32) : (Unit) → State → Prop := fun (_ : Unit) t => va_P D vwCl [(h0, .inr (3, [.int a, .int b, .int 0]))] t.heap ∧ va_D (va_A [(h0, .inr (3, [.int 0, .int 0, .int 0]))] sz) [(h0, .inr (3, [.int a, .int b, .int 0]))]
set_option maxHeartbeats 4000000 in
set_option maxRecDepth 100000 in
theorem c_X3_init (l : Launch) (D : va_G) (X : Nat → ClassId) (h0 sz : Nat) (a b : Int32) : Met l yX3_init (Cond.code yX3_init cX3_init 3 none :: LT) { frames := 1, cells := 0, slots := 0, locals := 12 } (va_Pc [.ref h0, .int a, .int b] (fun U => U.heap.size = sz ∧ va_P D vwCl [(h0, .inr (3, [.int 0, .int 0, .int 0]))] U.heap ∧ va_K D vwCl (TYX X) U ∧ va_D (fun _ => True) [(h0, .inr (3, [.int 0, .int 0, .int 0]))])) (va_Qv (fun _ => True) (atX3 D X h0 sz a b) (va_A [(h0, .inr (3, [.int 0, .int 0, .int 0]))] sz)) 0 0 (va_A [(h0, .inr (3, [.int 0, .int 0, .int 0]))] sz) := by
  refine Met.ofW (cc := cX3_init) (maxL := 3) (ret := none) (by decide) rfl ?_
  intro p e s m args below meth c s₁ B hml hv
  obtain ⟨rfl, hsz, hP, hK, hD0⟩ := hv
  have hx := B.exec
  have hb := B.bytes
  have hr := B.returns
  have hts0 := atoms_spec (ws := Cond.code yX3_init cX3_init 3 none :: LT) B.pre
  have hts : ∀ w ∈ LT, w.before _ s = true := fun w hw => hts0 w (List.mem_cons_of_mem _ hw)
  have hw9 : ∀ w : Cond, w ∈ wkX3 → w.before _ s = true := fun w hw => by
    have h9 := List.all_eq_true.mp wkX3_in w hw
    simp only [Bool.and_eq_true, decide_eq_true_eq] at h9
    exact hts w (LT_in h9.1 h9.2)
  have hown : s.vm.findClass RX3 = some m.cls := findClass_of_methodNamed B.named
  have hlocks := B.notSynchronized
  have hin : meth.name = "<init>" := (name_of_methodNamed B.named B.method).1
  subst hsz
  have hD := hD0.self (sz := s.heap.size)
  generalize hAe : va_A [(h0, .inr (3, [.int 0, .int 0, .int 0]))] s.heap.size = A at hD ⊢
  have hA : ∀ q : Nat, s.heap.size ≤ q → A q := fun q h => by rw [← hAe]; exact Or.inr h
  have hS : va_S A s.heap s.heap [] := va_S.rf
  have hl := lv_entry ([.ref h0, .int a, .int b]) (n := 3) (Nat.le_of_ble_eq_true rfl)
  rw [lg_entry_eq]
  generalize (lg_sl ([.ref h0, .int a, .int b]) ++ List.replicate (3 - (lg_sl ([.ref h0, .int a, .int b])).length) Slot.unset).toArray = ls at hl ⊢
  have hl : lv_has ls 3 [(0, .ref h0), (1, .int a), (2, .int b)] := hl
  refine lv_aload_n hx hb dX3_init_0 rfl (lv_at hl 0 rfl) ?_
  refine W.objInit hx hb hown (hw9 (.methodLink RX3 1 objectInit) (by simp [wkX3])) (hw9 (.instanceMethod objectInit) (by simp [wkX3])) (hw9 (.code objectInit ⟨#[0xb1]⟩ 1 none) (by simp [wkX3])) rfl (by rw [hml]; exact hl.1) rfl dX3_init_1 (Nat.le_of_ble_eq_true rfl) (Nat.le_of_ble_eq_true rfl) ?_
  refine W.eq (g2 := F0 m 4 ls []) rfl ?_
  refine lv_aload_n hx hb dX3_init_4 rfl (lv_at hl 0 rfl) ?_
  refine lv_iload_n hx hb dX3_init_5 rfl (lv_at hl 1 rfl) ?_
  refine va_putF (D := D) (ci := 3) (v := .int a) (ty := .int) (C := RX3) (T := TX3) (N := 3) hx hb hts (obj_lays_lw (kp := 7) (by unfold isObj; omega)) tyX3 tyX3_ok nmX3 hown hK hP hD hS 0 rfl rfl 0 (by decide) (hw9 (.fieldLink RX3 7 "HeadwayDeep$Zone" "from" "I") (by simp [wkX3])) (fun _ h9 => h9) rfl hin rfl (by decide +kernel) rfl rfl (Nat.le_of_ble_eq_true rfl) dX3_init_6 (fun H locs hP hD hS => ?_)
  have hP : va_P D vwCl [(h0, .inr (3, [.int a, .int 0, .int 0]))] H := hP
  have hD : va_D A [(h0, .inr (3, [.int a, .int 0, .int 0]))] := hD
  refine lv_aload_n hx hb dX3_init_9 rfl (lv_at hl 0 rfl) ?_
  refine lv_iload_n hx hb dX3_init_10 rfl (lv_at hl 2 rfl) ?_
  refine va_putF (D := D) (ci := 3) (v := .int b) (ty := .int) (C := RX3) (T := TX3) (N := 3) hx hb hts (obj_lays_lw (kp := 7) (by unfold isObj; omega)) tyX3 tyX3_ok nmX3 hown hK hP hD hS 0 rfl rfl 1 (by decide) (hw9 (.fieldLink RX3 13 "HeadwayDeep$Zone" "to" "I") (by simp [wkX3])) (fun _ h9 => h9) rfl hin rfl (by decide +kernel) rfl rfl (Nat.le_of_ble_eq_true rfl) dX3_init_11 (fun H locs hP hD hS => ?_)
  have hP : va_P D vwCl [(h0, .inr (3, [.int a, .int b, .int 0]))] H := hP
  have hD : va_D A [(h0, .inr (3, [.int a, .int b, .int 0]))] := hD
  exact W.vret hx hb hr (fun t ht hW => ⟨⟨(), rfl, trivial, by rw [ht]; exact hP, hAe.symm ▸ hD⟩, hS.F ht⟩) hS.2.2 dX3_init_14

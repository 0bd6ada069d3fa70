/-! the law's wrappers: their contract, their beginning -/
def YB : List Cond := [Cond.castable IOB IOB, Cond.castable IAE9 IAE9, Cond.castable ISE9 ISE9]
theorem YB_face : YB.all (fun w => w.onTables && w.keepsFace) = true := by decide +kernel
theorem YB_in : YB.all (fun w => decide (w ∈ lw_tbl)) = true := by decide +kernel
theorem yb_at {w : Cond} {args a' : Array Value} {s U : State} (hw : w ∈ YB) (hW : s.WarmedH U.vm) (h : w.before args s = true) : w.before a' U = true := by
  have hf := List.all_eq_true.mp YB_face w hw
  simp only [Bool.and_eq_true] at hf
  have h3 : w.before args (s.setVm U.vm) = true := Cond.before_shiftedFace (State.Shifted.of_warmed hW) w hf.2 h
  exact vx_ot_at (s := s.setVm U.vm) (State.WarmedH.refl (s.setVm U.vm)) rfl (by unfold vx_ot; rw [hf.1]; rfl) h3
def YS (U : State) : Prop := (∀ w ∈ YB, w.before #[] U = true) ∧ va_Nc IAE9 IOB U ∧ va_Nc ISE9 IOB U ∧ va_Nc ISE9 IAE9 U
theorem YS.to {s U : State} (h : YS s) (hW : s.WarmedH U.vm) : YS U := ⟨fun w hw => yb_at hw hW (h.1 w hw), h.2.1.moved hW.alike, h.2.2.1.moved hW.alike, h.2.2.2.moved hW.alike⟩
abbrev oc30 (X : Nat → ClassId) (o : Nat) (f : Nat → Int64) : Nat × va_E := (o, .inl (X 30, 1, .inr (.inl f)))
def PO (code : Nat) (r : Int32) (s' : TT) (v : Option VV) (t' : TT) : Prop := match v with
  | some (.inl r') => code = 0 ∧ r' = r ∧ t' = s'
  | _ => False
def PV (code : Nat) (s' : TT) (v : Option VV) (t' : TT) : Prop := match v with
  | none => code = 0 ∧ t' = s'
  | _ => False
def PX (exs : List String) (code : Nat) (s' : TT) (E : String) (t' : TT) : Prop := code ≠ 0 ∧ exs[code - 1]? = some E ∧ t' = s'
def QW (D : va_G) (X : Nat → ClassId) (ad : Nat → Nat → Nat) (A : Nat → Prop) (M M1 : Nat → Nat → Bool) (o sz code : Nat) (r : Int32) (s' : TT) (ho : Bool) : Array Value → State → Outcome → State → Prop := fun _ st oc u => (oc = .returned (some (.int (nI code))) ∧ ∃ (ad' : Nat → Nat → Nat) (f' : Nat → Int64), Ext ad M ad' M1 sz ∧ SW D X ad' A M1 (over s') u.heap ∧ va_at D vwCl (oc30 X o f') u.heap ∧ (code = 0 → ho = true → f' 0 = r.toInt64)) ∧ va_F A st u
def CW (l : Launch) (y : MethodName) (ws : List Cond) (rm : Room) (D : va_G) (X : Nat → ClassId) (ad : Nat → Nat → Nat) (M M1 : Nat → Nat → Bool) (as : List VV) (outs : List Value) (o : Nat) (t : TT) (mc ms code : Nat) (r : Int32) (s' : TT) (ho : Bool) : Prop :=
  ∀ (A : Nat → Prop) (sz : Nat) (f : Nat → Int64), (∀ q, sz ≤ q → A q) → A o → (∀ kp i, M kp i = true → ad kp i ≠ o) → vx_Met l y ws rm (va_Pc (as.map (toV ad) ++ outs) (fun U => U.heap.size = sz ∧ SW D X ad A M t U.heap ∧ va_at D vwCl (oc30 X o f) U.heap ∧ va_K D vwCl (TYX X) U ∧ EX A U ∧ YS U)) (QW D X ad A M M1 o sz code r s' ho) (fun _ _ _ => False) mc ms A
theorem wrap_of {l : Launch} {y : MethodName} {b : ByteArray} {nL : Nat} {hh : List (Nat × Nat × Nat × Nat)} {rm : Room} {D : va_G} {X : Nat → ClassId} {ad : Nat → Nat → Nat} {M M1 : Nat → Nat → Bool} {as : List VV} {outs : List Value} {o : Nat} {t : TT} {mc ms code : Nat} {r : Int32} {s' : TT} {ho : Bool} (hy : plainName y.cls = true) (hn : (lg_sl (as.map (toV ad) ++ outs)).length ≤ nL)
    (h : ∀ (p : Program) (e : Env) (s : State) (m : MethodId) (args : Array Value) (below : List Frame) (meth : Method) (c : Code) (A : Nat → Prop) (f : Nat → Int64) (ls : Array Slot), p.tables.exec = Jvm.exec → c.code = b → c.maxLocals = nL → (∀ w ∈ LT, w.before args s = true) → s.vm.findClass y.cls = some m.cls → va_K D vwCl (TYX X) s → c.exceptionTable.toList = tableOf hh → meth.locks = false → meth.sig.returnType = some .int → (∀ q, s.heap.size ≤ q → A q) → EX A s → YS s → A o → (∀ kp i, M kp i = true → ad kp i ≠ o) → SW D X ad A M t s.heap → va_at D vwCl (oc30 X o f) s.heap → lv_has ls nL (lv_args 0 (as.map (toV ad) ++ outs)) →
      W p l e rm s m args below meth c s.heap [] 0 0 (vx_MQ below (QW D X ad A M M1 o s.heap.size code r s' ho) (fun _ _ _ => False) args s mc ms A) (F0 m 0 ls [])) : CW l y (Cond.codeWith y b nL (some .int) hh :: LT) rm D X ad M M1 as outs o t mc ms code r s' ho := by
  intro A sz f hA hAo hne
  refine vx_ofWH hy rfl ?_
  intro p e s m args below meth c s₁ B hml hv
  obtain ⟨rfl, hsz, hW, hat, hK, hE, hY⟩ := hv
  have hts := atoms_spec (ws := Cond.codeWith y b nL (some .int) hh :: LT) B.pre
  have htab := vx_table (x := y) B (hts _ List.mem_cons_self)
  have hown : s.vm.findClass y.cls = some m.cls := findClass_of_methodNamed B.named
  subst hsz
  have hl := lv_entry (as.map (toV ad) ++ outs) (n := nL) hn
  rw [lg_entry_eq]
  exact h p e s m _ below meth c A f _ B.exec B.bytes hml (fun w hw => hts w (List.mem_cons_of_mem _ hw)) hown hK htab B.notSynchronized B.returns hA hE hY hAo hne hW hat hl

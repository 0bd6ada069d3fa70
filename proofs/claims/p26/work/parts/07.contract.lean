/-! contracts of methods over the world, their calls, throws -/
abbrev xNames : List String := ["java/lang/RuntimeException", "java/lang/Exception"]
abbrev IOB : String := "java/lang/IndexOutOfBoundsException"
abbrev IAE9 : String := "java/lang/IllegalArgumentException"
abbrev ISE9 : String := "java/lang/IllegalStateException"
/-- nothing is asked of the heap for throws: no call of this law throws -/
def EX (_ : Nat → Prop) (_ : State) : Prop := True
theorem EX.to {A : Nat → Prop} {s U : State} (_ : EX A s) (_ : s.WarmedH U.vm) (_ : ∀ a : Nat, a < s.heap.size → ¬ A a → U.heap[a]? = s.heap[a]?) : EX A U := trivial
theorem EX.narrow {A B : Nat → Prop} {s : State} (_ : EX A s) (_ : ∀ q, B q → A q) : EX B s := trivial
theorem EX.calling {A : Nat → Prop} {U : State} {g : JFrame} {mk : MethodId} {a : Array Value} (_ : EX A U) : EX A (U.calling g mk a) := trivial
def CT (l : Launch) (y : MethodName) (ws : List Cond) (rm : Room) (D : va_G) (X : Nat → ClassId) (ad : Nat → Nat → Nat) (M : Nat → Nat → Bool) (as : List VV) (t : TT) (mc ms : Nat) (post : Option VV → TT → Prop) (px : String → TT → Prop) : Prop :=
  ∀ (A : Nat → Prop) (sz : Nat), (∀ q, sz ≤ q → A q) → vx_Met l y ws rm (va_Pc (as.map (toV ad)) (fun U => U.heap.size = sz ∧ SW D X ad A M t U.heap ∧ va_K D vwCl (TYX X) U ∧ EX A U)) (Q9 D X ad A M post) (X9 D X ad A M px) mc ms A
def entryLoc : Nat → List VV → Loc9
  | _, [] => []
  | k, v :: r => (k, v) :: entryLoc (k + 1) r
theorem entryLoc_args {ad : Nat → Nat → Nat} : ∀ (as : List VV) (k : Nat), locV ad (entryLoc k as) = lv_args k (as.map (toV ad))
  | [], _ => rfl
  | v :: r, k => by
    show (k, toV ad v) :: locV ad (entryLoc (k + 1) r) = (k, toV ad v) :: lv_args (if (toV ad v).category = 2 then k + 2 else k + 1) (r.map (toV ad))
    rw [if_neg (by rw [toV_cat]; decide), entryLoc_args r (k + 1)]
theorem lg_sl_len {ad : Nat → Nat → Nat} : ∀ as : List VV, (lg_sl (as.map (toV ad))).length = as.length
  | [] => rfl
  | v :: r => by
    have h := lg_sl_len (ad := ad) r
    have e : lg_sl (toV ad v :: r.map (toV ad)) = (if (toV ad v).category = 2 then [Slot.val (toV ad v), Slot.second] else [Slot.val (toV ad v)]) ++ lg_sl (r.map (toV ad)) := by simp [lg_sl]
    rw [List.map_cons, e, if_neg (by rw [toV_cat]; decide), List.length_append, h, List.length_cons, List.length_cons, List.length_nil]
    omega
theorem met_of_wp {l : Launch} {y : MethodName} {b : ByteArray} {nL : Nat} {ret : Option FieldType} {rm : Room} {D : va_G} {X : Nat → ClassId} {ad : Nat → Nat → Nat} {M : Nat → Nat → Bool} {as : List VV} {t : TT} {mc ms : Nat} {post : Option VV → TT → Prop} {px : String → TT → Prop} (hy : plainName y.cls = true) (hn : as.length ≤ nL)
    (h : ∀ (p : Program) (e : Env) (s : State) (m : MethodId) (args : Array Value) (below : List Frame) (meth : Method) (c : Code) (A : Nat → Prop), p.tables.exec = Jvm.exec → c.code = b → c.maxLocals = nL → (∀ w ∈ LT, w.before args s = true) → s.vm.findClass y.cls = some m.cls → va_K D vwCl (TYX X) s → (∀ x ∈ c.exceptionTable.toList, False) → meth.locks = false → meth.sig.returnType = ret → (∀ q, s.heap.size ≤ q → A q) → EX A s →
      Wat p l e rm s m args below meth c (QM below args s D X ad A M mc ms post px) D X ad A M nL 0 (entryLoc 0 as) [] t 0 0) : CT l y (Cond.code y b nL ret :: LT) rm D X ad M as t mc ms post px := by
  intro A sz hA
  refine vx_ofW hy rfl ?_
  intro p e s m args below meth c s₁ B hml hnt hv
  obtain ⟨rfl, hsz, hW, hK, hE⟩ := hv
  have hts := atoms_spec (ws := Cond.code y b nL ret :: LT) B.pre
  have hown : s.vm.findClass y.cls = some m.cls := findClass_of_methodNamed B.named
  subst hsz
  have hl := lv_entry (as.map (toV ad)) (n := nL) (by rw [lg_sl_len]; exact hn)
  rw [lg_entry_eq]
  rw [← entryLoc_args] at hl
  exact h p e s m _ below meth c A B.exec B.bytes hml (fun w hw => hts w (List.mem_cons_of_mem _ hw)) hown hK hnt B.notSynchronized B.returns hA hE s.heap [] _ hW va_S.rf hl
section CLL
variable {p : Program} {l : Launch} {e : Env} {R : Room} {s : State} {m : MethodId} {args : Array Value} {below : List Frame} {meth : Method} {c : Code} {Q : State → Prop} {D : va_G} {X : Nat → ClassId} {ad : Nat → Nat → Nat} {A : Nat → Prop} {M : Nat → Nat → Bool} {nL : Nat} {b : ByteArray} {mc ms : Nat} {k : Option VV → TT → Prop} {kx : String → TT → Prop} {t : TT} {as : List VV} {mc1 ms1 : Nat}
theorem blind9 {as : List VV} {sz : Nat} : FrameBlind (va_Pc (as.map (toV ad)) (fun U => U.heap.size = sz ∧ SW D X ad A M t U.heap ∧ va_K D vwCl (TYX X) U ∧ EX A U)) := fun a U g mk h => ⟨h.1, h.2.1, h.2.2.1, va_K.moved (u := U) (U := U.calling g mk a) (Vm.Alike.refl U.vm) h.2.2.2.1, h.2.2.2.2.calling⟩
theorem pre9 {H : Heap} {locs : List Loc} (hK : va_K D vwCl (TYX X) s) (hE : EX A s) (hW : SW D X ad A M t H) (hS : va_S A s.heap H locs) : ∀ U : State, U.heap = H → s.WarmedH U.vm → va_Pc (as.map (toV ad)) (fun U => U.heap.size = H.size ∧ SW D X ad A M t U.heap ∧ va_K D vwCl (TYX X) U ∧ EX A U) (as.map (toV ad)).toArray U := fun U hU hw => ⟨rfl, by rw [hU], by rw [hU]; exact hW, va_K.moved hw.alike hK, hE.to hw (by rw [hU]; exact hS.2.1)⟩
/-- behind a call -/
theorem run9 {H : Heap} {locs : List Loc} {ls : Array Slot} {pc : Nat} {st0 rest : List Value} {a : Array Value} {cl sl : Nat} (hS : va_S A s.heap H locs)
    (hr : vx_Run p l e R s m args below meth c H locs cl sl mc1 ms1 (F0 m pc ls st0) rest (Q9 D X ad A M k a) (X9 D X ad A M kx) A)
    (hk : ∀ (v : Option VV) (t1 : TT) (H1 : Heap) (locs1 : List Loc), k v t1 → SW D X ad A M t1 H1 → va_S A s.heap H1 locs1 → W p l e R s m args below meth c H1 locs1 (cl + mc1) (sl + ms1) Q (F0 m (pc + 3) ls (v.toList.map (toV ad) ++ rest)))
    (hx9 : ∀ (E : String) (ce : Cell) (q : Addr) (t1 : TT) (H1 : Heap) (locs1 : List Loc), kx E t1 → SW D X ad A M t1 H1 → va_S A s.heap H1 locs1 → H1[q]? = some ce → ce.vm = .none → s.vm.findClass E = some ce.cls → vx_W p l e R s m args below meth c H1 locs1 (cl + mc1) (sl + ms1) Q (F0 m pc ls rest) q) : W p l e R s m args below meth c H locs cl sl Q (F0 m pc ls st0) := by
  intro T hT Y
  rcases hr T hT Y with ⟨v, st₀, u, T', L, h0, Y', hL, e1, e2, ⟨⟨v9, t1, hv, hp, hw⟩, hF⟩, st⟩ | ⟨q, st₀, u, T', L, E, ce, h0, Y', hL, e1, e2, ⟨⟨t1, hp, hw⟩, hF⟩, hce, hcv, hcl, st⟩
  · cases hv
    obtain ⟨-, -, k3⟩ := vx_keep h0 e1 hS (fun _ _ h => h) (fun _ h => h) hL hF
    obtain ⟨t2, a1, b1⟩ := hk v9 t1 T'.heap (locs ++ L) hp (by rw [e1]; exact hw) k3 T' rfl Y'
    refine ⟨t2, st t2 ?_, b1⟩
    have e3 : (v9.map (toV ad)).toList = v9.toList.map (toV ad) := by cases v9 <;> rfl
    rw [e3]
    exact a1
  · obtain ⟨-, -, k3⟩ := vx_keep h0 e1 hS (fun _ _ h => h) (fun _ h => h) hL hF
    obtain ⟨t2, a1, b1⟩ := hx9 E ce q t1 T'.heap (locs ++ L) hp (by rw [e1]; exact hw) k3 (by rw [e1]; exact hce) hcv hcl T' rfl Y'
    exact ⟨t2, st.trans a1, b1⟩
theorem rest_cat {rest : List VV} (h : rest.length ≤ 8) (pc : Nat) (ls : Array Slot) (st0 : List Value) : 2 * (F0 m pc ls st0).monitorRoom + ((rest.map (toV ad)).map fun v => v.category).sum ≤ 8 := lv_room (by rw [cat_sum]; exact h)
/-- a method of an object of the world is called -/
theorem call_V (hx : p.tables.exec = Jvm.exec) (hb : c.code = b) (hml : c.maxLocals = nL) (hts : ∀ w ∈ LT, w.before args s = true) {own : String} (hown : s.vm.findClass own = some m.cls) (hK : va_K D vwCl (TYX X) s) (hA : ∀ q, s.heap.size ≤ q → A q) (hE : EX A s)
    {y : MethodName} {by9 : ByteArray} {ny : Nat} {ret : Option FieldType} {rm : Room} (hM : CT l y (Cond.code y by9 ny ret :: LT) rm D X ad M as t mc1 ms1 k kx) {ix n : Nat} (hws : (Cond.methodLink own ix y ∈ LT ∧ Cond.instanceMethod y ∈ LT ∧ Cond.selects y.cls y y ∈ LT ∧ Cond.initialized y.cls ∈ LT ∧ Cond.code y by9 ny ret ∈ LT))
    (hd : y.cls ≠ "java/lang/invoke/MethodHandle" ∧ y.cls ≠ "java/lang/invoke/VarHandle" ∧ (parseMethodDescriptor y.desc).map (fun d => d.parameters.length) = some n) (hR : rm.frames + 1 ≤ R.frames ∧ 8 + (ny + 11) + rm.locals ≤ R.locals) (hrc : rm.cells = mc1) (hrs : rm.slots = ms1) (hmc : R.cells = mc) (hms : R.slots = ms) (hn : as.length = n + 1)
    (hrecv : ∃ kp i, (as.head?).map (toV ad) = some (.ref (ad kp i)) ∧ M kp i = true ∧ isObj kp ∧ RXk kp = y.cls) : CallOK p l e R s m args below meth c Q D X ad A M nL b mc ms (.invokevirtual ix) mc1 ms1 as t k kx := by
  intro H locs ls pc rest cl sl hW hS hls h8 hc hs hdec hk hx9
  obtain ⟨v0, as', rfl⟩ : ∃ v0 as', as = v0 :: as' := by
    cases as with
    | nil => simp at hn
    | cons v0 as' => exact ⟨v0, as', rfl⟩
  obtain ⟨kp, i, hv0, hi, hobj, hcls⟩ := hrecv
  have hv : toV ad v0 = .ref (ad kp i) := Option.some.inj hv0
  have hgood : GoodIn LT (Cond.code y by9 ny ret :: LT) := fun w hw => ⟨(List.mem_cons.mp hw).elim (fun z => by rw [z]; exact hws.2.2.2.2) id, good_of_word (LT_good ((List.mem_cons.mp hw).elim (fun z => by rw [z]; exact hws.2.2.2.2) id))⟩
  have hB := callB_of (R := R) (Ts := LT) (ws := Cond.code y by9 ny ret :: LT) (own := own) (index := ix) (y := y) (mc := mc1) (ms := ms1) n hts hgood rfl hrc hrs (hts _ hws.2.2.2.1) (hts _ hws.1) hd hR
  have hcw : CallW R s args own y.cls ix y by9 ny ret (Cond.code y by9 ny ret :: LT) rm mc1 ms1 n := ⟨hB, hts _ hws.2.1, hts _ hws.2.2.1⟩
  have hpre := pre9 (as := v0 :: as') hK hE hW hS
  have hrun := vx_runV (e := e) (below := below) (meth := meth) (H := H) (locs := locs) (cells := cl) (slots := sl) (Ts := LT) (b := ad kp i) (As := as'.map (toV ad)) (rest := rest.map (toV ad)) (g := F0 m pc ls ((as'.map (toV ad)).reverse ++ .ref (ad kp i) :: rest.map (toV ad))) ⟨hx, hb, hml, hown, hts⟩ (hM A H.size (fun q h => hA q (Nat.le_trans hS.1 h))) hcw
    ⟨blind9, by
      have h0 := va_recv (q0 := 0) (ci := kci kp) hK (SW.oneE hW hi (obj_cell hobj X ad M t i)) (obj_cl hobj) rfl
      rw [← hcls]
      exact h0, by
      rw [← hv]
      exact hpre⟩ rfl (by rw [List.length_map]; simpa using hn) hls rfl (rest_cat h8 _ _ _) hdec ⟨by omega, by omega⟩
  have h := run9 (Q := Q) hS hrun (fun v t1 H1 locs1 h1 h2 h3 => by
    have h4 := hk v t1 H1 locs1 h1 h2 h3
    rw [List.map_append] at h4
    exact h4) hx9
  have e0 : (((v0 :: as').reverse ++ rest).map (toV ad)) = (as'.map (toV ad)).reverse ++ .ref (ad kp i) :: rest.map (toV ad) := by
    simp [hv]
  rw [e0]
  exact h
/-- a static method is called -/
theorem call_S (hx : p.tables.exec = Jvm.exec) (hb : c.code = b) (hml : c.maxLocals = nL) (hts : ∀ w ∈ LT, w.before args s = true) {own : String} (hown : s.vm.findClass own = some m.cls) (hK : va_K D vwCl (TYX X) s) (hA : ∀ q, s.heap.size ≤ q → A q) (hE : EX A s)
    {y : MethodName} {by9 : ByteArray} {ny : Nat} {ret : Option FieldType} {rm : Room} (hM : CT l y (Cond.code y by9 ny ret :: LT) rm D X ad M as t mc1 ms1 k kx) {ix n : Nat} (hws : (Cond.methodLink own ix y ∈ LT ∧ Cond.static y ∈ LT ∧ Cond.initialized y.cls ∈ LT ∧ Cond.code y by9 ny ret ∈ LT))
    (hd : y.cls ≠ "java/lang/invoke/MethodHandle" ∧ y.cls ≠ "java/lang/invoke/VarHandle" ∧ (parseMethodDescriptor y.desc).map (fun d => d.parameters.length) = some n) (hR : rm.frames + 1 ≤ R.frames ∧ 8 + (ny + 11) + rm.locals ≤ R.locals) (hrc : rm.cells = mc1) (hrs : rm.slots = ms1) (hmc : R.cells = mc) (hms : R.slots = ms) (hn : as.length = n) : CallOK p l e R s m args below meth c Q D X ad A M nL b mc ms (.invokestatic ix) mc1 ms1 as t k kx := by
  intro H locs ls pc rest cl sl hW hS hls h8 hc hs hdec hk hx9
  have hgood : GoodIn LT (Cond.code y by9 ny ret :: LT) := fun w hw => ⟨(List.mem_cons.mp hw).elim (fun z => by rw [z]; exact hws.2.2.2) id, good_of_word (LT_good ((List.mem_cons.mp hw).elim (fun z => by rw [z]; exact hws.2.2.2) id))⟩
  have hB := callB_of (R := R) (Ts := LT) (ws := Cond.code y by9 ny ret :: LT) (own := own) (index := ix) (y := y) (mc := mc1) (ms := ms1) n hts hgood rfl hrc hrs (hts _ hws.2.2.1) (hts _ hws.1) hd hR
  have hrun := vx_runS (e := e) (below := below) (meth := meth) (H := H) (locs := locs) (cells := cl) (slots := sl) (Ts := LT) (As := as.map (toV ad)) (rest := rest.map (toV ad)) (g := F0 m pc ls ((as.map (toV ad)).reverse ++ rest.map (toV ad))) ⟨hx, hb, hml, hown, hts⟩ (hM A H.size (fun q h => hA q (Nat.le_trans hS.1 h))) ⟨hB, hts _ hws.2.1⟩
    ⟨blind9, pre9 (as := as) hK hE hW hS⟩ rfl (by rw [List.length_map]; exact hn) hls rfl (rest_cat h8 _ _ _) hdec ⟨by omega, by omega⟩
  have h := run9 (Q := Q) hS hrun (fun v t1 H1 locs1 h1 h2 h3 => by
    have h4 := hk v t1 H1 locs1 h1 h2 h3
    rw [List.map_append] at h4
    exact h4) hx9
  rw [List.map_append, List.map_reverse]
  exact h
/-- Math.min, Math.max -/
theorem call_min (hx : p.tables.exec = Jvm.exec) (hb : c.code = b) (hml : c.maxLocals = nL) (hts : ∀ w ∈ LT, w.before args s = true) {own : String} (hown : s.vm.findClass own = some m.cls) {ix : Nat} (hws : Cond.methodLink own ix Lib.Math.min.name ∈ LT ∧ Cond.static Lib.Math.min.name ∈ LT ∧ Cond.initialized "java/lang/Math" ∈ LT ∧ Cond.code Lib.Math.min.name Lib.Math.min.code 2 (some .int) ∈ LT) (hR : 1 ≤ R.frames ∧ 21 ≤ R.locals) (hmc : R.cells = mc) (hms : R.slots = ms) {x y : Int32} (hk9 : k (some (.inl (if y < x then y else x))) t) : CallOK p l e R s m args below meth c Q D X ad A M nL b mc ms (.invokestatic ix) 0 0 [.inl x, .inl y] t k kx := by
  intro H locs ls pc rest cl sl hW hS hls h8 hc hs hdec hk hx9
  have h := hk _ t H locs hk9 hW hS
  exact va_mmin (rest := rest.map (toV ad)) hx hb (hml.trans hls.symm) hown (hts _ hws.1) (hts _ hws.2.1) (hts _ hws.2.2.1) (hts _ hws.2.2.2) hR.1 (by rw [cat_sum]; omega) (by omega) (by omega) hdec h
theorem call_max (hx : p.tables.exec = Jvm.exec) (hb : c.code = b) (hml : c.maxLocals = nL) (hts : ∀ w ∈ LT, w.before args s = true) {own : String} (hown : s.vm.findClass own = some m.cls) {ix : Nat} (hws : Cond.methodLink own ix Lib.Math.max.name ∈ LT ∧ Cond.static Lib.Math.max.name ∈ LT ∧ Cond.initialized "java/lang/Math" ∈ LT ∧ Cond.code Lib.Math.max.name Lib.Math.max.code 2 (some .int) ∈ LT) (hR : 1 ≤ R.frames ∧ 21 ≤ R.locals) (hmc : R.cells = mc) (hms : R.slots = ms) {x y : Int32} (hk9 : k (some (.inl (if x < y then y else x))) t) : CallOK p l e R s m args below meth c Q D X ad A M nL b mc ms (.invokestatic ix) 0 0 [.inl x, .inl y] t k kx := by
  intro H locs ls pc rest cl sl hW hS hls h8 hc hs hdec hk hx9
  have h := hk _ t H locs hk9 hW hS
  exact va_mmax (rest := rest.map (toV ad)) hx hb (hml.trans hls.symm) hown (hts _ hws.1) (hts _ hws.2.1) (hts _ hws.2.2.1) (hts _ hws.2.2.2) hR.1 (by rw [cat_sum]; omega) (by omega) (by omega) hdec h
end CLL

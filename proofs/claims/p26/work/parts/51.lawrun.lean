/-! the law's state; calls out of its frame -/
abbrev AL (s : State) : Nat → Prop := fun q => s.heap.size ≤ q
def LC (p : Program) (l : Launch) (s : State) (m : MethodId) (c : Code) (D : va_G) (X : Nat → ClassId) (b L : Nat) (xs : Nat → Int32) : Prop :=
  p.tables.exec = Jvm.exec ∧ c.code = code ∧ c.maxLocals = 10 ∧ (∀ w ∈ LT, w.before #[Value.ref b] s = true) ∧ s.vm.findClass R_law = some m.cls ∧ va_K D vwCl (TYX X) s ∧ EX (AL s) s ∧ va_X b L xs s s.heap ∧ b < s.heap.size ∧ L ≤ 260 ∧ l.stackTraces = false
def LSt (D : va_G) (X : Nat → ClassId) (ad : Nat → Nat → Nat) (A : Nat → Prop) (np nb nz nt : Nat) (t : TT) (fa ta : Nat) (f g : Nat → Int32) (x0 : Nat) (H : Heap) : Prop :=
  SW D X ad A (MS np nb nz nt) (over t) H ∧ va_at D vwCl (fa, .inl (X 21, 4, .inl f)) H ∧ va_at D vwCl (ta, .inl (X 21, 4, .inl g)) H ∧ A fa ∧ A ta ∧ fa ≠ ta ∧ (∀ kp i, MS np nb nz nt kp i = true → ad kp i ≠ fa ∧ ad kp i ≠ ta) ∧ ad 0 0 = x0
theorem ext_ne {ad ad' : Nat → Nat → Nat} {M M' : Nat → Nat → Bool} {sz o kp i : Nat} (h : Ext ad M ad' M' sz) (hne : ∀ kp i, M kp i = true → ad kp i ≠ o) (ho : o < sz) (hi : M' kp i = true) : ad' kp i ≠ o := by
  cases hm : M kp i with
  | true => rw [(h.1 kp i hm).2]; exact hne kp i hm
  | false =>
    have := h.2 kp i hi hm
    omega
section LCS
variable {p : Program} {l : Launch} {e : Env} {R : Room} {s : State} {m : MethodId} {args : Array Value} {below : List Frame} {meth : Method} {c : Code} {Q : State → Prop} {D : va_G} {X : Nat → ClassId} {ad : Nat → Nat → Nat} {A0 : Nat → Prop} {M : Nat → Nat → Bool} {nL : Nat} {b : ByteArray} {t : TT} {as : List VV} {mc1 ms1 : Nat} {H : Heap} {locs : List Loc} {ls : Array Slot} {pc : Nat}
/-- a static method, out of a frame that owns more -/
theorem lcall_S (hx : p.tables.exec = Jvm.exec) (hb : c.code = b) (hml : c.maxLocals = nL) {own : String} (hts : ∀ w ∈ LT, w.before args s = true) (hown : s.vm.findClass own = some m.cls) (hK : va_K D vwCl (TYX X) s) (hA : ∀ q, s.heap.size ≤ q → A0 q) (hE : EX A0 s)
    {post : Option VV → (Nat → Nat → Bool) → TT → Prop} {kx : String → TT → Prop} {y : MethodName} {by9 : ByteArray} {ny : Nat} {ret : Option FieldType} {rm : Room} (hM : CE l y (Cond.code y by9 ny ret :: LT) rm D X ad M as t mc1 ms1 post kx) {ix n : Nat} (hws : Cond.methodLink own ix y ∈ LT ∧ Cond.static y ∈ LT ∧ Cond.initialized y.cls ∈ LT ∧ Cond.code y by9 ny ret ∈ LT)
    (hd : y.cls ≠ "java/lang/invoke/MethodHandle" ∧ y.cls ≠ "java/lang/invoke/VarHandle" ∧ (parseMethodDescriptor y.desc).map (fun d => d.parameters.length) = some n) (hR : rm.frames + 1 ≤ R.frames ∧ 8 + (ny + 11) + rm.locals ≤ R.locals) (hrc : rm.cells = mc1) (hrs : rm.slots = ms1) (hn : as.length = n)
    (hW : SW D X ad A0 M t H) (hS : va_S A0 s.heap H locs) (hls : ls.size = nL) {rest : List Value} (h8 : (rest.map fun v => v.category).sum ≤ 8) {cl sl : Nat} (hc : cl + mc1 ≤ R.cells) (hs : sl + ms1 ≤ R.slots) (hdec : decode b pc = .ok (.invokestatic ix, 3)) :
    vx_Run p l e R s m args below meth c H locs cl sl mc1 ms1 (F0 m pc ls ((as.map (toV ad)).reverse ++ rest)) rest (QE D X ad (AC ad M H.size) M H.size post (as.map (toV ad)).toArray) (X9 D X ad (AC ad M H.size) M kx) (AC ad M H.size) := by
  have hgood : GoodIn LT (Cond.code y by9 ny ret :: LT) := fun w hw => ⟨(List.mem_cons.mp hw).elim (fun z => by rw [z]; exact hws.2.2.2) id, good_of_word (LT_good ((List.mem_cons.mp hw).elim (fun z => by rw [z]; exact hws.2.2.2) id))⟩
  have hB := callB_of (R := R) (Ts := LT) (ws := Cond.code y by9 ny ret :: LT) (own := own) (index := ix) (y := y) (mc := mc1) (ms := ms1) n hts hgood rfl hrc hrs (hts _ hws.2.2.1) (hts _ hws.1) hd hR
  have hAC : ∀ q, AC ad M H.size q → A0 q := by
    rintro q (⟨kp, i, h1, rfl⟩ | h)
    · exact hW.2.2.1 kp i h1
    · exact hA q (Nat.le_trans hS.1 h)
  have hW1 : SW D X ad (AC ad M H.size) M t H := hW.own fun kp i h => Or.inl ⟨kp, i, h, rfl⟩
  have hpre : ∀ U : State, U.heap = H → s.WarmedH U.vm → va_Pc (as.map (toV ad)) (fun U => U.heap.size = H.size ∧ SW D X ad (AC ad M H.size) M t U.heap ∧ va_K D vwCl (TYX X) U ∧ EX (AC ad M H.size) U) (as.map (toV ad)).toArray U := fun U hU hw => ⟨rfl, by rw [hU], by rw [hU]; exact hW1, va_K.moved hw.alike hK, (hE.to hw (by rw [hU]; exact hS.2.1)).narrow hAC⟩
  exact vx_runS (e := e) (below := below) (meth := meth) (H := H) (locs := locs) (cells := cl) (slots := sl) (Ts := LT) (As := as.map (toV ad)) (rest := rest) (g := F0 m pc ls ((as.map (toV ad)).reverse ++ rest)) ⟨hx, hb, hml, hown, hts⟩ (hM (AC ad M H.size) H.size (fun q h => Or.inr h)) ⟨hB, hts _ hws.2.1⟩ ⟨blind9, hpre⟩ rfl (by rw [List.length_map]; exact hn) hls rfl (lv_room h8) hdec ⟨hc, hs⟩
end LCS
section LAWR
variable {p : Program} {l : Launch} {e : Env} {s : State} {m : MethodId} {below : List Frame} {meth : Method} {c : Code} {Q : State → Prop} {D : va_G} {X : Nat → ClassId} {ad : Nat → Nat → Nat} {b L : Nat} {xs : Nat → Int32} {H : Heap} {locs : List Loc} {ls : Array Slot} {pc : Nat} {np nb nz nt np' nb' nz' nt' : Nat} {t : TT} {fa ta x0 : Nat} {f g : Nat → Int32} {cl sl mc1 ms1 : Nat} {as : List VV}
theorem LSt.next {ad' : Nat → Nat → Nat} {H1 : Heap} {t' : TT} (hL : LSt D X ad (AL s) np nb nz nt t fa ta f g x0 H) (hw : SW D X ad' (AL s) (MS np' nb' nz' nt') (over t') H1) (hext : Ext ad (MS np nb nz nt) ad' (MS np' nb' nz' nt') H.size) (hkeep : ∀ x, x < H.size → ¬ AC ad (MS np nb nz nt) H.size x → H1[x]? = H[x]?) : LSt D X ad' (AL s) np' nb' nz' nt' t' fa ta f g x0 H1 := by
  obtain ⟨hW, hf, hg, hAf, hAg, hfg, hne, hx0⟩ := hL
  have out : ∀ a, a < H.size → (∀ kp i, MS np nb nz nt kp i = true → ad kp i ≠ a) → ¬ AC ad (MS np nb nz nt) H.size a := by
    rintro a h1 h2 (⟨kp, i, h3, h4⟩ | h3)
    · exact h2 kp i h3 h4.symm
    · omega
  exact ⟨hw, hf.kept (hkeep fa hf.lt (out fa hf.lt fun kp i h => (hne kp i h).1)), hg.kept (hkeep ta hg.lt (out ta hg.lt fun kp i h => (hne kp i h).2)), hAf, hAg, hfg, fun kp i h => ⟨ext_ne hext (fun kp i h => (hne kp i h).1) hf.lt h, ext_ne hext (fun kp i h => (hne kp i h).2) hg.lt h⟩, by rw [(hext.1 0 0 MS_0).2]; exact hx0⟩
/-- a method of the class is called -/
theorem law_E (hC : LC p l s m c D X b L xs) {y : MethodName} {by9 : ByteArray} {ny : Nat} {ret : Option FieldType} {rm : Room} {Rr : Option VV → TT → Prop} (hM : CE l y (Cond.code y by9 ny ret :: LT) rm D X ad (MS np nb nz nt) as (over t) mc1 ms1 (fun v M' t1 => (∃ t', Rr v t' ∧ t1 = over t') ∧ M' = MS np' nb' nz' nt') (fun _ _ => False)) {ix n : Nat} (hws : Cond.methodLink R_law ix y ∈ LT ∧ Cond.instanceMethod y ∈ LT ∧ Cond.selects y.cls y y ∈ LT ∧ Cond.initialized y.cls ∈ LT ∧ Cond.code y by9 ny ret ∈ LT) (hd : y.cls ≠ "java/lang/invoke/MethodHandle" ∧ y.cls ≠ "java/lang/invoke/VarHandle" ∧ (parseMethodDescriptor y.desc).map (fun d => d.parameters.length) = some n) (hR : rm.frames + 1 ≤ room_1.frames ∧ 8 + (ny + 11) + rm.locals ≤ room_1.locals) (hrc : rm.cells = mc1) (hrs : rm.slots = ms1) (hn : as.length = n + 1) (has : as.head? = some (.inr (.inl (0, 0)))) (hcl : RX4 = y.cls)
    (hL : LSt D X ad (AL s) np nb nz nt t fa ta f g x0 H) (hS : va_S (AL s) s.heap H locs) (hls : ls.size = 10) {rest : List Value} (h8 : (rest.map fun v => v.category).sum ≤ 8) (hc : cl + mc1 ≤ 600130) (hs : sl + ms1 ≤ 7301080) (hdec : decode code pc = .ok (.invokevirtual ix, 3))
    (kk : ∀ (v : Option VV) (t' : TT) (ad' : Nat → Nat → Nat) (H1 : Heap) (locs1 : List Loc), Rr v t' → LSt D X ad' (AL s) np' nb' nz' nt' t' fa ta f g x0 H1 → va_S (AL s) s.heap H1 locs1 → W p l e room_1 s m #[Value.ref b] below meth c H1 locs1 (cl + mc1) (sl + ms1) Q (F0 m (pc + 3) ls ((v.map (toV ad)).toList ++ rest))) : W p l e room_1 s m #[Value.ref b] below meth c H locs cl sl Q (F0 m pc ls ((as.map (toV ad)).reverse ++ rest)) := by
  obtain ⟨hx, hb, hml, hts, hown, hK, hE, hX, hbl, hL9, hst⟩ := hC
  have hA : ∀ q, s.heap.size ≤ q → AL s q := fun _ h => h
  have hW := hL.1
  refine run_own (M := MS np nb nz nt) hA hS hW (lcall_E (Ts := LT) (n := n) (rest := rest) hx hb hml hts hown hK hA hE hM (fun w h => h) hws hd hR hrc hrs hn ⟨0, 0, by rw [has]; rfl, MS_0, Or.inl rfl, hcl⟩ hW hS hls h8 (cl := cl) (sl := sl) hc hs hdec) ?_ (fun E ce q t1 H1 locs1 hp => hp.elim)
  intro v t1 ad' M' H1 locs1 hp hext hw hS1 hsz hkeep
  obtain ⟨⟨t', hr, rfl⟩, rfl⟩ := hp
  exact kk v t' ad' H1 locs1 hr (hL.next hw hext hkeep) hS1
/-- one of the law's own methods is called -/
theorem law_SE (hC : LC p l s m c D X b L xs) {y : MethodName} {by9 : ByteArray} {ny : Nat} {ret : Option FieldType} {rm : Room} {Rr : Option VV → TT → Prop} (hM : CE l y (Cond.code y by9 ny ret :: LT) rm D X ad (MS np nb nz nt) as (over t) mc1 ms1 (fun v M' t1 => (∃ t', Rr v t' ∧ t1 = over t') ∧ M' = MS np' nb' nz' nt') (fun _ _ => False)) {ix n : Nat} (hws : Cond.methodLink R_law ix y ∈ LT ∧ Cond.static y ∈ LT ∧ Cond.initialized y.cls ∈ LT ∧ Cond.code y by9 ny ret ∈ LT) (hd : y.cls ≠ "java/lang/invoke/MethodHandle" ∧ y.cls ≠ "java/lang/invoke/VarHandle" ∧ (parseMethodDescriptor y.desc).map (fun d => d.parameters.length) = some n) (hR : rm.frames + 1 ≤ room_1.frames ∧ 8 + (ny + 11) + rm.locals ≤ room_1.locals) (hrc : rm.cells = mc1) (hrs : rm.slots = ms1) (hn : as.length = n)
    (hL : LSt D X ad (AL s) np nb nz nt t fa ta f g x0 H) (hS : va_S (AL s) s.heap H locs) (hls : ls.size = 10) {rest : List Value} (h8 : (rest.map fun v => v.category).sum ≤ 8) (hc : cl + mc1 ≤ 600130) (hs : sl + ms1 ≤ 7301080) (hdec : decode code pc = .ok (.invokestatic ix, 3))
    (kk : ∀ (v : Option VV) (t' : TT) (ad' : Nat → Nat → Nat) (H1 : Heap) (locs1 : List Loc), Rr v t' → LSt D X ad' (AL s) np' nb' nz' nt' t' fa ta f g x0 H1 → va_S (AL s) s.heap H1 locs1 → W p l e room_1 s m #[Value.ref b] below meth c H1 locs1 (cl + mc1) (sl + ms1) Q (F0 m (pc + 3) ls ((v.map (toV ad)).toList ++ rest))) : W p l e room_1 s m #[Value.ref b] below meth c H locs cl sl Q (F0 m pc ls ((as.map (toV ad)).reverse ++ rest)) := by
  obtain ⟨hx, hb, hml, hts, hown, hK, hE, hX, hbl, hL9, hst⟩ := hC
  have hA : ∀ q, s.heap.size ≤ q → AL s q := fun _ h => h
  have hW := hL.1
  refine run_own (M := MS np nb nz nt) hA hS hW (lcall_S (n := n) (rest := rest) hx hb hml hts hown hK hA hE hM hws hd hR hrc hrs hn hW hS hls h8 (cl := cl) (sl := sl) hc hs hdec) ?_ (fun E ce q t1 H1 locs1 hp => hp.elim)
  intro v t1 ad' M' H1 locs1 hp hext hw hS1 hsz hkeep
  obtain ⟨⟨t', hr, rfl⟩, rfl⟩ := hp
  exact kk v t' ad' H1 locs1 hr (hL.next hw hext hkeep) hS1
/-- the arrays 'from' and 'to' -/
theorem law_ald (hC : LC p l s m c D X b L xs) {a i : Nat} {h : Nat → Int32} (hat : va_at D vwCl (a, .inl (X 21, 4, .inl h)) H) (hi : i < 4) (hdec : decode code pc = .ok (.iaload, 1)) {rest : List Value} (k : W p l e room_1 s m #[Value.ref b] below meth c H locs cl sl Q (F0 m (pc + 1) ls (.int (h i) :: rest))) : W p l e room_1 s m #[Value.ref b] below meth c H locs cl sl Q (F0 m pc ls (.int (nI i) :: .ref a :: rest)) := by
  obtain ⟨hx, hb, hml, hts, hown, hK, hE, hX, hbl, hL9, hst⟩ := hC
  refine va_iald hx hb hK (vaP1 hat) 0 5 rfl rfl (vp0 hi (by omega)) hdec ?_
  rw [cl0 (by omega)]
  exact k
theorem law_ast (hC : LC p l s m c D X b L xs) {a i : Nat} {h : Nat → Int32} {y : Int32} (hat : va_at D vwCl (a, .inl (X 21, 4, .inl h)) H) (hAa : AL s a) (hS : va_S (AL s) s.heap H locs) (hi : i < 4) (hdec : decode code pc = .ok (.iastore, 1)) {rest : List Value} (kk : ∀ (H1 : Heap) (locs1 : List Loc), va_at D vwCl (a, .inl (X 21, 4, .inl (fun j => if j = i then y else h j))) H1 → (∀ q, q ≠ a → H1[q]? = H[q]?) → va_S (AL s) s.heap H1 locs1 → W p l e room_1 s m #[Value.ref b] below meth c H1 locs1 cl sl Q (F0 m (pc + 1) ls rest)) : W p l e room_1 s m #[Value.ref b] below meth c H locs cl sl Q (F0 m pc ls (.int y :: .int (nI i) :: .ref a :: rest)) := by
  obtain ⟨hx, hb, hml, hts, hown, hK, hE, hX, hbl, hL9, hst⟩ := hC
  have hat' : H[a]? = some (vp_cell (X 21) (4, .inl h)) := hat
  refine W.iast hx hb hat' ((hK.2 5 _ rfl).1 4 (fun j => .int (h j))) (fun q => by cases q) (by show ¬ (nI i < 0 ∨ (arrV _ _ _).slots.size ≤ _); rw [arrV_size]; exact vp0 hi (by omega)) rfl rfl hdec fun H1 e1 z oq => ?_
  refine kk H1 _ (store_cell (z := 0) e1 fun q _ => ?_) oq (hS.put z oq hAa)
  rw [cl0 (by omega)]
theorem LSt.setf {H1 : Heap} {f' : Nat → Int32} (hL : LSt D X ad (AL s) np nb nz nt t fa ta f g x0 H) (h1 : va_at D vwCl (fa, .inl (X 21, 4, .inl f')) H1) (oq : ∀ q, q ≠ fa → H1[q]? = H[q]?) : LSt D X ad (AL s) np nb nz nt t fa ta f' g x0 H1 := by
  obtain ⟨hW, hf, hg, hAf, hAg, hfg, hne, hx0⟩ := hL
  exact ⟨hW.kept fun kp i h => oq _ (hne kp i h).1, h1, hg.kept (oq _ (Ne.symm hfg)), hAf, hAg, hfg, hne, hx0⟩
theorem LSt.setg {H1 : Heap} {g' : Nat → Int32} (hL : LSt D X ad (AL s) np nb nz nt t fa ta f g x0 H) (h1 : va_at D vwCl (ta, .inl (X 21, 4, .inl g')) H1) (oq : ∀ q, q ≠ ta → H1[q]? = H[q]?) : LSt D X ad (AL s) np nb nz nt t fa ta f g' x0 H1 := by
  obtain ⟨hW, hf, hg, hAf, hAg, hfg, hne, hx0⟩ := hL
  exact ⟨hW.kept fun kp i h => oq _ (hne kp i h).2, hf.kept (oq _ hfg), h1, hAf, hAg, hfg, hne, hx0⟩
end LAWR
/-! told: a number that isn't negative -/
theorem dL_told_0 : decode cL_told 0 = .ok (.iload_n 1, 1) := by decide +kernel
theorem dL_told_1 : decode cL_told 1 = .ok (.aload_n 0, 1) := by decide +kernel
theorem dL_told_2 : decode cL_told 2 = .ok (.arraylength, 1) := by decide +kernel
theorem dL_told_3 : decode cL_told 3 = .ok (.if_icmp .ge 9, 3) := by decide +kernel
theorem dL_told_6 : decode cL_told 6 = .ok (.aload_n 0, 1) := by decide +kernel
theorem dL_told_7 : decode cL_told 7 = .ok (.iload_n 1, 1) := by decide +kernel
theorem dL_told_8 : decode cL_told 8 = .ok (.iaload, 1) := by decide +kernel
theorem dL_told_9 : decode cL_told 9 = .ok (.goto 14, 3) := by decide +kernel
theorem dL_told_12 : decode cL_told 12 = .ok (.ldc 7, 2) := by decide +kernel
theorem dL_told_14 : decode cL_told 14 = .ok (.iload_n 1, 1) := by decide +kernel
theorem dL_told_15 : decode cL_told 15 = .ok (.iconst 3, 1) := by decide +kernel
theorem dL_told_16 : decode cL_told 16 = .ok (.iadd, 1) := by decide +kernel
theorem dL_told_17 : decode cL_told 17 = .ok (.imul, 1) := by decide +kernel
theorem dL_told_18 : decode cL_told 18 = .ok (.iload_n 1, 1) := by decide +kernel
theorem dL_told_19 : decode cL_told 19 = .ok (.bipush 7, 2) := by decide +kernel
theorem dL_told_21 : decode cL_told 21 = .ok (.iadd, 1) := by decide +kernel
theorem dL_told_22 : decode cL_told 22 = .ok (.imul, 1) := by decide +kernel
theorem dL_told_23 : decode cL_told 23 = .ok (.ldc 8, 2) := by decide +kernel
theorem dL_told_25 : decode cL_told 25 = .ok (.iand, 1) := by decide +kernel
theorem dL_told_26 : decode cL_told 26 = .ok (.ireturn, 1) := by decide +kernel
def QT (A : Nat → Prop) : Array Value → State → Outcome → State → Prop := fun _ st oc u => (∃ v : Nat, v < 2 ^ 31 ∧ oc = .returned (some (.int (nI v)))) ∧ va_F A st u
theorem c_L_told (l : Launch) (b L : Nat) (xs : Nat → Int32) (hL : L ≤ 260) (k : Nat) (hk : k < 1000) (A : Nat → Prop) (sz : Nat) (hbA : ¬ A b) : vx_Met l yL_told (Cond.code yL_told cL_told 2 (some .int) :: LT) { frames := 0, cells := 0, slots := 0, locals := 0 } (va_Pc [.ref b, .int (nI k)] (fun U => U.heap.size = sz ∧ va_X b L xs U U.heap ∧ b < U.heap.size)) (QT A) (fun _ _ _ => False) 0 0 A := by
  refine vx_ofW (by decide +kernel) rfl ?_
  intro p e s m args below meth c s₁ B hml hnt hv
  obtain ⟨rfl, hsz, hX, hbl⟩ := hv
  have hts := atoms_spec (ws := Cond.code yL_told cL_told 2 (some .int) :: LT) B.pre
  have hown : s.vm.findClass RL = some m.cls := findClass_of_methodNamed B.named
  have hx := B.exec
  have hb := B.bytes
  have hr := B.returns
  have hlocks := B.notSynchronized
  have hl := lv_entry [.ref b, .int (nI k)] (n := 2) (by exact Nat.le_of_ble_eq_true rfl)
  rw [lg_entry_eq]
  have K : ∀ ls : Array Slot, lv_has ls 2 [(0, .ref b), (1, .int (nI k))] → W p l e { frames := 0, cells := 0, slots := 0, locals := 0 } s m ([.ref b, .int (nI k)] : List Value).toArray below meth c s.heap [] 0 0 (vx_MQ below (QT A) (fun _ _ _ => False) ([.ref b, .int (nI k)] : List Value).toArray s 0 0 A) (F0 m 0 ls []) := by
    intro ls hl
    have tail : ∀ x : Int32, W p l e { frames := 0, cells := 0, slots := 0, locals := 0 } s m ([.ref b, .int (nI k)] : List Value).toArray below meth c s.heap [] 0 0 (vx_MQ below (QT A) (fun _ _ _ => False) ([.ref b, .int (nI k)] : List Value).toArray s 0 0 A) (F0 m 23 ls [.int x]) := by
      intro x
      refine lv_ldc (v := 2147483647) hx hb hown (hts _ (List.mem_cons_of_mem _ (LT_in (by decide +kernel) (by decide +kernel)))) dL_told_23 ?_
      refine lv_iand hx hb dL_told_25 ?_
      have e1 := pk_and x (m := 2147483647) 31 (by decide +kernel)
      have hS9 : va_S A s.heap s.heap [] := va_S.rf
      exact vx_ret (W.iret hx hb hr (fun u hu hw => ⟨⟨_, Nat.mod_lt _ (by decide), by rw [e1]⟩, hS9.F hu⟩) hS9.2.2 dL_told_26 hlocks)
    refine lv_iload_n hx hb dL_told_0 rfl (lv_at hl 1 rfl) ?_
    refine lv_aload_n hx hb dL_told_1 rfl (lv_at hl 0 rfl) ?_
    refine va_slen hx hb hX hbl hbA va_S.rf dL_told_2 ?_
    refine lv_icmp_ge hx hb dL_told_3 (tgt := 12) (by decide) (fun _ => ?_) (fun z => ?_)
    · refine lv_ldc (v := 60013) hx hb hown (hts _ (List.mem_cons_of_mem _ (LT_in (by decide +kernel) (by decide +kernel)))) dL_told_12 ?_
      refine lv_iload_n hx hb dL_told_14 rfl (lv_at hl 1 rfl) ?_
      refine lv_iconst (v := 3) hx hb dL_told_15 (by decide +kernel) ?_
      refine lv_iadd hx hb dL_told_16 ?_
      refine lv_imul hx hb dL_told_17 ?_
      refine lv_iload_n hx hb dL_told_18 rfl (lv_at hl 1 rfl) ?_
      refine lv_bipush (v := 7) hx hb dL_told_19 (by decide +kernel) ?_
      refine lv_iadd hx hb dL_told_21 ?_
      refine lv_imul hx hb dL_told_22 ?_
      exact tail _
    · have hkL : k < L := by
        refine Nat.lt_of_not_le fun z2 => z ?_
        exact nI_le (a := L) (b := k) z2 (by omega)
      refine lv_aload_n hx hb dL_told_6 rfl (lv_at hl 0 rfl) ?_
      refine lv_iload_n hx hb dL_told_7 rfl (lv_at hl 1 rfl) ?_
      refine va_sld hx hb hX hbl hbA va_S.rf (vp0 hkL (by omega)) dL_told_8 ?_
      refine lv_goto hx hb dL_told_9 (tgt := 23) (by decide) ?_
      exact tail _
  subst hsz
  exact K _ hl
section TOLD
variable {p : Program} {l : Launch} {e : Env} {s : State} {m : MethodId} {below : List Frame} {meth : Method} {c : Code} {Q : State → Prop} {D : va_G} {X : Nat → ClassId} {ad : Nat → Nat → Nat} {b L : Nat} {xs : Nat → Int32} {H : Heap} {locs : List Loc} {ls : Array Slot} {pc : Nat} {np nb nz nt : Nat} {t : TT} {fa ta x0 : Nat} {f g : Nat → Int32} {cl sl : Nat}
theorem law_told (hC : LC p l s m c D X b L xs) (hL : LSt D X ad (AL s) np nb nz nt t fa ta f g x0 H) (hS : va_S (AL s) s.heap H locs) (hls : ls.size = 10) {k : Nat} (hk : k < 1000) {rest : List Value} (h8 : (rest.map fun v => v.category).sum ≤ 8) (hc : cl ≤ 600130) (hs : sl ≤ 7301080) (hdec : decode code pc = .ok (.invokestatic 49, 3))
    (kk : ∀ (v : Nat) (H1 : Heap) (locs1 : List Loc), v < 2 ^ 31 → LSt D X ad (AL s) np nb nz nt t fa ta f g x0 H1 → va_S (AL s) s.heap H1 locs1 → W p l e room_1 s m #[Value.ref b] below meth c H1 locs1 cl sl Q (F0 m (pc + 3) ls (.int (nI v) :: rest))) : W p l e room_1 s m #[Value.ref b] below meth c H locs cl sl Q (F0 m pc ls (.int (nI k) :: .ref b :: rest)) := by
  obtain ⟨hx, hb, hml, hts, hown, hK, hE, hX, hbl, hL9, hst⟩ := hC
  have hbA : ¬ AL s b := fun h => absurd hbl (Nat.not_lt.mpr h)
  have hws : Cond.methodLink R_law 49 yL_told ∈ LT ∧ Cond.static yL_told ∈ LT ∧ Cond.initialized yL_told.cls ∈ LT ∧ Cond.code yL_told cL_told 2 (some .int) ∈ LT := ⟨LT_in (by decide +kernel) (by decide +kernel), LT_in (by decide +kernel) (by decide +kernel), LT_in (by decide +kernel) (by decide +kernel), LT_in (by decide +kernel) (by decide +kernel)⟩
  have hgood : GoodIn LT (Cond.code yL_told cL_told 2 (some .int) :: LT) := fun w hw => ⟨(List.mem_cons.mp hw).elim (fun z => by rw [z]; exact hws.2.2.2) id, good_of_word (LT_good ((List.mem_cons.mp hw).elim (fun z => by rw [z]; exact hws.2.2.2) id))⟩
  have hB := callB_of (R := room_1) (Ts := LT) (ws := Cond.code yL_told cL_told 2 (some .int) :: LT) (rm := { frames := 0, cells := 0, slots := 0, locals := 0 }) (own := R_law) (index := 49) (y := yL_told) (mc := 0) (ms := 0) 2 hts hgood rfl rfl rfl (hts _ hws.2.2.1) (hts _ hws.1) (by decide +kernel) ⟨Nat.le_of_ble_eq_true rfl, Nat.le_of_ble_eq_true rfl⟩
  have hrun := vx_runS (e := e) (below := below) (meth := meth) (H := H) (locs := locs) (cells := cl) (slots := sl) (Ts := LT) (As := [.ref b, .int (nI k)]) (rest := rest) (g := F0 m pc ls (.int (nI k) :: .ref b :: rest)) ⟨hx, hb, hml, hown, hts⟩ (c_L_told l b L xs hL9 k hk (fun q => H.size ≤ q) H.size (Nat.not_le.mpr (Nat.lt_of_lt_of_le hbl hS.1))) ⟨hB, hts _ hws.2.1⟩
    ⟨fun a U g mk h => ⟨h.1, h.2.1, h.2.2.1.moved (u := U) (U := U.calling g mk a) (Vm.Alike.refl U.vm), h.2.2.2⟩, fun U hU hw => ⟨rfl, by rw [hU], by rw [hU]; exact (hX.kept (hS.2.1 b hbl hbA)).moved hw.alike, by rw [hU]; exact Nat.lt_of_lt_of_le hbl hS.1⟩⟩ rfl rfl hls rfl (lv_room h8) hdec ⟨hc, hs⟩
  have hAC : ∀ q, H.size ≤ q → AL s q := fun q h => Nat.le_trans hS.1 h
  intro T hT Y
  rcases hrun T hT Y with ⟨v, st₀, u, T', L9, h0, Y', hL8, e1, e2, ⟨⟨v9, hv9, hv⟩, hF⟩, st⟩ | ⟨q, st₀, u, T', L9, E, ce, h0, Y', hL8, e1, e2, hfalse, -⟩
  · cases hv
    obtain ⟨k1, k2, k3⟩ := vx_keep h0 e1 hS (fun q _ h => hAC q h) hAC hL8 hF
    have kp : ∀ a, a < H.size → T'.heap[a]? = H[a]? := fun a ha => k2 a ha (Nat.not_le.mpr ha)
    obtain ⟨hW, hf, hg, hAf, hAg, hfg, hne, hx0⟩ := hL
    obtain ⟨t2, a1, b1⟩ := kk v9 T'.heap (locs ++ L9) hv9 ⟨hW.kept fun kp' i h => kp _ (hW.lt h), hf.kept (kp _ hf.lt), hg.kept (kp _ hg.lt), hAf, hAg, hfg, hne, hx0⟩ k3 T' rfl Y'
    exact ⟨t2, st t2 a1, b1⟩
  · exact hfalse.elim
end TOLD

/-! calls out of a frame that owns more than the callee's world -/
def AC (ad : Nat → Nat → Nat) (M : Nat → Nat → Bool) (sz : Nat) : Nat → Prop := fun q => (∃ kp i, M kp i = true ∧ q = ad kp i) ∨ sz ≤ q
theorem SW.own {D : va_G} {X : Nat → ClassId} {ad : Nat → Nat → Nat} {A B : Nat → Prop} {M : Nat → Nat → Bool} {t : TT} {H : Heap} (h : SW D X ad A M t H) (hB : ∀ kp i, M kp i = true → B (ad kp i)) : SW D X ad B M t H := ⟨h.1, h.2.1, hB, h.2.2.2⟩
theorem Ext.refl (ad : Nat → Nat → Nat) (M : Nat → Nat → Bool) (sz : Nat) : Ext ad M ad M sz := ⟨fun _ _ h => ⟨h, rfl⟩, fun _ _ h1 h2 => by rw [h1] at h2; cases h2⟩
section LCL
variable {p : Program} {l : Launch} {e : Env} {R : Room} {s : State} {m : MethodId} {args : Array Value} {below : List Frame} {meth : Method} {c : Code} {Q : State → Prop} {D : va_G} {X : Nat → ClassId} {ad : Nat → Nat → Nat} {A0 : Nat → Prop} {M : Nat → Nat → Bool} {nL : Nat} {b : ByteArray} {t : TT} {as : List VV} {mc1 ms1 : Nat} {H : Heap} {locs : List Loc} {ls : Array Slot} {pc : Nat}
theorem run_own {post : Option VV → (Nat → Nat → Bool) → TT → Prop} {kx : String → TT → Prop} {cl sl : Nat} {st0 rest : List Value} {a : Array Value} (hA : ∀ q, s.heap.size ≤ q → A0 q) (hS : va_S A0 s.heap H locs) (hW : SW D X ad A0 M t H)
    (hr : vx_Run p l e R s m args below meth c H locs cl sl mc1 ms1 (F0 m pc ls st0) rest (QE D X ad (AC ad M H.size) M H.size post a) (X9 D X ad (AC ad M H.size) M kx) (AC ad M H.size))
    (hk : ∀ (v : Option VV) (t1 : TT) (ad' : Nat → Nat → Nat) (M' : Nat → Nat → Bool) (H1 : Heap) (locs1 : List Loc), post v M' t1 → Ext ad M ad' M' H.size → SW D X ad' A0 M' t1 H1 → va_S A0 s.heap H1 locs1 → H.size ≤ H1.size → (∀ x, x < H.size → ¬ AC ad M H.size x → H1[x]? = H[x]?) → W p l e R s m args below meth c H1 locs1 (cl + mc1) (sl + ms1) Q (F0 m (pc + 3) ls ((v.map (toV ad)).toList ++ rest)))
    (hx9 : ∀ (E : String) (ce : Cell) (q : Addr) (t1 : TT) (H1 : Heap) (locs1 : List Loc), kx E t1 → SW D X ad A0 M t1 H1 → va_S A0 s.heap H1 locs1 → H.size ≤ H1.size → (∀ x, x < H.size → ¬ AC ad M H.size x → H1[x]? = H[x]?) → H1[q]? = some ce → ce.vm = .none → s.vm.findClass E = some ce.cls → vx_W p l e R s m args below meth c H1 locs1 (cl + mc1) (sl + ms1) Q (F0 m pc ls rest) q) : W p l e R s m args below meth c H locs cl sl Q (F0 m pc ls st0) := by
  have hAC : ∀ q, AC ad M H.size q → A0 q := by
    rintro q (⟨kp, i, h1, rfl⟩ | h)
    · exact hW.2.2.1 kp i h1
    · exact hA q (Nat.le_trans hS.1 h)
  intro T hT Y
  rcases hr T hT Y with ⟨v, st₀, u, T', L, h0, Y', hL, e1, e2, ⟨⟨v9, t1, ad', M', hv, hp, hext, hw⟩, hF⟩, st⟩ | ⟨q, st₀, u, T', L, E, ce, h0, Y', hL, e1, e2, ⟨⟨t1, hp, hw⟩, hF⟩, hce, hcv, hcl, st⟩
  · cases hv
    obtain ⟨k1, k2, k3⟩ := vx_keep h0 e1 hS (fun q _ h => hAC q h) hAC hL hF
    obtain ⟨t2, a1, b1⟩ := hk v9 t1 ad' M' T'.heap (locs ++ L) hp hext (by rw [e1]; exact hw.own fun kp i h => hAC _ (hw.2.2.1 kp i h)) k3 k1 k2 T' rfl Y'
    exact ⟨t2, st t2 a1, b1⟩
  · obtain ⟨k1, k2, k3⟩ := vx_keep h0 e1 hS (fun q _ h => hAC q h) hAC hL hF
    obtain ⟨t2, a1, b1⟩ := hx9 E ce q t1 T'.heap (locs ++ L) hp (by rw [e1]; exact hw.own fun kp i h => hAC _ (hw.2.2.1 kp i h)) k3 k1 k2 (by rw [e1]; exact hce) hcv hcl T' rfl Y'
    exact ⟨t2, st.trans a1, b1⟩
theorem run_mono {Qa Qb : State → Outcome → State → Prop} {XC : String → State → State → Prop} {free : Addr → Prop} {cl sl : Nat} {g : JFrame} {rest : List Value} (hr : vx_Run p l e R s m args below meth c H locs cl sl mc1 ms1 g rest Qa XC free) (h : ∀ st o u, Qa st o u → Qb st o u) : vx_Run p l e R s m args below meth c H locs cl sl mc1 ms1 g rest Qb XC free := by
  intro T hT Y
  rcases hr T hT Y with ⟨v, st₀, u, T', L, h0, Y', hL, e1, e2, hq, st⟩ | h9
  · exact Or.inl ⟨v, st₀, u, T', L, h0, Y', hL, e1, e2, h _ _ _ hq, st⟩
  · exact Or.inr h9
/-- a method of an object of the world, out of a frame that owns more -/
theorem lcall_E (hx : p.tables.exec = Jvm.exec) (hb : c.code = b) (hml : c.maxLocals = nL) {own : String} {Ts : List Cond} (hts : ∀ w ∈ Ts, w.before args s = true) (hown : s.vm.findClass own = some m.cls) (hK : va_K D vwCl (TYX X) s) (hA : ∀ q, s.heap.size ≤ q → A0 q) (hE : EX A0 s)
    {post : Option VV → (Nat → Nat → Bool) → TT → Prop} {kx : String → TT → Prop} {y : MethodName} {by9 : ByteArray} {ny : Nat} {ret : Option FieldType} {rm : Room} (hM : CE l y (Cond.code y by9 ny ret :: LT) rm D X ad M as t mc1 ms1 post kx) {ix n : Nat} (hLT : ∀ w ∈ LT, w ∈ Ts) (hws : (Cond.methodLink own ix y ∈ LT ∧ Cond.instanceMethod y ∈ LT ∧ Cond.selects y.cls y y ∈ LT ∧ Cond.initialized y.cls ∈ LT ∧ Cond.code y by9 ny ret ∈ LT))
    (hd : y.cls ≠ "java/lang/invoke/MethodHandle" ∧ y.cls ≠ "java/lang/invoke/VarHandle" ∧ (parseMethodDescriptor y.desc).map (fun d => d.parameters.length) = some n) (hR : rm.frames + 1 ≤ R.frames ∧ 8 + (ny + 11) + rm.locals ≤ R.locals) (hrc : rm.cells = mc1) (hrs : rm.slots = ms1) (hn : as.length = n + 1)
    (hrecv : ∃ kp i, (as.head?).map (toV ad) = some (.ref (ad kp i)) ∧ M kp i = true ∧ isObj kp ∧ RXk kp = y.cls) (hW : SW D X ad A0 M t H) (hS : va_S A0 s.heap H locs) (hls : ls.size = nL) {rest : List Value} (h8 : (rest.map fun v => v.category).sum ≤ 8) {cl sl : Nat} (hc : cl + mc1 ≤ R.cells) (hs : sl + ms1 ≤ R.slots) (hdec : decode b pc = .ok (.invokevirtual ix, 3)) :
    vx_Run p l e R s m args below meth c H locs cl sl mc1 ms1 (F0 m pc ls ((as.map (toV ad)).reverse ++ rest)) rest (QE D X ad (AC ad M H.size) M H.size post (as.map (toV ad)).toArray) (X9 D X ad (AC ad M H.size) M kx) (AC ad M H.size) := by
  obtain ⟨v0, as', rfl⟩ : ∃ v0 as', as = v0 :: as' := by
    cases as with
    | nil => simp at hn
    | cons v0 as' => exact ⟨v0, as', rfl⟩
  obtain ⟨kp, i, hv0, hi, hobj, hcls⟩ := hrecv
  have hv : toV ad v0 = .ref (ad kp i) := Option.some.inj hv0
  have hLs : ∀ w ∈ LT, w.before args s = true := fun w hw => hts w (hLT w hw)
  have hgood : GoodIn LT (Cond.code y by9 ny ret :: LT) := fun w hw => ⟨(List.mem_cons.mp hw).elim (fun z => by rw [z]; exact hws.2.2.2.2) id, good_of_word (LT_good ((List.mem_cons.mp hw).elim (fun z => by rw [z]; exact hws.2.2.2.2) id))⟩
  have hB := callB_of (R := R) (Ts := LT) (ws := Cond.code y by9 ny ret :: LT) (own := own) (index := ix) (y := y) (mc := mc1) (ms := ms1) n hLs hgood rfl hrc hrs (hLs _ hws.2.2.2.1) (hLs _ hws.1) hd hR
  have hcw : CallW R s args own y.cls ix y by9 ny ret (Cond.code y by9 ny ret :: LT) rm mc1 ms1 n := ⟨hB, hLs _ hws.2.1, hLs _ hws.2.2.1⟩
  have hAC : ∀ q, AC ad M H.size q → A0 q := by
    rintro q (⟨kp, i, h1, rfl⟩ | h)
    · exact hW.2.2.1 kp i h1
    · exact hA q (Nat.le_trans hS.1 h)
  have hW1 : SW D X ad (AC ad M H.size) M t H := hW.own fun kp i h => Or.inl ⟨kp, i, h, rfl⟩
  have hpre : ∀ U : State, U.heap = H → s.WarmedH U.vm → va_Pc ((v0 :: as').map (toV ad)) (fun U => U.heap.size = H.size ∧ SW D X ad (AC ad M H.size) M t U.heap ∧ va_K D vwCl (TYX X) U ∧ EX (AC ad M H.size) U) ((v0 :: as').map (toV ad)).toArray U := fun U hU hw => ⟨rfl, by rw [hU], by rw [hU]; exact hW1, va_K.moved hw.alike hK, (hE.to hw (by rw [hU]; exact hS.2.1)).narrow hAC⟩
  have h0 := va_recv (q0 := 0) (ci := kci kp) hK (SW.oneE hW hi (obj_cell hobj X ad M t i)) (obj_cl hobj) rfl
  have e0 : (((v0 :: as').map (toV ad)).reverse ++ rest) = (as'.map (toV ad)).reverse ++ .ref (ad kp i) :: rest := by
    simp [hv]
  rw [e0]
  exact vx_runV (e := e) (below := below) (meth := meth) (H := H) (locs := locs) (cells := cl) (slots := sl) (Ts := LT) (b := ad kp i) (As := as'.map (toV ad)) (rest := rest) (g := F0 m pc ls ((as'.map (toV ad)).reverse ++ .ref (ad kp i) :: rest)) ⟨hx, hb, hml, hown, hLs⟩ (hM (AC ad M H.size) H.size (fun q h => Or.inr h)) hcw
    ⟨blind9, by
      rw [← hcls]
      exact h0, by
      rw [← hv]
      exact hpre⟩ rfl (by rw [List.length_map]; simpa using hn) hls rfl (lv_room h8) hdec ⟨hc, hs⟩
end LCL
/-- a contract of a world that stays, as one of a world that may grow -/
theorem CT.toE {l : Launch} {y : MethodName} {ws : List Cond} {rm : Room} {D : va_G} {X : Nat → ClassId} {ad : Nat → Nat → Nat} {M : Nat → Nat → Bool} {as : List VV} {t : TT} {mc ms : Nat} {post : Option VV → TT → Prop} {px : String → TT → Prop} (h : CT l y ws rm D X ad M as t mc ms post px) : CE l y ws rm D X ad M as t mc ms (fun v M' t1 => post v t1 ∧ M' = M) px := by
  intro A sz hA p e ha hc hk s m args below hf happ hpre hP
  obtain ⟨k, o, h1, h2, h3, h4⟩ := h A sz hA p e ha hc hk s m args below hf happ hpre hP
  refine ⟨k, o, h1, h2, h3, ?_⟩
  rcases h4 with ⟨⟨⟨v, t1, g1, g2, g3⟩, g4⟩, g5⟩ | h4
  · exact Or.inl ⟨⟨⟨v, t1, ad, M, g1, ⟨g2, rfl⟩, Ext.refl ad M sz, g3⟩, g4⟩, g5⟩
  · exact Or.inr h4

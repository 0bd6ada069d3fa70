/-! Integer.bitCount -/
def bu9 (x k : Int32) : Int32 := (x.toUInt32 >>> (k.toUInt32 &&& Int32.toUInt32 31)).toInt32
def bc1 (x : Int32) : Int32 := x - (bu9 x 1 &&& 1431655765)
def bc2 (x : Int32) : Int32 := (x &&& 858993459) + (bu9 x 2 &&& 858993459)
def bc3 (x : Int32) : Int32 := (x + bu9 x 4) &&& 252645135
def bc4 (x k : Int32) : Int32 := x + bu9 x k
def bitc (x : Int32) : Int32 := bc4 (bc4 (bc3 (bc2 (bc1 x))) 8) 16 &&& 63
def PC_bitc (as : List VV) (t : TT) (k : Option VV → TT → Prop) : Prop := match as with
  | [.inl x] => k (some (.inl (bitc x))) t
  | _ => False
theorem ws_bitc : Cond.static yJ6_bitCount_0f7a4 ∈ LT ∧ Cond.initialized yJ6_bitCount_0f7a4.cls ∈ LT ∧ Cond.code yJ6_bitCount_0f7a4 cJ6_bitCount_0f7a4 1 (some .int) ∈ LT ∧ Cond.constant RJ6 265 1431655765 ∈ LT ∧ Cond.constant RJ6 266 858993459 ∈ LT ∧ Cond.constant RJ6 267 252645135 ∈ LT := by decide +kernel
set_option maxRecDepth 100000 in
set_option maxHeartbeats 4000000 in
theorem c_bitc {l : Launch} {D : va_G} {X : Nat → ClassId} {ad : Nat → Nat → Nat} {M : Nat → Nat → Bool} {post : Option VV → TT → Prop} {px : String → TT → Prop} (x0 : Int32) (t : TT) (h : post (some (.inl (bitc x0))) t) : CT l yJ6_bitCount_0f7a4 (Cond.code yJ6_bitCount_0f7a4 cJ6_bitCount_0f7a4 1 (some .int) :: LT) ({ frames := 0, cells := 0, slots := 0, locals := 0 } : Room) D X ad M [.inl x0] t 0 0 post px := by
  refine met_of_wp (by decide +kernel) (Nat.le_of_ble_eq_true rfl) ?_
  intro p e s m args below meth c A hx hb hml hts hown hK hnt hlocks hr hA hE H locs ls hW hS hl
  replace hl : lv_has ls 1 [(0, .int x0)] := hl
  refine lv_iload_n hx hb (show decode cJ6_bitCount_0f7a4 0 = .ok (.iload_n 0, 1) by decide +kernel) rfl (lv_at hl 0 rfl) ?_
  refine lv_iload_n hx hb (show decode cJ6_bitCount_0f7a4 1 = .ok (.iload_n 0, 1) by decide +kernel) rfl (lv_at hl 0 rfl) ?_
  refine lv_iconst (v := 1) hx hb (show decode cJ6_bitCount_0f7a4 2 = .ok (.iconst 1, 1) by decide +kernel) (by decide) ?_
  refine lv_iushr hx hb (show decode cJ6_bitCount_0f7a4 3 = .ok (.iushr, 1) by decide +kernel) rfl ?_
  refine lv_ldcw hx hb hown (hts _ ws_bitc.2.2.2.1) (show decode cJ6_bitCount_0f7a4 4 = .ok (.ldc_w 265, 3) by decide +kernel) ?_
  refine lv_iand hx hb (show decode cJ6_bitCount_0f7a4 7 = .ok (.iand, 1) by decide +kernel) ?_
  refine lv_isub hx hb (show decode cJ6_bitCount_0f7a4 8 = .ok (.isub, 1) by decide +kernel) ?_
  refine lv_topi (fun x1 e1 => ?_)
  replace e1 : x1 = bc1 x0 := e1
  refine lv_istore_n (lv' := [(0, .int x1)]) hx hb (show decode cJ6_bitCount_0f7a4 9 = .ok (.istore_n 0, 1) by decide +kernel) rfl hl (by decide) rfl (fun ls hl => ?_)
  refine lv_iload_n hx hb (show decode cJ6_bitCount_0f7a4 10 = .ok (.iload_n 0, 1) by decide +kernel) rfl (lv_at hl 0 rfl) ?_
  refine lv_ldcw hx hb hown (hts _ ws_bitc.2.2.2.2.1) (show decode cJ6_bitCount_0f7a4 11 = .ok (.ldc_w 266, 3) by decide +kernel) ?_
  refine lv_iand hx hb (show decode cJ6_bitCount_0f7a4 14 = .ok (.iand, 1) by decide +kernel) ?_
  refine lv_iload_n hx hb (show decode cJ6_bitCount_0f7a4 15 = .ok (.iload_n 0, 1) by decide +kernel) rfl (lv_at hl 0 rfl) ?_
  refine lv_iconst (v := 2) hx hb (show decode cJ6_bitCount_0f7a4 16 = .ok (.iconst 2, 1) by decide +kernel) (by decide) ?_
  refine lv_iushr hx hb (show decode cJ6_bitCount_0f7a4 17 = .ok (.iushr, 1) by decide +kernel) rfl ?_
  refine lv_ldcw hx hb hown (hts _ ws_bitc.2.2.2.2.1) (show decode cJ6_bitCount_0f7a4 18 = .ok (.ldc_w 266, 3) by decide +kernel) ?_
  refine lv_iand hx hb (show decode cJ6_bitCount_0f7a4 21 = .ok (.iand, 1) by decide +kernel) ?_
  refine lv_iadd hx hb (show decode cJ6_bitCount_0f7a4 22 = .ok (.iadd, 1) by decide +kernel) ?_
  refine lv_topi (fun x2 e2 => ?_)
  replace e2 : x2 = bc2 x1 := e2
  refine lv_istore_n (lv' := [(0, .int x2)]) hx hb (show decode cJ6_bitCount_0f7a4 23 = .ok (.istore_n 0, 1) by decide +kernel) rfl hl (by decide) rfl (fun ls hl => ?_)
  refine lv_iload_n hx hb (show decode cJ6_bitCount_0f7a4 24 = .ok (.iload_n 0, 1) by decide +kernel) rfl (lv_at hl 0 rfl) ?_
  refine lv_iload_n hx hb (show decode cJ6_bitCount_0f7a4 25 = .ok (.iload_n 0, 1) by decide +kernel) rfl (lv_at hl 0 rfl) ?_
  refine lv_iconst (v := 4) hx hb (show decode cJ6_bitCount_0f7a4 26 = .ok (.iconst 4, 1) by decide +kernel) (by decide) ?_
  refine lv_iushr hx hb (show decode cJ6_bitCount_0f7a4 27 = .ok (.iushr, 1) by decide +kernel) rfl ?_
  refine lv_iadd hx hb (show decode cJ6_bitCount_0f7a4 28 = .ok (.iadd, 1) by decide +kernel) ?_
  refine lv_ldcw hx hb hown (hts _ ws_bitc.2.2.2.2.2) (show decode cJ6_bitCount_0f7a4 29 = .ok (.ldc_w 267, 3) by decide +kernel) ?_
  refine lv_iand hx hb (show decode cJ6_bitCount_0f7a4 32 = .ok (.iand, 1) by decide +kernel) ?_
  refine lv_topi (fun x3 e3 => ?_)
  replace e3 : x3 = bc3 x2 := e3
  refine lv_istore_n (lv' := [(0, .int x3)]) hx hb (show decode cJ6_bitCount_0f7a4 33 = .ok (.istore_n 0, 1) by decide +kernel) rfl hl (by decide) rfl (fun ls hl => ?_)
  refine lv_iload_n hx hb (show decode cJ6_bitCount_0f7a4 34 = .ok (.iload_n 0, 1) by decide +kernel) rfl (lv_at hl 0 rfl) ?_
  refine lv_iload_n hx hb (show decode cJ6_bitCount_0f7a4 35 = .ok (.iload_n 0, 1) by decide +kernel) rfl (lv_at hl 0 rfl) ?_
  refine lv_bipush (v := 8) hx hb (show decode cJ6_bitCount_0f7a4 36 = .ok (.bipush 8, 2) by decide +kernel) (by decide) ?_
  refine lv_iushr hx hb (show decode cJ6_bitCount_0f7a4 38 = .ok (.iushr, 1) by decide +kernel) rfl ?_
  refine lv_iadd hx hb (show decode cJ6_bitCount_0f7a4 39 = .ok (.iadd, 1) by decide +kernel) ?_
  refine lv_topi (fun x4 e4 => ?_)
  replace e4 : x4 = bc4 x3 8 := e4
  refine lv_istore_n (lv' := [(0, .int x4)]) hx hb (show decode cJ6_bitCount_0f7a4 40 = .ok (.istore_n 0, 1) by decide +kernel) rfl hl (by decide) rfl (fun ls hl => ?_)
  refine lv_iload_n hx hb (show decode cJ6_bitCount_0f7a4 41 = .ok (.iload_n 0, 1) by decide +kernel) rfl (lv_at hl 0 rfl) ?_
  refine lv_iload_n hx hb (show decode cJ6_bitCount_0f7a4 42 = .ok (.iload_n 0, 1) by decide +kernel) rfl (lv_at hl 0 rfl) ?_
  refine lv_bipush (v := 16) hx hb (show decode cJ6_bitCount_0f7a4 43 = .ok (.bipush 16, 2) by decide +kernel) (by decide) ?_
  refine lv_iushr hx hb (show decode cJ6_bitCount_0f7a4 45 = .ok (.iushr, 1) by decide +kernel) rfl ?_
  refine lv_iadd hx hb (show decode cJ6_bitCount_0f7a4 46 = .ok (.iadd, 1) by decide +kernel) ?_
  refine lv_topi (fun x5 e5 => ?_)
  replace e5 : x5 = bc4 x4 16 := e5
  refine lv_istore_n (lv' := [(0, .int x5)]) hx hb (show decode cJ6_bitCount_0f7a4 47 = .ok (.istore_n 0, 1) by decide +kernel) rfl hl (by decide) rfl (fun ls hl => ?_)
  refine lv_iload_n hx hb (show decode cJ6_bitCount_0f7a4 48 = .ok (.iload_n 0, 1) by decide +kernel) rfl (lv_at hl 0 rfl) ?_
  refine lv_bipush (v := 63) hx hb (show decode cJ6_bitCount_0f7a4 49 = .ok (.bipush 63, 2) by decide +kernel) (by decide) ?_
  refine lv_iand hx hb (show decode cJ6_bitCount_0f7a4 51 = .ok (.iand, 1) by decide +kernel) ?_
  have hv : x5 &&& 63 = bitc x0 := by rw [e5, e4, e3, e2, e1]; rfl
  rw [hv]
  exact end_int (rk := 1) (loc := [(0, .inl x5)]) hx hb hr hlocks (show decode cJ6_bitCount_0f7a4 52 = .ok (.ireturn, 1) by decide +kernel) (Or.inl rfl) (Nat.le_refl 0) (Nat.le_refl 0) h H locs ls hW hS hl
theorem k_bitc {p : Program} {l : Launch} {e : Env} {R : Room} {s : State} {m : MethodId} {args : Array Value} {below : List Frame} {meth : Method} {c : Code} {Q : State → Prop} {D : va_G} {X : Nat → ClassId} {ad : Nat → Nat → Nat} {A : Nat → Prop} {M : Nat → Nat → Bool} {nL : Nat} {b : ByteArray} {mc ms : Nat} {k : Option VV → TT → Prop} {kx : String → TT → Prop} {t : TT} {as : List VV} (hx : p.tables.exec = Jvm.exec) (hb : c.code = b) (hml : c.maxLocals = nL) (hts : ∀ w ∈ LT, w.before args s = true) {own : String} (hown : s.vm.findClass own = some m.cls) (hK : va_K D vwCl (TYX X) s) (hA : ∀ q, s.heap.size ≤ q → A q) (hE : EX A s) (hst9 : l.stackTraces = false) {ix : Nat} (hl9 : Cond.methodLink own ix yJ6_bitCount_0f7a4 ∈ LT) (hR : 1 ≤ R.frames ∧ 20 ≤ R.locals) (hmc : R.cells = mc) (hms : R.slots = ms) (h : PC_bitc as t k) : CallOK p l e R s m args below meth c Q D X ad A M nL b mc ms (.invokestatic ix) 0 0 as t k kx := by
  unfold PC_bitc at h
  split at h
  · exact call_S hx hb hml hts hown hK hA hE (c_bitc _ t h) ⟨hl9, ws_bitc.1, ws_bitc.2.1, ws_bitc.2.2.1⟩ (n := 1) (by decide +kernel) hR rfl rfl hmc hms rfl
  · exact h.elim
def PC_mmin (as : List VV) (t : TT) (k : Option VV → TT → Prop) : Prop := match as with
  | [.inl x, .inl y] => k (some (.inl (mmin x y))) t
  | _ => False
theorem ws_mmin : Cond.static Lib.Math.min.name ∈ LT ∧ Cond.initialized "java/lang/Math" ∈ LT ∧ Cond.code Lib.Math.min.name Lib.Math.min.code 2 (some .int) ∈ LT := by decide +kernel
theorem k_mmin {p : Program} {l : Launch} {e : Env} {R : Room} {s : State} {m : MethodId} {args : Array Value} {below : List Frame} {meth : Method} {c : Code} {Q : State → Prop} {D : va_G} {X : Nat → ClassId} {ad : Nat → Nat → Nat} {A : Nat → Prop} {M : Nat → Nat → Bool} {nL : Nat} {b : ByteArray} {mc ms : Nat} {k : Option VV → TT → Prop} {kx : String → TT → Prop} {t : TT} {as : List VV} (hx : p.tables.exec = Jvm.exec) (hb : c.code = b) (hml : c.maxLocals = nL) (hts : ∀ w ∈ LT, w.before args s = true) {own : String} (hown : s.vm.findClass own = some m.cls) {ix : Nat} (hl9 : Cond.methodLink own ix Lib.Math.min.name ∈ LT) (hR : 1 ≤ R.frames ∧ 21 ≤ R.locals) (hmc : R.cells = mc) (hms : R.slots = ms) (h : PC_mmin as t k) : CallOK p l e R s m args below meth c Q D X ad A M nL b mc ms (.invokestatic ix) 0 0 as t k kx := by
  unfold PC_mmin at h
  split at h
  · exact call_min hx hb hml hts hown ⟨hl9, ws_mmin⟩ hR hmc hms h
  · exact h.elim
def PC_mmax (as : List VV) (t : TT) (k : Option VV → TT → Prop) : Prop := match as with
  | [.inl x, .inl y] => k (some (.inl (mmax x y))) t
  | _ => False
theorem ws_mmax : Cond.static Lib.Math.max.name ∈ LT ∧ Cond.initialized "java/lang/Math" ∈ LT ∧ Cond.code Lib.Math.max.name Lib.Math.max.code 2 (some .int) ∈ LT := by decide +kernel
theorem k_mmax {p : Program} {l : Launch} {e : Env} {R : Room} {s : State} {m : MethodId} {args : Array Value} {below : List Frame} {meth : Method} {c : Code} {Q : State → Prop} {D : va_G} {X : Nat → ClassId} {ad : Nat → Nat → Nat} {A : Nat → Prop} {M : Nat → Nat → Bool} {nL : Nat} {b : ByteArray} {mc ms : Nat} {k : Option VV → TT → Prop} {kx : String → TT → Prop} {t : TT} {as : List VV} (hx : p.tables.exec = Jvm.exec) (hb : c.code = b) (hml : c.maxLocals = nL) (hts : ∀ w ∈ LT, w.before args s = true) {own : String} (hown : s.vm.findClass own = some m.cls) {ix : Nat} (hl9 : Cond.methodLink own ix Lib.Math.max.name ∈ LT) (hR : 1 ≤ R.frames ∧ 21 ≤ R.locals) (hmc : R.cells = mc) (hms : R.slots = ms) (h : PC_mmax as t k) : CallOK p l e R s m args below meth c Q D X ad A M nL b mc ms (.invokestatic ix) 0 0 as t k kx := by
  unfold PC_mmax at h
  split at h
  · exact call_max hx hb hml hts hown ⟨hl9, ws_mmax⟩ hR hmc hms h
  · exact h.elim

/-! what a body's walk rests on, in one word; tables of fields; small functions of numbers -/
def mmin (x y : Int32) : Int32 := if y < x then y else x
def mmax (x y : Int32) : Int32 := if x < y then y else x
def fldOf (l : List (Nat × Nat × Nat)) (ix : Nat) : Option (Nat × Nat) := match l with
  | [] => none
  | q :: r => bif q.1 == ix then some q.2 else fldOf r ix
def fldCk (own : String) (q : Nat × Nat × Nat) : Bool := (q.2.1 == 0 || q.2.1 == 5 || q.2.1 == 6 || q.2.1 == 7 || q.2.1 == 8) && decide (Cond.fieldLink own q.1 (TXk q.2.1 q.2.2).1 (TXk q.2.1 q.2.2).2.1 (TXk q.2.1 q.2.2).2.2.1 ∈ LT)
theorem fldOf_ok {own : String} : ∀ {l : List (Nat × Nat × Nat)} {ix : Nat} {f : Nat × Nat}, l.all (fldCk own) = true → fldOf l ix = some f → fldOK own ix f
  | [], _, _, _, h => by cases h
  | q :: r, ix, f, hl, h => by
    simp only [List.all_cons, Bool.and_eq_true] at hl
    unfold fldOf at h
    cases hq : q.1 == ix with
    | true =>
      rw [hq] at h
      cases h
      have e : q.1 = ix := by simpa using hq
      have h1 := hl.1
      unfold fldCk at h1
      simp only [Bool.and_eq_true, Bool.or_eq_true, beq_iff_eq, decide_eq_true_eq] at h1
      rw [← e]
      refine ⟨?_, h1.2⟩
      unfold isObj
      omega
    | false =>
      rw [hq] at h
      exact fldOf_ok hl.2 h
def Ready (p : Program) (l : Launch) (e : Env) (R : Room) (s : State) (m : MethodId) (args : Array Value) (below : List Frame) (meth : Method) (c : Code) (D : va_G) (X : Nat → ClassId) (ad : Nat → Nat → Nat) (A : Nat → Prop) (M : Nat → Nat → Bool) (nL : Nat) (b : ByteArray) (mc ms : Nat) (post : Option VV → TT → Prop) (px : String → TT → Prop) (own : String) (rk : Nat) (fld : Nat → Option (Nat × Nat)) (nA : Bool → Nat → Option (Nat × Nat × Nat)) (PC : Nat → List VV → TT → (Option VV → TT → Prop) → (String → TT → Prop) → Prop) (tab : Nat → Option Ent) (thr : Nat → Option String) : Prop :=
  p.tables.exec = Jvm.exec ∧ c.code = b ∧ (∀ w ∈ LT, w.before args s = true) ∧ s.vm.findClass own = some m.cls ∧ va_K D vwCl (TYX X) s ∧ (∀ x ∈ c.exceptionTable.toList, False) ∧ meth.locks = false ∧ rkOK meth rk ∧ (∀ ix f, fld ix = some f → fldOK own ix f) ∧
  (∀ (v9 : Bool) (ix n mc1 ms1 : Nat) (as : List VV) (t : TT) (k : Option VV → TT → Prop), nA v9 ix = some (n, mc1, ms1) → as.length = n → PC ix as t k px → CallOK p l e R s m args below meth c (QM below args s D X ad A M mc ms post px) D X ad A M nL b mc ms (if v9 = true then .invokevirtual ix else .invokestatic ix) mc1 ms1 as t k px) ∧
  (∀ pc en, tab pc = some en → entOK b pc en = true) ∧
  (∀ pc E, thr pc = some E → ∀ loc st t cl sl, px E t → cl + 1 ≤ mc → sl + 6 ≤ ms → st.length ≤ 8 → Wat p l e R s m args below meth c (QM below args s D X ad A M mc ms post px) D X ad A M nL pc loc st t cl sl)
theorem wp_go {p : Program} {l : Launch} {e : Env} {R : Room} {s : State} {m : MethodId} {args : Array Value} {below : List Frame} {meth : Method} {c : Code} {D : va_G} {X : Nat → ClassId} {ad : Nat → Nat → Nat} {A : Nat → Prop} {M : Nat → Nat → Bool} {nL : Nat} {b : ByteArray} {mc ms : Nat} {post : Option VV → TT → Prop} {px : String → TT → Prop} {own : String} {rk : Nat} {fld : Nat → Option (Nat × Nat)} {nA : Bool → Nat → Option (Nat × Nat × Nat)} {PC : Nat → List VV → TT → (Option VV → TT → Prop) → (String → TT → Prop) → Prop} {tab : Nat → Option Ent} {thr : Nat → Option String}
    (h : Ready p l e R s m args below meth c D X ad A M nL b mc ms post px own rk fld nA PC tab thr) {cs : Nat → Option (List (Nat × Nat × Nat) × List (Nat × Nat) × Nat × Nat)} {Bk : Nat → List VV → List VV → TT → Prop} (hB : ∀ pc q vs ws t, cs pc = some q → Bk pc vs ws t → Wat p l e R s m args below meth c (QM below args s D X ad A M mc ms post px) D X ad A M nL pc (List.zip (q.1.map (·.1)) vs) ws t q.2.2.1 q.2.2.2) :
    ∀ n pc loc st t cl sl, wp M nL tab fld nA PC thr cs Bk rk mc ms post px n pc loc st t cl sl → Wat p l e R s m args below meth c (QM below args s D X ad A M mc ms post px) D X ad A M nL pc loc st t cl sl := by
  obtain ⟨h1, h2, h3, h4, h5, h6, h7, h8, h9, h10, h11, h12⟩ := h
  exact wp_sound h1 h2 h3 h4 h5 h6 h7 h8 h9 h10 h11 h12 hB
theorem CallOK.congr {p : Program} {l : Launch} {e : Env} {R : Room} {s : State} {m : MethodId} {args : Array Value} {below : List Frame} {meth : Method} {c : Code} {Q : State → Prop} {D : va_G} {X : Nat → ClassId} {ad : Nat → Nat → Nat} {A : Nat → Prop} {M : Nat → Nat → Bool} {nL : Nat} {b : ByteArray} {mc ms : Nat} {ins : Instr} {mc1 ms1 : Nat} {as as' : List VV} {t : TT} {k : Option VV → TT → Prop} {kx : String → TT → Prop} (he : as'.map (toV ad) = as.map (toV ad)) (h : CallOK p l e R s m args below meth c Q D X ad A M nL b mc ms ins mc1 ms1 as' t k kx) : CallOK p l e R s m args below meth c Q D X ad A M nL b mc ms ins mc1 ms1 as t k kx := by
  intro H locs ls pc rest cl sl h1 h2 h3 h4 h5 h6 h7 h8 h9
  have h0 := h H locs ls pc rest cl sl h1 h2 h3 h4 h5 h6 h7 h8 h9
  rw [List.map_append, List.map_reverse, he, ← List.map_reverse, ← List.map_append] at h0
  exact h0

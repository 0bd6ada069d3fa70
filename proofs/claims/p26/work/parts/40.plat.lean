/-! platform of the class -/
theorem vaD1 {A : Nat → Prop} {q : Nat} {e : va_E} (h : A q) : va_D A [(q, e)] := by
  have k0 : ∀ (k : Nat) (x : Nat × va_E), [(q, e)][k]? = some x → k = 0 ∧ x = (q, e) := by
    intro k x hx
    have : k < 1 := (List.getElem?_eq_some_iff.mp hx).1
    have e0 : k = 0 := by omega
    subst e0
    cases hx
    exact ⟨rfl, rfl⟩
  refine ⟨fun i j p r h1 h2 _ => ?_, fun k r h1 => ?_⟩
  · rw [(k0 _ _ h1).1, (k0 _ _ h2).1]
  · rw [(k0 _ _ h1).2]
    exact h
theorem vaP1 {D : va_G} {q : Nat} {e : va_E} {H : Heap} (h : va_at D vwCl (q, e) H) : va_P D vwCl [(q, e)] H := by
  intro k x hx
  have : k < 1 := (List.getElem?_eq_some_iff.mp hx).1
  have e0 : k = 0 := by omega
  subst e0
  cases hx
  exact h
section CTR
variable {p : Program} {l : Launch} {e : Env} {R : Room} {s : State} {m : MethodId} {args : Array Value} {below : List Frame} {meth : Method} {c : Code} {Q : State → Prop} {D : va_G} {X : Nat → ClassId} {A : Nat → Prop} {nL : Nat} {b : ByteArray} {H : Heap} {locs : List Loc} {ls : Array Slot} {pc : Nat}
/-- a constructor is called on a new object -/
theorem sw_ctor (hx : p.tables.exec = Jvm.exec) (hb : c.code = b) (hml : c.maxLocals = nL) (hts : ∀ w ∈ LT, w.before args s = true) {own : String} (hown : s.vm.findClass own = some m.cls) (hK : va_K D vwCl (TYX X) s) (hA : ∀ q, s.heap.size ≤ q → A q) (hS : va_S A s.heap H locs)
    {q ci : Nat} {fs : List Value} {y : MethodName} {by9 : ByteArray} {ny n : Nat} {rm : Room} {S : Type} {B : S → State → Prop} {As : List Value} {mc1 ms1 : Nat} (hat : va_at D vwCl (q, .inr (ci, fs)) H) (hq : A q)
    (hM : Met l y (Cond.code y by9 ny none :: LT) rm (va_Pc (.ref q :: As) (fun U => U.heap.size = H.size ∧ va_P D vwCl [(q, .inr (ci, fs))] U.heap ∧ va_K D vwCl (TYX X) U ∧ va_D (fun _ => True) [(q, .inr (ci, fs))])) (va_Qv (fun _ => True) B (va_A [(q, .inr (ci, fs))] H.size)) mc1 ms1 (va_A [(q, .inr (ci, fs))] H.size))
    {ix : Nat} (hws : Cond.methodLink own ix y ∈ LT ∧ Cond.instanceMethod y ∈ LT ∧ Cond.initialized y.cls ∈ LT ∧ Cond.code y by9 ny none ∈ LT) (hin : y.name = "<init>") (hd9 : y.cls ≠ "java/lang/invoke/MethodHandle" ∧ y.cls ≠ "java/lang/invoke/VarHandle" ∧ (parseMethodDescriptor y.desc).map (fun d => d.parameters.length) = some n) (hR : rm.frames + 1 ≤ R.frames ∧ 8 + (ny + 11) + rm.locals ≤ R.locals) (hrc : rm.cells = mc1) (hrs : rm.slots = ms1) (hn : As.length = n) (hls : ls.size = nL) {rest : List Value} (h8 : (rest.map fun v => v.category).sum ≤ 8) (hd : decode b pc = .ok (.invokespecial ix, 3)) {cl sl : Nat} (hc : cl + mc1 ≤ R.cells) (hs : sl + ms1 ≤ R.slots)
    (kk : ∀ (u : S) (t1 : State) (H1 : Heap) (locs1 : List Loc), t1.heap = H1 → B u t1 → H.size ≤ H1.size → (∀ x, x < H.size → x ≠ q → H1[x]? = H[x]?) → va_S A s.heap H1 locs1 → W p l e R s m args below meth c H1 locs1 (cl + mc1) (sl + ms1) Q (F0 m (pc + 3) ls rest)) : W p l e R s m args below meth c H locs cl sl Q (F0 m pc ls (As.reverse ++ .ref q :: rest)) := by
  have hgood : GoodIn LT (Cond.code y by9 ny none :: LT) := fun w hw => ⟨(List.mem_cons.mp hw).elim (fun z => by rw [z]; exact hws.2.2.2) id, good_of_word (LT_good ((List.mem_cons.mp hw).elim (fun z => by rw [z]; exact hws.2.2.2) id))⟩
  have hF : ∀ x, va_A [(q, .inr (ci, fs))] H.size x → A x := by
    intro x hx9
    rcases hx9 with ⟨k, e9, hk⟩ | hx9
    · have : k < 1 := (List.getElem?_eq_some_iff.mp hk).1
      have e0 : k = 0 := by omega
      subst e0
      cases hk
      exact hq
    · exact hA x (Nat.le_trans hS.1 hx9)
  refine va_callv (va_runI (As := As) (rest := rest) ⟨hx, hb, hml, hown, hts⟩ hM (cwI n hts hgood rfl hrc hrs (hts _ hws.2.2.1) (hts _ hws.1) (hts _ hws.2.1) hin hd9 hR) ⟨fun a U g mk z => by obtain ⟨q0, q1, qP, qK, qD⟩ := z; exact ⟨q0, q1, qP, va_K.moved (u := U) (U := U.calling g mk a) (Vm.Alike.refl U.vm) qK, qD⟩, fun U hU hW => ⟨rfl, by rw [hU], by rw [hU]; exact vaP1 hat, va_K.moved hW.alike hK, vaD1 trivial⟩⟩ rfl hn hls rfl (lv_room h8) hd ⟨hc, hs⟩) hS (fun x _ h => hF x h) hF (fun u t1 H1 locs1 ht hvm _ hB hz hk hS1 => ?_)
  exact kk u t1 H1 locs1 ht hB hz (fun x h1 h2 => hk x h1 (by
    rintro (⟨k, e9, h9⟩ | h9)
    · have : k < 1 := (List.getElem?_eq_some_iff.mp h9).1
      have e0 : k = 0 := by omega
      subst e0
      cases h9
      exact h2 rfl
    · omega)) hS1
end CTR

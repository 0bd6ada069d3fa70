/-! the law's start: the new world; what the tables give (out of whole's 53) -/
def tN0 : TT := fun k i => if k = 2 then (if i = 0 then 15 else 0) else 0
def adS (cL : List Nat) (kp _ : Nat) : Nat := cL.getD kp 0
theorem tN0_z {k i : Nat} (h : k ≠ 2) : tN0 k i = 0 := if_neg h
theorem tN0_inv : Inv 0 0 0 0 0 0 tN0 := by
  have e0 : ∀ k i, k ≠ 2 → tN0 k i = nI 0 := fun k i h => (tN0_z h).trans nI_0.symm
  refine ⟨⟨e0 _ _ (by decide), by omega, e0 _ _ (by decide), by omega, e0 _ _ (by decide), by omega, e0 _ _ (by decide), by omega⟩, ⟨e0 _ _ (by decide), by omega⟩, ⟨15, by omega, by omega, by decide +kernel⟩, fun i h => absurd h (by omega), fun i h => absurd h (by omega), fun i h => absurd h (by omega), fun i h => absurd h (by omega), fun k i _ h1 h2 => tN0_z (by omega), fun j _ => ⟨tN0_z (by omega), tN0_z (by omega)⟩, fun k i _ h1 h2 => tN0_z (by omega), fun i _ => ⟨tN0_z (by omega), tN0_z (by omega)⟩, fun i _ => ⟨tN0_z (by omega), tN0_z (by omega), tN0_z (by omega)⟩⟩
theorem MS0_F {kp : Nat} (h : 5 ≤ kp) : ∀ j, MS 0 0 0 0 kp j = false := fun j => by
  cases hm : MS 0 0 0 0 kp j with
  | false => rfl
  | true => have := MS_cases hm; omega
theorem refs0 {ad : Nat → Nat → Nat} {kp : Nat} (h : 5 ≤ kp) : refsOf ad (MS 0 0 0 0) kp = fun _ => none := by
  funext j
  unfold refsOf
  rw [MS0_F h j]
  rfl
set_option maxHeartbeats 4000000 in
set_option maxRecDepth 100000 in
theorem start_C {D : va_G} {X : Nat → ClassId} {A B : Nat → Prop} {H : Heap} {x0 a0 a1 a2 a3 : Nat} (hP : va_P D vwCl [(x0, .inr (4, [.ref a0, .ref a1, .ref a2, .ref a3, .int 0, .int 0, .int 0, .int 0, .int 15, .int 0])), (a0, .inl (X 1, 6, .inr (.inr (.inr (.inr (fun _ => none)))))), (a1, .inl (X 2, 12, .inr (.inr (.inr (.inr (fun _ => none)))))), (a2, .inl (X 3, 4, .inr (.inr (.inr (.inr (fun _ => none)))))), (a3, .inl (X 4, 5, .inr (.inr (.inr (.inr (fun _ => none))))))] H) (hD : va_D A [(x0, .inr (4, [.ref a0, .ref a1, .ref a2, .ref a3, .int 0, .int 0, .int 0, .int 0, .int 15, .int 0])), (a0, .inl (X 1, 6, .inr (.inr (.inr (.inr (fun _ => none)))))), (a1, .inl (X 2, 12, .inr (.inr (.inr (.inr (fun _ => none)))))), (a2, .inl (X 3, 4, .inr (.inr (.inr (.inr (fun _ => none)))))), (a3, .inl (X 4, 5, .inr (.inr (.inr (.inr (fun _ => none))))))]) (hB : ∀ q, A q → B q) : SW D X (adS [x0, a0, a1, a2, a3]) B (MS 0 0 0 0) (over tN0) H := by
  have key : ∀ kp i, MS 0 0 0 0 kp i = true → i = 0 ∧ ∃ z, ([(x0, .inr (4, [.ref a0, .ref a1, .ref a2, .ref a3, .int 0, .int 0, .int 0, .int 0, .int 15, .int 0])), (a0, .inl (X 1, 6, .inr (.inr (.inr (.inr (fun _ => none)))))), (a1, .inl (X 2, 12, .inr (.inr (.inr (.inr (fun _ => none)))))), (a2, .inl (X 3, 4, .inr (.inr (.inr (.inr (fun _ => none)))))), (a3, .inl (X 4, 5, .inr (.inr (.inr (.inr (fun _ => none))))))] : va_W)[kp]? = some z ∧ z.1 = adS [x0, a0, a1, a2, a3] kp i ∧ va_at D vwCl (adS [x0, a0, a1, a2, a3] kp i, cellE X (adS [x0, a0, a1, a2, a3]) (MS 0 0 0 0) (over tN0) kp i) H := by
    intro kp i hi
    have hc := MS_cases hi
    have h0 : i = 0 := by omega
    subst h0
    refine ⟨rfl, ?_⟩
    rcases (show kp = 0 ∨ kp = 1 ∨ kp = 2 ∨ kp = 3 ∨ kp = 4 by omega) with rfl | rfl | rfl | rfl | rfl
    · exact ⟨_, rfl, rfl, hP 0 _ rfl⟩
    · refine ⟨_, rfl, rfl, ?_⟩
      show va_at D vwCl (a0, .inl (X 1, 6, .inr (.inr (.inr (.inr (refsOf _ (MS 0 0 0 0) 5)))))) H
      rw [refs0 (by omega)]
      exact hP 1 _ rfl
    · refine ⟨_, rfl, rfl, ?_⟩
      show va_at D vwCl (a1, .inl (X 2, 12, .inr (.inr (.inr (.inr (refsOf _ (MS 0 0 0 0) 6)))))) H
      rw [refs0 (by omega)]
      exact hP 2 _ rfl
    · refine ⟨_, rfl, rfl, ?_⟩
      show va_at D vwCl (a2, .inl (X 3, 4, .inr (.inr (.inr (.inr (refsOf _ (MS 0 0 0 0) 7)))))) H
      rw [refs0 (by omega)]
      exact hP 3 _ rfl
    · refine ⟨_, rfl, rfl, ?_⟩
      show va_at D vwCl (a3, .inl (X 4, 5, .inr (.inr (.inr (.inr (refsOf _ (MS 0 0 0 0) 8)))))) H
      rw [refs0 (by omega)]
      exact hP 4 _ rfl
  refine ⟨fun kp i hi => (key kp i hi).2.choose_spec.2.2, fun kp i kq j h1 h2 h3 => ?_, fun kp i hi => ?_, MS_ok⟩
  · obtain ⟨rfl, z, g1, g2, -⟩ := key kp i h1
    obtain ⟨rfl, z', g1', g2', -⟩ := key kq j h2
    exact ⟨hD.1 _ _ z z' g1 g1' (by rw [g2, g2', h3]), rfl⟩
  · obtain ⟨rfl, z, g1, g2, -⟩ := key kp i hi
    rw [← g2]
    exact hB _ (hD.2 kp z g1)
theorem arr_P {s : State} {args : Array Value} {ty : FieldType} (h : (Cond.arrayClass ty).before args s = true) (hn : (match ty with | .object _ => false | _ => true) = true) : ∃ x : ClassId, ArrOfT s x ty ∧ va_RA s x ty := by
  obtain ⟨x, k, comp, h1, h2, h3⟩ := Cond.arrayClass_spec h
  refine ⟨x, fun n z => ⟨fun k h => (by cases h), k, h2, comp, h3⟩, ?_⟩
  cases ty with
  | object C => cases hn
  | _ => exact h1
theorem arr_O {s : State} {args : Array Value} {C : String} (h : (Cond.arrayOver (.object C)).before args s = true) : ∃ x : ClassId, ArrOfT s x (.object C) ∧ va_RA s x (.object C) := by
  obtain ⟨comp, x, k, h1, h2, h3, h4, h5⟩ := Cond.arrayOver_spec h
  exact ⟨x, fun n z => ⟨fun k h => (by cases h), k, h3, comp, h4⟩, k, comp, h3, h4, h1, h5⟩
theorem start_K {s : State} {args : Array Value} (hts : ∀ w ∈ lw_tbl, w.before args s = true) : ∃ (D : va_G) (X : Nat → ClassId), va_K D vwCl (TYX X) s := by
  have hLT : ∀ w ∈ LT, w.before args s = true := fun w hw => hts w (List.mem_filter.mp hw).1
  obtain ⟨c0, i0, k0⟩ := u_known (C := RX0) (T := TX0) (N := 2) (n := 2) hLT (obj_lays_lw (kp := 6) (by unfold isObj; omega)) (hts (.instantiable RX0 2) (by decide +kernel))
  obtain ⟨c1, i1, k1⟩ := u_known (C := RX1) (T := TX1) (N := 8) (n := 8) hLT (obj_lays_lw (kp := 5) (by unfold isObj; omega)) (hts (.instantiable RX1 8) (by decide +kernel))
  obtain ⟨c2, i2, k2⟩ := u_known (C := RX2) (T := TX2) (N := 18) (n := 18) hLT (obj_lays_lw (kp := 8) (by unfold isObj; omega)) (hts (.instantiable RX2 18) (by decide +kernel))
  obtain ⟨c3, i3, k3⟩ := u_known (C := RX3) (T := TX3) (N := 3) (n := 3) hLT (obj_lays_lw (kp := 7) (by unfold isObj; omega)) (hts (.instantiable RX3 3) (by decide +kernel))
  obtain ⟨c4, i4, k4⟩ := u_known (C := RX4) (T := TX4) (N := 10) (n := 10) hLT (obj_lays_lw (kp := 0) (by unfold isObj; omega)) (hts (.instantiable RX4 10) (by decide +kernel))
  obtain ⟨x1, g1⟩ := arr_O (hts (.arrayOver (.object "HeadwayDeep$Platform")) (by decide +kernel))
  obtain ⟨x2, g2⟩ := arr_O (hts (.arrayOver (.object "HeadwayDeep$Beacon")) (by decide +kernel))
  obtain ⟨x3, g3⟩ := arr_O (hts (.arrayOver (.object "HeadwayDeep$Zone")) (by decide +kernel))
  obtain ⟨x4, g4⟩ := arr_O (hts (.arrayOver (.object "HeadwayDeep$Train")) (by decide +kernel))
  obtain ⟨x9, g9⟩ := arr_P (hts (.arrayClass .byte) (by decide +kernel)) rfl
  obtain ⟨x21, g21⟩ := arr_P (hts (.arrayClass .int) (by decide +kernel)) rfl
  refine ⟨(fun k => if k = 0 then c0 else if k = 1 then c1 else if k = 2 then c2 else if k = 3 then c3 else c4, fun k => if k = 0 then i0 else if k = 1 then i1 else if k = 2 then i2 else if k = 3 then i3 else i4), fun k => if k = 1 then x1 else if k = 2 then x2 else if k = 3 then x3 else if k = 4 then x4 else if k = 9 then x9 else x21, fun k q hq => ?_, fun k q hq => ?_⟩
  · match k, hq with
    | 0, hq => cases hq; exact k0
    | 1, hq => cases hq; exact k1
    | 2, hq => cases hq; exact k2
    | 3, hq => cases hq; exact k3
    | 4, hq => cases hq; exact k4
    | k + 5, hq => exact absurd (List.getElem?_eq_some_iff.mp hq).1 (by show ¬ (k + 5 < 5); omega)
  · match k, hq with
    | 0, hq => cases hq; exact g1
    | 1, hq => cases hq; exact g2
    | 2, hq => cases hq; exact g3
    | 3, hq => cases hq; exact g4
    | 4, hq => cases hq; exact g9
    | 5, hq => cases hq; exact g21
    | k + 6, hq => exact absurd (List.getElem?_eq_some_iff.mp hq).1 (by show ¬ (k + 6 < 6); omega)
section CTG
variable {p : Program} {l : Launch} {e : Env} {R : Room} {s : State} {m : MethodId} {args : Array Value} {below : List Frame} {meth : Method} {c : Code} {Q : State → Prop} {D : va_G} {X : Nat → ClassId} {A : Nat → Prop} {nL : Nat} {b : ByteArray} {H : Heap} {locs : List Loc} {ls : Array Slot} {pc : Nat}
/-- a constructor that wants more of the start than its own cells -/
theorem sw_ctorG {G : State → Prop} (hx : p.tables.exec = Jvm.exec) (hb : c.code = b) (hml : c.maxLocals = nL) (hts : ∀ w ∈ LT, w.before args s = true) {own : String} (hown : s.vm.findClass own = some m.cls) (hK : va_K D vwCl (TYX X) s) (hA : ∀ q, s.heap.size ≤ q → A q) (hS : va_S A s.heap H locs)
    {q ci : Nat} {fs : List Value} {y : MethodName} {by9 : ByteArray} {ny n : Nat} {rm : Room} {S : Type} {B : S → State → Prop} {As : List Value} {mc1 ms1 : Nat} (hat : va_at D vwCl (q, .inr (ci, fs)) H) (hq : A q)
    (hM : Met l y (Cond.code y by9 ny none :: LT) rm (va_Pc (.ref q :: As) (fun U => U.heap.size = H.size ∧ va_P D vwCl [(q, .inr (ci, fs))] U.heap ∧ va_K D vwCl (TYX X) U ∧ va_D (fun _ => True) [(q, .inr (ci, fs))] ∧ G U)) (va_Qv (fun _ => True) B (va_A [(q, .inr (ci, fs))] H.size)) mc1 ms1 (va_A [(q, .inr (ci, fs))] H.size))
    (hGb : ∀ (a : Array Value) (U : State) (g : JFrame) (mk : MethodId), G U → G (U.calling g mk a)) (hG : ∀ U : State, s.WarmedH U.vm → G U)
    {ix : Nat} (hws : Cond.methodLink own ix y ∈ LT ∧ Cond.instanceMethod y ∈ LT ∧ Cond.initialized y.cls ∈ LT ∧ Cond.code y by9 ny none ∈ LT) (hin : y.name = "<init>") (hd9 : y.cls ≠ "java/lang/invoke/MethodHandle" ∧ y.cls ≠ "java/lang/invoke/VarHandle" ∧ (parseMethodDescriptor y.desc).map (fun d => d.parameters.length) = some n) (hR : rm.frames + 1 ≤ R.frames ∧ 8 + (ny + 11) + rm.locals ≤ R.locals) (hrc : rm.cells = mc1) (hrs : rm.slots = ms1) (hn : As.length = n) (hls : ls.size = nL) {rest : List Value} (h8 : (rest.map fun v => v.category).sum ≤ 8) (hd : decode b pc = .ok (.invokespecial ix, 3)) {cl sl : Nat} (hc : cl + mc1 ≤ R.cells) (hs : sl + ms1 ≤ R.slots)
    (kk : ∀ (u : S) (t1 : State) (H1 : Heap) (locs1 : List Loc), t1.heap = H1 → B u t1 → H.size ≤ H1.size → (∀ x, x < H.size → x ≠ q → H1[x]? = H[x]?) → va_S A s.heap H1 locs1 → W p l e R s m args below meth c H1 locs1 (cl + mc1) (sl + ms1) Q (F0 m (pc + 3) ls rest)) : W p l e R s m args below meth c H locs cl sl Q (F0 m pc ls (As.reverse ++ .ref q :: rest)) := by
  have hgood : GoodIn LT (Cond.code y by9 ny none :: LT) := fun w hw => ⟨(List.mem_cons.mp hw).elim (fun z => by rw [z]; exact hws.2.2.2) id, good_of_word (LT_good ((List.mem_cons.mp hw).elim (fun z => by rw [z]; exact hws.2.2.2) id))⟩
  have hF : ∀ x, va_A [(q, .inr (ci, fs))] H.size x → A x := by
    intro x hx9
    rcases hx9 with ⟨k, e9, hk⟩ | hx9
    · have : k < 1 := (List.getElem?_eq_some_iff.mp hk).1
      have e0 : k = 0 := by omega
      subst e0
      cases hk
      exact hq
    · exact hA x (Nat.le_trans hS.1 hx9)
  refine va_callv (va_runI (As := As) (rest := rest) ⟨hx, hb, hml, hown, hts⟩ hM (cwI n hts hgood rfl hrc hrs (hts _ hws.2.2.1) (hts _ hws.1) (hts _ hws.2.1) hin hd9 hR) ⟨fun a U g mk z => by obtain ⟨q0, q1, qP, qK, qD, qG⟩ := z; exact ⟨q0, q1, qP, va_K.moved (u := U) (U := U.calling g mk a) (Vm.Alike.refl U.vm) qK, qD, hGb a U g mk qG⟩, fun U hU hW => ⟨rfl, by rw [hU], by rw [hU]; exact vaP1 hat, va_K.moved hW.alike hK, vaD1 trivial, hG U hW⟩⟩ rfl hn hls rfl (lv_room h8) hd ⟨hc, hs⟩) hS (fun x _ h => hF x h) hF (fun u t1 H1 locs1 ht hvm _ hB hz hk hS1 => ?_)
  exact kk u t1 H1 locs1 ht hB hz (fun x h1 h2 => hk x h1 (by
    rintro (⟨k, e9, h9⟩ | h9)
    · have : k < 1 := (List.getElem?_eq_some_iff.mp h9).1
      have e0 : k = 0 := by omega
      subst e0
      cases h9
      exact h2 rfl
    · omega)) hS1
end CTG

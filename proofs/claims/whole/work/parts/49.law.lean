/-! the law's state; a wrapper's call, the reference's calls out of it -/
example : Cond.codeWith yL_stop cL_stop 4 (some .int) [(0, 6, 9, 24), (0, 6, 12, 15)] ∈ LT := LT_in (by decide +kernel) (by decide +kernel)
theorem cellE_lo {X : Nat → ClassId} {ad ad' : Nat → Nat → Nat} {M : Nat → Nat → Bool} {t : TT} {kp i : Nat} (h : ∀ kp i, kp < 11 → ad' kp i = ad kp i) (hk : kp < 11) : cellE X ad' M t kp i = cellE X ad M t kp i := by
  have hr : ∀ K, K < 11 → refsOf ad' M K = refsOf ad M K := by
    intro K hK
    funext j
    unfold refsOf
    rw [h K j hK]
  have hq : ∀ x, toQ ad' 5 x = toQ ad 5 x := by
    intro x
    unfold toQ
    rw [h 5 _ (by omega)]
  match kp, hk with
  | 0, _ =>
    show Sum.inr (4, (FL 0).map fun e => toV ad' (fvv t i e)) = Sum.inr (4, (FL 0).map fun e => toV ad (fvv t i e))
    simp only [FL, List.map, fvv, toV, h 1 0 (by omega), h 2 0 (by omega), h 3 0 (by omega), h 4 0 (by omega)]
  | 1, _ => show Sum.inl (X 1, 6, Sum.inr (Sum.inr (Sum.inr (Sum.inr (refsOf ad' M 5))))) = _; rw [hr 5 (by omega)]; rfl
  | 2, _ => show Sum.inl (X 2, 12, Sum.inr (Sum.inr (Sum.inr (Sum.inr (refsOf ad' M 6))))) = _; rw [hr 6 (by omega)]; rfl
  | 3, _ => show Sum.inl (X 3, 4, Sum.inr (Sum.inr (Sum.inr (Sum.inr (refsOf ad' M 7))))) = _; rw [hr 7 (by omega)]; rfl
  | 4, _ => show Sum.inl (X 4, 5, Sum.inr (Sum.inr (Sum.inr (Sum.inr (refsOf ad' M 8))))) = _; rw [hr 8 (by omega)]; rfl
  | 5, _ => rfl
  | 6, _ => rfl
  | 7, _ => rfl
  | 8, _ =>
    show Sum.inr (2, (FL 8).map fun e => toV ad' (fvv t i e)) = Sum.inr (2, (FL 8).map fun e => toV ad (fvv t i e))
    simp only [FL, List.map, fvv, toV, h 9 i (by omega), h 10 i (by omega), hq]
  | 9, _ => rfl
  | 10, _ => rfl
theorem SW.lo {D : va_G} {X : Nat → ClassId} {ad ad' : Nat → Nat → Nat} {A : Nat → Prop} {np nb nz nt : Nat} {t : TT} {H : Heap} (h : ∀ kp i, kp < 11 → ad' kp i = ad kp i) (hW : SW D X ad A (MS np nb nz nt) t H) : SW D X ad' A (MS np nb nz nt) t H := by
  have hk : ∀ kp i, MS np nb nz nt kp i = true → kp < 11 := fun kp i h => by have := MS_cases h; omega
  refine ⟨fun kp i hi => ?_, fun kp i kq j h1 h2 h3 => ?_, fun kp i hi => ?_, MS_ok⟩
  · rw [h kp i (hk kp i hi), cellE_lo h (hk kp i hi)]
    exact hW.1 kp i hi
  · rw [h kp i (hk kp i h1), h kq j (hk kq j h2)] at h3
    exact hW.2.1 _ _ _ _ h1 h2 h3
  · rw [h kp i (hk kp i hi)]
    exact hW.2.2.1 kp i hi
theorem MM_cases {kp i : Nat} (h : MM kp i = true) : (kp = 20 ∧ i = 0) ∨ (kp = 21 ∧ isArr i = true) := by
  unfold MM at h
  simp only [Bool.or_eq_true, Bool.and_eq_true, beq_iff_eq] at h
  exact h
theorem SW.hi {D : va_G} {X : Nat → ClassId} {ad ad' : Nat → Nat → Nat} {A : Nat → Prop} {t : TT} {H : Heap} (h : ∀ kp i, 11 ≤ kp → ad' kp i = ad kp i) (hW : SW D X ad A MM t H) : SW D X ad' A MM t H := by
  have hk : ∀ kp i, MM kp i = true → 11 ≤ kp := fun kp i h => by have := MM_cases h; omega
  refine ⟨fun kp i hi => ?_, fun kp i kq j h1 h2 h3 => ?_, fun kp i hi => ?_, MM_ok⟩
  · rw [h kp i (hk kp i hi)]
    have e : cellE X ad' MM t kp i = cellE X ad MM t kp i := by
      rcases MM_cases hi with ⟨rfl, rfl⟩ | ⟨rfl, hi9⟩
      · show Sum.inr (5, (FL 20).map fun e => toV ad' (fvv t 0 e)) = Sum.inr (5, (FL 20).map fun e => toV ad (fvv t 0 e))
        simp only [FL, List.map, fvv, toV, h 21 _ (by omega)]
      · rfl
    rw [e]
    exact hW.1 kp i hi
  · rw [h kp i (hk kp i h1), h kq j (hk kq j h2)] at h3
    exact hW.2.1 _ _ _ _ h1 h2 h3
  · rw [h kp i (hk kp i hi)]
    exact hW.2.2.1 kp i hi
def LSt (D : va_G) (X : Nat → ClassId) (ad : Nat → Nat → Nat) (A : Nat → Prop) (np nb nz nt : Nat) (t u : TT) (o : Nat) (f : Nat → Int64) (x0 m0 : Nat) (H : Heap) : Prop :=
  SW D X ad A (MS np nb nz nt) (over t) H ∧ SW D X ad A MM u H ∧ (∀ kp i kq j, MS np nb nz nt kp i = true → MM kq j = true → ad kp i ≠ ad kq j) ∧ va_at D vwCl (oc30 X o f) H ∧ A o ∧ (∀ kp i, MS np nb nz nt kp i = true → ad kp i ≠ o) ∧ (∀ kp i, MM kp i = true → ad kp i ≠ o) ∧ ad 0 0 = x0 ∧ ad 20 0 = m0
section LAW
variable {p : Program} {l : Launch} {e : Env} {R : Room} {s : State} {m : MethodId} {args : Array Value} {below : List Frame} {meth : Method} {c : Code} {Q : State → Prop} {D : va_G} {X : Nat → ClassId} {ad : Nat → Nat → Nat} {A0 : Nat → Prop} {nL : Nat} {b : ByteArray} {as : List VV} {mc1 ms1 : Nat} {H : Heap} {locs : List Loc} {ls : Array Slot} {pc : Nat} {np nb nz nt np' nb' nz' nt' : Nat} {t u s' : TT} {o x0 m0 : Nat} {f : Nat → Int64}
/-- a wrapper is called -/
theorem law_wrap (hx : p.tables.exec = Jvm.exec) (hb : c.code = b) (hml : c.maxLocals = nL) {own : String} (hts : ∀ w ∈ LT, w.before args s = true) (hown : s.vm.findClass own = some m.cls) (hK : va_K D vwCl (TYX X) s) (hA : ∀ q, s.heap.size ≤ q → A0 q) (hE : EX A0 s) (hY : YS s)
    {y : MethodName} {by9 : ByteArray} {ny : Nat} {hh : List (Nat × Nat × Nat × Nat)} {rm : Room} {outs : List Value} {code : Nat} {r : Int32} {ho : Bool} (hM : CW l y (Cond.codeWith y by9 ny (some .int) hh :: LT) rm D X ad (MS np nb nz nt) (MS np' nb' nz' nt') as outs o (over t) mc1 ms1 code r s' ho)
    {ix n : Nat} (hws : Cond.methodLink own ix y ∈ LT ∧ Cond.static y ∈ LT ∧ Cond.initialized y.cls ∈ LT ∧ Cond.codeWith y by9 ny (some .int) hh ∈ LT) (hd : y.cls ≠ "java/lang/invoke/MethodHandle" ∧ y.cls ≠ "java/lang/invoke/VarHandle" ∧ (parseMethodDescriptor y.desc).map (fun d => d.parameters.length) = some n) (hR : rm.frames + 1 ≤ R.frames ∧ 8 + (ny + 11) + rm.locals ≤ R.locals) (hrc : rm.cells = mc1) (hrs : rm.slots = ms1) (hn : (as.map (toV ad) ++ outs).length = n)
    (hL : LSt D X ad A0 np nb nz nt t u o f x0 m0 H) (hS : va_S A0 s.heap H locs) (hls : ls.size = nL) {cl sl : Nat} (hc : cl + mc1 ≤ R.cells) (hs : sl + ms1 ≤ R.slots) (hdec : decode b pc = .ok (.invokestatic ix, 3))
    (kk : ∀ (ad' : Nat → Nat → Nat) (f' : Nat → Int64) (H1 : Heap) (locs1 : List Loc), LSt D X ad' A0 np' nb' nz' nt' s' u o f' x0 m0 H1 → (code = 0 → ho = true → f' 0 = r.toInt64) → va_S A0 s.heap H1 locs1 → W p l e R s m args below meth c H1 locs1 (cl + mc1) (sl + ms1) Q (F0 m (pc + 3) ls [.int (nI code)])) : W p l e R s m args below meth c H locs cl sl Q (F0 m pc ls (as.map (toV ad) ++ outs).reverse) := by
  obtain ⟨hW, hWm, hap, hat, hAo, hne, hnm, hx0, hm0⟩ := hL
  let A1 : Nat → Prop := fun q => AC ad (MS np nb nz nt) H.size q ∨ q = o
  have hA1 : ∀ q, A1 q → A0 q := by
    rintro q ((⟨kp, i, h1, rfl⟩ | h) | rfl)
    · exact hW.2.2.1 kp i h1
    · exact hA q (Nat.le_trans hS.1 h)
    · exact hAo
  have hW1 : SW D X ad A1 (MS np nb nz nt) (over t) H := hW.own fun kp i h => Or.inl (Or.inl ⟨kp, i, h, rfl⟩)
  have hgood : GoodIn LT (va_wsS own ix y (Cond.codeWith y by9 ny (some .int) hh :: LT)) := by
    intro w hw
    have hwL : w ∈ LT := by
      unfold va_wsS at hw
      rcases List.mem_append.mp hw with z | z
      · simp only [List.mem_cons, List.not_mem_nil, or_false] at z
        rcases z with rfl | rfl | rfl
        · exact hws.1
        · exact hws.2.1
        · exact hws.2.2.1
      · exact (List.mem_cons.mp z).elim (fun z => by rw [z]; exact hws.2.2.2) id
    exact ⟨hwL, good_of_word (LT_good hwL)⟩
  have hpre : ∀ U : State, U.heap = H → s.WarmedH U.vm → va_Pc (as.map (toV ad) ++ outs) (fun U => U.heap.size = H.size ∧ SW D X ad A1 (MS np nb nz nt) (over t) U.heap ∧ va_at D vwCl (oc30 X o f) U.heap ∧ va_K D vwCl (TYX X) U ∧ EX A1 U ∧ YS U) (as.map (toV ad) ++ outs).toArray U := fun U hU hw => ⟨rfl, by rw [hU], by rw [hU]; exact hW1, by rw [hU]; exact hat, va_K.moved hw.alike hK, (hE.to hw (by rw [hU]; exact hS.2.1)).narrow hA1, hY.to hw⟩
  have hrun := vx_runSX (e := e) (below := below) (meth := meth) (H := H) (locs := locs) (cells := cl) (slots := sl) (Ts := LT) (As := as.map (toV ad) ++ outs) (rest := []) (g := F0 m pc ls (as.map (toV ad) ++ outs).reverse) ⟨hx, hb, hml, hown, hts⟩ (hM A1 H.size f (fun q h => Or.inl (Or.inr h)) (Or.inr rfl) hne) (vx_cwSW (R := R) n hts hgood rfl hrc hrs hd hR)
    ⟨fun a U g mk h => ⟨h.1, h.2.1, h.2.2.1, h.2.2.2.1, va_K.moved (u := U) (U := U.calling g mk a) (Vm.Alike.refl U.vm) h.2.2.2.2.1, h.2.2.2.2.2.1.calling, h.2.2.2.2.2.2.to (U := U.calling g mk a) (State.WarmedH.refl U)⟩, hpre⟩ rfl hn hls (by rw [List.append_nil]) (by exact Nat.le_of_ble_eq_true rfl) hdec ⟨hc, hs⟩
  intro T hT Y
  rcases hrun T hT Y with ⟨v, st₀, U, T', L, h0, Y', hL9, e1, e2, ⟨⟨hv, ad', f', hext, hw, hat', hf⟩, hF⟩, st⟩ | ⟨q, st₀, U, T', L, E, ce, h0, Y', hL9, e1, e2, hfalse, -⟩
  · cases hv
    obtain ⟨k1, k2, k3⟩ := vx_keep h0 e1 hS (fun q _ h => hA1 q h) hA1 hL9 hF
    have hl : ∀ kp i, kp < 11 → (fun kp i => if kp < 11 then ad' kp i else ad kp i) kp i = ad' kp i := fun kp i h => if_pos h
    have hh9 : ∀ kp i, 11 ≤ kp → (fun kp i => if kp < 11 then ad' kp i else ad kp i) kp i = ad kp i := fun kp i h => if_neg (by omega)
    have hkm : ∀ kp i, MM kp i = true → ¬ A1 (ad kp i) := by
      rintro kp i h ((⟨kq, j, h1, h2⟩ | h1) | h1)
      · exact hap kq j kp i h1 h h2.symm
      · exact absurd (hWm.lt h) (Nat.not_lt.mpr h1)
      · exact hnm kp i h h1
    have hcls : ∀ kp i, MS np' nb' nz' nt' kp i = true → kp < 11 := fun kp i h => by have := MS_cases h; omega
    have hmm : ∀ kp i, MM kp i = true → 11 ≤ kp := fun kp i h => by have := MM_cases h; omega
    have hold : ∀ kp i, MS np' nb' nz' nt' kp i = true → (MS np nb nz nt kp i = true ∧ ad' kp i = ad kp i) ∨ H.size ≤ ad' kp i := fun kp i h => by
      cases hm : MS np nb nz nt kp i with
      | true => exact Or.inl ⟨rfl, (hext.1 kp i hm).2⟩
      | false => exact Or.inr (hext.2 kp i h hm)
    obtain ⟨t2, a1, b1⟩ := kk (fun kp i => if kp < 11 then ad' kp i else ad kp i) f' T'.heap (locs ++ L) ⟨SW.lo hl (by rw [e1]; exact hw.own fun kp i h => hA1 _ (hw.2.2.1 kp i h)), SW.hi hh9 (hWm.kept fun kp i h => k2 _ (hWm.lt h) (hkm kp i h)), fun kp i kq j h1 h2 => by
        rw [hl kp i (hcls kp i h1), hh9 kq j (hmm kq j h2)]
        rcases hold kp i h1 with ⟨g1, g2⟩ | g
        · rw [g2]; exact hap kp i kq j g1 h2
        · have := hWm.lt h2
          omega, by rw [e1]; exact hat', hAo, fun kp i h1 => by
        rw [hl kp i (hcls kp i h1)]
        rcases hold kp i h1 with ⟨g1, g2⟩ | g
        · rw [g2]; exact hne kp i g1
        · have : o < H.size := hat.lt
          omega, fun kp i h1 => by
        rw [hh9 kp i (hmm kp i h1)]
        exact hnm kp i h1, by
        rw [hl 0 0 (by omega), (hext.1 0 0 MS_0).2]
        exact hx0, by
        rw [hh9 20 0 (by omega)]
        exact hm0⟩ hf k3 T' rfl Y'
    exact ⟨t2, st t2 a1, b1⟩
  · exact hfalse.elim
end LAW

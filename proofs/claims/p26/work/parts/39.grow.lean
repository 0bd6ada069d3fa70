/-! methods that make an object: the world grows -/
def Ext (ad : Nat → Nat → Nat) (M : Nat → Nat → Bool) (ad' : Nat → Nat → Nat) (M' : Nat → Nat → Bool) (sz : Nat) : Prop := (∀ kp i, M kp i = true → M' kp i = true ∧ ad' kp i = ad kp i) ∧ ∀ kp i, M' kp i = true → M kp i = false → sz ≤ ad' kp i
def QE (D : va_G) (X : Nat → ClassId) (ad : Nat → Nat → Nat) (A : Nat → Prop) (M : Nat → Nat → Bool) (sz : Nat) (post : Option VV → (Nat → Nat → Bool) → TT → Prop) : Array Value → State → Outcome → State → Prop := fun _ st oc u => (∃ (v : Option VV) (t : TT) (ad' : Nat → Nat → Nat) (M' : Nat → Nat → Bool), oc = .returned (v.map (toV ad)) ∧ post v M' t ∧ Ext ad M ad' M' sz ∧ SW D X ad' A M' t u.heap) ∧ va_F A st u
def CE (l : Launch) (y : MethodName) (ws : List Cond) (rm : Room) (D : va_G) (X : Nat → ClassId) (ad : Nat → Nat → Nat) (M : Nat → Nat → Bool) (as : List VV) (t : TT) (mc ms : Nat) (post : Option VV → (Nat → Nat → Bool) → TT → Prop) (px : String → TT → Prop) : Prop :=
  ∀ (A : Nat → Prop) (sz : Nat), (∀ q, sz ≤ q → A q) → vx_Met l y ws rm (va_Pc (as.map (toV ad)) (fun U => U.heap.size = sz ∧ SW D X ad A M t U.heap ∧ va_K D vwCl (TYX X) U ∧ EX A U)) (QE D X ad A M sz post) (X9 D X ad A M px) mc ms A
abbrev GM (below : List Frame) (args : Array Value) (s : State) (D : va_G) (X : Nat → ClassId) (ad : Nat → Nat → Nat) (A : Nat → Prop) (M : Nat → Nat → Bool) (mc ms : Nat) (post : Option VV → (Nat → Nat → Bool) → TT → Prop) (px : String → TT → Prop) : State → Prop := vx_MQ below (QE D X ad A M s.heap.size post) (X9 D X ad A M px) args s mc ms A
theorem grow_of {l : Launch} {y : MethodName} {b : ByteArray} {nL : Nat} {ret : Option FieldType} {rm : Room} {D : va_G} {X : Nat → ClassId} {ad : Nat → Nat → Nat} {M : Nat → Nat → Bool} {as : List VV} {t : TT} {mc ms : Nat} {post : Option VV → (Nat → Nat → Bool) → TT → Prop} {px : String → TT → Prop} (hy : plainName y.cls = true) (hn : as.length ≤ nL)
    (h : ∀ (p : Program) (e : Env) (s : State) (m : MethodId) (args : Array Value) (below : List Frame) (meth : Method) (c : Code) (A : Nat → Prop), p.tables.exec = Jvm.exec → c.code = b → c.maxLocals = nL → (∀ w ∈ LT, w.before args s = true) → s.vm.findClass y.cls = some m.cls → va_K D vwCl (TYX X) s → (∀ x ∈ c.exceptionTable.toList, False) → meth.locks = false → meth.sig.returnType = ret → (∀ q, s.heap.size ≤ q → A q) → EX A s →
      Wat p l e rm s m args below meth c (GM below args s D X ad A M mc ms post px) D X ad A M nL 0 (entryLoc 0 as) [] t 0 0) : CE l y (Cond.code y b nL ret :: LT) rm D X ad M as t mc ms post px := by
  intro A sz hA
  refine vx_ofW hy rfl ?_
  intro p e s m args below meth c s₁ B hml hnt hv
  obtain ⟨rfl, hsz, hW, hK, hE⟩ := hv
  have hts := atoms_spec (ws := Cond.code y b nL ret :: LT) B.pre
  have hown : s.vm.findClass y.cls = some m.cls := findClass_of_methodNamed B.named
  subst hsz
  have hl := lv_entry (as.map (toV ad)) (n := nL) (by rw [lg_sl_len]; exact hn)
  rw [lg_entry_eq]
  rw [← entryLoc_args] at hl
  exact h p e s m _ below meth c A B.exec B.bytes hml (fun w hw => hts w (List.mem_cons_of_mem _ hw)) hown hK hnt B.notSynchronized B.returns hA hE s.heap [] _ hW va_S.rf hl
section GRW
variable {p : Program} {l : Launch} {e : Env} {R : Room} {s : State} {m : MethodId} {args : Array Value} {below : List Frame} {meth : Method} {c : Code} {Q : State → Prop} {D : va_G} {X : Nat → ClassId} {ad : Nat → Nat → Nat} {A : Nat → Prop} {M : Nat → Nat → Bool} {nL : Nat} {b : ByteArray} {mc ms : Nat} {t : TT} {H : Heap} {locs : List Loc} {ls : Array Slot} {pc : Nat}
theorem ge_call {post : Option VV → (Nat → Nat → Bool) → TT → Prop} {px : String → TT → Prop} {loc : Loc9} {st : List VV} {cl sl mc1 ms1 n : Nat} {ins : Instr} {k : Option VV → TT → Prop} (hnt : ∀ x ∈ c.exceptionTable.toList, False) (hlocks : meth.locks = false) (hd : decode b pc = .ok (ins, 3)) (h8 : st.length - n ≤ 8) (hc : cl + mc1 ≤ mc) (hs : sl + ms1 ≤ ms)
    (hcall : CallOK p l e R s m args below meth c (GM below args s D X ad A M mc ms post px) D X ad A M nL b mc ms ins mc1 ms1 (st.take n).reverse t k px)
    (hk : ∀ v t1, k v t1 → Wat p l e R s m args below meth c (GM below args s D X ad A M mc ms post px) D X ad A M nL (pc + 3) loc (v.toList ++ st.drop n) t1 (cl + mc1) (sl + ms1)) : Wat p l e R s m args below meth c (GM below args s D X ad A M mc ms post px) D X ad A M nL pc loc st t cl sl := by
  intro H locs ls hW hS hl
  have h := hcall H locs ls pc (st.drop n) cl sl hW hS hl.1 (by rw [List.length_drop]; exact h8) hc hs hd
    (fun v t1 H1 locs1 h1 hW1 hS1 => hk v t1 h1 H1 locs1 ls hW1 hS1 hl)
    (fun E ce q t1 H1 locs1 h1 hW1 hS1 g1 g2 g3 => vx_out (fun x hx => (hnt x hx).elim) hlocks g1 g2 g3 (fun u hu _ => ⟨⟨t1, h1, by rw [hu]; exact hW1⟩, hS1.F hu⟩) hS1.2.2 hc hs)
  rw [List.reverse_reverse, List.take_append_drop] at h
  exact h
/-- a new object, at the heap's end -/
theorem sw_new (hx : p.tables.exec = Jvm.exec) (hb : c.code = b) {own C : String} {T : u_T} {N ci ix : Nat} (hts : ∀ w ∈ LT, w.before args s = true) (hin : ∀ w ∈ u_ws C T N, w ∈ LT) (ty : Nat → FieldType) (hty : ∀ k, k < N → parseFieldDescriptor (T k).2.2.1 = some (ty k)) (hown : s.vm.findClass own = some m.cls) (hcl : Cond.classLink own ix C ∈ LT) (hinst : Cond.instantiable C N ∈ LT) (hini : Cond.initialized C ∈ LT)
    (hK : va_K D vwCl (TYX X) s) (hS : va_S A s.heap H locs) (hc : vwCl[ci]? = some (C, T, N)) {fs : List Value} (hfs : ∀ j, j < N → defaultValue (ty j) = vp_V fs j) {cl sl : Nat} (hcells : cl + 1 ≤ R.cells) (hslots : sl + N ≤ R.slots) (hd : decode b pc = .ok (.new ix, 3)) {rest : List Value}
    (kk : ∀ H1 : Heap, va_at D vwCl (H.size, .inr (ci, fs)) H1 → H1.size = H.size + 1 → (∀ q, q < H.size → H1[q]? = H[q]?) → va_S A s.heap H1 locs → W p l e R s m args below meth c H1 locs (cl + 1) (sl + N) Q (F0 m (pc + 3) ls (.ref H.size :: rest))) : W p l e R s m args below meth c H locs cl sl Q (F0 m pc ls rest) := by
  have hKn := hK.1 ci _ hc
  refine W.newcK hx hb hown (hts _ hcl) (hts _ hinst) (hts _ hini) rfl hd hcells hslots hKn.2.1 rfl fun H1 kC hkC e1 z1 o1 => ?_
  refine kk H1 ⟨_, hc, (u_born ty hts hin hKn hkC e1 hty).to hfs⟩ z1 o1 ⟨Nat.le_trans hS.1 (by omega), fun x h1 h2 => (o1 x (Nat.lt_of_lt_of_le h1 hS.1)).trans (hS.2.1 x h1 h2), hS.2.2⟩
/-- an object is put into an array of references -/
theorem sw_aast (hx : p.tables.exec = Jvm.exec) (hb : c.code = b) (hK : va_K D vwCl (TYX X) s) {a v n ci t0 : Nat} {vs : List Value} {f : Nat → Option Nat} {cA : ClassId} {r : vw_C} (ha : va_at D vwCl (a, .inl (cA, n, .inr (.inr (.inr (.inr f))))) H) (hv : va_at D vwCl (v, .inr (ci, vs)) H) (ht : (TYX X)[t0]? = some (cA, .object r.1)) (hc : vwCl[ci]? = some r) (hS : va_S A s.heap H locs) (hAa : A a) {i : Int32} (hin : vp_in i n) (hd : decode b pc = .ok (.aastore, 1)) {rest : List Value} {cl sl : Nat}
    (kk : ∀ (H1 : Heap) (locs1 : List Loc), va_at D vwCl (a, .inl (cA, n, .inr (.inr (.inr (.inr (va_up f i.toNatClampNeg (some v))))))) H1 → (∀ q, q ≠ a → H1[q]? = H[q]?) → va_S A s.heap H1 locs1 → W p l e R s m args below meth c H1 locs1 cl sl Q (F0 m (pc + 1) ls rest)) : W p l e R s m args below meth c H locs cl sl Q (F0 m pc ls (.ref v :: .int i :: .ref a :: rest)) := by
  have hlt : i.toNatClampNeg < n := Nat.not_le.mp fun q => hin (Or.inr q)
  have h0 : ¬ i < 0 := fun q => hin (Or.inl q)
  obtain ⟨r', hr', cellV, g1, g2, g3, -⟩ := hv
  have hcls := (hK.1 ci r hc).2
  obtain ⟨kA, comp, k1, k2, k3, -⟩ := (hK.2 t0 _ ht).2
  have hcomp : comp = D.1 ci := Option.some.inj (k3.symm.trans hcls.1)
  subst hcomp
  obtain ⟨kC, hkC, -⟩ := hcls.2
  refine W.aast hx hb ha (fun q h => by cases h) (fun h => by cases h) k1 k2 rfl hkC ⟨h0, by show _ < (arrV _ _ _).slots.size; rw [arrV_size]; exact hlt⟩ g1 (fun q h => by rw [g3] at h; cases h) (by rw [g2]; exact hkC) (by rw [g2]; exact va_assign hcls) rfl rfl hd fun H1 e z oq => ?_
  refine kk H1 _ ?_ oq (hS.put z oq hAa)
  show H1[a]? = some (vp_cell _ _)
  rw [e]
  rw [vp_cell_q, vp_cell_q, arrV_store]
  congr 2
  funext q
  by_cases hq : q = i.toNatClampNeg
  · subst hq
    simp [updV, va_up, va_rf]
  · simp [updV, va_up, hq]
end GRW
theorem MS_cases {np nb nz nt kp i : Nat} (h : MS np nb nz nt kp i = true) : (kp ≤ 4 ∧ i = 0) ∨ (kp = 5 ∧ i < np) ∨ (kp = 6 ∧ i < nb) ∨ (kp = 7 ∧ i < nz) ∨ (kp = 8 ∧ i < nt) ∨ (kp = 9 ∧ i < nt) ∨ (kp = 10 ∧ i < nt) := by
  unfold MS at h
  simp only [Bool.or_eq_true, Bool.and_eq_true, beq_iff_eq, Nat.ble_eq, Nat.blt_eq] at h
  omega
theorem MS_mk {np nb nz nt kp i : Nat} (h : (kp ≤ 4 ∧ i = 0) ∨ (kp = 5 ∧ i < np) ∨ (kp = 6 ∧ i < nb) ∨ (kp = 7 ∧ i < nz) ∨ (kp = 8 ∧ i < nt) ∨ (kp = 9 ∧ i < nt) ∨ (kp = 10 ∧ i < nt)) : MS np nb nz nt kp i = true := by
  unfold MS
  simp only [Bool.or_eq_true, Bool.and_eq_true, beq_iff_eq, Nat.ble_eq, Nat.blt_eq]
  omega
/-- a cell that is neither the array nor new says the same with the new addresses -/
theorem cell_ad {X : Nat → ClassId} {ad ad' : Nat → Nat → Nat} {np nb nz nt : Nat} {M' : Nat → Nat → Bool} {u : TT} {kp i : Nat} (hag : ∀ kp i, MS np nb nz nt kp i = true → ad' kp i = ad kp i) (h26 : kp = 8 → u 26 i = -1 ∨ ∃ q, q < np ∧ q ≤ 5000 ∧ u 26 i = nI q) (hM : ∀ j, 1 ≤ kp → kp ≤ 4 → M' (kp + 4) j = MS np nb nz nt (kp + 4) j) (hi : MS np nb nz nt kp i = true) : cellE X ad' M' u kp i = cellE X ad (MS np nb nz nt) u kp i := by
  have hr : ∀ K, M' K = MS np nb nz nt K → refsOf ad' M' K = refsOf ad (MS np nb nz nt) K := by
    intro K hK
    funext j
    unfold refsOf
    rw [hK]
    split
    · next z => rw [hag K j z]
    · rfl
  rcases MS_cases hi with ⟨h, rfl⟩ | ⟨rfl, h⟩ | ⟨rfl, h⟩ | ⟨rfl, h⟩ | ⟨rfl, h⟩ | ⟨rfl, h⟩ | ⟨rfl, h⟩
  · have : kp = 0 ∨ kp = 1 ∨ kp = 2 ∨ kp = 3 ∨ kp = 4 := by omega
    rcases this with rfl | rfl | rfl | rfl | rfl
    · show Sum.inr (4, (FL 0).map fun e => toV ad' (fvv u 0 e)) = Sum.inr (4, (FL 0).map fun e => toV ad (fvv u 0 e))
      simp only [FL, List.map, fvv, toV, hag 1 0 MS_1, hag 2 0 MS_2, hag 3 0 MS_3, hag 4 0 MS_4]
    · show Sum.inl (X 1, 6, Sum.inr (Sum.inr (Sum.inr (Sum.inr (refsOf ad' M' 5))))) = Sum.inl (X 1, 6, Sum.inr (Sum.inr (Sum.inr (Sum.inr (refsOf ad (MS np nb nz nt) 5)))))
      rw [hr 5 (funext fun j => hM j (by omega) (by omega))]
    · show Sum.inl (X 2, 12, Sum.inr (Sum.inr (Sum.inr (Sum.inr (refsOf ad' M' 6))))) = Sum.inl (X 2, 12, Sum.inr (Sum.inr (Sum.inr (Sum.inr (refsOf ad (MS np nb nz nt) 6)))))
      rw [hr 6 (funext fun j => hM j (by omega) (by omega))]
    · show Sum.inl (X 3, 4, Sum.inr (Sum.inr (Sum.inr (Sum.inr (refsOf ad' M' 7))))) = Sum.inl (X 3, 4, Sum.inr (Sum.inr (Sum.inr (Sum.inr (refsOf ad (MS np nb nz nt) 7)))))
      rw [hr 7 (funext fun j => hM j (by omega) (by omega))]
    · show Sum.inl (X 4, 5, Sum.inr (Sum.inr (Sum.inr (Sum.inr (refsOf ad' M' 8))))) = Sum.inl (X 4, 5, Sum.inr (Sum.inr (Sum.inr (Sum.inr (refsOf ad (MS np nb nz nt) 8)))))
      rw [hr 8 (funext fun j => hM j (by omega) (by omega))]
  · rfl
  · rfl
  · rfl
  · show Sum.inr (2, (FL 8).map fun e => toV ad' (fvv u i e)) = Sum.inr (2, (FL 8).map fun e => toV ad (fvv u i e))
    have hq : toQ ad' 5 (u 26 i) = toQ ad 5 (u 26 i) := by
      rcases h26 rfl with z | ⟨q, q1, q2, z⟩
      · rw [z, toQ_m1, toQ_m1]
      · unfold toQ
        rw [z, if_neg (nI_m1 (by omega)), if_neg (nI_m1 (by omega)), cl0 q2, hag 5 q (by rw [MS_5]; exact q1)]
    simp only [FL, List.map, fvv, toV, hag 9 i (by rw [MS_9]; exact h), hag 10 i (by rw [MS_10]; exact h), hq]
  · rfl
  · rfl

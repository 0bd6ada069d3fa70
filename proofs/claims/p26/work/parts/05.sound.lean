/-! THE WALKER IS RIGHT: each instruction's condition gives the kit's judgement W, from the judgements behind it -/
def locV (ad : Nat → Nat → Nat) (loc : Loc9) : List (Nat × Value) := loc.map (fun q => (q.1, toV ad q.2))
theorem toQ_cat (ad : Nat → Nat → Nat) (kp : Nat) (x : Int32) : (toQ ad kp x).category = 1 := by
  unfold toQ
  split <;> rfl
theorem toQ_m1 (ad : Nat → Nat → Nat) (kp : Nat) : toQ ad kp (-1) = .null := if_pos rfl
theorem toV_cat (ad : Nat → Nat → Nat) (v : VV) : (toV ad v).category = 1 := by
  match v with
  | .inl x => rfl
  | .inr (.inl r) => rfl
  | .inr (.inr r) => exact toQ_cat ad r.1 r.2
theorem lk_mem {ad : Nat → Nat → Nat} : ∀ {loc : Loc9} {k : Nat} {v : VV}, lk loc k = some v → (k, toV ad v) ∈ locV ad loc
  | [], _, _, h => by cases h
  | q :: r, k, v, h => by
    unfold lk at h
    cases hq : q.1 == k with
    | true =>
      rw [hq] at h
      have e : q.1 = k := by simpa using hq
      have e2 : q.2 = v := Option.some.inj h
      rw [← e, ← e2]
      exact List.mem_cons_self
    | false =>
      rw [hq] at h
      exact List.mem_cons_of_mem _ (lk_mem h)
theorem st9_loc {ad : Nat → Nat → Nat} (loc : Loc9) (k : Nat) (v : VV) : (k, toV ad v) :: (locV ad loc).filter (fun q => !(q.1 == k) && !(q.1 + 1 == k && q.2.category == 2)) = locV ad (st9 loc k v) := by
  unfold locV st9
  rw [List.map_cons, List.filter_map]
  congr 3
  funext q
  simp [toV_cat]
def Wat (p : Program) (l : Launch) (e : Env) (R : Room) (s : State) (m : MethodId) (args : Array Value) (below : List Frame) (meth : Method) (c : Code) (Q : State → Prop) (D : va_G) (X : Nat → ClassId) (ad : Nat → Nat → Nat) (A : Nat → Prop) (M : Nat → Nat → Bool) (nL pc : Nat) (loc : Loc9) (st : List VV) (t : TT) (cl sl : Nat) : Prop :=
  ∀ (H : Heap) (locs : List Loc) (ls : Array Slot), SW D X ad A M t H → va_S A s.heap H locs → lv_has ls nL (locV ad loc) → W p l e R s m args below meth c H locs cl sl Q (F0 m pc ls (st.map (toV ad)))
section SND
variable {p : Program} {l : Launch} {e : Env} {R : Room} {s : State} {m : MethodId} {args : Array Value} {below : List Frame} {meth : Method} {c : Code} {Q : State → Prop} {D : va_G} {X : Nat → ClassId} {ad : Nat → Nat → Nat} {A : Nat → Prop} {M : Nat → Nat → Bool} {nL pc : Nat} {loc : Loc9} {st : List VV} {t : TT} {cl sl : Nat} {b : ByteArray} {H : Heap} {locs : List Loc} {ls : Array Slot}
theorem at_loc (h : lv_has ls nL (locV ad loc)) {k : Nat} {v : VV} (hk : lk loc k = some v) : ls[k]? = some (.val (toV ad v)) := h.2.2 (k, toV ad v) (lk_mem hk)
theorem go_aload (hx : p.tables.exec = Jvm.exec) (hb : c.code = b) {r : Nat × Nat ⊕ Nat × Int32} {f : Fin 4} (hd : decode b pc = .ok (.aload_n f, 1)) (hk : lk loc f.val = some (.inr r)) (h : Wat p l e R s m args below meth c Q D X ad A M nL (pc + 1) loc (.inr r :: st) t cl sl) : Wat p l e R s m args below meth c Q D X ad A M nL pc loc st t cl sl := by
  intro H locs ls hW hS hl
  have h1 := h H locs ls hW hS hl
  have h2 := at_loc hl hk
  match r, h1, h2 with
  | .inl q, h1, h2 => exact lv_aload_n hx hb hd rfl h2 h1
  | .inr q, h1, h2 =>
    simp only [List.map_cons, toV, toQ] at h1 h2
    by_cases hq : q.2 = -1
    · rw [if_pos hq] at h1 h2
      exact lv_aload_nN hx hb hd rfl h2 h1
    · rw [if_neg hq] at h1 h2
      exact lv_aload_n hx hb hd rfl h2 h1
theorem go_aload2 (hx : p.tables.exec = Jvm.exec) (hb : c.code = b) {r : Nat × Nat ⊕ Nat × Int32} {k : Nat} (hd : decode b pc = .ok (.aload k, 2)) (hk : lk loc k = some (.inr r)) (h : Wat p l e R s m args below meth c Q D X ad A M nL (pc + 2) loc (.inr r :: st) t cl sl) : Wat p l e R s m args below meth c Q D X ad A M nL pc loc st t cl sl := by
  intro H locs ls hW hS hl
  have h1 := h H locs ls hW hS hl
  have h2 := at_loc hl hk
  match r, h1, h2 with
  | .inl q, h1, h2 => exact lv_aload hx hb hd h2 h1
  | .inr q, h1, h2 =>
    simp only [List.map_cons, toV, toQ] at h1 h2
    by_cases hq : q.2 = -1
    · rw [if_pos hq] at h1 h2
      exact lv_aloadN hx hb hd h2 h1
    · rw [if_neg hq] at h1 h2
      exact lv_aload hx hb hd h2 h1
theorem go_iload (hx : p.tables.exec = Jvm.exec) (hb : c.code = b) {x : Int32} {f : Fin 4} (hd : decode b pc = .ok (.iload_n f, 1)) (hk : lk loc f.val = some (.inl x)) (h : Wat p l e R s m args below meth c Q D X ad A M nL (pc + 1) loc (.inl x :: st) t cl sl) : Wat p l e R s m args below meth c Q D X ad A M nL pc loc st t cl sl := by
  intro H locs ls hW hS hl
  exact lv_iload_n hx hb hd rfl (at_loc hl hk) (h H locs ls hW hS hl)
theorem go_iload2 (hx : p.tables.exec = Jvm.exec) (hb : c.code = b) {x : Int32} {k : Nat} (hd : decode b pc = .ok (.iload k, 2)) (hk : lk loc k = some (.inl x)) (h : Wat p l e R s m args below meth c Q D X ad A M nL (pc + 2) loc (.inl x :: st) t cl sl) : Wat p l e R s m args below meth c Q D X ad A M nL pc loc st t cl sl := by
  intro H locs ls hW hS hl
  exact lv_iload hx hb hd (at_loc hl hk) (h H locs ls hW hS hl)
theorem go_istore (hx : p.tables.exec = Jvm.exec) (hb : c.code = b) {x : Int32} {f : Fin 4} (hd : decode b pc = .ok (.istore_n f, 1)) (hn : f.val < nL) (h : Wat p l e R s m args below meth c Q D X ad A M nL (pc + 1) (st9 loc f.val (.inl x)) st t cl sl) : Wat p l e R s m args below meth c Q D X ad A M nL pc loc (.inl x :: st) t cl sl := by
  intro H locs ls hW hS hl
  exact lv_istore_n hx hb hd rfl hl hn (st9_loc loc f.val (.inl x)) (fun ls hl => h H locs ls hW hS hl)
theorem go_istore2 (hx : p.tables.exec = Jvm.exec) (hb : c.code = b) {x : Int32} {k : Nat} (hd : decode b pc = .ok (.istore k, 2)) (hn : k < nL) (h : Wat p l e R s m args below meth c Q D X ad A M nL (pc + 2) (st9 loc k (.inl x)) st t cl sl) : Wat p l e R s m args below meth c Q D X ad A M nL pc loc (.inl x :: st) t cl sl := by
  intro H locs ls hW hS hl
  exact lv_istore hx hb hd hl hn (st9_loc loc k (.inl x)) (fun ls hl => h H locs ls hW hS hl)
theorem go_astore (hx : p.tables.exec = Jvm.exec) (hb : c.code = b) {r : Nat × Nat ⊕ Nat × Int32} {f : Fin 4} (hd : decode b pc = .ok (.astore_n f, 1)) (hn : f.val < nL) (h : Wat p l e R s m args below meth c Q D X ad A M nL (pc + 1) (st9 loc f.val (.inr r)) st t cl sl) : Wat p l e R s m args below meth c Q D X ad A M nL pc loc (.inr r :: st) t cl sl := by
  intro H locs ls hW hS hl
  have e9 := st9_loc (ad := ad) loc f.val (.inr r)
  have k := fun ls hl => h H locs ls hW hS hl
  match r, e9, k with
  | .inl q, e9, k => exact lv_astore_n hx hb hd rfl hl hn e9 k
  | .inr q, e9, k =>
    show W p l e R s m args below meth c H locs cl sl Q (F0 m pc ls (toQ ad q.1 q.2 :: _))
    rw [show toV ad (.inr (.inr q)) = toQ ad q.1 q.2 from rfl] at e9
    unfold toQ at e9 ⊢
    by_cases hq : q.2 = -1
    · rw [if_pos hq] at e9 ⊢
      exact lv_astore_nN hx hb hd rfl hl hn e9 k
    · rw [if_neg hq] at e9 ⊢
      exact lv_astore_n hx hb hd rfl hl hn e9 k
theorem go_astore2 (hx : p.tables.exec = Jvm.exec) (hb : c.code = b) {r : Nat × Nat ⊕ Nat × Int32} {j : Nat} (hd : decode b pc = .ok (.astore j, 2)) (hn : j < nL) (h : Wat p l e R s m args below meth c Q D X ad A M nL (pc + 2) (st9 loc j (.inr r)) st t cl sl) : Wat p l e R s m args below meth c Q D X ad A M nL pc loc (.inr r :: st) t cl sl := by
  intro H locs ls hW hS hl
  have e9 := st9_loc (ad := ad) loc j (.inr r)
  have k := fun ls hl => h H locs ls hW hS hl
  match r, e9, k with
  | .inl q, e9, k => exact lv_astore hx hb hd hl hn e9 k
  | .inr q, e9, k =>
    show W p l e R s m args below meth c H locs cl sl Q (F0 m pc ls (toQ ad q.1 q.2 :: _))
    rw [show toV ad (.inr (.inr q)) = toQ ad q.1 q.2 from rfl] at e9
    unfold toQ at e9 ⊢
    by_cases hq : q.2 = -1
    · rw [if_pos hq] at e9 ⊢
      exact lv_astoreN hx hb hd hl hn e9 k
    · rw [if_neg hq] at e9 ⊢
      exact lv_astore hx hb hd hl hn e9 k
theorem go_iinc (hx : p.tables.exec = Jvm.exec) (hb : c.code = b) {x v : Int32} {k : Nat} {n : Int} (hd : decode b pc = .ok (.iinc k n, 3)) (hv : Int32.ofInt n = v) (hk : lk loc k = some (.inl x)) (hn : k < nL) (h : Wat p l e R s m args below meth c Q D X ad A M nL (pc + 3) (st9 loc k (.inl (x + v))) st t cl sl) : Wat p l e R s m args below meth c Q D X ad A M nL pc loc st t cl sl := by
  intro H locs ls hW hS hl
  obtain ⟨i, hi⟩ := List.getElem?_of_mem (lk_mem (ad := ad) hk)
  exact lv_iinc hx hb hd hl hi (by rw [hv]) hn (st9_loc loc k (.inl (x + v))) (fun ls hl => h H locs ls hW hS hl)
theorem SW.one {kp i : Nat} (hW : SW D X ad A M t H) (hi : M kp i = true) : va_P D vwCl [(ad kp i, cellE X ad M t kp i)] H := by
  intro k q hk
  match k, hk with
  | 0, hk => cases hk; exact hW.1 kp i hi
  | k + 1, hk => cases hk
theorem SW.oneE {kp i : Nat} {E : va_E} (hW : SW D X ad A M t H) (hi : M kp i = true) (hE : cellE X ad M t kp i = E) : va_P D vwCl [(ad kp i, E)] H := hE ▸ SW.one hW hi
theorem go_get (hx : p.tables.exec = Jvm.exec) (hb : c.code = b) {own : String} (hts : ∀ w ∈ LT, w.before args s = true) (hown : s.vm.findClass own = some m.cls) (hK : va_K D vwCl (TYX X) s) {ix kp i k : Nat} {v : VV} {f : Nat × Nat} (hf : fldOK own ix (kp, k)) (hd : decode b pc = .ok (.getfield ix, 3)) (hi : M kp i = true) (he : (FL kp)[k]? = some f) (hv : toV ad v = .ref (ad kp i)) (h : Wat p l e R s m args below meth c Q D X ad A M nL (pc + 3) loc (fvv t i f :: st) t cl sl) : Wat p l e R s m args below meth c Q D X ad A M nL pc loc (v :: st) t cl sl := by
  intro H locs ls hW hS hl
  have h1 := h H locs ls hW hS hl
  rw [List.map_cons] at h1 ⊢
  rw [hv]
  exact va_get (D := D) (ci := kci kp) (v := toV ad (fvv t i f)) (C := RXk kp) (T := TXk kp) (N := (FL kp).length) hx hb hts (obj_lays_lw hf.1) hown hK (SW.oneE hW hi (obj_cell hf.1 X ad M t i)) 0 rfl (obj_cl hf.1) k (List.getElem?_eq_some_iff.mp he).1 (hts _ hf.2) (fun _ h9 => h9) (by rw [List.getElem?_map, he]; rfl) hd h1
theorem SW.putS {kp i id j : Nat} {v : Int32} {H1 : Heap} (hW : SW D X ad A M t H) (hS : va_S A s.heap H locs) (hi : M kp i = true) (hr : rd kp i id j) (he : va_at D vwCl (ad kp i, cellE X ad M (up2 t id j v) kp i) H1) (z : H1.size = H.size) (oq : ∀ q, q ≠ ad kp i → H1[q]? = H[q]?) (k : Nat) : SW D X ad A M (up2 t id j v) H1 ∧ va_S A s.heap H1 (locs ++ [⟨ad kp i, k⟩]) := ⟨hW.up hi hr he oq, hS.put z oq (hW.2.2.1 kp i hi)⟩
theorem go_put (hx : p.tables.exec = Jvm.exec) (hb : c.code = b) {own : String} (hts : ∀ w ∈ LT, w.before args s = true) (hown : s.vm.findClass own = some m.cls) (hK : va_K D vwCl (TYX X) s) {ix kp i k : Nat} {v o : VV} {x : Int32} {f : Nat × Nat} (hf : fldOK own ix (kp, k)) (hfin : isFin kp k = false) (hd : decode b pc = .ok (.putfield ix, 3)) (hi : M kp i = true) (he : (FL kp)[k]? = some f) (hv : toV ad o = .ref (ad kp i)) (h02 : f.1 = 0 ∨ f.1 = 2) (hval : toV ad v = toV ad (fvv (up2 t f.2 i x) i f)) (hnr : narrow (tyXk kp k) (toV ad v) = toV ad v) (hft : fits (tyXk kp k) (toV ad v) = true) (h : Wat p l e R s m args below meth c Q D X ad A M nL (pc + 3) loc st (up2 t f.2 i x) cl sl) : Wat p l e R s m args below meth c Q D X ad A M nL pc loc (v :: o :: st) t cl sl := by
  intro H locs ls hW hS hl
  obtain ⟨hobj, hlinkin⟩ := id hf
  have hk := (List.getElem?_eq_some_iff.mp he).1
  have hin := obj_lays_lw hobj
  have hc := obj_cl hobj
  have hty := obj_ty hobj
  have hap := va_apart (own := own) hts hin (tyXk kp) hty (obj_nm hobj) hK hc
  have hat := hW.1 kp i hi
  rw [obj_cell hobj] at hat
  obtain ⟨r, h1, cell, q1, q2, q3, q4⟩ := hat
  have hr : r = (RXk kp, TXk kp, (FL kp).length) := Option.some.inj (h1.symm.trans hc)
  subst hr
  obtain ⟨hSl, hfc, kC, hkC, hkind⟩ := hK.1 (kci kp) _ hc
  obtain ⟨cf, kf, fi, fd, hif, hsl⟩ := hSl k hk
  have hlay := hts _ (hin _ (u_in_lay hk))
  have hfinT : (TXk kp k).2.2.2 = false := by
    rcases h02 with z | z
    · exact ((obj_kinds hobj k hk hfin).1 f he z).2
    · exact ((obj_kinds hobj k hk hfin).2 f he z).2
  unfold u_lay at hlay
  rw [if_neg (by rw [hfinT]; decide)] at hlay
  have hst := (u_facts hfc hkC (u_lays hts hin hk) hif).1
  have h6 := u_store hfc hkC hkind hlay hif (hty k hk) hnr hft
  show W p l e R s m args below meth c H locs cl sl Q (F0 m pc ls (toV ad v :: toV ad o :: st.map (toV ad)))
  rw [hv]
  refine W.putK hx hb (f := fd) ⟨hown, hts _ hlinkin, ⟨_, _, _, hif⟩, hst⟩ (by rw [q2]; exact h6) q1 q3 (by rw [hsl]; exact k2_hasslot (q4 k hk)) rfl rfl hd fun H' e1 e2 e3 => ?_
  rw [hsl] at e1 ⊢
  have hrd : rd kp i f.2 i := by
    rcases hobj with rfl | rfl | rfl | rfl | rfl <;> exact ⟨rfl, f, List.mem_of_getElem? he, h02, rfl⟩
  have hlen : k < ((FL kp).map fun q => toV ad (fvv t i q)).length := by rw [List.length_map]; exact hk
  have hcell : va_at D vwCl (ad kp i, cellE X ad M (up2 t f.2 i x) kp i) H' := by
    rw [obj_cell hobj, ← fl_set hobj (x := x) he h02, ← hval]
    exact ⟨_, hc, t_OB.to (V := updV (vp_V _) k (toV ad v)) ⟨_, e1, q2, q3, t_set q4 hap hk _⟩ (fun j _ => vp_updV_set hlen _ j)⟩
  exact h _ _ _ (hW.up hi hrd hcell e3) (hS.put e2 e3 (hW.2.2.1 kp i hi)) hl

theorem vin_cell {cA : ClassId} {n : Nat} {f : Nat → Int32} {x : Int32} (h : vp_in x n) : ¬ (x < 0 ∨ (vp_cell cA (n, .inl f)).slots.size ≤ x.toNatClampNeg) := by
  rw [vp_cell_i, arrV_size]
  exact h
theorem vpin_lt {x : Int32} {n : Nat} (h : vp_in x n) : x.toNatClampNeg < n := Nat.not_le.mp fun q => h (Or.inr q)
theorem go_bald9 (hx : p.tables.exec = Jvm.exec) (hb : c.code = b) (hK : va_K D vwCl (TYX X) s) {x : Int32} {i : Nat} (hd : decode b pc = .ok (.baload, 1)) (hi : M 9 i = true) (hin : vp_in x 1000) (h : Wat p l e R s m args below meth c Q D X ad A M nL (pc + 1) loc (.inl (t 35 (1000 * i + x.toNatClampNeg)) :: st) t cl sl) : Wat p l e R s m args below meth c Q D X ad A M nL pc loc (.inl x :: .inr (.inl (9, i)) :: st) t cl sl := by
  intro H locs ls hW hS hl
  exact va_bald hx hb hK (SW.oneE hW hi (E := .inl (X 9, 1000, .inl (fun j => t 35 (1000 * i + j)))) rfl) 0 4 rfl rfl hin hd (h H locs ls hW hS hl)
theorem go_bald10 (hx : p.tables.exec = Jvm.exec) (hb : c.code = b) (hK : va_K D vwCl (TYX X) s) {x : Int32} {i : Nat} (hd : decode b pc = .ok (.baload, 1)) (hi : M 10 i = true) (hin : vp_in x 1000) (h : Wat p l e R s m args below meth c Q D X ad A M nL (pc + 1) loc (.inl (t 36 (1000 * i + x.toNatClampNeg)) :: st) t cl sl) : Wat p l e R s m args below meth c Q D X ad A M nL pc loc (.inl x :: .inr (.inl (10, i)) :: st) t cl sl := by
  intro H locs ls hW hS hl
  exact va_bald hx hb hK (SW.oneE hW hi (E := .inl (X 9, 1000, .inl (fun j => t 36 (1000 * i + j)))) rfl) 0 4 rfl rfl hin hd (h H locs ls hW hS hl)
theorem store_cell {cA : ClassId} {n : Nat} {f g : Nat → Int32} {j : Nat} {y z : Int32} {a : Nat} {H1 : Heap} (h : H1[a]? = some ((vp_cell cA (n, .inl f)).setSlot j (.int y))) (hg : ∀ q, q < n → g q = if q = j then y else f q) : H1[a]? = some (vp_cell cA (n, .inl g)) := by
  rw [h, vp_cell_i, vp_cell_i, arrV_store]
  refine congrArg some (arrV_congr fun q hq => ?_)
  rw [hg q hq]
  by_cases e : q = j
  · simp [updV, e]
  · simp [updV, e]
theorem go_bast9 (hx : p.tables.exec = Jvm.exec) (hb : c.code = b) (hK : va_K D vwCl (TYX X) s) {x y : Int32} {i : Nat} (hd : decode b pc = .ok (.bastore, 1)) (hi : M 9 i = true) (hin : vp_in x 1000) (h : Wat p l e R s m args below meth c Q D X ad A M nL (pc + 1) loc st (up2 t 35 (1000 * i + x.toNatClampNeg) (vp_nar .byte y)) cl sl) : Wat p l e R s m args below meth c Q D X ad A M nL pc loc (.inl y :: .inl x :: .inr (.inl (9, i)) :: st) t cl sl := by
  intro H locs ls hW hS hl
  have hat : H[ad 9 i]? = some (vp_cell (X 9) (1000, .inl (fun j => t 35 (1000 * i + j)))) := hW.1 9 i hi
  refine W.bast hx hb hat ((hK.2 4 _ rfl).1 1000 (fun j => .int (t 35 (1000 * i + j)))) (fun q => by cases q) (vin_cell hin) rfl rfl hd fun H1 e1 z oq => ?_
  refine h _ _ _ (hW.up hi ⟨rfl, _, vpin_lt hin, rfl⟩ ?_ oq) (hS.put z oq (hW.2.2.1 9 i hi)) hl
  exact store_cell (y := vp_nar .byte y) (z := 0) e1 fun q _ => by simp [up2]
theorem go_bast10 (hx : p.tables.exec = Jvm.exec) (hb : c.code = b) (hK : va_K D vwCl (TYX X) s) {x y : Int32} {i : Nat} (hd : decode b pc = .ok (.bastore, 1)) (hi : M 10 i = true) (hin : vp_in x 1000) (h : Wat p l e R s m args below meth c Q D X ad A M nL (pc + 1) loc st (up2 t 36 (1000 * i + x.toNatClampNeg) (vp_nar .byte y)) cl sl) : Wat p l e R s m args below meth c Q D X ad A M nL pc loc (.inl y :: .inl x :: .inr (.inl (10, i)) :: st) t cl sl := by
  intro H locs ls hW hS hl
  have hat : H[ad 10 i]? = some (vp_cell (X 9) (1000, .inl (fun j => t 36 (1000 * i + j)))) := hW.1 10 i hi
  refine W.bast hx hb hat ((hK.2 4 _ rfl).1 1000 (fun j => .int (t 36 (1000 * i + j)))) (fun q => by cases q) (vin_cell hin) rfl rfl hd fun H1 e1 z oq => ?_
  refine h _ _ _ (hW.up hi ⟨rfl, _, vpin_lt hin, rfl⟩ ?_ oq) (hS.put z oq (hW.2.2.1 10 i hi)) hl
  exact store_cell (y := vp_nar .byte y) (z := 0) e1 fun q _ => by simp [up2]
theorem go_aald (hx : p.tables.exec = Jvm.exec) (hb : c.code = b) (hK : va_K D vwCl (TYX X) s) {x : Int32} {kp i : Nat} (h14 : 1 ≤ kp ∧ kp ≤ 4) (hd : decode b pc = .ok (.aaload, 1)) (hi : M kp i = true) (hin : vp_in x (lenR kp)) (hj : M (kp + 4) x.toNatClampNeg = true) (h : Wat p l e R s m args below meth c Q D X ad A M nL (pc + 1) loc (.inr (.inl (kp + 4, x.toNatClampNeg)) :: st) t cl sl) : Wat p l e R s m args below meth c Q D X ad A M nL pc loc (.inl x :: .inr (.inl (kp, i)) :: st) t cl sl := by
  intro H locs ls hW hS hl
  have h1 := h H locs ls hW hS hl
  have e1 : va_rf (refsOf ad M (kp + 4) x.toNatClampNeg) = .ref (ad (kp + 4) x.toNatClampNeg) := by
    unfold refsOf
    rw [if_pos hj]
    rfl
  rw [List.map_cons, show toV ad (.inr (.inl (kp + 4, x.toNatClampNeg))) = .ref (ad (kp + 4) x.toNatClampNeg) from rfl, ← e1] at h1
  rcases (show kp = 1 ∨ kp = 2 ∨ kp = 3 ∨ kp = 4 by omega) with rfl | rfl | rfl | rfl
  · exact va_aldq hx hb hK (SW.oneE hW hi (E := .inl (X 1, 6, .inr (.inr (.inr (.inr (refsOf ad M 5)))))) rfl) 0 0 rfl rfl hin hd h1
  · exact va_aldq hx hb hK (SW.oneE hW hi (E := .inl (X 2, 12, .inr (.inr (.inr (.inr (refsOf ad M 6)))))) rfl) 0 1 rfl rfl hin hd h1
  · exact va_aldq hx hb hK (SW.oneE hW hi (E := .inl (X 3, 4, .inr (.inr (.inr (.inr (refsOf ad M 7)))))) rfl) 0 2 rfl rfl hin hd h1
  · exact va_aldq hx hb hK (SW.oneE hW hi (E := .inl (X 4, 5, .inr (.inr (.inr (.inr (refsOf ad M 8)))))) rfl) 0 3 rfl rfl hin hd h1
theorem go_alen (hx : p.tables.exec = Jvm.exec) (hb : c.code = b) (hK : va_K D vwCl (TYX X) s) {kp i : Nat} (h9 : kp = 9 ∨ kp = 10) (hd : decode b pc = .ok (.arraylength, 1)) (hi : M kp i = true) (h : Wat p l e R s m args below meth c Q D X ad A M nL (pc + 1) loc (.inl 1000 :: st) t cl sl) : Wat p l e R s m args below meth c Q D X ad A M nL pc loc (.inr (.inl (kp, i)) :: st) t cl sl := by
  intro H locs ls hW hS hl
  rcases h9 with rfl | rfl
  · exact va_alen hx hb hK (SW.oneE hW hi (E := .inl (X 9, 1000, .inl (fun j => t 35 (1000 * i + j)))) rfl) 0 4 rfl rfl rfl hd (h H locs ls hW hS hl)
  · exact va_alen hx hb hK (SW.oneE hW hi (E := .inl (X 9, 1000, .inl (fun j => t 36 (1000 * i + j)))) rfl) 0 4 rfl rfl rfl hd (h H locs ls hW hS hl)
theorem go_iadd (hx : p.tables.exec = Jvm.exec) (hb : c.code = b) {x y : Int32} (hd : decode b pc = .ok (.iadd, 1)) (h : Wat p l e R s m args below meth c Q D X ad A M nL (pc + 1) loc (.inl (x + y) :: st) t cl sl) : Wat p l e R s m args below meth c Q D X ad A M nL pc loc (.inl y :: .inl x :: st) t cl sl := fun H locs ls hW hS hl => lv_iadd hx hb hd (h H locs ls hW hS hl)
theorem go_isub (hx : p.tables.exec = Jvm.exec) (hb : c.code = b) {x y : Int32} (hd : decode b pc = .ok (.isub, 1)) (h : Wat p l e R s m args below meth c Q D X ad A M nL (pc + 1) loc (.inl (x - y) :: st) t cl sl) : Wat p l e R s m args below meth c Q D X ad A M nL pc loc (.inl y :: .inl x :: st) t cl sl := fun H locs ls hW hS hl => lv_isub hx hb hd (h H locs ls hW hS hl)
theorem go_imul (hx : p.tables.exec = Jvm.exec) (hb : c.code = b) {x y : Int32} (hd : decode b pc = .ok (.imul, 1)) (h : Wat p l e R s m args below meth c Q D X ad A M nL (pc + 1) loc (.inl (x * y) :: st) t cl sl) : Wat p l e R s m args below meth c Q D X ad A M nL pc loc (.inl y :: .inl x :: st) t cl sl := fun H locs ls hW hS hl => lv_imul hx hb hd (h H locs ls hW hS hl)
theorem go_iand (hx : p.tables.exec = Jvm.exec) (hb : c.code = b) {x y : Int32} (hd : decode b pc = .ok (.iand, 1)) (h : Wat p l e R s m args below meth c Q D X ad A M nL (pc + 1) loc (.inl (x &&& y) :: st) t cl sl) : Wat p l e R s m args below meth c Q D X ad A M nL pc loc (.inl y :: .inl x :: st) t cl sl := fun H locs ls hW hS hl => lv_iand hx hb hd (h H locs ls hW hS hl)
theorem go_ior (hx : p.tables.exec = Jvm.exec) (hb : c.code = b) {x y : Int32} (hd : decode b pc = .ok (.ior, 1)) (h : Wat p l e R s m args below meth c Q D X ad A M nL (pc + 1) loc (.inl (x ||| y) :: st) t cl sl) : Wat p l e R s m args below meth c Q D X ad A M nL pc loc (.inl y :: .inl x :: st) t cl sl := fun H locs ls hW hS hl => lv_ior hx hb hd (h H locs ls hW hS hl)
theorem go_ixor (hx : p.tables.exec = Jvm.exec) (hb : c.code = b) {x y : Int32} (hd : decode b pc = .ok (.ixor, 1)) (h : Wat p l e R s m args below meth c Q D X ad A M nL (pc + 1) loc (.inl (x ^^^ y) :: st) t cl sl) : Wat p l e R s m args below meth c Q D X ad A M nL pc loc (.inl y :: .inl x :: st) t cl sl := fun H locs ls hW hS hl => lv_ixor hx hb hd (h H locs ls hW hS hl)
theorem go_ishr (hx : p.tables.exec = Jvm.exec) (hb : c.code = b) {x y : Int32} (hd : decode b pc = .ok (.ishr, 1)) (h : Wat p l e R s m args below meth c Q D X ad A M nL (pc + 1) loc (.inl (x >>> (y &&& 31)) :: st) t cl sl) : Wat p l e R s m args below meth c Q D X ad A M nL pc loc (.inl y :: .inl x :: st) t cl sl := fun H locs ls hW hS hl => lv_ishr hx hb hd (h H locs ls hW hS hl)
theorem go_idiv (hx : p.tables.exec = Jvm.exec) (hb : c.code = b) {x y : Int32} (hd : decode b pc = .ok (.idiv, 1)) (hy : ¬ y = 0) (h : Wat p l e R s m args below meth c Q D X ad A M nL (pc + 1) loc (.inl (x / y) :: st) t cl sl) : Wat p l e R s m args below meth c Q D X ad A M nL pc loc (.inl y :: .inl x :: st) t cl sl := fun H locs ls hW hS hl => lv_idiv hx hb hd hy (h H locs ls hW hS hl)
theorem go_irem (hx : p.tables.exec = Jvm.exec) (hb : c.code = b) {x y : Int32} (hd : decode b pc = .ok (.irem, 1)) (hy : ¬ y = 0) (h : Wat p l e R s m args below meth c Q D X ad A M nL (pc + 1) loc (.inl (x - x / y * y) :: st) t cl sl) : Wat p l e R s m args below meth c Q D X ad A M nL pc loc (.inl y :: .inl x :: st) t cl sl := fun H locs ls hW hS hl => lv_irem hx hb hd hy (h H locs ls hW hS hl)
theorem go_i2b (hx : p.tables.exec = Jvm.exec) (hb : c.code = b) {x : Int32} (hd : decode b pc = .ok (.i2b, 1)) (h : Wat p l e R s m args below meth c Q D X ad A M nL (pc + 1) loc (.inl x.toInt8.toInt32 :: st) t cl sl) : Wat p l e R s m args below meth c Q D X ad A M nL pc loc (.inl x :: st) t cl sl := fun H locs ls hW hS hl => lv_i2b hx hb hd rfl (h H locs ls hW hS hl)
theorem go_dup (hx : p.tables.exec = Jvm.exec) (hb : c.code = b) {v : VV} (hd : decode b pc = .ok (.dup, 1)) (h : Wat p l e R s m args below meth c Q D X ad A M nL (pc + 1) loc (v :: v :: st) t cl sl) : Wat p l e R s m args below meth c Q D X ad A M nL pc loc (v :: st) t cl sl := fun H locs ls hW hS hl => lv_dup hx hb hd (toV_cat ad v) (h H locs ls hW hS hl)
theorem go_pop (hx : p.tables.exec = Jvm.exec) (hb : c.code = b) {v : VV} (hd : decode b pc = .ok (.pop, 1)) (h : Wat p l e R s m args below meth c Q D X ad A M nL (pc + 1) loc st t cl sl) : Wat p l e R s m args below meth c Q D X ad A M nL pc loc (v :: st) t cl sl := fun H locs ls hW hS hl => lv_pop hx hb hd (toV_cat ad v) (h H locs ls hW hS hl)
theorem go_dup2 (hx : p.tables.exec = Jvm.exec) (hb : c.code = b) {v w : VV} (hd : decode b pc = .ok (.dup2, 1)) (h : Wat p l e R s m args below meth c Q D X ad A M nL (pc + 1) loc (v :: w :: v :: w :: st) t cl sl) : Wat p l e R s m args below meth c Q D X ad A M nL pc loc (v :: w :: st) t cl sl := fun H locs ls hW hS hl => lv_dup2_11 hx hb hd (toV_cat ad v) (toV_cat ad w) (h H locs ls hW hS hl)
theorem go_iconst (hx : p.tables.exec = Jvm.exec) (hb : c.code = b) {n : Int} {v : Int32} (hd : decode b pc = .ok (.iconst n, 1)) (hv : Int32.ofInt n = v) (h : Wat p l e R s m args below meth c Q D X ad A M nL (pc + 1) loc (.inl v :: st) t cl sl) : Wat p l e R s m args below meth c Q D X ad A M nL pc loc st t cl sl := fun H locs ls hW hS hl => lv_iconst hx hb hd hv (h H locs ls hW hS hl)
theorem go_bipush (hx : p.tables.exec = Jvm.exec) (hb : c.code = b) {n : Int} {v : Int32} (hd : decode b pc = .ok (.bipush n, 2)) (hv : (Int8.ofInt n).toInt32 = v) (h : Wat p l e R s m args below meth c Q D X ad A M nL (pc + 2) loc (.inl v :: st) t cl sl) : Wat p l e R s m args below meth c Q D X ad A M nL pc loc st t cl sl := fun H locs ls hW hS hl => lv_bipush hx hb hd hv (h H locs ls hW hS hl)
theorem go_sipush (hx : p.tables.exec = Jvm.exec) (hb : c.code = b) {n : Int} {v : Int32} (hd : decode b pc = .ok (.sipush n, 3)) (hv : (Int16.ofInt n).toInt32 = v) (h : Wat p l e R s m args below meth c Q D X ad A M nL (pc + 3) loc (.inl v :: st) t cl sl) : Wat p l e R s m args below meth c Q D X ad A M nL pc loc st t cl sl := fun H locs ls hW hS hl => lv_sipush hx hb hd hv (h H locs ls hW hS hl)
theorem go_icmp_eq (hx : p.tables.exec = Jvm.exec) (hb : c.code = b) {x y : Int32} {off : Int} {tgt : Nat} (hd : decode b pc = .ok (.if_icmp .eq off, 3)) (ht : (pc : Int) + off = (tgt : Int)) (kt : x = y → Wat p l e R s m args below meth c Q D X ad A M nL tgt loc st t cl sl) (kf : ¬ (x = y) → Wat p l e R s m args below meth c Q D X ad A M nL (pc + 3) loc st t cl sl) : Wat p l e R s m args below meth c Q D X ad A M nL pc loc (.inl y :: .inl x :: st) t cl sl := fun H locs ls hW hS hl => lv_icmp_eq hx hb hd ht (fun z => kt z H locs ls hW hS hl) (fun z => kf z H locs ls hW hS hl)
theorem go_icmp_ne (hx : p.tables.exec = Jvm.exec) (hb : c.code = b) {x y : Int32} {off : Int} {tgt : Nat} (hd : decode b pc = .ok (.if_icmp .ne off, 3)) (ht : (pc : Int) + off = (tgt : Int)) (kt : ¬ x = y → Wat p l e R s m args below meth c Q D X ad A M nL tgt loc st t cl sl) (kf : x = y → Wat p l e R s m args below meth c Q D X ad A M nL (pc + 3) loc st t cl sl) : Wat p l e R s m args below meth c Q D X ad A M nL pc loc (.inl y :: .inl x :: st) t cl sl := fun H locs ls hW hS hl => lv_icmp_ne hx hb hd ht (fun z => kt z H locs ls hW hS hl) (fun z => kf z H locs ls hW hS hl)
theorem go_icmp_lt (hx : p.tables.exec = Jvm.exec) (hb : c.code = b) {x y : Int32} {off : Int} {tgt : Nat} (hd : decode b pc = .ok (.if_icmp .lt off, 3)) (ht : (pc : Int) + off = (tgt : Int)) (kt : x < y → Wat p l e R s m args below meth c Q D X ad A M nL tgt loc st t cl sl) (kf : ¬ (x < y) → Wat p l e R s m args below meth c Q D X ad A M nL (pc + 3) loc st t cl sl) : Wat p l e R s m args below meth c Q D X ad A M nL pc loc (.inl y :: .inl x :: st) t cl sl := fun H locs ls hW hS hl => lv_icmp_lt hx hb hd ht (fun z => kt z H locs ls hW hS hl) (fun z => kf z H locs ls hW hS hl)
theorem go_icmp_ge (hx : p.tables.exec = Jvm.exec) (hb : c.code = b) {x y : Int32} {off : Int} {tgt : Nat} (hd : decode b pc = .ok (.if_icmp .ge off, 3)) (ht : (pc : Int) + off = (tgt : Int)) (kt : y ≤ x → Wat p l e R s m args below meth c Q D X ad A M nL tgt loc st t cl sl) (kf : ¬ (y ≤ x) → Wat p l e R s m args below meth c Q D X ad A M nL (pc + 3) loc st t cl sl) : Wat p l e R s m args below meth c Q D X ad A M nL pc loc (.inl y :: .inl x :: st) t cl sl := fun H locs ls hW hS hl => lv_icmp_ge hx hb hd ht (fun z => kt z H locs ls hW hS hl) (fun z => kf z H locs ls hW hS hl)
theorem go_icmp_gt (hx : p.tables.exec = Jvm.exec) (hb : c.code = b) {x y : Int32} {off : Int} {tgt : Nat} (hd : decode b pc = .ok (.if_icmp .gt off, 3)) (ht : (pc : Int) + off = (tgt : Int)) (kt : y < x → Wat p l e R s m args below meth c Q D X ad A M nL tgt loc st t cl sl) (kf : ¬ (y < x) → Wat p l e R s m args below meth c Q D X ad A M nL (pc + 3) loc st t cl sl) : Wat p l e R s m args below meth c Q D X ad A M nL pc loc (.inl y :: .inl x :: st) t cl sl := fun H locs ls hW hS hl => lv_icmp_gt hx hb hd ht (fun z => kt z H locs ls hW hS hl) (fun z => kf z H locs ls hW hS hl)
theorem go_icmp_le (hx : p.tables.exec = Jvm.exec) (hb : c.code = b) {x y : Int32} {off : Int} {tgt : Nat} (hd : decode b pc = .ok (.if_icmp .le off, 3)) (ht : (pc : Int) + off = (tgt : Int)) (kt : x ≤ y → Wat p l e R s m args below meth c Q D X ad A M nL tgt loc st t cl sl) (kf : ¬ (x ≤ y) → Wat p l e R s m args below meth c Q D X ad A M nL (pc + 3) loc st t cl sl) : Wat p l e R s m args below meth c Q D X ad A M nL pc loc (.inl y :: .inl x :: st) t cl sl := fun H locs ls hW hS hl => lv_icmp_le hx hb hd ht (fun z => kt z H locs ls hW hS hl) (fun z => kf z H locs ls hW hS hl)
theorem go_if_eq (hx : p.tables.exec = Jvm.exec) (hb : c.code = b) {x : Int32} {off : Int} {tgt : Nat} (hd : decode b pc = .ok (.ifCond .eq off, 3)) (ht : (pc : Int) + off = (tgt : Int)) (kt : x = 0 → Wat p l e R s m args below meth c Q D X ad A M nL tgt loc st t cl sl) (kf : ¬ (x = 0) → Wat p l e R s m args below meth c Q D X ad A M nL (pc + 3) loc st t cl sl) : Wat p l e R s m args below meth c Q D X ad A M nL pc loc (.inl x :: st) t cl sl := fun H locs ls hW hS hl => lv_if_eq hx hb hd ht (fun z => kt z H locs ls hW hS hl) (fun z => kf z H locs ls hW hS hl)
theorem go_if_ne (hx : p.tables.exec = Jvm.exec) (hb : c.code = b) {x : Int32} {off : Int} {tgt : Nat} (hd : decode b pc = .ok (.ifCond .ne off, 3)) (ht : (pc : Int) + off = (tgt : Int)) (kt : ¬ x = 0 → Wat p l e R s m args below meth c Q D X ad A M nL tgt loc st t cl sl) (kf : x = 0 → Wat p l e R s m args below meth c Q D X ad A M nL (pc + 3) loc st t cl sl) : Wat p l e R s m args below meth c Q D X ad A M nL pc loc (.inl x :: st) t cl sl := fun H locs ls hW hS hl => lv_if_ne hx hb hd ht (fun z => kt z H locs ls hW hS hl) (fun z => kf z H locs ls hW hS hl)
theorem go_if_lt (hx : p.tables.exec = Jvm.exec) (hb : c.code = b) {x : Int32} {off : Int} {tgt : Nat} (hd : decode b pc = .ok (.ifCond .lt off, 3)) (ht : (pc : Int) + off = (tgt : Int)) (kt : x < 0 → Wat p l e R s m args below meth c Q D X ad A M nL tgt loc st t cl sl) (kf : ¬ (x < 0) → Wat p l e R s m args below meth c Q D X ad A M nL (pc + 3) loc st t cl sl) : Wat p l e R s m args below meth c Q D X ad A M nL pc loc (.inl x :: st) t cl sl := fun H locs ls hW hS hl => lv_if_lt hx hb hd ht (fun z => kt z H locs ls hW hS hl) (fun z => kf z H locs ls hW hS hl)
theorem go_if_ge (hx : p.tables.exec = Jvm.exec) (hb : c.code = b) {x : Int32} {off : Int} {tgt : Nat} (hd : decode b pc = .ok (.ifCond .ge off, 3)) (ht : (pc : Int) + off = (tgt : Int)) (kt : 0 ≤ x → Wat p l e R s m args below meth c Q D X ad A M nL tgt loc st t cl sl) (kf : ¬ (0 ≤ x) → Wat p l e R s m args below meth c Q D X ad A M nL (pc + 3) loc st t cl sl) : Wat p l e R s m args below meth c Q D X ad A M nL pc loc (.inl x :: st) t cl sl := fun H locs ls hW hS hl => lv_if_ge hx hb hd ht (fun z => kt z H locs ls hW hS hl) (fun z => kf z H locs ls hW hS hl)
theorem go_if_gt (hx : p.tables.exec = Jvm.exec) (hb : c.code = b) {x : Int32} {off : Int} {tgt : Nat} (hd : decode b pc = .ok (.ifCond .gt off, 3)) (ht : (pc : Int) + off = (tgt : Int)) (kt : 0 < x → Wat p l e R s m args below meth c Q D X ad A M nL tgt loc st t cl sl) (kf : ¬ (0 < x) → Wat p l e R s m args below meth c Q D X ad A M nL (pc + 3) loc st t cl sl) : Wat p l e R s m args below meth c Q D X ad A M nL pc loc (.inl x :: st) t cl sl := fun H locs ls hW hS hl => lv_if_gt hx hb hd ht (fun z => kt z H locs ls hW hS hl) (fun z => kf z H locs ls hW hS hl)
theorem go_if_le (hx : p.tables.exec = Jvm.exec) (hb : c.code = b) {x : Int32} {off : Int} {tgt : Nat} (hd : decode b pc = .ok (.ifCond .le off, 3)) (ht : (pc : Int) + off = (tgt : Int)) (kt : x ≤ 0 → Wat p l e R s m args below meth c Q D X ad A M nL tgt loc st t cl sl) (kf : ¬ (x ≤ 0) → Wat p l e R s m args below meth c Q D X ad A M nL (pc + 3) loc st t cl sl) : Wat p l e R s m args below meth c Q D X ad A M nL pc loc (.inl x :: st) t cl sl := fun H locs ls hW hS hl => lv_if_le hx hb hd ht (fun z => kt z H locs ls hW hS hl) (fun z => kf z H locs ls hW hS hl)
theorem go_goto (hx : p.tables.exec = Jvm.exec) (hb : c.code = b) {off : Int} {tgt : Nat} (hd : decode b pc = .ok (.goto off, 3)) (ht : (pc : Int) + off = (tgt : Int)) (h : Wat p l e R s m args below meth c Q D X ad A M nL tgt loc st t cl sl) : Wat p l e R s m args below meth c Q D X ad A M nL pc loc st t cl sl := fun H locs ls hW hS hl => lv_goto hx hb hd ht (h H locs ls hW hS hl)
theorem go_null (hx : p.tables.exec = Jvm.exec) (hb : c.code = b) {k : Nat} (hd : decode b pc = .ok (.aconst_null, 1)) (h : Wat p l e R s m args below meth c Q D X ad A M nL (pc + 1) loc (.inr (.inr (k, -1)) :: st) t cl sl) : Wat p l e R s m args below meth c Q D X ad A M nL pc loc st t cl sl := fun H locs ls hW hS hl => by
  have h1 := h H locs ls hW hS hl
  rw [List.map_cons, show toV ad (.inr (.inr (k, -1))) = .null from toQ_m1 ad k] at h1
  exact lv_null hx hb hd h1
theorem go_ifnull (hx : p.tables.exec = Jvm.exec) (hb : c.code = b) {q : Nat × Int32} {off : Int} {tgt : Nat} (hd : decode b pc = .ok (.ifnull off, 3)) (ht : (pc : Int) + off = (tgt : Int)) (kt : q.2 = -1 → Wat p l e R s m args below meth c Q D X ad A M nL tgt loc st t cl sl) (kf : ¬ q.2 = -1 → Wat p l e R s m args below meth c Q D X ad A M nL (pc + 3) loc st t cl sl) : Wat p l e R s m args below meth c Q D X ad A M nL pc loc (.inr (.inr q) :: st) t cl sl := fun H locs ls hW hS hl => by
  show W p l e R s m args below meth c H locs cl sl Q (F0 m pc ls (toQ ad q.1 q.2 :: st.map (toV ad)))
  unfold toQ
  by_cases hq : q.2 = -1
  · rw [if_pos hq]; exact lv_ifnullN hx hb hd ht (kt hq H locs ls hW hS hl)
  · rw [if_neg hq]; exact lv_ifnull hx hb hd (kf hq H locs ls hW hS hl)
theorem go_ifnonnull (hx : p.tables.exec = Jvm.exec) (hb : c.code = b) {q : Nat × Int32} {off : Int} {tgt : Nat} (hd : decode b pc = .ok (.ifnonnull off, 3)) (ht : (pc : Int) + off = (tgt : Int)) (kt : q.2 = -1 → Wat p l e R s m args below meth c Q D X ad A M nL (pc + 3) loc st t cl sl) (kf : ¬ q.2 = -1 → Wat p l e R s m args below meth c Q D X ad A M nL tgt loc st t cl sl) : Wat p l e R s m args below meth c Q D X ad A M nL pc loc (.inr (.inr q) :: st) t cl sl := fun H locs ls hW hS hl => by
  show W p l e R s m args below meth c H locs cl sl Q (F0 m pc ls (toQ ad q.1 q.2 :: st.map (toV ad)))
  unfold toQ
  by_cases hq : q.2 = -1
  · rw [if_pos hq]; exact lv_ifnonnullN hx hb hd (kt hq H locs ls hW hS hl)
  · rw [if_neg hq]; exact lv_ifnonnull hx hb hd ht (kf hq H locs ls hW hS hl)
theorem go_ifnullO (hx : p.tables.exec = Jvm.exec) (hb : c.code = b) {q : Nat × Nat} {off : Int} (hd : decode b pc = .ok (.ifnull off, 3)) (kf : Wat p l e R s m args below meth c Q D X ad A M nL (pc + 3) loc st t cl sl) : Wat p l e R s m args below meth c Q D X ad A M nL pc loc (.inr (.inl q) :: st) t cl sl := fun H locs ls hW hS hl => lv_ifnull hx hb hd (kf H locs ls hW hS hl)
theorem go_ifnonnullO (hx : p.tables.exec = Jvm.exec) (hb : c.code = b) {q : Nat × Nat} {off : Int} {tgt : Nat} (hd : decode b pc = .ok (.ifnonnull off, 3)) (ht : (pc : Int) + off = (tgt : Int)) (kf : Wat p l e R s m args below meth c Q D X ad A M nL tgt loc st t cl sl) : Wat p l e R s m args below meth c Q D X ad A M nL pc loc (.inr (.inl q) :: st) t cl sl := fun H locs ls hW hS hl => lv_ifnonnull hx hb hd ht (kf H locs ls hW hS hl)
theorem nI_of_range {x : Int32} {n : Nat} (h1 : ¬ x.toInt < 0) (h2 : ¬ (n : Int) ≤ x.toInt) : x = nI x.toInt.toNat ∧ x.toInt.toNat < n := by
  have hb := x.toInt_lt
  refine ⟨Int32.toInt_inj.mp ?_, by omega⟩
  rw [nI_toInt (by omega)]
  omega
theorem swP_spec {go : Nat → Prop} {d : Nat} {x : Int32} : ∀ (ts : List Nat) (k : Nat), k + ts.length < 2 ^ 31 → swP go d x k ts → (∀ (j q : Nat), ts[j]? = some q → x = nI (k + j) → go q) ∧ ((∀ j : Nat, j < ts.length → ¬ x = nI (k + j)) → go d)
  | [], k, _, h => ⟨fun j q hj => by simp at hj, fun _ => h⟩
  | q0 :: r, k, hk, h => by
    have hk' : k + 1 + r.length < 2 ^ 31 := by simp only [List.length_cons] at hk; omega
    unfold swP at h
    by_cases hx : x = nI k
    · rw [if_pos hx] at h
      refine ⟨fun j q hj hxj => ?_, fun z => absurd hx (z 0 (by simp))⟩
      have : k = k + j := (nI_eq (by omega) (by simp only [List.length_cons] at hk; have := (List.getElem?_eq_some_iff.mp hj).1; simp only [List.length_cons] at this; omega)).mp (hx.symm.trans hxj)
      have hj0 : j = 0 := by omega
      subst hj0
      cases hj
      exact h
    · rw [if_neg hx] at h
      obtain ⟨h1, h2⟩ := swP_spec r (k + 1) hk' h
      refine ⟨fun j q hj hxj => ?_, fun z => h2 fun j hj => ?_⟩
      · cases j with
        | zero => exact absurd hxj hx
        | succ j => exact h1 j q hj (by rw [hxj]; congr 1; omega)
      · have h3 := z (j + 1) (by simp only [List.length_cons]; omega)
        rw [show k + 1 + j = k + (j + 1) by omega]
        exact h3
theorem go_switch (hx : p.tables.exec = Jvm.exec) (hb : c.code = b) {x : Int32} {d lo hi : Int} {offs : Array Int} {len tgt : Nat} {ts : List Nat} (hd : decode b pc = .ok (.tableswitch d lo hi offs, len)) (h0 : lo = 0) (h1 : hi + 1 = (ts.length : Int)) (ht : (pc : Int) + d = (tgt : Int)) (hts9 : ∀ (j q : Nat), ts[j]? = some q → ∃ o, offs[j]? = some o ∧ (pc : Int) + o = (q : Int)) (hl9 : ts.length < 1000) (h : swP (fun q => Wat p l e R s m args below meth c Q D X ad A M nL q loc st t cl sl) tgt x 0 ts) : Wat p l e R s m args below meth c Q D X ad A M nL pc loc (.inl x :: st) t cl sl := fun H locs ls hW hS hl => by
  obtain ⟨k1, k2⟩ := swP_spec ts 0 (by omega) h
  subst h0
  by_cases hr : x.toInt < 0 ∨ hi < x.toInt
  · refine lv_tableOut hx hb hd hr ht (k2 (fun j hj z => ?_) H locs ls hW hS hl)
    have hz : x.toInt = (j : Int) := by rw [z, Nat.zero_add, nI_toInt (by omega)]
    omega
  · obtain ⟨e1, e2⟩ := nI_of_range (x := x) (n := ts.length) (by omega) (by omega)
    obtain ⟨q, hq⟩ : ∃ q, ts[x.toInt.toNat]? = some q := ⟨_, List.getElem?_eq_getElem e2⟩
    obtain ⟨o, ho, hoq⟩ := hts9 _ _ hq
    exact lv_tableIn hx hb hd (by omega) (by omega) (by rw [Int.sub_zero]; exact ho) hoq (k1 _ _ hq (by rw [Nat.zero_add]; exact e1) H locs ls hW hS hl)
end SND

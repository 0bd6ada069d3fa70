/-! calls, ends, one step, a whole body -/
def Q9 (D : va_G) (X : Nat → ClassId) (ad : Nat → Nat → Nat) (A : Nat → Prop) (M : Nat → Nat → Bool) (post : Option VV → TT → Prop) : Array Value → State → Outcome → State → Prop := fun _ st oc u => (∃ (v : Option VV) (t : TT), oc = .returned (v.map (toV ad)) ∧ post v t ∧ SW D X ad A M t u.heap) ∧ va_F A st u
def X9 (D : va_G) (X : Nat → ClassId) (ad : Nat → Nat → Nat) (A : Nat → Prop) (M : Nat → Nat → Bool) (px : String → TT → Prop) : String → State → State → Prop := fun E st u => (∃ t : TT, px E t ∧ SW D X ad A M t u.heap) ∧ va_F A st u
def CallOK (p : Program) (l : Launch) (e : Env) (R : Room) (s : State) (m : MethodId) (args : Array Value) (below : List Frame) (meth : Method) (c : Code) (Q : State → Prop) (D : va_G) (X : Nat → ClassId) (ad : Nat → Nat → Nat) (A : Nat → Prop) (M : Nat → Nat → Bool) (nL : Nat) (b : ByteArray) (mc ms : Nat) (ins : Instr) (mc1 ms1 : Nat) (as : List VV) (t : TT) (k : Option VV → TT → Prop) (kx : String → TT → Prop) : Prop :=
  ∀ (H : Heap) (locs : List Loc) (ls : Array Slot) (pc : Nat) (rest : List VV) (cl sl : Nat), SW D X ad A M t H → va_S A s.heap H locs → ls.size = nL → rest.length ≤ 8 → cl + mc1 ≤ mc → sl + ms1 ≤ ms → decode b pc = .ok (ins, 3) →
    (∀ (v : Option VV) (t1 : TT) (H1 : Heap) (locs1 : List Loc), k v t1 → SW D X ad A M t1 H1 → va_S A s.heap H1 locs1 → W p l e R s m args below meth c H1 locs1 (cl + mc1) (sl + ms1) Q (F0 m (pc + 3) ls ((v.toList ++ rest).map (toV ad)))) →
    (∀ (E : String) (ce : Cell) (q : Addr) (t1 : TT) (H1 : Heap) (locs1 : List Loc), kx E t1 → SW D X ad A M t1 H1 → va_S A s.heap H1 locs1 → H1[q]? = some ce → ce.vm = .none → s.vm.findClass E = some ce.cls → vx_W p l e R s m args below meth c H1 locs1 (cl + mc1) (sl + ms1) Q (F0 m pc ls (rest.map (toV ad))) q) →
    W p l e R s m args below meth c H locs cl sl Q (F0 m pc ls ((as.reverse ++ rest).map (toV ad)))
theorem cat_sum (ad : Nat → Nat → Nat) : ∀ st : List VV, ((st.map (toV ad)).map fun v => v.category).sum = st.length
  | [] => rfl
  | v :: r => by
    rw [List.map_cons, List.map_cons, List.sum_cons, cat_sum ad r, toV_cat, List.length_cons]
    omega
theorem coer_val {ad : Nat → Nat → Nat} {kd kp : Nat} {v : VV} {f : VV → Prop} (h : coer kd kp v f) : ∃ w, f w ∧ toV ad w = toV ad v := by
  unfold coer at h
  split at h
  · exact ⟨_, h, rfl⟩
  · next r =>
    cases hq : r.1 == kp with
    | false => rw [hq] at h; exact h.elim
    | true =>
      rw [hq] at h
      have e : r.1 = kp := by simpa using hq
      refine ⟨_, h, ?_⟩
      rw [← e]
  · next r =>
    cases hq : r.1 == kp with
    | false => rw [hq] at h; exact h.elim
    | true =>
      rw [hq] at h
      have e : r.1 = kp := by simpa using hq
      refine ⟨_, h.2, ?_⟩
      have h3 := h.1
      show toQ ad kp (nI r.2) = .ref (ad r.1 r.2)
      unfold toQ
      rw [if_neg (by intro z; have := nI_toInt (n := r.2) (by omega); rw [z] at this; have e1 : (-1 : Int32).toInt = -1 := by decide +kernel
                     omega), nI_clamp (by omega), e]
  · next r =>
    cases hq : r.1 == kp with
    | false => rw [hq] at h; exact h.elim
    | true =>
      rw [hq] at h
      have e : r.1 = kp := by simpa using hq
      refine ⟨_, h, ?_⟩
      show toQ ad kp r.2 = toQ ad r.1 r.2
      rw [e]
  · next k r =>
    cases hq : (r.1 == kp && r.2 == k) with
    | false => rw [hq] at h; exact h.elim
    | true =>
      rw [hq] at h
      simp only [Bool.and_eq_true, beq_iff_eq] at hq
      refine ⟨_, h, ?_⟩
      rw [← hq.1, ← hq.2]
  · exact h.elim
theorem getAll_val {ad : Nat → Nat → Nat} {loc : Loc9} : ∀ {sp : List (Nat × Nat × Nat)} {f : List VV → Prop}, getAll loc sp f → ∃ vs, f vs ∧ ∀ q ∈ locV ad (List.zip (sp.map (·.1)) vs), q ∈ locV ad loc
  | [], f, h => ⟨[], h, fun q hq => by simp [locV] at hq⟩
  | q :: r, f, h => by
    unfold getAll at h
    split at h
    · next v hv =>
      obtain ⟨w, hw, ew⟩ := coer_val (ad := ad) h
      obtain ⟨ws, h1, h2⟩ := getAll_val hw
      refine ⟨w :: ws, h1, fun x hx => ?_⟩
      rcases List.mem_cons.mp hx with z | z
      · rw [z]
        show (q.1, toV ad w) ∈ _
        rw [ew]
        exact lk_mem hv
      · exact h2 x z
    · exact h.elim
theorem stkAll_val {ad : Nat → Nat → Nat} : ∀ {st : List VV} {sp : List (Nat × Nat)} {f : List VV → Prop}, stkAll st sp f → ∃ ws, f ws ∧ ws.map (toV ad) = st.map (toV ad)
  | [], [], f, h => ⟨[], h, rfl⟩
  | v :: r, q :: sp, f, h => by
    unfold stkAll at h
    obtain ⟨w, hw, ew⟩ := coer_val (ad := ad) h
    obtain ⟨ws, h1, h2⟩ := stkAll_val hw
    exact ⟨w :: ws, h1, by rw [List.map_cons, List.map_cons, ew, h2]⟩
  | [], _ :: _, _, h => h.elim
  | _ :: _, [], _, h => h.elim
theorem drf_val {ad : Nat → Nat → Nat} {v : VV} {f : Nat → Nat → Prop} (h : drf v f) : ∃ kp i, f kp i ∧ toV ad v = .ref (ad kp i) := by
  unfold drf at h
  split at h
  · exact h.elim
  · exact ⟨_, _, h, rfl⟩
  · next r => exact ⟨_, _, h.2, if_neg h.1⟩
theorem nar_isB {x : Int32} (h : isB x) : narrow .boolean (.int x) = .int x := by
  rcases h with rfl | rfl <;> rfl

theorem blt_lt {a b : Nat} (h : Nat.blt a b = true) : a < b := Nat.le_of_ble_eq_true h
theorem swP_mono {g1 g2 : Nat → Prop} {d : Nat} {x : Int32} (hg : ∀ q, g1 q → g2 q) : ∀ {k : Nat} {ts : List Nat}, swP g1 d x k ts → swP g2 d x k ts
  | _, [], h => hg _ h
  | k, q :: r, h => by
    unfold swP at h ⊢
    split at h
    · next z => rw [if_pos z]; exact hg _ h
    · next z => rw [if_neg z]; exact swP_mono hg h
theorem gfP_spec {M : Nat → Nat → Bool} {o : Option (Nat × Nat)} {t : TT} {kp i : Nat} {k : VV → Prop} (h : gfP M o t kp i k) : ∃ (f : Nat) (e : Nat × Nat), o = some (kp, f) ∧ kp = kp ∧ M kp i = true ∧ (FL kp)[f]? = some e ∧ k (fvv t i e) := by
  unfold gfP at h
  split at h
  · exact h.elim
  · next f =>
    cases hq : f.1 == kp with
    | false => rw [hq] at h; exact h.elim
    | true =>
      rw [hq] at h
      have e1 : f.1 = kp := by simpa using hq
      obtain ⟨a, b9⟩ := f
      dsimp only at e1 h
      subst e1
      obtain ⟨h1, h2⟩ := h
      split at h2
      · next e he => exact ⟨b9, e, rfl, rfl, h1, he, h2⟩
      · exact h2.elim
theorem pfP_spec {M : Nat → Nat → Bool} {ad : Nat → Nat → Nat} {fld : Nat → Option (Nat × Nat)} {ix : Nat} (hobj : ∀ ix f, fld ix = some f → isObj f.1) {kp i : Nat} {v : VV} {k : Nat → Int32 → Prop} (h : pfP M (fld ix) kp i v k) : ∃ (f : Nat) (e : Nat × Nat) (x : Int32), fld ix = some (kp, f) ∧ kp = kp ∧ isFin kp f = false ∧ M kp i = true ∧ (FL kp)[f]? = some e ∧ (e.1 = 0 ∨ e.1 = 2) ∧ (∀ t : TT, toV ad v = toV ad (fvv (up2 t e.2 i x) i e)) ∧ narrow (tyXk kp f) (toV ad v) = toV ad v ∧ fits (tyXk kp f) (toV ad v) = true ∧ k e.2 x := by
  cases hfx : fld ix with
  | none => rw [hfx] at h; exact h.elim
  | some f =>
    have ho := hobj ix f hfx
    rw [hfx] at h
    unfold pfP at h
    dsimp only at h
    cases hq : (f.1 == kp && !isFin f.1 f.2) with
    | false => rw [hq] at h; exact h.elim
    | true =>
      rw [hq] at h
      simp only [Bool.and_eq_true, beq_iff_eq, Bool.not_eq_true'] at hq
      obtain ⟨e1, hfin⟩ := hq
      obtain ⟨a, b9⟩ := f
      dsimp only at e1 h hfin ho
      subst e1
      obtain ⟨h1, h2⟩ := h
      split at h2
      · exact h2.elim
      · next e he =>
        have hk := (List.getElem?_eq_some_iff.mp he).1
        have hkk := obj_kinds ho b9 hk hfin
        obtain ⟨e0, e2⟩ := e
        dsimp only at h2
        split at h2
        · next x =>
          have h3 := (hkk.1 _ he rfl).1
          cases hB : isBf a b9 with
          | false =>
            rw [hB] at h2 h3
            refine ⟨b9, _, x, rfl, rfl, hfin, h1, he, Or.inl rfl, fun t => ?_, ?_, ?_, h2⟩
            · simp only [fvv, up2_same]
            · rw [h3]; rfl
            · rw [h3]; rfl
          | true =>
            rw [hB] at h2 h3
            refine ⟨b9, _, x, rfl, rfl, hfin, h1, he, Or.inl rfl, fun t => ?_, ?_, ?_, h2.2⟩
            · simp only [fvv, up2_same]
            · rw [h3]; exact nar_isB h2.1
            · rw [h3]
              rcases h2.1 with z | z <;> rw [z] <;> rfl
        · next q =>
          have h3 := (hkk.2 _ he rfl).1
          cases hq : q.1 == 5 with
          | false => rw [hq] at h2; exact h2.elim
          | true =>
            rw [hq] at h2
            have e5 : q.1 = 5 := by simpa using hq
            refine ⟨b9, _, nI q.2, rfl, rfl, hfin, h1, he, Or.inr rfl, fun t => ?_, ?_, ?_, h2.2⟩
            · obtain ⟨w, hw, ew⟩ := coer_val (ad := ad) (kd := 2) (kp := 5) (v := .inr (.inl q)) (f := fun w => w = .inr (.inr (5, nI q.2))) (by show (bif q.1 == 5 then _ else False); rw [hq]; exact ⟨h2.1, rfl⟩)
              rw [← ew, hw]
              simp only [fvv, up2_same]
            · rw [h3]; rfl
            · rw [h3]; rfl
        · next q =>
          have h3 := (hkk.2 _ he rfl).1
          cases hq : q.1 == 5 with
          | false => rw [hq] at h2; exact h2.elim
          | true =>
            rw [hq] at h2
            have e5 : q.1 = 5 := by simpa using hq
            refine ⟨b9, _, q.2, rfl, rfl, hfin, h1, he, Or.inr rfl, fun t => ?_, ?_, ?_, h2⟩
            · simp only [fvv, up2_same]
              show toQ ad q.1 q.2 = toQ ad 5 q.2
              rw [e5]
            · rw [h3]
              show narrow _ (toQ ad q.1 q.2) = toQ ad q.1 q.2
              unfold toQ
              split <;> rfl
            · rw [h3]
              show fits _ (toQ ad q.1 q.2) = true
              unfold toQ
              split <;> rfl
        · exact h2.elim
section STP
variable {p : Program} {l : Launch} {e : Env} {R : Room} {s : State} {m : MethodId} {args : Array Value} {below : List Frame} {meth : Method} {c : Code} {D : va_G} {X : Nat → ClassId} {ad : Nat → Nat → Nat} {A : Nat → Prop} {M : Nat → Nat → Bool} {nL : Nat} {b : ByteArray} {mc ms : Nat} {post : Option VV → TT → Prop} {px : String → TT → Prop}
theorem Wat.congr {Q : State → Prop} {pc : Nat} {loc loc' : Loc9} {st st' : List VV} {t : TT} {cl sl : Nat} (hl : ∀ q ∈ locV ad loc', q ∈ locV ad loc) (hs : st'.map (toV ad) = st.map (toV ad)) (h : Wat p l e R s m args below meth c Q D X ad A M nL pc loc' st' t cl sl) : Wat p l e R s m args below meth c Q D X ad A M nL pc loc st t cl sl := by
  intro H locs ls hW hS hL
  rw [← hs]
  exact h H locs ls hW hS ⟨hL.1, hL.2.1, fun q hq => hL.2.2 q (hl q hq)⟩
/-- what a method's end owes -/
abbrev QM (below : List Frame) (args : Array Value) (s : State) (D : va_G) (X : Nat → ClassId) (ad : Nat → Nat → Nat) (A : Nat → Prop) (M : Nat → Nat → Bool) (mc ms : Nat) (post : Option VV → TT → Prop) (px : String → TT → Prop) : State → Prop := vx_MQ below (Q9 D X ad A M post) (X9 D X ad A M px) args s mc ms A
def rkOK (meth : Method) (rk : Nat) : Prop := match rk with
  | 0 => meth.sig.returnType = none
  | 1 => meth.sig.returnType = some .int
  | 2 => meth.sig.returnType = some .boolean
  | 3 => meth.sig.returnType = some (.object "HeadwayDeep$Train")
  | _ => True
theorem end_int {rk : Nat} {pc : Nat} {loc : Loc9} {x : Int32} {t : TT} {cl sl : Nat} (hx : p.tables.exec = Jvm.exec) (hb : c.code = b) (hr : rkOK meth rk) (hlocks : meth.locks = false) (hd : decode b pc = .ok (.ireturn, 1)) (hrk : rk = 1 ∨ (rk = 2 ∧ isB x)) (hc : cl ≤ mc) (hs : sl ≤ ms) (h : post (some (.inl x)) t) : Wat p l e R s m args below meth c (QM below args s D X ad A M mc ms post px) D X ad A M nL pc loc [.inl x] t cl sl := by
  intro H locs ls hW hS hl
  refine W.widen (k := mc) (n := ms) hc hs (vx_ret ?_)
  have hq : ∀ u : State, u.heap = H → s.WarmedH u.vm → Q9 D X ad A M post args s (.returned (some (.int x))) u := fun u hu hw => ⟨⟨some (.inl x), t, rfl, h, by rw [hu]; exact hW⟩, hS.F hu⟩
  rcases hrk with rfl | ⟨rfl, hB⟩
  · exact W.iret hx hb hr hq hS.2.2 hd hlocks
  · exact W.zret hx hb hr (nar_isB hB) hq hS.2.2 hd hlocks
theorem end_void {pc : Nat} {loc : Loc9} {t : TT} {cl sl : Nat} (hx : p.tables.exec = Jvm.exec) (hb : c.code = b) (hr : rkOK meth 0) (hlocks : meth.locks = false) (hd : decode b pc = .ok (.return_, 1)) (hc : cl ≤ mc) (hs : sl ≤ ms) (h : post none t) : Wat p l e R s m args below meth c (QM below args s D X ad A M mc ms post px) D X ad A M nL pc loc [] t cl sl := by
  intro H locs ls hW hS hl
  refine W.widen (k := mc) (n := ms) hc hs (vx_ret ?_)
  exact W.vret hx hb hr (fun u hu hw => ⟨⟨none, t, rfl, h, by rw [hu]; exact hW⟩, hS.F hu⟩) hS.2.2 hd hlocks
theorem end_ref {pc : Nat} {loc : Loc9} {q : Nat × Int32} {t : TT} {cl sl : Nat} (hx : p.tables.exec = Jvm.exec) (hb : c.code = b) (hr : rkOK meth 3) (hlocks : meth.locks = false) (hd : decode b pc = .ok (.areturn, 1)) (hc : cl ≤ mc) (hs : sl ≤ ms) (h : post (some (.inr (.inr q))) t) : Wat p l e R s m args below meth c (QM below args s D X ad A M mc ms post px) D X ad A M nL pc loc [.inr (.inr q)] t cl sl := by
  intro H locs ls hW hS hl
  refine W.widen (k := mc) (n := ms) hc hs (vx_ret ?_)
  have hv : toV ad (.inr (.inr q)) = .null ∨ ∃ a, toV ad (.inr (.inr q)) = .ref a := by
    show toQ ad q.1 q.2 = .null ∨ ∃ a, toQ ad q.1 q.2 = .ref a
    unfold toQ
    split
    · exact Or.inl rfl
    · exact Or.inr ⟨_, rfl⟩
  exact W.aret hx hb hr (Or.inl ⟨_, rfl⟩) hv (fun u hu hw => ⟨⟨some (.inr (.inr q)), t, rfl, h, by rw [hu]; exact hW⟩, hS.F hu⟩) hS.2.2 hd hlocks

theorem end_throw {t : TT} {H : Heap} {locs : List Loc} {ls : Array Slot} {pc : Nat} {rest : List Value} {cl sl : Nat} {E : String} {ce : Cell} {q : Addr} (hnt : ∀ x ∈ c.exceptionTable.toList, False) (hlocks : meth.locks = false) (h : px E t) (hW : SW D X ad A M t H) (hS : va_S A s.heap H locs) (hc : H[q]? = some ce) (hv : ce.vm = .none) (hcl : s.vm.findClass E = some ce.cls) (h1 : cl ≤ mc) (h2 : sl ≤ ms) : vx_W p l e R s m args below meth c H locs cl sl (QM below args s D X ad A M mc ms post px) (F0 m pc ls rest) q :=
  vx_out (fun x hx => (hnt x hx).elim) hlocks hc hv hcl (fun u hu _ => ⟨⟨t, h, by rw [hu]; exact hW⟩, hS.F hu⟩) hS.2.2 h1 h2
theorem go_call {pc : Nat} {loc : Loc9} {st : List VV} {t : TT} {cl sl mc1 ms1 n : Nat} {ins : Instr} {k : Option VV → TT → Prop} (hnt : ∀ x ∈ c.exceptionTable.toList, False) (hlocks : meth.locks = false) (hd : decode b pc = .ok (ins, 3)) (h8 : st.length - n ≤ 8) (hc : cl + mc1 ≤ mc) (hs : sl + ms1 ≤ ms)
    (hcall : CallOK p l e R s m args below meth c (QM below args s D X ad A M mc ms post px) D X ad A M nL b mc ms ins mc1 ms1 (st.take n).reverse t k px)
    (hk : ∀ v t1, k v t1 → Wat p l e R s m args below meth c (QM below args s D X ad A M mc ms post px) D X ad A M nL (pc + 3) loc (v.toList ++ st.drop n) t1 (cl + mc1) (sl + ms1)) : Wat p l e R s m args below meth c (QM below args s D X ad A M mc ms post px) D X ad A M nL pc loc st t cl sl := by
  intro H locs ls hW hS hl
  have h := hcall H locs ls pc (st.drop n) cl sl hW hS hl.1 (by rw [List.length_drop]; exact h8) hc hs hd
    (fun v t1 H1 locs1 h1 hW1 hS1 => hk v t1 h1 H1 locs1 ls hW1 hS1 hl)
    (fun E ce q t1 H1 locs1 h1 hW1 hS1 g1 g2 g3 => end_throw hnt hlocks h1 hW1 hS1 g1 g2 g3 hc hs)
  rw [List.reverse_reverse, List.take_append_drop] at h
  exact h
theorem tab_sw {pc : Nat} {ts : List Nat} {offs : Array Int} (h : (List.range ts.length).all (fun j => match offs[j]?, ts[j]? with | some o, some q => decide ((pc : Int) + o = (q : Int)) | _, _ => false) = true) : ∀ (j q : Nat), ts[j]? = some q → ∃ o, offs[j]? = some o ∧ (pc : Int) + o = (q : Int) := by
  intro j q hj
  have h1 := List.all_eq_true.mp h j (List.mem_range.mpr (List.getElem?_eq_some_iff.mp hj).1)
  rw [hj] at h1
  cases ho : offs[j]? with
  | none => rw [ho] at h1; cases h1
  | some o => rw [ho] at h1; exact ⟨o, rfl, of_decide_eq_true h1⟩

theorem step_sound (hx : p.tables.exec = Jvm.exec) (hb : c.code = b) {own : String} (hts : ∀ w ∈ LT, w.before args s = true) (hown : s.vm.findClass own = some m.cls) (hK : va_K D vwCl (TYX X) s) (hnt : ∀ x ∈ c.exceptionTable.toList, False) (hlocks : meth.locks = false) {rk : Nat} (hr : rkOK meth rk)
    {fld : Nat → Option (Nat × Nat)} (hfld : ∀ ix f, fld ix = some f → fldOK own ix f) {nA : Bool → Nat → Option (Nat × Nat × Nat)} {PC : Nat → List VV → TT → (Option VV → TT → Prop) → (String → TT → Prop) → Prop}
    (hpay : ∀ (v9 : Bool) (ix n mc1 ms1 : Nat) (as : List VV) (t : TT) (k : Option VV → TT → Prop), nA v9 ix = some (n, mc1, ms1) → as.length = n → PC ix as t k px → CallOK p l e R s m args below meth c (QM below args s D X ad A M mc ms post px) D X ad A M nL b mc ms (if v9 = true then .invokevirtual ix else .invokestatic ix) mc1 ms1 as t k px)
    {en : Ent} {pc : Nat} (hen : entOK b pc en = true) {loc : Loc9} {st : List VV} {t : TT} {cl sl : Nat} {go : Nat → Loc9 → List VV → TT → Nat → Nat → Prop} (hgo : ∀ pc1 loc1 st1 t1 cl1 sl1, go pc1 loc1 st1 t1 cl1 sl1 → Wat p l e R s m args below meth c (QM below args s D X ad A M mc ms post px) D X ad A M nL pc1 loc1 st1 t1 cl1 sl1)
    (h : stepP M nL fld nA PC rk mc ms post px en.1 pc en.2.2.1 en.2.2.2.1 en.2.2.2.2 loc st t cl sl go) : Wat p l e R s m args below meth c (QM below args s D X ad A M mc ms post px) D X ad A M nL pc loc st t cl sl := by
  obtain ⟨ins, len, tgt, imm, ts⟩ := en
  dsimp only at h
  unfold entOK at hen
  simp only [Bool.and_eq_true, decide_eq_true_eq] at hen
  obtain ⟨hd, he⟩ := hen
  unfold stepP at h
  split at h <;> (try dsimp only at hd he) <;> (try simp only [Bool.and_eq_true, decide_eq_true_eq] at he)
  · subst he
    split at h
    · next hk => exact go_aload hx hb hd hk (hgo _ _ _ _ _ _ h)
    · exact h.elim
  · subst he
    split at h
    · next hk => exact go_aload2 hx hb hd hk (hgo _ _ _ _ _ _ h)
    · exact h.elim
  · subst he
    split at h
    · next hk => exact go_iload hx hb hd hk (hgo _ _ _ _ _ _ h)
    · exact h.elim
  · subst he
    split at h
    · next hk => exact go_iload2 hx hb hd hk (hgo _ _ _ _ _ _ h)
    · exact h.elim
  · subst he
    split at h
    · cases hn : Nat.blt _ nL with
      | false => rw [hn] at h; exact h.elim
      | true => rw [hn] at h; exact go_istore hx hb hd (blt_lt hn) (hgo _ _ _ _ _ _ h)
    · exact h.elim
  · subst he
    split at h
    · cases hn : Nat.blt _ nL with
      | false => rw [hn] at h; exact h.elim
      | true => rw [hn] at h; exact go_istore2 hx hb hd (blt_lt hn) (hgo _ _ _ _ _ _ h)
    · exact h.elim
  · subst he
    split at h
    · cases hn : Nat.blt _ nL with
      | false => rw [hn] at h; exact h.elim
      | true => rw [hn] at h; exact go_astore hx hb hd (blt_lt hn) (hgo _ _ _ _ _ _ h)
    · exact h.elim
  · subst he
    split at h
    · cases hn : Nat.blt _ nL with
      | false => rw [hn] at h; exact h.elim
      | true => rw [hn] at h; exact go_astore2 hx hb hd (blt_lt hn) (hgo _ _ _ _ _ _ h)
    · exact h.elim
  · obtain ⟨rfl, hv⟩ := he
    exact go_iconst hx hb hd hv (hgo _ _ _ _ _ _ h)
  · obtain ⟨rfl, hv⟩ := he
    exact go_bipush hx hb hd hv (hgo _ _ _ _ _ _ h)
  · obtain ⟨rfl, hv⟩ := he
    exact go_sipush hx hb hd hv (hgo _ _ _ _ _ _ h)
  · obtain ⟨rfl, hv⟩ := he
    split at h
    · next hk =>
      cases hn : Nat.blt _ nL with
      | false => rw [hn] at h; exact h.elim
      | true => rw [hn] at h; exact go_iinc hx hb hd hv hk (blt_lt hn) (hgo _ _ _ _ _ _ h)
    · exact h.elim
  · subst he
    split at h
    · exact go_iadd hx hb hd (hgo _ _ _ _ _ _ h)
    · exact h.elim
  · subst he
    split at h
    · exact go_isub hx hb hd (hgo _ _ _ _ _ _ h)
    · exact h.elim
  · subst he
    split at h
    · exact go_imul hx hb hd (hgo _ _ _ _ _ _ h)
    · exact h.elim
  · subst he
    split at h
    · exact go_idiv hx hb hd h.1 (hgo _ _ _ _ _ _ h.2)
    · exact h.elim
  · subst he
    split at h
    · exact go_irem hx hb hd h.1 (hgo _ _ _ _ _ _ h.2)
    · exact h.elim
  · subst he
    split at h
    · exact go_pop hx hb hd (hgo _ _ _ _ _ _ h)
    · exact h.elim
  · subst he
    split at h
    · exact go_iand hx hb hd (hgo _ _ _ _ _ _ h)
    · exact h.elim
  · subst he
    split at h
    · exact go_ior hx hb hd (hgo _ _ _ _ _ _ h)
    · exact h.elim
  · subst he
    split at h
    · exact go_ixor hx hb hd (hgo _ _ _ _ _ _ h)
    · exact h.elim
  · subst he
    split at h
    · exact go_ishr hx hb hd (hgo _ _ _ _ _ _ h)
    · exact h.elim
  · subst he
    split at h
    · exact go_i2b hx hb hd (hgo _ _ _ _ _ _ h)
    · exact h.elim
  · subst he
    split at h
    · exact go_dup hx hb hd (hgo _ _ _ _ _ _ h)
    · exact h.elim
  · subst he
    split at h
    · exact go_dup2 hx hb hd (hgo _ _ _ _ _ _ h)
    · exact h.elim
  · subst he
    split at h
    · obtain ⟨kp, i, h1, hv⟩ := drf_val (ad := ad) h
      obtain ⟨f, e, hf, -, hi, he, h2⟩ := gfP_spec h1
      exact go_get hx hb hts hown hK (hfld _ _ hf) hd hi he hv (hgo _ _ _ _ _ _ h2)
    · exact h.elim
  · subst he
    split at h
    · obtain ⟨kp, i, h1, hv⟩ := drf_val (ad := ad) h
      obtain ⟨f, e, x, hf, -, hfin, hi, he, h02, hval, hnr, hft, h2⟩ := pfP_spec (ad := ad) (hobj := fun ix f h => (hfld ix f h).1) h1
      exact go_put hx hb hts hown hK (hfld _ _ hf) hfin hd hi he hv h02 (hval _) hnr hft (hgo _ _ _ _ _ _ h2)
    · exact h.elim
  · subst he
    split at h
    · exact go_bald9 hx hb hK hd h.1.1 h.1.2 (hgo _ _ _ _ _ _ h.2)
    · exact go_bald10 hx hb hK hd h.1.1 h.1.2 (hgo _ _ _ _ _ _ h.2)
    · exact h.elim
  · subst he
    split at h
    · exact go_bast9 hx hb hK hd h.1.1 h.1.2 (hgo _ _ _ _ _ _ h.2)
    · exact go_bast10 hx hb hK hd h.1.1 h.1.2 (hgo _ _ _ _ _ _ h.2)
    · exact h.elim
  · subst he
    split at h
    · next x q r =>
      cases hq : Nat.ble 1 q.1 && Nat.ble q.1 4 with
      | false => rw [hq] at h; exact h.elim
      | true =>
        rw [hq] at h
        simp only [Bool.and_eq_true] at hq
        exact go_aald hx hb hK ⟨Nat.le_of_ble_eq_true hq.1, Nat.le_of_ble_eq_true hq.2⟩ hd h.1.1 h.1.2.1 h.1.2.2 (hgo _ _ _ _ _ _ h.2)
    · exact h.elim
  · subst he
    split at h
    · next q r =>
      cases hq : (q.1 == 9 || q.1 == 10) with
      | false => rw [hq] at h; exact h.elim
      | true =>
        rw [hq] at h
        exact go_alen hx hb hK (by simpa using hq) hd h.1 (hgo _ _ _ _ _ _ h.2)
    · exact h.elim
  · obtain ⟨rfl, ht⟩ := he
    split at h
    · split at h
      · exact go_icmp_eq hx hb hd ht (fun z => hgo _ _ _ _ _ _ (by rw [if_pos z] at h; exact h)) (fun z => hgo _ _ _ _ _ _ (by rw [if_neg z] at h; exact h))
      · exact go_icmp_ne hx hb hd ht (fun z => hgo _ _ _ _ _ _ (by rw [if_neg z] at h; exact h)) (fun z => hgo _ _ _ _ _ _ (by rw [if_pos z] at h; exact h))
      · exact go_icmp_lt hx hb hd ht (fun z => hgo _ _ _ _ _ _ (by rw [if_pos z] at h; exact h)) (fun z => hgo _ _ _ _ _ _ (by rw [if_neg z] at h; exact h))
      · exact go_icmp_ge hx hb hd ht (fun z => hgo _ _ _ _ _ _ (by rw [if_pos z] at h; exact h)) (fun z => hgo _ _ _ _ _ _ (by rw [if_neg z] at h; exact h))
      · exact go_icmp_gt hx hb hd ht (fun z => hgo _ _ _ _ _ _ (by rw [if_pos z] at h; exact h)) (fun z => hgo _ _ _ _ _ _ (by rw [if_neg z] at h; exact h))
      · exact go_icmp_le hx hb hd ht (fun z => hgo _ _ _ _ _ _ (by rw [if_pos z] at h; exact h)) (fun z => hgo _ _ _ _ _ _ (by rw [if_neg z] at h; exact h))
    · exact h.elim
  · obtain ⟨rfl, ht⟩ := he
    split at h
    · split at h
      · exact go_if_eq hx hb hd ht (fun z => hgo _ _ _ _ _ _ (by rw [if_pos z] at h; exact h)) (fun z => hgo _ _ _ _ _ _ (by rw [if_neg z] at h; exact h))
      · exact go_if_ne hx hb hd ht (fun z => hgo _ _ _ _ _ _ (by rw [if_neg z] at h; exact h)) (fun z => hgo _ _ _ _ _ _ (by rw [if_pos z] at h; exact h))
      · exact go_if_lt hx hb hd ht (fun z => hgo _ _ _ _ _ _ (by rw [if_pos z] at h; exact h)) (fun z => hgo _ _ _ _ _ _ (by rw [if_neg z] at h; exact h))
      · exact go_if_ge hx hb hd ht (fun z => hgo _ _ _ _ _ _ (by rw [if_pos z] at h; exact h)) (fun z => hgo _ _ _ _ _ _ (by rw [if_neg z] at h; exact h))
      · exact go_if_gt hx hb hd ht (fun z => hgo _ _ _ _ _ _ (by rw [if_pos z] at h; exact h)) (fun z => hgo _ _ _ _ _ _ (by rw [if_neg z] at h; exact h))
      · exact go_if_le hx hb hd ht (fun z => hgo _ _ _ _ _ _ (by rw [if_pos z] at h; exact h)) (fun z => hgo _ _ _ _ _ _ (by rw [if_neg z] at h; exact h))
    · exact h.elim
  · obtain ⟨rfl, ht⟩ := he
    split at h
    · exact go_ifnullO hx hb hd (hgo _ _ _ _ _ _ h)
    · exact go_ifnull hx hb hd ht (fun z => hgo _ _ _ _ _ _ (by rw [if_pos z] at h; exact h)) (fun z => hgo _ _ _ _ _ _ (by rw [if_neg z] at h; exact h))
    · exact h.elim
  · obtain ⟨rfl, ht⟩ := he
    split at h
    · exact go_ifnonnullO hx hb hd ht (hgo _ _ _ _ _ _ h)
    · exact go_ifnonnull hx hb hd ht (fun z => hgo _ _ _ _ _ _ (by rw [if_pos z] at h; exact h)) (fun z => hgo _ _ _ _ _ _ (by rw [if_neg z] at h; exact h))
    · exact h.elim
  · obtain ⟨rfl, ht⟩ := he
    exact go_goto hx hb hd ht (hgo _ _ _ _ _ _ h)
  · obtain ⟨⟨⟨h0, h1, ht⟩, hall⟩, hl9⟩ := he
    split at h
    · exact go_switch hx hb hd h0 h1 ht (tab_sw hall) hl9 (swP_mono (fun q hq => hgo _ _ _ _ _ _ hq) h)
    · exact h.elim
  · subst he
    exact go_null hx hb hd (hgo _ _ _ _ _ _ h)
  · subst he
    split at h
    · next q hq =>
      cases hg : (Nat.ble q.1 st.length && Nat.ble (st.length - q.1) 8 && Nat.ble (cl + q.2.1) mc && Nat.ble (sl + q.2.2) ms) with
      | false => rw [hg] at h; exact h.elim
      | true =>
        rw [hg] at h
        simp only [Bool.and_eq_true] at hg
        obtain ⟨⟨⟨g1, g2⟩, g3⟩, g4⟩ := hg
        exact go_call hnt hlocks hd (Nat.le_of_ble_eq_true g2) (Nat.le_of_ble_eq_true g3) (Nat.le_of_ble_eq_true g4) (hpay true _ _ _ _ _ _ _ hq (by rw [List.length_reverse, List.length_take]; exact Nat.min_eq_left (Nat.le_of_ble_eq_true g1)) h) (fun v t1 z => hgo _ _ _ _ _ _ z)
    · exact h.elim
  · subst he
    split at h
    · next q hq =>
      cases hg : (Nat.ble q.1 st.length && Nat.ble (st.length - q.1) 8 && Nat.ble (cl + q.2.1) mc && Nat.ble (sl + q.2.2) ms) with
      | false => rw [hg] at h; exact h.elim
      | true =>
        rw [hg] at h
        simp only [Bool.and_eq_true] at hg
        obtain ⟨⟨⟨g1, g2⟩, g3⟩, g4⟩ := hg
        exact go_call hnt hlocks hd (Nat.le_of_ble_eq_true g2) (Nat.le_of_ble_eq_true g3) (Nat.le_of_ble_eq_true g4) (hpay false _ _ _ _ _ _ _ hq (by rw [List.length_reverse, List.length_take]; exact Nat.min_eq_left (Nat.le_of_ble_eq_true g1)) h) (fun v t1 z => hgo _ _ _ _ _ _ z)
    · exact h.elim
  · subst he
    split at h
    · cases hg : (Nat.ble cl mc && Nat.ble sl ms) with
      | false => rw [hg] at h; exact h.elim
      | true =>
        rw [hg] at h
        simp only [Bool.and_eq_true] at hg
        exact end_int hx hb hr hlocks hd (Or.inl rfl) (Nat.le_of_ble_eq_true hg.1) (Nat.le_of_ble_eq_true hg.2) h
    · cases hg : (Nat.ble cl mc && Nat.ble sl ms) with
      | false => rw [hg] at h; exact h.elim
      | true =>
        rw [hg] at h
        simp only [Bool.and_eq_true] at hg
        exact end_int hx hb hr hlocks hd (Or.inr ⟨rfl, h.1⟩) (Nat.le_of_ble_eq_true hg.1) (Nat.le_of_ble_eq_true hg.2) h.2
    · exact h.elim
  · subst he
    split at h
    · cases hg : (Nat.ble cl mc && Nat.ble sl ms) with
      | false => rw [hg] at h; exact h.elim
      | true =>
        rw [hg] at h
        simp only [Bool.and_eq_true] at hg
        exact end_void hx hb hr hlocks hd (Nat.le_of_ble_eq_true hg.1) (Nat.le_of_ble_eq_true hg.2) h
    · exact h.elim
  · subst he
    split at h
    · cases hg : (Nat.ble cl mc && Nat.ble sl ms) with
      | false => rw [hg] at h; exact h.elim
      | true =>
        rw [hg] at h
        simp only [Bool.and_eq_true] at hg
        exact end_ref hx hb hr hlocks hd (Nat.le_of_ble_eq_true hg.1) (Nat.le_of_ble_eq_true hg.2) h
    · exact h.elim
  · exact h.elim

theorem wp_sound (hx : p.tables.exec = Jvm.exec) (hb : c.code = b) {own : String} (hts : ∀ w ∈ LT, w.before args s = true) (hown : s.vm.findClass own = some m.cls) (hK : va_K D vwCl (TYX X) s) (hnt : ∀ x ∈ c.exceptionTable.toList, False) (hlocks : meth.locks = false) {rk : Nat} (hr : rkOK meth rk)
    {fld : Nat → Option (Nat × Nat)} (hfld : ∀ ix f, fld ix = some f → fldOK own ix f) {nA : Bool → Nat → Option (Nat × Nat × Nat)} {PC : Nat → List VV → TT → (Option VV → TT → Prop) → (String → TT → Prop) → Prop}
    (hpay : ∀ (v9 : Bool) (ix n mc1 ms1 : Nat) (as : List VV) (t : TT) (k : Option VV → TT → Prop), nA v9 ix = some (n, mc1, ms1) → as.length = n → PC ix as t k px → CallOK p l e R s m args below meth c (QM below args s D X ad A M mc ms post px) D X ad A M nL b mc ms (if v9 = true then .invokevirtual ix else .invokestatic ix) mc1 ms1 as t k px)
    {tab : Nat → Option Ent} (htab : ∀ pc en, tab pc = some en → entOK b pc en = true) {thr : Nat → Option String}
    (hthr : ∀ pc E, thr pc = some E → ∀ loc st t cl sl, px E t → cl + 1 ≤ mc → sl + 6 ≤ ms → st.length ≤ 8 → Wat p l e R s m args below meth c (QM below args s D X ad A M mc ms post px) D X ad A M nL pc loc st t cl sl)
    {cs : Nat → Option (List (Nat × Nat × Nat) × List (Nat × Nat) × Nat × Nat)} {Bk : Nat → List VV → List VV → TT → Prop} (hB : ∀ pc q vs ws t, cs pc = some q → Bk pc vs ws t → Wat p l e R s m args below meth c (QM below args s D X ad A M mc ms post px) D X ad A M nL pc (List.zip (q.1.map (·.1)) vs) ws t q.2.2.1 q.2.2.2) :
    ∀ n pc loc st t cl sl, wp M nL tab fld nA PC thr cs Bk rk mc ms post px n pc loc st t cl sl → Wat p l e R s m args below meth c (QM below args s D X ad A M mc ms post px) D X ad A M nL pc loc st t cl sl
  | 0, _, _, _, _, _, _, h => h.elim
  | n + 1, pc, loc, st, t, cl, sl, h => by
    unfold wp at h
    split at h
    · next E hE =>
      cases hg : (Nat.ble (cl + 1) mc && Nat.ble (sl + 6) ms && Nat.ble st.length 8) with
      | false => rw [hg] at h; exact h.elim
      | true =>
        rw [hg] at h
        simp only [Bool.and_eq_true] at hg
        exact hthr pc E hE loc st t cl sl h (Nat.le_of_ble_eq_true hg.1.1) (Nat.le_of_ble_eq_true hg.1.2) (Nat.le_of_ble_eq_true hg.2)
    · split at h
      · exact h.elim
      · next en hen =>
        refine step_sound hx hb hts hown hK hnt hlocks hr hfld hpay (htab pc en hen) (fun pc1 loc1 st1 t1 cl1 sl1 hg => ?_) h
        split at hg
        · next q hq =>
          cases hg2 : (cl1 == q.2.2.1 && sl1 == q.2.2.2) with
          | false => rw [hg2] at hg; exact hg.elim
          | true =>
            rw [hg2] at hg
            simp only [Bool.and_eq_true, beq_iff_eq] at hg2
            obtain ⟨e1, e2⟩ := hg2
            subst e1; subst e2
            obtain ⟨vs, h1, h2⟩ := getAll_val (ad := ad) hg
            obtain ⟨ws, h3, h4⟩ := stkAll_val (ad := ad) h1
            exact Wat.congr h2 h4 (hB pc1 q vs ws t1 hq h3)
        · exact wp_sound hx hb hts hown hK hnt hlocks hr hfld hpay htab hthr hB n _ _ _ _ _ _ hg
end STP

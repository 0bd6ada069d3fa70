/-! calls, ends, one step, a whole body -/
def Q9 (D : va_G) (X : Nat → ClassId) (ad : Nat → Nat → Nat) (A : Nat → Prop) (M : Nat → Nat → Bool) (post : Option VV → TT → Prop) : Array Value → State → Outcome → State → Prop := fun _ st oc u => (∃ (v : Option VV) (t : TT), oc = .returned (v.map (toV ad)) ∧ post v t ∧ SW D X ad A M t u.heap) ∧ va_F A st u
def X9 (D : va_G) (X : Nat → ClassId) (ad : Nat → Nat → Nat) (A : Nat → Prop) (M : Nat → Nat → Bool) (px : String → TT → Prop) : String → State → State → Prop := fun E st u => (∃ t : TT, px E t ∧ SW D X ad A M t u.heap) ∧ va_F A st u
def CallOK (p : Program) (l : Launch) (e : Env) (R : Room) (s : State) (m : MethodId) (args : Array Value) (below : List Frame) (meth : Method) (c : Code) (Q : State → Prop) (D : va_G) (X : Nat → ClassId) (ad : Nat → Nat → Nat) (A : Nat → Prop) (M : Nat → Nat → Bool) (nL : Nat) (b : ByteArray) (mc ms : Nat) (ins : Instr) (mc1 ms1 : Nat) (as : List VV) (t : TT) (k : Option VV → TT → Prop) (kx : String → TT → Prop) : Prop :=
  ∀ (H : Heap) (locs : List Loc) (ls : Array Slot) (pc : Nat) (rest : List VV) (cl sl : Nat), SW D X ad A M t H → va_S A s.heap H locs → ls.size = nL → rest.length ≤ 8 → cl + mc1 ≤ mc → sl + ms1 ≤ ms → decode b pc = .ok (ins, 3) →
    (∀ (v : Option VV) (t1 : TT) (H1 : Heap) (locs1 : List Loc), k v t1 → SW D X ad A M t1 H1 → va_S A s.heap H1 locs1 → W p l e R s m args below meth c H1 locs1 (cl + mc1) (sl + ms1) Q (F0 m (pc + 3) ls ((v.toList ++ rest).map (toV ad)))) →
    (∀ (E : String) (ce : Cell) (q : Addr) (t1 : TT) (H1 : Heap) (locs1 : List Loc), kx E t1 → SW D X ad A M t1 H1 → va_S A s.heap H1 locs1 → H1[q]? = some ce → ce.vm = .none → s.vm.findClass E = some ce.cls → vx_W p l e R s m args below meth c H1 locs1 (cl + mc1) (sl + ms1) Q (F0 m pc ls (rest.map (toV ad))) q) →
    W p l e R s m args below meth c H locs cl sl Q (F0 m pc ls ((as.reverse ++ rest).map (toV ad)))
theorem cat_sum (ad : Nat → Nat → Nat) : ∀ st : List VV, ((st.map (toV ad)).map fun v => v.category).sum = st.length
  | [] => rfl
  | v :: r => by
    rw [List.map_cons, List.map_cons, List.sum_cons, cat_sum ad r, toV_cat, List.length_cons]
    omega
theorem coer_val {ad : Nat → Nat → Nat} {kd kp : Nat} {v : VV} {f : VV → Prop} (h : coer kd kp v f) : ∃ w, f w ∧ toV ad w = toV ad v := by
  unfold coer at h
  split at h
  · exact ⟨_, h, rfl⟩
  · next r =>
    cases hq : r.1 == kp with
    | false => rw [hq] at h; exact h.elim
    | true =>
      rw [hq] at h
      have e : r.1 = kp := by simpa using hq
      refine ⟨_, h, ?_⟩
      rw [← e]
      rfl
  · next r =>
    cases hq : r.1 == kp with
    | false => rw [hq] at h; exact h.elim
    | true =>
      rw [hq] at h
      have e : r.1 = kp := by simpa using hq
      refine ⟨_, h.2, ?_⟩
      have h3 := h.1
      show toQ ad kp (nI r.2) = .ref (ad r.1 r.2)
      unfold toQ
      rw [if_neg (by intro z; have := nI_toInt (n := r.2) (by omega); rw [z] at this; have e1 : (-1 : Int32).toInt = -1 := by decide +kernel
                     omega), nI_clamp (by omega), e]
  · next r =>
    cases hq : r.1 == kp with
    | false => rw [hq] at h; exact h.elim
    | true =>
      rw [hq] at h
      have e : r.1 = kp := by simpa using hq
      refine ⟨_, h, ?_⟩
      show toQ ad kp r.2 = toQ ad r.1 r.2
      rw [e]
  · exact h.elim
theorem getAll_val {ad : Nat → Nat → Nat} {loc : Loc9} : ∀ {sp : List (Nat × Nat × Nat)} {f : List VV → Prop}, getAll loc sp f → ∃ vs, f vs ∧ ∀ q ∈ locV ad (List.zip (sp.map (·.1)) vs), q ∈ locV ad loc
  | [], f, h => ⟨[], h, fun q hq => by simp [locV] at hq⟩
  | q :: r, f, h => by
    unfold getAll at h
    split at h
    · next v hv =>
      obtain ⟨w, hw, ew⟩ := coer_val (ad := ad) h
      obtain ⟨ws, h1, h2⟩ := getAll_val hw
      refine ⟨w :: ws, h1, fun x hx => ?_⟩
      rcases List.mem_cons.mp hx with z | z
      · rw [z]
        show (q.1, toV ad w) ∈ _
        rw [ew]
        exact lk_mem hv
      · exact h2 x z
    · exact h.elim
theorem stkAll_val {ad : Nat → Nat → Nat} : ∀ {st : List VV} {sp : List (Nat × Nat)} {f : List VV → Prop}, stkAll st sp f → ∃ ws, f ws ∧ ws.map (toV ad) = st.map (toV ad)
  | [], [], f, h => ⟨[], h, rfl⟩
  | v :: r, q :: sp, f, h => by
    unfold stkAll at h
    obtain ⟨w, hw, ew⟩ := coer_val (ad := ad) h
    obtain ⟨ws, h1, h2⟩ := stkAll_val hw
    exact ⟨w :: ws, h1, by rw [List.map_cons, List.map_cons, ew, h2]⟩
  | [], _ :: _, _, h => h.elim
  | _ :: _, [], _, h => h.elim
theorem drf_val {ad : Nat → Nat → Nat} {v : VV} {f : Nat → Nat → Prop} (h : drf v f) : ∃ kp i, f kp i ∧ toV ad v = .ref (ad kp i) := by
  unfold drf at h
  split at h
  · exact h.elim
  · exact ⟨_, _, h, rfl⟩
  · next r => exact ⟨_, _, h.2, if_neg h.1⟩
theorem nar_isB {x : Int32} (h : isB x) : narrow .boolean (.int x) = .int x := by
  rcases h with rfl | rfl <;> rfl
section STP
variable {p : Program} {l : Launch} {e : Env} {R : Room} {s : State} {m : MethodId} {args : Array Value} {below : List Frame} {meth : Method} {c : Code} {D : va_G} {X : Nat → ClassId} {ad : Nat → Nat → Nat} {A : Nat → Prop} {M : Nat → Nat → Bool} {nL : Nat} {b : ByteArray} {mc ms : Nat} {post : Option VV → TT → Prop} {px : String → TT → Prop}
theorem Wat.congr {Q : State → Prop} {pc : Nat} {loc loc' : Loc9} {st st' : List VV} {t : TT} {cl sl : Nat} (hl : ∀ q ∈ locV ad loc', q ∈ locV ad loc) (hs : st'.map (toV ad) = st.map (toV ad)) (h : Wat p l e R s m args below meth c Q D X ad A M nL pc loc' st' t cl sl) : Wat p l e R s m args below meth c Q D X ad A M nL pc loc st t cl sl := by
  intro H locs ls hW hS hL
  rw [← hs]
  exact h H locs ls hW hS ⟨hL.1, hL.2.1, fun q hq => hL.2.2 q (hl q hq)⟩
/-- what a method's end owes -/
abbrev QM (below : List Frame) (args : Array Value) (s : State) (D : va_G) (X : Nat → ClassId) (ad : Nat → Nat → Nat) (A : Nat → Prop) (M : Nat → Nat → Bool) (mc ms : Nat) (post : Option VV → TT → Prop) (px : String → TT → Prop) : State → Prop := vx_MQ below (Q9 D X ad A M post) (X9 D X ad A M px) args s mc ms A
def rkOK (meth : Method) (rk : Nat) : Prop := match rk with
  | 0 => meth.sig.returnType = none
  | 1 => meth.sig.returnType = some .int
  | 2 => meth.sig.returnType = some .boolean
  | 3 => meth.sig.returnType = some (.object "HeadwayDeep$Train")
  | _ => True
theorem end_int {rk : Nat} {pc : Nat} {loc : Loc9} {x : Int32} {t : TT} {cl sl : Nat} (hx : p.tables.exec = Jvm.exec) (hb : c.code = b) (hr : rkOK meth rk) (hlocks : meth.locks = false) (hd : decode b pc = .ok (.ireturn, 1)) (hrk : rk = 1 ∨ (rk = 2 ∧ isB x)) (hc : cl ≤ mc) (hs : sl ≤ ms) (h : post (some (.inl x)) t) : Wat p l e R s m args below meth c (QM below args s D X ad A M mc ms post px) D X ad A M nL pc loc [.inl x] t cl sl := by
  intro H locs ls hW hS hl
  refine W.widen (k := mc) (n := ms) hc hs (vx_ret ?_)
  have hq : ∀ u : State, u.heap = H → s.WarmedH u.vm → Q9 D X ad A M post args s (.returned (some (.int x))) u := fun u hu hw => ⟨⟨some (.inl x), t, rfl, h, by rw [hu]; exact hW⟩, hS.F hu⟩
  rcases hrk with rfl | ⟨rfl, hB⟩
  · exact W.iret hx hb hr hq hS.2.2 hd hlocks
  · exact W.zret hx hb hr (nar_isB hB) hq hS.2.2 hd hlocks
theorem end_void {pc : Nat} {loc : Loc9} {t : TT} {cl sl : Nat} (hx : p.tables.exec = Jvm.exec) (hb : c.code = b) (hr : rkOK meth 0) (hlocks : meth.locks = false) (hd : decode b pc = .ok (.return_, 1)) (hc : cl ≤ mc) (hs : sl ≤ ms) (h : post none t) : Wat p l e R s m args below meth c (QM below args s D X ad A M mc ms post px) D X ad A M nL pc loc [] t cl sl := by
  intro H locs ls hW hS hl
  refine W.widen (k := mc) (n := ms) hc hs (vx_ret ?_)
  exact W.vret hx hb hr (fun u hu hw => ⟨⟨none, t, rfl, h, by rw [hu]; exact hW⟩, hS.F hu⟩) hS.2.2 hd hlocks
theorem end_ref {pc : Nat} {loc : Loc9} {q : Nat × Int32} {t : TT} {cl sl : Nat} (hx : p.tables.exec = Jvm.exec) (hb : c.code = b) (hr : rkOK meth 3) (hlocks : meth.locks = false) (hd : decode b pc = .ok (.areturn, 1)) (hc : cl ≤ mc) (hs : sl ≤ ms) (h : post (some (.inr (.inr q))) t) : Wat p l e R s m args below meth c (QM below args s D X ad A M mc ms post px) D X ad A M nL pc loc [.inr (.inr q)] t cl sl := by
  intro H locs ls hW hS hl
  refine W.widen (k := mc) (n := ms) hc hs (vx_ret ?_)
  have hv : toV ad (.inr (.inr q)) = .null ∨ ∃ a, toV ad (.inr (.inr q)) = .ref a := by
    show toQ ad q.1 q.2 = .null ∨ ∃ a, toQ ad q.1 q.2 = .ref a
    unfold toQ
    split
    · exact Or.inl rfl
    · exact Or.inr ⟨_, rfl⟩
  exact W.aret hx hb hr (Or.inl ⟨_, rfl⟩) hv (fun u hu hw => ⟨⟨some (.inr (.inr q)), t, rfl, h, by rw [hu]; exact hW⟩, hS.F hu⟩) hS.2.2 hd hlocks
end STP

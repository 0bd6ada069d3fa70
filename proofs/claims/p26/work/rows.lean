section
-- ===== PART A: goes FIRST, ahead of the names: the tables' words, and 'selects' of the private methods out of them =====
/-- a private method of a class that the tables say can be made, by its rows of tables_1 -/
def lw_okq (q : MethodName × Nat) : Prop := (q.1.cls ≠ "java/lang/invoke/MethodHandle" ∧ q.1.cls ≠ "java/lang/invoke/VarHandle") ∧ Cond.instantiable q.1.cls q.2 ∈ tables_1 ∧ Cond.privateMethod q.1 ∈ tables_1 ∧ Cond.instanceMethod q.1 ∈ tables_1
theorem lw_p0 : lw_okq (⟨"java/lang/Throwable", "fillInStackTrace", "(I)Ljava/lang/Throwable;"⟩, 6) := ⟨⟨by decide +kernel, by decide +kernel⟩, List.mem_of_getElem? (i := 107) (by decide +kernel), List.mem_of_getElem? (i := 105) (by decide +kernel), List.mem_of_getElem? (i := 106) (by decide +kernel)⟩
theorem lw_p1 : lw_okq (⟨"HeadwayDeep", "canBeClosed", "(LHeadwayDeep$Zone;)Z"⟩, 10) := ⟨⟨by decide +kernel, by decide +kernel⟩, List.mem_of_getElem? (i := 15) (by decide +kernel), List.mem_of_getElem? (i := 258) (by decide +kernel), List.mem_of_getElem? (i := 259) (by decide +kernel)⟩
theorem lw_p2 : lw_okq (⟨"HeadwayDeep", "dealLimits", "()V"⟩, 10) := ⟨⟨by decide +kernel, by decide +kernel⟩, List.mem_of_getElem? (i := 15) (by decide +kernel), List.mem_of_getElem? (i := 273) (by decide +kernel), List.mem_of_getElem? (i := 274) (by decide +kernel)⟩
theorem lw_p3 : lw_okq (⟨"HeadwayDeep", "limitFor", "(LHeadwayDeep$Train;)I"⟩, 10) := ⟨⟨by decide +kernel, by decide +kernel⟩, List.mem_of_getElem? (i := 15) (by decide +kernel), List.mem_of_getElem? (i := 277) (by decide +kernel), List.mem_of_getElem? (i := 278) (by decide +kernel)⟩
theorem lw_p4 : lw_okq (⟨"HeadwayDeep", "oneAheadOf", "(LHeadwayDeep$Train;)LHeadwayDeep$Train;"⟩, 10) := ⟨⟨by decide +kernel, by decide +kernel⟩, List.mem_of_getElem? (i := 15) (by decide +kernel), List.mem_of_getElem? (i := 281) (by decide +kernel), List.mem_of_getElem? (i := 282) (by decide +kernel)⟩
theorem lw_p5 : lw_okq (⟨"HeadwayDeep", "canBePutIn", "(I)Z"⟩, 10) := ⟨⟨by decide +kernel, by decide +kernel⟩, List.mem_of_getElem? (i := 15) (by decide +kernel), List.mem_of_getElem? (i := 296) (by decide +kernel), List.mem_of_getElem? (i := 297) (by decide +kernel)⟩
theorem lw_p6 : lw_okq (⟨"HeadwayDeep", "passOne", "()V"⟩, 10) := ⟨⟨by decide +kernel, by decide +kernel⟩, List.mem_of_getElem? (i := 15) (by decide +kernel), List.mem_of_getElem? (i := 396) (by decide +kernel), List.mem_of_getElem? (i := 397) (by decide +kernel)⟩
theorem lw_p7 : lw_okq (⟨"HeadwayDeep", "takeReports", "()V"⟩, 10) := ⟨⟨by decide +kernel, by decide +kernel⟩, List.mem_of_getElem? (i := 15) (by decide +kernel), List.mem_of_getElem? (i := 400) (by decide +kernel), List.mem_of_getElem? (i := 401) (by decide +kernel)⟩
theorem lw_p8 : lw_okq (⟨"HeadwayDeep", "move", "(LHeadwayDeep$Train;)V"⟩, 10) := ⟨⟨by decide +kernel, by decide +kernel⟩, List.mem_of_getElem? (i := 15) (by decide +kernel), List.mem_of_getElem? (i := 420) (by decide +kernel), List.mem_of_getElem? (i := 421) (by decide +kernel)⟩
theorem lw_p9 : lw_okq (⟨"HeadwayDeep", "meetsBeacon", "(II)Z"⟩, 10) := ⟨⟨by decide +kernel, by decide +kernel⟩, List.mem_of_getElem? (i := 15) (by decide +kernel), List.mem_of_getElem? (i := 428) (by decide +kernel), List.mem_of_getElem? (i := 429) (by decide +kernel)⟩
theorem lw_p10 : lw_okq (⟨"HeadwayDeep", "countHolding", "()V"⟩, 10) := ⟨⟨by decide +kernel, by decide +kernel⟩, List.mem_of_getElem? (i := 15) (by decide +kernel), List.mem_of_getElem? (i := 432) (by decide +kernel), List.mem_of_getElem? (i := 433) (by decide +kernel)⟩
theorem lw_p11 : lw_okq (⟨"HeadwayDeep", "letPeopleCome", "()V"⟩, 10) := ⟨⟨by decide +kernel, by decide +kernel⟩, List.mem_of_getElem? (i := 15) (by decide +kernel), List.mem_of_getElem? (i := 437) (by decide +kernel), List.mem_of_getElem? (i := 438) (by decide +kernel)⟩
theorem lw_p12 : lw_okq (⟨"HeadwayDeep", "letPeopleBoard", "()V"⟩, 10) := ⟨⟨by decide +kernel, by decide +kernel⟩, List.mem_of_getElem? (i := 15) (by decide +kernel), List.mem_of_getElem? (i := 441) (by decide +kernel), List.mem_of_getElem? (i := 442) (by decide +kernel)⟩
def lw_privs_1 : List (MethodName × Nat) := [(⟨"java/lang/Throwable", "fillInStackTrace", "(I)Ljava/lang/Throwable;"⟩, 6), (⟨"HeadwayDeep", "canBeClosed", "(LHeadwayDeep$Zone;)Z"⟩, 10), (⟨"HeadwayDeep", "dealLimits", "()V"⟩, 10), (⟨"HeadwayDeep", "limitFor", "(LHeadwayDeep$Train;)I"⟩, 10), (⟨"HeadwayDeep", "oneAheadOf", "(LHeadwayDeep$Train;)LHeadwayDeep$Train;"⟩, 10), (⟨"HeadwayDeep", "canBePutIn", "(I)Z"⟩, 10), (⟨"HeadwayDeep", "passOne", "()V"⟩, 10), (⟨"HeadwayDeep", "takeReports", "()V"⟩, 10), (⟨"HeadwayDeep", "move", "(LHeadwayDeep$Train;)V"⟩, 10), (⟨"HeadwayDeep", "meetsBeacon", "(II)Z"⟩, 10), (⟨"HeadwayDeep", "countHolding", "()V"⟩, 10), (⟨"HeadwayDeep", "letPeopleCome", "()V"⟩, 10), (⟨"HeadwayDeep", "letPeopleBoard", "()V"⟩, 10)]
theorem lw_r1 : ∀ q ∈ lw_privs_1, lw_okq q := List.forall_mem_cons.mpr ⟨lw_p0, List.forall_mem_cons.mpr ⟨lw_p1, List.forall_mem_cons.mpr ⟨lw_p2, List.forall_mem_cons.mpr ⟨lw_p3, List.forall_mem_cons.mpr ⟨lw_p4, List.forall_mem_cons.mpr ⟨lw_p5, List.forall_mem_cons.mpr ⟨lw_p6, List.forall_mem_cons.mpr ⟨lw_p7, List.forall_mem_cons.mpr ⟨lw_p8, List.forall_mem_cons.mpr ⟨lw_p9, List.forall_mem_cons.mpr ⟨lw_p10, List.forall_mem_cons.mpr ⟨lw_p11, List.forall_mem_cons.mpr ⟨lw_p12, fun _ h => absurd h List.not_mem_nil⟩⟩⟩⟩⟩⟩⟩⟩⟩⟩⟩⟩⟩
def lw_privs : List (MethodName × Nat) := lw_privs_1
def lw_tbl : List Cond := k2_sels lw_privs ++ tables_1
theorem lw_privs_ok : ∀ q ∈ lw_privs, lw_okq q := lw_r1
/-! ===== BEGIN words of one list among another's, by their places ===== -/
theorem goodIn_r {big : List Cond} (ws : List Cond) (ps : List Nat) (hp : ws = ps.filterMap (fun i => big[i]?)) (h : ws.all goodWord = true) : GoodIn big ws := by
  intro w hw
  have h1 := List.all_eq_true.mp h w hw
  rw [hp] at hw
  obtain ⟨i, -, hi⟩ := List.mem_filterMap.mp hw
  have hm : w ∈ big := by first | exact List.mem_of_getElem? hi | exact List.getElem?_mem hi
  exact ⟨hm, good_of_word h1⟩
theorem goodIn_app {big a b : List Cond} (ha : GoodIn big a) (hb : GoodIn big b) : GoodIn big (a ++ b) := fun w h => (List.mem_append.mp h).elim (ha w) (hb w)
theorem goodIn_ca {big a b : List Cond} {c : Cond} (ha : GoodIn big (c :: a)) (hb : GoodIn big b) : GoodIn big (c :: (a ++ b)) := fun w h => (List.mem_cons.mp h).elim (fun e => ha w (List.mem_cons.mpr (Or.inl e))) (fun h => (List.mem_append.mp h).elim (fun h => ha w (List.mem_cons.mpr (Or.inr h))) (hb w))
theorem goodIn_sub {big ws : List Cond} (hm : ∀ w ∈ ws, w ∈ big) (h : ws.all goodWord = true) : GoodIn big ws := fun w hw => ⟨hm w hw, good_of_word (List.all_eq_true.mp h w hw)⟩
/-! ===== END ===== -/

/-! ===== BEGIN exceptions that leave a method, and their catching by the caller (launches without stack traces) ===== -/
section VXA
/-! The laws vx_back, vx_callV, vx_callS, vx_callSW, vx_throw0, vx_throwS follow proofs of the library, with one case more: JvmDerived/Free/Laws.lean (Back.of_free), Shelf42/LK1.lean (callV, callS), Shelf/KitTraced.lean (throwNew0V, throwNewS). -/
/-- where a method has thrown q: the class by its name, the cell, what was written, the world -/
def vx_T (XC : String → State → State → Prop) (st : State) (q : Addr) (t : State) (mc ms : Nat) (free : Addr → Prop) : Prop :=
  ∃ (E : String) (ce : Cell) (L : List Loc), XC E st t ∧ t.heap[q]? = some ce ∧ ce.vm = .none ∧ st.vm.findClass E = some ce.cls ∧ st.WarmedH t.vm ∧ st.sameButNew ({ t with vm := st.vm } : State) L mc ms ∧ ∀ z ∈ L, free z.base
def vx_Q (Qc : Array Value → State → Outcome → State → Prop) (XC : String → State → State → Prop) (mc ms : Nat) (free : Addr → Prop) : Array Value → State → Outcome → State → Prop := fun a st o t =>
  (Qc a st o t ∧ ∃ L, FrameEnd st o t L mc ms ∧ ∀ q ∈ L, free q.base) ∨ ∃ q, o = .threw q ∧ vx_T XC st q t mc ms free
/-- a callee that returns or throws -/
def vx_Met (l : Launch) (y : MethodName) (ws : List Cond) (rm : Room) (Pc : Array Value → State → Prop) (Qc : Array Value → State → Outcome → State → Prop) (XC : String → State → State → Prop) (mc ms : Nat) (free : Addr → Prop) : Prop :=
  MetFree l y (headSpec ws rm) Pc (fun _ _ _ _ _ => True) (vx_Q Qc XC mc ms free)
def vx_Post (XC : String → State → State → Prop) (mc ms : Nat) (free : Addr → Prop) : Pt → Array Value → Addr → Pt → Prop := fun A a q B =>
  ∃ (g : JFrame) (mk : MethodId) (t : State) (L : List Loc) (E : String) (ce : Cell), B.U.heap = t.heap ∧ B.U.vm = t.vm ∧ XC E (A.U.calling g mk a) t ∧ t.heap[q]? = some ce ∧ ce.vm = .none ∧ A.U.vm.findClass E = some ce.cls ∧ B.locs = A.locs ++ L ∧ (∀ z ∈ L, free z.base) ∧ B.cells = A.cells + mc ∧ B.slots = A.slots + ms
def vx_Back (l : Launch) (R : Room) (p : Program) (e : Env) (below : List Frame) (s : State) (sargs : Array Value) (y : MethodName) (len W9 : Nat)
    (Pre : Pt → Array Value → Prop) (Post : Pt → Array Value → Option Value → Pt → Prop) (PostX : Pt → Array Value → Addr → Pt → Prop) : Prop :=
  ∀ (m : MethodId) (meth : Method) (c : Code) (A : Pt) (g : JFrame) (ig : Instr) (mk : MethodId) (a : Array Value),
    Stand p l e R s m sargs below meth c A.U A.locs A.cells A.slots → g.method = m → g.locals.size = c.maxLocals → decode c.code g.pc = .ok (ig, len) →
    2 * g.monitorRoom + (g.stack.map fun v => v.category).sum ≤ W9 → A.U.methodNamed? y = some mk → Pre A a →
    (∃ (v : Option Value) (B : Pt), Stand p l e R s m sargs below meth c B.U B.locs B.cells B.slots ∧ Post A a v B ∧
      Steps p.tables e below (doInvoke e (A.U.setTop g) [] mk a).1 (B.U.setTop { g with pc := g.pc + len, stack := v.toList ++ g.stack })) ∨
    (∃ (q : Addr) (B : Pt), Stand p l e R s m sargs below meth c B.U B.locs B.cells B.slots ∧ PostX A a q B ∧
      Steps p.tables e below (doInvoke e (A.U.setTop g) [] mk a).1 ((B.U.setTop g).pushFrame (.throwing q)))
section Payer
variable {l : Launch} {R : Room} {p : Program} {e : Env} {below : List Frame} {s : State} {sargs : Array Value} {y : MethodName} {len W9 : Nat}
theorem vx_back {ws : List Cond} {rm : Room} {Pc : Array Value → State → Prop} {Qc : Array Value → State → Outcome → State → Prop} {XC : String → State → State → Prop} {mc ms : Nat} {free : Addr → Prop} {bytes : ByteArray} {maxL : Nat} {ret : Option FieldType}
    (hM : vx_Met l y ws rm Pc Qc XC mc ms free) (hblind : FrameBlind Pc) (hrc : rm.cells = mc) (hrs : rm.slots = ms)
    (hframes : rm.frames + 1 ≤ R.frames) (hlocals : W9 + (maxL + 11) + rm.locals ≤ R.locals)
    (hws : ∀ w ∈ ws, ∀ a' U, s.WarmedH U.vm → w.before a' U = true) (hcode : Cond.code y bytes maxL ret ∈ ws) (hinit : ∀ a' U, s.WarmedH U.vm → (Cond.initialized y.cls).before a' U = true) :
    vx_Back l R p e below s sargs y len W9 (PreOf R mc ms Pc) (PostOf Qc mc ms free) (vx_Post XC mc ms free) := by
  intro m meth c A g ig mk a X hg hsize hdg hW hn hp
  have h1 : (headSpec ws rm).pre.before a A.U = true := atoms_intro fun w hw => hws w hw _ _ X.warmed
  have h2 : (Cond.code y bytes maxL ret).before a A.U = true := hws _ hcode _ _ X.warmed
  have h3 : (Cond.initialized y.cls).before a A.U = true := hinit _ _ X.warmed
  have h4 : A.cells + (headSpec ws rm).room.cells ≤ R.cells := by rw [show (headSpec ws rm).room.cells = mc from hrc]; exact hp.1
  have h5 : A.slots + (headSpec ws rm).room.slots ≤ R.slots := by rw [show (headSpec ws rm).room.slots = ms from hrs]; exact hp.2.1
  have hPc : Pc a (A.U.calling g mk a) := hblind _ _ _ _ hp.2.2
  obtain ⟨U, Ls, c0, s0⟩ := A
  dsimp only [Pt.U, Pt.locs, Pt.cells, Pt.slots] at h1 h2 h3 h4 h5 X hn hPc ⊢
  obtain ⟨methY, cY, hmY, hcY, -, hlY, -, -, -, -⟩ := Cond.code_spec hn h2
  obtain ⟨kY, hkY, -⟩ := className_of_methodNamed hn
  have hinitY : kY.init = .initialized := Cond.initialized_spec (findClass_of_methodNamed hn) hkY h3
  have h : At U g.method c below := by rw [hg]; exact X.here
  have hlocals9 : W9 + (maxL + 11) + (headSpec ws rm).room.locals ≤ R.locals := hlocals
  have happ : (headSpec ws rm).appliesLoose y e.platform (U.calling g mk a) = true :=
    Spec.appliesLoose_calling (g := g) h hdg hn hkY hinitY
      (X.room_calling (g := g) (R' := (headSpec ws rm).room) hsize hmY hcY hframes (by rw [hlY]; omega) h4 h5) h1
  obtain ⟨mid, hmid⟩ := h.above
  have hfr : (U.setTop g).frames = (.java g :: mid) ++ below := by rw [State.frames_setTop' g h.top, hmid]; rfl
  obtain ⟨o, s₂, hsteps, -, hend, hq⟩ := Steps.callFree hM p X.admits X.cas X.clock (acts := []) hfr happ hPc trivial
  have hq' : vx_Q Qc XC mc ms free a (U.calling g mk a) o s₂ := hq
  rw [State.frames_setTop' g h.top] at hend
  obtain ⟨g₀, hg0⟩ := Option.isSome_iff_exists.mp h.top
  obtain ⟨r, hr⟩ := State.topJava?_eq_some.mp hg0
  have hr' : (({ U with heap := s₂.heap, slotsUsed := s₂.slotsUsed } : State).setVm s₂.vm).frames = .java g₀ :: r := hr
  rcases hq' with ⟨hqc, L, hfe, hL⟩ | ⟨q, rfl, E, ce, L, hx, hce, hcv, hcl, hW₂, hsm, hL⟩
  · obtain ⟨⟨v, rfl⟩, hW₂, e2, q2, q3, q4, q5, q6⟩ := id hfe
    have e3 : s₂ = ({ (U.calling g mk a).setFrames s₂.frames with heap := s₂.heap, slotsUsed := s₂.slotsUsed } : State).setVm s₂.vm := by
      have : s₂ = ({ s₂ with vm := (U.calling g mk a).vm } : State).setVm s₂.vm := rfl
      rw [e2] at this
      exact this
    obtain ⟨c₂, i₂, len₂, hc₂, hd₂, hf₂⟩ := hend
    have hW' : U.WarmedH s₂.vm := hW₂
    have hcc : c₂ = c := by
      have h1 : s₂.code? g.method = U.code? g.method := by
        rw [State.code?_eq, State.code?_eq, hW'.alike.method?]
      exact Option.some.inj (hc₂.symm.trans (h1.trans h.code))
    subst hcc
    have hlen : len₂ = len := by rw [hdg] at hd₂; cases hd₂; rfl
    subst hlen
    have hs₂ : s₂ = (({ U with heap := s₂.heap, slotsUsed := s₂.slotsUsed } : State).setVm s₂.vm).setTop { g with pc := g.pc + len₂, stack := v.toList ++ g.stack } := by
      refine e3.trans ?_
      rw [hf₂, State.calling_eq h.top, State.setFrames_setFrames, State.setTop_of_frames _ hr', hr]
      rfl
    have hsame : U.sameButNew ({ U with heap := s₂.heap, slotsUsed := s₂.slotsUsed } : State) L mc ms := by
      refine ⟨?_, q2, q3, q4, q5, q6⟩
      obtain ⟨t, ht, -⟩ := State.frames_cons hr
      show ({ U with heap := s₂.heap, slotsUsed := s₂.slotsUsed } : State) = { U.setFrames U.frames with heap := s₂.heap, slotsUsed := s₂.slotsUsed }
      rw [State.setFrames_self ht]
    subst hg
    refine Or.inl ⟨v, ⟨(({ U with heap := s₂.heap, slotsUsed := s₂.slotsUsed } : State).setVm s₂.vm), Ls ++ L, c0 + mc, s0 + ms⟩,
      ⟨X.admits, X.cas, X.clock, X.frames, X.room, X.hears, X.method, X.code, (X.here.setHeapUsed s₂.heap s₂.slotsUsed).setVm hW'.alike, X.tail, State.WarmedH.trans X.warmed hW', X.limits, X.bytes, X.same.trans (hsame.setVm s.vm)⟩,
      ⟨g, mk, s₂, L, rfl, rfl, hqc, rfl, hL, rfl, rfl⟩, ?_⟩
    show Steps p.tables e below _ ((({ U with heap := s₂.heap, slotsUsed := s₂.slotsUsed } : State).setVm s₂.vm).setTop { g with pc := g.pc + len₂, stack := v.toList ++ g.stack })
    rw [← hs₂]
    exact hsteps
  · obtain ⟨e2, q2, q3, q4, q5, q6⟩ := id hsm
    have e3 : s₂ = ({ (U.calling g mk a).setFrames s₂.frames with heap := s₂.heap, slotsUsed := s₂.slotsUsed } : State).setVm s₂.vm := by
      have : s₂ = ({ s₂ with vm := (U.calling g mk a).vm } : State).setVm s₂.vm := rfl
      rw [e2] at this
      exact this
    have hf₂ : s₂.frames = .throwing q :: .java g :: U.frames.tail := hend
    have hW' : U.WarmedH s₂.vm := hW₂
    have hs₂ : s₂ = ((({ U with heap := s₂.heap, slotsUsed := s₂.slotsUsed } : State).setVm s₂.vm).setTop g).pushFrame (.throwing q) := by
      refine e3.trans ?_
      rw [hf₂, State.calling_eq h.top, State.setFrames_setFrames, State.pushFrame, State.frames_setTop _ hr', State.setTop_of_frames _ hr', State.setFrames_setFrames, hr]
      rfl
    have hsame : U.sameButNew ({ U with heap := s₂.heap, slotsUsed := s₂.slotsUsed } : State) L mc ms := by
      refine ⟨?_, q2, q3, q4, q5, q6⟩
      obtain ⟨t, ht, -⟩ := State.frames_cons hr
      show ({ U with heap := s₂.heap, slotsUsed := s₂.slotsUsed } : State) = { U.setFrames U.frames with heap := s₂.heap, slotsUsed := s₂.slotsUsed }
      rw [State.setFrames_self ht]
    subst hg
    refine Or.inr ⟨q, ⟨(({ U with heap := s₂.heap, slotsUsed := s₂.slotsUsed } : State).setVm s₂.vm), Ls ++ L, c0 + mc, s0 + ms⟩,
      ⟨X.admits, X.cas, X.clock, X.frames, X.room, X.hears, X.method, X.code, (X.here.setHeapUsed s₂.heap s₂.slotsUsed).setVm hW'.alike, X.tail, State.WarmedH.trans X.warmed hW', X.limits, X.bytes, X.same.trans (hsame.setVm s.vm)⟩,
      ⟨g, mk, s₂, L, E, ce, rfl, rfl, hx, hce, hcv, hcl, rfl, hL, rfl, rfl⟩, ?_⟩
    show Steps p.tables e below _ (((({ U with heap := s₂.heap, slotsUsed := s₂.slotsUsed } : State).setVm s₂.vm).setTop g).pushFrame (.throwing q))
    rw [← hs₂]
    exact hsteps
end Payer
section Calls
variable {p : Program} {l : Launch} {e : Env} {R : Room} {s : State} {m : MethodId} {args : Array Value} {below : List Frame} {meth : Method} {c : Code} {T : State} {locs : List Loc} {cells slots : Nat}
theorem vx_callV (X : Stand p l e R s m args below meth c T locs cells slots) (hexec : p.tables.exec = Jvm.exec) {own C : String} {index : Nat} {y : MethodName} {bytes : ByteArray} {maxL : Nat} {ret : Option FieldType}
    (hown : s.vm.findClass own = some m.cls) (hlink : (Cond.methodLink own index y).before args s = true) (hinst : (Cond.instanceMethod y).before args s = true) (hsel : (Cond.selects C y y).before args s = true)
    (hcode : (Cond.code y bytes maxL ret).before args s = true) (hy : y.cls ≠ "java/lang/invoke/MethodHandle" ∧ y.cls ≠ "java/lang/invoke/VarHandle")
    {W9 : Nat} {Pre : Pt → Array Value → Prop} {Post : Pt → Array Value → Option Value → Pt → Prop} {PostX : Pt → Array Value → Addr → Pt → Prop} (hK : vx_Back l R p e below s args y 3 W9 Pre Post PostX)
    {b : Addr} {cellB : Cell} (hcell : T.heap[b]? = some cellB) (hobj : cellB.vm.isStatics = false) (hcls : s.vm.findClass C = some cellB.cls)
    {g : JFrame} (hg : g.method = m) (hsize : g.locals.size = c.maxLocals) {argsL rest : List Value} (hlen : ∀ sig, parseMethodDescriptor y.desc = some sig → argsL.length = sig.parameters.length)
    (hstack : g.stack = argsL.reverse ++ .ref b :: rest) (hW : 2 * g.monitorRoom + (rest.map fun v => v.category).sum ≤ W9) (hdg : decode c.code g.pc = .ok (.invokevirtual index, 3))
    (hpre : ∀ vm₁, s.WarmedH vm₁ → Pre ⟨T.setVm vm₁, locs, cells, slots⟩ (Value.ref b :: argsL).toArray) :
    (∃ (v : Option Value) (vm₁ : Vm) (B : Pt), s.WarmedH vm₁ ∧ Stand p l e R s m args below meth c B.U B.locs B.cells B.slots ∧ Post ⟨T.setVm vm₁, locs, cells, slots⟩ (Value.ref b :: argsL).toArray v B ∧
      ∀ target, Steps p.tables e below (B.U.setTop { g with pc := g.pc + 3, stack := v.toList ++ rest }) target → Steps p.tables e below (T.setTop g) target) ∨
    (∃ (q : Addr) (vm₁ : Vm) (B : Pt), s.WarmedH vm₁ ∧ Stand p l e R s m args below meth c B.U B.locs B.cells B.slots ∧ PostX ⟨T.setVm vm₁, locs, cells, slots⟩ (Value.ref b :: argsL).toArray q B ∧
      Steps p.tables e below (T.setTop g) ((B.U.setTop { g with stack := rest }).pushFrame (.throwing q))) := by
  obtain ⟨mk, methM, hnamed, hmethM, hstM, habM⟩ := Cond.instanceMethod_spec hinst
  obtain ⟨methM', cM, hmethM', -, -, -, -, -, -, hsigM⟩ := Cond.code_spec hnamed hcode
  cases hmethM.symm.trans hmethM'
  obtain ⟨c2, r2, m2, q1, q2, q3, q4, kP, hkP, hkPi⟩ := Cond.selects_spec hsel
  cases hcls.symm.trans q1
  cases (State.methodFound?_of_named hnamed hy).symm.trans q2
  cases hnamed.symm.trans q3
  have hselP : selectMethod e.platform s.vm cellB.cls mk = .method mk := by rw [Launch.admits_selectMethod X.admits]; exact q4
  obtain ⟨vm₁, X₁, hstep₁⟩ := X.invokevirtual hexec hown hlink hnamed hmethM hstM hkP hkPi hy (a := b) (cell := cellB) hcell
    (fun z h => by rw [h] at hobj; cases hobj) hselP hmethM habM hkP hkPi (g := g) hg (argsL := argsL) (rest := rest) (hlen _ hsigM) hstack hdg
  rcases hK m meth c ⟨T.setVm vm₁, locs, cells, slots⟩ { g with stack := rest } (.invokevirtual index) mk (Value.ref b :: argsL).toArray X₁ hg hsize hdg hW (X₁.named hnamed) (hpre vm₁ X₁.warmed) with ⟨v, B, X', hpost, hsteps⟩ | ⟨q, B, X', hpost, hsteps⟩
  · exact Or.inl ⟨v, vm₁, B, X₁.warmed, X', hpost, fun target h => hstep₁ _ fun acts => by rw [doInvoke_state]; exact hsteps.trans h⟩
  · exact Or.inr ⟨q, vm₁, B, X₁.warmed, X', hpost, hstep₁ _ fun acts => by rw [doInvoke_state]; exact hsteps⟩
theorem vx_callS (X : Stand p l e R s m args below meth c T locs cells slots) (hexec : p.tables.exec = Jvm.exec) {own : String} {index : Nat} {y : MethodName} {bytes : ByteArray} {maxL : Nat} {ret : Option FieldType}
    (hown : s.vm.findClass own = some m.cls) (hlink : (Cond.methodLink own index y).before args s = true) (hstat : (Cond.static y).before args s = true) (hinit : (Cond.initialized y.cls).before args s = true)
    (hcode : (Cond.code y bytes maxL ret).before args s = true) (hy : y.cls ≠ "java/lang/invoke/MethodHandle" ∧ y.cls ≠ "java/lang/invoke/VarHandle")
    {W9 : Nat} {Pre : Pt → Array Value → Prop} {Post : Pt → Array Value → Option Value → Pt → Prop} {PostX : Pt → Array Value → Addr → Pt → Prop} (hK : vx_Back l R p e below s args y 3 W9 Pre Post PostX)
    {g : JFrame} (hg : g.method = m) (hsize : g.locals.size = c.maxLocals) {argsL rest : List Value} (hlen : ∀ sig, parseMethodDescriptor y.desc = some sig → argsL.length = sig.parameters.length)
    (hstack : g.stack = argsL.reverse ++ rest) (hW : 2 * g.monitorRoom + (rest.map fun v => v.category).sum ≤ W9) (hdg : decode c.code g.pc = .ok (.invokestatic index, 3))
    (hpre : ∀ vm₁, s.WarmedH vm₁ → Pre ⟨T.setVm vm₁, locs, cells, slots⟩ argsL.toArray) :
    (∃ (v : Option Value) (vm₁ : Vm) (B : Pt), s.WarmedH vm₁ ∧ Stand p l e R s m args below meth c B.U B.locs B.cells B.slots ∧ Post ⟨T.setVm vm₁, locs, cells, slots⟩ argsL.toArray v B ∧
      ∀ target, Steps p.tables e below (B.U.setTop { g with pc := g.pc + 3, stack := v.toList ++ rest }) target → Steps p.tables e below (T.setTop g) target) ∨
    (∃ (q : Addr) (vm₁ : Vm) (B : Pt), s.WarmedH vm₁ ∧ Stand p l e R s m args below meth c B.U B.locs B.cells B.slots ∧ PostX ⟨T.setVm vm₁, locs, cells, slots⟩ argsL.toArray q B ∧
      Steps p.tables e below (T.setTop g) ((B.U.setTop { g with stack := rest }).pushFrame (.throwing q))) := by
  obtain ⟨mk, hnamed⟩ := Cond.code_named hcode
  obtain ⟨methM, cM, hmethM, -, -, -, -, -, -, hsigM⟩ := Cond.code_spec hnamed hcode
  have hstatic : methM.isStatic = true := Cond.static_spec hnamed hmethM hstat
  obtain ⟨kP, hkP, -⟩ := className_of_methodNamed hnamed
  have hinitP : kP.init = .initialized := Cond.initialized_spec (findClass_of_methodNamed hnamed) hkP hinit
  obtain ⟨vm₁, X₁, hstep₁⟩ := X.invokestatic hexec hown hlink hnamed hmethM hstatic hkP hinitP hy (g := g) hg (argsL := argsL) (rest := rest) (hlen _ hsigM) hstack hdg
  rcases hK m meth c ⟨T.setVm vm₁, locs, cells, slots⟩ { g with stack := rest } (.invokestatic index) mk argsL.toArray X₁ hg hsize hdg hW (X₁.named hnamed) (hpre vm₁ X₁.warmed) with ⟨v, B, X', hpost, hsteps⟩ | ⟨q, B, X', hpost, hsteps⟩
  · exact Or.inl ⟨v, vm₁, B, X₁.warmed, X', hpost, fun target h => hstep₁ _ fun acts => by rw [doInvoke_state]; exact hsteps.trans h⟩
  · exact Or.inr ⟨q, vm₁, B, X₁.warmed, X', hpost, hstep₁ _ fun acts => by rw [doInvoke_state]; exact hsteps⟩
end Calls
theorem vx_cls {s : State} {T : State} {vm₁ : Vm} {E : String} {k : ClassId} (hW : s.WarmedH vm₁) (h : (T.setVm vm₁).vm.findClass E = some k) : s.vm.findClass E = some k := by
  have h1 : vm₁.findClass E = some k := h
  rw [hW.alike.findClass] at h1
  exact h1
/-- the method's frame g, with q thrown over it -/
def vx_W (p : Program) (l : Launch) (e : Env) (R : Room) (s : State) (m : MethodId) (args : Array Value) (below : List Frame) (meth : Method) (c : Code) (H : Heap) (locs : List Loc) (cells slots : Nat) (Q : State → Prop) (g : JFrame) (q : Addr) : Prop :=
  ∀ T : State, T.heap = H → Stand p l e R s m args below meth c T locs cells slots → ∃ t, Steps p.tables e below ((T.setTop g).pushFrame (.throwing q)) t ∧ Q t
def vx_Run (p : Program) (l : Launch) (e : Env) (R : Room) (s : State) (m : MethodId) (args : Array Value) (below : List Frame) (meth : Method) (c : Code) (H : Heap) (locs : List Loc) (cells slots mc ms : Nat) (g : JFrame) (rest : List Value) (Qa : State → Outcome → State → Prop) (XC : String → State → State → Prop) (free : Addr → Prop) : Prop :=
  ∀ T : State, T.heap = H → Stand p l e R s m args below meth c T locs cells slots →
    (∃ (v : Option Value) (st₀ t T' : State) (L : List Loc), st₀.heap = H ∧ Stand p l e R s m args below meth c T' (locs ++ L) (cells + mc) (slots + ms) ∧ (∀ q ∈ L, free q.base) ∧ T'.heap = t.heap ∧ T'.vm = t.vm ∧ Qa st₀ (.returned v) t ∧
      Goes p e below T g T' { g with pc := g.pc + 3, stack := v.toList ++ rest }) ∨
    (∃ (q : Addr) (st₀ t T' : State) (L : List Loc) (E : String) (ce : Cell), st₀.heap = H ∧ Stand p l e R s m args below meth c T' (locs ++ L) (cells + mc) (slots + ms) ∧ (∀ z ∈ L, free z.base) ∧ T'.heap = t.heap ∧ T'.vm = t.vm ∧ XC E st₀ t ∧ t.heap[q]? = some ce ∧ ce.vm = .none ∧ s.vm.findClass E = some ce.cls ∧
      Steps p.tables e below (T.setTop g) ((T'.setTop { g with stack := rest }).pushFrame (.throwing q)))
def vx_X {S : Type} (px : S → Prop) (B : String → S → State → Prop) (A : Nat → Prop) : String → State → State → Prop := fun E st t => ∃ u : S, px u ∧ B E u t ∧ va_F A st t
section Runs
variable {p : Program} {l : Launch} {e : Env} {R : Room} {s : State} {m : MethodId} {args : Array Value} {below : List Frame} {meth : Method} {c : Code} {H : Heap} {locs : List Loc} {cells slots : Nat}
variable {y : MethodName} {bytes cc : ByteArray} {maxL nL mc ms n index : Nat} {ret : Option FieldType} {ws : List Cond} {rm : Room} {Pc : Array Value → State → Prop} {Qc : Array Value → State → Outcome → State → Prop} {XC : String → State → State → Prop} {free : Addr → Prop} {Ts : List Cond} {own C : String} {b : Addr} {As rest : List Value} {g : JFrame}
theorem vx_callBack (cb : CallB R s args own index y bytes maxL ret ws rm mc ms n) (hM : vx_Met l y ws rm Pc Qc XC mc ms free) (hbl : FrameBlind Pc) : vx_Back l R p e below s args y 3 8 (PreOf R mc ms Pc) (PostOf Qc mc ms free) (vx_Post XC mc ms free) := by
  obtain ⟨hrc, hrs, hfr, hlo, hws, hcw, -, hini, -⟩ := cb
  exact vx_back (bytes := bytes) (maxL := maxL) (ret := ret) hM hbl hrc hrs hfr hlo hws hcw (fun a' U hW => word_at hW (Or.inl (by first | rfl | simp [Cond.onTables, Cond.keeps, Cond.steady])) hini)
theorem vx_runV (S : CallFix p m c cc nL s args Ts own) (hM : vx_Met l y ws rm Pc Qc XC mc ms free) (cw : CallW R s args own C index y bytes maxL ret ws rm mc ms n) (hp : PreV s H C b Pc As)
    (hg : g.method = m) (hn : As.length = n) (hsize : g.locals.size = nL) (hstack : g.stack = As.reverse ++ .ref b :: rest) (hW : 2 * g.monitorRoom + (rest.map fun v => v.category).sum ≤ 8) (hdg : decode cc g.pc = .ok (.invokevirtual index, 3)) (hf : cells + mc ≤ R.cells ∧ slots + ms ≤ R.slots) :
    vx_Run p l e R s m args below meth c H locs cells slots mc ms g rest (Qc (Value.ref b :: As).toArray) XC free := by
  have hK : vx_Back l R p e below s args y 3 8 (PreOf R mc ms Pc) (PostOf Qc mc ms free) (vx_Post XC mc ms free) := vx_callBack cw.1 hM hp.1
  obtain ⟨⟨-, -, -, -, -, -, hcode, -, hy, hlen, hl⟩, hin, hse⟩ := cw
  obtain ⟨hx, hb, hml, ho, -⟩ := S
  obtain ⟨-, ⟨cellB, hcB, hoB, hclB⟩, hPc⟩ := hp
  intro T hT X
  rcases vx_callV X hx (C := C) (bytes := bytes) (maxL := maxL) (ret := ret) ho hl hin hse hcode hy hK (by rw [hT]; exact hcB) hoB hclB hg (hsize.trans hml.symm) (argsL := As) (rest := rest) (fun sig h => hn.trans (hlen sig h)) hstack hW (by rw [hb]; exact hdg)
    (fun vm₁ hW₁ => ⟨hf.1, hf.2, hPc (T.setVm vm₁) hT hW₁⟩) with ⟨v, vm₁, ⟨U', l2, c2, s2⟩, hW₁, X', ⟨g', mk, t, L, e1, e2, hq, h1, hL, h2, h3⟩, st⟩ | ⟨q, vm₁, ⟨U', l2, c2, s2⟩, hW₁, X', ⟨g', mk, t, L, E, ce, e1, e2, hq, hce, hcv, hcl, h1, hL, h2, h3⟩, st⟩
  · dsimp only [Pt.U, Pt.locs, Pt.cells, Pt.slots] at X' e1 e2 h1 h2 h3 st
    subst h1; subst h2; subst h3
    exact Or.inl ⟨v, (T.setVm vm₁).calling g' mk (Value.ref b :: As).toArray, t, U', L, hT, X', hL, e1, e2, hq, st⟩
  · dsimp only [Pt.U, Pt.locs, Pt.cells, Pt.slots] at X' e1 e2 h1 h2 h3 st hcl
    subst h1; subst h2; subst h3
    exact Or.inr ⟨q, (T.setVm vm₁).calling g' mk (Value.ref b :: As).toArray, t, U', L, E, ce, hT, X', hL, e1, e2, hq, hce, hcv, vx_cls hW₁ hcl, st⟩
theorem vx_runS (S : CallFix p m c cc nL s args Ts own) (hM : vx_Met l y ws rm Pc Qc XC mc ms free) (cw : CallB R s args own index y bytes maxL ret ws rm mc ms n ∧ (Cond.static y).before args s = true) (hp : PreS s H Pc As)
    (hg : g.method = m) (hn : As.length = n) (hsize : g.locals.size = nL) (hstack : g.stack = As.reverse ++ rest) (hW : 2 * g.monitorRoom + (rest.map fun v => v.category).sum ≤ 8) (hdg : decode cc g.pc = .ok (.invokestatic index, 3)) (hf : cells + mc ≤ R.cells ∧ slots + ms ≤ R.slots) :
    vx_Run p l e R s m args below meth c H locs cells slots mc ms g rest (Qc As.toArray) XC free := by
  have hK : vx_Back l R p e below s args y 3 8 (PreOf R mc ms Pc) (PostOf Qc mc ms free) (vx_Post XC mc ms free) := vx_callBack cw.1 hM hp.1
  obtain ⟨⟨-, -, -, -, -, -, hcode, hini, hy, hlen, hl⟩, hstt⟩ := cw
  obtain ⟨hx, hb, hml, ho, -⟩ := S
  intro T hT X
  rcases vx_callS X hx (bytes := bytes) (maxL := maxL) (ret := ret) ho hl hstt hini hcode hy hK hg (hsize.trans hml.symm) (argsL := As) (rest := rest) (fun sig h => hn.trans (hlen sig h)) hstack hW (by rw [hb]; exact hdg)
    (fun vm₁ hW₁ => ⟨hf.1, hf.2, hp.2 (T.setVm vm₁) hT hW₁⟩) with ⟨v, vm₁, ⟨U', l2, c2, s2⟩, hW₁, X', ⟨g', mk, t, L, e1, e2, hq, h1, hL, h2, h3⟩, st⟩ | ⟨q, vm₁, ⟨U', l2, c2, s2⟩, hW₁, X', ⟨g', mk, t, L, E, ce, e1, e2, hq, hce, hcv, hcl, h1, hL, h2, h3⟩, st⟩
  · dsimp only [Pt.U, Pt.locs, Pt.cells, Pt.slots] at X' e1 e2 h1 h2 h3 st
    subst h1; subst h2; subst h3
    exact Or.inl ⟨v, (T.setVm vm₁).calling g' mk As.toArray, t, U', L, hT, X', hL, e1, e2, hq, st⟩
  · dsimp only [Pt.U, Pt.locs, Pt.cells, Pt.slots] at X' e1 e2 h1 h2 h3 st hcl
    subst h1; subst h2; subst h3
    exact Or.inr ⟨q, (T.setVm vm₁).calling g' mk As.toArray, t, U', L, E, ce, hT, X', hL, e1, e2, hq, hce, hcv, vx_cls hW₁ hcl, st⟩
end Runs
section Rows
variable {p : Program} {l : Launch} {e : Env} {R : Room} {s : State} {m : MethodId} {args : Array Value} {below : List Frame} {meth : Method} {c : Code} {H : Heap} {locs : List Loc} {cells slots : Nat} {Q : State → Prop}
variable {mc ms : Nat} {free : Addr → Prop} {A0 A1 : Nat → Prop} {H0 : Heap} {a : Array Value} {pc : Nat} {ls : Array Slot} {st0 rest : List Value}
theorem vx_keep {st₀ t T' : State} {L : List Loc} (h0 : st₀.heap = H) (e1 : T'.heap = t.heap) (hS : va_S A0 H0 H locs) (hA : ∀ q, q < H.size → A1 q → A0 q) (hf : ∀ q, free q → A0 q) (hL : ∀ q ∈ L, free q.base) (hF : va_F A1 st₀ t) :
    H.size ≤ T'.heap.size ∧ (∀ q : Nat, q < H.size → ¬ A1 q → T'.heap[q]? = H[q]?) ∧ va_S A0 H0 T'.heap (locs ++ L) := by
  obtain ⟨hz, hk⟩ := hF
  rw [h0] at hz hk
  exact ⟨by rw [e1]; exact hz, fun q h1 h2 => by rw [e1]; exact hk q h1 h2,
    ⟨Nat.le_trans hS.1 (by rw [e1]; exact hz), fun q h1 h2 => by rw [e1, hk q (Nat.lt_of_lt_of_le h1 hS.1) (fun z => h2 (hA q (Nat.lt_of_lt_of_le h1 hS.1) z))]; exact hS.2.1 q h1 h2, fun q hq => by
      rcases List.mem_append.mp hq with h | h
      · exact hS.2.2 q h
      · exact hf _ (hL q h)⟩⟩
theorem vx_calli {S SX : Type} {post : Int32 → S → Prop} {px : SX → Prop} {B : S → State → Prop} {BX : String → SX → State → Prop} {AX : Nat → Prop} (hr : vx_Run p l e R s m args below meth c H locs cells slots mc ms (F0 m pc ls st0) rest (va_Qi post B A1 a) (vx_X px BX AX) free) (hS : va_S A0 H0 H locs) (hA : ∀ q, q < H.size → A1 q → A0 q) (hf : ∀ q, free q → A0 q) (hAX : ∀ q, q < H.size → AX q → A0 q)
    (kx : ∀ (E : String) (ce : Cell) (q9 : Addr) (u : SX) (t : State) (H1 : Heap) (locs1 : List Loc), t.heap = H1 → s.vm.Alike t.vm → px u → BX E u t → H.size ≤ H1.size → (∀ q : Nat, q < H.size → ¬ AX q → H1[q]? = H[q]?) → va_S A0 H0 H1 locs1 → H1[q9]? = some ce → ce.vm = .none → s.vm.findClass E = some ce.cls → vx_W p l e R s m args below meth c H1 locs1 (cells + mc) (slots + ms) Q (F0 m pc ls rest) q9)
    (kk : ∀ (r : Int32) (u : S) (t : State) (H1 : Heap) (locs1 : List Loc), t.heap = H1 → s.vm.Alike t.vm → post r u → B u t → H.size ≤ H1.size → (∀ q : Nat, q < H.size → ¬ A1 q → H1[q]? = H[q]?) → va_S A0 H0 H1 locs1 → W p l e R s m args below meth c H1 locs1 (cells + mc) (slots + ms) Q (F0 m (pc + 3) ls (.int r :: rest))) : W p l e R s m args below meth c H locs cells slots Q (F0 m pc ls st0) := by
  intro T hT X
  rcases hr T hT X with ⟨v, st₀, t, T', L, h0, X', hL, e1, e2, ⟨⟨r, u, hv, hp, hb⟩, hF⟩, st⟩ | ⟨q, st₀, t, T', L, E, ce, h0, X', hL, e1, e2, ⟨u, hp, hb, hF⟩, hce, hcv, hcl, st⟩
  · cases hv
    obtain ⟨k1, k2, k3⟩ := vx_keep h0 e1 hS hA hf hL hF
    obtain ⟨t2, a1, b1⟩ := kk r u t T'.heap (locs ++ L) e1.symm (by rw [← e2]; exact X'.warmed.alike) hp hb k1 k2 k3 T' rfl X'
    exact ⟨t2, st t2 a1, b1⟩
  · obtain ⟨k1, k2, k3⟩ := vx_keep h0 e1 hS hAX hf hL hF
    obtain ⟨t2, a1, b1⟩ := kx E ce q u t T'.heap (locs ++ L) e1.symm (by rw [← e2]; exact X'.warmed.alike) hp hb k1 k2 k3 (by rw [e1]; exact hce) hcv hcl T' rfl X'
    exact ⟨t2, st.trans a1, b1⟩
theorem vx_calll {S SX : Type} {post : Int64 → S → Prop} {px : SX → Prop} {B : S → State → Prop} {BX : String → SX → State → Prop} {AX : Nat → Prop} (hr : vx_Run p l e R s m args below meth c H locs cells slots mc ms (F0 m pc ls st0) rest (va_Ql post B A1 a) (vx_X px BX AX) free) (hS : va_S A0 H0 H locs) (hA : ∀ q, q < H.size → A1 q → A0 q) (hf : ∀ q, free q → A0 q) (hAX : ∀ q, q < H.size → AX q → A0 q)
    (kx : ∀ (E : String) (ce : Cell) (q9 : Addr) (u : SX) (t : State) (H1 : Heap) (locs1 : List Loc), t.heap = H1 → s.vm.Alike t.vm → px u → BX E u t → H.size ≤ H1.size → (∀ q : Nat, q < H.size → ¬ AX q → H1[q]? = H[q]?) → va_S A0 H0 H1 locs1 → H1[q9]? = some ce → ce.vm = .none → s.vm.findClass E = some ce.cls → vx_W p l e R s m args below meth c H1 locs1 (cells + mc) (slots + ms) Q (F0 m pc ls rest) q9)
    (kk : ∀ (r : Int64) (u : S) (t : State) (H1 : Heap) (locs1 : List Loc), t.heap = H1 → s.vm.Alike t.vm → post r u → B u t → H.size ≤ H1.size → (∀ q : Nat, q < H.size → ¬ A1 q → H1[q]? = H[q]?) → va_S A0 H0 H1 locs1 → W p l e R s m args below meth c H1 locs1 (cells + mc) (slots + ms) Q (F0 m (pc + 3) ls (.long r :: rest))) : W p l e R s m args below meth c H locs cells slots Q (F0 m pc ls st0) := by
  intro T hT X
  rcases hr T hT X with ⟨v, st₀, t, T', L, h0, X', hL, e1, e2, ⟨⟨r, u, hv, hp, hb⟩, hF⟩, st⟩ | ⟨q, st₀, t, T', L, E, ce, h0, X', hL, e1, e2, ⟨u, hp, hb, hF⟩, hce, hcv, hcl, st⟩
  · cases hv
    obtain ⟨k1, k2, k3⟩ := vx_keep h0 e1 hS hA hf hL hF
    obtain ⟨t2, a1, b1⟩ := kk r u t T'.heap (locs ++ L) e1.symm (by rw [← e2]; exact X'.warmed.alike) hp hb k1 k2 k3 T' rfl X'
    exact ⟨t2, st t2 a1, b1⟩
  · obtain ⟨k1, k2, k3⟩ := vx_keep h0 e1 hS hAX hf hL hF
    obtain ⟨t2, a1, b1⟩ := kx E ce q u t T'.heap (locs ++ L) e1.symm (by rw [← e2]; exact X'.warmed.alike) hp hb k1 k2 k3 (by rw [e1]; exact hce) hcv hcl T' rfl X'
    exact ⟨t2, st.trans a1, b1⟩
theorem vx_callf {S SX : Type} {post : UInt32 → S → Prop} {px : SX → Prop} {B : S → State → Prop} {BX : String → SX → State → Prop} {AX : Nat → Prop} (hr : vx_Run p l e R s m args below meth c H locs cells slots mc ms (F0 m pc ls st0) rest (va_Qf post B A1 a) (vx_X px BX AX) free) (hS : va_S A0 H0 H locs) (hA : ∀ q, q < H.size → A1 q → A0 q) (hf : ∀ q, free q → A0 q) (hAX : ∀ q, q < H.size → AX q → A0 q)
    (kx : ∀ (E : String) (ce : Cell) (q9 : Addr) (u : SX) (t : State) (H1 : Heap) (locs1 : List Loc), t.heap = H1 → s.vm.Alike t.vm → px u → BX E u t → H.size ≤ H1.size → (∀ q : Nat, q < H.size → ¬ AX q → H1[q]? = H[q]?) → va_S A0 H0 H1 locs1 → H1[q9]? = some ce → ce.vm = .none → s.vm.findClass E = some ce.cls → vx_W p l e R s m args below meth c H1 locs1 (cells + mc) (slots + ms) Q (F0 m pc ls rest) q9)
    (kk : ∀ (r : UInt32) (u : S) (t : State) (H1 : Heap) (locs1 : List Loc), t.heap = H1 → s.vm.Alike t.vm → post r u → B u t → H.size ≤ H1.size → (∀ q : Nat, q < H.size → ¬ A1 q → H1[q]? = H[q]?) → va_S A0 H0 H1 locs1 → W p l e R s m args below meth c H1 locs1 (cells + mc) (slots + ms) Q (F0 m (pc + 3) ls (.float r :: rest))) : W p l e R s m args below meth c H locs cells slots Q (F0 m pc ls st0) := by
  intro T hT X
  rcases hr T hT X with ⟨v, st₀, t, T', L, h0, X', hL, e1, e2, ⟨⟨r, u, hv, hp, hb⟩, hF⟩, st⟩ | ⟨q, st₀, t, T', L, E, ce, h0, X', hL, e1, e2, ⟨u, hp, hb, hF⟩, hce, hcv, hcl, st⟩
  · cases hv
    obtain ⟨k1, k2, k3⟩ := vx_keep h0 e1 hS hA hf hL hF
    obtain ⟨t2, a1, b1⟩ := kk r u t T'.heap (locs ++ L) e1.symm (by rw [← e2]; exact X'.warmed.alike) hp hb k1 k2 k3 T' rfl X'
    exact ⟨t2, st t2 a1, b1⟩
  · obtain ⟨k1, k2, k3⟩ := vx_keep h0 e1 hS hAX hf hL hF
    obtain ⟨t2, a1, b1⟩ := kx E ce q u t T'.heap (locs ++ L) e1.symm (by rw [← e2]; exact X'.warmed.alike) hp hb k1 k2 k3 (by rw [e1]; exact hce) hcv hcl T' rfl X'
    exact ⟨t2, st.trans a1, b1⟩
theorem vx_calld {S SX : Type} {post : UInt64 → S → Prop} {px : SX → Prop} {B : S → State → Prop} {BX : String → SX → State → Prop} {AX : Nat → Prop} (hr : vx_Run p l e R s m args below meth c H locs cells slots mc ms (F0 m pc ls st0) rest (va_Qd post B A1 a) (vx_X px BX AX) free) (hS : va_S A0 H0 H locs) (hA : ∀ q, q < H.size → A1 q → A0 q) (hf : ∀ q, free q → A0 q) (hAX : ∀ q, q < H.size → AX q → A0 q)
    (kx : ∀ (E : String) (ce : Cell) (q9 : Addr) (u : SX) (t : State) (H1 : Heap) (locs1 : List Loc), t.heap = H1 → s.vm.Alike t.vm → px u → BX E u t → H.size ≤ H1.size → (∀ q : Nat, q < H.size → ¬ AX q → H1[q]? = H[q]?) → va_S A0 H0 H1 locs1 → H1[q9]? = some ce → ce.vm = .none → s.vm.findClass E = some ce.cls → vx_W p l e R s m args below meth c H1 locs1 (cells + mc) (slots + ms) Q (F0 m pc ls rest) q9)
    (kk : ∀ (r : UInt64) (u : S) (t : State) (H1 : Heap) (locs1 : List Loc), t.heap = H1 → s.vm.Alike t.vm → post r u → B u t → H.size ≤ H1.size → (∀ q : Nat, q < H.size → ¬ A1 q → H1[q]? = H[q]?) → va_S A0 H0 H1 locs1 → W p l e R s m args below meth c H1 locs1 (cells + mc) (slots + ms) Q (F0 m (pc + 3) ls (.double r :: rest))) : W p l e R s m args below meth c H locs cells slots Q (F0 m pc ls st0) := by
  intro T hT X
  rcases hr T hT X with ⟨v, st₀, t, T', L, h0, X', hL, e1, e2, ⟨⟨r, u, hv, hp, hb⟩, hF⟩, st⟩ | ⟨q, st₀, t, T', L, E, ce, h0, X', hL, e1, e2, ⟨u, hp, hb, hF⟩, hce, hcv, hcl, st⟩
  · cases hv
    obtain ⟨k1, k2, k3⟩ := vx_keep h0 e1 hS hA hf hL hF
    obtain ⟨t2, a1, b1⟩ := kk r u t T'.heap (locs ++ L) e1.symm (by rw [← e2]; exact X'.warmed.alike) hp hb k1 k2 k3 T' rfl X'
    exact ⟨t2, st t2 a1, b1⟩
  · obtain ⟨k1, k2, k3⟩ := vx_keep h0 e1 hS hAX hf hL hF
    obtain ⟨t2, a1, b1⟩ := kx E ce q u t T'.heap (locs ++ L) e1.symm (by rw [← e2]; exact X'.warmed.alike) hp hb k1 k2 k3 (by rw [e1]; exact hce) hcv hcl T' rfl X'
    exact ⟨t2, st.trans a1, b1⟩
theorem vx_callv {S SX : Type} {post : S → Prop} {px : SX → Prop} {B : S → State → Prop} {BX : String → SX → State → Prop} {AX : Nat → Prop} (hr : vx_Run p l e R s m args below meth c H locs cells slots mc ms (F0 m pc ls st0) rest (va_Qv post B A1 a) (vx_X px BX AX) free) (hS : va_S A0 H0 H locs) (hA : ∀ q, q < H.size → A1 q → A0 q) (hf : ∀ q, free q → A0 q) (hAX : ∀ q, q < H.size → AX q → A0 q)
    (kx : ∀ (E : String) (ce : Cell) (q9 : Addr) (u : SX) (t : State) (H1 : Heap) (locs1 : List Loc), t.heap = H1 → s.vm.Alike t.vm → px u → BX E u t → H.size ≤ H1.size → (∀ q : Nat, q < H.size → ¬ AX q → H1[q]? = H[q]?) → va_S A0 H0 H1 locs1 → H1[q9]? = some ce → ce.vm = .none → s.vm.findClass E = some ce.cls → vx_W p l e R s m args below meth c H1 locs1 (cells + mc) (slots + ms) Q (F0 m pc ls rest) q9)
    (kk : ∀ (u : S) (t : State) (H1 : Heap) (locs1 : List Loc), t.heap = H1 → s.vm.Alike t.vm → post u → B u t → H.size ≤ H1.size → (∀ q : Nat, q < H.size → ¬ A1 q → H1[q]? = H[q]?) → va_S A0 H0 H1 locs1 → W p l e R s m args below meth c H1 locs1 (cells + mc) (slots + ms) Q (F0 m (pc + 3) ls (rest))) : W p l e R s m args below meth c H locs cells slots Q (F0 m pc ls st0) := by
  intro T hT X
  rcases hr T hT X with ⟨v, st₀, t, T', L, h0, X', hL, e1, e2, ⟨⟨u, hv, hp, hb⟩, hF⟩, st⟩ | ⟨q, st₀, t, T', L, E, ce, h0, X', hL, e1, e2, ⟨u, hp, hb, hF⟩, hce, hcv, hcl, st⟩
  · cases hv
    obtain ⟨k1, k2, k3⟩ := vx_keep h0 e1 hS hA hf hL hF
    obtain ⟨t2, a1, b1⟩ := kk u t T'.heap (locs ++ L) e1.symm (by rw [← e2]; exact X'.warmed.alike) hp hb k1 k2 k3 T' rfl X'
    exact ⟨t2, st t2 a1, b1⟩
  · obtain ⟨k1, k2, k3⟩ := vx_keep h0 e1 hS hAX hf hL hF
    obtain ⟨t2, a1, b1⟩ := kx E ce q u t T'.heap (locs ++ L) e1.symm (by rw [← e2]; exact X'.warmed.alike) hp hb k1 k2 k3 (by rw [e1]; exact hce) hcv hcl T' rfl X'
    exact ⟨t2, st.trans a1, b1⟩
/-- caught by the row x of this method's table; the rows ahead don't take it -/
theorem vx_catch {own name : String} {E : String} {ce : Cell} {q : Addr} (hown : s.vm.findClass own = some m.cls) (pre : List ExceptionTableEntry) (x : ExceptionTableEntry) (suf : List ExceptionTableEntry) (hsplit : c.exceptionTable.toList = pre ++ x :: suf)
    (hpass : ∀ z ∈ pre, covers z pc = false ∨ (z.catchType ≠ 0 ∧ ∃ nm : String, (Cond.classLink own z.catchType nm).before args s = true ∧ va_Nc E nm s)) (hx : covers x pc = true) (h0 : x.catchType ≠ 0)
    (hlink : (Cond.classLink own x.catchType name).before args s = true) (hcast : (Cond.castable E name).before args s = true) (hcell : H[q]? = some ce) (hv : ce.vm = .none) (hcl : s.vm.findClass E = some ce.cls)
    (kk : W p l e R s m args below meth c H locs cells slots Q (F0 m x.handlerPc ls [.ref q])) : vx_W p l e R s m args below meth c H locs cells slots Q (F0 m pc ls rest) q := by
  intro T hT X
  have hpl : e.platform.magicAccessors = ({} : Platform).magicAccessors := by rw [X.admits.platform]
  obtain ⟨c3, c4, hc3, hc4, hasg⟩ := Cond.castable_spec hcast
  cases Option.some.inj (hc3.symm.trans hcl)
  obtain ⟨c5, hc5, hcl5⟩ := Cond.classLink_spec hown hlink e.platform hpl
  cases Option.some.inj (hc4.symm.trans hc5)
  obtain ⟨vm', X', st⟩ := X.thenCaughtThrough q (g := F0 m pc ls rest) rfl (Steps.refl _) (by rw [hT]; exact hcell) (by rw [hv]; rfl) (by obtain ⟨k9, h9, -⟩ := Vm.findClass_spec hcl; exact ⟨k9, h9⟩) pre x suf hsplit
    (fun z hz => by
      rcases hpass z hz with h | ⟨hz0, nm, hl1, hn1⟩
      · exact Or.inl h
      · obtain ⟨c6, hc6, hcl6⟩ := Cond.classLink_spec hown hl1 e.platform hpl
        obtain ⟨a8, b8, h1, h2, h3⟩ := hn1
        cases Option.some.inj (h1.symm.trans hcl)
        cases Option.some.inj (h2.symm.trans hc6)
        exact Or.inr ⟨hz0, _, hcl6, h3⟩) hx (Or.inr ⟨h0, c4, hcl5, hasg⟩)
  obtain ⟨t, a1, b1⟩ := kk (T.setVm vm') hT X'
  exact ⟨t, st.trans a1, b1⟩
end Rows
section Ends
variable {p : Program} {l : Launch} {e : Env} {R : Room} {s : State} {m : MethodId} {args : Array Value} {below : List Frame} {meth : Method} {c : Code} {H : Heap} {locs : List Loc} {cells slots : Nat} {Q : State → Prop}
variable {mc ms : Nat} {free : Addr → Prop} {A0 A1 : Nat → Prop} {H0 : Heap} {a : Array Value} {ls : Array Slot} {st0 rest : List Value}
variable {Qc : Array Value → State → Outcome → State → Prop} {XC : String → State → State → Prop}
/-- what a body that may throw owes at its end -/
def vx_MQ (below : List Frame) (Qc : Array Value → State → Outcome → State → Prop) (XC : String → State → State → Prop) (a : Array Value) (s : State) (mc ms : Nat) (free : Addr → Prop) : State → Prop := fun t =>
  ∃ o, t.status = .running ∧ Ended t below o ∧ vx_Q Qc XC mc ms free a s o t
theorem vx_ret {g : JFrame} {mc ms : Nat} (k : W p l e R s m args below meth c H locs cells slots (MQ below Qc args s mc ms free) g) : W p l e R s m args below meth c H locs cells slots (vx_MQ below Qc XC args s mc ms free) g := by
  intro T hT X
  obtain ⟨t, a1, o, b1, b2, b3, b4⟩ := k T hT X
  exact ⟨t, a1, o, b1, b2, Or.inl ⟨b3, b4⟩⟩
/-- not caught here: it goes on to the caller -/
theorem vx_widen {g : JFrame} {q : Addr} {k n : Nat} (h1 : cells ≤ k) (h2 : slots ≤ n) (kk : vx_W p l e R s m args below meth c H locs k n Q g q) : vx_W p l e R s m args below meth c H locs cells slots Q g q := fun T hT X => kk T hT (stand_widen X h1 h2)
theorem vx_out {pc : Nat} {E : String} {ce : Cell} {q : Addr} {mc ms : Nat} (hout : ∀ x ∈ c.exceptionTable.toList, covers x pc = false) (hlocks : meth.locks = false) (hcell : H[q]? = some ce) (hv : ce.vm = .none) (hcl : s.vm.findClass E = some ce.cls)
    (hx : ∀ t : State, t.heap = H → s.vm.Alike t.vm → XC E s t) (hf : ∀ z ∈ locs, free z.base) (hc : cells ≤ mc) (hs : slots ≤ ms) :
    vx_W p l e R s m args below meth c H locs cells slots (vx_MQ below Qc XC args s mc ms free) (F0 m pc ls rest) q := by
  intro T hT X
  obtain ⟨st1, hrun, hend, hW, hsm⟩ := X.leaveThrown q (g := F0 m pc ls rest) rfl rfl rfl hout hlocks
  have hcell9 : (T.setFrames (.throwing q :: below)).heap[q]? = some ce := by
    show T.heap[q]? = some ce
    rw [hT]; exact hcell
  exact ⟨_, st1, .threw q, hrun, hend, Or.inr ⟨q, rfl, E, ce, locs, hx _ hT hW.alike, hcell9, hv, hcl, hW, hsm.mono hc hs, hf⟩⟩
theorem vx_frame {U : State} {k n : Nat} (h : s.sameButNew ({ U with vm := s.vm } : State) locs k n) : s.heap.size ≤ U.heap.size ∧ ∀ q : Nat, q < s.heap.size → (∀ z ∈ locs, z.base ≠ q) → U.heap[q]? = s.heap[q]? := by
  obtain ⟨-, h2, -, -, -, h6⟩ := h
  refine ⟨h2, fun q hq hz => ?_⟩
  obtain ⟨c9, e1, e2, e3, e4⟩ := h6 q _ (Array.getElem?_eq_getElem hq)
  have hs : c9.slots = (s.heap[q]).slots := Array.ext_getElem? fun i => e4 i fun hm => hz _ hm rfl
  have h9 : c9 = s.heap[q] := by
    rw [hs] at e2
    exact e2
  have e5 : U.heap[q]? = some c9 := e1
  rw [e5, h9, Array.getElem?_eq_getElem hq]
/-- the words of a throw but the four that speak of the heap -/
def vx_no (w : Cond) : Bool := decide (w ≠ .isRef (.static Bundle.tN "UNASSIGNED_STACK" Bundle.steD)) && decide (w ≠ .isRef (.static Bundle.tN "SUPPRESSED_SENTINEL" Bundle.listD)) && decide (w ≠ .laysStatic Bundle.tN "UNASSIGNED_STACK" Bundle.steD) && decide (w ≠ .laysStatic Bundle.tN "SUPPRESSED_SENTINEL" Bundle.listD)
def vx_at0 (own : String) (ic : Nat) (X : String) (names : List String) : List Cond := (Bundle.ownAtoms0 own ic X names).filter vx_no
def vx_atS (own : String) (ic : Nat) (X : String) (names : List String) : List Cond := (Bundle.ownAtoms own ic X names).filter vx_no
/-- a word that the tables alone decide, or a good one -/
def vx_ot (w : Cond) : Bool := w.onTables || goodWord w
theorem vx_ot_at {args a' : Array Value} {s U : State} {w : Cond} (hW : s.WarmedH U.vm) (hvm : s.vm = U.vm) (hg : vx_ot w = true) (h : w.before args s = true) : w.before a' U = true := by
  simp only [vx_ot, Bool.or_eq_true] at hg
  rcases hg with hg | hg
  · exact va_tabs hg hvm h
  · exact word_at hW (good_of_word hg) h
/-- a list's words: the good ones out of the method's own list, the others by premises of their own -/
theorem vx_hat {args : Array Value} {s : State} {L B : List Cond} (h1 : ∀ w ∈ L.filter goodWord, w.before args s = true) (h2 : ∀ w ∈ L.filter (fun w => !goodWord w), w ∈ B) (h3 : ∀ w ∈ B, w.before args s = true) : ∀ w ∈ L, w.before args s = true := by
  intro w hw
  by_cases g : goodWord w = true
  · exact h1 w (List.mem_filter.mpr ⟨hw, g⟩)
  · refine h3 w (h2 w (List.mem_filter.mpr ⟨hw, ?_⟩))
    show (!goodWord w) = true
    cases hgw : goodWord w
    · rfl
    · exact absurd hgw g
theorem vx_c {args : Array Value} {s : State} {w : Cond} {B : List Cond} (h : w.before args s = true) (t : ∀ w ∈ B, w.before args s = true) : ∀ w' ∈ w :: B, w'.before args s = true := fun w' h' => (List.mem_cons.mp h').elim (fun e => by rw [e]; exact h) (t w')
theorem vx_n {args : Array Value} {s : State} : ∀ w ∈ ([] : List Cond), w.before args s = true := fun _ h => nomatch h
theorem vx_own {args : Array Value} {s : State} {L : List Cond} (h1 : ∀ w ∈ L.filter vx_no, w.before args s = true)
    (hU : (Cond.isRef (.static Bundle.tN "UNASSIGNED_STACK" Bundle.steD)).before args s = true) (hN : (Cond.isRef (.static Bundle.tN "SUPPRESSED_SENTINEL" Bundle.listD)).before args s = true)
    (lU : (Cond.laysStatic Bundle.tN "UNASSIGNED_STACK" Bundle.steD).before args s = true) (lN : (Cond.laysStatic Bundle.tN "SUPPRESSED_SENTINEL" Bundle.listD).before args s = true) : ∀ w ∈ L, w.before args s = true := by
  intro w hw
  by_cases e1 : w = .isRef (.static Bundle.tN "UNASSIGNED_STACK" Bundle.steD)
  · rw [e1]; exact hU
  · by_cases e2 : w = .isRef (.static Bundle.tN "SUPPRESSED_SENTINEL" Bundle.listD)
    · rw [e2]; exact hN
    · by_cases e3 : w = .laysStatic Bundle.tN "UNASSIGNED_STACK" Bundle.steD
      · rw [e3]; exact lU
      · by_cases e4 : w = .laysStatic Bundle.tN "SUPPRESSED_SENTINEL" Bundle.listD
        · rw [e4]; exact lN
        · exact h1 w (List.mem_filter.mpr ⟨hw, by unfold vx_no; rw [decide_eq_true e1, decide_eq_true e2, decide_eq_true e3, decide_eq_true e4]; rfl⟩)
/-- where a static field lies, its class's statics cell in H -/
def vx_L (C n d : String) (A : Nat → Prop) (U : State) (H : Heap) : Prop := ∃ (c : ClassId) (k : Class) (i : Nat) (f : Field) (a : Nat) (cell : Cell), U.vm.findClass C = some c ∧ U.fieldFound? C n d = some (c, k, i, f) ∧ f.isStatic = true ∧ k.statics = some a ∧ H[a]? = some cell ∧ cell.vm.isStatics = true ∧ cell.cls = c ∧ f.slot < cell.slots.size ∧ k.staticTypes[f.slot]? = some f.type ∧ ¬ A a
theorem vx_L.moved {C n d : String} {A : Nat → Prop} {u U : State} {H : Heap} (hvm : u.vm.Alike U.vm) (h : vx_L C n d A u H) : vx_L C n d A U H := by
  obtain ⟨c, k, i, f, a, cell, h1, h2, h3, h4, h5, h6, h7, h8, h9, h10⟩ := h
  obtain ⟨k', hi', he⟩ := State.fieldFound?_setVm hvm h2
  exact ⟨c, k', i, f, a, cell, by rw [hvm.findClass]; exact h1, hi', h3, by rw [he]; exact h4, h5, h6, h7, h8, by rw [he]; exact h9, h10⟩
theorem vx_L.kept {C n d : String} {A : Nat → Prop} {U : State} {H H1 : Heap} (h : vx_L C n d A U H) (hq : ∀ a : Nat, a < H.size → ¬ A a → H1[a]? = H[a]?) : vx_L C n d A U H1 := by
  obtain ⟨c, k, i, f, a, cell, h1, h2, h3, h4, h5, h6, h7, h8, h9, h10⟩ := h
  exact ⟨c, k, i, f, a, cell, h1, h2, h3, h4, by rw [hq a (Array.getElem?_eq_some_iff.mp h5).1 h10]; exact h5, h6, h7, h8, h9, h10⟩
theorem vx_L.narrow {C n d : String} {A B : Nat → Prop} {U : State} {H : Heap} (h : vx_L C n d A U H) (hAB : ∀ q, B q → A q) : vx_L C n d B U H := by
  obtain ⟨c, k, i, f, a, cell, h1, h2, h3, h4, h5, h6, h7, h8, h9, h10⟩ := h
  exact ⟨c, k, i, f, a, cell, h1, h2, h3, h4, h5, h6, h7, h8, h9, fun z => h10 (hAB _ z)⟩
theorem vx_L.word {C n d : String} {A : Nat → Prop} {s : State} {args : Array Value} (h : vx_L C n d A s s.heap) : (Cond.laysStatic C n d).before args s = true := by
  obtain ⟨c, k, i, f, a, cell, h1, h2, h3, h4, h5, h6, h7, h8, h9, -⟩ := h
  show (Cond.laysStatic C n d).holds args s none s [] = true
  exact Cond.laysStatic_of h1 h2 h3 h4 h5 h6 h7 h8 h9
/-- .. and what it holds: null or some reference -/
def vx_Zq (C n d : String) (A : Nat → Prop) (U : State) (H : Heap) : Prop := va_Zq C n d A U H ∧ vx_L C n d A U H
theorem vx_Zq.moved {C n d : String} {A : Nat → Prop} {u U : State} {H : Heap} (hvm : u.vm.Alike U.vm) (h : vx_Zq C n d A u H) : vx_Zq C n d A U H := ⟨va_Zq.moved hvm h.1, vx_L.moved hvm h.2⟩
theorem vx_Zq.kept {C n d : String} {A : Nat → Prop} {U : State} {H H1 : Heap} (h : vx_Zq C n d A U H) (hq : ∀ a : Nat, a < H.size → ¬ A a → H1[a]? = H[a]?) : vx_Zq C n d A U H1 := ⟨va_Zq.kept h.1 hq, vx_L.kept h.2 hq⟩
theorem vx_Zq.narrow {C n d : String} {A B : Nat → Prop} {U : State} {H : Heap} (h : vx_Zq C n d A U H) (hAB : ∀ q, B q → A q) : vx_Zq C n d B U H := ⟨va_Zq.narrow h.1 hAB, vx_L.narrow h.2 hAB⟩
theorem vx_Zqof {args : Array Value} {s : State} {C n d : String} {A : Nat → Prop} (hl : (Cond.laysStatic C n d).before args s = true) (hini : (Cond.initialized C).before args s = true) (h : (Cond.isRef (.static C n d)).before args s = true) (hA : ∀ a : Nat, a < s.heap.size → ¬ A a) : vx_Zq C n d A s s.heap := by
  refine ⟨va_Zqof hl hini h hA, ?_⟩
  obtain ⟨c, k, i, f, a, cell, h1, h2, h3, h4, h5, h6, h7, h8, h9⟩ := Cond.laysStatic_spec hl
  exact ⟨c, k, i, f, a, cell, h1, h2, h3, h4, h5, h6, h7, h8, h9, hA a (Array.getElem?_eq_some_iff.mp h5).1⟩
theorem vx_isRef {C n d : String} {v : Value} {A : Nat → Prop} {s : State} {args : Array Value} (h : va_Z C n d v A s s.heap) (hv : v.isRef = true) : (Cond.isRef (.static C n d)).before args s = true := by
  obtain ⟨cf, kf, fi, f, a, cell, h1, h2, h3, h4, h5, h6, h7, -⟩ := h
  have he : (Term.static C n d).eval args s none [] s = some v := by
    simp [Term.eval, State.fieldNamed?, h1, h2, h4, h5, h6, h7]
  simp only [Cond.before, Cond.holds, Cond.value, he]
  cases v <;> simp_all [Value.isRef]
theorem vx_isRefq {C n d : String} {A : Nat → Prop} {s : State} {args : Array Value} (h : va_Zq C n d A s s.heap) : (Cond.isRef (.static C n d)).before args s = true := by
  rcases h with h | ⟨t, h⟩
  · exact vx_isRef h rfl
  · exact vx_isRef h rfl
/-- the same frame, seen from here: as if the method were called anew in this heap -/
theorem vx_rebase {T : State} (X : Stand p l e R s m args below meth c T locs cells slots) {R' : Room} (hf : R'.frames ≤ R.frames) (hl : R'.locals ≤ R.locals) (hc : cells + R'.cells ≤ R.cells) (hs : slots + R'.slots ≤ R.slots) :
    Stand p l e R' ((T.setVm s.vm).setFrames (.invoking m args :: below)) m args below meth c T [] 0 0 := by
  have htop : (T.setVm s.vm).topJava?.isSome := X.here.top
  have hF : ((T.setVm s.vm).setFrames (.invoking m args :: below)).frames = .invoking m args :: below := State.frames_setFrames _ (State.cur_lt_of_top htop)
  obtain ⟨g₀, hg0⟩ := Option.isSome_iff_exists.mp htop
  obtain ⟨r, hr⟩ := State.topJava?_eq_some.mp hg0
  have hl9 : e.platform.stackLimits (T.setVm s.vm).me = e.platform.stackLimits s.me := X.limits
  have hb9 : (T.setVm s.vm).me.stackBytes = s.me.stackBytes := X.bytes
  refine ⟨X.admits, X.cas, X.clock, hF, ?_, X.hears, X.method, X.code, X.here, X.tail, X.warmed, ?_, ?_, ?_⟩
  · have h := X.room
    have hU : ((T.setVm s.vm).setFrames (.invoking m args :: below)).localsInUse = s.localsInUse := by
      rw [State.localsInUse_invoking hF (meth := meth) (c := c) X.method X.code, State.localsInUse_invoking X.frames X.method X.code]
    simp only [State.hasRoom, Bool.and_eq_true, decide_eq_true_eq] at h ⊢
    obtain ⟨⟨⟨⟨h1, h2, h3, h4, h5, h6⟩, h7⟩, h8⟩, h9⟩ := h
    rw [X.frames, List.length_cons] at h2 h3
    have q1 := X.heapSize
    have q2 := X.used
    simp only [hF, hU, List.length_cons, State.stackLimits_setFrames, State.stackBytes_setFrames, hl9, hb9]
    refine ⟨⟨⟨⟨by omega, by omega, by omega, by omega, by omega, h6⟩, ?_⟩, ?_⟩, X.book⟩
    · show T.heap.size + R'.cells ≤ e.platform.maxCells
      omega
    · show T.slotsUsed + R'.slots ≤ e.platform.maxSlots
      omega
  · rw [State.stackLimits_setFrames]; rfl
  · rw [State.stackBytes_setFrames]; rfl
  · refine ⟨?_, Nat.le_refl _, Nat.le_refl _, ?_, ?_, fun a c9 h9 => ⟨c9, h9, rfl, rfl, fun _ _ => rfl⟩⟩
    · obtain ⟨t, ht, -⟩ := State.frames_cons hr
      show T.setVm s.vm = { ((T.setVm s.vm).setFrames (.invoking m args :: below)).setFrames (T.setVm s.vm).frames with heap := T.heap, slotsUsed := T.slotsUsed }
      rw [State.setFrames_setFrames, State.setFrames_self ht]
      rfl
    · show T.slotsUsed = T.slotsUsed + ((T.heap.toList.drop T.heap.size).map (·.slots.size)).sum
      rw [List.drop_eq_nil_of_le (Nat.le_of_eq Array.length_toList)]
      rfl
    · show ((T.heap.toList.drop T.heap.size).map (·.slots.size)).sum ≤ 0
      rw [List.drop_eq_nil_of_le (Nat.le_of_eq Array.length_toList)]
      exact Nat.le_refl _
/-- 'throw new E()': new; dup; invokespecial; athrow -/
theorem vx_throw0 {cc : ByteArray} {pc : Nat} (hexec : p.tables.exec = Jvm.exec) (hb : c.code = cc) (hl : l.stackTraces = false) {own cls : String} {names : List String} {ik ic mc ms : Nat} {A : Nat → Prop}
    (hown : s.vm.findClass own = some m.cls) (hcls : Bundle.fit cls = true) (hnames : ∀ n ∈ names, Bundle.fit n = true)
    (hk : (Cond.classLink own ik cls).before args s = true) (hini : (Cond.initialized cls).before args s = true) (hat : ∀ w ∈ vx_at0 own ic cls names, w.before args s = true)
    (hgood : ∀ w ∈ Cond.classLink own ik cls :: Cond.initialized cls :: vx_at0 own ic cls names, vx_ot w = true)
    (hU : vx_Zq Bundle.tN "UNASSIGNED_STACK" Bundle.steD A s s.heap) (hN : vx_Zq Bundle.tN "SUPPRESSED_SENTINEL" Bundle.listD A s s.heap) (hS : va_S A s.heap H locs) (hsize : ls.size = c.maxLocals)
    (d0 : decode cc pc = .ok (.new ik, 3)) (d3 : decode cc (pc + 3) = .ok (.dup, 1)) (d4 : decode cc (pc + 4) = .ok (.invokespecial ic, 3)) (d7 : decode cc (pc + 7) = .ok (.athrow, 1))
    (hout : ∀ x ∈ c.exceptionTable.toList, covers x (pc + 7) = false)
    (hRframes : names.length + 3 < R.frames) (hRlocals : (rest.map fun v => v.category).sum + (13 * (names.length + 1) + 42) ≤ R.locals) (hRcells : cells + 1 ≤ R.cells) (hRslots : slots + 6 ≤ R.slots) (hlocks : meth.locks = false)
    (hx : ∀ t : State, s.vm.Alike t.vm → H.size ≤ t.heap.size → (∀ q : Nat, q < H.size → t.heap[q]? = H[q]?) → XC cls s t)
    (hf : ∀ z ∈ locs, free z.base) (hc : cells + 1 ≤ mc) (hs : slots + 6 ≤ ms) :
    W p l e R s m args below meth c H locs cells slots (vx_MQ below Qc XC args s mc ms free) (F0 m pc ls rest) := by
  intro T hT X
  have htr : e.platform.stackTraces = false := (show e.platform.stackTraces = l.stackTraces by rw [X.admits.platform]).trans hl
  have Y := vx_rebase X (R' := { frames := R.frames, locals := R.locals, cells := 1, slots := 6 }) (Nat.le_refl _) (Nat.le_refl _) hRcells hRslots
  obtain ⟨s', hA⟩ : ∃ z, z = (T.setVm s.vm).setFrames (.invoking m args :: below) := ⟨_, rfl⟩
  rw [← hA] at Y
  have hvm : s'.vm = s.vm := by rw [hA]; rfl
  have hhp : s'.heap = H := by rw [hA]; exact hT
  have hW0 : s.WarmedH s'.vm := by rw [hvm]; exact State.WarmedH.refl s
  have hat' : ∀ w ∈ vx_at0 own ic cls names, w.before args s' = true := fun w hw => vx_ot_at hW0 hvm.symm (hgood w (List.mem_cons_of_mem _ (List.mem_cons_of_mem _ hw))) (hat w hw)
  have hk' : (Cond.classLink own ik cls).before args s' = true := vx_ot_at hW0 hvm.symm (hgood _ List.mem_cons_self) hk
  have hini' : (Cond.initialized cls).before args s' = true := vx_ot_at hW0 hvm.symm (hgood _ (List.mem_cons_of_mem _ List.mem_cons_self)) hini
  have hU' : vx_Zq Bundle.tN "UNASSIGNED_STACK" Bundle.steD A s' s'.heap := by rw [hhp]; exact vx_Zq.moved hW0.alike (hU.kept hS.2.1)
  have hN' : vx_Zq Bundle.tN "SUPPRESSED_SENTINEL" Bundle.listD A s' s'.heap := by rw [hhp]; exact vx_Zq.moved hW0.alike (hN.kept hS.2.1)
  have h : ∀ w ∈ Bundle.ownAtoms0 own ic cls names, w.before args s' = true := vx_own hat' (vx_isRefq hU'.1) (vx_isRefq hN'.1) hU'.2.word hN'.2.word
  have hown' : s'.vm.findClass own = some m.cls := by rw [hvm]; exact hown
  have hins : (Cond.instantiable cls 6).before args s' = true := h _ (by simp [Bundle.ownAtoms0])
  obtain ⟨vm₁, cX, kX, hfX, hkX, -, -, X₁, st1⟩ := Y.newCold hexec (own := own) (C := cls) (index := ik) (n := 6) hown' hk' hins hini'
    (g := F0 m pc ls rest) rfl (by rw [hb]; exact d0) (Nat.le_refl _) (Nat.le_refl _)
  generalize hT1 : (T.setVm vm₁).pushCell { cls := cX, slots := kX.instanceTypes.map defaultValue, vm := .none } = T1 at X₁ st1
  have hcat : (Value.ref T.heap.size).category = 1 := rfl
  have hcellA : T1.heap[T.heap.size]? = some (freshCell cX kX) := by rw [← hT1]; exact State.heap_pushCell_size _ _
  have d3' : decode c.code (pc + 3) = .ok (.dup, 1) := by rw [hb]; exact d3
  obtain ⟨U, hsteps, hrun, hend, hW, hsame, ce, hce, hO⟩ := X₁.ctorThrow0 hexec htr (own := own) (cls := cls) (names := names) (ic := ic) hown' hcls hnames h (fun x hx => nomatch hx) hfX hkX hcellA (by rw [hhp, hT]; exact Nat.le_refl _)
    (g := { method := m, pc := pc + 4, locals := ls, stack := .ref T.heap.size :: .ref T.heap.size :: rest, locked := none }) rfl hsize rfl rfl (rest := rest) rfl
    (by rw [hb]; exact d4) (by rw [hb]; exact d7) hout hRframes (by simp only [List.map_cons, List.sum_cons, hcat]; omega) hlocks
  obtain ⟨f1, f2⟩ := vx_frame hsame
  rw [hhp] at f1 f2
  have hWs : s.WarmedH U.vm := State.WarmedH.trans hW0 hW
  have hcl : s.vm.findClass cls = some ce.cls := by
    have h9 := hO.cls
    rw [hvm] at h9
    exact h9
  have hall : s.sameButNew ({ U with vm := s.vm } : State) locs mc ms := by
    subst hA
    obtain ⟨e1, e2⟩ := hsame
    rw [State.setFrames_setFrames] at e1
    have h2 : (T.setVm s.vm).sameButNew ({ U with vm := s.vm } : State) [] (0 + 1) (0 + 6) := ⟨e1, e2⟩
    have h3 := X.same.trans h2
    rw [List.append_nil] at h3
    exact h3.mono hc hs
  refine ⟨U, ?_, .threw T.heap.size, hrun, hend, Or.inr ⟨T.heap.size, rfl, cls, ce, locs, hx U hWs.alike f1 (fun q hq => f2 q hq (fun z hz => nomatch hz)), hce, hO.vm, hcl, hWs, hall, hf⟩⟩
  refine st1 _ ?_
  show Steps p.tables e below (T1.setTop { method := m, pc := pc + 3, locals := ls, stack := .ref T.heap.size :: rest, locked := none }) _
  jvm_step X₁.here [X₁.here.top, hexec, d3', Value.category]
  exact hsteps
/-- 'throw new E("text")': new; dup; ldc; invokespecial; athrow -/
theorem vx_throwS {cc : ByteArray} {pc : Nat} (hexec : p.tables.exec = Jvm.exec) (hb : c.code = cc) (hl : l.stackTraces = false) {own cls text : String} {names : List String} {ik is ic mc ms sa : Nat} {A : Nat → Prop}
    (hown : s.vm.findClass own = some m.cls) (hcls : Bundle.fit cls = true) (hnames : ∀ n ∈ names, Bundle.fit n = true)
    (hk : (Cond.classLink own ik cls).before args s = true) (hini : (Cond.initialized cls).before args s = true) (hstr : vk_R own is text sa s) (hat : ∀ w ∈ vx_atS own ic cls names, w.before args s = true)
    (hgood : ∀ w ∈ Cond.classLink own ik cls :: Cond.initialized cls :: vx_atS own ic cls names, vx_ot w = true)
    (hU : vx_Zq Bundle.tN "UNASSIGNED_STACK" Bundle.steD A s s.heap) (hN : vx_Zq Bundle.tN "SUPPRESSED_SENTINEL" Bundle.listD A s s.heap) (hS : va_S A s.heap H locs) (hsize : ls.size = c.maxLocals)
    (d0 : decode cc pc = .ok (.new ik, 3)) (d3 : decode cc (pc + 3) = .ok (.dup, 1)) (d4 : decode cc (pc + 4) = .ok (.ldc is, 2)) (d6 : decode cc (pc + 6) = .ok (.invokespecial ic, 3)) (d9 : decode cc (pc + 9) = .ok (.athrow, 1))
    (hout : ∀ x ∈ c.exceptionTable.toList, covers x (pc + 9) = false)
    (hRframes : names.length + 3 < R.frames) (hRlocals : (rest.map fun v => v.category).sum + (13 * (names.length + 1) + 43) ≤ R.locals) (hRcells : cells + 1 ≤ R.cells) (hRslots : slots + 6 ≤ R.slots) (hlocks : meth.locks = false)
    (hx : ∀ t : State, s.vm.Alike t.vm → H.size ≤ t.heap.size → (∀ q : Nat, q < H.size → t.heap[q]? = H[q]?) → XC cls s t)
    (hf : ∀ z ∈ locs, free z.base) (hc : cells + 1 ≤ mc) (hs : slots + 6 ≤ ms) :
    W p l e R s m args below meth c H locs cells slots (vx_MQ below Qc XC args s mc ms free) (F0 m pc ls rest) := by
  intro T hT X
  have htr : e.platform.stackTraces = false := (show e.platform.stackTraces = l.stackTraces by rw [X.admits.platform]).trans hl
  have Y := vx_rebase X (R' := { frames := R.frames, locals := R.locals, cells := 1, slots := 6 }) (Nat.le_refl _) (Nat.le_refl _) hRcells hRslots
  obtain ⟨s', hA⟩ : ∃ z, z = (T.setVm s.vm).setFrames (.invoking m args :: below) := ⟨_, rfl⟩
  rw [← hA] at Y
  have hvm : s'.vm = s.vm := by rw [hA]; rfl
  have hhp : s'.heap = H := by rw [hA]; exact hT
  have hW0 : s.WarmedH s'.vm := by rw [hvm]; exact State.WarmedH.refl s
  have hat' : ∀ w ∈ vx_atS own ic cls names, w.before args s' = true := fun w hw => vx_ot_at hW0 hvm.symm (hgood w (List.mem_cons_of_mem _ (List.mem_cons_of_mem _ hw))) (hat w hw)
  have hk' : (Cond.classLink own ik cls).before args s' = true := vx_ot_at hW0 hvm.symm (hgood _ List.mem_cons_self) hk
  have hini' : (Cond.initialized cls).before args s' = true := vx_ot_at hW0 hvm.symm (hgood _ (List.mem_cons_of_mem _ List.mem_cons_self)) hini
  have hU' : vx_Zq Bundle.tN "UNASSIGNED_STACK" Bundle.steD A s' s'.heap := by rw [hhp]; exact vx_Zq.moved hW0.alike (hU.kept hS.2.1)
  have hN' : vx_Zq Bundle.tN "SUPPRESSED_SENTINEL" Bundle.listD A s' s'.heap := by rw [hhp]; exact vx_Zq.moved hW0.alike (hN.kept hS.2.1)
  have h : ∀ w ∈ Bundle.ownAtoms own ic cls names, w.before args s' = true := vx_own hat' (vx_isRefq hU'.1) (vx_isRefq hN'.1) hU'.2.word hN'.2.word
  have hown' : s'.vm.findClass own = some m.cls := by rw [hvm]; exact hown
  have hins : (Cond.instantiable cls 6).before args s' = true := h _ (by simp [Bundle.ownAtoms])
  obtain ⟨vm₁, cX, kX, hfX, hkX, -, -, X₁, st1⟩ := Y.newCold hexec (own := own) (C := cls) (index := ik) (n := 6) hown' hk' hins hini'
    (g := F0 m pc ls rest) rfl (by rw [hb]; exact d0) (Nat.le_refl _) (Nat.le_refl _)
  generalize hT1 : (T.setVm vm₁).pushCell { cls := cX, slots := kX.instanceTypes.map defaultValue, vm := .none } = T1 at X₁ st1
  have hcat : (Value.ref T.heap.size).category = 1 := rfl
  have hcellA : T1.heap[T.heap.size]? = some (freshCell cX kX) := by rw [← hT1]; exact State.heap_pushCell_size _ _
  have d3' : decode c.code (pc + 3) = .ok (.dup, 1) := by rw [hb]; exact d3
  have d4' : decode c.code (pc + 4) = .ok (.ldc is, 2) := by rw [hb]; exact d4
  have hstr' : vk_R own is text sa s' := vk_R.warm hW0 hstr
  obtain ⟨U, hsteps, hrun, hend, hW, hsame, ce, hce, hO⟩ := X₁.ctorThrowS hexec htr (own := own) (cls := cls) (names := names) (ic := ic) hown' hcls hnames h (fun x hx => nomatch hx) hfX hkX hcellA (by rw [hhp, hT]; exact Nat.le_refl _) (msg := .ref sa) rfl
    (g := { method := m, pc := pc + 6, locals := ls, stack := .ref sa :: .ref T.heap.size :: .ref T.heap.size :: rest, locked := none }) rfl hsize rfl rfl (rest := rest) rfl
    (by rw [hb]; exact d6) (by rw [hb]; exact d9) hout hRframes (by simp only [List.map_cons, List.sum_cons, hcat]; omega) hlocks
  obtain ⟨f1, f2⟩ := vx_frame hsame
  rw [hhp] at f1 f2
  have hWs : s.WarmedH U.vm := State.WarmedH.trans hW0 hW
  have hcl : s.vm.findClass cls = some ce.cls := by
    have h9 := hO.cls
    rw [hvm] at h9
    exact h9
  have hall : s.sameButNew ({ U with vm := s.vm } : State) locs mc ms := by
    subst hA
    obtain ⟨e1, e2⟩ := hsame
    rw [State.setFrames_setFrames] at e1
    have h2 : (T.setVm s.vm).sameButNew ({ U with vm := s.vm } : State) [] (0 + 1) (0 + 6) := ⟨e1, e2⟩
    have h3 := X.same.trans h2
    rw [List.append_nil] at h3
    exact h3.mono hc hs
  refine ⟨U, ?_, .threw T.heap.size, hrun, hend, Or.inr ⟨T.heap.size, rfl, cls, ce, locs, hx U hWs.alike f1 (fun q hq => f2 q hq (fun z hz => nomatch hz)), hce, hO.vm, hcl, hWs, hall, hf⟩⟩
  refine st1 _ ?_
  show Steps p.tables e below (T1.setTop { method := m, pc := pc + 3, locals := ls, stack := .ref T.heap.size :: rest, locked := none }) _
  jvm_step X₁.here [X₁.here.top, hexec, d3', Value.category]
  exact X₁.ldcString hexec (own := own) (text := text) (index := is) (a := sa) hown' hstr'.1 hstr'.2
    (g := { method := m, pc := pc + 4, locals := ls, stack := .ref T.heap.size :: .ref T.heap.size :: rest, locked := none }) rfl d4' _ hsteps
/-- 'throw new E("text")', the text by a wide index -/
theorem vx_throwSW {cc : ByteArray} {pc : Nat} (hexec : p.tables.exec = Jvm.exec) (hb : c.code = cc) (hl : l.stackTraces = false) {own cls text : String} {names : List String} {ik is ic mc ms sa : Nat} {A : Nat → Prop}
    (hown : s.vm.findClass own = some m.cls) (hcls : Bundle.fit cls = true) (hnames : ∀ n ∈ names, Bundle.fit n = true)
    (hk : (Cond.classLink own ik cls).before args s = true) (hini : (Cond.initialized cls).before args s = true) (hstr : vk_R own is text sa s) (hat : ∀ w ∈ vx_atS own ic cls names, w.before args s = true)
    (hgood : ∀ w ∈ Cond.classLink own ik cls :: Cond.initialized cls :: vx_atS own ic cls names, vx_ot w = true)
    (hU : vx_Zq Bundle.tN "UNASSIGNED_STACK" Bundle.steD A s s.heap) (hN : vx_Zq Bundle.tN "SUPPRESSED_SENTINEL" Bundle.listD A s s.heap) (hS : va_S A s.heap H locs) (hsize : ls.size = c.maxLocals)
    (d0 : decode cc pc = .ok (.new ik, 3)) (d3 : decode cc (pc + 3) = .ok (.dup, 1)) (d4 : decode cc (pc + 4) = .ok (.ldc_w is, 3)) (d7 : decode cc (pc + 7) = .ok (.invokespecial ic, 3)) (d10 : decode cc (pc + 10) = .ok (.athrow, 1))
    (hout : ∀ x ∈ c.exceptionTable.toList, covers x (pc + 10) = false)
    (hRframes : names.length + 3 < R.frames) (hRlocals : (rest.map fun v => v.category).sum + (13 * (names.length + 1) + 43) ≤ R.locals) (hRcells : cells + 1 ≤ R.cells) (hRslots : slots + 6 ≤ R.slots) (hlocks : meth.locks = false)
    (hx : ∀ t : State, s.vm.Alike t.vm → H.size ≤ t.heap.size → (∀ q : Nat, q < H.size → t.heap[q]? = H[q]?) → XC cls s t)
    (hf : ∀ z ∈ locs, free z.base) (hc : cells + 1 ≤ mc) (hs : slots + 6 ≤ ms) :
    W p l e R s m args below meth c H locs cells slots (vx_MQ below Qc XC args s mc ms free) (F0 m pc ls rest) := by
  intro T hT X
  have htr : e.platform.stackTraces = false := (show e.platform.stackTraces = l.stackTraces by rw [X.admits.platform]).trans hl
  have Y := vx_rebase X (R' := { frames := R.frames, locals := R.locals, cells := 1, slots := 6 }) (Nat.le_refl _) (Nat.le_refl _) hRcells hRslots
  obtain ⟨s', hA⟩ : ∃ z, z = (T.setVm s.vm).setFrames (.invoking m args :: below) := ⟨_, rfl⟩
  rw [← hA] at Y
  have hvm : s'.vm = s.vm := by rw [hA]; rfl
  have hhp : s'.heap = H := by rw [hA]; exact hT
  have hW0 : s.WarmedH s'.vm := by rw [hvm]; exact State.WarmedH.refl s
  have hat' : ∀ w ∈ vx_atS own ic cls names, w.before args s' = true := fun w hw => vx_ot_at hW0 hvm.symm (hgood w (List.mem_cons_of_mem _ (List.mem_cons_of_mem _ hw))) (hat w hw)
  have hk' : (Cond.classLink own ik cls).before args s' = true := vx_ot_at hW0 hvm.symm (hgood _ List.mem_cons_self) hk
  have hini' : (Cond.initialized cls).before args s' = true := vx_ot_at hW0 hvm.symm (hgood _ (List.mem_cons_of_mem _ List.mem_cons_self)) hini
  have hU' : vx_Zq Bundle.tN "UNASSIGNED_STACK" Bundle.steD A s' s'.heap := by rw [hhp]; exact vx_Zq.moved hW0.alike (hU.kept hS.2.1)
  have hN' : vx_Zq Bundle.tN "SUPPRESSED_SENTINEL" Bundle.listD A s' s'.heap := by rw [hhp]; exact vx_Zq.moved hW0.alike (hN.kept hS.2.1)
  have h : ∀ w ∈ Bundle.ownAtoms own ic cls names, w.before args s' = true := vx_own hat' (vx_isRefq hU'.1) (vx_isRefq hN'.1) hU'.2.word hN'.2.word
  have hown' : s'.vm.findClass own = some m.cls := by rw [hvm]; exact hown
  have hins : (Cond.instantiable cls 6).before args s' = true := h _ (by simp [Bundle.ownAtoms])
  obtain ⟨vm₁, cX, kX, hfX, hkX, -, -, X₁, st1⟩ := Y.newCold hexec (own := own) (C := cls) (index := ik) (n := 6) hown' hk' hins hini'
    (g := F0 m pc ls rest) rfl (by rw [hb]; exact d0) (Nat.le_refl _) (Nat.le_refl _)
  generalize hT1 : (T.setVm vm₁).pushCell { cls := cX, slots := kX.instanceTypes.map defaultValue, vm := .none } = T1 at X₁ st1
  have hcat : (Value.ref T.heap.size).category = 1 := rfl
  have hcellA : T1.heap[T.heap.size]? = some (freshCell cX kX) := by rw [← hT1]; exact State.heap_pushCell_size _ _
  have d3' : decode c.code (pc + 3) = .ok (.dup, 1) := by rw [hb]; exact d3
  have d4' : decode c.code (pc + 4) = .ok (.ldc_w is, 3) := by rw [hb]; exact d4
  have hstr' : vk_R own is text sa s' := vk_R.warm hW0 hstr
  obtain ⟨U, hsteps, hrun, hend, hW, hsame, ce, hce, hO⟩ := X₁.ctorThrowS hexec htr (own := own) (cls := cls) (names := names) (ic := ic) hown' hcls hnames h (fun x hx => nomatch hx) hfX hkX hcellA (by rw [hhp, hT]; exact Nat.le_refl _) (msg := .ref sa) rfl
    (g := { method := m, pc := pc + 7, locals := ls, stack := .ref sa :: .ref T.heap.size :: .ref T.heap.size :: rest, locked := none }) rfl hsize rfl rfl (rest := rest) rfl
    (by rw [hb]; exact d7) (by rw [hb]; exact d10) hout hRframes (by simp only [List.map_cons, List.sum_cons, hcat]; omega) hlocks
  obtain ⟨f1, f2⟩ := vx_frame hsame
  rw [hhp] at f1 f2
  have hWs : s.WarmedH U.vm := State.WarmedH.trans hW0 hW
  have hcl : s.vm.findClass cls = some ce.cls := by
    have h9 := hO.cls
    rw [hvm] at h9
    exact h9
  have hall : s.sameButNew ({ U with vm := s.vm } : State) locs mc ms := by
    subst hA
    obtain ⟨e1, e2⟩ := hsame
    rw [State.setFrames_setFrames] at e1
    have h2 : (T.setVm s.vm).sameButNew ({ U with vm := s.vm } : State) [] (0 + 1) (0 + 6) := ⟨e1, e2⟩
    have h3 := X.same.trans h2
    rw [List.append_nil] at h3
    exact h3.mono hc hs
  refine ⟨U, ?_, .threw T.heap.size, hrun, hend, Or.inr ⟨T.heap.size, rfl, cls, ce, locs, hx U hWs.alike f1 (fun q hq => f2 q hq (fun z hz => nomatch hz)), hce, hO.vm, hcl, hWs, hall, hf⟩⟩
  refine st1 _ ?_
  show Steps p.tables e below (T1.setTop { method := m, pc := pc + 3, locals := ls, stack := .ref T.heap.size :: rest, locked := none }) _
  jvm_step X₁.here [X₁.here.top, hexec, d3', Value.category]
  exact X₁.ldcStringW hexec (own := own) (text := text) (index := is) (a := sa) hown' hstr'.1 hstr'.2
    (g := { method := m, pc := pc + 4, locals := ls, stack := .ref T.heap.size :: .ref T.heap.size :: rest, locked := none }) rfl d4' _ hsteps
end Ends
section Bodies
variable {l : Launch}
theorem vx_ofW {y : MethodName} {ws ws' : List Cond} {rm : Room} {Pc : Array Value → State → Prop} {Qc : Array Value → State → Outcome → State → Prop} {XC : String → State → State → Prop} {mc ms : Nat} {free : Addr → Prop} {cc : ByteArray} {maxL : Nat} {ret : Option FieldType}
    (hy : plainName y.cls = true) (hw : ws = Cond.code y cc maxL ret :: ws')
    (body : ∀ p e s m args below meth c s₁, BodyLoose p l y (headSpec ws rm) cc maxL ret e s m args below meth c s₁ → c.maxLocals = maxL → (∀ x ∈ c.exceptionTable.toList, False) → Pc args s →
      W p l e (headSpec ws rm).room s m args below meth c s.heap [] 0 0 (vx_MQ below Qc XC args s mc ms free) (entryFrame m args maxL)) : vx_Met l y ws rm Pc Qc XC mc ms free := by
  refine MetFree.of_bodyS (code := cc) (maxLocals := maxL) (ret := ret) hy ?_ ?_
  · intro args s m h hn
    obtain ⟨meth, c, h1, h2, h3, h4, h5, h6, -, -⟩ := Cond.code_spec hn (atoms_spec (ws := ws) h _ (by rw [hw]; exact List.mem_cons_self))
    exact ⟨meth, c, h1, h2, h3, h4, h5, h6⟩
  · intro p e s m args below meth c s₁ B hml hP _
    have hh0 : s₁.heap = s.heap := by rw [B.state]; rfl
    have ht : ∀ x ∈ c.exceptionTable.toList, False := by
      obtain ⟨meth9, c9, h1, h2, -, -, -, -, h7, -⟩ := Cond.code_spec B.named (atoms_spec (ws := ws) B.pre _ (by rw [hw]; exact List.mem_cons_self))
      cases Option.some.inj (h1.symm.trans B.method)
      cases Option.some.inj (h2.symm.trans (Stand.of_body B).code)
      intro x hx
      rw [Array.isEmpty_iff.mp h7] at hx
      cases hx
    obtain ⟨t, a1, o, b1, b2, b3⟩ := body p e s m args below meth c s₁ B hml ht hP s₁ hh0 (Stand.of_body B)
    exact ⟨t, o, a1, b1, b2, b3⟩
/-- the table of a body with handlers -/
theorem vx_table {p : Program} {x y : MethodName} {S : Spec} {cc bytes : ByteArray} {maxL maxL' : Nat} {ret ret' : Option FieldType} {e : Env} {s s₁ : State} {m : MethodId} {args : Array Value} {below : List Frame} {meth : Method} {c : Code} {hh : List (Nat × Nat × Nat × Nat)}
    (B : BodyLoose p l y S cc maxL ret e s m args below meth c s₁) (h : (Cond.codeWith y bytes maxL' ret' hh).before args s = true) : c.exceptionTable.toList = tableOf hh := by
  obtain ⟨m9, meth9, c9, hn9, h1, h2, -, -, h6, -⟩ := Cond.codeWith_spec h
  cases Option.some.inj (hn9.symm.trans B.named)
  cases Option.some.inj (h1.symm.trans B.method)
  cases Option.some.inj (h2.symm.trans (Stand.of_body B).code)
  rw [← h6, table_eq]
end Bodies
end VXA
/-! ===== END ===== -/
/-! ===== BEGIN a static call of a method with an exception table ===== -/
section VXS
variable {p : Program} {l : Launch} {e : Env} {R : Room} {s : State} {m : MethodId} {args : Array Value} {below : List Frame} {meth : Method} {c : Code} {T : State} {H : Heap} {locs : List Loc} {cells slots : Nat}
abbrev vx_CSW (R : Room) (s : State) (args : Array Value) (own : String) (index : Nat) (y : MethodName) (bytes : ByteArray) (maxL : Nat) (ret : Option FieldType) (hh : List (Nat × Nat × Nat × Nat)) (ws : List Cond) (rm : Room) (mc ms n : Nat) : Prop :=
  (rm.cells = mc ∧ rm.slots = ms ∧ rm.frames + 1 ≤ R.frames ∧ 8 + (maxL + 11) + rm.locals ≤ R.locals ∧ (∀ w ∈ ws, ∀ (a' : Array Value) (U : State), s.WarmedH U.vm → w.before a' U = true) ∧ Cond.codeWith y bytes maxL ret hh ∈ ws) ∧
  (Cond.codeWith y bytes maxL ret hh).before args s = true ∧ (Cond.initialized y.cls).before args s = true ∧ (y.cls ≠ "java/lang/invoke/MethodHandle" ∧ y.cls ≠ "java/lang/invoke/VarHandle") ∧
  (∀ sig, parseMethodDescriptor y.desc = some sig → n = sig.parameters.length) ∧ (Cond.methodLink own index y).before args s = true ∧ (Cond.static y).before args s = true
theorem vx_cwSW {own : String} {index maxL mc ms : Nat} {y : MethodName} {bytes : ByteArray} {ret : Option FieldType} {hh : List (Nat × Nat × Nat × Nat)} {Ts ws ws' : List Cond} {rm : Room} (n : Nat) (ht : ∀ w ∈ Ts, w.before args s = true) (hT : GoodIn Ts (va_wsS own index y ws)) (hw : ws = Cond.codeWith y bytes maxL ret hh :: ws') (hrc : rm.cells = mc) (hrs : rm.slots = ms)
    (hd : y.cls ≠ "java/lang/invoke/MethodHandle" ∧ y.cls ≠ "java/lang/invoke/VarHandle" ∧ (parseMethodDescriptor y.desc).map (fun d => d.parameters.length) = some n) (hR : rm.frames + 1 ≤ R.frames ∧ 8 + (maxL + 11) + rm.locals ≤ R.locals) :
    vx_CSW R s args own index y bytes maxL ret hh ws rm mc ms n := by
  have ok : ∀ w ∈ va_wsS own index y ws, w.before args s = true := fun w h => ht w (hT w h).1
  have hG : GoodIn Ts ws := fun w h => hT w (by unfold va_wsS; exact List.mem_append_right _ h)
  have hc : Cond.codeWith y bytes maxL ret hh ∈ ws := by rw [hw]; exact List.mem_cons_self
  refine ⟨⟨hrc, hrs, hR.1, hR.2, pay_in ht hG, hc⟩, ht _ (hG _ hc).1, ok _ (by simp [va_wsS]), ⟨hd.1, hd.2.1⟩, fun sig h => ?_, ok _ (by simp [va_wsS]), ok _ (by simp [va_wsS])⟩
  have h2 := hd.2.2
  rw [h] at h2
  exact (Option.some.inj h2).symm
theorem vx_callSW (X : Stand p l e R s m args below meth c T locs cells slots) (hexec : p.tables.exec = Jvm.exec) {own : String} {index : Nat} {y : MethodName} {bytes : ByteArray} {maxL : Nat} {ret : Option FieldType} {hh : List (Nat × Nat × Nat × Nat)}
    (hown : s.vm.findClass own = some m.cls) (hlink : (Cond.methodLink own index y).before args s = true) (hstat : (Cond.static y).before args s = true) (hinit : (Cond.initialized y.cls).before args s = true)
    (hcode : (Cond.codeWith y bytes maxL ret hh).before args s = true) (hy : y.cls ≠ "java/lang/invoke/MethodHandle" ∧ y.cls ≠ "java/lang/invoke/VarHandle")
    {W9 : Nat} {Pre : Pt → Array Value → Prop} {Post : Pt → Array Value → Option Value → Pt → Prop} (hK : Back l R p e below s args y 3 W9 Pre Post)
    {g : JFrame} (hg : g.method = m) (hsize : g.locals.size = c.maxLocals) {argsL rest : List Value} (hlen : ∀ sig, parseMethodDescriptor y.desc = some sig → argsL.length = sig.parameters.length)
    (hstack : g.stack = argsL.reverse ++ rest) (hW : 2 * g.monitorRoom + (rest.map fun v => v.category).sum ≤ W9) (hdg : decode c.code g.pc = .ok (.invokestatic index, 3))
    (hpre : ∀ vm₁, s.WarmedH vm₁ → Pre ⟨T.setVm vm₁, locs, cells, slots⟩ argsL.toArray) :
    ∃ (v : Option Value) (vm₁ : Vm) (B : Pt), s.WarmedH vm₁ ∧ Stand p l e R s m args below meth c B.U B.locs B.cells B.slots ∧ Post ⟨T.setVm vm₁, locs, cells, slots⟩ argsL.toArray v B ∧
      ∀ target, Steps p.tables e below (B.U.setTop { g with pc := g.pc + 3, stack := v.toList ++ rest }) target → Steps p.tables e below (T.setTop g) target := by
  obtain ⟨mk, methM, cM, hnamed, hmethM, -, -, -, -, -, -, hsigM⟩ := Cond.codeWith_spec hcode
  have hstatic : methM.isStatic = true := Cond.static_spec hnamed hmethM hstat
  obtain ⟨kP, hkP, -⟩ := className_of_methodNamed hnamed
  have hinitP : kP.init = .initialized := Cond.initialized_spec (findClass_of_methodNamed hnamed) hkP hinit
  obtain ⟨vm₁, X₁, hstep₁⟩ := X.invokestatic hexec hown hlink hnamed hmethM hstatic hkP hinitP hy (g := g) hg (argsL := argsL) (rest := rest) (hlen _ hsigM) hstack hdg
  obtain ⟨v, B, X', hpost, hsteps⟩ := hK m meth c ⟨T.setVm vm₁, locs, cells, slots⟩ { g with stack := rest } (.invokestatic index) mk argsL.toArray X₁ hg hsize hdg hW (X₁.named hnamed) (hpre vm₁ X₁.warmed)
  exact ⟨v, vm₁, B, X₁.warmed, X', hpost, fun target h => hstep₁ _ fun acts => by rw [doInvoke_state]; exact hsteps.trans h⟩
theorem vx_runSW {y : MethodName} {bytes cc : ByteArray} {maxL nL mc ms n index : Nat} {ret : Option FieldType} {hh : List (Nat × Nat × Nat × Nat)} {ws : List Cond} {rm : Room} {Pc : Array Value → State → Prop} {Qc : Array Value → State → Outcome → State → Prop} {free : Addr → Prop} {Ts : List Cond} {own : String} {As rest : List Value} {g : JFrame}
    (S : CallFix p m c cc nL s args Ts own) (hM : Met l y ws rm Pc Qc mc ms free) (cw : vx_CSW R s args own index y bytes maxL ret hh ws rm mc ms n) (hp : PreS s H Pc As)
    (hg : g.method = m) (hn : As.length = n) (hsize : g.locals.size = nL) (hstack : g.stack = As.reverse ++ rest) (hW : 2 * g.monitorRoom + (rest.map fun v => v.category).sum ≤ 8) (hdg : decode cc g.pc = .ok (.invokestatic index, 3)) (hf : cells + mc ≤ R.cells ∧ slots + ms ≤ R.slots) :
    va_Run p l e R s m args below meth c H locs cells slots mc ms g rest (Qc As.toArray) (free) := by
  obtain ⟨⟨hrc, hrs, hfr, hlo, hws, hcw⟩, hcode, hini, hy, hlen, hl, hstt⟩ := cw
  have hK : Back l R p e below s args y 3 8 (PreOf R mc ms Pc) (PostOf Qc mc ms free) := va_backW (hh := hh) (bytes := bytes) (maxL := maxL) (ret := ret) hM hp.1 hrc hrs hfr hlo hws hcw (fun a' U hW => word_at hW (Or.inl (by first | rfl | simp [Cond.onTables, Cond.keeps, Cond.steady])) hini)
  obtain ⟨hx, hb, hml, ho, -⟩ := S
  intro T hT X
  obtain ⟨v, vm₁, ⟨U', l2, c2, s2⟩, hW₁, X', ⟨g', mk, t, L, e1, e2, hq, h1, hL, h2, h3⟩, st⟩ := vx_callSW X hx (hh := hh) (bytes := bytes) (maxL := maxL) (ret := ret) ho hl hstt hini hcode hy hK hg (hsize.trans hml.symm) (argsL := As) (rest := rest) (fun sig h => hn.trans (hlen sig h)) hstack hW (by rw [hb]; exact hdg)
    (fun vm₁ hW₁ => ⟨hf.1, hf.2, hp.2 (T.setVm vm₁) hT hW₁⟩)
  dsimp only [Pt.U, Pt.locs, Pt.cells, Pt.slots] at X' e1 e2 h1 h2 h3 st
  subst h1; subst h2; subst h3
  exact ⟨v, (T.setVm vm₁).calling g' mk As.toArray, t, U', L, hT, X', hL, e1, e2, hq, st⟩
/-- not caught here, past rows that name other classes: it goes on to the caller -/
theorem vx_outP {p : Program} {l : Launch} {e : Env} {R : Room} {s : State} {m : MethodId} {args : Array Value} {below : List Frame} {meth : Method} {c : Code} {H : Heap} {locs : List Loc} {cells slots : Nat} {free : Addr → Prop} {ls : Array Slot} {rest : List Value} {Qc : Array Value → State → Outcome → State → Prop} {XC : String → State → State → Prop}
    {pc : Nat} {own E : String} {ce : Cell} {q : Addr} {mc ms : Nat} (hown : s.vm.findClass own = some m.cls) (hlocks : meth.locks = false)
    (hpass : ∀ z ∈ c.exceptionTable.toList, covers z pc = false ∨ (z.catchType ≠ 0 ∧ ∃ nm : String, (Cond.classLink own z.catchType nm).before args s = true ∧ va_Nc E nm s)) (hcell : H[q]? = some ce) (hv : ce.vm = .none) (hcl : s.vm.findClass E = some ce.cls)
    (hx : ∀ t : State, t.heap = H → s.vm.Alike t.vm → XC E s t) (hf : ∀ z ∈ locs, free z.base) (hc : cells ≤ mc) (hs : slots ≤ ms) :
    vx_W p l e R s m args below meth c H locs cells slots (vx_MQ below Qc XC args s mc ms free) (F0 m pc ls rest) q := by
  intro T hT X
  have hpl : e.platform.magicAccessors = ({} : Platform).magicAccessors := by rw [X.admits.platform]
  obtain ⟨vm', hW', X', st⟩ := X.outThrough hlocks q (g := F0 m pc ls rest) rfl rfl rfl (cell := ce) (by rw [hT]; exact hcell) (by rw [hv]; rfl)
    (by obtain ⟨k9, h9, -⟩ := Vm.findClass_spec hcl; exact ⟨k9, h9⟩) (fun z hz => by
      rcases hpass z hz with h | ⟨hz0, nm, hl1, hn1⟩
      · exact Or.inl h
      · obtain ⟨c6, hc6, hcl6⟩ := Cond.classLink_spec hown hl1 e.platform hpl
        obtain ⟨a8, b8, h1, h2, h3⟩ := hn1
        cases Option.some.inj (h1.symm.trans hcl)
        cases Option.some.inj (h2.symm.trans hc6)
        exact Or.inr ⟨hz0, _, hcl6, h3⟩)
  obtain ⟨g₀, hfr⟩ := X'.frames_eq
  have hcell9 : ((T.setVm vm').setFrames (.throwing q :: below)).heap[q]? = some ce := by
    show T.heap[q]? = some ce
    rw [hT]; exact hcell
  have hend : Ended ((T.setVm vm').setFrames (.throwing q :: below)) below (.threw q) := State.frames_setFrames _ (State.cur_lt_of_frames hfr)
  refine ⟨(T.setVm vm').setFrames (.throwing q :: below), ?_, .threw q, X'.here.running, hend, Or.inr ⟨q, rfl, E, ce, locs, hx _ hT (X'.ends _).1.alike, hcell9, hv, hcl, (X'.ends _).1, (X'.ends _).2.mono hc hs, hf⟩⟩
  rw [X.pushThrowing_eq]
  exact st
/-- a thing of a world lies in the heap -/
theorem vx_lt {D : va_G} {cl : List vw_C} {ws : va_W} {H1 : Heap} (h : va_P D cl ws H1) {k : Nat} {q : Nat × va_E} (hk : ws[k]? = some q) : q.1 < H1.size := (h k q hk).lt
end VXS
/-! ===== END ===== -/
/-! ===== BEGIN methods with a table of their own: called by a name, returning or throwing ===== -/
section VXH
/-! vx_backW, vx_callVX, vx_callSX, vx_callVW, vx_runVW, vx_runVX, vx_runSX, vx_ofWH follow the same proofs as their sisters above (Free/Laws.lean, Shelf42/LK1.lean); vx_outP calls Shelf42/NT130.lean (outThrough). -/
section
variable {l : Launch} {R : Room} {p : Program} {e : Env} {below : List Frame} {s : State} {sargs : Array Value} {y : MethodName} {len W9 : Nat}
theorem vx_backW {ws : List Cond} {rm : Room} {Pc : Array Value → State → Prop} {Qc : Array Value → State → Outcome → State → Prop} {XC : String → State → State → Prop} {mc ms : Nat} {free : Addr → Prop} {bytes : ByteArray} {maxL : Nat} {ret : Option FieldType} {hh : List (Nat × Nat × Nat × Nat)}
    (hM : vx_Met l y ws rm Pc Qc XC mc ms free) (hblind : FrameBlind Pc) (hrc : rm.cells = mc) (hrs : rm.slots = ms)
    (hframes : rm.frames + 1 ≤ R.frames) (hlocals : W9 + (maxL + 11) + rm.locals ≤ R.locals)
    (hws : ∀ w ∈ ws, ∀ a' U, s.WarmedH U.vm → w.before a' U = true) (hcode : Cond.codeWith y bytes maxL ret hh ∈ ws) (hinit : ∀ a' U, s.WarmedH U.vm → (Cond.initialized y.cls).before a' U = true) :
    vx_Back l R p e below s sargs y len W9 (PreOf R mc ms Pc) (PostOf Qc mc ms free) (vx_Post XC mc ms free) := by
  intro m meth c A g ig mk a X hg hsize hdg hW hn hp
  have h1 : (headSpec ws rm).pre.before a A.U = true := atoms_intro fun w hw => hws w hw _ _ X.warmed
  have h2 : (Cond.codeWith y bytes maxL ret hh).before a A.U = true := hws _ hcode _ _ X.warmed
  have h3 : (Cond.initialized y.cls).before a A.U = true := hinit _ _ X.warmed
  have h4 : A.cells + (headSpec ws rm).room.cells ≤ R.cells := by rw [show (headSpec ws rm).room.cells = mc from hrc]; exact hp.1
  have h5 : A.slots + (headSpec ws rm).room.slots ≤ R.slots := by rw [show (headSpec ws rm).room.slots = ms from hrs]; exact hp.2.1
  have hPc : Pc a (A.U.calling g mk a) := hblind _ _ _ _ hp.2.2
  obtain ⟨U, Ls, c0, s0⟩ := A
  dsimp only [Pt.U, Pt.locs, Pt.cells, Pt.slots] at h1 h2 h3 h4 h5 X hn hPc ⊢
  obtain ⟨m9, methY, cY, hn9, hmY, hcY, -, hlY, -⟩ := Cond.codeWith_spec h2
  cases Option.some.inj (hn9.symm.trans hn)
  obtain ⟨kY, hkY, -⟩ := className_of_methodNamed hn
  have hinitY : kY.init = .initialized := Cond.initialized_spec (findClass_of_methodNamed hn) hkY h3
  have h : At U g.method c below := by rw [hg]; exact X.here
  have hlocals9 : W9 + (maxL + 11) + (headSpec ws rm).room.locals ≤ R.locals := hlocals
  have happ : (headSpec ws rm).appliesLoose y e.platform (U.calling g mk a) = true :=
    Spec.appliesLoose_calling (g := g) h hdg hn hkY hinitY
      (X.room_calling (g := g) (R' := (headSpec ws rm).room) hsize hmY hcY hframes (by rw [hlY]; omega) h4 h5) h1
  obtain ⟨mid, hmid⟩ := h.above
  have hfr : (U.setTop g).frames = (.java g :: mid) ++ below := by rw [State.frames_setTop' g h.top, hmid]; rfl
  obtain ⟨o, s₂, hsteps, -, hend, hq⟩ := Steps.callFree hM p X.admits X.cas X.clock (acts := []) hfr happ hPc trivial
  have hq' : vx_Q Qc XC mc ms free a (U.calling g mk a) o s₂ := hq
  rw [State.frames_setTop' g h.top] at hend
  obtain ⟨g₀, hg0⟩ := Option.isSome_iff_exists.mp h.top
  obtain ⟨r, hr⟩ := State.topJava?_eq_some.mp hg0
  have hr' : (({ U with heap := s₂.heap, slotsUsed := s₂.slotsUsed } : State).setVm s₂.vm).frames = .java g₀ :: r := hr
  rcases hq' with ⟨hqc, L, hfe, hL⟩ | ⟨q, rfl, E, ce, L, hx, hce, hcv, hcl, hW₂, hsm, hL⟩
  · obtain ⟨⟨v, rfl⟩, hW₂, e2, q2, q3, q4, q5, q6⟩ := id hfe
    have e3 : s₂ = ({ (U.calling g mk a).setFrames s₂.frames with heap := s₂.heap, slotsUsed := s₂.slotsUsed } : State).setVm s₂.vm := by
      have : s₂ = ({ s₂ with vm := (U.calling g mk a).vm } : State).setVm s₂.vm := rfl
      rw [e2] at this
      exact this
    obtain ⟨c₂, i₂, len₂, hc₂, hd₂, hf₂⟩ := hend
    have hW' : U.WarmedH s₂.vm := hW₂
    have hcc : c₂ = c := by
      have h1 : s₂.code? g.method = U.code? g.method := by
        rw [State.code?_eq, State.code?_eq, hW'.alike.method?]
      exact Option.some.inj (hc₂.symm.trans (h1.trans h.code))
    subst hcc
    have hlen : len₂ = len := by rw [hdg] at hd₂; cases hd₂; rfl
    subst hlen
    have hs₂ : s₂ = (({ U with heap := s₂.heap, slotsUsed := s₂.slotsUsed } : State).setVm s₂.vm).setTop { g with pc := g.pc + len₂, stack := v.toList ++ g.stack } := by
      refine e3.trans ?_
      rw [hf₂, State.calling_eq h.top, State.setFrames_setFrames, State.setTop_of_frames _ hr', hr]
      rfl
    have hsame : U.sameButNew ({ U with heap := s₂.heap, slotsUsed := s₂.slotsUsed } : State) L mc ms := by
      refine ⟨?_, q2, q3, q4, q5, q6⟩
      obtain ⟨t, ht, -⟩ := State.frames_cons hr
      show ({ U with heap := s₂.heap, slotsUsed := s₂.slotsUsed } : State) = { U.setFrames U.frames with heap := s₂.heap, slotsUsed := s₂.slotsUsed }
      rw [State.setFrames_self ht]
    subst hg
    refine Or.inl ⟨v, ⟨(({ U with heap := s₂.heap, slotsUsed := s₂.slotsUsed } : State).setVm s₂.vm), Ls ++ L, c0 + mc, s0 + ms⟩,
      ⟨X.admits, X.cas, X.clock, X.frames, X.room, X.hears, X.method, X.code, (X.here.setHeapUsed s₂.heap s₂.slotsUsed).setVm hW'.alike, X.tail, State.WarmedH.trans X.warmed hW', X.limits, X.bytes, X.same.trans (hsame.setVm s.vm)⟩,
      ⟨g, mk, s₂, L, rfl, rfl, hqc, rfl, hL, rfl, rfl⟩, ?_⟩
    show Steps p.tables e below _ ((({ U with heap := s₂.heap, slotsUsed := s₂.slotsUsed } : State).setVm s₂.vm).setTop { g with pc := g.pc + len₂, stack := v.toList ++ g.stack })
    rw [← hs₂]
    exact hsteps
  · obtain ⟨e2, q2, q3, q4, q5, q6⟩ := id hsm
    have e3 : s₂ = ({ (U.calling g mk a).setFrames s₂.frames with heap := s₂.heap, slotsUsed := s₂.slotsUsed } : State).setVm s₂.vm := by
      have : s₂ = ({ s₂ with vm := (U.calling g mk a).vm } : State).setVm s₂.vm := rfl
      rw [e2] at this
      exact this
    have hf₂ : s₂.frames = .throwing q :: .java g :: U.frames.tail := hend
    have hW' : U.WarmedH s₂.vm := hW₂
    have hs₂ : s₂ = ((({ U with heap := s₂.heap, slotsUsed := s₂.slotsUsed } : State).setVm s₂.vm).setTop g).pushFrame (.throwing q) := by
      refine e3.trans ?_
      rw [hf₂, State.calling_eq h.top, State.setFrames_setFrames, State.pushFrame, State.frames_setTop _ hr', State.setTop_of_frames _ hr', State.setFrames_setFrames, hr]
      rfl
    have hsame : U.sameButNew ({ U with heap := s₂.heap, slotsUsed := s₂.slotsUsed } : State) L mc ms := by
      refine ⟨?_, q2, q3, q4, q5, q6⟩
      obtain ⟨t, ht, -⟩ := State.frames_cons hr
      show ({ U with heap := s₂.heap, slotsUsed := s₂.slotsUsed } : State) = { U.setFrames U.frames with heap := s₂.heap, slotsUsed := s₂.slotsUsed }
      rw [State.setFrames_self ht]
    subst hg
    refine Or.inr ⟨q, ⟨(({ U with heap := s₂.heap, slotsUsed := s₂.slotsUsed } : State).setVm s₂.vm), Ls ++ L, c0 + mc, s0 + ms⟩,
      ⟨X.admits, X.cas, X.clock, X.frames, X.room, X.hears, X.method, X.code, (X.here.setHeapUsed s₂.heap s₂.slotsUsed).setVm hW'.alike, X.tail, State.WarmedH.trans X.warmed hW', X.limits, X.bytes, X.same.trans (hsame.setVm s.vm)⟩,
      ⟨g, mk, s₂, L, E, ce, rfl, rfl, hx, hce, hcv, hcl, rfl, hL, rfl, rfl⟩, ?_⟩
    show Steps p.tables e below _ (((({ U with heap := s₂.heap, slotsUsed := s₂.slotsUsed } : State).setVm s₂.vm).setTop g).pushFrame (.throwing q))
    rw [← hs₂]
    exact hsteps
end
variable {p : Program} {l : Launch} {e : Env} {R : Room} {s : State} {m : MethodId} {args : Array Value} {below : List Frame} {meth : Method} {c : Code} {T : State} {H : Heap} {locs : List Loc} {cells slots : Nat}
theorem vx_callVX (X : Stand p l e R s m args below meth c T locs cells slots) (hexec : p.tables.exec = Jvm.exec) {own C : String} {index : Nat} {y : MethodName} {bytes : ByteArray} {maxL : Nat} {ret : Option FieldType} {hh : List (Nat × Nat × Nat × Nat)}
    (hown : s.vm.findClass own = some m.cls) (hlink : (Cond.methodLink own index y).before args s = true) (hinst : (Cond.instanceMethod y).before args s = true) (hsel : (Cond.selects C y y).before args s = true)
    (hcode : (Cond.codeWith y bytes maxL ret hh).before args s = true) (hy : y.cls ≠ "java/lang/invoke/MethodHandle" ∧ y.cls ≠ "java/lang/invoke/VarHandle")
    {W9 : Nat} {Pre : Pt → Array Value → Prop} {Post : Pt → Array Value → Option Value → Pt → Prop} {PostX : Pt → Array Value → Addr → Pt → Prop} (hK : vx_Back l R p e below s args y 3 W9 Pre Post PostX)
    {b : Addr} {cellB : Cell} (hcell : T.heap[b]? = some cellB) (hobj : cellB.vm.isStatics = false) (hcls : s.vm.findClass C = some cellB.cls)
    {g : JFrame} (hg : g.method = m) (hsize : g.locals.size = c.maxLocals) {argsL rest : List Value} (hlen : ∀ sig, parseMethodDescriptor y.desc = some sig → argsL.length = sig.parameters.length)
    (hstack : g.stack = argsL.reverse ++ .ref b :: rest) (hW : 2 * g.monitorRoom + (rest.map fun v => v.category).sum ≤ W9) (hdg : decode c.code g.pc = .ok (.invokevirtual index, 3))
    (hpre : ∀ vm₁, s.WarmedH vm₁ → Pre ⟨T.setVm vm₁, locs, cells, slots⟩ (Value.ref b :: argsL).toArray) :
    (∃ (v : Option Value) (vm₁ : Vm) (B : Pt), s.WarmedH vm₁ ∧ Stand p l e R s m args below meth c B.U B.locs B.cells B.slots ∧ Post ⟨T.setVm vm₁, locs, cells, slots⟩ (Value.ref b :: argsL).toArray v B ∧
      ∀ target, Steps p.tables e below (B.U.setTop { g with pc := g.pc + 3, stack := v.toList ++ rest }) target → Steps p.tables e below (T.setTop g) target) ∨
    (∃ (q : Addr) (vm₁ : Vm) (B : Pt), s.WarmedH vm₁ ∧ Stand p l e R s m args below meth c B.U B.locs B.cells B.slots ∧ PostX ⟨T.setVm vm₁, locs, cells, slots⟩ (Value.ref b :: argsL).toArray q B ∧
      Steps p.tables e below (T.setTop g) ((B.U.setTop { g with stack := rest }).pushFrame (.throwing q))) := by
  obtain ⟨mk, methM, hnamed, hmethM, hstM, habM⟩ := Cond.instanceMethod_spec hinst
  obtain ⟨m8, methM', cM, hn8, hmethM', -, -, -, -, -, -, hsigM⟩ := Cond.codeWith_spec hcode
  cases Option.some.inj (hn8.symm.trans hnamed)
  cases hmethM.symm.trans hmethM'
  obtain ⟨c2, r2, m2, q1, q2, q3, q4, kP, hkP, hkPi⟩ := Cond.selects_spec hsel
  cases hcls.symm.trans q1
  cases (State.methodFound?_of_named hnamed hy).symm.trans q2
  cases hnamed.symm.trans q3
  have hselP : selectMethod e.platform s.vm cellB.cls mk = .method mk := by rw [Launch.admits_selectMethod X.admits]; exact q4
  obtain ⟨vm₁, X₁, hstep₁⟩ := X.invokevirtual hexec hown hlink hnamed hmethM hstM hkP hkPi hy (a := b) (cell := cellB) hcell
    (fun z h => by rw [h] at hobj; cases hobj) hselP hmethM habM hkP hkPi (g := g) hg (argsL := argsL) (rest := rest) (hlen _ hsigM) hstack hdg
  rcases hK m meth c ⟨T.setVm vm₁, locs, cells, slots⟩ { g with stack := rest } (.invokevirtual index) mk (Value.ref b :: argsL).toArray X₁ hg hsize hdg hW (X₁.named hnamed) (hpre vm₁ X₁.warmed) with ⟨v, B, X', hpost, hsteps⟩ | ⟨q, B, X', hpost, hsteps⟩
  · exact Or.inl ⟨v, vm₁, B, X₁.warmed, X', hpost, fun target h => hstep₁ _ fun acts => by rw [doInvoke_state]; exact hsteps.trans h⟩
  · exact Or.inr ⟨q, vm₁, B, X₁.warmed, X', hpost, hstep₁ _ fun acts => by rw [doInvoke_state]; exact hsteps⟩
theorem vx_callSX (X : Stand p l e R s m args below meth c T locs cells slots) (hexec : p.tables.exec = Jvm.exec) {own : String} {index : Nat} {y : MethodName} {bytes : ByteArray} {maxL : Nat} {ret : Option FieldType} {hh : List (Nat × Nat × Nat × Nat)}
    (hown : s.vm.findClass own = some m.cls) (hlink : (Cond.methodLink own index y).before args s = true) (hstat : (Cond.static y).before args s = true) (hinit : (Cond.initialized y.cls).before args s = true)
    (hcode : (Cond.codeWith y bytes maxL ret hh).before args s = true) (hy : y.cls ≠ "java/lang/invoke/MethodHandle" ∧ y.cls ≠ "java/lang/invoke/VarHandle")
    {W9 : Nat} {Pre : Pt → Array Value → Prop} {Post : Pt → Array Value → Option Value → Pt → Prop} {PostX : Pt → Array Value → Addr → Pt → Prop} (hK : vx_Back l R p e below s args y 3 W9 Pre Post PostX)
    {g : JFrame} (hg : g.method = m) (hsize : g.locals.size = c.maxLocals) {argsL rest : List Value} (hlen : ∀ sig, parseMethodDescriptor y.desc = some sig → argsL.length = sig.parameters.length)
    (hstack : g.stack = argsL.reverse ++ rest) (hW : 2 * g.monitorRoom + (rest.map fun v => v.category).sum ≤ W9) (hdg : decode c.code g.pc = .ok (.invokestatic index, 3))
    (hpre : ∀ vm₁, s.WarmedH vm₁ → Pre ⟨T.setVm vm₁, locs, cells, slots⟩ argsL.toArray) :
    (∃ (v : Option Value) (vm₁ : Vm) (B : Pt), s.WarmedH vm₁ ∧ Stand p l e R s m args below meth c B.U B.locs B.cells B.slots ∧ Post ⟨T.setVm vm₁, locs, cells, slots⟩ argsL.toArray v B ∧
      ∀ target, Steps p.tables e below (B.U.setTop { g with pc := g.pc + 3, stack := v.toList ++ rest }) target → Steps p.tables e below (T.setTop g) target) ∨
    (∃ (q : Addr) (vm₁ : Vm) (B : Pt), s.WarmedH vm₁ ∧ Stand p l e R s m args below meth c B.U B.locs B.cells B.slots ∧ PostX ⟨T.setVm vm₁, locs, cells, slots⟩ argsL.toArray q B ∧
      Steps p.tables e below (T.setTop g) ((B.U.setTop { g with stack := rest }).pushFrame (.throwing q))) := by
  obtain ⟨mk, methM, cM, hnamed, hmethM, -, -, -, -, -, -, hsigM⟩ := Cond.codeWith_spec hcode
  have hstatic : methM.isStatic = true := Cond.static_spec hnamed hmethM hstat
  obtain ⟨kP, hkP, -⟩ := className_of_methodNamed hnamed
  have hinitP : kP.init = .initialized := Cond.initialized_spec (findClass_of_methodNamed hnamed) hkP hinit
  obtain ⟨vm₁, X₁, hstep₁⟩ := X.invokestatic hexec hown hlink hnamed hmethM hstatic hkP hinitP hy (g := g) hg (argsL := argsL) (rest := rest) (hlen _ hsigM) hstack hdg
  rcases hK m meth c ⟨T.setVm vm₁, locs, cells, slots⟩ { g with stack := rest } (.invokestatic index) mk argsL.toArray X₁ hg hsize hdg hW (X₁.named hnamed) (hpre vm₁ X₁.warmed) with ⟨v, B, X', hpost, hsteps⟩ | ⟨q, B, X', hpost, hsteps⟩
  · exact Or.inl ⟨v, vm₁, B, X₁.warmed, X', hpost, fun target h => hstep₁ _ fun acts => by rw [doInvoke_state]; exact hsteps.trans h⟩
  · exact Or.inr ⟨q, vm₁, B, X₁.warmed, X', hpost, hstep₁ _ fun acts => by rw [doInvoke_state]; exact hsteps⟩
theorem vx_callVW (X : Stand p l e R s m args below meth c T locs cells slots) (hexec : p.tables.exec = Jvm.exec) {own C : String} {index : Nat} {y : MethodName} {bytes : ByteArray} {maxL : Nat} {ret : Option FieldType} {hh : List (Nat × Nat × Nat × Nat)}
    (hown : s.vm.findClass own = some m.cls) (hlink : (Cond.methodLink own index y).before args s = true) (hinst : (Cond.instanceMethod y).before args s = true) (hsel : (Cond.selects C y y).before args s = true)
    (hcode : (Cond.codeWith y bytes maxL ret hh).before args s = true) (hy : y.cls ≠ "java/lang/invoke/MethodHandle" ∧ y.cls ≠ "java/lang/invoke/VarHandle")
    {W9 : Nat} {Pre : Pt → Array Value → Prop} {Post : Pt → Array Value → Option Value → Pt → Prop} (hK : Back l R p e below s args y 3 W9 Pre Post)
    {b : Addr} {cellB : Cell} (hcell : T.heap[b]? = some cellB) (hobj : cellB.vm.isStatics = false) (hcls : s.vm.findClass C = some cellB.cls)
    {g : JFrame} (hg : g.method = m) (hsize : g.locals.size = c.maxLocals) {argsL rest : List Value} (hlen : ∀ sig, parseMethodDescriptor y.desc = some sig → argsL.length = sig.parameters.length)
    (hstack : g.stack = argsL.reverse ++ .ref b :: rest) (hW : 2 * g.monitorRoom + (rest.map fun v => v.category).sum ≤ W9) (hdg : decode c.code g.pc = .ok (.invokevirtual index, 3))
    (hpre : ∀ vm₁, s.WarmedH vm₁ → Pre ⟨T.setVm vm₁, locs, cells, slots⟩ (Value.ref b :: argsL).toArray) :
    ∃ (v : Option Value) (vm₁ : Vm) (B : Pt), s.WarmedH vm₁ ∧ Stand p l e R s m args below meth c B.U B.locs B.cells B.slots ∧ Post ⟨T.setVm vm₁, locs, cells, slots⟩ (Value.ref b :: argsL).toArray v B ∧
      ∀ target, Steps p.tables e below (B.U.setTop { g with pc := g.pc + 3, stack := v.toList ++ rest }) target → Steps p.tables e below (T.setTop g) target := by
  obtain ⟨mk, methM, hnamed, hmethM, hstM, habM⟩ := Cond.instanceMethod_spec hinst
  obtain ⟨m8, methM', cM, hn8, hmethM', -, -, -, -, -, -, hsigM⟩ := Cond.codeWith_spec hcode
  cases Option.some.inj (hn8.symm.trans hnamed)
  cases hmethM.symm.trans hmethM'
  obtain ⟨c2, r2, m2, q1, q2, q3, q4, kP, hkP, hkPi⟩ := Cond.selects_spec hsel
  cases hcls.symm.trans q1
  cases (State.methodFound?_of_named hnamed hy).symm.trans q2
  cases hnamed.symm.trans q3
  have hselP : selectMethod e.platform s.vm cellB.cls mk = .method mk := by rw [Launch.admits_selectMethod X.admits]; exact q4
  obtain ⟨vm₁, X₁, hstep₁⟩ := X.invokevirtual hexec hown hlink hnamed hmethM hstM hkP hkPi hy (a := b) (cell := cellB) hcell
    (fun z h => by rw [h] at hobj; cases hobj) hselP hmethM habM hkP hkPi (g := g) hg (argsL := argsL) (rest := rest) (hlen _ hsigM) hstack hdg
  obtain ⟨v, B, X', hpost, hsteps⟩ := hK m meth c ⟨T.setVm vm₁, locs, cells, slots⟩ { g with stack := rest } (.invokevirtual index) mk (Value.ref b :: argsL).toArray X₁ hg hsize hdg hW (X₁.named hnamed) (hpre vm₁ X₁.warmed)
  exact ⟨v, vm₁, B, X₁.warmed, X', hpost, fun target h => hstep₁ _ fun acts => by rw [doInvoke_state]; exact hsteps.trans h⟩
abbrev vx_CVW (R : Room) (s : State) (args : Array Value) (own C : String) (index : Nat) (y : MethodName) (bytes : ByteArray) (maxL : Nat) (ret : Option FieldType) (hh : List (Nat × Nat × Nat × Nat)) (ws : List Cond) (rm : Room) (mc ms n : Nat) : Prop :=
  (rm.cells = mc ∧ rm.slots = ms ∧ rm.frames + 1 ≤ R.frames ∧ 8 + (maxL + 11) + rm.locals ≤ R.locals ∧ (∀ w ∈ ws, ∀ (a' : Array Value) (U : State), s.WarmedH U.vm → w.before a' U = true) ∧ Cond.codeWith y bytes maxL ret hh ∈ ws) ∧
  (Cond.codeWith y bytes maxL ret hh).before args s = true ∧ (Cond.initialized y.cls).before args s = true ∧ (y.cls ≠ "java/lang/invoke/MethodHandle" ∧ y.cls ≠ "java/lang/invoke/VarHandle") ∧
  (∀ sig, parseMethodDescriptor y.desc = some sig → n = sig.parameters.length) ∧ (Cond.methodLink own index y).before args s = true ∧ (Cond.instanceMethod y).before args s = true ∧ (Cond.selects C y y).before args s = true
theorem vx_cwVW {own C : String} {index maxL mc ms : Nat} {y : MethodName} {bytes : ByteArray} {ret : Option FieldType} {hh : List (Nat × Nat × Nat × Nat)} {Ts ws ws' : List Cond} {rm : Room} (n : Nat) (ht : ∀ w ∈ Ts, w.before args s = true) (hT : GoodIn Ts (wsV own index C y ws)) (hw : ws = Cond.codeWith y bytes maxL ret hh :: ws') (hrc : rm.cells = mc) (hrs : rm.slots = ms)
    (hd : y.cls = C ∧ y.cls ≠ "java/lang/invoke/MethodHandle" ∧ y.cls ≠ "java/lang/invoke/VarHandle" ∧ (parseMethodDescriptor y.desc).map (fun d => d.parameters.length) = some n) (hR : rm.frames + 1 ≤ R.frames ∧ 8 + (maxL + 11) + rm.locals ≤ R.locals) :
    vx_CVW R s args own C index y bytes maxL ret hh ws rm mc ms n := by
  obtain ⟨hC, hd⟩ := hd
  subst hC
  have ok : ∀ w ∈ wsV own index y.cls y ws, w.before args s = true := fun w h => ht w (hT w h).1
  have hG : GoodIn Ts ws := fun w h => hT w (by unfold wsV; exact List.mem_append_right _ h)
  have hc : Cond.codeWith y bytes maxL ret hh ∈ ws := by rw [hw]; exact List.mem_cons_self
  refine ⟨⟨hrc, hrs, hR.1, hR.2, pay_in ht hG, hc⟩, ht _ (hG _ hc).1, ok _ (by simp [wsV]), ⟨hd.1, hd.2.1⟩, fun sig h => ?_, ok _ (by simp [wsV]), ok _ (by simp [wsV]), ok _ (by simp [wsV])⟩
  have h2 := hd.2.2
  rw [h] at h2
  exact (Option.some.inj h2).symm
theorem vx_runVW {y : MethodName} {bytes cc : ByteArray} {maxL nL mc ms n index : Nat} {ret : Option FieldType} {hh : List (Nat × Nat × Nat × Nat)} {ws : List Cond} {rm : Room} {Pc : Array Value → State → Prop} {Qc : Array Value → State → Outcome → State → Prop} {free : Addr → Prop} {Ts : List Cond} {own C : String} {b : Addr} {As rest : List Value} {g : JFrame}
    (S : CallFix p m c cc nL s args Ts own) (hM : Met l y ws rm Pc Qc mc ms free) (cw : vx_CVW R s args own C index y bytes maxL ret hh ws rm mc ms n) (hp : PreV s H C b Pc As)
    (hg : g.method = m) (hn : As.length = n) (hsize : g.locals.size = nL) (hstack : g.stack = As.reverse ++ .ref b :: rest) (hW : 2 * g.monitorRoom + (rest.map fun v => v.category).sum ≤ 8) (hdg : decode cc g.pc = .ok (.invokevirtual index, 3)) (hf : cells + mc ≤ R.cells ∧ slots + ms ≤ R.slots) :
    va_Run p l e R s m args below meth c H locs cells slots mc ms g rest (Qc (Value.ref b :: As).toArray) free := by
  obtain ⟨⟨hrc, hrs, hfr, hlo, hws, hcw⟩, hcode, hini, hy, hlen, hl, hin, hse⟩ := cw
  have hK : Back l R p e below s args y 3 8 (PreOf R mc ms Pc) (PostOf Qc mc ms free) := va_backW (hh := hh) (bytes := bytes) (maxL := maxL) (ret := ret) hM hp.1 hrc hrs hfr hlo hws hcw (fun a' U hW => word_at hW (Or.inl (by first | rfl | simp [Cond.onTables, Cond.keeps, Cond.steady])) hini)
  obtain ⟨hx, hb, hml, ho, -⟩ := S
  obtain ⟨-, ⟨cellB, hcB, hoB, hclB⟩, hPc⟩ := hp
  intro T hT X
  obtain ⟨v, vm₁, ⟨U', l2, c2, s2⟩, hW₁, X', ⟨g', mk, t, L, e1, e2, hq, h1, hL, h2, h3⟩, st⟩ := vx_callVW X hx (C := C) (hh := hh) (bytes := bytes) (maxL := maxL) (ret := ret) ho hl hin hse hcode hy hK (by rw [hT]; exact hcB) hoB hclB hg (hsize.trans hml.symm) (argsL := As) (rest := rest) (fun sig h => hn.trans (hlen sig h)) hstack hW (by rw [hb]; exact hdg)
    (fun vm₁ hW₁ => ⟨hf.1, hf.2, hPc (T.setVm vm₁) hT hW₁⟩)
  dsimp only [Pt.U, Pt.locs, Pt.cells, Pt.slots] at X' e1 e2 h1 h2 h3 st
  subst h1; subst h2; subst h3
  exact ⟨v, (T.setVm vm₁).calling g' mk (Value.ref b :: As).toArray, t, U', L, hT, X', hL, e1, e2, hq, st⟩
section
variable {y : MethodName} {bytes cc : ByteArray} {maxL nL mc ms n index : Nat} {ret : Option FieldType} {ws : List Cond} {rm : Room} {Pc : Array Value → State → Prop} {Qc : Array Value → State → Outcome → State → Prop} {XC : String → State → State → Prop} {free : Addr → Prop} {Ts : List Cond} {own C : String} {b : Addr} {As rest : List Value} {g : JFrame}
theorem vx_runVX {hh : List (Nat × Nat × Nat × Nat)} (S : CallFix p m c cc nL s args Ts own) (hM : vx_Met l y ws rm Pc Qc XC mc ms free) (cw : vx_CVW R s args own C index y bytes maxL ret hh ws rm mc ms n) (hp : PreV s H C b Pc As)
    (hg : g.method = m) (hn : As.length = n) (hsize : g.locals.size = nL) (hstack : g.stack = As.reverse ++ .ref b :: rest) (hW : 2 * g.monitorRoom + (rest.map fun v => v.category).sum ≤ 8) (hdg : decode cc g.pc = .ok (.invokevirtual index, 3)) (hf : cells + mc ≤ R.cells ∧ slots + ms ≤ R.slots) :
    vx_Run p l e R s m args below meth c H locs cells slots mc ms g rest (Qc (Value.ref b :: As).toArray) XC free := by
  obtain ⟨⟨hrc, hrs, hfr, hlo, hws, hcw⟩, hcode, hini, hy, hlen, hl, hin, hse⟩ := cw
  have hK : vx_Back l R p e below s args y 3 8 (PreOf R mc ms Pc) (PostOf Qc mc ms free) (vx_Post XC mc ms free) := vx_backW (hh := hh) (bytes := bytes) (maxL := maxL) (ret := ret) hM hp.1 hrc hrs hfr hlo hws hcw (fun a' U hW => word_at hW (Or.inl (by first | rfl | simp [Cond.onTables, Cond.keeps, Cond.steady])) hini)
  obtain ⟨hx, hb, hml, ho, -⟩ := S
  obtain ⟨-, ⟨cellB, hcB, hoB, hclB⟩, hPc⟩ := hp
  intro T hT X
  rcases vx_callVX X hx (C := C) (hh := hh) (bytes := bytes) (maxL := maxL) (ret := ret) ho hl hin hse hcode hy hK (by rw [hT]; exact hcB) hoB hclB hg (hsize.trans hml.symm) (argsL := As) (rest := rest) (fun sig h => hn.trans (hlen sig h)) hstack hW (by rw [hb]; exact hdg)
    (fun vm₁ hW₁ => ⟨hf.1, hf.2, hPc (T.setVm vm₁) hT hW₁⟩) with ⟨v, vm₁, ⟨U', l2, c2, s2⟩, hW₁, X', ⟨g', mk, t, L, e1, e2, hq, h1, hL, h2, h3⟩, st⟩ | ⟨q, vm₁, ⟨U', l2, c2, s2⟩, hW₁, X', ⟨g', mk, t, L, E, ce, e1, e2, hq, hce, hcv, hcl, h1, hL, h2, h3⟩, st⟩
  · dsimp only [Pt.U, Pt.locs, Pt.cells, Pt.slots] at X' e1 e2 h1 h2 h3 st
    subst h1; subst h2; subst h3
    exact Or.inl ⟨v, (T.setVm vm₁).calling g' mk (Value.ref b :: As).toArray, t, U', L, hT, X', hL, e1, e2, hq, st⟩
  · dsimp only [Pt.U, Pt.locs, Pt.cells, Pt.slots] at X' e1 e2 h1 h2 h3 st hcl
    subst h1; subst h2; subst h3
    exact Or.inr ⟨q, (T.setVm vm₁).calling g' mk (Value.ref b :: As).toArray, t, U', L, E, ce, hT, X', hL, e1, e2, hq, hce, hcv, vx_cls hW₁ hcl, st⟩
theorem vx_runSX {hh : List (Nat × Nat × Nat × Nat)} (S : CallFix p m c cc nL s args Ts own) (hM : vx_Met l y ws rm Pc Qc XC mc ms free) (cw : vx_CSW R s args own index y bytes maxL ret hh ws rm mc ms n) (hp : PreS s H Pc As)
    (hg : g.method = m) (hn : As.length = n) (hsize : g.locals.size = nL) (hstack : g.stack = As.reverse ++ rest) (hW : 2 * g.monitorRoom + (rest.map fun v => v.category).sum ≤ 8) (hdg : decode cc g.pc = .ok (.invokestatic index, 3)) (hf : cells + mc ≤ R.cells ∧ slots + ms ≤ R.slots) :
    vx_Run p l e R s m args below meth c H locs cells slots mc ms g rest (Qc As.toArray) XC free := by
  obtain ⟨⟨hrc, hrs, hfr, hlo, hws, hcw⟩, hcode, hini, hy, hlen, hl, hstt⟩ := cw
  have hK : vx_Back l R p e below s args y 3 8 (PreOf R mc ms Pc) (PostOf Qc mc ms free) (vx_Post XC mc ms free) := vx_backW (hh := hh) (bytes := bytes) (maxL := maxL) (ret := ret) hM hp.1 hrc hrs hfr hlo hws hcw (fun a' U hW => word_at hW (Or.inl (by first | rfl | simp [Cond.onTables, Cond.keeps, Cond.steady])) hini)
  obtain ⟨hx, hb, hml, ho, -⟩ := S
  intro T hT X
  rcases vx_callSX X hx (hh := hh) (bytes := bytes) (maxL := maxL) (ret := ret) ho hl hstt hini hcode hy hK hg (hsize.trans hml.symm) (argsL := As) (rest := rest) (fun sig h => hn.trans (hlen sig h)) hstack hW (by rw [hb]; exact hdg)
    (fun vm₁ hW₁ => ⟨hf.1, hf.2, hp.2 (T.setVm vm₁) hT hW₁⟩) with ⟨v, vm₁, ⟨U', l2, c2, s2⟩, hW₁, X', ⟨g', mk, t, L, e1, e2, hq, h1, hL, h2, h3⟩, st⟩ | ⟨q, vm₁, ⟨U', l2, c2, s2⟩, hW₁, X', ⟨g', mk, t, L, E, ce, e1, e2, hq, hce, hcv, hcl, h1, hL, h2, h3⟩, st⟩
  · dsimp only [Pt.U, Pt.locs, Pt.cells, Pt.slots] at X' e1 e2 h1 h2 h3 st
    subst h1; subst h2; subst h3
    exact Or.inl ⟨v, (T.setVm vm₁).calling g' mk As.toArray, t, U', L, hT, X', hL, e1, e2, hq, st⟩
  · dsimp only [Pt.U, Pt.locs, Pt.cells, Pt.slots] at X' e1 e2 h1 h2 h3 st hcl
    subst h1; subst h2; subst h3
    exact Or.inr ⟨q, (T.setVm vm₁).calling g' mk As.toArray, t, U', L, E, ce, hT, X', hL, e1, e2, hq, hce, hcv, vx_cls hW₁ hcl, st⟩
end
end VXH
theorem vx_ofWH {l : Launch} {y : MethodName} {ws ws' : List Cond} {rm : Room} {Pc : Array Value → State → Prop} {Qc : Array Value → State → Outcome → State → Prop} {XC : String → State → State → Prop} {mc ms : Nat} {free : Addr → Prop} {cc : ByteArray} {maxL : Nat} {ret : Option FieldType} {hh : List (Nat × Nat × Nat × Nat)}
    (hy : plainName y.cls = true) (hw : ws = Cond.codeWith y cc maxL ret hh :: ws')
    (body : ∀ p e s m args below meth c s₁, BodyLoose p l y (headSpec ws rm) cc maxL ret e s m args below meth c s₁ → c.maxLocals = maxL → Pc args s →
      W p l e (headSpec ws rm).room s m args below meth c s.heap [] 0 0 (vx_MQ below Qc XC args s mc ms free) (entryFrame m args maxL)) : vx_Met l y ws rm Pc Qc XC mc ms free := by
  refine MetFree.of_bodyS (code := cc) (maxLocals := maxL) (ret := ret) hy ?_ ?_
  · intro args s m h hn
    obtain ⟨m9, meth, c, hn9, h1, h2, h3, h4, -, h5, h6, -⟩ := Cond.codeWith_spec (atoms_spec (ws := ws) h _ (by rw [hw]; exact List.mem_cons_self))
    cases hn.symm.trans hn9
    exact ⟨meth, c, h1, h2, h3, h4, h5, h6⟩
  · intro p e s m args below meth c s₁ B hml hP _
    have hh0 : s₁.heap = s.heap := by rw [B.state]; rfl
    obtain ⟨t, a1, o, b1, b2, b3⟩ := body p e s m args below meth c s₁ B hml hP s₁ hh0 (Stand.of_body B)
    exact ⟨t, o, a1, b1, b2, b3⟩
/-! ===== END ===== -/

def RX0 : String := "HeadwayDeep$Beacon"
def TX0 : u_T := fun k => match k with
  | 0 => ("HeadwayDeep$Beacon", "metre", "I", true)
  | _ => ("HeadwayDeep$Beacon", "isWorking", "Z", false)
def tyX0 : Nat → FieldType := fun k => match k with
  | 0 => .int
  | _ => .boolean
abbrev wsX00 : List Cond := u_ws RX0 TX0 2
theorem nmX0 : ∀ a, a < 2 → ∀ b, b < 2 → a ≠ b → (TX0 a).2.1 ≠ (TX0 b).2.1 := by decide +kernel
theorem tyX0_ok : ∀ k, k < 2 → parseFieldDescriptor (TX0 k).2.2.1 = some (tyX0 k) := by decide +kernel
abbrev cX0_init : ByteArray := prog_2_method_1_code
def yX0_init : MethodName := ⟨RX0, "<init>", "(I)V"⟩
def RX1 : String := "HeadwayDeep$Platform"
def TX1 : u_T := fun k => match k with
  | 0 => ("HeadwayDeep$Platform", "number", "I", true)
  | 1 => ("HeadwayDeep$Platform", "mark", "I", true)
  | 2 => ("HeadwayDeep$Platform", "barred", "I", false)
  | 3 => ("HeadwayDeep$Platform", "rate", "I", false)
  | 4 => ("HeadwayDeep$Platform", "waiting", "I", false)
  | 5 => ("HeadwayDeep$Platform", "departures", "I", false)
  | 6 => ("HeadwayDeep$Platform", "latestDeparture", "I", false)
  | _ => ("HeadwayDeep$Platform", "gap", "I", false)
def tyX1 : Nat → FieldType := fun k => match k with
  | 0 => .int
  | 1 => .int
  | 2 => .int
  | 3 => .int
  | 4 => .int
  | 5 => .int
  | 6 => .int
  | _ => .int
abbrev wsX10 : List Cond := u_ws RX1 TX1 8
theorem nmX1 : ∀ a, a < 8 → ∀ b, b < 8 → a ≠ b → (TX1 a).2.1 ≠ (TX1 b).2.1 := by decide +kernel
theorem tyX1_ok : ∀ k, k < 8 → parseFieldDescriptor (TX1 k).2.2.1 = some (tyX1 k) := by decide +kernel
abbrev cX1_init : ByteArray := prog_3_method_1_code
def yX1_init : MethodName := ⟨RX1, "<init>", "(II)V"⟩
abbrev cX1_tell : ByteArray := prog_3_method_2_code
def yX1_tell : MethodName := ⟨RX1, "tell", "(I)I"⟩
abbrev cX1_countDeparture : ByteArray := prog_3_method_3_code
def yX1_countDeparture : MethodName := ⟨RX1, "countDeparture", "(I)V"⟩
def RX2 : String := "HeadwayDeep$Train"
def TX2 : u_T := fun k => match k with
  | 0 => ("HeadwayDeep$Train", "firstPlace", "I", true)
  | 1 => ("HeadwayDeep$Train", "firstTick", "I", true)
  | 2 => ("HeadwayDeep$Train", "speeds", "[B", true)
  | 3 => ("HeadwayDeep$Train", "steps", "[B", true)
  | 4 => ("HeadwayDeep$Train", "place", "I", false)
  | 5 => ("HeadwayDeep$Train", "low", "I", false)
  | 6 => ("HeadwayDeep$Train", "high", "I", false)
  | 7 => ("HeadwayDeep$Train", "report", "I", false)
  | 8 => ("HeadwayDeep$Train", "limit", "I", false)
  | 9 => ("HeadwayDeep$Train", "speed", "I", false)
  | 10 => ("HeadwayDeep$Train", "slip", "I", false)
  | 11 => ("HeadwayDeep$Train", "isSilent", "Z", false)
  | 12 => ("HeadwayDeep$Train", "isInEmergency", "Z", false)
  | 13 => ("HeadwayDeep$Train", "stop", "LHeadwayDeep$Platform;", false)
  | 14 => ("HeadwayDeep$Train", "barred", "I", false)
  | 15 => ("HeadwayDeep$Train", "doors", "I", false)
  | 16 => ("HeadwayDeep$Train", "people", "I", false)
  | _ => ("HeadwayDeep$Train", "held", "I", false)
def tyX2 : Nat → FieldType := fun k => match k with
  | 0 => .int
  | 1 => .int
  | 2 => .array .byte
  | 3 => .array .byte
  | 4 => .int
  | 5 => .int
  | 6 => .int
  | 7 => .int
  | 8 => .int
  | 9 => .int
  | 10 => .int
  | 11 => .boolean
  | 12 => .boolean
  | 13 => .object "HeadwayDeep$Platform"
  | 14 => .int
  | 15 => .int
  | 16 => .int
  | _ => .int
abbrev wsX20 : List Cond := u_ws RX2 TX2 18
theorem nmX2 : ∀ a, a < 18 → ∀ b, b < 18 → a ≠ b → (TX2 a).2.1 ≠ (TX2 b).2.1 := by decide +kernel
theorem tyX2_ok : ∀ k, k < 18 → parseFieldDescriptor (TX2 k).2.2.1 = some (tyX2 k) := by decide +kernel
abbrev cX2_init : ByteArray := prog_4_method_1_code
def yX2_init : MethodName := ⟨RX2, "<init>", "(II)V"⟩
abbrev cX2_tell : ByteArray := prog_4_method_2_code
def yX2_tell : MethodName := ⟨RX2, "tell", "(I)I"⟩
abbrev cX2_wayToStop : ByteArray := prog_4_method_3_code
def yX2_wayToStop : MethodName := ⟨RX2, "wayToStop", "(I)I"⟩
abbrev cX2_keeps : ByteArray := prog_4_method_4_code
def yX2_keeps : MethodName := ⟨RX2, "keeps", "(I)Z"⟩
abbrev cX2_mayCover : ByteArray := prog_4_method_5_code
def yX2_mayCover : MethodName := ⟨RX2, "mayCover", "(II)Z"⟩
abbrev cX2_isInItsBounds : ByteArray := prog_4_method_6_code
def yX2_isInItsBounds : MethodName := ⟨RX2, "isInItsBounds", "()Z"⟩
abbrev cX2_hasOpenDoors : ByteArray := prog_4_method_7_code
def yX2_hasOpenDoors : MethodName := ⟨RX2, "hasOpenDoors", "()Z"⟩
abbrev cX2_isAtStop : ByteArray := prog_4_method_8_code
def yX2_isAtStop : MethodName := ⟨RX2, "isAtStop", "()Z"⟩
abbrev cX2_canDepart : ByteArray := prog_4_method_9_code
def yX2_canDepart : MethodName := ⟨RX2, "canDepart", "()Z"⟩
abbrev cX2_findSpeed : ByteArray := prog_4_method_10_code
def yX2_findSpeed : MethodName := ⟨RX2, "findSpeed", "(I)V"⟩
abbrev cX2_greatestSpeed : ByteArray := prog_4_method_11_code
def yX2_greatestSpeed : MethodName := ⟨RX2, "greatestSpeed", "(I)I"⟩
abbrev cX2_go : ByteArray := prog_4_method_12_code
def yX2_go : MethodName := ⟨RX2, "go", "(I)V"⟩
abbrev cX2_playAgain : ByteArray := prog_4_method_14_code
def yX2_playAgain : MethodName := ⟨RX2, "playAgain", "(I)I"⟩
abbrev cX2_openDoors : ByteArray := prog_4_method_15_code
def yX2_openDoors : MethodName := ⟨RX2, "openDoors", "(I)V"⟩
abbrev cX2_takePeople : ByteArray := prog_4_method_16_code
def yX2_takePeople : MethodName := ⟨RX2, "takePeople", "()V"⟩
def RX3 : String := "HeadwayDeep$Zone"
def TX3 : u_T := fun k => match k with
  | 0 => ("HeadwayDeep$Zone", "from", "I", true)
  | 1 => ("HeadwayDeep$Zone", "to", "I", true)
  | _ => ("HeadwayDeep$Zone", "isClosed", "Z", false)
def tyX3 : Nat → FieldType := fun k => match k with
  | 0 => .int
  | 1 => .int
  | _ => .boolean
abbrev wsX30 : List Cond := u_ws RX3 TX3 3
theorem nmX3 : ∀ a, a < 3 → ∀ b, b < 3 → a ≠ b → (TX3 a).2.1 ≠ (TX3 b).2.1 := by decide +kernel
theorem tyX3_ok : ∀ k, k < 3 → parseFieldDescriptor (TX3 k).2.2.1 = some (tyX3 k) := by decide +kernel
abbrev cX3_init : ByteArray := prog_5_method_1_code
def yX3_init : MethodName := ⟨RX3, "<init>", "(II)V"⟩
def RX4 : String := "HeadwayDeep"
def TX4 : u_T := fun k => match k with
  | 0 => ("HeadwayDeep", "platforms", "[LHeadwayDeep$Platform;", true)
  | 1 => ("HeadwayDeep", "beacons", "[LHeadwayDeep$Beacon;", true)
  | 2 => ("HeadwayDeep", "zones", "[LHeadwayDeep$Zone;", true)
  | 3 => ("HeadwayDeep", "trains", "[LHeadwayDeep$Train;", true)
  | 4 => ("HeadwayDeep", "platformCount", "I", false)
  | 5 => ("HeadwayDeep", "beaconCount", "I", false)
  | 6 => ("HeadwayDeep", "zoneCount", "I", false)
  | 7 => ("HeadwayDeep", "trainCount", "I", false)
  | 8 => ("HeadwayDeep", "lineSpeed", "I", false)
  | _ => ("HeadwayDeep", "tick", "I", false)
def tyX4 : Nat → FieldType := fun k => match k with
  | 0 => .array (.object "HeadwayDeep$Platform")
  | 1 => .array (.object "HeadwayDeep$Beacon")
  | 2 => .array (.object "HeadwayDeep$Zone")
  | 3 => .array (.object "HeadwayDeep$Train")
  | 4 => .int
  | 5 => .int
  | 6 => .int
  | 7 => .int
  | 8 => .int
  | _ => .int
abbrev wsX40 : List Cond := u_ws RX4 TX4 10
theorem nmX4 : ∀ a, a < 10 → ∀ b, b < 10 → a ≠ b → (TX4 a).2.1 ≠ (TX4 b).2.1 := by decide +kernel
theorem tyX4_ok : ∀ k, k < 10 → parseFieldDescriptor (TX4 k).2.2.1 = some (tyX4 k) := by decide +kernel
abbrev cX4_init : ByteArray := prog_1_method_1_code
def yX4_init : MethodName := ⟨RX4, "<init>", "()V"⟩
abbrev cX4_platform : ByteArray := prog_1_method_2_code
def yX4_platform : MethodName := ⟨RX4, "platform", "(I)I"⟩
abbrev cX4_beacon : ByteArray := prog_1_method_3_code
def yX4_beacon : MethodName := ⟨RX4, "beacon", "(I)I"⟩
abbrev cX4_works : ByteArray := prog_1_method_4_code
def yX4_works : MethodName := ⟨RX4, "works", "(IZ)Z"⟩
abbrev cX4_zone : ByteArray := prog_1_method_5_code
def yX4_zone : MethodName := ⟨RX4, "zone", "(II)I"⟩
abbrev cX4_close : ByteArray := prog_1_method_6_code
def yX4_close : MethodName := ⟨RX4, "close", "(IZ)Z"⟩
abbrev cX4_speed : ByteArray := prog_1_method_7_code
def yX4_speed : MethodName := ⟨RX4, "speed", "(I)I"⟩
abbrev cX4_train : ByteArray := prog_1_method_8_code
def yX4_train : MethodName := ⟨RX4, "train", "(I)I"⟩
abbrev cX4_trainIs : ByteArray := prog_1_method_9_code
def yX4_trainIs : MethodName := ⟨RX4, "trainIs", "(II)I"⟩
abbrev cX4_slip : ByteArray := prog_1_method_10_code
def yX4_slip : MethodName := ⟨RX4, "slip", "(II)I"⟩
abbrev cX4_silent : ByteArray := prog_1_method_11_code
def yX4_silent : MethodName := ⟨RX4, "silent", "(IZ)Z"⟩
abbrev cX4_emergency : ByteArray := prog_1_method_12_code
def yX4_emergency : MethodName := ⟨RX4, "emergency", "(I)Z"⟩
abbrev cX4_pass : ByteArray := prog_1_method_13_code
def yX4_pass : MethodName := ⟨RX4, "pass", "(I)I"⟩
abbrev cX4_stop : ByteArray := prog_1_method_14_code
def yX4_stop : MethodName := ⟨RX4, "stop", "(II)V"⟩
abbrev cX4_open : ByteArray := prog_1_method_16_code
def yX4_open : MethodName := ⟨RX4, "open", "(II)I"⟩
abbrev cX4_shut : ByteArray := prog_1_method_17_code
def yX4_shut : MethodName := ⟨RX4, "shut", "(I)V"⟩
abbrev cX4_hold : ByteArray := prog_1_method_18_code
def yX4_hold : MethodName := ⟨RX4, "hold", "(II)I"⟩
abbrev cX4_depart : ByteArray := prog_1_method_19_code
def yX4_depart : MethodName := ⟨RX4, "depart", "(I)I"⟩
abbrev cX4_rate : ByteArray := prog_1_method_20_code
def yX4_rate : MethodName := ⟨RX4, "rate", "(II)I"⟩
abbrev cX4_platformIs : ByteArray := prog_1_method_21_code
def yX4_platformIs : MethodName := ⟨RX4, "platformIs", "(II)I"⟩
abbrev cX4_placeAnew : ByteArray := prog_1_method_23_code
def yX4_placeAnew : MethodName := ⟨RX4, "placeAnew", "(I)I"⟩
abbrev cX4_isSafe : ByteArray := prog_1_method_24_code
def yX4_isSafe : MethodName := ⟨RX4, "isSafe", "()Z"⟩
abbrev cX4_askNumber : ByteArray := prog_1_method_25_code
def yX4_askNumber : MethodName := ⟨RX4, "askNumber", "(II)V"⟩
abbrev cX4_askRange : ByteArray := prog_1_method_26_code
def yX4_askRange : MethodName := ⟨RX4, "askRange", "(III)V"⟩
abbrev cX4_askThat : ByteArray := prog_1_method_27_code
def yX4_askThat : MethodName := ⟨RX4, "askThat", "(Z)V"⟩
abbrev cX4_canBeClosed : ByteArray := prog_1_method_28_code
def yX4_canBeClosed : MethodName := ⟨RX4, "canBeClosed", "(LHeadwayDeep$Zone;)Z"⟩
abbrev cX4_canBePutIn : ByteArray := prog_1_method_29_code
def yX4_canBePutIn : MethodName := ⟨RX4, "canBePutIn", "(I)Z"⟩
abbrev cX4_dealLimits : ByteArray := prog_1_method_30_code
def yX4_dealLimits : MethodName := ⟨RX4, "dealLimits", "()V"⟩
abbrev cX4_limitFor : ByteArray := prog_1_method_31_code
def yX4_limitFor : MethodName := ⟨RX4, "limitFor", "(LHeadwayDeep$Train;)I"⟩
abbrev cX4_oneAheadOf : ByteArray := prog_1_method_32_code
def yX4_oneAheadOf : MethodName := ⟨RX4, "oneAheadOf", "(LHeadwayDeep$Train;)LHeadwayDeep$Train;"⟩
abbrev cX4_passOne : ByteArray := prog_1_method_33_code
def yX4_passOne : MethodName := ⟨RX4, "passOne", "()V"⟩
abbrev cX4_takeReports : ByteArray := prog_1_method_34_code
def yX4_takeReports : MethodName := ⟨RX4, "takeReports", "()V"⟩
abbrev cX4_move : ByteArray := prog_1_method_35_code
def yX4_move : MethodName := ⟨RX4, "move", "(LHeadwayDeep$Train;)V"⟩
abbrev cX4_meetsBeacon : ByteArray := prog_1_method_36_code
def yX4_meetsBeacon : MethodName := ⟨RX4, "meetsBeacon", "(II)Z"⟩
abbrev cX4_countHolding : ByteArray := prog_1_method_37_code
def yX4_countHolding : MethodName := ⟨RX4, "countHolding", "()V"⟩
abbrev cX4_letPeopleCome : ByteArray := prog_1_method_38_code
def yX4_letPeopleCome : MethodName := ⟨RX4, "letPeopleCome", "()V"⟩
abbrev cX4_letPeopleBoard : ByteArray := prog_1_method_39_code
def yX4_letPeopleBoard : MethodName := ⟨RX4, "letPeopleBoard", "()V"⟩
def RX5 : String := "HeadwayDeepModel"
def TX5 : u_T := fun k => match k with
  | _ => ("", "", "", false)
def tyX5 : Nat → FieldType := fun k => match k with
  | _ => .int
abbrev wsX50 : List Cond := u_ws RX5 TX5 0
theorem nmX5 : ∀ a, a < 0 → ∀ b, b < 0 → a ≠ b → (TX5 a).2.1 ≠ (TX5 b).2.1 := by decide +kernel
theorem tyX5_ok : ∀ k, k < 0 → parseFieldDescriptor (TX5 k).2.2.1 = some (tyX5 k) := by decide +kernel
def RJ6 : String := "java/lang/Integer"
def TJ6 : u_T := fun k => match k with
  | _ => ("", "", "", false)
def tyJ6 : Nat → FieldType := fun k => match k with
  | _ => .int
abbrev wsJ60 : List Cond := u_ws RJ6 TJ6 0
theorem nmJ6 : ∀ a, a < 0 → ∀ b, b < 0 → a ≠ b → (TJ6 a).2.1 ≠ (TJ6 b).2.1 := by decide +kernel
theorem tyJ6_ok : ∀ k, k < 0 → parseFieldDescriptor (TJ6 k).2.2.1 = some (tyJ6 k) := by decide +kernel
abbrev cJ6_bitCount_0f7a4 : ByteArray := prog_12_method_49_code
def yJ6_bitCount_0f7a4 : MethodName := ⟨RJ6, "bitCount", "(I)I"⟩
def RJ9 : String := "java/lang/Math"
def TJ9 : u_T := fun k => match k with
  | _ => ("", "", "", false)
def tyJ9 : Nat → FieldType := fun k => match k with
  | _ => .int
abbrev wsJ90 : List Cond := u_ws RJ9 TJ9 0
theorem nmJ9 : ∀ a, a < 0 → ∀ b, b < 0 → a ≠ b → (TJ9 a).2.1 ≠ (TJ9 b).2.1 := by decide +kernel
theorem tyJ9_ok : ∀ k, k < 0 → parseFieldDescriptor (TJ9 k).2.2.1 = some (tyJ9 k) := by decide +kernel
abbrev cJ9_max_7cf53 : ByteArray := prog_13_method_65_code
def yJ9_max_7cf53 : MethodName := ⟨RJ9, "max", "(II)I"⟩
abbrev cJ9_min_7cf53 : ByteArray := prog_13_method_69_code
def yJ9_min_7cf53 : MethodName := ⟨RJ9, "min", "(II)I"⟩
def RJ0 : String := "java/lang/String"
def TJ0 : u_T := fun k => match k with
  | _ => ("", "", "", false)
def tyJ0 : Nat → FieldType := fun k => match k with
  | _ => .int
abbrev wsJ00 : List Cond := u_ws RJ0 TJ0 0
theorem nmJ0 : ∀ a, a < 0 → ∀ b, b < 0 → a ≠ b → (TJ0 a).2.1 ≠ (TJ0 b).2.1 := by decide +kernel
theorem tyJ0_ok : ∀ k, k < 0 → parseFieldDescriptor (TJ0 k).2.2.1 = some (tyJ0 k) := by decide +kernel
def RL : String := "HeadwayDeepLaw"
abbrev cL_told : ByteArray := method_2_code
def yL_told : MethodName := ⟨RL, "told", "([II)I"⟩
abbrev cL_way : ByteArray := method_3_code
def yL_way : MethodName := ⟨RL, "way", "(I)I"⟩
abbrev cL_isAt : ByteArray := method_4_code
def yL_isAt : MethodName := ⟨RL, "isAt", "(LHeadwayDeep;I)Z"⟩
abbrev cL_mayStop : ByteArray := method_5_code
def yL_mayStop : MethodName := ⟨RL, "mayStop", "(LHeadwayDeep;II)Z"⟩
abbrev cL_mayClose : ByteArray := method_6_code
def yL_mayClose : MethodName := ⟨RL, "mayClose", "(LHeadwayDeep;II)Z"⟩
abbrev cL_isSafe : ByteArray := method_7_code
def yL_isSafe : MethodName := ⟨RL, "isSafe", "(LHeadwayDeep;)Z"⟩
abbrev cL_doors : ByteArray := method_8_code
def yL_doors : MethodName := ⟨RL, "doors", "(LHeadwayDeep;II)V"⟩
abbrev cL_law : ByteArray := code
def yL_law : MethodName := ⟨RL, "law", "([I)Z"⟩
end
section
/-! THE WORLD: cells by kind and number (kinds 0..10: the class's; no reference), what they hold by a table of numbers -/
abbrev vwCl : List vw_C := [(RX0, TX0, 2), (RX1, TX1, 8), (RX2, TX2, 18), (RX3, TX3, 3), (RX4, TX4, 10)]
abbrev TT : Type := Nat → Nat → Int32
abbrev VV : Type := Int32 ⊕ ((Nat × Nat) ⊕ (Nat × Int32))
abbrev Loc9 : Type := List (Nat × VV)
def up2 {α : Type} (f : Nat → Nat → α) (k i : Nat) (v : α) : Nat → Nat → α := fun k' i' => if k' = k ∧ i' = i then v else f k' i'
def toQ (ad : Nat → Nat → Nat) (kp : Nat) (x : Int32) : Value := if x = -1 then .null else .ref (ad kp x.toNatClampNeg)
def toV (ad : Nat → Nat → Nat) : VV → Value
  | .inl x => .int x
  | .inr (.inl r) => .ref (ad r.1 r.2)
  | .inr (.inr r) => toQ ad r.1 r.2
/-- an object's fields in the order of the slots: how it is held, and the number of its row -/
def FL : Nat → List (Nat × Nat)
  | 0 => [(3, 1), (3, 2), (3, 3), (3, 4), (0, 3), (0, 11), (0, 14), (0, 18), (0, 2), (0, 1)]
  | 5 => [(0, 40), (0, 4), (0, 10), (0, 5), (0, 6), (0, 7), (0, 8), (0, 9)]
  | 6 => [(0, 12), (0, 13)]
  | 7 => [(0, 15), (0, 16), (0, 17)]
  | 8 => [(0, 31), (0, 32), (1, 9), (1, 10), (0, 19), (0, 20), (0, 21), (0, 24), (0, 23), (0, 22), (0, 25), (0, 34), (0, 33), (2, 26), (0, 30), (0, 27), (0, 28), (0, 29)]
  | _ => []
def kci : Nat → Nat
  | 0 => 4
  | 5 => 1
  | 6 => 0
  | 7 => 3
  | 8 => 2
  | _ => 6
def fvv (t : TT) (i : Nat) (e : Nat × Nat) : VV := match e.1 with
  | 0 => .inl (t e.2 i)
  | 1 => .inr (.inl (e.2, i))
  | 2 => .inr (.inr (5, t e.2 i))
  | 3 => .inr (.inl (e.2, 0))
  | _ => .inr (.inl (21, e.2))
def refsOf (ad : Nat → Nat → Nat) (M : Nat → Nat → Bool) (kp : Nat) : Nat → Option Nat := fun j => if M kp j = true then some (ad kp j) else none
def cellE (X : Nat → ClassId) (ad : Nat → Nat → Nat) (M : Nat → Nat → Bool) (t : TT) (kp i : Nat) : va_E := match kp with
  | 1 => .inl (X 1, 6, .inr (.inr (.inr (.inr (refsOf ad M 5)))))
  | 2 => .inl (X 2, 12, .inr (.inr (.inr (.inr (refsOf ad M 6)))))
  | 3 => .inl (X 3, 4, .inr (.inr (.inr (.inr (refsOf ad M 7)))))
  | 4 => .inl (X 4, 5, .inr (.inr (.inr (.inr (refsOf ad M 8)))))
  | 9 => .inl (X 9, 1000, .inl (fun j => t 35 (1000 * i + j)))
  | 10 => .inl (X 9, 1000, .inl (fun j => t 36 (1000 * i + j)))
  | kp => .inr (kci kp, (FL kp).map fun e => toV ad (fvv t i e))
def TYX (X : Nat → ClassId) : List (ClassId × FieldType) := [(X 1, .object "HeadwayDeep$Platform"), (X 2, .object "HeadwayDeep$Beacon"), (X 3, .object "HeadwayDeep$Zone"), (X 4, .object "HeadwayDeep$Train"), (X 9, .byte), (X 21, .int)]
def okM (M : Nat → Nat → Bool) : Prop := ∀ kp i, M kp i = true → kp < 11
def SW (D : va_G) (X : Nat → ClassId) (ad : Nat → Nat → Nat) (A : Nat → Prop) (M : Nat → Nat → Bool) (t : TT) (H : Heap) : Prop :=
  (∀ kp i, M kp i = true → va_at D vwCl (ad kp i, cellE X ad M t kp i) H) ∧ (∀ kp i kq j, M kp i = true → M kq j = true → ad kp i = ad kq j → kp = kq ∧ i = j) ∧ (∀ kp i, M kp i = true → A (ad kp i)) ∧ okM M
/-- what a cell reads -/
def rd (kp i id j : Nat) : Prop := match kp with
  | 1 => False
  | 2 => False
  | 3 => False
  | 4 => False
  | 9 => id = 35 ∧ ∃ q, q < 1000 ∧ j = 1000 * i + q
  | 10 => id = 36 ∧ ∃ q, q < 1000 ∧ j = 1000 * i + q
  | kp => j = i ∧ ∃ e ∈ FL kp, (e.1 = 0 ∨ e.1 = 2) ∧ e.2 = id
theorem arrV_congr {cI : ClassId} {n : Nat} {f g : Nat → Value} (h : ∀ j, j < n → f j = g j) : arrV cI n f = arrV cI n g := by
  unfold arrV
  congr 1
  apply Array.ext
  · simp
  · intro i h1 h2
    simp only [Array.size_ofFn] at h1
    simp [h i h1]
theorem fvv_congr {ad : Nat → Nat → Nat} {t t' : TT} {kp i : Nat} (h : ∀ e ∈ FL kp, (e.1 = 0 ∨ e.1 = 2) → t' e.2 i = t e.2 i) : ((FL kp).map fun e => toV ad (fvv t' i e)) = ((FL kp).map fun e => toV ad (fvv t i e)) := by
  apply List.map_congr_left
  intro e he
  have h1 := h e he
  obtain ⟨a, b⟩ := e
  congr 1
  match a with
  | 0 => simp only [fvv]; rw [h1 (Or.inl rfl)]
  | 1 => rfl
  | 2 => simp only [fvv]; rw [h1 (Or.inr rfl)]
  | 3 => rfl
  | a + 4 => rfl
theorem cell_congr {D : va_G} {X : Nat → ClassId} {ad : Nat → Nat → Nat} {M : Nat → Nat → Bool} {t t' : TT} {kp i a : Nat} {H : Heap} (h : ∀ id j, rd kp i id j → t' id j = t id j) (hat : va_at D vwCl (a, cellE X ad M t kp i) H) : va_at D vwCl (a, cellE X ad M t' kp i) H := by
  have key : (∀ e ∈ FL kp, (e.1 = 0 ∨ e.1 = 2) → t' e.2 i = t e.2 i) → cellE X ad M t kp i = .inr (kci kp, (FL kp).map fun e => toV ad (fvv t i e)) → cellE X ad M t' kp i = .inr (kci kp, (FL kp).map fun e => toV ad (fvv t' i e)) → va_at D vwCl (a, cellE X ad M t' kp i) H := by
    intro h1 h2 h3
    rw [h3, fvv_congr h1, ← h2]
    exact hat
  match kp, h, hat, key with
  | 1, _, hat, _ => exact hat
  | 2, _, hat, _ => exact hat
  | 3, _, hat, _ => exact hat
  | 4, _, hat, _ => exact hat
  | 9, h, hat, _ =>
    show H[a]? = some (vp_cell _ _)
    rw [show H[a]? = some (vp_cell _ _) from hat, vp_cell_i, vp_cell_i]
    exact congrArg some (arrV_congr fun j hj => by rw [h 35 (1000 * i + j) ⟨rfl, j, hj, rfl⟩])
  | 10, h, hat, _ =>
    show H[a]? = some (vp_cell _ _)
    rw [show H[a]? = some (vp_cell _ _) from hat, vp_cell_i, vp_cell_i]
    exact congrArg some (arrV_congr fun j hj => by rw [h 36 (1000 * i + j) ⟨rfl, j, hj, rfl⟩])
  | 0, h, _, key => exact key (fun e he h1 => h e.2 i ⟨rfl, e, he, h1, rfl⟩) rfl rfl
  | 5, h, _, key => exact key (fun e he h1 => h e.2 i ⟨rfl, e, he, h1, rfl⟩) rfl rfl
  | 6, h, _, key => exact key (fun e he h1 => h e.2 i ⟨rfl, e, he, h1, rfl⟩) rfl rfl
  | 7, h, _, key => exact key (fun e he h1 => h e.2 i ⟨rfl, e, he, h1, rfl⟩) rfl rfl
  | 8, h, _, key => exact key (fun e he h1 => h e.2 i ⟨rfl, e, he, h1, rfl⟩) rfl rfl
  | 20, h, _, key => exact key (fun e he h1 => h e.2 i ⟨rfl, e, he, h1, rfl⟩) rfl rfl
  | 11, h, _, key => exact key (fun e he h1 => h e.2 i ⟨rfl, e, he, h1, rfl⟩) rfl rfl
  | 12, h, _, key => exact key (fun e he h1 => h e.2 i ⟨rfl, e, he, h1, rfl⟩) rfl rfl
  | 13, h, _, key => exact key (fun e he h1 => h e.2 i ⟨rfl, e, he, h1, rfl⟩) rfl rfl
  | 14, h, _, key => exact key (fun e he h1 => h e.2 i ⟨rfl, e, he, h1, rfl⟩) rfl rfl
  | 15, h, _, key => exact key (fun e he h1 => h e.2 i ⟨rfl, e, he, h1, rfl⟩) rfl rfl
  | 16, h, _, key => exact key (fun e he h1 => h e.2 i ⟨rfl, e, he, h1, rfl⟩) rfl rfl
  | 17, h, _, key => exact key (fun e he h1 => h e.2 i ⟨rfl, e, he, h1, rfl⟩) rfl rfl
  | 18, h, _, key => exact key (fun e he h1 => h e.2 i ⟨rfl, e, he, h1, rfl⟩) rfl rfl
  | 19, h, _, key => exact key (fun e he h1 => h e.2 i ⟨rfl, e, he, h1, rfl⟩) rfl rfl
  | 21, h, _, key => exact key (fun e he h1 => h e.2 i ⟨rfl, e, he, h1, rfl⟩) rfl rfl
  | k + 22, h, _, key => exact key (fun e he h1 => h e.2 i ⟨rfl, e, he, h1, rfl⟩) rfl rfl
/-- each number of the table is read by one cell of a world -/
def ownr (c : Bool) (id j : Nat) : Nat × Nat := if c = true then (if id = 35 then (9, j / 1000) else if id = 36 then (10, j / 1000) else if id = 1 ∨ id = 2 ∨ id = 3 ∨ id = 11 ∨ id = 14 ∨ id = 18 then (0, j) else if id = 12 ∨ id = 13 then (6, j) else if 15 ≤ id ∧ id ≤ 17 then (7, j) else if 19 ≤ id ∧ id ≤ 34 then (8, j) else (5, j)) else (0, 0)
theorem rd_own1 {kp i id j : Nat} (hk : kp < 11) (h : rd kp i id j) : ownr true id j = (kp, i) := by
  match kp, hk, h with
  | 1, _, h => exact h.elim
  | 2, _, h => exact h.elim
  | 3, _, h => exact h.elim
  | 4, _, h => exact h.elim
  | 9, _, ⟨h1, q, h2, h3⟩ => subst h1; subst h3; show (9, (1000 * i + q) / 1000) = (9, i); congr 1; omega
  | 10, _, ⟨h1, q, h2, h3⟩ => subst h1; subst h3; show (10, (1000 * i + q) / 1000) = (10, i); congr 1; omega
  | 0, _, ⟨h1, e, h2, h3, h4⟩ =>
    subst h1; subst h4
    simp only [FL, List.mem_cons, List.not_mem_nil, or_false] at h2
    rcases h2 with rfl | rfl | rfl | rfl | rfl | rfl | rfl | rfl | rfl | rfl <;> first | rfl | (simp at h3)
  | 5, _, ⟨h1, e, h2, h3, h4⟩ =>
    subst h1; subst h4
    simp only [FL, List.mem_cons, List.not_mem_nil, or_false] at h2
    rcases h2 with rfl | rfl | rfl | rfl | rfl | rfl | rfl | rfl <;> first | rfl | (simp at h3)
  | 6, _, ⟨h1, e, h2, h3, h4⟩ =>
    subst h1; subst h4
    simp only [FL, List.mem_cons, List.not_mem_nil, or_false] at h2
    rcases h2 with rfl | rfl <;> rfl
  | 7, _, ⟨h1, e, h2, h3, h4⟩ =>
    subst h1; subst h4
    simp only [FL, List.mem_cons, List.not_mem_nil, or_false] at h2
    rcases h2 with rfl | rfl | rfl <;> rfl
  | 8, _, ⟨h1, e, h2, h3, h4⟩ =>
    subst h1; subst h4
    simp only [FL, List.mem_cons, List.not_mem_nil, or_false] at h2
    rcases h2 with rfl | rfl | rfl | rfl | rfl | rfl | rfl | rfl | rfl | rfl | rfl | rfl | rfl | rfl | rfl | rfl | rfl | rfl <;> first | rfl | (simp at h3)
theorem rd_one {M : Nat → Nat → Bool} (hM : okM M) {kp i kq j id k : Nat} (h1 : M kp i = true) (h2 : M kq j = true) (r1 : rd kp i id k) (r2 : rd kq j id k) : kp = kq ∧ i = j := by
  have e1 := rd_own1 (hM _ _ h1) r1
  have e2 := rd_own1 (hM _ _ h2) r2
  rw [e1] at e2
  exact ⟨congrArg Prod.fst e2, congrArg Prod.snd e2⟩
theorem up2_same {α : Type} (f : Nat → Nat → α) (k i : Nat) (v : α) : up2 f k i v k i = v := if_pos ⟨rfl, rfl⟩
theorem up2_ne {α : Type} {f : Nat → Nat → α} {k i k' i' : Nat} {v : α} (h : ¬ (k' = k ∧ i' = i)) : up2 f k i v k' i' = f k' i' := if_neg h
/-- a number of one cell is changed, and the heap at that cell's place alone -/
theorem SW.up {D : va_G} {X : Nat → ClassId} {ad : Nat → Nat → Nat} {A : Nat → Prop} {M : Nat → Nat → Bool} {t : TT} {H H1 : Heap} (h : SW D X ad A M t H) {kp i id j : Nat} {v : Int32} (hi : M kp i = true) (hr : rd kp i id j) (he : va_at D vwCl (ad kp i, cellE X ad M (up2 t id j v) kp i) H1) (oq : ∀ q, q ≠ ad kp i → H1[q]? = H[q]?) : SW D X ad A M (up2 t id j v) H1 := by
  obtain ⟨h1, h2, h3, h4⟩ := h
  refine ⟨fun kq k hk => ?_, h2, h3, h4⟩
  by_cases e : kq = kp ∧ k = i
  · obtain ⟨rfl, rfl⟩ := e
    exact he
  · refine va_at.kept (cell_congr (t := t) (fun id' j' hr' => up2_ne fun z => ?_) (h1 kq k hk)) (oq _ fun z => e (h2 _ _ _ _ hk hi z))
    obtain ⟨rfl, rfl⟩ := z
    exact e (rd_one h4 hk hi hr' hr)
theorem SW.kept {D : va_G} {X : Nat → ClassId} {ad : Nat → Nat → Nat} {A : Nat → Prop} {M : Nat → Nat → Bool} {t : TT} {H H1 : Heap} (h : SW D X ad A M t H) (oq : ∀ kp i, M kp i = true → H1[ad kp i]? = H[ad kp i]?) : SW D X ad A M t H1 := ⟨fun kp i hi => (h.1 kp i hi).kept (oq kp i hi), h.2⟩
theorem SW.lt {D : va_G} {X : Nat → ClassId} {ad : Nat → Nat → Nat} {A : Nat → Prop} {M : Nat → Nat → Bool} {t : TT} {H : Heap} (h : SW D X ad A M t H) {kp i : Nat} (hi : M kp i = true) : ad kp i < H.size := (h.1 kp i hi).lt
end
section
/-! THE WALKER: what must hold that a method's body, from an instruction on, comes to its end with 'post' (or throws with 'px'); the kit's rows once for all bodies -/
abbrev Ent : Type := Instr × Nat × Nat × Int32 × List Nat
def lk (loc : Loc9) (k : Nat) : Option VV := match loc with
  | [] => none
  | q :: r => bif q.1 == k then some q.2 else lk r k
def st9 (loc : Loc9) (k : Nat) (v : VV) : Loc9 := (k, v) :: loc.filter (fun q => !(q.1 == k))
def isB (x : Int32) : Prop := x = 0 ∨ x = 1
def isBf (kp k : Nat) : Bool := (kp == 8 && (k == 11 || k == 12)) || (kp == 6 && k == 1) || (kp == 7 && k == 2)
def lenR (kp : Nat) : Nat := match kp with
  | 1 => 6
  | 2 => 12
  | 3 => 4
  | _ => 5
/-- the object that a reference names; one that may be null isn't -/
def drf (v : VV) (f : Nat → Nat → Prop) : Prop := match v with
  | .inl _ => False
  | .inr (.inl r) => f r.1 r.2
  | .inr (.inr r) => ¬ r.2 = -1 ∧ f r.1 r.2.toNatClampNeg
/-- a value in the form that a block wants: a number; an object of a kind; one of a kind, or null -/
def coer (kd kp : Nat) (v : VV) (f : VV → Prop) : Prop := match kd, v with
  | 0, .inl x => f (.inl x)
  | 1, .inr (.inl r) => bif r.1 == kp then f (.inr (.inl (kp, r.2))) else False
  | 2, .inr (.inl r) => bif r.1 == kp then r.2 < 1000 ∧ f (.inr (.inr (kp, nI r.2))) else False
  | 2, .inr (.inr r) => bif r.1 == kp then f (.inr (.inr (kp, r.2))) else False
  | k + 3, .inr (.inl r) => bif r.1 == kp && r.2 == k then f (.inr (.inl (kp, k))) else False
  | _, _ => False
def getAll (loc : Loc9) : List (Nat × Nat × Nat) → (List VV → Prop) → Prop
  | [], f => f []
  | q :: r, f => match lk loc q.1 with
    | some v => coer q.2.1 q.2.2 v (fun w => getAll loc r (fun ws => f (w :: ws)))
    | none => False
def stkAll : List VV → List (Nat × Nat) → (List VV → Prop) → Prop
  | [], [], f => f []
  | v :: vs, q :: r, f => coer q.1 q.2 v (fun w => stkAll vs r (fun ws => f (w :: ws)))
  | _, _, _ => False
def swP (go : Nat → Prop) (d : Nat) (x : Int32) : Nat → List Nat → Prop
  | _, [] => go d
  | k, t :: r => if x = nI k then go t else swP go d x (k + 1) r
/-- a field is read, a field is written -/
def gfP (M : Nat → Nat → Bool) (f : Option (Nat × Nat)) (t : TT) (kp i : Nat) (k : VV → Prop) : Prop := match f with
  | none => False
  | some f => bif f.1 == kp then M kp i = true ∧ (match (FL f.1)[f.2]? with | some e => k (fvv t i e) | none => False) else False
def isFin (kp k : Nat) : Bool := (kp == 5 && Nat.blt k 2) || (kp == 6 && k == 0) || (kp == 7 && Nat.blt k 2) || (kp == 8 && Nat.blt k 4)
def pfP (M : Nat → Nat → Bool) (f : Option (Nat × Nat)) (kp i : Nat) (v : VV) (k : Nat → Int32 → Prop) : Prop := match f with
  | none => False
  | some f => bif f.1 == kp && !isFin f.1 f.2 then M kp i = true ∧ (match (FL f.1)[f.2]? with
    | none => False
    | some e => match e.1, v with
      | 0, .inl x => bif isBf f.1 f.2 then isB x ∧ k e.2 x else k e.2 x
      | 2, .inr (.inl q) => bif q.1 == 5 then q.2 < 1000 ∧ k e.2 (nI q.2) else False
      | 2, .inr (.inr q) => bif q.1 == 5 then k e.2 q.2 else False
      | _, _ => False) else False
/-- one instruction -/
def stepP (M : Nat → Nat → Bool) (nL : Nat) (fld : Nat → Option (Nat × Nat)) (nA : Bool → Nat → Option (Nat × Nat × Nat)) (PC : Nat → List VV → TT → (Option VV → TT → Prop) → (String → TT → Prop) → Prop) (rk mc ms : Nat) (post : Option VV → TT → Prop) (px : String → TT → Prop)
    (ins : Instr) (pc tgt : Nat) (imm : Int32) (ts : List Nat) (loc : Loc9) (st : List VV) (t : TT) (cl sl : Nat) (go : Nat → Loc9 → List VV → TT → Nat → Nat → Prop) : Prop :=
  match ins with
  | .aload_n k => (match lk loc k.val with | some (.inr r) => go (pc + 1) loc (.inr r :: st) t cl sl | _ => False)
  | .aload k => (match lk loc k with | some (.inr r) => go (pc + 2) loc (.inr r :: st) t cl sl | _ => False)
  | .iload_n k => (match lk loc k.val with | some (.inl x) => go (pc + 1) loc (.inl x :: st) t cl sl | _ => False)
  | .iload k => (match lk loc k with | some (.inl x) => go (pc + 2) loc (.inl x :: st) t cl sl | _ => False)
  | .istore_n k => (match st with | .inl x :: r => bif Nat.blt k.val nL then go (pc + 1) (st9 loc k.val (.inl x)) r t cl sl else False | _ => False)
  | .istore k => (match st with | .inl x :: r => bif Nat.blt k nL then go (pc + 2) (st9 loc k (.inl x)) r t cl sl else False | _ => False)
  | .astore_n k => (match st with | .inr x :: r => bif Nat.blt k.val nL then go (pc + 1) (st9 loc k.val (.inr x)) r t cl sl else False | _ => False)
  | .astore k => (match st with | .inr x :: r => bif Nat.blt k nL then go (pc + 2) (st9 loc k (.inr x)) r t cl sl else False | _ => False)
  | .iconst _ => go (pc + 1) loc (.inl imm :: st) t cl sl
  | .bipush _ => go (pc + 2) loc (.inl imm :: st) t cl sl
  | .sipush _ => go (pc + 3) loc (.inl imm :: st) t cl sl
  | .iinc k _ => (match lk loc k with | some (.inl x) => bif Nat.blt k nL then go (pc + 3) (st9 loc k (.inl (x + imm))) st t cl sl else False | _ => False)
  | .iadd => (match st with | .inl y :: .inl x :: r => go (pc + 1) loc (.inl (x + y) :: r) t cl sl | _ => False)
  | .isub => (match st with | .inl y :: .inl x :: r => go (pc + 1) loc (.inl (x - y) :: r) t cl sl | _ => False)
  | .imul => (match st with | .inl y :: .inl x :: r => go (pc + 1) loc (.inl (x * y) :: r) t cl sl | _ => False)
  | .idiv => (match st with | .inl y :: .inl x :: r => ¬ y = 0 ∧ go (pc + 1) loc (.inl (x / y) :: r) t cl sl | _ => False)
  | .irem => (match st with | .inl y :: .inl x :: r => ¬ y = 0 ∧ go (pc + 1) loc (.inl (x - x / y * y) :: r) t cl sl | _ => False)
  | .pop => (match st with | _ :: r => go (pc + 1) loc r t cl sl | _ => False)
  | .iand => (match st with | .inl y :: .inl x :: r => go (pc + 1) loc (.inl (x &&& y) :: r) t cl sl | _ => False)
  | .ior => (match st with | .inl y :: .inl x :: r => go (pc + 1) loc (.inl (x ||| y) :: r) t cl sl | _ => False)
  | .ixor => (match st with | .inl y :: .inl x :: r => go (pc + 1) loc (.inl (x ^^^ y) :: r) t cl sl | _ => False)
  | .ishr => (match st with | .inl y :: .inl x :: r => go (pc + 1) loc (.inl (x >>> (y &&& 31)) :: r) t cl sl | _ => False)
  | .i2b => (match st with | .inl x :: r => go (pc + 1) loc (.inl x.toInt8.toInt32 :: r) t cl sl | _ => False)
  | .dup => (match st with | v :: r => go (pc + 1) loc (v :: v :: r) t cl sl | _ => False)
  | .dup2 => (match st with | v :: w :: r => go (pc + 1) loc (v :: w :: v :: w :: r) t cl sl | _ => False)
  | .getfield ix => (match st with | v :: r => drf v (fun kp i => gfP M (fld ix) t kp i (fun w => go (pc + 3) loc (w :: r) t cl sl)) | _ => False)
  | .putfield ix => (match st with | v :: o :: r => drf o (fun kp i => pfP M (fld ix) kp i v (fun id x => go (pc + 3) loc r (up2 t id i x) cl sl)) | _ => False)
  | .baload => (match st with
    | .inl x :: .inr (.inl (9, i)) :: r => (M 9 i = true ∧ vp_in x 1000) ∧ go (pc + 1) loc (.inl (t 35 (1000 * i + x.toNatClampNeg)) :: r) t cl sl
    | .inl x :: .inr (.inl (10, i)) :: r => (M 10 i = true ∧ vp_in x 1000) ∧ go (pc + 1) loc (.inl (t 36 (1000 * i + x.toNatClampNeg)) :: r) t cl sl
    | _ => False)
  | .bastore => (match st with
    | .inl y :: .inl x :: .inr (.inl (9, i)) :: r => (M 9 i = true ∧ vp_in x 1000) ∧ go (pc + 1) loc r (up2 t 35 (1000 * i + x.toNatClampNeg) (vp_nar .byte y)) cl sl
    | .inl y :: .inl x :: .inr (.inl (10, i)) :: r => (M 10 i = true ∧ vp_in x 1000) ∧ go (pc + 1) loc r (up2 t 36 (1000 * i + x.toNatClampNeg) (vp_nar .byte y)) cl sl
    | _ => False)
  | .aaload => (match st with | .inl x :: .inr (.inl q) :: r => bif (Nat.ble 1 q.1 && Nat.ble q.1 4) then (M q.1 q.2 = true ∧ vp_in x (lenR q.1) ∧ M (q.1 + 4) x.toNatClampNeg = true) ∧ go (pc + 1) loc (.inr (.inl (q.1 + 4, x.toNatClampNeg)) :: r) t cl sl else False | _ => False)
  | .arraylength => (match st with | .inr (.inl q) :: r => bif (q.1 == 9 || q.1 == 10) then M q.1 q.2 = true ∧ go (pc + 1) loc (.inl 1000 :: r) t cl sl else False | _ => False)
  | .if_icmp c _ => (match st with | .inl y :: .inl x :: r => (match c with
      | .eq => if x = y then go tgt loc r t cl sl else go (pc + 3) loc r t cl sl
      | .ne => if x = y then go (pc + 3) loc r t cl sl else go tgt loc r t cl sl
      | .lt => if x < y then go tgt loc r t cl sl else go (pc + 3) loc r t cl sl
      | .ge => if y ≤ x then go tgt loc r t cl sl else go (pc + 3) loc r t cl sl
      | .gt => if y < x then go tgt loc r t cl sl else go (pc + 3) loc r t cl sl
      | .le => if x ≤ y then go tgt loc r t cl sl else go (pc + 3) loc r t cl sl) | _ => False)
  | .ifCond c _ => (match st with | .inl x :: r => (match c with
      | .eq => if x = 0 then go tgt loc r t cl sl else go (pc + 3) loc r t cl sl
      | .ne => if x = 0 then go (pc + 3) loc r t cl sl else go tgt loc r t cl sl
      | .lt => if x < 0 then go tgt loc r t cl sl else go (pc + 3) loc r t cl sl
      | .ge => if 0 ≤ x then go tgt loc r t cl sl else go (pc + 3) loc r t cl sl
      | .gt => if 0 < x then go tgt loc r t cl sl else go (pc + 3) loc r t cl sl
      | .le => if x ≤ 0 then go tgt loc r t cl sl else go (pc + 3) loc r t cl sl) | _ => False)
  | .ifnull _ => (match st with
    | .inr (.inl _) :: r => go (pc + 3) loc r t cl sl
    | .inr (.inr q) :: r => if q.2 = -1 then go tgt loc r t cl sl else go (pc + 3) loc r t cl sl
    | _ => False)
  | .ifnonnull _ => (match st with
    | .inr (.inl _) :: r => go tgt loc r t cl sl
    | .inr (.inr q) :: r => if q.2 = -1 then go (pc + 3) loc r t cl sl else go tgt loc r t cl sl
    | _ => False)
  | .goto _ => go tgt loc st t cl sl
  | .tableswitch _ _ _ _ => (match st with | .inl x :: r => swP (fun q => go q loc r t cl sl) tgt x 0 ts | _ => False)
  | .aconst_null => go (pc + 1) loc (.inr (.inr (tgt, -1)) :: st) t cl sl
  | .invokevirtual ix => (match nA true ix with
    | some q => bif Nat.ble q.1 st.length && Nat.ble (st.length - q.1) 8 && Nat.ble (cl + q.2.1) mc && Nat.ble (sl + q.2.2) ms then PC ix (st.take q.1).reverse t (fun v t1 => go (pc + 3) loc (v.toList ++ st.drop q.1) t1 (cl + q.2.1) (sl + q.2.2)) px else False
    | none => False)
  | .invokestatic ix => (match nA false ix with
    | some q => bif Nat.ble q.1 st.length && Nat.ble (st.length - q.1) 8 && Nat.ble (cl + q.2.1) mc && Nat.ble (sl + q.2.2) ms then PC ix (st.take q.1).reverse t (fun v t1 => go (pc + 3) loc (v.toList ++ st.drop q.1) t1 (cl + q.2.1) (sl + q.2.2)) px else False
    | none => False)
  | .ireturn => (match st, rk with
    | [.inl x], 1 => bif Nat.ble cl mc && Nat.ble sl ms then post (some (.inl x)) t else False
    | [.inl x], 2 => bif Nat.ble cl mc && Nat.ble sl ms then isB x ∧ post (some (.inl x)) t else False
    | _, _ => False)
  | .return_ => (match st, rk with
    | [], 0 => bif Nat.ble cl mc && Nat.ble sl ms then post none t else False
    | _, _ => False)
  | .areturn => (match st, rk with
    | [.inr (.inr q)], 3 => bif Nat.ble cl mc && Nat.ble sl ms then post (some (.inr (.inr q))) t else False
    | _, _ => False)
  | _ => False
def wp (M : Nat → Nat → Bool) (nL : Nat) (tab : Nat → Option Ent) (fld : Nat → Option (Nat × Nat)) (nA : Bool → Nat → Option (Nat × Nat × Nat)) (PC : Nat → List VV → TT → (Option VV → TT → Prop) → (String → TT → Prop) → Prop) (thr : Nat → Option String) (cs : Nat → Option (List (Nat × Nat × Nat) × List (Nat × Nat) × Nat × Nat)) (Bk : Nat → List VV → List VV → TT → Prop) (rk mc ms : Nat) (post : Option VV → TT → Prop) (px : String → TT → Prop) : Nat → Nat → Loc9 → List VV → TT → Nat → Nat → Prop
  | 0, _, _, _, _, _, _ => False
  | n + 1, pc, loc, st, t, cl, sl => match thr pc with
    | some E => bif Nat.ble (cl + 1) mc && Nat.ble (sl + 6) ms && Nat.ble st.length 8 then px E t else False
    | none => match tab pc with
      | none => False
      | some en => stepP M nL fld nA PC rk mc ms post px en.1 pc en.2.2.1 en.2.2.2.1 en.2.2.2.2 loc st t cl sl (fun pc1 loc1 st1 t1 cl1 sl1 => match cs pc1 with
        | some q => bif cl1 == q.2.2.1 && sl1 == q.2.2.2 then getAll loc1 q.1 (fun vs => stkAll st1 q.2.1 (fun ws => Bk pc1 vs ws t1)) else False
        | none => wp M nL tab fld nA PC thr cs Bk rk mc ms post px n pc1 loc1 st1 t1 cl1 sl1)
/-- an entry of the table says what the bytes say -/
def entOK (b : ByteArray) (pc : Nat) (en : Ent) : Bool := decide (decode b pc = .ok (en.1, en.2.1)) && (match en.1 with
  | .if_icmp _ off => decide (en.2.1 = 3 ∧ (pc : Int) + off = (en.2.2.1 : Int))
  | .ifCond _ off => decide (en.2.1 = 3 ∧ (pc : Int) + off = (en.2.2.1 : Int))
  | .ifnull off => decide (en.2.1 = 3 ∧ (pc : Int) + off = (en.2.2.1 : Int))
  | .ifnonnull off => decide (en.2.1 = 3 ∧ (pc : Int) + off = (en.2.2.1 : Int))
  | .goto off => decide (en.2.1 = 3 ∧ (pc : Int) + off = (en.2.2.1 : Int))
  | .iconst n => decide (en.2.1 = 1 ∧ Int32.ofInt n = en.2.2.2.1)
  | .bipush n => decide (en.2.1 = 2 ∧ (Int8.ofInt n).toInt32 = en.2.2.2.1)
  | .sipush n => decide (en.2.1 = 3 ∧ (Int16.ofInt n).toInt32 = en.2.2.2.1)
  | .iinc _ n => decide (en.2.1 = 3 ∧ Int32.ofInt n = en.2.2.2.1)
  | .tableswitch d lo hi offs => decide (lo = 0 ∧ hi + 1 = (en.2.2.2.2.length : Int) ∧ (pc : Int) + d = (en.2.2.1 : Int)) && (List.range en.2.2.2.2.length).all (fun j => match offs[j]?, en.2.2.2.2[j]? with | some o, some q => decide ((pc : Int) + o = (q : Int)) | _, _ => false) && decide (en.2.2.2.2.length < 1000)
  | .aload _ => decide (en.2.1 = 2)
  | .iload _ => decide (en.2.1 = 2)
  | .istore _ => decide (en.2.1 = 2)
  | .astore _ => decide (en.2.1 = 2)
  | .getfield _ => decide (en.2.1 = 3)
  | .putfield _ => decide (en.2.1 = 3)
  | .invokevirtual _ => decide (en.2.1 = 3)
  | .invokestatic _ => decide (en.2.1 = 3)
  | _ => decide (en.2.1 = 1))
def tabOf (l : List (Nat × Ent)) (pc : Nat) : Option Ent := match l with
  | [] => none
  | q :: r => bif q.1 == pc then some q.2 else tabOf r pc
theorem tabOf_ok {b : ByteArray} : ∀ {l : List (Nat × Ent)} {pc : Nat} {en : Ent}, (l.all (fun q => entOK b q.1 q.2)) = true → tabOf l pc = some en → entOK b pc en = true
  | [], _, _, _, h => by cases h
  | q :: r, pc, en, hl, h => by
    simp only [List.all_cons, Bool.and_eq_true] at hl
    unfold tabOf at h
    cases hq : q.1 == pc with
    | true =>
      rw [hq] at h
      cases h
      have e : q.1 = pc := by simpa using hq
      rw [← e]
      exact hl.1
    | false =>
      rw [hq] at h
      exact tabOf_ok hl.2 h
end
section
/-! words, fields: what the tables say of each kind of object -/
def LT : List Cond := lw_tbl.filter goodWord
theorem LT_in {w : Cond} (h : w ∈ lw_tbl) (g : goodWord w = true) : w ∈ LT := List.mem_filter.mpr ⟨h, g⟩
theorem LT_good {w : Cond} (h : w ∈ LT) : goodWord w = true := (List.mem_filter.mp h).2
theorem LT_GoodIn {y : MethodName} {b : ByteArray} {n : Nat} {r : Option FieldType} {x : Cond} (hc : Cond.code y b n r ∈ LT) : GoodIn (x :: LT) (Cond.code y b n r :: LT) := by
  intro w hw
  have h : w ∈ LT := (List.mem_cons.mp hw).elim (fun q => by rw [q]; exact hc) id
  exact ⟨List.mem_cons_of_mem _ h, good_of_word (LT_good h)⟩
def TXk (kp : Nat) : u_T := match kp with
  | 0 => TX4
  | 5 => TX1
  | 6 => TX0
  | 7 => TX3
  | _ => TX2
def RXk (kp : Nat) : String := match kp with
  | 0 => RX4
  | 5 => RX1
  | 6 => RX0
  | 7 => RX3
  | _ => RX2
def tyXk (kp : Nat) : Nat → FieldType := match kp with
  | 0 => tyX4
  | 5 => tyX1
  | 6 => tyX0
  | 7 => tyX3
  | _ => tyX2
def isObj (kp : Nat) : Prop := kp = 0 ∨ kp = 5 ∨ kp = 6 ∨ kp = 7 ∨ kp = 8
def fldOK (own : String) (ix : Nat) (f : Nat × Nat) : Prop := isObj f.1 ∧ Cond.fieldLink own ix (TXk f.1 f.2).1 (TXk f.1 f.2).2.1 (TXk f.1 f.2).2.2.1 ∈ LT
theorem obj_lays_lw {kp : Nat} (h : isObj kp) : ∀ w ∈ u_ws (RXk kp) (TXk kp) (FL kp).length, w ∈ LT := by
  rcases h with rfl | rfl | rfl | rfl | rfl <;> decide +kernel
theorem obj_cl {kp : Nat} (h : isObj kp) : vwCl[kci kp]? = some (RXk kp, TXk kp, (FL kp).length) := by
  rcases h with rfl | rfl | rfl | rfl | rfl <;> rfl
theorem obj_ty {kp : Nat} (h : isObj kp) : ∀ k, k < (FL kp).length → parseFieldDescriptor (TXk kp k).2.2.1 = some (tyXk kp k) := by
  rcases h with rfl | rfl | rfl | rfl | rfl
  · exact tyX4_ok
  · exact tyX1_ok
  · exact tyX0_ok
  · exact tyX3_ok
  · exact tyX2_ok
theorem obj_nm {kp : Nat} (h : isObj kp) : ∀ a, a < (FL kp).length → ∀ b, b < (FL kp).length → a ≠ b → (TXk kp a).2.1 ≠ (TXk kp b).2.1 := by
  rcases h with rfl | rfl | rfl | rfl | rfl
  · exact nmX4
  · exact nmX1
  · exact nmX0
  · exact nmX3
  · exact nmX2
theorem obj_cell {kp : Nat} (h : isObj kp) (X : Nat → ClassId) (ad : Nat → Nat → Nat) (M : Nat → Nat → Bool) (t : TT) (i : Nat) : cellE X ad M t kp i = .inr (kci kp, (FL kp).map fun e => toV ad (fvv t i e)) := by
  rcases h with rfl | rfl | rfl | rfl | rfl <;> rfl
theorem obj_kinds {kp : Nat} (h : isObj kp) : ∀ k, k < (FL kp).length → isFin kp k = false → (∀ e, (FL kp)[k]? = some e → e.1 = 0 → tyXk kp k = (if isBf kp k = true then .boolean else .int) ∧ (TXk kp k).2.2.2 = false) ∧ (∀ e, (FL kp)[k]? = some e → e.1 = 2 → tyXk kp k = .object "HeadwayDeep$Platform" ∧ (TXk kp k).2.2.2 = false) := by
  rcases h with rfl | rfl | rfl | rfl | rfl
  · have h := (by decide +kernel : ∀ k, k < 10 → isFin 0 k = false → (∀ e, e ∈ (FL 0)[k]? → e.1 = 0 → tyXk 0 k = (if isBf 0 k = true then .boolean else .int) ∧ (TXk 0 k).2.2.2 = false) ∧ (∀ e, e ∈ (FL 0)[k]? → e.1 = 2 → tyXk 0 k = .object "HeadwayDeep$Platform" ∧ (TXk 0 k).2.2.2 = false))
    exact h
  · have h := (by decide +kernel : ∀ k, k < 8 → isFin 5 k = false → (∀ e, e ∈ (FL 5)[k]? → e.1 = 0 → tyXk 5 k = (if isBf 5 k = true then .boolean else .int) ∧ (TXk 5 k).2.2.2 = false) ∧ (∀ e, e ∈ (FL 5)[k]? → e.1 = 2 → tyXk 5 k = .object "HeadwayDeep$Platform" ∧ (TXk 5 k).2.2.2 = false))
    exact h
  · have h := (by decide +kernel : ∀ k, k < 2 → isFin 6 k = false → (∀ e, e ∈ (FL 6)[k]? → e.1 = 0 → tyXk 6 k = (if isBf 6 k = true then .boolean else .int) ∧ (TXk 6 k).2.2.2 = false) ∧ (∀ e, e ∈ (FL 6)[k]? → e.1 = 2 → tyXk 6 k = .object "HeadwayDeep$Platform" ∧ (TXk 6 k).2.2.2 = false))
    exact h
  · have h := (by decide +kernel : ∀ k, k < 3 → isFin 7 k = false → (∀ e, e ∈ (FL 7)[k]? → e.1 = 0 → tyXk 7 k = (if isBf 7 k = true then .boolean else .int) ∧ (TXk 7 k).2.2.2 = false) ∧ (∀ e, e ∈ (FL 7)[k]? → e.1 = 2 → tyXk 7 k = .object "HeadwayDeep$Platform" ∧ (TXk 7 k).2.2.2 = false))
    exact h
  · have h := (by decide +kernel : ∀ k, k < 18 → isFin 8 k = false → (∀ e, e ∈ (FL 8)[k]? → e.1 = 0 → tyXk 8 k = (if isBf 8 k = true then .boolean else .int) ∧ (TXk 8 k).2.2.2 = false) ∧ (∀ e, e ∈ (FL 8)[k]? → e.1 = 2 → tyXk 8 k = .object "HeadwayDeep$Platform" ∧ (TXk 8 k).2.2.2 = false))
    exact h
def FLu (kp : Nat) : Bool := (List.range (FL kp).length).all (fun a => (List.range (FL kp).length).all (fun b => match (FL kp)[a]?, (FL kp)[b]? with
  | some x, some y => !((x.1 == 0 || x.1 == 2) && (y.1 == 0 || y.1 == 2) && x.2 == y.2) || a == b
  | _, _ => true))
theorem FL_one {kp : Nat} (h : isObj kp) {a b : Nat} {x y : Nat × Nat} (ha : (FL kp)[a]? = some x) (hb : (FL kp)[b]? = some y) (hx : x.1 = 0 ∨ x.1 = 2) (hy : y.1 = 0 ∨ y.1 = 2) (e : x.2 = y.2) : a = b := by
  have hu : FLu kp = true := by rcases h with rfl | rfl | rfl | rfl | rfl <;> decide +kernel
  unfold FLu at hu
  have h1 := List.all_eq_true.mp hu a (List.mem_range.mpr (List.getElem?_eq_some_iff.mp ha).1)
  have h2 := List.all_eq_true.mp h1 b (List.mem_range.mpr (List.getElem?_eq_some_iff.mp hb).1)
  rw [ha, hb] at h2
  have hx' : (x.1 == 0 || x.1 == 2) = true := by simpa using hx
  have hy' : (y.1 == 0 || y.1 == 2) = true := by simpa using hy
  simp only [hx', hy', e, beq_self_eq_true, Bool.and_self, Bool.not_true, Bool.false_or, beq_iff_eq] at h2
  exact h2
theorem fl_set {kp : Nat} (h : isObj kp) {ad : Nat → Nat → Nat} {t : TT} {i k : Nat} {e : Nat × Nat} {x : Int32} (he : (FL kp)[k]? = some e) (h0 : e.1 = 0 ∨ e.1 = 2) : ((FL kp).map fun q => toV ad (fvv t i q)).set k (toV ad (fvv (up2 t e.2 i x) i e)) = (FL kp).map fun q => toV ad (fvv (up2 t e.2 i x) i q) := by
  have hk := (List.getElem?_eq_some_iff.mp he).1
  apply List.ext_getElem?
  intro j
  rw [List.getElem?_set, List.getElem?_map, List.getElem?_map]
  by_cases hj : k = j
  · subst hj
    rw [if_pos rfl, he]
    simp [hk]
  · rw [if_neg hj]
    cases hf : (FL kp)[j]? with
    | none => rfl
    | some f =>
      show some (toV ad (fvv t i f)) = some (toV ad (fvv (up2 t e.2 i x) i f))
      obtain ⟨a, b⟩ := f
      have key : (a = 0 ∨ a = 2) → up2 t e.2 i x b i = t b i := fun z => up2_ne fun q => hj (FL_one h he hf h0 z q.1.symm)
      match a, key with
      | 0, key => simp only [fvv]; rw [key (Or.inl rfl)]
      | 1, _ => rfl
      | 2, key => simp only [fvv]; rw [key (Or.inr rfl)]
      | 3, _ => rfl
      | a + 4, _ => rfl
end
section
/-! THE WALKER IS RIGHT: each instruction's condition gives the kit's judgement W, from the judgements behind it -/
def locV (ad : Nat → Nat → Nat) (loc : Loc9) : List (Nat × Value) := loc.map (fun q => (q.1, toV ad q.2))
theorem toQ_cat (ad : Nat → Nat → Nat) (kp : Nat) (x : Int32) : (toQ ad kp x).category = 1 := by
  unfold toQ
  split <;> rfl
theorem toQ_m1 (ad : Nat → Nat → Nat) (kp : Nat) : toQ ad kp (-1) = .null := if_pos rfl
theorem toV_cat (ad : Nat → Nat → Nat) (v : VV) : (toV ad v).category = 1 := by
  match v with
  | .inl x => rfl
  | .inr (.inl r) => rfl
  | .inr (.inr r) => exact toQ_cat ad r.1 r.2
theorem lk_mem {ad : Nat → Nat → Nat} : ∀ {loc : Loc9} {k : Nat} {v : VV}, lk loc k = some v → (k, toV ad v) ∈ locV ad loc
  | [], _, _, h => by cases h
  | q :: r, k, v, h => by
    unfold lk at h
    cases hq : q.1 == k with
    | true =>
      rw [hq] at h
      have e : q.1 = k := by simpa using hq
      have e2 : q.2 = v := Option.some.inj h
      rw [← e, ← e2]
      exact List.mem_cons_self
    | false =>
      rw [hq] at h
      exact List.mem_cons_of_mem _ (lk_mem h)
theorem st9_loc {ad : Nat → Nat → Nat} (loc : Loc9) (k : Nat) (v : VV) : (k, toV ad v) :: (locV ad loc).filter (fun q => !(q.1 == k) && !(q.1 + 1 == k && q.2.category == 2)) = locV ad (st9 loc k v) := by
  unfold locV st9
  rw [List.map_cons, List.filter_map]
  congr 3
  funext q
  simp [toV_cat]
def Wat (p : Program) (l : Launch) (e : Env) (R : Room) (s : State) (m : MethodId) (args : Array Value) (below : List Frame) (meth : Method) (c : Code) (Q : State → Prop) (D : va_G) (X : Nat → ClassId) (ad : Nat → Nat → Nat) (A : Nat → Prop) (M : Nat → Nat → Bool) (nL pc : Nat) (loc : Loc9) (st : List VV) (t : TT) (cl sl : Nat) : Prop :=
  ∀ (H : Heap) (locs : List Loc) (ls : Array Slot), SW D X ad A M t H → va_S A s.heap H locs → lv_has ls nL (locV ad loc) → W p l e R s m args below meth c H locs cl sl Q (F0 m pc ls (st.map (toV ad)))
section SND
variable {p : Program} {l : Launch} {e : Env} {R : Room} {s : State} {m : MethodId} {args : Array Value} {below : List Frame} {meth : Method} {c : Code} {Q : State → Prop} {D : va_G} {X : Nat → ClassId} {ad : Nat → Nat → Nat} {A : Nat → Prop} {M : Nat → Nat → Bool} {nL pc : Nat} {loc : Loc9} {st : List VV} {t : TT} {cl sl : Nat} {b : ByteArray} {H : Heap} {locs : List Loc} {ls : Array Slot}
theorem at_loc (h : lv_has ls nL (locV ad loc)) {k : Nat} {v : VV} (hk : lk loc k = some v) : ls[k]? = some (.val (toV ad v)) := h.2.2 (k, toV ad v) (lk_mem hk)
theorem go_aload (hx : p.tables.exec = Jvm.exec) (hb : c.code = b) {r : Nat × Nat ⊕ Nat × Int32} {f : Fin 4} (hd : decode b pc = .ok (.aload_n f, 1)) (hk : lk loc f.val = some (.inr r)) (h : Wat p l e R s m args below meth c Q D X ad A M nL (pc + 1) loc (.inr r :: st) t cl sl) : Wat p l e R s m args below meth c Q D X ad A M nL pc loc st t cl sl := by
  intro H locs ls hW hS hl
  have h1 := h H locs ls hW hS hl
  have h2 := at_loc hl hk
  match r, h1, h2 with
  | .inl q, h1, h2 => exact lv_aload_n hx hb hd rfl h2 h1
  | .inr q, h1, h2 =>
    simp only [List.map_cons, toV, toQ] at h1 h2
    by_cases hq : q.2 = -1
    · rw [if_pos hq] at h1 h2
      exact lv_aload_nN hx hb hd rfl h2 h1
    · rw [if_neg hq] at h1 h2
      exact lv_aload_n hx hb hd rfl h2 h1
theorem go_aload2 (hx : p.tables.exec = Jvm.exec) (hb : c.code = b) {r : Nat × Nat ⊕ Nat × Int32} {k : Nat} (hd : decode b pc = .ok (.aload k, 2)) (hk : lk loc k = some (.inr r)) (h : Wat p l e R s m args below meth c Q D X ad A M nL (pc + 2) loc (.inr r :: st) t cl sl) : Wat p l e R s m args below meth c Q D X ad A M nL pc loc st t cl sl := by
  intro H locs ls hW hS hl
  have h1 := h H locs ls hW hS hl
  have h2 := at_loc hl hk
  match r, h1, h2 with
  | .inl q, h1, h2 => exact lv_aload hx hb hd h2 h1
  | .inr q, h1, h2 =>
    simp only [List.map_cons, toV, toQ] at h1 h2
    by_cases hq : q.2 = -1
    · rw [if_pos hq] at h1 h2
      exact lv_aloadN hx hb hd h2 h1
    · rw [if_neg hq] at h1 h2
      exact lv_aload hx hb hd h2 h1
theorem go_iload (hx : p.tables.exec = Jvm.exec) (hb : c.code = b) {x : Int32} {f : Fin 4} (hd : decode b pc = .ok (.iload_n f, 1)) (hk : lk loc f.val = some (.inl x)) (h : Wat p l e R s m args below meth c Q D X ad A M nL (pc + 1) loc (.inl x :: st) t cl sl) : Wat p l e R s m args below meth c Q D X ad A M nL pc loc st t cl sl := by
  intro H locs ls hW hS hl
  exact lv_iload_n hx hb hd rfl (at_loc hl hk) (h H locs ls hW hS hl)
theorem go_iload2 (hx : p.tables.exec = Jvm.exec) (hb : c.code = b) {x : Int32} {k : Nat} (hd : decode b pc = .ok (.iload k, 2)) (hk : lk loc k = some (.inl x)) (h : Wat p l e R s m args below meth c Q D X ad A M nL (pc + 2) loc (.inl x :: st) t cl sl) : Wat p l e R s m args below meth c Q D X ad A M nL pc loc st t cl sl := by
  intro H locs ls hW hS hl
  exact lv_iload hx hb hd (at_loc hl hk) (h H locs ls hW hS hl)
theorem go_istore (hx : p.tables.exec = Jvm.exec) (hb : c.code = b) {x : Int32} {f : Fin 4} (hd : decode b pc = .ok (.istore_n f, 1)) (hn : f.val < nL) (h : Wat p l e R s m args below meth c Q D X ad A M nL (pc + 1) (st9 loc f.val (.inl x)) st t cl sl) : Wat p l e R s m args below meth c Q D X ad A M nL pc loc (.inl x :: st) t cl sl := by
  intro H locs ls hW hS hl
  exact lv_istore_n hx hb hd rfl hl hn (st9_loc loc f.val (.inl x)) (fun ls hl => h H locs ls hW hS hl)
theorem go_istore2 (hx : p.tables.exec = Jvm.exec) (hb : c.code = b) {x : Int32} {k : Nat} (hd : decode b pc = .ok (.istore k, 2)) (hn : k < nL) (h : Wat p l e R s m args below meth c Q D X ad A M nL (pc + 2) (st9 loc k (.inl x)) st t cl sl) : Wat p l e R s m args below meth c Q D X ad A M nL pc loc (.inl x :: st) t cl sl := by
  intro H locs ls hW hS hl
  exact lv_istore hx hb hd hl hn (st9_loc loc k (.inl x)) (fun ls hl => h H locs ls hW hS hl)
theorem go_astore (hx : p.tables.exec = Jvm.exec) (hb : c.code = b) {r : Nat × Nat ⊕ Nat × Int32} {f : Fin 4} (hd : decode b pc = .ok (.astore_n f, 1)) (hn : f.val < nL) (h : Wat p l e R s m args below meth c Q D X ad A M nL (pc + 1) (st9 loc f.val (.inr r)) st t cl sl) : Wat p l e R s m args below meth c Q D X ad A M nL pc loc (.inr r :: st) t cl sl := by
  intro H locs ls hW hS hl
  have e9 := st9_loc (ad := ad) loc f.val (.inr r)
  have k := fun ls hl => h H locs ls hW hS hl
  match r, e9, k with
  | .inl q, e9, k => exact lv_astore_n hx hb hd rfl hl hn e9 k
  | .inr q, e9, k =>
    show W p l e R s m args below meth c H locs cl sl Q (F0 m pc ls (toQ ad q.1 q.2 :: _))
    rw [show toV ad (.inr (.inr q)) = toQ ad q.1 q.2 from rfl] at e9
    unfold toQ at e9 ⊢
    by_cases hq : q.2 = -1
    · rw [if_pos hq] at e9 ⊢
      exact lv_astore_nN hx hb hd rfl hl hn e9 k
    · rw [if_neg hq] at e9 ⊢
      exact lv_astore_n hx hb hd rfl hl hn e9 k
theorem go_astore2 (hx : p.tables.exec = Jvm.exec) (hb : c.code = b) {r : Nat × Nat ⊕ Nat × Int32} {j : Nat} (hd : decode b pc = .ok (.astore j, 2)) (hn : j < nL) (h : Wat p l e R s m args below meth c Q D X ad A M nL (pc + 2) (st9 loc j (.inr r)) st t cl sl) : Wat p l e R s m args below meth c Q D X ad A M nL pc loc (.inr r :: st) t cl sl := by
  intro H locs ls hW hS hl
  have e9 := st9_loc (ad := ad) loc j (.inr r)
  have k := fun ls hl => h H locs ls hW hS hl
  match r, e9, k with
  | .inl q, e9, k => exact lv_astore hx hb hd hl hn e9 k
  | .inr q, e9, k =>
    show W p l e R s m args below meth c H locs cl sl Q (F0 m pc ls (toQ ad q.1 q.2 :: _))
    rw [show toV ad (.inr (.inr q)) = toQ ad q.1 q.2 from rfl] at e9
    unfold toQ at e9 ⊢
    by_cases hq : q.2 = -1
    · rw [if_pos hq] at e9 ⊢
      exact lv_astoreN hx hb hd hl hn e9 k
    · rw [if_neg hq] at e9 ⊢
      exact lv_astore hx hb hd hl hn e9 k
theorem go_iinc (hx : p.tables.exec = Jvm.exec) (hb : c.code = b) {x v : Int32} {k : Nat} {n : Int} (hd : decode b pc = .ok (.iinc k n, 3)) (hv : Int32.ofInt n = v) (hk : lk loc k = some (.inl x)) (hn : k < nL) (h : Wat p l e R s m args below meth c Q D X ad A M nL (pc + 3) (st9 loc k (.inl (x + v))) st t cl sl) : Wat p l e R s m args below meth c Q D X ad A M nL pc loc st t cl sl := by
  intro H locs ls hW hS hl
  obtain ⟨i, hi⟩ := List.getElem?_of_mem (lk_mem (ad := ad) hk)
  exact lv_iinc hx hb hd hl hi (by rw [hv]) hn (st9_loc loc k (.inl (x + v))) (fun ls hl => h H locs ls hW hS hl)
theorem SW.one {kp i : Nat} (hW : SW D X ad A M t H) (hi : M kp i = true) : va_P D vwCl [(ad kp i, cellE X ad M t kp i)] H := by
  intro k q hk
  match k, hk with
  | 0, hk => cases hk; exact hW.1 kp i hi
  | k + 1, hk => cases hk
theorem SW.oneE {kp i : Nat} {E : va_E} (hW : SW D X ad A M t H) (hi : M kp i = true) (hE : cellE X ad M t kp i = E) : va_P D vwCl [(ad kp i, E)] H := hE ▸ SW.one hW hi
theorem go_get (hx : p.tables.exec = Jvm.exec) (hb : c.code = b) {own : String} (hts : ∀ w ∈ LT, w.before args s = true) (hown : s.vm.findClass own = some m.cls) (hK : va_K D vwCl (TYX X) s) {ix kp i k : Nat} {v : VV} {f : Nat × Nat} (hf : fldOK own ix (kp, k)) (hd : decode b pc = .ok (.getfield ix, 3)) (hi : M kp i = true) (he : (FL kp)[k]? = some f) (hv : toV ad v = .ref (ad kp i)) (h : Wat p l e R s m args below meth c Q D X ad A M nL (pc + 3) loc (fvv t i f :: st) t cl sl) : Wat p l e R s m args below meth c Q D X ad A M nL pc loc (v :: st) t cl sl := by
  intro H locs ls hW hS hl
  have h1 := h H locs ls hW hS hl
  rw [List.map_cons] at h1 ⊢
  rw [hv]
  exact va_get (D := D) (ci := kci kp) (v := toV ad (fvv t i f)) (C := RXk kp) (T := TXk kp) (N := (FL kp).length) hx hb hts (obj_lays_lw hf.1) hown hK (SW.oneE hW hi (obj_cell hf.1 X ad M t i)) 0 rfl (obj_cl hf.1) k (List.getElem?_eq_some_iff.mp he).1 (hts _ hf.2) (fun _ h9 => h9) (by rw [List.getElem?_map, he]; rfl) hd h1
theorem SW.putS {kp i id j : Nat} {v : Int32} {H1 : Heap} (hW : SW D X ad A M t H) (hS : va_S A s.heap H locs) (hi : M kp i = true) (hr : rd kp i id j) (he : va_at D vwCl (ad kp i, cellE X ad M (up2 t id j v) kp i) H1) (z : H1.size = H.size) (oq : ∀ q, q ≠ ad kp i → H1[q]? = H[q]?) (k : Nat) : SW D X ad A M (up2 t id j v) H1 ∧ va_S A s.heap H1 (locs ++ [⟨ad kp i, k⟩]) := ⟨hW.up hi hr he oq, hS.put z oq (hW.2.2.1 kp i hi)⟩
theorem go_put (hx : p.tables.exec = Jvm.exec) (hb : c.code = b) {own : String} (hts : ∀ w ∈ LT, w.before args s = true) (hown : s.vm.findClass own = some m.cls) (hK : va_K D vwCl (TYX X) s) {ix kp i k : Nat} {v o : VV} {x : Int32} {f : Nat × Nat} (hf : fldOK own ix (kp, k)) (hfin : isFin kp k = false) (hd : decode b pc = .ok (.putfield ix, 3)) (hi : M kp i = true) (he : (FL kp)[k]? = some f) (hv : toV ad o = .ref (ad kp i)) (h02 : f.1 = 0 ∨ f.1 = 2) (hval : toV ad v = toV ad (fvv (up2 t f.2 i x) i f)) (hnr : narrow (tyXk kp k) (toV ad v) = toV ad v) (hft : fits (tyXk kp k) (toV ad v) = true) (h : Wat p l e R s m args below meth c Q D X ad A M nL (pc + 3) loc st (up2 t f.2 i x) cl sl) : Wat p l e R s m args below meth c Q D X ad A M nL pc loc (v :: o :: st) t cl sl := by
  intro H locs ls hW hS hl
  obtain ⟨hobj, hlinkin⟩ := id hf
  have hk := (List.getElem?_eq_some_iff.mp he).1
  have hin := obj_lays_lw hobj
  have hc := obj_cl hobj
  have hty := obj_ty hobj
  have hap := va_apart (own := own) hts hin (tyXk kp) hty (obj_nm hobj) hK hc
  have hat := hW.1 kp i hi
  rw [obj_cell hobj] at hat
  obtain ⟨r, h1, cell, q1, q2, q3, q4⟩ := hat
  have hr : r = (RXk kp, TXk kp, (FL kp).length) := Option.some.inj (h1.symm.trans hc)
  subst hr
  obtain ⟨hSl, hfc, kC, hkC, hkind⟩ := hK.1 (kci kp) _ hc
  obtain ⟨cf, kf, fi, fd, hif, hsl⟩ := hSl k hk
  have hlay := hts _ (hin _ (u_in_lay hk))
  have hfinT : (TXk kp k).2.2.2 = false := by
    rcases h02 with z | z
    · exact ((obj_kinds hobj k hk hfin).1 f he z).2
    · exact ((obj_kinds hobj k hk hfin).2 f he z).2
  unfold u_lay at hlay
  rw [if_neg (by rw [hfinT]; decide)] at hlay
  have hst := (u_facts hfc hkC (u_lays hts hin hk) hif).1
  have h6 := u_store hfc hkC hkind hlay hif (hty k hk) hnr hft
  show W p l e R s m args below meth c H locs cl sl Q (F0 m pc ls (toV ad v :: toV ad o :: st.map (toV ad)))
  rw [hv]
  refine W.putK hx hb (f := fd) ⟨hown, hts _ hlinkin, ⟨_, _, _, hif⟩, hst⟩ (by rw [q2]; exact h6) q1 q3 (by rw [hsl]; exact k2_hasslot (q4 k hk)) rfl rfl hd fun H' e1 e2 e3 => ?_
  rw [hsl] at e1 ⊢
  have hrd : rd kp i f.2 i := by
    rcases hobj with rfl | rfl | rfl | rfl | rfl <;> exact ⟨rfl, f, List.mem_of_getElem? he, h02, rfl⟩
  have hlen : k < ((FL kp).map fun q => toV ad (fvv t i q)).length := by rw [List.length_map]; exact hk
  have hcell : va_at D vwCl (ad kp i, cellE X ad M (up2 t f.2 i x) kp i) H' := by
    rw [obj_cell hobj, ← fl_set hobj (x := x) he h02, ← hval]
    exact ⟨_, hc, t_OB.to (V := updV (vp_V _) k (toV ad v)) ⟨_, e1, q2, q3, t_set q4 hap hk _⟩ (fun j _ => vp_updV_set hlen _ j)⟩
  exact h _ _ _ (hW.up hi hrd hcell e3) (hS.put e2 e3 (hW.2.2.1 kp i hi)) hl

theorem vin_cell {cA : ClassId} {n : Nat} {f : Nat → Int32} {x : Int32} (h : vp_in x n) : ¬ (x < 0 ∨ (vp_cell cA (n, .inl f)).slots.size ≤ x.toNatClampNeg) := by
  rw [vp_cell_i, arrV_size]
  exact h
theorem vpin_lt {x : Int32} {n : Nat} (h : vp_in x n) : x.toNatClampNeg < n := Nat.not_le.mp fun q => h (Or.inr q)
theorem go_bald9 (hx : p.tables.exec = Jvm.exec) (hb : c.code = b) (hK : va_K D vwCl (TYX X) s) {x : Int32} {i : Nat} (hd : decode b pc = .ok (.baload, 1)) (hi : M 9 i = true) (hin : vp_in x 1000) (h : Wat p l e R s m args below meth c Q D X ad A M nL (pc + 1) loc (.inl (t 35 (1000 * i + x.toNatClampNeg)) :: st) t cl sl) : Wat p l e R s m args below meth c Q D X ad A M nL pc loc (.inl x :: .inr (.inl (9, i)) :: st) t cl sl := by
  intro H locs ls hW hS hl
  exact va_bald hx hb hK (SW.oneE hW hi (E := .inl (X 9, 1000, .inl (fun j => t 35 (1000 * i + j)))) rfl) 0 4 rfl rfl hin hd (h H locs ls hW hS hl)
theorem go_bald10 (hx : p.tables.exec = Jvm.exec) (hb : c.code = b) (hK : va_K D vwCl (TYX X) s) {x : Int32} {i : Nat} (hd : decode b pc = .ok (.baload, 1)) (hi : M 10 i = true) (hin : vp_in x 1000) (h : Wat p l e R s m args below meth c Q D X ad A M nL (pc + 1) loc (.inl (t 36 (1000 * i + x.toNatClampNeg)) :: st) t cl sl) : Wat p l e R s m args below meth c Q D X ad A M nL pc loc (.inl x :: .inr (.inl (10, i)) :: st) t cl sl := by
  intro H locs ls hW hS hl
  exact va_bald hx hb hK (SW.oneE hW hi (E := .inl (X 9, 1000, .inl (fun j => t 36 (1000 * i + j)))) rfl) 0 4 rfl rfl hin hd (h H locs ls hW hS hl)
theorem store_cell {cA : ClassId} {n : Nat} {f g : Nat → Int32} {j : Nat} {y z : Int32} {a : Nat} {H1 : Heap} (h : H1[a]? = some ((vp_cell cA (n, .inl f)).setSlot j (.int y))) (hg : ∀ q, q < n → g q = if q = j then y else f q) : H1[a]? = some (vp_cell cA (n, .inl g)) := by
  rw [h, vp_cell_i, vp_cell_i, arrV_store]
  refine congrArg some (arrV_congr fun q hq => ?_)
  rw [hg q hq]
  by_cases e : q = j
  · simp [updV, e]
  · simp [updV, e]
theorem go_bast9 (hx : p.tables.exec = Jvm.exec) (hb : c.code = b) (hK : va_K D vwCl (TYX X) s) {x y : Int32} {i : Nat} (hd : decode b pc = .ok (.bastore, 1)) (hi : M 9 i = true) (hin : vp_in x 1000) (h : Wat p l e R s m args below meth c Q D X ad A M nL (pc + 1) loc st (up2 t 35 (1000 * i + x.toNatClampNeg) (vp_nar .byte y)) cl sl) : Wat p l e R s m args below meth c Q D X ad A M nL pc loc (.inl y :: .inl x :: .inr (.inl (9, i)) :: st) t cl sl := by
  intro H locs ls hW hS hl
  have hat : H[ad 9 i]? = some (vp_cell (X 9) (1000, .inl (fun j => t 35 (1000 * i + j)))) := hW.1 9 i hi
  refine W.bast hx hb hat ((hK.2 4 _ rfl).1 1000 (fun j => .int (t 35 (1000 * i + j)))) (fun q => by cases q) (vin_cell hin) rfl rfl hd fun H1 e1 z oq => ?_
  refine h _ _ _ (hW.up hi ⟨rfl, _, vpin_lt hin, rfl⟩ ?_ oq) (hS.put z oq (hW.2.2.1 9 i hi)) hl
  exact store_cell (y := vp_nar .byte y) (z := 0) e1 fun q _ => by simp [up2]
theorem go_bast10 (hx : p.tables.exec = Jvm.exec) (hb : c.code = b) (hK : va_K D vwCl (TYX X) s) {x y : Int32} {i : Nat} (hd : decode b pc = .ok (.bastore, 1)) (hi : M 10 i = true) (hin : vp_in x 1000) (h : Wat p l e R s m args below meth c Q D X ad A M nL (pc + 1) loc st (up2 t 36 (1000 * i + x.toNatClampNeg) (vp_nar .byte y)) cl sl) : Wat p l e R s m args below meth c Q D X ad A M nL pc loc (.inl y :: .inl x :: .inr (.inl (10, i)) :: st) t cl sl := by
  intro H locs ls hW hS hl
  have hat : H[ad 10 i]? = some (vp_cell (X 9) (1000, .inl (fun j => t 36 (1000 * i + j)))) := hW.1 10 i hi
  refine W.bast hx hb hat ((hK.2 4 _ rfl).1 1000 (fun j => .int (t 36 (1000 * i + j)))) (fun q => by cases q) (vin_cell hin) rfl rfl hd fun H1 e1 z oq => ?_
  refine h _ _ _ (hW.up hi ⟨rfl, _, vpin_lt hin, rfl⟩ ?_ oq) (hS.put z oq (hW.2.2.1 10 i hi)) hl
  exact store_cell (y := vp_nar .byte y) (z := 0) e1 fun q _ => by simp [up2]
theorem go_aald (hx : p.tables.exec = Jvm.exec) (hb : c.code = b) (hK : va_K D vwCl (TYX X) s) {x : Int32} {kp i : Nat} (h14 : 1 ≤ kp ∧ kp ≤ 4) (hd : decode b pc = .ok (.aaload, 1)) (hi : M kp i = true) (hin : vp_in x (lenR kp)) (hj : M (kp + 4) x.toNatClampNeg = true) (h : Wat p l e R s m args below meth c Q D X ad A M nL (pc + 1) loc (.inr (.inl (kp + 4, x.toNatClampNeg)) :: st) t cl sl) : Wat p l e R s m args below meth c Q D X ad A M nL pc loc (.inl x :: .inr (.inl (kp, i)) :: st) t cl sl := by
  intro H locs ls hW hS hl
  have h1 := h H locs ls hW hS hl
  have e1 : va_rf (refsOf ad M (kp + 4) x.toNatClampNeg) = .ref (ad (kp + 4) x.toNatClampNeg) := by
    unfold refsOf
    rw [if_pos hj]
    rfl
  rw [List.map_cons, show toV ad (.inr (.inl (kp + 4, x.toNatClampNeg))) = .ref (ad (kp + 4) x.toNatClampNeg) from rfl, ← e1] at h1
  rcases (show kp = 1 ∨ kp = 2 ∨ kp = 3 ∨ kp = 4 by omega) with rfl | rfl | rfl | rfl
  · exact va_aldq hx hb hK (SW.oneE hW hi (E := .inl (X 1, 6, .inr (.inr (.inr (.inr (refsOf ad M 5)))))) rfl) 0 0 rfl rfl hin hd h1
  · exact va_aldq hx hb hK (SW.oneE hW hi (E := .inl (X 2, 12, .inr (.inr (.inr (.inr (refsOf ad M 6)))))) rfl) 0 1 rfl rfl hin hd h1
  · exact va_aldq hx hb hK (SW.oneE hW hi (E := .inl (X 3, 4, .inr (.inr (.inr (.inr (refsOf ad M 7)))))) rfl) 0 2 rfl rfl hin hd h1
  · exact va_aldq hx hb hK (SW.oneE hW hi (E := .inl (X 4, 5, .inr (.inr (.inr (.inr (refsOf ad M 8)))))) rfl) 0 3 rfl rfl hin hd h1
theorem go_alen (hx : p.tables.exec = Jvm.exec) (hb : c.code = b) (hK : va_K D vwCl (TYX X) s) {kp i : Nat} (h9 : kp = 9 ∨ kp = 10) (hd : decode b pc = .ok (.arraylength, 1)) (hi : M kp i = true) (h : Wat p l e R s m args below meth c Q D X ad A M nL (pc + 1) loc (.inl 1000 :: st) t cl sl) : Wat p l e R s m args below meth c Q D X ad A M nL pc loc (.inr (.inl (kp, i)) :: st) t cl sl := by
  intro H locs ls hW hS hl
  rcases h9 with rfl | rfl
  · exact va_alen hx hb hK (SW.oneE hW hi (E := .inl (X 9, 1000, .inl (fun j => t 35 (1000 * i + j)))) rfl) 0 4 rfl rfl rfl hd (h H locs ls hW hS hl)
  · exact va_alen hx hb hK (SW.oneE hW hi (E := .inl (X 9, 1000, .inl (fun j => t 36 (1000 * i + j)))) rfl) 0 4 rfl rfl rfl hd (h H locs ls hW hS hl)
theorem go_iadd (hx : p.tables.exec = Jvm.exec) (hb : c.code = b) {x y : Int32} (hd : decode b pc = .ok (.iadd, 1)) (h : Wat p l e R s m args below meth c Q D X ad A M nL (pc + 1) loc (.inl (x + y) :: st) t cl sl) : Wat p l e R s m args below meth c Q D X ad A M nL pc loc (.inl y :: .inl x :: st) t cl sl := fun H locs ls hW hS hl => lv_iadd hx hb hd (h H locs ls hW hS hl)
theorem go_isub (hx : p.tables.exec = Jvm.exec) (hb : c.code = b) {x y : Int32} (hd : decode b pc = .ok (.isub, 1)) (h : Wat p l e R s m args below meth c Q D X ad A M nL (pc + 1) loc (.inl (x - y) :: st) t cl sl) : Wat p l e R s m args below meth c Q D X ad A M nL pc loc (.inl y :: .inl x :: st) t cl sl := fun H locs ls hW hS hl => lv_isub hx hb hd (h H locs ls hW hS hl)
theorem go_imul (hx : p.tables.exec = Jvm.exec) (hb : c.code = b) {x y : Int32} (hd : decode b pc = .ok (.imul, 1)) (h : Wat p l e R s m args below meth c Q D X ad A M nL (pc + 1) loc (.inl (x * y) :: st) t cl sl) : Wat p l e R s m args below meth c Q D X ad A M nL pc loc (.inl y :: .inl x :: st) t cl sl := fun H locs ls hW hS hl => lv_imul hx hb hd (h H locs ls hW hS hl)
theorem go_iand (hx : p.tables.exec = Jvm.exec) (hb : c.code = b) {x y : Int32} (hd : decode b pc = .ok (.iand, 1)) (h : Wat p l e R s m args below meth c Q D X ad A M nL (pc + 1) loc (.inl (x &&& y) :: st) t cl sl) : Wat p l e R s m args below meth c Q D X ad A M nL pc loc (.inl y :: .inl x :: st) t cl sl := fun H locs ls hW hS hl => lv_iand hx hb hd (h H locs ls hW hS hl)
theorem go_ior (hx : p.tables.exec = Jvm.exec) (hb : c.code = b) {x y : Int32} (hd : decode b pc = .ok (.ior, 1)) (h : Wat p l e R s m args below meth c Q D X ad A M nL (pc + 1) loc (.inl (x ||| y) :: st) t cl sl) : Wat p l e R s m args below meth c Q D X ad A M nL pc loc (.inl y :: .inl x :: st) t cl sl := fun H locs ls hW hS hl => lv_ior hx hb hd (h H locs ls hW hS hl)
theorem go_ixor (hx : p.tables.exec = Jvm.exec) (hb : c.code = b) {x y : Int32} (hd : decode b pc = .ok (.ixor, 1)) (h : Wat p l e R s m args below meth c Q D X ad A M nL (pc + 1) loc (.inl (x ^^^ y) :: st) t cl sl) : Wat p l e R s m args below meth c Q D X ad A M nL pc loc (.inl y :: .inl x :: st) t cl sl := fun H locs ls hW hS hl => lv_ixor hx hb hd (h H locs ls hW hS hl)
theorem go_ishr (hx : p.tables.exec = Jvm.exec) (hb : c.code = b) {x y : Int32} (hd : decode b pc = .ok (.ishr, 1)) (h : Wat p l e R s m args below meth c Q D X ad A M nL (pc + 1) loc (.inl (x >>> (y &&& 31)) :: st) t cl sl) : Wat p l e R s m args below meth c Q D X ad A M nL pc loc (.inl y :: .inl x :: st) t cl sl := fun H locs ls hW hS hl => lv_ishr hx hb hd (h H locs ls hW hS hl)
theorem go_idiv (hx : p.tables.exec = Jvm.exec) (hb : c.code = b) {x y : Int32} (hd : decode b pc = .ok (.idiv, 1)) (hy : ¬ y = 0) (h : Wat p l e R s m args below meth c Q D X ad A M nL (pc + 1) loc (.inl (x / y) :: st) t cl sl) : Wat p l e R s m args below meth c Q D X ad A M nL pc loc (.inl y :: .inl x :: st) t cl sl := fun H locs ls hW hS hl => lv_idiv hx hb hd hy (h H locs ls hW hS hl)
theorem go_irem (hx : p.tables.exec = Jvm.exec) (hb : c.code = b) {x y : Int32} (hd : decode b pc = .ok (.irem, 1)) (hy : ¬ y = 0) (h : Wat p l e R s m args below meth c Q D X ad A M nL (pc + 1) loc (.inl (x - x / y * y) :: st) t cl sl) : Wat p l e R s m args below meth c Q D X ad A M nL pc loc (.inl y :: .inl x :: st) t cl sl := fun H locs ls hW hS hl => lv_irem hx hb hd hy (h H locs ls hW hS hl)
theorem go_i2b (hx : p.tables.exec = Jvm.exec) (hb : c.code = b) {x : Int32} (hd : decode b pc = .ok (.i2b, 1)) (h : Wat p l e R s m args below meth c Q D X ad A M nL (pc + 1) loc (.inl x.toInt8.toInt32 :: st) t cl sl) : Wat p l e R s m args below meth c Q D X ad A M nL pc loc (.inl x :: st) t cl sl := fun H locs ls hW hS hl => lv_i2b hx hb hd rfl (h H locs ls hW hS hl)
theorem go_dup (hx : p.tables.exec = Jvm.exec) (hb : c.code = b) {v : VV} (hd : decode b pc = .ok (.dup, 1)) (h : Wat p l e R s m args below meth c Q D X ad A M nL (pc + 1) loc (v :: v :: st) t cl sl) : Wat p l e R s m args below meth c Q D X ad A M nL pc loc (v :: st) t cl sl := fun H locs ls hW hS hl => lv_dup hx hb hd (toV_cat ad v) (h H locs ls hW hS hl)
theorem go_pop (hx : p.tables.exec = Jvm.exec) (hb : c.code = b) {v : VV} (hd : decode b pc = .ok (.pop, 1)) (h : Wat p l e R s m args below meth c Q D X ad A M nL (pc + 1) loc st t cl sl) : Wat p l e R s m args below meth c Q D X ad A M nL pc loc (v :: st) t cl sl := fun H locs ls hW hS hl => lv_pop hx hb hd (toV_cat ad v) (h H locs ls hW hS hl)
theorem go_dup2 (hx : p.tables.exec = Jvm.exec) (hb : c.code = b) {v w : VV} (hd : decode b pc = .ok (.dup2, 1)) (h : Wat p l e R s m args below meth c Q D X ad A M nL (pc + 1) loc (v :: w :: v :: w :: st) t cl sl) : Wat p l e R s m args below meth c Q D X ad A M nL pc loc (v :: w :: st) t cl sl := fun H locs ls hW hS hl => lv_dup2_11 hx hb hd (toV_cat ad v) (toV_cat ad w) (h H locs ls hW hS hl)
theorem go_iconst (hx : p.tables.exec = Jvm.exec) (hb : c.code = b) {n : Int} {v : Int32} (hd : decode b pc = .ok (.iconst n, 1)) (hv : Int32.ofInt n = v) (h : Wat p l e R s m args below meth c Q D X ad A M nL (pc + 1) loc (.inl v :: st) t cl sl) : Wat p l e R s m args below meth c Q D X ad A M nL pc loc st t cl sl := fun H locs ls hW hS hl => lv_iconst hx hb hd hv (h H locs ls hW hS hl)
theorem go_bipush (hx : p.tables.exec = Jvm.exec) (hb : c.code = b) {n : Int} {v : Int32} (hd : decode b pc = .ok (.bipush n, 2)) (hv : (Int8.ofInt n).toInt32 = v) (h : Wat p l e R s m args below meth c Q D X ad A M nL (pc + 2) loc (.inl v :: st) t cl sl) : Wat p l e R s m args below meth c Q D X ad A M nL pc loc st t cl sl := fun H locs ls hW hS hl => lv_bipush hx hb hd hv (h H locs ls hW hS hl)
theorem go_sipush (hx : p.tables.exec = Jvm.exec) (hb : c.code = b) {n : Int} {v : Int32} (hd : decode b pc = .ok (.sipush n, 3)) (hv : (Int16.ofInt n).toInt32 = v) (h : Wat p l e R s m args below meth c Q D X ad A M nL (pc + 3) loc (.inl v :: st) t cl sl) : Wat p l e R s m args below meth c Q D X ad A M nL pc loc st t cl sl := fun H locs ls hW hS hl => lv_sipush hx hb hd hv (h H locs ls hW hS hl)
theorem go_icmp_eq (hx : p.tables.exec = Jvm.exec) (hb : c.code = b) {x y : Int32} {off : Int} {tgt : Nat} (hd : decode b pc = .ok (.if_icmp .eq off, 3)) (ht : (pc : Int) + off = (tgt : Int)) (kt : x = y → Wat p l e R s m args below meth c Q D X ad A M nL tgt loc st t cl sl) (kf : ¬ (x = y) → Wat p l e R s m args below meth c Q D X ad A M nL (pc + 3) loc st t cl sl) : Wat p l e R s m args below meth c Q D X ad A M nL pc loc (.inl y :: .inl x :: st) t cl sl := fun H locs ls hW hS hl => lv_icmp_eq hx hb hd ht (fun z => kt z H locs ls hW hS hl) (fun z => kf z H locs ls hW hS hl)
theorem go_icmp_ne (hx : p.tables.exec = Jvm.exec) (hb : c.code = b) {x y : Int32} {off : Int} {tgt : Nat} (hd : decode b pc = .ok (.if_icmp .ne off, 3)) (ht : (pc : Int) + off = (tgt : Int)) (kt : ¬ x = y → Wat p l e R s m args below meth c Q D X ad A M nL tgt loc st t cl sl) (kf : x = y → Wat p l e R s m args below meth c Q D X ad A M nL (pc + 3) loc st t cl sl) : Wat p l e R s m args below meth c Q D X ad A M nL pc loc (.inl y :: .inl x :: st) t cl sl := fun H locs ls hW hS hl => lv_icmp_ne hx hb hd ht (fun z => kt z H locs ls hW hS hl) (fun z => kf z H locs ls hW hS hl)
theorem go_icmp_lt (hx : p.tables.exec = Jvm.exec) (hb : c.code = b) {x y : Int32} {off : Int} {tgt : Nat} (hd : decode b pc = .ok (.if_icmp .lt off, 3)) (ht : (pc : Int) + off = (tgt : Int)) (kt : x < y → Wat p l e R s m args below meth c Q D X ad A M nL tgt loc st t cl sl) (kf : ¬ (x < y) → Wat p l e R s m args below meth c Q D X ad A M nL (pc + 3) loc st t cl sl) : Wat p l e R s m args below meth c Q D X ad A M nL pc loc (.inl y :: .inl x :: st) t cl sl := fun H locs ls hW hS hl => lv_icmp_lt hx hb hd ht (fun z => kt z H locs ls hW hS hl) (fun z => kf z H locs ls hW hS hl)
theorem go_icmp_ge (hx : p.tables.exec = Jvm.exec) (hb : c.code = b) {x y : Int32} {off : Int} {tgt : Nat} (hd : decode b pc = .ok (.if_icmp .ge off, 3)) (ht : (pc : Int) + off = (tgt : Int)) (kt : y ≤ x → Wat p l e R s m args below meth c Q D X ad A M nL tgt loc st t cl sl) (kf : ¬ (y ≤ x) → Wat p l e R s m args below meth c Q D X ad A M nL (pc + 3) loc st t cl sl) : Wat p l e R s m args below meth c Q D X ad A M nL pc loc (.inl y :: .inl x :: st) t cl sl := fun H locs ls hW hS hl => lv_icmp_ge hx hb hd ht (fun z => kt z H locs ls hW hS hl) (fun z => kf z H locs ls hW hS hl)
theorem go_icmp_gt (hx : p.tables.exec = Jvm.exec) (hb : c.code = b) {x y : Int32} {off : Int} {tgt : Nat} (hd : decode b pc = .ok (.if_icmp .gt off, 3)) (ht : (pc : Int) + off = (tgt : Int)) (kt : y < x → Wat p l e R s m args below meth c Q D X ad A M nL tgt loc st t cl sl) (kf : ¬ (y < x) → Wat p l e R s m args below meth c Q D X ad A M nL (pc + 3) loc st t cl sl) : Wat p l e R s m args below meth c Q D X ad A M nL pc loc (.inl y :: .inl x :: st) t cl sl := fun H locs ls hW hS hl => lv_icmp_gt hx hb hd ht (fun z => kt z H locs ls hW hS hl) (fun z => kf z H locs ls hW hS hl)
theorem go_icmp_le (hx : p.tables.exec = Jvm.exec) (hb : c.code = b) {x y : Int32} {off : Int} {tgt : Nat} (hd : decode b pc = .ok (.if_icmp .le off, 3)) (ht : (pc : Int) + off = (tgt : Int)) (kt : x ≤ y → Wat p l e R s m args below meth c Q D X ad A M nL tgt loc st t cl sl) (kf : ¬ (x ≤ y) → Wat p l e R s m args below meth c Q D X ad A M nL (pc + 3) loc st t cl sl) : Wat p l e R s m args below meth c Q D X ad A M nL pc loc (.inl y :: .inl x :: st) t cl sl := fun H locs ls hW hS hl => lv_icmp_le hx hb hd ht (fun z => kt z H locs ls hW hS hl) (fun z => kf z H locs ls hW hS hl)
theorem go_if_eq (hx : p.tables.exec = Jvm.exec) (hb : c.code = b) {x : Int32} {off : Int} {tgt : Nat} (hd : decode b pc = .ok (.ifCond .eq off, 3)) (ht : (pc : Int) + off = (tgt : Int)) (kt : x = 0 → Wat p l e R s m args below meth c Q D X ad A M nL tgt loc st t cl sl) (kf : ¬ (x = 0) → Wat p l e R s m args below meth c Q D X ad A M nL (pc + 3) loc st t cl sl) : Wat p l e R s m args below meth c Q D X ad A M nL pc loc (.inl x :: st) t cl sl := fun H locs ls hW hS hl => lv_if_eq hx hb hd ht (fun z => kt z H locs ls hW hS hl) (fun z => kf z H locs ls hW hS hl)
theorem go_if_ne (hx : p.tables.exec = Jvm.exec) (hb : c.code = b) {x : Int32} {off : Int} {tgt : Nat} (hd : decode b pc = .ok (.ifCond .ne off, 3)) (ht : (pc : Int) + off = (tgt : Int)) (kt : ¬ x = 0 → Wat p l e R s m args below meth c Q D X ad A M nL tgt loc st t cl sl) (kf : x = 0 → Wat p l e R s m args below meth c Q D X ad A M nL (pc + 3) loc st t cl sl) : Wat p l e R s m args below meth c Q D X ad A M nL pc loc (.inl x :: st) t cl sl := fun H locs ls hW hS hl => lv_if_ne hx hb hd ht (fun z => kt z H locs ls hW hS hl) (fun z => kf z H locs ls hW hS hl)
theorem go_if_lt (hx : p.tables.exec = Jvm.exec) (hb : c.code = b) {x : Int32} {off : Int} {tgt : Nat} (hd : decode b pc = .ok (.ifCond .lt off, 3)) (ht : (pc : Int) + off = (tgt : Int)) (kt : x < 0 → Wat p l e R s m args below meth c Q D X ad A M nL tgt loc st t cl sl) (kf : ¬ (x < 0) → Wat p l e R s m args below meth c Q D X ad A M nL (pc + 3) loc st t cl sl) : Wat p l e R s m args below meth c Q D X ad A M nL pc loc (.inl x :: st) t cl sl := fun H locs ls hW hS hl => lv_if_lt hx hb hd ht (fun z => kt z H locs ls hW hS hl) (fun z => kf z H locs ls hW hS hl)
theorem go_if_ge (hx : p.tables.exec = Jvm.exec) (hb : c.code = b) {x : Int32} {off : Int} {tgt : Nat} (hd : decode b pc = .ok (.ifCond .ge off, 3)) (ht : (pc : Int) + off = (tgt : Int)) (kt : 0 ≤ x → Wat p l e R s m args below meth c Q D X ad A M nL tgt loc st t cl sl) (kf : ¬ (0 ≤ x) → Wat p l e R s m args below meth c Q D X ad A M nL (pc + 3) loc st t cl sl) : Wat p l e R s m args below meth c Q D X ad A M nL pc loc (.inl x :: st) t cl sl := fun H locs ls hW hS hl => lv_if_ge hx hb hd ht (fun z => kt z H locs ls hW hS hl) (fun z => kf z H locs ls hW hS hl)
theorem go_if_gt (hx : p.tables.exec = Jvm.exec) (hb : c.code = b) {x : Int32} {off : Int} {tgt : Nat} (hd : decode b pc = .ok (.ifCond .gt off, 3)) (ht : (pc : Int) + off = (tgt : Int)) (kt : 0 < x → Wat p l e R s m args below meth c Q D X ad A M nL tgt loc st t cl sl) (kf : ¬ (0 < x) → Wat p l e R s m args below meth c Q D X ad A M nL (pc + 3) loc st t cl sl) : Wat p l e R s m args below meth c Q D X ad A M nL pc loc (.inl x :: st) t cl sl := fun H locs ls hW hS hl => lv_if_gt hx hb hd ht (fun z => kt z H locs ls hW hS hl) (fun z => kf z H locs ls hW hS hl)
theorem go_if_le (hx : p.tables.exec = Jvm.exec) (hb : c.code = b) {x : Int32} {off : Int} {tgt : Nat} (hd : decode b pc = .ok (.ifCond .le off, 3)) (ht : (pc : Int) + off = (tgt : Int)) (kt : x ≤ 0 → Wat p l e R s m args below meth c Q D X ad A M nL tgt loc st t cl sl) (kf : ¬ (x ≤ 0) → Wat p l e R s m args below meth c Q D X ad A M nL (pc + 3) loc st t cl sl) : Wat p l e R s m args below meth c Q D X ad A M nL pc loc (.inl x :: st) t cl sl := fun H locs ls hW hS hl => lv_if_le hx hb hd ht (fun z => kt z H locs ls hW hS hl) (fun z => kf z H locs ls hW hS hl)
theorem go_goto (hx : p.tables.exec = Jvm.exec) (hb : c.code = b) {off : Int} {tgt : Nat} (hd : decode b pc = .ok (.goto off, 3)) (ht : (pc : Int) + off = (tgt : Int)) (h : Wat p l e R s m args below meth c Q D X ad A M nL tgt loc st t cl sl) : Wat p l e R s m args below meth c Q D X ad A M nL pc loc st t cl sl := fun H locs ls hW hS hl => lv_goto hx hb hd ht (h H locs ls hW hS hl)
theorem go_null (hx : p.tables.exec = Jvm.exec) (hb : c.code = b) {k : Nat} (hd : decode b pc = .ok (.aconst_null, 1)) (h : Wat p l e R s m args below meth c Q D X ad A M nL (pc + 1) loc (.inr (.inr (k, -1)) :: st) t cl sl) : Wat p l e R s m args below meth c Q D X ad A M nL pc loc st t cl sl := fun H locs ls hW hS hl => by
  have h1 := h H locs ls hW hS hl
  rw [List.map_cons, show toV ad (.inr (.inr (k, -1))) = .null from toQ_m1 ad k] at h1
  exact lv_null hx hb hd h1
theorem go_ifnull (hx : p.tables.exec = Jvm.exec) (hb : c.code = b) {q : Nat × Int32} {off : Int} {tgt : Nat} (hd : decode b pc = .ok (.ifnull off, 3)) (ht : (pc : Int) + off = (tgt : Int)) (kt : q.2 = -1 → Wat p l e R s m args below meth c Q D X ad A M nL tgt loc st t cl sl) (kf : ¬ q.2 = -1 → Wat p l e R s m args below meth c Q D X ad A M nL (pc + 3) loc st t cl sl) : Wat p l e R s m args below meth c Q D X ad A M nL pc loc (.inr (.inr q) :: st) t cl sl := fun H locs ls hW hS hl => by
  show W p l e R s m args below meth c H locs cl sl Q (F0 m pc ls (toQ ad q.1 q.2 :: st.map (toV ad)))
  unfold toQ
  by_cases hq : q.2 = -1
  · rw [if_pos hq]; exact lv_ifnullN hx hb hd ht (kt hq H locs ls hW hS hl)
  · rw [if_neg hq]; exact lv_ifnull hx hb hd (kf hq H locs ls hW hS hl)
theorem go_ifnonnull (hx : p.tables.exec = Jvm.exec) (hb : c.code = b) {q : Nat × Int32} {off : Int} {tgt : Nat} (hd : decode b pc = .ok (.ifnonnull off, 3)) (ht : (pc : Int) + off = (tgt : Int)) (kt : q.2 = -1 → Wat p l e R s m args below meth c Q D X ad A M nL (pc + 3) loc st t cl sl) (kf : ¬ q.2 = -1 → Wat p l e R s m args below meth c Q D X ad A M nL tgt loc st t cl sl) : Wat p l e R s m args below meth c Q D X ad A M nL pc loc (.inr (.inr q) :: st) t cl sl := fun H locs ls hW hS hl => by
  show W p l e R s m args below meth c H locs cl sl Q (F0 m pc ls (toQ ad q.1 q.2 :: st.map (toV ad)))
  unfold toQ
  by_cases hq : q.2 = -1
  · rw [if_pos hq]; exact lv_ifnonnullN hx hb hd (kt hq H locs ls hW hS hl)
  · rw [if_neg hq]; exact lv_ifnonnull hx hb hd ht (kf hq H locs ls hW hS hl)
theorem go_ifnullO (hx : p.tables.exec = Jvm.exec) (hb : c.code = b) {q : Nat × Nat} {off : Int} (hd : decode b pc = .ok (.ifnull off, 3)) (kf : Wat p l e R s m args below meth c Q D X ad A M nL (pc + 3) loc st t cl sl) : Wat p l e R s m args below meth c Q D X ad A M nL pc loc (.inr (.inl q) :: st) t cl sl := fun H locs ls hW hS hl => lv_ifnull hx hb hd (kf H locs ls hW hS hl)
theorem go_ifnonnullO (hx : p.tables.exec = Jvm.exec) (hb : c.code = b) {q : Nat × Nat} {off : Int} {tgt : Nat} (hd : decode b pc = .ok (.ifnonnull off, 3)) (ht : (pc : Int) + off = (tgt : Int)) (kf : Wat p l e R s m args below meth c Q D X ad A M nL tgt loc st t cl sl) : Wat p l e R s m args below meth c Q D X ad A M nL pc loc (.inr (.inl q) :: st) t cl sl := fun H locs ls hW hS hl => lv_ifnonnull hx hb hd ht (kf H locs ls hW hS hl)
theorem nI_of_range {x : Int32} {n : Nat} (h1 : ¬ x.toInt < 0) (h2 : ¬ (n : Int) ≤ x.toInt) : x = nI x.toInt.toNat ∧ x.toInt.toNat < n := by
  have hb := x.toInt_lt
  refine ⟨Int32.toInt_inj.mp ?_, by omega⟩
  rw [nI_toInt (by omega)]
  omega
theorem swP_spec {go : Nat → Prop} {d : Nat} {x : Int32} : ∀ (ts : List Nat) (k : Nat), k + ts.length < 2 ^ 31 → swP go d x k ts → (∀ (j q : Nat), ts[j]? = some q → x = nI (k + j) → go q) ∧ ((∀ j : Nat, j < ts.length → ¬ x = nI (k + j)) → go d)
  | [], k, _, h => ⟨fun j q hj => by simp at hj, fun _ => h⟩
  | q0 :: r, k, hk, h => by
    have hk' : k + 1 + r.length < 2 ^ 31 := by simp only [List.length_cons] at hk; omega
    unfold swP at h
    by_cases hx : x = nI k
    · rw [if_pos hx] at h
      refine ⟨fun j q hj hxj => ?_, fun z => absurd hx (z 0 (by simp))⟩
      have : k = k + j := (nI_eq (by omega) (by simp only [List.length_cons] at hk; have := (List.getElem?_eq_some_iff.mp hj).1; simp only [List.length_cons] at this; omega)).mp (hx.symm.trans hxj)
      have hj0 : j = 0 := by omega
      subst hj0
      cases hj
      exact h
    · rw [if_neg hx] at h
      obtain ⟨h1, h2⟩ := swP_spec r (k + 1) hk' h
      refine ⟨fun j q hj hxj => ?_, fun z => h2 fun j hj => ?_⟩
      · cases j with
        | zero => exact absurd hxj hx
        | succ j => exact h1 j q hj (by rw [hxj]; congr 1; omega)
      · have h3 := z (j + 1) (by simp only [List.length_cons]; omega)
        rw [show k + 1 + j = k + (j + 1) by omega]
        exact h3
theorem go_switch (hx : p.tables.exec = Jvm.exec) (hb : c.code = b) {x : Int32} {d lo hi : Int} {offs : Array Int} {len tgt : Nat} {ts : List Nat} (hd : decode b pc = .ok (.tableswitch d lo hi offs, len)) (h0 : lo = 0) (h1 : hi + 1 = (ts.length : Int)) (ht : (pc : Int) + d = (tgt : Int)) (hts9 : ∀ (j q : Nat), ts[j]? = some q → ∃ o, offs[j]? = some o ∧ (pc : Int) + o = (q : Int)) (hl9 : ts.length < 1000) (h : swP (fun q => Wat p l e R s m args below meth c Q D X ad A M nL q loc st t cl sl) tgt x 0 ts) : Wat p l e R s m args below meth c Q D X ad A M nL pc loc (.inl x :: st) t cl sl := fun H locs ls hW hS hl => by
  obtain ⟨k1, k2⟩ := swP_spec ts 0 (by omega) h
  subst h0
  by_cases hr : x.toInt < 0 ∨ hi < x.toInt
  · refine lv_tableOut hx hb hd hr ht (k2 (fun j hj z => ?_) H locs ls hW hS hl)
    have hz : x.toInt = (j : Int) := by rw [z, Nat.zero_add, nI_toInt (by omega)]
    omega
  · obtain ⟨e1, e2⟩ := nI_of_range (x := x) (n := ts.length) (by omega) (by omega)
    obtain ⟨q, hq⟩ : ∃ q, ts[x.toInt.toNat]? = some q := ⟨_, List.getElem?_eq_getElem e2⟩
    obtain ⟨o, ho, hoq⟩ := hts9 _ _ hq
    exact lv_tableIn hx hb hd (by omega) (by omega) (by rw [Int.sub_zero]; exact ho) hoq (k1 _ _ hq (by rw [Nat.zero_add]; exact e1) H locs ls hW hS hl)
end SND
end
section
/-! calls, ends, one step, a whole body -/
def Q9 (D : va_G) (X : Nat → ClassId) (ad : Nat → Nat → Nat) (A : Nat → Prop) (M : Nat → Nat → Bool) (post : Option VV → TT → Prop) : Array Value → State → Outcome → State → Prop := fun _ st oc u => (∃ (v : Option VV) (t : TT), oc = .returned (v.map (toV ad)) ∧ post v t ∧ SW D X ad A M t u.heap) ∧ va_F A st u
def X9 (D : va_G) (X : Nat → ClassId) (ad : Nat → Nat → Nat) (A : Nat → Prop) (M : Nat → Nat → Bool) (px : String → TT → Prop) : String → State → State → Prop := fun E st u => (∃ t : TT, px E t ∧ SW D X ad A M t u.heap) ∧ va_F A st u
def CallOK (p : Program) (l : Launch) (e : Env) (R : Room) (s : State) (m : MethodId) (args : Array Value) (below : List Frame) (meth : Method) (c : Code) (Q : State → Prop) (D : va_G) (X : Nat → ClassId) (ad : Nat → Nat → Nat) (A : Nat → Prop) (M : Nat → Nat → Bool) (nL : Nat) (b : ByteArray) (mc ms : Nat) (ins : Instr) (mc1 ms1 : Nat) (as : List VV) (t : TT) (k : Option VV → TT → Prop) (kx : String → TT → Prop) : Prop :=
  ∀ (H : Heap) (locs : List Loc) (ls : Array Slot) (pc : Nat) (rest : List VV) (cl sl : Nat), SW D X ad A M t H → va_S A s.heap H locs → ls.size = nL → rest.length ≤ 8 → cl + mc1 ≤ mc → sl + ms1 ≤ ms → decode b pc = .ok (ins, 3) →
    (∀ (v : Option VV) (t1 : TT) (H1 : Heap) (locs1 : List Loc), k v t1 → SW D X ad A M t1 H1 → va_S A s.heap H1 locs1 → W p l e R s m args below meth c H1 locs1 (cl + mc1) (sl + ms1) Q (F0 m (pc + 3) ls ((v.toList ++ rest).map (toV ad)))) →
    (∀ (E : String) (ce : Cell) (q : Addr) (t1 : TT) (H1 : Heap) (locs1 : List Loc), kx E t1 → SW D X ad A M t1 H1 → va_S A s.heap H1 locs1 → H1[q]? = some ce → ce.vm = .none → s.vm.findClass E = some ce.cls → vx_W p l e R s m args below meth c H1 locs1 (cl + mc1) (sl + ms1) Q (F0 m pc ls (rest.map (toV ad))) q) →
    W p l e R s m args below meth c H locs cl sl Q (F0 m pc ls ((as.reverse ++ rest).map (toV ad)))
theorem cat_sum (ad : Nat → Nat → Nat) : ∀ st : List VV, ((st.map (toV ad)).map fun v => v.category).sum = st.length
  | [] => rfl
  | v :: r => by
    rw [List.map_cons, List.map_cons, List.sum_cons, cat_sum ad r, toV_cat, List.length_cons]
    omega
theorem coer_val {ad : Nat → Nat → Nat} {kd kp : Nat} {v : VV} {f : VV → Prop} (h : coer kd kp v f) : ∃ w, f w ∧ toV ad w = toV ad v := by
  unfold coer at h
  split at h
  · exact ⟨_, h, rfl⟩
  · next r =>
    cases hq : r.1 == kp with
    | false => rw [hq] at h; exact h.elim
    | true =>
      rw [hq] at h
      have e : r.1 = kp := by simpa using hq
      refine ⟨_, h, ?_⟩
      rw [← e]
  · next r =>
    cases hq : r.1 == kp with
    | false => rw [hq] at h; exact h.elim
    | true =>
      rw [hq] at h
      have e : r.1 = kp := by simpa using hq
      refine ⟨_, h.2, ?_⟩
      have h3 := h.1
      show toQ ad kp (nI r.2) = .ref (ad r.1 r.2)
      unfold toQ
      rw [if_neg (by intro z; have := nI_toInt (n := r.2) (by omega); rw [z] at this; have e1 : (-1 : Int32).toInt = -1 := by decide +kernel
                     omega), nI_clamp (by omega), e]
  · next r =>
    cases hq : r.1 == kp with
    | false => rw [hq] at h; exact h.elim
    | true =>
      rw [hq] at h
      have e : r.1 = kp := by simpa using hq
      refine ⟨_, h, ?_⟩
      show toQ ad kp r.2 = toQ ad r.1 r.2
      rw [e]
  · next k r =>
    cases hq : (r.1 == kp && r.2 == k) with
    | false => rw [hq] at h; exact h.elim
    | true =>
      rw [hq] at h
      simp only [Bool.and_eq_true, beq_iff_eq] at hq
      refine ⟨_, h, ?_⟩
      rw [← hq.1, ← hq.2]
  · exact h.elim
theorem getAll_val {ad : Nat → Nat → Nat} {loc : Loc9} : ∀ {sp : List (Nat × Nat × Nat)} {f : List VV → Prop}, getAll loc sp f → ∃ vs, f vs ∧ ∀ q ∈ locV ad (List.zip (sp.map (·.1)) vs), q ∈ locV ad loc
  | [], f, h => ⟨[], h, fun q hq => by simp [locV] at hq⟩
  | q :: r, f, h => by
    unfold getAll at h
    split at h
    · next v hv =>
      obtain ⟨w, hw, ew⟩ := coer_val (ad := ad) h
      obtain ⟨ws, h1, h2⟩ := getAll_val hw
      refine ⟨w :: ws, h1, fun x hx => ?_⟩
      rcases List.mem_cons.mp hx with z | z
      · rw [z]
        show (q.1, toV ad w) ∈ _
        rw [ew]
        exact lk_mem hv
      · exact h2 x z
    · exact h.elim
theorem stkAll_val {ad : Nat → Nat → Nat} : ∀ {st : List VV} {sp : List (Nat × Nat)} {f : List VV → Prop}, stkAll st sp f → ∃ ws, f ws ∧ ws.map (toV ad) = st.map (toV ad)
  | [], [], f, h => ⟨[], h, rfl⟩
  | v :: r, q :: sp, f, h => by
    unfold stkAll at h
    obtain ⟨w, hw, ew⟩ := coer_val (ad := ad) h
    obtain ⟨ws, h1, h2⟩ := stkAll_val hw
    exact ⟨w :: ws, h1, by rw [List.map_cons, List.map_cons, ew, h2]⟩
  | [], _ :: _, _, h => h.elim
  | _ :: _, [], _, h => h.elim
theorem drf_val {ad : Nat → Nat → Nat} {v : VV} {f : Nat → Nat → Prop} (h : drf v f) : ∃ kp i, f kp i ∧ toV ad v = .ref (ad kp i) := by
  unfold drf at h
  split at h
  · exact h.elim
  · exact ⟨_, _, h, rfl⟩
  · next r => exact ⟨_, _, h.2, if_neg h.1⟩
theorem nar_isB {x : Int32} (h : isB x) : narrow .boolean (.int x) = .int x := by
  rcases h with rfl | rfl <;> rfl

theorem blt_lt {a b : Nat} (h : Nat.blt a b = true) : a < b := Nat.le_of_ble_eq_true h
theorem swP_mono {g1 g2 : Nat → Prop} {d : Nat} {x : Int32} (hg : ∀ q, g1 q → g2 q) : ∀ {k : Nat} {ts : List Nat}, swP g1 d x k ts → swP g2 d x k ts
  | _, [], h => hg _ h
  | k, q :: r, h => by
    unfold swP at h ⊢
    split at h
    · next z => rw [if_pos z]; exact hg _ h
    · next z => rw [if_neg z]; exact swP_mono hg h
theorem gfP_spec {M : Nat → Nat → Bool} {o : Option (Nat × Nat)} {t : TT} {kp i : Nat} {k : VV → Prop} (h : gfP M o t kp i k) : ∃ (f : Nat) (e : Nat × Nat), o = some (kp, f) ∧ kp = kp ∧ M kp i = true ∧ (FL kp)[f]? = some e ∧ k (fvv t i e) := by
  unfold gfP at h
  split at h
  · exact h.elim
  · next f =>
    cases hq : f.1 == kp with
    | false => rw [hq] at h; exact h.elim
    | true =>
      rw [hq] at h
      have e1 : f.1 = kp := by simpa using hq
      obtain ⟨a, b9⟩ := f
      dsimp only at e1 h
      subst e1
      obtain ⟨h1, h2⟩ := h
      split at h2
      · next e he => exact ⟨b9, e, rfl, rfl, h1, he, h2⟩
      · exact h2.elim
theorem pfP_spec {M : Nat → Nat → Bool} {ad : Nat → Nat → Nat} {fld : Nat → Option (Nat × Nat)} {ix : Nat} (hobj : ∀ ix f, fld ix = some f → isObj f.1) {kp i : Nat} {v : VV} {k : Nat → Int32 → Prop} (h : pfP M (fld ix) kp i v k) : ∃ (f : Nat) (e : Nat × Nat) (x : Int32), fld ix = some (kp, f) ∧ kp = kp ∧ isFin kp f = false ∧ M kp i = true ∧ (FL kp)[f]? = some e ∧ (e.1 = 0 ∨ e.1 = 2) ∧ (∀ t : TT, toV ad v = toV ad (fvv (up2 t e.2 i x) i e)) ∧ narrow (tyXk kp f) (toV ad v) = toV ad v ∧ fits (tyXk kp f) (toV ad v) = true ∧ k e.2 x := by
  cases hfx : fld ix with
  | none => rw [hfx] at h; exact h.elim
  | some f =>
    have ho := hobj ix f hfx
    rw [hfx] at h
    unfold pfP at h
    dsimp only at h
    cases hq : (f.1 == kp && !isFin f.1 f.2) with
    | false => rw [hq] at h; exact h.elim
    | true =>
      rw [hq] at h
      simp only [Bool.and_eq_true, beq_iff_eq, Bool.not_eq_true'] at hq
      obtain ⟨e1, hfin⟩ := hq
      obtain ⟨a, b9⟩ := f
      dsimp only at e1 h hfin ho
      subst e1
      obtain ⟨h1, h2⟩ := h
      split at h2
      · exact h2.elim
      · next e he =>
        have hk := (List.getElem?_eq_some_iff.mp he).1
        have hkk := obj_kinds ho b9 hk hfin
        obtain ⟨e0, e2⟩ := e
        dsimp only at h2
        split at h2
        · next x =>
          have h3 := (hkk.1 _ he rfl).1
          cases hB : isBf a b9 with
          | false =>
            rw [hB] at h2 h3
            refine ⟨b9, _, x, rfl, rfl, hfin, h1, he, Or.inl rfl, fun t => ?_, ?_, ?_, h2⟩
            · simp only [fvv, up2_same]
            · rw [h3]; rfl
            · rw [h3]; rfl
          | true =>
            rw [hB] at h2 h3
            refine ⟨b9, _, x, rfl, rfl, hfin, h1, he, Or.inl rfl, fun t => ?_, ?_, ?_, h2.2⟩
            · simp only [fvv, up2_same]
            · rw [h3]; exact nar_isB h2.1
            · rw [h3]
              rcases h2.1 with z | z <;> rw [z] <;> rfl
        · next q =>
          have h3 := (hkk.2 _ he rfl).1
          cases hq : q.1 == 5 with
          | false => rw [hq] at h2; exact h2.elim
          | true =>
            rw [hq] at h2
            have e5 : q.1 = 5 := by simpa using hq
            refine ⟨b9, _, nI q.2, rfl, rfl, hfin, h1, he, Or.inr rfl, fun t => ?_, ?_, ?_, h2.2⟩
            · obtain ⟨w, hw, ew⟩ := coer_val (ad := ad) (kd := 2) (kp := 5) (v := .inr (.inl q)) (f := fun w => w = .inr (.inr (5, nI q.2))) (by show (bif q.1 == 5 then _ else False); rw [hq]; exact ⟨h2.1, rfl⟩)
              rw [← ew, hw]
              simp only [fvv, up2_same]
            · rw [h3]; rfl
            · rw [h3]; rfl
        · next q =>
          have h3 := (hkk.2 _ he rfl).1
          cases hq : q.1 == 5 with
          | false => rw [hq] at h2; exact h2.elim
          | true =>
            rw [hq] at h2
            have e5 : q.1 = 5 := by simpa using hq
            refine ⟨b9, _, q.2, rfl, rfl, hfin, h1, he, Or.inr rfl, fun t => ?_, ?_, ?_, h2⟩
            · simp only [fvv, up2_same]
              show toQ ad q.1 q.2 = toQ ad 5 q.2
              rw [e5]
            · rw [h3]
              show narrow _ (toQ ad q.1 q.2) = toQ ad q.1 q.2
              unfold toQ
              split <;> rfl
            · rw [h3]
              show fits _ (toQ ad q.1 q.2) = true
              unfold toQ
              split <;> rfl
        · exact h2.elim
section STP
variable {p : Program} {l : Launch} {e : Env} {R : Room} {s : State} {m : MethodId} {args : Array Value} {below : List Frame} {meth : Method} {c : Code} {D : va_G} {X : Nat → ClassId} {ad : Nat → Nat → Nat} {A : Nat → Prop} {M : Nat → Nat → Bool} {nL : Nat} {b : ByteArray} {mc ms : Nat} {post : Option VV → TT → Prop} {px : String → TT → Prop}
theorem Wat.congr {Q : State → Prop} {pc : Nat} {loc loc' : Loc9} {st st' : List VV} {t : TT} {cl sl : Nat} (hl : ∀ q ∈ locV ad loc', q ∈ locV ad loc) (hs : st'.map (toV ad) = st.map (toV ad)) (h : Wat p l e R s m args below meth c Q D X ad A M nL pc loc' st' t cl sl) : Wat p l e R s m args below meth c Q D X ad A M nL pc loc st t cl sl := by
  intro H locs ls hW hS hL
  rw [← hs]
  exact h H locs ls hW hS ⟨hL.1, hL.2.1, fun q hq => hL.2.2 q (hl q hq)⟩
/-- what a method's end owes -/
abbrev QM (below : List Frame) (args : Array Value) (s : State) (D : va_G) (X : Nat → ClassId) (ad : Nat → Nat → Nat) (A : Nat → Prop) (M : Nat → Nat → Bool) (mc ms : Nat) (post : Option VV → TT → Prop) (px : String → TT → Prop) : State → Prop := vx_MQ below (Q9 D X ad A M post) (X9 D X ad A M px) args s mc ms A
def rkOK (meth : Method) (rk : Nat) : Prop := match rk with
  | 0 => meth.sig.returnType = none
  | 1 => meth.sig.returnType = some .int
  | 2 => meth.sig.returnType = some .boolean
  | 3 => meth.sig.returnType = some (.object "HeadwayDeep$Train")
  | _ => True
theorem end_int {rk : Nat} {pc : Nat} {loc : Loc9} {x : Int32} {t : TT} {cl sl : Nat} (hx : p.tables.exec = Jvm.exec) (hb : c.code = b) (hr : rkOK meth rk) (hlocks : meth.locks = false) (hd : decode b pc = .ok (.ireturn, 1)) (hrk : rk = 1 ∨ (rk = 2 ∧ isB x)) (hc : cl ≤ mc) (hs : sl ≤ ms) (h : post (some (.inl x)) t) : Wat p l e R s m args below meth c (QM below args s D X ad A M mc ms post px) D X ad A M nL pc loc [.inl x] t cl sl := by
  intro H locs ls hW hS hl
  refine W.widen (k := mc) (n := ms) hc hs (vx_ret ?_)
  have hq : ∀ u : State, u.heap = H → s.WarmedH u.vm → Q9 D X ad A M post args s (.returned (some (.int x))) u := fun u hu hw => ⟨⟨some (.inl x), t, rfl, h, by rw [hu]; exact hW⟩, hS.F hu⟩
  rcases hrk with rfl | ⟨rfl, hB⟩
  · exact W.iret hx hb hr hq hS.2.2 hd hlocks
  · exact W.zret hx hb hr (nar_isB hB) hq hS.2.2 hd hlocks
theorem end_void {pc : Nat} {loc : Loc9} {t : TT} {cl sl : Nat} (hx : p.tables.exec = Jvm.exec) (hb : c.code = b) (hr : rkOK meth 0) (hlocks : meth.locks = false) (hd : decode b pc = .ok (.return_, 1)) (hc : cl ≤ mc) (hs : sl ≤ ms) (h : post none t) : Wat p l e R s m args below meth c (QM below args s D X ad A M mc ms post px) D X ad A M nL pc loc [] t cl sl := by
  intro H locs ls hW hS hl
  refine W.widen (k := mc) (n := ms) hc hs (vx_ret ?_)
  exact W.vret hx hb hr (fun u hu hw => ⟨⟨none, t, rfl, h, by rw [hu]; exact hW⟩, hS.F hu⟩) hS.2.2 hd hlocks
theorem end_ref {pc : Nat} {loc : Loc9} {q : Nat × Int32} {t : TT} {cl sl : Nat} (hx : p.tables.exec = Jvm.exec) (hb : c.code = b) (hr : rkOK meth 3) (hlocks : meth.locks = false) (hd : decode b pc = .ok (.areturn, 1)) (hc : cl ≤ mc) (hs : sl ≤ ms) (h : post (some (.inr (.inr q))) t) : Wat p l e R s m args below meth c (QM below args s D X ad A M mc ms post px) D X ad A M nL pc loc [.inr (.inr q)] t cl sl := by
  intro H locs ls hW hS hl
  refine W.widen (k := mc) (n := ms) hc hs (vx_ret ?_)
  have hv : toV ad (.inr (.inr q)) = .null ∨ ∃ a, toV ad (.inr (.inr q)) = .ref a := by
    show toQ ad q.1 q.2 = .null ∨ ∃ a, toQ ad q.1 q.2 = .ref a
    unfold toQ
    split
    · exact Or.inl rfl
    · exact Or.inr ⟨_, rfl⟩
  exact W.aret hx hb hr (Or.inl ⟨_, rfl⟩) hv (fun u hu hw => ⟨⟨some (.inr (.inr q)), t, rfl, h, by rw [hu]; exact hW⟩, hS.F hu⟩) hS.2.2 hd hlocks

theorem end_throw {t : TT} {H : Heap} {locs : List Loc} {ls : Array Slot} {pc : Nat} {rest : List Value} {cl sl : Nat} {E : String} {ce : Cell} {q : Addr} (hnt : ∀ x ∈ c.exceptionTable.toList, False) (hlocks : meth.locks = false) (h : px E t) (hW : SW D X ad A M t H) (hS : va_S A s.heap H locs) (hc : H[q]? = some ce) (hv : ce.vm = .none) (hcl : s.vm.findClass E = some ce.cls) (h1 : cl ≤ mc) (h2 : sl ≤ ms) : vx_W p l e R s m args below meth c H locs cl sl (QM below args s D X ad A M mc ms post px) (F0 m pc ls rest) q :=
  vx_out (fun x hx => (hnt x hx).elim) hlocks hc hv hcl (fun u hu _ => ⟨⟨t, h, by rw [hu]; exact hW⟩, hS.F hu⟩) hS.2.2 h1 h2
theorem go_call {pc : Nat} {loc : Loc9} {st : List VV} {t : TT} {cl sl mc1 ms1 n : Nat} {ins : Instr} {k : Option VV → TT → Prop} (hnt : ∀ x ∈ c.exceptionTable.toList, False) (hlocks : meth.locks = false) (hd : decode b pc = .ok (ins, 3)) (h8 : st.length - n ≤ 8) (hc : cl + mc1 ≤ mc) (hs : sl + ms1 ≤ ms)
    (hcall : CallOK p l e R s m args below meth c (QM below args s D X ad A M mc ms post px) D X ad A M nL b mc ms ins mc1 ms1 (st.take n).reverse t k px)
    (hk : ∀ v t1, k v t1 → Wat p l e R s m args below meth c (QM below args s D X ad A M mc ms post px) D X ad A M nL (pc + 3) loc (v.toList ++ st.drop n) t1 (cl + mc1) (sl + ms1)) : Wat p l e R s m args below meth c (QM below args s D X ad A M mc ms post px) D X ad A M nL pc loc st t cl sl := by
  intro H locs ls hW hS hl
  have h := hcall H locs ls pc (st.drop n) cl sl hW hS hl.1 (by rw [List.length_drop]; exact h8) hc hs hd
    (fun v t1 H1 locs1 h1 hW1 hS1 => hk v t1 h1 H1 locs1 ls hW1 hS1 hl)
    (fun E ce q t1 H1 locs1 h1 hW1 hS1 g1 g2 g3 => end_throw hnt hlocks h1 hW1 hS1 g1 g2 g3 hc hs)
  rw [List.reverse_reverse, List.take_append_drop] at h
  exact h
theorem tab_sw {pc : Nat} {ts : List Nat} {offs : Array Int} (h : (List.range ts.length).all (fun j => match offs[j]?, ts[j]? with | some o, some q => decide ((pc : Int) + o = (q : Int)) | _, _ => false) = true) : ∀ (j q : Nat), ts[j]? = some q → ∃ o, offs[j]? = some o ∧ (pc : Int) + o = (q : Int) := by
  intro j q hj
  have h1 := List.all_eq_true.mp h j (List.mem_range.mpr (List.getElem?_eq_some_iff.mp hj).1)
  rw [hj] at h1
  cases ho : offs[j]? with
  | none => rw [ho] at h1; cases h1
  | some o => rw [ho] at h1; exact ⟨o, rfl, of_decide_eq_true h1⟩

theorem step_sound (hx : p.tables.exec = Jvm.exec) (hb : c.code = b) {own : String} (hts : ∀ w ∈ LT, w.before args s = true) (hown : s.vm.findClass own = some m.cls) (hK : va_K D vwCl (TYX X) s) (hnt : ∀ x ∈ c.exceptionTable.toList, False) (hlocks : meth.locks = false) {rk : Nat} (hr : rkOK meth rk)
    {fld : Nat → Option (Nat × Nat)} (hfld : ∀ ix f, fld ix = some f → fldOK own ix f) {nA : Bool → Nat → Option (Nat × Nat × Nat)} {PC : Nat → List VV → TT → (Option VV → TT → Prop) → (String → TT → Prop) → Prop}
    (hpay : ∀ (v9 : Bool) (ix n mc1 ms1 : Nat) (as : List VV) (t : TT) (k : Option VV → TT → Prop), nA v9 ix = some (n, mc1, ms1) → as.length = n → PC ix as t k px → CallOK p l e R s m args below meth c (QM below args s D X ad A M mc ms post px) D X ad A M nL b mc ms (if v9 = true then .invokevirtual ix else .invokestatic ix) mc1 ms1 as t k px)
    {en : Ent} {pc : Nat} (hen : entOK b pc en = true) {loc : Loc9} {st : List VV} {t : TT} {cl sl : Nat} {go : Nat → Loc9 → List VV → TT → Nat → Nat → Prop} (hgo : ∀ pc1 loc1 st1 t1 cl1 sl1, go pc1 loc1 st1 t1 cl1 sl1 → Wat p l e R s m args below meth c (QM below args s D X ad A M mc ms post px) D X ad A M nL pc1 loc1 st1 t1 cl1 sl1)
    (h : stepP M nL fld nA PC rk mc ms post px en.1 pc en.2.2.1 en.2.2.2.1 en.2.2.2.2 loc st t cl sl go) : Wat p l e R s m args below meth c (QM below args s D X ad A M mc ms post px) D X ad A M nL pc loc st t cl sl := by
  obtain ⟨ins, len, tgt, imm, ts⟩ := en
  dsimp only at h
  unfold entOK at hen
  simp only [Bool.and_eq_true, decide_eq_true_eq] at hen
  obtain ⟨hd, he⟩ := hen
  unfold stepP at h
  split at h <;> (try dsimp only at hd he) <;> (try simp only [Bool.and_eq_true, decide_eq_true_eq] at he)
  · subst he
    split at h
    · next hk => exact go_aload hx hb hd hk (hgo _ _ _ _ _ _ h)
    · exact h.elim
  · subst he
    split at h
    · next hk => exact go_aload2 hx hb hd hk (hgo _ _ _ _ _ _ h)
    · exact h.elim
  · subst he
    split at h
    · next hk => exact go_iload hx hb hd hk (hgo _ _ _ _ _ _ h)
    · exact h.elim
  · subst he
    split at h
    · next hk => exact go_iload2 hx hb hd hk (hgo _ _ _ _ _ _ h)
    · exact h.elim
  · subst he
    split at h
    · cases hn : Nat.blt _ nL with
      | false => rw [hn] at h; exact h.elim
      | true => rw [hn] at h; exact go_istore hx hb hd (blt_lt hn) (hgo _ _ _ _ _ _ h)
    · exact h.elim
  · subst he
    split at h
    · cases hn : Nat.blt _ nL with
      | false => rw [hn] at h; exact h.elim
      | true => rw [hn] at h; exact go_istore2 hx hb hd (blt_lt hn) (hgo _ _ _ _ _ _ h)
    · exact h.elim
  · subst he
    split at h
    · cases hn : Nat.blt _ nL with
      | false => rw [hn] at h; exact h.elim
      | true => rw [hn] at h; exact go_astore hx hb hd (blt_lt hn) (hgo _ _ _ _ _ _ h)
    · exact h.elim
  · subst he
    split at h
    · cases hn : Nat.blt _ nL with
      | false => rw [hn] at h; exact h.elim
      | true => rw [hn] at h; exact go_astore2 hx hb hd (blt_lt hn) (hgo _ _ _ _ _ _ h)
    · exact h.elim
  · obtain ⟨rfl, hv⟩ := he
    exact go_iconst hx hb hd hv (hgo _ _ _ _ _ _ h)
  · obtain ⟨rfl, hv⟩ := he
    exact go_bipush hx hb hd hv (hgo _ _ _ _ _ _ h)
  · obtain ⟨rfl, hv⟩ := he
    exact go_sipush hx hb hd hv (hgo _ _ _ _ _ _ h)
  · obtain ⟨rfl, hv⟩ := he
    split at h
    · next hk =>
      cases hn : Nat.blt _ nL with
      | false => rw [hn] at h; exact h.elim
      | true => rw [hn] at h; exact go_iinc hx hb hd hv hk (blt_lt hn) (hgo _ _ _ _ _ _ h)
    · exact h.elim
  · subst he
    split at h
    · exact go_iadd hx hb hd (hgo _ _ _ _ _ _ h)
    · exact h.elim
  · subst he
    split at h
    · exact go_isub hx hb hd (hgo _ _ _ _ _ _ h)
    · exact h.elim
  · subst he
    split at h
    · exact go_imul hx hb hd (hgo _ _ _ _ _ _ h)
    · exact h.elim
  · subst he
    split at h
    · exact go_idiv hx hb hd h.1 (hgo _ _ _ _ _ _ h.2)
    · exact h.elim
  · subst he
    split at h
    · exact go_irem hx hb hd h.1 (hgo _ _ _ _ _ _ h.2)
    · exact h.elim
  · subst he
    split at h
    · exact go_pop hx hb hd (hgo _ _ _ _ _ _ h)
    · exact h.elim
  · subst he
    split at h
    · exact go_iand hx hb hd (hgo _ _ _ _ _ _ h)
    · exact h.elim
  · subst he
    split at h
    · exact go_ior hx hb hd (hgo _ _ _ _ _ _ h)
    · exact h.elim
  · subst he
    split at h
    · exact go_ixor hx hb hd (hgo _ _ _ _ _ _ h)
    · exact h.elim
  · subst he
    split at h
    · exact go_ishr hx hb hd (hgo _ _ _ _ _ _ h)
    · exact h.elim
  · subst he
    split at h
    · exact go_i2b hx hb hd (hgo _ _ _ _ _ _ h)
    · exact h.elim
  · subst he
    split at h
    · exact go_dup hx hb hd (hgo _ _ _ _ _ _ h)
    · exact h.elim
  · subst he
    split at h
    · exact go_dup2 hx hb hd (hgo _ _ _ _ _ _ h)
    · exact h.elim
  · subst he
    split at h
    · obtain ⟨kp, i, h1, hv⟩ := drf_val (ad := ad) h
      obtain ⟨f, e, hf, -, hi, he, h2⟩ := gfP_spec h1
      exact go_get hx hb hts hown hK (hfld _ _ hf) hd hi he hv (hgo _ _ _ _ _ _ h2)
    · exact h.elim
  · subst he
    split at h
    · obtain ⟨kp, i, h1, hv⟩ := drf_val (ad := ad) h
      obtain ⟨f, e, x, hf, -, hfin, hi, he, h02, hval, hnr, hft, h2⟩ := pfP_spec (ad := ad) (hobj := fun ix f h => (hfld ix f h).1) h1
      exact go_put hx hb hts hown hK (hfld _ _ hf) hfin hd hi he hv h02 (hval _) hnr hft (hgo _ _ _ _ _ _ h2)
    · exact h.elim
  · subst he
    split at h
    · exact go_bald9 hx hb hK hd h.1.1 h.1.2 (hgo _ _ _ _ _ _ h.2)
    · exact go_bald10 hx hb hK hd h.1.1 h.1.2 (hgo _ _ _ _ _ _ h.2)
    · exact h.elim
  · subst he
    split at h
    · exact go_bast9 hx hb hK hd h.1.1 h.1.2 (hgo _ _ _ _ _ _ h.2)
    · exact go_bast10 hx hb hK hd h.1.1 h.1.2 (hgo _ _ _ _ _ _ h.2)
    · exact h.elim
  · subst he
    split at h
    · next x q r =>
      cases hq : Nat.ble 1 q.1 && Nat.ble q.1 4 with
      | false => rw [hq] at h; exact h.elim
      | true =>
        rw [hq] at h
        simp only [Bool.and_eq_true] at hq
        exact go_aald hx hb hK ⟨Nat.le_of_ble_eq_true hq.1, Nat.le_of_ble_eq_true hq.2⟩ hd h.1.1 h.1.2.1 h.1.2.2 (hgo _ _ _ _ _ _ h.2)
    · exact h.elim
  · subst he
    split at h
    · next q r =>
      cases hq : (q.1 == 9 || q.1 == 10) with
      | false => rw [hq] at h; exact h.elim
      | true =>
        rw [hq] at h
        exact go_alen hx hb hK (by simpa using hq) hd h.1 (hgo _ _ _ _ _ _ h.2)
    · exact h.elim
  · obtain ⟨rfl, ht⟩ := he
    split at h
    · split at h
      · exact go_icmp_eq hx hb hd ht (fun z => hgo _ _ _ _ _ _ (by rw [if_pos z] at h; exact h)) (fun z => hgo _ _ _ _ _ _ (by rw [if_neg z] at h; exact h))
      · exact go_icmp_ne hx hb hd ht (fun z => hgo _ _ _ _ _ _ (by rw [if_neg z] at h; exact h)) (fun z => hgo _ _ _ _ _ _ (by rw [if_pos z] at h; exact h))
      · exact go_icmp_lt hx hb hd ht (fun z => hgo _ _ _ _ _ _ (by rw [if_pos z] at h; exact h)) (fun z => hgo _ _ _ _ _ _ (by rw [if_neg z] at h; exact h))
      · exact go_icmp_ge hx hb hd ht (fun z => hgo _ _ _ _ _ _ (by rw [if_pos z] at h; exact h)) (fun z => hgo _ _ _ _ _ _ (by rw [if_neg z] at h; exact h))
      · exact go_icmp_gt hx hb hd ht (fun z => hgo _ _ _ _ _ _ (by rw [if_pos z] at h; exact h)) (fun z => hgo _ _ _ _ _ _ (by rw [if_neg z] at h; exact h))
      · exact go_icmp_le hx hb hd ht (fun z => hgo _ _ _ _ _ _ (by rw [if_pos z] at h; exact h)) (fun z => hgo _ _ _ _ _ _ (by rw [if_neg z] at h; exact h))
    · exact h.elim
  · obtain ⟨rfl, ht⟩ := he
    split at h
    · split at h
      · exact go_if_eq hx hb hd ht (fun z => hgo _ _ _ _ _ _ (by rw [if_pos z] at h; exact h)) (fun z => hgo _ _ _ _ _ _ (by rw [if_neg z] at h; exact h))
      · exact go_if_ne hx hb hd ht (fun z => hgo _ _ _ _ _ _ (by rw [if_neg z] at h; exact h)) (fun z => hgo _ _ _ _ _ _ (by rw [if_pos z] at h; exact h))
      · exact go_if_lt hx hb hd ht (fun z => hgo _ _ _ _ _ _ (by rw [if_pos z] at h; exact h)) (fun z => hgo _ _ _ _ _ _ (by rw [if_neg z] at h; exact h))
      · exact go_if_ge hx hb hd ht (fun z => hgo _ _ _ _ _ _ (by rw [if_pos z] at h; exact h)) (fun z => hgo _ _ _ _ _ _ (by rw [if_neg z] at h; exact h))
      · exact go_if_gt hx hb hd ht (fun z => hgo _ _ _ _ _ _ (by rw [if_pos z] at h; exact h)) (fun z => hgo _ _ _ _ _ _ (by rw [if_neg z] at h; exact h))
      · exact go_if_le hx hb hd ht (fun z => hgo _ _ _ _ _ _ (by rw [if_pos z] at h; exact h)) (fun z => hgo _ _ _ _ _ _ (by rw [if_neg z] at h; exact h))
    · exact h.elim
  · obtain ⟨rfl, ht⟩ := he
    split at h
    · exact go_ifnullO hx hb hd (hgo _ _ _ _ _ _ h)
    · exact go_ifnull hx hb hd ht (fun z => hgo _ _ _ _ _ _ (by rw [if_pos z] at h; exact h)) (fun z => hgo _ _ _ _ _ _ (by rw [if_neg z] at h; exact h))
    · exact h.elim
  · obtain ⟨rfl, ht⟩ := he
    split at h
    · exact go_ifnonnullO hx hb hd ht (hgo _ _ _ _ _ _ h)
    · exact go_ifnonnull hx hb hd ht (fun z => hgo _ _ _ _ _ _ (by rw [if_pos z] at h; exact h)) (fun z => hgo _ _ _ _ _ _ (by rw [if_neg z] at h; exact h))
    · exact h.elim
  · obtain ⟨rfl, ht⟩ := he
    exact go_goto hx hb hd ht (hgo _ _ _ _ _ _ h)
  · obtain ⟨⟨⟨h0, h1, ht⟩, hall⟩, hl9⟩ := he
    split at h
    · exact go_switch hx hb hd h0 h1 ht (tab_sw hall) hl9 (swP_mono (fun q hq => hgo _ _ _ _ _ _ hq) h)
    · exact h.elim
  · subst he
    exact go_null hx hb hd (hgo _ _ _ _ _ _ h)
  · subst he
    split at h
    · next q hq =>
      cases hg : (Nat.ble q.1 st.length && Nat.ble (st.length - q.1) 8 && Nat.ble (cl + q.2.1) mc && Nat.ble (sl + q.2.2) ms) with
      | false => rw [hg] at h; exact h.elim
      | true =>
        rw [hg] at h
        simp only [Bool.and_eq_true] at hg
        obtain ⟨⟨⟨g1, g2⟩, g3⟩, g4⟩ := hg
        exact go_call hnt hlocks hd (Nat.le_of_ble_eq_true g2) (Nat.le_of_ble_eq_true g3) (Nat.le_of_ble_eq_true g4) (hpay true _ _ _ _ _ _ _ hq (by rw [List.length_reverse, List.length_take]; exact Nat.min_eq_left (Nat.le_of_ble_eq_true g1)) h) (fun v t1 z => hgo _ _ _ _ _ _ z)
    · exact h.elim
  · subst he
    split at h
    · next q hq =>
      cases hg : (Nat.ble q.1 st.length && Nat.ble (st.length - q.1) 8 && Nat.ble (cl + q.2.1) mc && Nat.ble (sl + q.2.2) ms) with
      | false => rw [hg] at h; exact h.elim
      | true =>
        rw [hg] at h
        simp only [Bool.and_eq_true] at hg
        obtain ⟨⟨⟨g1, g2⟩, g3⟩, g4⟩ := hg
        exact go_call hnt hlocks hd (Nat.le_of_ble_eq_true g2) (Nat.le_of_ble_eq_true g3) (Nat.le_of_ble_eq_true g4) (hpay false _ _ _ _ _ _ _ hq (by rw [List.length_reverse, List.length_take]; exact Nat.min_eq_left (Nat.le_of_ble_eq_true g1)) h) (fun v t1 z => hgo _ _ _ _ _ _ z)
    · exact h.elim
  · subst he
    split at h
    · cases hg : (Nat.ble cl mc && Nat.ble sl ms) with
      | false => rw [hg] at h; exact h.elim
      | true =>
        rw [hg] at h
        simp only [Bool.and_eq_true] at hg
        exact end_int hx hb hr hlocks hd (Or.inl rfl) (Nat.le_of_ble_eq_true hg.1) (Nat.le_of_ble_eq_true hg.2) h
    · cases hg : (Nat.ble cl mc && Nat.ble sl ms) with
      | false => rw [hg] at h; exact h.elim
      | true =>
        rw [hg] at h
        simp only [Bool.and_eq_true] at hg
        exact end_int hx hb hr hlocks hd (Or.inr ⟨rfl, h.1⟩) (Nat.le_of_ble_eq_true hg.1) (Nat.le_of_ble_eq_true hg.2) h.2
    · exact h.elim
  · subst he
    split at h
    · cases hg : (Nat.ble cl mc && Nat.ble sl ms) with
      | false => rw [hg] at h; exact h.elim
      | true =>
        rw [hg] at h
        simp only [Bool.and_eq_true] at hg
        exact end_void hx hb hr hlocks hd (Nat.le_of_ble_eq_true hg.1) (Nat.le_of_ble_eq_true hg.2) h
    · exact h.elim
  · subst he
    split at h
    · cases hg : (Nat.ble cl mc && Nat.ble sl ms) with
      | false => rw [hg] at h; exact h.elim
      | true =>
        rw [hg] at h
        simp only [Bool.and_eq_true] at hg
        exact end_ref hx hb hr hlocks hd (Nat.le_of_ble_eq_true hg.1) (Nat.le_of_ble_eq_true hg.2) h
    · exact h.elim
  · exact h.elim

theorem wp_sound (hx : p.tables.exec = Jvm.exec) (hb : c.code = b) {own : String} (hts : ∀ w ∈ LT, w.before args s = true) (hown : s.vm.findClass own = some m.cls) (hK : va_K D vwCl (TYX X) s) (hnt : ∀ x ∈ c.exceptionTable.toList, False) (hlocks : meth.locks = false) {rk : Nat} (hr : rkOK meth rk)
    {fld : Nat → Option (Nat × Nat)} (hfld : ∀ ix f, fld ix = some f → fldOK own ix f) {nA : Bool → Nat → Option (Nat × Nat × Nat)} {PC : Nat → List VV → TT → (Option VV → TT → Prop) → (String → TT → Prop) → Prop}
    (hpay : ∀ (v9 : Bool) (ix n mc1 ms1 : Nat) (as : List VV) (t : TT) (k : Option VV → TT → Prop), nA v9 ix = some (n, mc1, ms1) → as.length = n → PC ix as t k px → CallOK p l e R s m args below meth c (QM below args s D X ad A M mc ms post px) D X ad A M nL b mc ms (if v9 = true then .invokevirtual ix else .invokestatic ix) mc1 ms1 as t k px)
    {tab : Nat → Option Ent} (htab : ∀ pc en, tab pc = some en → entOK b pc en = true) {thr : Nat → Option String}
    (hthr : ∀ pc E, thr pc = some E → ∀ loc st t cl sl, px E t → cl + 1 ≤ mc → sl + 6 ≤ ms → st.length ≤ 8 → Wat p l e R s m args below meth c (QM below args s D X ad A M mc ms post px) D X ad A M nL pc loc st t cl sl)
    {cs : Nat → Option (List (Nat × Nat × Nat) × List (Nat × Nat) × Nat × Nat)} {Bk : Nat → List VV → List VV → TT → Prop} (hB : ∀ pc q vs ws t, cs pc = some q → Bk pc vs ws t → Wat p l e R s m args below meth c (QM below args s D X ad A M mc ms post px) D X ad A M nL pc (List.zip (q.1.map (·.1)) vs) ws t q.2.2.1 q.2.2.2) :
    ∀ n pc loc st t cl sl, wp M nL tab fld nA PC thr cs Bk rk mc ms post px n pc loc st t cl sl → Wat p l e R s m args below meth c (QM below args s D X ad A M mc ms post px) D X ad A M nL pc loc st t cl sl
  | 0, _, _, _, _, _, _, h => h.elim
  | n + 1, pc, loc, st, t, cl, sl, h => by
    unfold wp at h
    split at h
    · next E hE =>
      cases hg : (Nat.ble (cl + 1) mc && Nat.ble (sl + 6) ms && Nat.ble st.length 8) with
      | false => rw [hg] at h; exact h.elim
      | true =>
        rw [hg] at h
        simp only [Bool.and_eq_true] at hg
        exact hthr pc E hE loc st t cl sl h (Nat.le_of_ble_eq_true hg.1.1) (Nat.le_of_ble_eq_true hg.1.2) (Nat.le_of_ble_eq_true hg.2)
    · split at h
      · exact h.elim
      · next en hen =>
        refine step_sound hx hb hts hown hK hnt hlocks hr hfld hpay (htab pc en hen) (fun pc1 loc1 st1 t1 cl1 sl1 hg => ?_) h
        split at hg
        · next q hq =>
          cases hg2 : (cl1 == q.2.2.1 && sl1 == q.2.2.2) with
          | false => rw [hg2] at hg; exact hg.elim
          | true =>
            rw [hg2] at hg
            simp only [Bool.and_eq_true, beq_iff_eq] at hg2
            obtain ⟨e1, e2⟩ := hg2
            subst e1; subst e2
            obtain ⟨vs, h1, h2⟩ := getAll_val (ad := ad) hg
            obtain ⟨ws, h3, h4⟩ := stkAll_val (ad := ad) h1
            exact Wat.congr h2 h4 (hB pc1 q vs ws t1 hq h3)
        · exact wp_sound hx hb hts hown hK hnt hlocks hr hfld hpay htab hthr hB n _ _ _ _ _ _ hg
end STP
end
section
/-! contracts of methods over the world, their calls, throws -/
abbrev xNames : List String := ["java/lang/RuntimeException", "java/lang/Exception"]
abbrev IOB : String := "java/lang/IndexOutOfBoundsException"
abbrev IAE9 : String := "java/lang/IllegalArgumentException"
abbrev ISE9 : String := "java/lang/IllegalStateException"
/-- nothing is asked of the heap for throws: no call of this law throws -/
def EX (_ : Nat → Prop) (_ : State) : Prop := True
theorem EX.to {A : Nat → Prop} {s U : State} (_ : EX A s) (_ : s.WarmedH U.vm) (_ : ∀ a : Nat, a < s.heap.size → ¬ A a → U.heap[a]? = s.heap[a]?) : EX A U := trivial
theorem EX.narrow {A B : Nat → Prop} {s : State} (_ : EX A s) (_ : ∀ q, B q → A q) : EX B s := trivial
theorem EX.calling {A : Nat → Prop} {U : State} {g : JFrame} {mk : MethodId} {a : Array Value} (_ : EX A U) : EX A (U.calling g mk a) := trivial
def CT (l : Launch) (y : MethodName) (ws : List Cond) (rm : Room) (D : va_G) (X : Nat → ClassId) (ad : Nat → Nat → Nat) (M : Nat → Nat → Bool) (as : List VV) (t : TT) (mc ms : Nat) (post : Option VV → TT → Prop) (px : String → TT → Prop) : Prop :=
  ∀ (A : Nat → Prop) (sz : Nat), (∀ q, sz ≤ q → A q) → vx_Met l y ws rm (va_Pc (as.map (toV ad)) (fun U => U.heap.size = sz ∧ SW D X ad A M t U.heap ∧ va_K D vwCl (TYX X) U ∧ EX A U)) (Q9 D X ad A M post) (X9 D X ad A M px) mc ms A
def entryLoc : Nat → List VV → Loc9
  | _, [] => []
  | k, v :: r => (k, v) :: entryLoc (k + 1) r
theorem entryLoc_args {ad : Nat → Nat → Nat} : ∀ (as : List VV) (k : Nat), locV ad (entryLoc k as) = lv_args k (as.map (toV ad))
  | [], _ => rfl
  | v :: r, k => by
    show (k, toV ad v) :: locV ad (entryLoc (k + 1) r) = (k, toV ad v) :: lv_args (if (toV ad v).category = 2 then k + 2 else k + 1) (r.map (toV ad))
    rw [if_neg (by rw [toV_cat]; decide), entryLoc_args r (k + 1)]
theorem lg_sl_len {ad : Nat → Nat → Nat} : ∀ as : List VV, (lg_sl (as.map (toV ad))).length = as.length
  | [] => rfl
  | v :: r => by
    have h := lg_sl_len (ad := ad) r
    have e : lg_sl (toV ad v :: r.map (toV ad)) = (if (toV ad v).category = 2 then [Slot.val (toV ad v), Slot.second] else [Slot.val (toV ad v)]) ++ lg_sl (r.map (toV ad)) := by simp [lg_sl]
    rw [List.map_cons, e, if_neg (by rw [toV_cat]; decide), List.length_append, h, List.length_cons, List.length_cons, List.length_nil]
    omega
theorem met_of_wp {l : Launch} {y : MethodName} {b : ByteArray} {nL : Nat} {ret : Option FieldType} {rm : Room} {D : va_G} {X : Nat → ClassId} {ad : Nat → Nat → Nat} {M : Nat → Nat → Bool} {as : List VV} {t : TT} {mc ms : Nat} {post : Option VV → TT → Prop} {px : String → TT → Prop} (hy : plainName y.cls = true) (hn : as.length ≤ nL)
    (h : ∀ (p : Program) (e : Env) (s : State) (m : MethodId) (args : Array Value) (below : List Frame) (meth : Method) (c : Code) (A : Nat → Prop), p.tables.exec = Jvm.exec → c.code = b → c.maxLocals = nL → (∀ w ∈ LT, w.before args s = true) → s.vm.findClass y.cls = some m.cls → va_K D vwCl (TYX X) s → (∀ x ∈ c.exceptionTable.toList, False) → meth.locks = false → meth.sig.returnType = ret → (∀ q, s.heap.size ≤ q → A q) → EX A s →
      Wat p l e rm s m args below meth c (QM below args s D X ad A M mc ms post px) D X ad A M nL 0 (entryLoc 0 as) [] t 0 0) : CT l y (Cond.code y b nL ret :: LT) rm D X ad M as t mc ms post px := by
  intro A sz hA
  refine vx_ofW hy rfl ?_
  intro p e s m args below meth c s₁ B hml hnt hv
  obtain ⟨rfl, hsz, hW, hK, hE⟩ := hv
  have hts := atoms_spec (ws := Cond.code y b nL ret :: LT) B.pre
  have hown : s.vm.findClass y.cls = some m.cls := findClass_of_methodNamed B.named
  subst hsz
  have hl := lv_entry (as.map (toV ad)) (n := nL) (by rw [lg_sl_len]; exact hn)
  rw [lg_entry_eq]
  rw [← entryLoc_args] at hl
  exact h p e s m _ below meth c A B.exec B.bytes hml (fun w hw => hts w (List.mem_cons_of_mem _ hw)) hown hK hnt B.notSynchronized B.returns hA hE s.heap [] _ hW va_S.rf hl
section CLL
variable {p : Program} {l : Launch} {e : Env} {R : Room} {s : State} {m : MethodId} {args : Array Value} {below : List Frame} {meth : Method} {c : Code} {Q : State → Prop} {D : va_G} {X : Nat → ClassId} {ad : Nat → Nat → Nat} {A : Nat → Prop} {M : Nat → Nat → Bool} {nL : Nat} {b : ByteArray} {mc ms : Nat} {k : Option VV → TT → Prop} {kx : String → TT → Prop} {t : TT} {as : List VV} {mc1 ms1 : Nat}
theorem blind9 {as : List VV} {sz : Nat} : FrameBlind (va_Pc (as.map (toV ad)) (fun U => U.heap.size = sz ∧ SW D X ad A M t U.heap ∧ va_K D vwCl (TYX X) U ∧ EX A U)) := fun a U g mk h => ⟨h.1, h.2.1, h.2.2.1, va_K.moved (u := U) (U := U.calling g mk a) (Vm.Alike.refl U.vm) h.2.2.2.1, h.2.2.2.2.calling⟩
theorem pre9 {H : Heap} {locs : List Loc} (hK : va_K D vwCl (TYX X) s) (hE : EX A s) (hW : SW D X ad A M t H) (hS : va_S A s.heap H locs) : ∀ U : State, U.heap = H → s.WarmedH U.vm → va_Pc (as.map (toV ad)) (fun U => U.heap.size = H.size ∧ SW D X ad A M t U.heap ∧ va_K D vwCl (TYX X) U ∧ EX A U) (as.map (toV ad)).toArray U := fun U hU hw => ⟨rfl, by rw [hU], by rw [hU]; exact hW, va_K.moved hw.alike hK, hE.to hw (by rw [hU]; exact hS.2.1)⟩
/-- behind a call -/
theorem run9 {H : Heap} {locs : List Loc} {ls : Array Slot} {pc : Nat} {st0 rest : List Value} {a : Array Value} {cl sl : Nat} (hS : va_S A s.heap H locs)
    (hr : vx_Run p l e R s m args below meth c H locs cl sl mc1 ms1 (F0 m pc ls st0) rest (Q9 D X ad A M k a) (X9 D X ad A M kx) A)
    (hk : ∀ (v : Option VV) (t1 : TT) (H1 : Heap) (locs1 : List Loc), k v t1 → SW D X ad A M t1 H1 → va_S A s.heap H1 locs1 → W p l e R s m args below meth c H1 locs1 (cl + mc1) (sl + ms1) Q (F0 m (pc + 3) ls (v.toList.map (toV ad) ++ rest)))
    (hx9 : ∀ (E : String) (ce : Cell) (q : Addr) (t1 : TT) (H1 : Heap) (locs1 : List Loc), kx E t1 → SW D X ad A M t1 H1 → va_S A s.heap H1 locs1 → H1[q]? = some ce → ce.vm = .none → s.vm.findClass E = some ce.cls → vx_W p l e R s m args below meth c H1 locs1 (cl + mc1) (sl + ms1) Q (F0 m pc ls rest) q) : W p l e R s m args below meth c H locs cl sl Q (F0 m pc ls st0) := by
  intro T hT Y
  rcases hr T hT Y with ⟨v, st₀, u, T', L, h0, Y', hL, e1, e2, ⟨⟨v9, t1, hv, hp, hw⟩, hF⟩, st⟩ | ⟨q, st₀, u, T', L, E, ce, h0, Y', hL, e1, e2, ⟨⟨t1, hp, hw⟩, hF⟩, hce, hcv, hcl, st⟩
  · cases hv
    obtain ⟨-, -, k3⟩ := vx_keep h0 e1 hS (fun _ _ h => h) (fun _ h => h) hL hF
    obtain ⟨t2, a1, b1⟩ := hk v9 t1 T'.heap (locs ++ L) hp (by rw [e1]; exact hw) k3 T' rfl Y'
    refine ⟨t2, st t2 ?_, b1⟩
    have e3 : (v9.map (toV ad)).toList = v9.toList.map (toV ad) := by cases v9 <;> rfl
    rw [e3]
    exact a1
  · obtain ⟨-, -, k3⟩ := vx_keep h0 e1 hS (fun _ _ h => h) (fun _ h => h) hL hF
    obtain ⟨t2, a1, b1⟩ := hx9 E ce q t1 T'.heap (locs ++ L) hp (by rw [e1]; exact hw) k3 (by rw [e1]; exact hce) hcv hcl T' rfl Y'
    exact ⟨t2, st.trans a1, b1⟩
theorem rest_cat {rest : List VV} (h : rest.length ≤ 8) (pc : Nat) (ls : Array Slot) (st0 : List Value) : 2 * (F0 m pc ls st0).monitorRoom + ((rest.map (toV ad)).map fun v => v.category).sum ≤ 8 := lv_room (by rw [cat_sum]; exact h)
/-- a method of an object of the world is called -/
theorem call_V (hx : p.tables.exec = Jvm.exec) (hb : c.code = b) (hml : c.maxLocals = nL) (hts : ∀ w ∈ LT, w.before args s = true) {own : String} (hown : s.vm.findClass own = some m.cls) (hK : va_K D vwCl (TYX X) s) (hA : ∀ q, s.heap.size ≤ q → A q) (hE : EX A s)
    {y : MethodName} {by9 : ByteArray} {ny : Nat} {ret : Option FieldType} {rm : Room} (hM : CT l y (Cond.code y by9 ny ret :: LT) rm D X ad M as t mc1 ms1 k kx) {ix n : Nat} (hws : (Cond.methodLink own ix y ∈ LT ∧ Cond.instanceMethod y ∈ LT ∧ Cond.selects y.cls y y ∈ LT ∧ Cond.initialized y.cls ∈ LT ∧ Cond.code y by9 ny ret ∈ LT))
    (hd : y.cls ≠ "java/lang/invoke/MethodHandle" ∧ y.cls ≠ "java/lang/invoke/VarHandle" ∧ (parseMethodDescriptor y.desc).map (fun d => d.parameters.length) = some n) (hR : rm.frames + 1 ≤ R.frames ∧ 8 + (ny + 11) + rm.locals ≤ R.locals) (hrc : rm.cells = mc1) (hrs : rm.slots = ms1) (hmc : R.cells = mc) (hms : R.slots = ms) (hn : as.length = n + 1)
    (hrecv : ∃ kp i, (as.head?).map (toV ad) = some (.ref (ad kp i)) ∧ M kp i = true ∧ isObj kp ∧ RXk kp = y.cls) : CallOK p l e R s m args below meth c Q D X ad A M nL b mc ms (.invokevirtual ix) mc1 ms1 as t k kx := by
  intro H locs ls pc rest cl sl hW hS hls h8 hc hs hdec hk hx9
  obtain ⟨v0, as', rfl⟩ : ∃ v0 as', as = v0 :: as' := by
    cases as with
    | nil => simp at hn
    | cons v0 as' => exact ⟨v0, as', rfl⟩
  obtain ⟨kp, i, hv0, hi, hobj, hcls⟩ := hrecv
  have hv : toV ad v0 = .ref (ad kp i) := Option.some.inj hv0
  have hgood : GoodIn LT (Cond.code y by9 ny ret :: LT) := fun w hw => ⟨(List.mem_cons.mp hw).elim (fun z => by rw [z]; exact hws.2.2.2.2) id, good_of_word (LT_good ((List.mem_cons.mp hw).elim (fun z => by rw [z]; exact hws.2.2.2.2) id))⟩
  have hB := callB_of (R := R) (Ts := LT) (ws := Cond.code y by9 ny ret :: LT) (own := own) (index := ix) (y := y) (mc := mc1) (ms := ms1) n hts hgood rfl hrc hrs (hts _ hws.2.2.2.1) (hts _ hws.1) hd hR
  have hcw : CallW R s args own y.cls ix y by9 ny ret (Cond.code y by9 ny ret :: LT) rm mc1 ms1 n := ⟨hB, hts _ hws.2.1, hts _ hws.2.2.1⟩
  have hpre := pre9 (as := v0 :: as') hK hE hW hS
  have hrun := vx_runV (e := e) (below := below) (meth := meth) (H := H) (locs := locs) (cells := cl) (slots := sl) (Ts := LT) (b := ad kp i) (As := as'.map (toV ad)) (rest := rest.map (toV ad)) (g := F0 m pc ls ((as'.map (toV ad)).reverse ++ .ref (ad kp i) :: rest.map (toV ad))) ⟨hx, hb, hml, hown, hts⟩ (hM A H.size (fun q h => hA q (Nat.le_trans hS.1 h))) hcw
    ⟨blind9, by
      have h0 := va_recv (q0 := 0) (ci := kci kp) hK (SW.oneE hW hi (obj_cell hobj X ad M t i)) (obj_cl hobj) rfl
      rw [← hcls]
      exact h0, by
      rw [← hv]
      exact hpre⟩ rfl (by rw [List.length_map]; simpa using hn) hls rfl (rest_cat h8 _ _ _) hdec ⟨by omega, by omega⟩
  have h := run9 (Q := Q) hS hrun (fun v t1 H1 locs1 h1 h2 h3 => by
    have h4 := hk v t1 H1 locs1 h1 h2 h3
    rw [List.map_append] at h4
    exact h4) hx9
  have e0 : (((v0 :: as').reverse ++ rest).map (toV ad)) = (as'.map (toV ad)).reverse ++ .ref (ad kp i) :: rest.map (toV ad) := by
    simp [hv]
  rw [e0]
  exact h
/-- a static method is called -/
theorem call_S (hx : p.tables.exec = Jvm.exec) (hb : c.code = b) (hml : c.maxLocals = nL) (hts : ∀ w ∈ LT, w.before args s = true) {own : String} (hown : s.vm.findClass own = some m.cls) (hK : va_K D vwCl (TYX X) s) (hA : ∀ q, s.heap.size ≤ q → A q) (hE : EX A s)
    {y : MethodName} {by9 : ByteArray} {ny : Nat} {ret : Option FieldType} {rm : Room} (hM : CT l y (Cond.code y by9 ny ret :: LT) rm D X ad M as t mc1 ms1 k kx) {ix n : Nat} (hws : (Cond.methodLink own ix y ∈ LT ∧ Cond.static y ∈ LT ∧ Cond.initialized y.cls ∈ LT ∧ Cond.code y by9 ny ret ∈ LT))
    (hd : y.cls ≠ "java/lang/invoke/MethodHandle" ∧ y.cls ≠ "java/lang/invoke/VarHandle" ∧ (parseMethodDescriptor y.desc).map (fun d => d.parameters.length) = some n) (hR : rm.frames + 1 ≤ R.frames ∧ 8 + (ny + 11) + rm.locals ≤ R.locals) (hrc : rm.cells = mc1) (hrs : rm.slots = ms1) (hmc : R.cells = mc) (hms : R.slots = ms) (hn : as.length = n) : CallOK p l e R s m args below meth c Q D X ad A M nL b mc ms (.invokestatic ix) mc1 ms1 as t k kx := by
  intro H locs ls pc rest cl sl hW hS hls h8 hc hs hdec hk hx9
  have hgood : GoodIn LT (Cond.code y by9 ny ret :: LT) := fun w hw => ⟨(List.mem_cons.mp hw).elim (fun z => by rw [z]; exact hws.2.2.2) id, good_of_word (LT_good ((List.mem_cons.mp hw).elim (fun z => by rw [z]; exact hws.2.2.2) id))⟩
  have hB := callB_of (R := R) (Ts := LT) (ws := Cond.code y by9 ny ret :: LT) (own := own) (index := ix) (y := y) (mc := mc1) (ms := ms1) n hts hgood rfl hrc hrs (hts _ hws.2.2.1) (hts _ hws.1) hd hR
  have hrun := vx_runS (e := e) (below := below) (meth := meth) (H := H) (locs := locs) (cells := cl) (slots := sl) (Ts := LT) (As := as.map (toV ad)) (rest := rest.map (toV ad)) (g := F0 m pc ls ((as.map (toV ad)).reverse ++ rest.map (toV ad))) ⟨hx, hb, hml, hown, hts⟩ (hM A H.size (fun q h => hA q (Nat.le_trans hS.1 h))) ⟨hB, hts _ hws.2.1⟩
    ⟨blind9, pre9 (as := as) hK hE hW hS⟩ rfl (by rw [List.length_map]; exact hn) hls rfl (rest_cat h8 _ _ _) hdec ⟨by omega, by omega⟩
  have h := run9 (Q := Q) hS hrun (fun v t1 H1 locs1 h1 h2 h3 => by
    have h4 := hk v t1 H1 locs1 h1 h2 h3
    rw [List.map_append] at h4
    exact h4) hx9
  rw [List.map_append, List.map_reverse]
  exact h
/-- Math.min, Math.max -/
theorem call_min (hx : p.tables.exec = Jvm.exec) (hb : c.code = b) (hml : c.maxLocals = nL) (hts : ∀ w ∈ LT, w.before args s = true) {own : String} (hown : s.vm.findClass own = some m.cls) {ix : Nat} (hws : Cond.methodLink own ix Lib.Math.min.name ∈ LT ∧ Cond.static Lib.Math.min.name ∈ LT ∧ Cond.initialized "java/lang/Math" ∈ LT ∧ Cond.code Lib.Math.min.name Lib.Math.min.code 2 (some .int) ∈ LT) (hR : 1 ≤ R.frames ∧ 21 ≤ R.locals) (hmc : R.cells = mc) (hms : R.slots = ms) {x y : Int32} (hk9 : k (some (.inl (if y < x then y else x))) t) : CallOK p l e R s m args below meth c Q D X ad A M nL b mc ms (.invokestatic ix) 0 0 [.inl x, .inl y] t k kx := by
  intro H locs ls pc rest cl sl hW hS hls h8 hc hs hdec hk hx9
  have h := hk _ t H locs hk9 hW hS
  exact va_mmin (rest := rest.map (toV ad)) hx hb (hml.trans hls.symm) hown (hts _ hws.1) (hts _ hws.2.1) (hts _ hws.2.2.1) (hts _ hws.2.2.2) hR.1 (by rw [cat_sum]; omega) (by omega) (by omega) hdec h
theorem call_max (hx : p.tables.exec = Jvm.exec) (hb : c.code = b) (hml : c.maxLocals = nL) (hts : ∀ w ∈ LT, w.before args s = true) {own : String} (hown : s.vm.findClass own = some m.cls) {ix : Nat} (hws : Cond.methodLink own ix Lib.Math.max.name ∈ LT ∧ Cond.static Lib.Math.max.name ∈ LT ∧ Cond.initialized "java/lang/Math" ∈ LT ∧ Cond.code Lib.Math.max.name Lib.Math.max.code 2 (some .int) ∈ LT) (hR : 1 ≤ R.frames ∧ 21 ≤ R.locals) (hmc : R.cells = mc) (hms : R.slots = ms) {x y : Int32} (hk9 : k (some (.inl (if x < y then y else x))) t) : CallOK p l e R s m args below meth c Q D X ad A M nL b mc ms (.invokestatic ix) 0 0 [.inl x, .inl y] t k kx := by
  intro H locs ls pc rest cl sl hW hS hls h8 hc hs hdec hk hx9
  have h := hk _ t H locs hk9 hW hS
  exact va_mmax (rest := rest.map (toV ad)) hx hb (hml.trans hls.symm) hown (hts _ hws.1) (hts _ hws.2.1) (hts _ hws.2.2.1) (hts _ hws.2.2.2) hR.1 (by rw [cat_sum]; omega) (by omega) (by omega) hdec h
end CLL
end
section
/-! what a body's walk rests on, in one word; tables of fields; small functions of numbers -/
def mmin (x y : Int32) : Int32 := if y < x then y else x
def mmax (x y : Int32) : Int32 := if x < y then y else x
def fldOf (l : List (Nat × Nat × Nat)) (ix : Nat) : Option (Nat × Nat) := match l with
  | [] => none
  | q :: r => bif q.1 == ix then some q.2 else fldOf r ix
def fldCk (own : String) (q : Nat × Nat × Nat) : Bool := (q.2.1 == 0 || q.2.1 == 5 || q.2.1 == 6 || q.2.1 == 7 || q.2.1 == 8) && decide (Cond.fieldLink own q.1 (TXk q.2.1 q.2.2).1 (TXk q.2.1 q.2.2).2.1 (TXk q.2.1 q.2.2).2.2.1 ∈ LT)
theorem fldOf_ok {own : String} : ∀ {l : List (Nat × Nat × Nat)} {ix : Nat} {f : Nat × Nat}, l.all (fldCk own) = true → fldOf l ix = some f → fldOK own ix f
  | [], _, _, _, h => by cases h
  | q :: r, ix, f, hl, h => by
    simp only [List.all_cons, Bool.and_eq_true] at hl
    unfold fldOf at h
    cases hq : q.1 == ix with
    | true =>
      rw [hq] at h
      cases h
      have e : q.1 = ix := by simpa using hq
      have h1 := hl.1
      unfold fldCk at h1
      simp only [Bool.and_eq_true, Bool.or_eq_true, beq_iff_eq, decide_eq_true_eq] at h1
      rw [← e]
      refine ⟨?_, h1.2⟩
      unfold isObj
      omega
    | false =>
      rw [hq] at h
      exact fldOf_ok hl.2 h
def Ready (p : Program) (l : Launch) (e : Env) (R : Room) (s : State) (m : MethodId) (args : Array Value) (below : List Frame) (meth : Method) (c : Code) (D : va_G) (X : Nat → ClassId) (ad : Nat → Nat → Nat) (A : Nat → Prop) (M : Nat → Nat → Bool) (nL : Nat) (b : ByteArray) (mc ms : Nat) (post : Option VV → TT → Prop) (px : String → TT → Prop) (own : String) (rk : Nat) (fld : Nat → Option (Nat × Nat)) (nA : Bool → Nat → Option (Nat × Nat × Nat)) (PC : Nat → List VV → TT → (Option VV → TT → Prop) → (String → TT → Prop) → Prop) (tab : Nat → Option Ent) (thr : Nat → Option String) : Prop :=
  p.tables.exec = Jvm.exec ∧ c.code = b ∧ (∀ w ∈ LT, w.before args s = true) ∧ s.vm.findClass own = some m.cls ∧ va_K D vwCl (TYX X) s ∧ (∀ x ∈ c.exceptionTable.toList, False) ∧ meth.locks = false ∧ rkOK meth rk ∧ (∀ ix f, fld ix = some f → fldOK own ix f) ∧
  (∀ (v9 : Bool) (ix n mc1 ms1 : Nat) (as : List VV) (t : TT) (k : Option VV → TT → Prop), nA v9 ix = some (n, mc1, ms1) → as.length = n → PC ix as t k px → CallOK p l e R s m args below meth c (QM below args s D X ad A M mc ms post px) D X ad A M nL b mc ms (if v9 = true then .invokevirtual ix else .invokestatic ix) mc1 ms1 as t k px) ∧
  (∀ pc en, tab pc = some en → entOK b pc en = true) ∧
  (∀ pc E, thr pc = some E → ∀ loc st t cl sl, px E t → cl + 1 ≤ mc → sl + 6 ≤ ms → st.length ≤ 8 → Wat p l e R s m args below meth c (QM below args s D X ad A M mc ms post px) D X ad A M nL pc loc st t cl sl)
theorem wp_go {p : Program} {l : Launch} {e : Env} {R : Room} {s : State} {m : MethodId} {args : Array Value} {below : List Frame} {meth : Method} {c : Code} {D : va_G} {X : Nat → ClassId} {ad : Nat → Nat → Nat} {A : Nat → Prop} {M : Nat → Nat → Bool} {nL : Nat} {b : ByteArray} {mc ms : Nat} {post : Option VV → TT → Prop} {px : String → TT → Prop} {own : String} {rk : Nat} {fld : Nat → Option (Nat × Nat)} {nA : Bool → Nat → Option (Nat × Nat × Nat)} {PC : Nat → List VV → TT → (Option VV → TT → Prop) → (String → TT → Prop) → Prop} {tab : Nat → Option Ent} {thr : Nat → Option String}
    (h : Ready p l e R s m args below meth c D X ad A M nL b mc ms post px own rk fld nA PC tab thr) {cs : Nat → Option (List (Nat × Nat × Nat) × List (Nat × Nat) × Nat × Nat)} {Bk : Nat → List VV → List VV → TT → Prop} (hB : ∀ pc q vs ws t, cs pc = some q → Bk pc vs ws t → Wat p l e R s m args below meth c (QM below args s D X ad A M mc ms post px) D X ad A M nL pc (List.zip (q.1.map (·.1)) vs) ws t q.2.2.1 q.2.2.2) :
    ∀ n pc loc st t cl sl, wp M nL tab fld nA PC thr cs Bk rk mc ms post px n pc loc st t cl sl → Wat p l e R s m args below meth c (QM below args s D X ad A M mc ms post px) D X ad A M nL pc loc st t cl sl := by
  obtain ⟨h1, h2, h3, h4, h5, h6, h7, h8, h9, h10, h11, h12⟩ := h
  exact wp_sound h1 h2 h3 h4 h5 h6 h7 h8 h9 h10 h11 h12 hB
theorem CallOK.congr {p : Program} {l : Launch} {e : Env} {R : Room} {s : State} {m : MethodId} {args : Array Value} {below : List Frame} {meth : Method} {c : Code} {Q : State → Prop} {D : va_G} {X : Nat → ClassId} {ad : Nat → Nat → Nat} {A : Nat → Prop} {M : Nat → Nat → Bool} {nL : Nat} {b : ByteArray} {mc ms : Nat} {ins : Instr} {mc1 ms1 : Nat} {as as' : List VV} {t : TT} {k : Option VV → TT → Prop} {kx : String → TT → Prop} (he : as'.map (toV ad) = as.map (toV ad)) (h : CallOK p l e R s m args below meth c Q D X ad A M nL b mc ms ins mc1 ms1 as' t k kx) : CallOK p l e R s m args below meth c Q D X ad A M nL b mc ms ins mc1 ms1 as t k kx := by
  intro H locs ls pc rest cl sl h1 h2 h3 h4 h5 h6 h7 h8 h9
  have h0 := h H locs ls pc rest cl sl h1 h2 h3 h4 h5 h6 h7 h8 h9
  rw [List.map_append, List.map_reverse, he, ← List.map_reverse, ← List.map_append] at h0
  exact h0
end
section
/-! Integer.bitCount -/
def bu9 (x k : Int32) : Int32 := (x.toUInt32 >>> (k.toUInt32 &&& Int32.toUInt32 31)).toInt32
def bc1 (x : Int32) : Int32 := x - (bu9 x 1 &&& 1431655765)
def bc2 (x : Int32) : Int32 := (x &&& 858993459) + (bu9 x 2 &&& 858993459)
def bc3 (x : Int32) : Int32 := (x + bu9 x 4) &&& 252645135
def bc4 (x k : Int32) : Int32 := x + bu9 x k
def bitc (x : Int32) : Int32 := bc4 (bc4 (bc3 (bc2 (bc1 x))) 8) 16 &&& 63
def PC_bitc (as : List VV) (t : TT) (k : Option VV → TT → Prop) : Prop := match as with
  | [.inl x] => k (some (.inl (bitc x))) t
  | _ => False
theorem ws_bitc : Cond.static yJ6_bitCount_0f7a4 ∈ LT ∧ Cond.initialized yJ6_bitCount_0f7a4.cls ∈ LT ∧ Cond.code yJ6_bitCount_0f7a4 cJ6_bitCount_0f7a4 1 (some .int) ∈ LT ∧ Cond.constant RJ6 265 1431655765 ∈ LT ∧ Cond.constant RJ6 266 858993459 ∈ LT ∧ Cond.constant RJ6 267 252645135 ∈ LT := by decide +kernel
set_option maxRecDepth 100000 in
set_option maxHeartbeats 4000000 in
theorem c_bitc {l : Launch} {D : va_G} {X : Nat → ClassId} {ad : Nat → Nat → Nat} {M : Nat → Nat → Bool} {post : Option VV → TT → Prop} {px : String → TT → Prop} (x0 : Int32) (t : TT) (h : post (some (.inl (bitc x0))) t) : CT l yJ6_bitCount_0f7a4 (Cond.code yJ6_bitCount_0f7a4 cJ6_bitCount_0f7a4 1 (some .int) :: LT) ({ frames := 0, cells := 0, slots := 0, locals := 0 } : Room) D X ad M [.inl x0] t 0 0 post px := by
  refine met_of_wp (by decide +kernel) (Nat.le_of_ble_eq_true rfl) ?_
  intro p e s m args below meth c A hx hb hml hts hown hK hnt hlocks hr hA hE H locs ls hW hS hl
  replace hl : lv_has ls 1 [(0, .int x0)] := hl
  refine lv_iload_n hx hb (show decode cJ6_bitCount_0f7a4 0 = .ok (.iload_n 0, 1) by decide +kernel) rfl (lv_at hl 0 rfl) ?_
  refine lv_iload_n hx hb (show decode cJ6_bitCount_0f7a4 1 = .ok (.iload_n 0, 1) by decide +kernel) rfl (lv_at hl 0 rfl) ?_
  refine lv_iconst (v := 1) hx hb (show decode cJ6_bitCount_0f7a4 2 = .ok (.iconst 1, 1) by decide +kernel) (by decide) ?_
  refine lv_iushr hx hb (show decode cJ6_bitCount_0f7a4 3 = .ok (.iushr, 1) by decide +kernel) rfl ?_
  refine lv_ldcw hx hb hown (hts _ ws_bitc.2.2.2.1) (show decode cJ6_bitCount_0f7a4 4 = .ok (.ldc_w 265, 3) by decide +kernel) ?_
  refine lv_iand hx hb (show decode cJ6_bitCount_0f7a4 7 = .ok (.iand, 1) by decide +kernel) ?_
  refine lv_isub hx hb (show decode cJ6_bitCount_0f7a4 8 = .ok (.isub, 1) by decide +kernel) ?_
  refine lv_topi (fun x1 e1 => ?_)
  replace e1 : x1 = bc1 x0 := e1
  refine lv_istore_n (lv' := [(0, .int x1)]) hx hb (show decode cJ6_bitCount_0f7a4 9 = .ok (.istore_n 0, 1) by decide +kernel) rfl hl (by decide) rfl (fun ls hl => ?_)
  refine lv_iload_n hx hb (show decode cJ6_bitCount_0f7a4 10 = .ok (.iload_n 0, 1) by decide +kernel) rfl (lv_at hl 0 rfl) ?_
  refine lv_ldcw hx hb hown (hts _ ws_bitc.2.2.2.2.1) (show decode cJ6_bitCount_0f7a4 11 = .ok (.ldc_w 266, 3) by decide +kernel) ?_
  refine lv_iand hx hb (show decode cJ6_bitCount_0f7a4 14 = .ok (.iand, 1) by decide +kernel) ?_
  refine lv_iload_n hx hb (show decode cJ6_bitCount_0f7a4 15 = .ok (.iload_n 0, 1) by decide +kernel) rfl (lv_at hl 0 rfl) ?_
  refine lv_iconst (v := 2) hx hb (show decode cJ6_bitCount_0f7a4 16 = .ok (.iconst 2, 1) by decide +kernel) (by decide) ?_
  refine lv_iushr hx hb (show decode cJ6_bitCount_0f7a4 17 = .ok (.iushr, 1) by decide +kernel) rfl ?_
  refine lv_ldcw hx hb hown (hts _ ws_bitc.2.2.2.2.1) (show decode cJ6_bitCount_0f7a4 18 = .ok (.ldc_w 266, 3) by decide +kernel) ?_
  refine lv_iand hx hb (show decode cJ6_bitCount_0f7a4 21 = .ok (.iand, 1) by decide +kernel) ?_
  refine lv_iadd hx hb (show decode cJ6_bitCount_0f7a4 22 = .ok (.iadd, 1) by decide +kernel) ?_
  refine lv_topi (fun x2 e2 => ?_)
  replace e2 : x2 = bc2 x1 := e2
  refine lv_istore_n (lv' := [(0, .int x2)]) hx hb (show decode cJ6_bitCount_0f7a4 23 = .ok (.istore_n 0, 1) by decide +kernel) rfl hl (by decide) rfl (fun ls hl => ?_)
  refine lv_iload_n hx hb (show decode cJ6_bitCount_0f7a4 24 = .ok (.iload_n 0, 1) by decide +kernel) rfl (lv_at hl 0 rfl) ?_
  refine lv_iload_n hx hb (show decode cJ6_bitCount_0f7a4 25 = .ok (.iload_n 0, 1) by decide +kernel) rfl (lv_at hl 0 rfl) ?_
  refine lv_iconst (v := 4) hx hb (show decode cJ6_bitCount_0f7a4 26 = .ok (.iconst 4, 1) by decide +kernel) (by decide) ?_
  refine lv_iushr hx hb (show decode cJ6_bitCount_0f7a4 27 = .ok (.iushr, 1) by decide +kernel) rfl ?_
  refine lv_iadd hx hb (show decode cJ6_bitCount_0f7a4 28 = .ok (.iadd, 1) by decide +kernel) ?_
  refine lv_ldcw hx hb hown (hts _ ws_bitc.2.2.2.2.2) (show decode cJ6_bitCount_0f7a4 29 = .ok (.ldc_w 267, 3) by decide +kernel) ?_
  refine lv_iand hx hb (show decode cJ6_bitCount_0f7a4 32 = .ok (.iand, 1) by decide +kernel) ?_
  refine lv_topi (fun x3 e3 => ?_)
  replace e3 : x3 = bc3 x2 := e3
  refine lv_istore_n (lv' := [(0, .int x3)]) hx hb (show decode cJ6_bitCount_0f7a4 33 = .ok (.istore_n 0, 1) by decide +kernel) rfl hl (by decide) rfl (fun ls hl => ?_)
  refine lv_iload_n hx hb (show decode cJ6_bitCount_0f7a4 34 = .ok (.iload_n 0, 1) by decide +kernel) rfl (lv_at hl 0 rfl) ?_
  refine lv_iload_n hx hb (show decode cJ6_bitCount_0f7a4 35 = .ok (.iload_n 0, 1) by decide +kernel) rfl (lv_at hl 0 rfl) ?_
  refine lv_bipush (v := 8) hx hb (show decode cJ6_bitCount_0f7a4 36 = .ok (.bipush 8, 2) by decide +kernel) (by decide) ?_
  refine lv_iushr hx hb (show decode cJ6_bitCount_0f7a4 38 = .ok (.iushr, 1) by decide +kernel) rfl ?_
  refine lv_iadd hx hb (show decode cJ6_bitCount_0f7a4 39 = .ok (.iadd, 1) by decide +kernel) ?_
  refine lv_topi (fun x4 e4 => ?_)
  replace e4 : x4 = bc4 x3 8 := e4
  refine lv_istore_n (lv' := [(0, .int x4)]) hx hb (show decode cJ6_bitCount_0f7a4 40 = .ok (.istore_n 0, 1) by decide +kernel) rfl hl (by decide) rfl (fun ls hl => ?_)
  refine lv_iload_n hx hb (show decode cJ6_bitCount_0f7a4 41 = .ok (.iload_n 0, 1) by decide +kernel) rfl (lv_at hl 0 rfl) ?_
  refine lv_iload_n hx hb (show decode cJ6_bitCount_0f7a4 42 = .ok (.iload_n 0, 1) by decide +kernel) rfl (lv_at hl 0 rfl) ?_
  refine lv_bipush (v := 16) hx hb (show decode cJ6_bitCount_0f7a4 43 = .ok (.bipush 16, 2) by decide +kernel) (by decide) ?_
  refine lv_iushr hx hb (show decode cJ6_bitCount_0f7a4 45 = .ok (.iushr, 1) by decide +kernel) rfl ?_
  refine lv_iadd hx hb (show decode cJ6_bitCount_0f7a4 46 = .ok (.iadd, 1) by decide +kernel) ?_
  refine lv_topi (fun x5 e5 => ?_)
  replace e5 : x5 = bc4 x4 16 := e5
  refine lv_istore_n (lv' := [(0, .int x5)]) hx hb (show decode cJ6_bitCount_0f7a4 47 = .ok (.istore_n 0, 1) by decide +kernel) rfl hl (by decide) rfl (fun ls hl => ?_)
  refine lv_iload_n hx hb (show decode cJ6_bitCount_0f7a4 48 = .ok (.iload_n 0, 1) by decide +kernel) rfl (lv_at hl 0 rfl) ?_
  refine lv_bipush (v := 63) hx hb (show decode cJ6_bitCount_0f7a4 49 = .ok (.bipush 63, 2) by decide +kernel) (by decide) ?_
  refine lv_iand hx hb (show decode cJ6_bitCount_0f7a4 51 = .ok (.iand, 1) by decide +kernel) ?_
  have hv : x5 &&& 63 = bitc x0 := by rw [e5, e4, e3, e2, e1]; rfl
  rw [hv]
  exact end_int (rk := 1) (loc := [(0, .inl x5)]) hx hb hr hlocks (show decode cJ6_bitCount_0f7a4 52 = .ok (.ireturn, 1) by decide +kernel) (Or.inl rfl) (Nat.le_refl 0) (Nat.le_refl 0) h H locs ls hW hS hl
theorem k_bitc {p : Program} {l : Launch} {e : Env} {R : Room} {s : State} {m : MethodId} {args : Array Value} {below : List Frame} {meth : Method} {c : Code} {Q : State → Prop} {D : va_G} {X : Nat → ClassId} {ad : Nat → Nat → Nat} {A : Nat → Prop} {M : Nat → Nat → Bool} {nL : Nat} {b : ByteArray} {mc ms : Nat} {k : Option VV → TT → Prop} {kx : String → TT → Prop} {t : TT} {as : List VV} (hx : p.tables.exec = Jvm.exec) (hb : c.code = b) (hml : c.maxLocals = nL) (hts : ∀ w ∈ LT, w.before args s = true) {own : String} (hown : s.vm.findClass own = some m.cls) (hK : va_K D vwCl (TYX X) s) (hA : ∀ q, s.heap.size ≤ q → A q) (hE : EX A s) (hst9 : l.stackTraces = false) {ix : Nat} (hl9 : Cond.methodLink own ix yJ6_bitCount_0f7a4 ∈ LT) (hR : 1 ≤ R.frames ∧ 20 ≤ R.locals) (hmc : R.cells = mc) (hms : R.slots = ms) (h : PC_bitc as t k) : CallOK p l e R s m args below meth c Q D X ad A M nL b mc ms (.invokestatic ix) 0 0 as t k kx := by
  unfold PC_bitc at h
  split at h
  · exact call_S hx hb hml hts hown hK hA hE (c_bitc _ t h) ⟨hl9, ws_bitc.1, ws_bitc.2.1, ws_bitc.2.2.1⟩ (n := 1) (by decide +kernel) hR rfl rfl hmc hms rfl
  · exact h.elim
def PC_mmin (as : List VV) (t : TT) (k : Option VV → TT → Prop) : Prop := match as with
  | [.inl x, .inl y] => k (some (.inl (mmin x y))) t
  | _ => False
theorem ws_mmin : Cond.static Lib.Math.min.name ∈ LT ∧ Cond.initialized "java/lang/Math" ∈ LT ∧ Cond.code Lib.Math.min.name Lib.Math.min.code 2 (some .int) ∈ LT := by decide +kernel
theorem k_mmin {p : Program} {l : Launch} {e : Env} {R : Room} {s : State} {m : MethodId} {args : Array Value} {below : List Frame} {meth : Method} {c : Code} {Q : State → Prop} {D : va_G} {X : Nat → ClassId} {ad : Nat → Nat → Nat} {A : Nat → Prop} {M : Nat → Nat → Bool} {nL : Nat} {b : ByteArray} {mc ms : Nat} {k : Option VV → TT → Prop} {kx : String → TT → Prop} {t : TT} {as : List VV} (hx : p.tables.exec = Jvm.exec) (hb : c.code = b) (hml : c.maxLocals = nL) (hts : ∀ w ∈ LT, w.before args s = true) {own : String} (hown : s.vm.findClass own = some m.cls) {ix : Nat} (hl9 : Cond.methodLink own ix Lib.Math.min.name ∈ LT) (hR : 1 ≤ R.frames ∧ 21 ≤ R.locals) (hmc : R.cells = mc) (hms : R.slots = ms) (h : PC_mmin as t k) : CallOK p l e R s m args below meth c Q D X ad A M nL b mc ms (.invokestatic ix) 0 0 as t k kx := by
  unfold PC_mmin at h
  split at h
  · exact call_min hx hb hml hts hown ⟨hl9, ws_mmin⟩ hR hmc hms h
  · exact h.elim
def PC_mmax (as : List VV) (t : TT) (k : Option VV → TT → Prop) : Prop := match as with
  | [.inl x, .inl y] => k (some (.inl (mmax x y))) t
  | _ => False
theorem ws_mmax : Cond.static Lib.Math.max.name ∈ LT ∧ Cond.initialized "java/lang/Math" ∈ LT ∧ Cond.code Lib.Math.max.name Lib.Math.max.code 2 (some .int) ∈ LT := by decide +kernel
theorem k_mmax {p : Program} {l : Launch} {e : Env} {R : Room} {s : State} {m : MethodId} {args : Array Value} {below : List Frame} {meth : Method} {c : Code} {Q : State → Prop} {D : va_G} {X : Nat → ClassId} {ad : Nat → Nat → Nat} {A : Nat → Prop} {M : Nat → Nat → Bool} {nL : Nat} {b : ByteArray} {mc ms : Nat} {k : Option VV → TT → Prop} {kx : String → TT → Prop} {t : TT} {as : List VV} (hx : p.tables.exec = Jvm.exec) (hb : c.code = b) (hml : c.maxLocals = nL) (hts : ∀ w ∈ LT, w.before args s = true) {own : String} (hown : s.vm.findClass own = some m.cls) {ix : Nat} (hl9 : Cond.methodLink own ix Lib.Math.max.name ∈ LT) (hR : 1 ≤ R.frames ∧ 21 ≤ R.locals) (hmc : R.cells = mc) (hms : R.slots = ms) (h : PC_mmax as t k) : CallOK p l e R s m args below meth c Q D X ad A M nL b mc ms (.invokestatic ix) 0 0 as t k kx := by
  unfold PC_mmax at h
  split at h
  · exact call_max hx hb hml hts hown ⟨hl9, ws_mmax⟩ hR hmc hms h
  · exact h.elim
end
section
/-! printed (wip/p26/gen26.py): what must hold that each method comes to its end -/
def P_X1_tell (M : Nat → Nat → Bool) (post : Int32 → TT → Prop) (px : String → TT → Prop) (o0 : Nat) (a1 : Int32) (t : TT) : Prop := if a1 = nI 0 then (M 5 o0 = true ∧ (post ((t 4 o0)) t)) else (if a1 = nI 1 then (M 5 o0 = true ∧ (post ((t 6 o0)) t)) else (if a1 = nI 2 then (M 5 o0 = true ∧ (post ((t 7 o0)) t)) else (M 5 o0 = true ∧ (post ((t 9 o0)) t))))
def B_X1_countDeparture_17 (M : Nat → Nat → Bool) (post : TT → Prop) (px : String → TT → Prop) (o0 : Nat) (a1 : Int32) (t : TT) : Prop := M 5 o0 = true ∧ (M 5 o0 = true ∧ (M 5 o0 = true ∧ (post (up2 (up2 t 7 o0 (((t 7 o0) + 1))) 8 o0 a1))))
def P_X1_countDeparture (M : Nat → Nat → Bool) (post : TT → Prop) (px : String → TT → Prop) (o0 : Nat) (a1 : Int32) (t : TT) : Prop := M 5 o0 = true ∧ (if (t 7 o0) ≤ 0 then (B_X1_countDeparture_17 M post px o0 a1 t) else (M 5 o0 = true ∧ (M 5 o0 = true ∧ (B_X1_countDeparture_17 M post px o0 a1 (up2 t 9 o0 ((a1 - (t 8 o0))))))))
def B_X2_tell_93 (M : Nat → Nat → Bool) (post : Int32 → TT → Prop) (px : String → TT → Prop) (s0 : Int32) (t : TT) : Prop := post s0 t
def B_X2_tell_106 (M : Nat → Nat → Bool) (post : Int32 → TT → Prop) (px : String → TT → Prop) (s0 : Int32) (t : TT) : Prop := post s0 t
def B_X2_tell_125 (M : Nat → Nat → Bool) (post : Int32 → TT → Prop) (px : String → TT → Prop) (s0 : Int32) (t : TT) : Prop := post s0 t
def P_X2_tell (M : Nat → Nat → Bool) (post : Int32 → TT → Prop) (px : String → TT → Prop) (o0 : Nat) (a1 : Int32) (t : TT) : Prop := if a1 = nI 0 then (M 8 o0 = true ∧ (post ((t 19 o0)) t)) else (if a1 = nI 1 then (M 8 o0 = true ∧ (post ((t 20 o0)) t)) else (if a1 = nI 2 then (M 8 o0 = true ∧ (post ((t 21 o0)) t)) else (if a1 = nI 3 then (M 8 o0 = true ∧ (post ((t 22 o0)) t)) else (if a1 = nI 4 then (M 8 o0 = true ∧ (post ((t 23 o0)) t)) else (if a1 = nI 5 then (M 8 o0 = true ∧ (if (t 33 o0) = 0 then (B_X2_tell_93 M post px 0 t) else (B_X2_tell_93 M post px 1 t))) else (if a1 = nI 6 then (M 8 o0 = true ∧ (if (t 34 o0) = 0 then (B_X2_tell_106 M post px 0 t) else (B_X2_tell_106 M post px 1 t))) else (if a1 = nI 7 then (M 8 o0 = true ∧ (if (t 26 o0) = -1 then (B_X2_tell_125 M post px ((-1)) t) else (M 8 o0 = true ∧ (¬ (t 26 o0) = -1 ∧ (M 5 (((t 26 o0)).toNatClampNeg) = true ∧ (B_X2_tell_125 M post px ((t 40 (((t 26 o0)).toNatClampNeg))) t)))))) else (if a1 = nI 8 then (M 8 o0 = true ∧ (post ((t 27 o0)) t)) else (if a1 = nI 9 then (M 8 o0 = true ∧ (post ((t 28 o0)) t)) else (M 8 o0 = true ∧ (post ((t 29 o0)) t)))))))))))
def P_X2_wayToStop (M : Nat → Nat → Bool) (post : Int32 → TT → Prop) (px : String → TT → Prop) (a0 : Int32) (t : TT) : Prop := ¬ (2 : Int32) = 0 ∧ (post ((((a0 * (a0 + 1)) / 2) + a0)) t)
def B_X2_keeps_37 (M : Nat → Nat → Bool) (post : Int32 → TT → Prop) (px : String → TT → Prop) (s0 : Int32) (t : TT) : Prop := isB s0 ∧ post s0 t
def B_X2_keeps_26 (M : Nat → Nat → Bool) (post : Int32 → TT → Prop) (px : String → TT → Prop) (a1 : Int32) (s0 : Int32) (t : TT) : Prop := if a1 < s0 then (B_X2_keeps_37 M post px 0 t) else (B_X2_keeps_37 M post px 1 t)
def P_X2_keeps (M : Nat → Nat → Bool) (post : Int32 → TT → Prop) (px : String → TT → Prop) (o0 : Nat) (a1 : Int32) (t : TT) : Prop := M 8 o0 = true ∧ (if (t 34 o0) = 0 then (M 8 o0 = true ∧ (M 8 o0 = true ∧ (P_X2_wayToStop M (fun r1 t1 => B_X2_keeps_26 M post px a1 (((t 21 o0) + r1)) t1) px ((t 22 o0)) t))) else (M 8 o0 = true ∧ (B_X2_keeps_26 M post px a1 ((t 23 o0)) t)))
def B_X2_mayCover_24 (M : Nat → Nat → Bool) (post : Int32 → TT → Prop) (px : String → TT → Prop) (s0 : Int32) (t : TT) : Prop := isB s0 ∧ post s0 t
def B_X2_mayCover_23 (M : Nat → Nat → Bool) (post : Int32 → TT → Prop) (px : String → TT → Prop) (t : TT) : Prop := B_X2_mayCover_24 M post px 0 t
def P_X2_mayCover (M : Nat → Nat → Bool) (post : Int32 → TT → Prop) (px : String → TT → Prop) (o0 : Nat) (a1 : Int32) (a2 : Int32) (t : TT) : Prop := M 8 o0 = true ∧ (if a2 < ((t 20 o0) - 100) then (B_X2_mayCover_23 M post px t) else (M 8 o0 = true ∧ (if (t 21 o0) < a1 then (B_X2_mayCover_23 M post px t) else (B_X2_mayCover_24 M post px 1 t))))
def B_X2_isInItsBounds_38 (M : Nat → Nat → Bool) (post : Int32 → TT → Prop) (px : String → TT → Prop) (s0 : Int32) (t : TT) : Prop := isB s0 ∧ post s0 t
def B_X2_isInItsBounds_37 (M : Nat → Nat → Bool) (post : Int32 → TT → Prop) (px : String → TT → Prop) (t : TT) : Prop := B_X2_isInItsBounds_38 M post px 0 t
def P_X2_isInItsBounds (M : Nat → Nat → Bool) (post : Int32 → TT → Prop) (px : String → TT → Prop) (o0 : Nat) (t : TT) : Prop := M 8 o0 = true ∧ (M 8 o0 = true ∧ (if (t 19 o0) < (t 20 o0) then (B_X2_isInItsBounds_37 M post px t) else (M 8 o0 = true ∧ (M 8 o0 = true ∧ (if (t 21 o0) < (t 19 o0) then (B_X2_isInItsBounds_37 M post px t) else (M 8 o0 = true ∧ (M 8 o0 = true ∧ (if (t 23 o0) < (t 21 o0) then (B_X2_isInItsBounds_37 M post px t) else (B_X2_isInItsBounds_38 M post px 1 t)))))))))
def B_X2_hasOpenDoors_13 (M : Nat → Nat → Bool) (post : Int32 → TT → Prop) (px : String → TT → Prop) (s0 : Int32) (t : TT) : Prop := isB s0 ∧ post s0 t
def P_X2_hasOpenDoors (M : Nat → Nat → Bool) (post : Int32 → TT → Prop) (px : String → TT → Prop) (o0 : Nat) (t : TT) : Prop := M 8 o0 = true ∧ (if (t 27 o0) = (-1) then (B_X2_hasOpenDoors_13 M post px 0 t) else (B_X2_hasOpenDoors_13 M post px 1 t))
def B_X2_isAtStop_51 (M : Nat → Nat → Bool) (post : Int32 → TT → Prop) (px : String → TT → Prop) (s0 : Int32) (t : TT) : Prop := isB s0 ∧ post s0 t
def B_X2_isAtStop_50 (M : Nat → Nat → Bool) (post : Int32 → TT → Prop) (px : String → TT → Prop) (t : TT) : Prop := B_X2_isAtStop_51 M post px 0 t
def P_X2_isAtStop (M : Nat → Nat → Bool) (post : Int32 → TT → Prop) (px : String → TT → Prop) (o0 : Nat) (t : TT) : Prop := M 8 o0 = true ∧ (if (t 26 o0) = -1 then (B_X2_isAtStop_50 M post px t) else (M 8 o0 = true ∧ (if (t 22 o0) = 0 then (M 8 o0 = true ∧ (M 8 o0 = true ∧ (¬ (t 26 o0) = -1 ∧ (M 5 (((t 26 o0)).toNatClampNeg) = true ∧ (if (t 20 o0) < ((t 4 (((t 26 o0)).toNatClampNeg)) - 1) then (B_X2_isAtStop_50 M post px t) else (M 8 o0 = true ∧ (M 8 o0 = true ∧ (¬ (t 26 o0) = -1 ∧ (M 5 (((t 26 o0)).toNatClampNeg) = true ∧ (if ((t 4 (((t 26 o0)).toNatClampNeg)) + 1) < (t 21 o0) then (B_X2_isAtStop_50 M post px t) else (B_X2_isAtStop_51 M post px 1 t))))))))))) else (B_X2_isAtStop_50 M post px t))))
def B_X2_canDepart_26 (M : Nat → Nat → Bool) (post : Int32 → TT → Prop) (px : String → TT → Prop) (s0 : Int32) (t : TT) : Prop := isB s0 ∧ post s0 t
def B_X2_canDepart_25 (M : Nat → Nat → Bool) (post : Int32 → TT → Prop) (px : String → TT → Prop) (t : TT) : Prop := B_X2_canDepart_26 M post px 0 t
def P_X2_canDepart (M : Nat → Nat → Bool) (post : Int32 → TT → Prop) (px : String → TT → Prop) (o0 : Nat) (t : TT) : Prop := M 8 o0 = true ∧ (P_X2_isAtStop M (fun r1 t1 => if r1 = 0 then (B_X2_canDepart_25 M post px t1) else (M 8 o0 = true ∧ (P_X2_hasOpenDoors M (fun r2 t2 => if r2 = 0 then (M 8 o0 = true ∧ (if (t2 29 o0) = 0 then (B_X2_canDepart_26 M post px 1 t2) else (B_X2_canDepart_25 M post px t2))) else (B_X2_canDepart_25 M post px t2)) px o0 t1))) px o0 t)
def B_X2_greatestSpeed_74 (M : Nat → Nat → Bool) (post : Int32 → TT → Prop) (px : String → TT → Prop) (a3 : Int32) (t : TT) : Prop := post a3 t
def L_X2_greatestSpeed_51 (M : Nat → Nat → Bool) (post : Int32 → TT → Prop) (px : String → TT → Prop) : Nat → Nat → Int32 → Int32 → TT → Prop
  | 0 => fun _ _ _ _ => False
  | n + 1 => fun o0 a2 a3 t => if a3 ≤ 0 then (B_X2_greatestSpeed_74 M post px a3 t) else (M 8 o0 = true ∧ (P_X2_wayToStop M (fun r1 t1 => if ((t 21 o0) + r1) ≤ a2 then (B_X2_greatestSpeed_74 M post px a3 t1) else (L_X2_greatestSpeed_51 M post px n o0 a2 ((a3 + (-1))) t1)) px a3 t))
def B_X2_greatestSpeed_30 (M : Nat → Nat → Bool) (post : Int32 → TT → Prop) (px : String → TT → Prop) (o0 : Nat) (a1 : Int32) (s0 : Int32) (t : TT) : Prop := M 8 o0 = true ∧ (M 8 o0 = true ∧ (∃ n9, L_X2_greatestSpeed_51 M post px n9 o0 s0 ((mmin (((t 22 o0) + 1)) ((mmax a1 (((t 22 o0) - 1)))))) t))
def P_X2_greatestSpeed (M : Nat → Nat → Bool) (post : Int32 → TT → Prop) (px : String → TT → Prop) (o0 : Nat) (a1 : Int32) (t : TT) : Prop := M 8 o0 = true ∧ (if (t 26 o0) = -1 then (M 8 o0 = true ∧ (B_X2_greatestSpeed_30 M post px o0 a1 ((t 23 o0)) t)) else (M 8 o0 = true ∧ (M 8 o0 = true ∧ (¬ (t 26 o0) = -1 ∧ (M 5 (((t 26 o0)).toNatClampNeg) = true ∧ (B_X2_greatestSpeed_30 M post px o0 a1 ((mmin ((t 23 o0)) (((t 4 (((t 26 o0)).toNatClampNeg)) + 1)))) t))))))
def B_X2_findSpeed_71 (M : Nat → Nat → Bool) (post : TT → Prop) (px : String → TT → Prop) (t : TT) : Prop := post t
def B_X2_findSpeed_54 (M : Nat → Nat → Bool) (post : TT → Prop) (px : String → TT → Prop) (o0 : Nat) (t : TT) : Prop := M 8 o0 = true ∧ (B_X2_findSpeed_71 M post px (up2 t 22 o0 0))
def B_X2_findSpeed_34 (M : Nat → Nat → Bool) (post : TT → Prop) (px : String → TT → Prop) (s0 : Int32) (u1 : Nat) (t : TT) : Prop := M 8 u1 = true ∧ (isB s0 ∧ (B_X2_findSpeed_71 M post px (up2 t 33 u1 s0)))
def P_X2_findSpeed (M : Nat → Nat → Bool) (post : TT → Prop) (px : String → TT → Prop) (o0 : Nat) (a1 : Int32) (t : TT) : Prop := M 8 o0 = true ∧ (if (t 33 o0) = 0 then (M 8 o0 = true ∧ (P_X2_hasOpenDoors M (fun r1 t1 => if r1 = 0 then (M 8 o0 = true ∧ (if (t1 29 o0) ≤ 0 then (M 8 o0 = true ∧ (P_X2_greatestSpeed M (fun r2 t2 => M 8 o0 = true ∧ (B_X2_findSpeed_71 M post px (up2 t2 22 o0 r2))) px o0 a1 t1)) else (B_X2_findSpeed_54 M post px o0 t1))) else (B_X2_findSpeed_54 M post px o0 t1)) px o0 t)) else (M 8 o0 = true ∧ (M 8 o0 = true ∧ (M 8 o0 = true ∧ (if ((up2 t 22 o0 ((mmax (((t 22 o0) - 3)) 0))) 22 o0) ≤ 0 then (B_X2_findSpeed_34 M post px 0 o0 (up2 t 22 o0 ((mmax (((t 22 o0) - 3)) 0)))) else (B_X2_findSpeed_34 M post px 1 o0 (up2 t 22 o0 ((mmax (((t 22 o0) - 3)) 0)))))))))
def B_X2_go_100 (M : Nat → Nat → Bool) (post : TT → Prop) (px : String → TT → Prop) (t : TT) : Prop := post t
def B_X2_go_59 (M : Nat → Nat → Bool) (post : TT → Prop) (px : String → TT → Prop) (o0 : Nat) (a1 : Int32) (a2 : Int32) (t : TT) : Prop := if a1 < 0 then (B_X2_go_100 M post px t) else (M 8 o0 = true ∧ (M 9 o0 = true ∧ (if 1000 ≤ a1 then (B_X2_go_100 M post px t) else (M 8 o0 = true ∧ (M 10 o0 = true ∧ (if 1000 ≤ a1 then (B_X2_go_100 M post px t) else (M 8 o0 = true ∧ (M 8 o0 = true ∧ ((M 9 o0 = true ∧ vp_in a1 1000) ∧ (M 8 o0 = true ∧ ((M 10 o0 = true ∧ vp_in a1 1000) ∧ (B_X2_go_100 M post px (up2 (up2 t 35 (1000 * o0 + a1.toNatClampNeg) (vp_nar .byte (((t 22 o0)).toInt8.toInt32))) 36 (1000 * o0 + a1.toNatClampNeg) (vp_nar .byte a2.toInt8.toInt32))))))))))))))
def P_X2_go (M : Nat → Nat → Bool) (post : TT → Prop) (px : String → TT → Prop) (o0 : Nat) (a1 : Int32) (t : TT) : Prop := M 8 o0 = true ∧ (if (t 22 o0) ≤ 0 then (B_X2_go_59 M post px o0 a1 0 t) else (M 8 o0 = true ∧ (M 8 o0 = true ∧ (M 8 o0 = true ∧ (M 8 o0 = true ∧ (M 8 o0 = true ∧ (M 8 o0 = true ∧ (M 8 o0 = true ∧ (M 8 o0 = true ∧ (M 8 o0 = true ∧ (M 8 o0 = true ∧ (B_X2_go_59 M post px o0 a1 (((t 22 o0) + (t 25 o0))) (up2 (up2 (up2 t 19 o0 (((t 19 o0) + ((t 22 o0) + (t 25 o0))))) 20 o0 ((((up2 t 19 o0 (((t 19 o0) + ((t 22 o0) + (t 25 o0))))) 20 o0) + (((up2 t 19 o0 (((t 19 o0) + ((t 22 o0) + (t 25 o0))))) 22 o0) - 1)))) 21 o0 ((((up2 (up2 t 19 o0 (((t 19 o0) + ((t 22 o0) + (t 25 o0))))) 20 o0 ((((up2 t 19 o0 (((t 19 o0) + ((t 22 o0) + (t 25 o0))))) 20 o0) + (((up2 t 19 o0 (((t 19 o0) + ((t 22 o0) + (t 25 o0))))) 22 o0) - 1)))) 21 o0) + (((up2 (up2 t 19 o0 (((t 19 o0) + ((t 22 o0) + (t 25 o0))))) 20 o0 ((((up2 t 19 o0 (((t 19 o0) + ((t 22 o0) + (t 25 o0))))) 20 o0) + (((up2 t 19 o0 (((t 19 o0) + ((t 22 o0) + (t 25 o0))))) 22 o0) - 1)))) 22 o0) + 1))))))))))))))))
def B_X2_playAgain_41 (M : Nat → Nat → Bool) (post : Int32 → TT → Prop) (px : String → TT → Prop) (a2 : Int32) (t : TT) : Prop := post a2 t
def L_X2_playAgain_12 (M : Nat → Nat → Bool) (post : Int32 → TT → Prop) (px : String → TT → Prop) : Nat → Nat → Int32 → Int32 → Int32 → TT → Prop
  | 0 => fun _ _ _ _ _ => False
  | n + 1 => fun o0 a1 a2 a3 t => if a1 < a3 then (B_X2_playAgain_41 M post px a2 t) else (M 8 o0 = true ∧ (M 10 o0 = true ∧ (if 1000 ≤ a3 then (B_X2_playAgain_41 M post px a2 t) else (M 8 o0 = true ∧ ((M 10 o0 = true ∧ vp_in a3 1000) ∧ (L_X2_playAgain_12 M post px n o0 a1 ((a2 + (t 36 (1000 * o0 + a3.toNatClampNeg)))) ((a3 + 1)) t))))))
def P_X2_playAgain (M : Nat → Nat → Bool) (post : Int32 → TT → Prop) (px : String → TT → Prop) (o0 : Nat) (a1 : Int32) (t : TT) : Prop := M 8 o0 = true ∧ (M 8 o0 = true ∧ (∃ n9, L_X2_playAgain_12 M post px n9 o0 a1 ((t 31 o0)) (((t 32 o0) + 1)) t))
def B_X2_openDoors_19 (M : Nat → Nat → Bool) (post : TT → Prop) (px : String → TT → Prop) (o0 : Nat) (a1 : Int32) (s0 : Int32) (t : TT) : Prop := M 8 o0 = true ∧ (M 8 o0 = true ∧ (M 8 o0 = true ∧ (M 8 o0 = true ∧ (post (up2 (up2 t 27 o0 ((15 &&& (((t 30 o0) ||| s0) ^^^ (-1))))) 28 o0 ((mmax ((((up2 t 27 o0 ((15 &&& (((t 30 o0) ||| s0) ^^^ (-1))))) 28 o0) - a1)) 0)))))))
def P_X2_openDoors (M : Nat → Nat → Bool) (post : TT → Prop) (px : String → TT → Prop) (o0 : Nat) (a1 : Int32) (t : TT) : Prop := M 8 o0 = true ∧ (if (t 26 o0) = -1 then (B_X2_openDoors_19 M post px o0 a1 15 t) else (M 8 o0 = true ∧ (¬ (t 26 o0) = -1 ∧ (M 5 (((t 26 o0)).toNatClampNeg) = true ∧ (B_X2_openDoors_19 M post px o0 a1 ((t 10 (((t 26 o0)).toNatClampNeg))) t)))))
def B_X2_takePeople_69 (M : Nat → Nat → Bool) (post : TT → Prop) (px : String → TT → Prop) (t : TT) : Prop := post t
def P_X2_takePeople (M : Nat → Nat → Bool) (post : TT → Prop) (px : String → TT → Prop) (o0 : Nat) (t : TT) : Prop := M 8 o0 = true ∧ (if (t 26 o0) = -1 then (B_X2_takePeople_69 M post px t) else (M 8 o0 = true ∧ (P_X2_hasOpenDoors M (fun r1 t1 => if r1 = 0 then (B_X2_takePeople_69 M post px t1) else (M 8 o0 = true ∧ (M 8 o0 = true ∧ (¬ (t1 26 o0) = -1 ∧ (M 5 (((t1 26 o0)).toNatClampNeg) = true ∧ (M 8 o0 = true ∧ (M 8 o0 = true ∧ (¬ (t1 26 o0) = -1 ∧ (M 5 (((t1 26 o0)).toNatClampNeg) = true ∧ (¬ (t1 26 o0) = -1 ∧ (M 5 (((t1 26 o0)).toNatClampNeg) = true ∧ (M 8 o0 = true ∧ (M 8 o0 = true ∧ (B_X2_takePeople_69 M post px (up2 (up2 t1 6 (((t1 26 o0)).toNatClampNeg) (((t1 6 (((t1 26 o0)).toNatClampNeg)) - (mmin ((2 * (bitc ((t1 27 o0))))) ((mmin ((t1 6 (((t1 26 o0)).toNatClampNeg))) ((120 - (t1 28 o0))))))))) 28 o0 ((((up2 t1 6 (((t1 26 o0)).toNatClampNeg) (((t1 6 (((t1 26 o0)).toNatClampNeg)) - (mmin ((2 * (bitc ((t1 27 o0))))) ((mmin ((t1 6 (((t1 26 o0)).toNatClampNeg))) ((120 - (t1 28 o0))))))))) 28 o0) + (mmin ((2 * (bitc ((t1 27 o0))))) ((mmin ((t1 6 (((t1 26 o0)).toNatClampNeg))) ((120 - (t1 28 o0))))))))))))))))))))))) px o0 t)))
def B_X4_askNumber_9 (M : Nat → Nat → Bool) (post : TT → Prop) (px : String → TT → Prop) (t : TT) : Prop := False
def P_X4_askNumber (M : Nat → Nat → Bool) (post : TT → Prop) (px : String → TT → Prop) (a0 : Int32) (a1 : Int32) (t : TT) : Prop := if a0 < 0 then (B_X4_askNumber_9 M post px t) else (if a0 < a1 then (post t) else (B_X4_askNumber_9 M post px t))
def P_X4_works (M : Nat → Nat → Bool) (post : Int32 → TT → Prop) (px : String → TT → Prop) (o0 : Nat) (a1 : Int32) (a2 : Int32) (t : TT) : Prop := M 0 o0 = true ∧ (P_X4_askNumber M (fun t1 => M 0 o0 = true ∧ ((M 2 0 = true ∧ vp_in a1 12 ∧ M 6 a1.toNatClampNeg = true) ∧ (M 6 a1.toNatClampNeg = true ∧ (M 6 a1.toNatClampNeg = true ∧ (isB a2 ∧ (isB ((t1 13 a1.toNatClampNeg)) ∧ post ((t1 13 a1.toNatClampNeg)) (up2 t1 13 a1.toNatClampNeg a2))))))) px a1 ((t 11 o0)) t)
def P_X4_askThat (M : Nat → Nat → Bool) (post : TT → Prop) (px : String → TT → Prop) (a0 : Int32) (t : TT) : Prop := if a0 = 0 then (False) else (post t)
def B_X4_canBeClosed_58 (M : Nat → Nat → Bool) (post : Int32 → TT → Prop) (px : String → TT → Prop) (k2 : Nat → Nat → Int32 → TT → Prop) (o0 : Nat) (o1 : Nat) (a2 : Int32) (t : TT) : Prop := k2 o0 o1 ((a2 + 1)) t
def L_X4_canBeClosed_2 (M : Nat → Nat → Bool) (post : Int32 → TT → Prop) (px : String → TT → Prop) : Nat → Nat → Nat → Int32 → TT → Prop
  | 0 => fun _ _ _ _ => False
  | n + 1 => fun o0 o1 a2 t => M 0 o0 = true ∧ (if (t 18 o0) ≤ a2 then (isB 1 ∧ post 1 t) else (M 0 o0 = true ∧ ((M 4 0 = true ∧ vp_in a2 5 ∧ M 8 a2.toNatClampNeg = true) ∧ (M 7 o1 = true ∧ (M 7 o1 = true ∧ (M 8 a2.toNatClampNeg = true ∧ (P_X2_mayCover M (fun r1 t1 => if r1 = 0 then (M 8 a2.toNatClampNeg = true ∧ (M 7 o1 = true ∧ (if (t1 15 o1) ≤ (t1 21 a2.toNatClampNeg) then (B_X4_canBeClosed_58 M post px (L_X4_canBeClosed_2 M post px n) o0 o1 a2 t1) else (M 7 o1 = true ∧ (M 8 a2.toNatClampNeg = true ∧ (P_X2_keeps M (fun r2 t2 => if r2 = 0 then (isB 0 ∧ post 0 t2) else (B_X4_canBeClosed_58 M post px (L_X4_canBeClosed_2 M post px n) o0 o1 a2 t2)) px a2.toNatClampNeg ((t1 15 o1)) t1)))))) else (isB 0 ∧ post 0 t1)) px a2.toNatClampNeg ((t 15 o1)) ((t 16 o1)) t)))))))
def P_X4_canBeClosed (M : Nat → Nat → Bool) (post : Int32 → TT → Prop) (px : String → TT → Prop) (o0 : Nat) (o1 : Nat) (t : TT) : Prop := ∃ n9, L_X4_canBeClosed_2 M post px n9 o0 o1 0 t
def B_X4_oneAheadOf_51 (M : Nat → Nat → Bool) (post : Int32 → TT → Prop) (px : String → TT → Prop) (k4 : Nat → Nat → Int32 → Int32 → TT → Prop) (o0 : Nat) (o1 : Nat) (q2 : Int32) (a3 : Int32) (t : TT) : Prop := k4 o0 o1 q2 ((a3 + 1)) t
def B_X4_oneAheadOf_48 (M : Nat → Nat → Bool) (post : Int32 → TT → Prop) (px : String → TT → Prop) (k4 : Nat → Nat → Int32 → Int32 → TT → Prop) (o0 : Nat) (o1 : Nat) (a3 : Int32) (o4 : Nat) (t : TT) : Prop := o4 < 1000 ∧ (B_X4_oneAheadOf_51 M post px k4 o0 o1 (nI o4) a3 t)
def L_X4_oneAheadOf_4 (M : Nat → Nat → Bool) (post : Int32 → TT → Prop) (px : String → TT → Prop) : Nat → Nat → Nat → Int32 → Int32 → TT → Prop
  | 0 => fun _ _ _ _ _ => False
  | n + 1 => fun o0 o1 q2 a3 t => M 0 o0 = true ∧ (if (t 18 o0) ≤ a3 then (post q2 t) else (M 0 o0 = true ∧ ((M 4 0 = true ∧ vp_in a3 5 ∧ M 8 a3.toNatClampNeg = true) ∧ (M 8 a3.toNatClampNeg = true ∧ (M 8 o1 = true ∧ (if (t 19 a3.toNatClampNeg) ≤ (t 19 o1) then (B_X4_oneAheadOf_51 M post px (L_X4_oneAheadOf_4 M post px n) o0 o1 q2 a3 t) else (if q2 = -1 then (B_X4_oneAheadOf_48 M post px (L_X4_oneAheadOf_4 M post px n) o0 o1 a3 a3.toNatClampNeg t) else (M 8 a3.toNatClampNeg = true ∧ (¬ q2 = -1 ∧ (M 8 q2.toNatClampNeg = true ∧ (if (t 19 q2.toNatClampNeg) ≤ (t 19 a3.toNatClampNeg) then (B_X4_oneAheadOf_51 M post px (L_X4_oneAheadOf_4 M post px n) o0 o1 q2 a3 t) else (B_X4_oneAheadOf_48 M post px (L_X4_oneAheadOf_4 M post px n) o0 o1 a3 a3.toNatClampNeg t))))))))))))
def P_X4_oneAheadOf (M : Nat → Nat → Bool) (post : Int32 → TT → Prop) (px : String → TT → Prop) (o0 : Nat) (o1 : Nat) (t : TT) : Prop := ∃ n9, L_X4_oneAheadOf_4 M post px n9 o0 o1 ((-1)) 0 t
def B_X4_limitFor_77 (M : Nat → Nat → Bool) (post : Int32 → TT → Prop) (px : String → TT → Prop) (k29 : Nat → Nat → Int32 → Int32 → TT → Prop) (o0 : Nat) (o1 : Nat) (a2 : Int32) (a4 : Int32) (t : TT) : Prop := k29 o0 o1 a2 ((a4 + 1)) t
def L_X4_limitFor_29 (M : Nat → Nat → Bool) (post : Int32 → TT → Prop) (px : String → TT → Prop) : Nat → Nat → Nat → Int32 → Int32 → TT → Prop
  | 0 => fun _ _ _ _ _ => False
  | n + 1 => fun o0 o1 a2 a4 t => M 0 o0 = true ∧ (if (t 14 o0) ≤ a4 then (post a2 t) else (M 0 o0 = true ∧ ((M 3 0 = true ∧ vp_in a4 4 ∧ M 7 a4.toNatClampNeg = true) ∧ (M 7 a4.toNatClampNeg = true ∧ (if (t 17 a4.toNatClampNeg) = 0 then (B_X4_limitFor_77 M post px (L_X4_limitFor_29 M post px n) o0 o1 a2 a4 t) else (M 7 a4.toNatClampNeg = true ∧ (M 8 o1 = true ∧ (if (t 15 a4.toNatClampNeg) < (t 21 o1) then (B_X4_limitFor_77 M post px (L_X4_limitFor_29 M post px n) o0 o1 a2 a4 t) else (M 7 a4.toNatClampNeg = true ∧ (B_X4_limitFor_77 M post px (L_X4_limitFor_29 M post px n) o0 o1 ((mmin a2 ((t 15 a4.toNatClampNeg)))) a4 t))))))))))
def B_X4_limitFor_26 (M : Nat → Nat → Bool) (post : Int32 → TT → Prop) (px : String → TT → Prop) (o0 : Nat) (o1 : Nat) (a2 : Int32) (t : TT) : Prop := ∃ n9, L_X4_limitFor_29 M post px n9 o0 o1 a2 0 t
def P_X4_limitFor (M : Nat → Nat → Bool) (post : Int32 → TT → Prop) (px : String → TT → Prop) (o0 : Nat) (o1 : Nat) (t : TT) : Prop := M 0 o0 = true ∧ (P_X4_oneAheadOf M (fun r1 t1 => if r1 = -1 then (B_X4_limitFor_26 M post px o0 o1 5000 t1) else (¬ r1 = -1 ∧ (M 8 r1.toNatClampNeg = true ∧ (B_X4_limitFor_26 M post px o0 o1 ((mmin 5000 (((t1 24 r1.toNatClampNeg) - 120)))) t1)))) px o0 o1 t)
def B_X4_dealLimits_33 (M : Nat → Nat → Bool) (post : TT → Prop) (px : String → TT → Prop) (k2 : Nat → Int32 → TT → Prop) (o0 : Nat) (a1 : Int32) (t : TT) : Prop := k2 o0 ((a1 + 1)) t
def L_X4_dealLimits_2 (M : Nat → Nat → Bool) (post : TT → Prop) (px : String → TT → Prop) : Nat → Nat → Int32 → TT → Prop
  | 0 => fun _ _ _ => False
  | n + 1 => fun o0 a1 t => M 0 o0 = true ∧ (if (t 18 o0) ≤ a1 then (post t) else (M 0 o0 = true ∧ ((M 4 0 = true ∧ vp_in a1 5 ∧ M 8 a1.toNatClampNeg = true) ∧ (M 8 a1.toNatClampNeg = true ∧ (if (t 34 a1.toNatClampNeg) = 0 then (M 0 o0 = true ∧ (P_X4_limitFor M (fun r1 t1 => M 8 a1.toNatClampNeg = true ∧ (B_X4_dealLimits_33 M post px (L_X4_dealLimits_2 M post px n) o0 a1 (up2 t1 23 a1.toNatClampNeg r1))) px o0 a1.toNatClampNeg t)) else (B_X4_dealLimits_33 M post px (L_X4_dealLimits_2 M post px n) o0 a1 t))))))
def P_X4_dealLimits (M : Nat → Nat → Bool) (post : TT → Prop) (px : String → TT → Prop) (o0 : Nat) (t : TT) : Prop := ∃ n9, L_X4_dealLimits_2 M post px n9 o0 0 t
def B_X4_close_43 (M : Nat → Nat → Bool) (post : Int32 → TT → Prop) (px : String → TT → Prop) (o0 : Nat) (a2 : Int32) (o3 : Nat) (a4 : Int32) (s0 : Int32) (t : TT) : Prop := P_X4_askThat M (fun t3 => M 7 o3 = true ∧ (isB a2 ∧ (M 0 o0 = true ∧ (P_X4_dealLimits M (fun t4 => isB a4 ∧ post a4 t4) px o0 (up2 t3 17 o3 a2))))) px s0 t
def B_X4_close_38 (M : Nat → Nat → Bool) (post : Int32 → TT → Prop) (px : String → TT → Prop) (o0 : Nat) (a2 : Int32) (o3 : Nat) (a4 : Int32) (t : TT) : Prop := B_X4_close_43 M post px o0 a2 o3 a4 1 t
def P_X4_close (M : Nat → Nat → Bool) (post : Int32 → TT → Prop) (px : String → TT → Prop) (o0 : Nat) (a1 : Int32) (a2 : Int32) (t : TT) : Prop := M 0 o0 = true ∧ (P_X4_askNumber M (fun t1 => M 0 o0 = true ∧ ((M 3 0 = true ∧ vp_in a1 4 ∧ M 7 a1.toNatClampNeg = true) ∧ (M 7 a1.toNatClampNeg = true ∧ (if a2 = 0 then (B_X4_close_38 M post px o0 a2 a1.toNatClampNeg ((t1 17 a1.toNatClampNeg)) t1) else (if (t1 17 a1.toNatClampNeg) = 0 then (M 0 o0 = true ∧ (P_X4_canBeClosed M (fun r2 t2 => if r2 = 0 then (B_X4_close_43 M post px o0 a2 a1.toNatClampNeg ((t1 17 a1.toNatClampNeg)) 0 t2) else (B_X4_close_38 M post px o0 a2 a1.toNatClampNeg ((t1 17 a1.toNatClampNeg)) t2)) px o0 a1.toNatClampNeg t1)) else (B_X4_close_38 M post px o0 a2 a1.toNatClampNeg ((t1 17 a1.toNatClampNeg)) t1)))))) px a1 ((t 14 o0)) t)
def B_X4_askRange_10 (M : Nat → Nat → Bool) (post : TT → Prop) (px : String → TT → Prop) (t : TT) : Prop := False
def P_X4_askRange (M : Nat → Nat → Bool) (post : TT → Prop) (px : String → TT → Prop) (a0 : Int32) (a1 : Int32) (a2 : Int32) (t : TT) : Prop := if a0 < a1 then (B_X4_askRange_10 M post px t) else (if a0 ≤ a2 then (post t) else (B_X4_askRange_10 M post px t))
def P_X4_speed (M : Nat → Nat → Bool) (post : Int32 → TT → Prop) (px : String → TT → Prop) (o0 : Nat) (a1 : Int32) (t : TT) : Prop := P_X4_askRange M (fun t1 => M 0 o0 = true ∧ (M 0 o0 = true ∧ (post ((t1 2 o0)) (up2 t1 2 o0 a1)))) px a1 1 20 t
def P_X4_trainIs (M : Nat → Nat → Bool) (post : Int32 → TT → Prop) (px : String → TT → Prop) (o0 : Nat) (a1 : Int32) (a2 : Int32) (t : TT) : Prop := M 0 o0 = true ∧ (P_X4_askNumber M (fun t1 => P_X4_askRange M (fun t2 => M 0 o0 = true ∧ ((M 4 0 = true ∧ vp_in a1 5 ∧ M 8 a1.toNatClampNeg = true) ∧ (M 8 a1.toNatClampNeg = true ∧ (P_X2_tell M (fun r3 t3 => post r3 t3) px a1.toNatClampNeg a2 t2)))) px a2 0 10 t1) px a1 ((t 18 o0)) t)
def P_X4_slip (M : Nat → Nat → Bool) (post : Int32 → TT → Prop) (px : String → TT → Prop) (o0 : Nat) (a1 : Int32) (a2 : Int32) (t : TT) : Prop := M 0 o0 = true ∧ (P_X4_askNumber M (fun t1 => P_X4_askRange M (fun t2 => M 0 o0 = true ∧ ((M 4 0 = true ∧ vp_in a1 5 ∧ M 8 a1.toNatClampNeg = true) ∧ (M 8 a1.toNatClampNeg = true ∧ (M 8 a1.toNatClampNeg = true ∧ (post ((t2 25 a1.toNatClampNeg)) (up2 t2 25 a1.toNatClampNeg a2)))))) px a2 ((-1)) 1 t1) px a1 ((t 18 o0)) t)
def P_X4_silent (M : Nat → Nat → Bool) (post : Int32 → TT → Prop) (px : String → TT → Prop) (o0 : Nat) (a1 : Int32) (a2 : Int32) (t : TT) : Prop := M 0 o0 = true ∧ (P_X4_askNumber M (fun t1 => M 0 o0 = true ∧ ((M 4 0 = true ∧ vp_in a1 5 ∧ M 8 a1.toNatClampNeg = true) ∧ (M 8 a1.toNatClampNeg = true ∧ (M 8 a1.toNatClampNeg = true ∧ (isB a2 ∧ (isB ((t1 34 a1.toNatClampNeg)) ∧ post ((t1 34 a1.toNatClampNeg)) (up2 t1 34 a1.toNatClampNeg a2))))))) px a1 ((t 18 o0)) t)
def B_X4_emergency_27 (M : Nat → Nat → Bool) (post : Int32 → TT → Prop) (px : String → TT → Prop) (o2 : Nat) (t : TT) : Prop := M 8 o2 = true ∧ (isB ((t 33 o2)) ∧ post ((t 33 o2)) t)
def P_X4_emergency (M : Nat → Nat → Bool) (post : Int32 → TT → Prop) (px : String → TT → Prop) (o0 : Nat) (a1 : Int32) (t : TT) : Prop := M 0 o0 = true ∧ (P_X4_askNumber M (fun t1 => M 0 o0 = true ∧ ((M 4 0 = true ∧ vp_in a1 5 ∧ M 8 a1.toNatClampNeg = true) ∧ (M 8 a1.toNatClampNeg = true ∧ (if (t1 22 a1.toNatClampNeg) ≤ 0 then (B_X4_emergency_27 M post px a1.toNatClampNeg t1) else (M 8 a1.toNatClampNeg = true ∧ (isB 1 ∧ (B_X4_emergency_27 M post px a1.toNatClampNeg (up2 t1 33 a1.toNatClampNeg 1)))))))) px a1 ((t 18 o0)) t)
def L_X4_countHolding_2 (M : Nat → Nat → Bool) (post : TT → Prop) (px : String → TT → Prop) : Nat → Nat → Int32 → TT → Prop
  | 0 => fun _ _ _ => False
  | n + 1 => fun o0 a1 t => M 0 o0 = true ∧ (if (t 18 o0) ≤ a1 then (post t) else (M 0 o0 = true ∧ ((M 4 0 = true ∧ vp_in a1 5 ∧ M 8 a1.toNatClampNeg = true) ∧ (M 0 o0 = true ∧ ((M 4 0 = true ∧ vp_in a1 5 ∧ M 8 a1.toNatClampNeg = true) ∧ (M 8 a1.toNatClampNeg = true ∧ (M 8 a1.toNatClampNeg = true ∧ (L_X4_countHolding_2 M post px n o0 ((a1 + 1)) (up2 t 29 a1.toNatClampNeg ((mmax (((t 29 a1.toNatClampNeg) - 1)) 0)))))))))))
def P_X4_countHolding (M : Nat → Nat → Bool) (post : TT → Prop) (px : String → TT → Prop) (o0 : Nat) (t : TT) : Prop := ∃ n9, L_X4_countHolding_2 M post px n9 o0 0 t
def L_X4_letPeopleBoard_2 (M : Nat → Nat → Bool) (post : TT → Prop) (px : String → TT → Prop) : Nat → Nat → Int32 → TT → Prop
  | 0 => fun _ _ _ => False
  | n + 1 => fun o0 a1 t => M 0 o0 = true ∧ (if (t 18 o0) ≤ a1 then (post t) else (M 0 o0 = true ∧ ((M 4 0 = true ∧ vp_in a1 5 ∧ M 8 a1.toNatClampNeg = true) ∧ (M 8 a1.toNatClampNeg = true ∧ (P_X2_takePeople M (fun t1 => L_X4_letPeopleBoard_2 M post px n o0 ((a1 + 1)) t1) px a1.toNatClampNeg t)))))
def P_X4_letPeopleBoard (M : Nat → Nat → Bool) (post : TT → Prop) (px : String → TT → Prop) (o0 : Nat) (t : TT) : Prop := ∃ n9, L_X4_letPeopleBoard_2 M post px n9 o0 0 t
def L_X4_letPeopleCome_2 (M : Nat → Nat → Bool) (post : TT → Prop) (px : String → TT → Prop) : Nat → Nat → Int32 → TT → Prop
  | 0 => fun _ _ _ => False
  | n + 1 => fun o0 a1 t => M 0 o0 = true ∧ (if (t 3 o0) ≤ a1 then (post t) else (M 0 o0 = true ∧ ((M 1 0 = true ∧ vp_in a1 6 ∧ M 5 a1.toNatClampNeg = true) ∧ (M 5 a1.toNatClampNeg = true ∧ (M 5 a1.toNatClampNeg = true ∧ (M 5 a1.toNatClampNeg = true ∧ (L_X4_letPeopleCome_2 M post px n o0 ((a1 + 1)) (up2 t 6 a1.toNatClampNeg ((mmin (((t 6 a1.toNatClampNeg) + (t 5 a1.toNatClampNeg))) 999))))))))))
def P_X4_letPeopleCome (M : Nat → Nat → Bool) (post : TT → Prop) (px : String → TT → Prop) (o0 : Nat) (t : TT) : Prop := ∃ n9, L_X4_letPeopleCome_2 M post px n9 o0 0 t
def B_X4_meetsBeacon_46 (M : Nat → Nat → Bool) (post : Int32 → TT → Prop) (px : String → TT → Prop) (k2 : Nat → Int32 → Int32 → Int32 → TT → Prop) (o0 : Nat) (a1 : Int32) (a2 : Int32) (a3 : Int32) (t : TT) : Prop := k2 o0 a1 a2 ((a3 + 1)) t
def L_X4_meetsBeacon_2 (M : Nat → Nat → Bool) (post : Int32 → TT → Prop) (px : String → TT → Prop) : Nat → Nat → Int32 → Int32 → Int32 → TT → Prop
  | 0 => fun _ _ _ _ _ => False
  | n + 1 => fun o0 a1 a2 a3 t => M 0 o0 = true ∧ (if (t 11 o0) ≤ a3 then (isB 0 ∧ post 0 t) else (M 0 o0 = true ∧ ((M 2 0 = true ∧ vp_in a3 12 ∧ M 6 a3.toNatClampNeg = true) ∧ (M 6 a3.toNatClampNeg = true ∧ (if (t 13 a3.toNatClampNeg) = 0 then (B_X4_meetsBeacon_46 M post px (L_X4_meetsBeacon_2 M post px n) o0 a1 a2 a3 t) else (M 6 a3.toNatClampNeg = true ∧ (if (t 12 a3.toNatClampNeg) ≤ a1 then (B_X4_meetsBeacon_46 M post px (L_X4_meetsBeacon_2 M post px n) o0 a1 a2 a3 t) else (M 6 a3.toNatClampNeg = true ∧ (if a2 < (t 12 a3.toNatClampNeg) then (B_X4_meetsBeacon_46 M post px (L_X4_meetsBeacon_2 M post px n) o0 a1 a2 a3 t) else (isB 1 ∧ post 1 t))))))))))
def P_X4_meetsBeacon (M : Nat → Nat → Bool) (post : Int32 → TT → Prop) (px : String → TT → Prop) (o0 : Nat) (a1 : Int32) (a2 : Int32) (t : TT) : Prop := ∃ n9, L_X4_meetsBeacon_2 M post px n9 o0 a1 a2 0 t
def B_X4_move_41 (M : Nat → Nat → Bool) (post : TT → Prop) (px : String → TT → Prop) (t : TT) : Prop := post t
def P_X4_move (M : Nat → Nat → Bool) (post : TT → Prop) (px : String → TT → Prop) (o0 : Nat) (o1 : Nat) (t : TT) : Prop := M 8 o1 = true ∧ (M 0 o0 = true ∧ (M 8 o1 = true ∧ (P_X2_go M (fun t1 => M 8 o1 = true ∧ (M 0 o0 = true ∧ (P_X4_meetsBeacon M (fun r2 t2 => if r2 = 0 then (B_X4_move_41 M post px t2) else (M 8 o1 = true ∧ (M 8 o1 = true ∧ (M 8 o1 = true ∧ (M 8 o1 = true ∧ (B_X4_move_41 M post px (up2 (up2 t2 20 o1 ((t2 19 o1))) 21 o1 (((up2 t2 20 o1 ((t2 19 o1))) 19 o1))))))))) px o0 ((t 19 o1)) ((t1 19 o1)) t1))) px o1 ((t 1 o0)) t)))
def B_X4_takeReports_32 (M : Nat → Nat → Bool) (post : TT → Prop) (px : String → TT → Prop) (k2 : Nat → Int32 → TT → Prop) (o0 : Nat) (a1 : Int32) (t : TT) : Prop := k2 o0 ((a1 + 1)) t
def L_X4_takeReports_2 (M : Nat → Nat → Bool) (post : TT → Prop) (px : String → TT → Prop) : Nat → Nat → Int32 → TT → Prop
  | 0 => fun _ _ _ => False
  | n + 1 => fun o0 a1 t => M 0 o0 = true ∧ (if (t 18 o0) ≤ a1 then (post t) else (M 0 o0 = true ∧ ((M 4 0 = true ∧ vp_in a1 5 ∧ M 8 a1.toNatClampNeg = true) ∧ (M 8 a1.toNatClampNeg = true ∧ (if (t 34 a1.toNatClampNeg) = 0 then (M 8 a1.toNatClampNeg = true ∧ (M 8 a1.toNatClampNeg = true ∧ (B_X4_takeReports_32 M post px (L_X4_takeReports_2 M post px n) o0 a1 (up2 t 24 a1.toNatClampNeg ((t 20 a1.toNatClampNeg)))))) else (B_X4_takeReports_32 M post px (L_X4_takeReports_2 M post px n) o0 a1 t))))))
def P_X4_takeReports (M : Nat → Nat → Bool) (post : TT → Prop) (px : String → TT → Prop) (o0 : Nat) (t : TT) : Prop := ∃ n9, L_X4_takeReports_2 M post px n9 o0 0 t
def L_X4_passOne_49 (M : Nat → Nat → Bool) (post : TT → Prop) (px : String → TT → Prop) : Nat → Nat → Int32 → TT → Prop
  | 0 => fun _ _ _ => False
  | n + 1 => fun o0 a1 t => M 0 o0 = true ∧ (if (t 18 o0) ≤ a1 then (M 0 o0 = true ∧ (P_X4_countHolding M (fun t4 => M 0 o0 = true ∧ (P_X4_letPeopleCome M (fun t5 => M 0 o0 = true ∧ (P_X4_letPeopleBoard M (fun t6 => post t6) px o0 t5)) px o0 t4)) px o0 t)) else (M 0 o0 = true ∧ ((M 4 0 = true ∧ vp_in a1 5 ∧ M 8 a1.toNatClampNeg = true) ∧ (M 0 o0 = true ∧ (P_X4_move M (fun t7 => L_X4_passOne_49 M post px n o0 ((a1 + 1)) t7) px o0 a1.toNatClampNeg t)))))
def L_X4_passOne_20 (M : Nat → Nat → Bool) (post : TT → Prop) (px : String → TT → Prop) : Nat → Nat → Int32 → TT → Prop
  | 0 => fun _ _ _ => False
  | n + 1 => fun o0 a1 t => M 0 o0 = true ∧ (if (t 18 o0) ≤ a1 then (∃ n9, L_X4_passOne_49 M post px n9 o0 0 t) else (M 0 o0 = true ∧ ((M 4 0 = true ∧ vp_in a1 5 ∧ M 8 a1.toNatClampNeg = true) ∧ (M 0 o0 = true ∧ (M 8 a1.toNatClampNeg = true ∧ (P_X2_findSpeed M (fun t3 => L_X4_passOne_20 M post px n o0 ((a1 + 1)) t3) px a1.toNatClampNeg ((t 2 o0)) t))))))
def P_X4_passOne (M : Nat → Nat → Bool) (post : TT → Prop) (px : String → TT → Prop) (o0 : Nat) (t : TT) : Prop := M 0 o0 = true ∧ (M 0 o0 = true ∧ (M 0 o0 = true ∧ (P_X4_takeReports M (fun t1 => M 0 o0 = true ∧ (P_X4_dealLimits M (fun t2 => ∃ n9, L_X4_passOne_20 M post px n9 o0 0 t2) px o0 t1)) px o0 (up2 t 1 o0 (((t 1 o0) + 1))))))
def L_X4_pass_29 (M : Nat → Nat → Bool) (post : Int32 → TT → Prop) (px : String → TT → Prop) : Nat → Nat → Int32 → Int32 → TT → Prop
  | 0 => fun _ _ _ _ => False
  | n + 1 => fun o0 a1 a2 t => if a1 ≤ a2 then (M 0 o0 = true ∧ (post ((t 1 o0)) t)) else (M 0 o0 = true ∧ (P_X4_passOne M (fun t3 => L_X4_pass_29 M post px n o0 a1 ((a2 + 1)) t3) px o0 t))
def B_X4_pass_24 (M : Nat → Nat → Bool) (post : Int32 → TT → Prop) (px : String → TT → Prop) (o0 : Nat) (a1 : Int32) (s0 : Int32) (t : TT) : Prop := P_X4_askThat M (fun t2 => ∃ n9, L_X4_pass_29 M post px n9 o0 a1 0 t2) px s0 t
def P_X4_pass (M : Nat → Nat → Bool) (post : Int32 → TT → Prop) (px : String → TT → Prop) (o0 : Nat) (a1 : Int32) (t : TT) : Prop := P_X4_askRange M (fun t1 => M 0 o0 = true ∧ (if 999 < ((t1 1 o0) + a1) then (B_X4_pass_24 M post px o0 a1 0 t1) else (B_X4_pass_24 M post px o0 a1 1 t1))) px a1 1 99 t
def B_X4_stop_64 (M : Nat → Nat → Bool) (post : TT → Prop) (px : String → TT → Prop) (o3 : Nat) (o4 : Nat) (s0 : Int32) (t : TT) : Prop := P_X4_askThat M (fun t5 => M 8 o3 = true ∧ (o4 < 1000 ∧ (post (up2 t5 26 o3 (nI o4))))) px s0 t
def B_X4_stop_63 (M : Nat → Nat → Bool) (post : TT → Prop) (px : String → TT → Prop) (o3 : Nat) (o4 : Nat) (t : TT) : Prop := B_X4_stop_64 M post px o3 o4 0 t
def P_X4_stop (M : Nat → Nat → Bool) (post : TT → Prop) (px : String → TT → Prop) (o0 : Nat) (a1 : Int32) (a2 : Int32) (t : TT) : Prop := M 0 o0 = true ∧ (P_X4_askNumber M (fun t1 => M 0 o0 = true ∧ (P_X4_askNumber M (fun t2 => M 0 o0 = true ∧ ((M 4 0 = true ∧ vp_in a1 5 ∧ M 8 a1.toNatClampNeg = true) ∧ (M 0 o0 = true ∧ ((M 1 0 = true ∧ vp_in a2 6 ∧ M 5 a2.toNatClampNeg = true) ∧ (M 8 a1.toNatClampNeg = true ∧ (if (t2 34 a1.toNatClampNeg) = 0 then (M 8 a1.toNatClampNeg = true ∧ (P_X2_hasOpenDoors M (fun r3 t3 => if r3 = 0 then (M 5 a2.toNatClampNeg = true ∧ (M 8 a1.toNatClampNeg = true ∧ (P_X2_keeps M (fun r4 t4 => if r4 = 0 then (B_X4_stop_63 M post px a1.toNatClampNeg a2.toNatClampNeg t4) else (B_X4_stop_64 M post px a1.toNatClampNeg a2.toNatClampNeg 1 t4)) px a1.toNatClampNeg (((t3 4 a2.toNatClampNeg) + 1)) t3))) else (B_X4_stop_63 M post px a1.toNatClampNeg a2.toNatClampNeg t3)) px a1.toNatClampNeg t2)) else (B_X4_stop_63 M post px a1.toNatClampNeg a2.toNatClampNeg t2))))))) px a2 ((t1 3 o0)) t1)) px a1 ((t 18 o0)) t)
def B_X4_open_41 (M : Nat → Nat → Bool) (post : Int32 → TT → Prop) (px : String → TT → Prop) (a2 : Int32) (o3 : Nat) (s0 : Int32) (t : TT) : Prop := P_X4_askThat M (fun t5 => M 8 o3 = true ∧ (P_X2_openDoors M (fun t6 => M 8 o3 = true ∧ (post ((t6 27 o3)) t6)) px o3 a2 t5)) px s0 t
def B_X4_open_40 (M : Nat → Nat → Bool) (post : Int32 → TT → Prop) (px : String → TT → Prop) (a2 : Int32) (o3 : Nat) (t : TT) : Prop := B_X4_open_41 M post px a2 o3 0 t
def P_X4_open (M : Nat → Nat → Bool) (post : Int32 → TT → Prop) (px : String → TT → Prop) (o0 : Nat) (a1 : Int32) (a2 : Int32) (t : TT) : Prop := M 0 o0 = true ∧ (P_X4_askNumber M (fun t1 => P_X4_askRange M (fun t2 => M 0 o0 = true ∧ ((M 4 0 = true ∧ vp_in a1 5 ∧ M 8 a1.toNatClampNeg = true) ∧ (M 8 a1.toNatClampNeg = true ∧ (P_X2_isAtStop M (fun r3 t3 => if r3 = 0 then (B_X4_open_40 M post px a2 a1.toNatClampNeg t3) else (M 8 a1.toNatClampNeg = true ∧ (P_X2_hasOpenDoors M (fun r4 t4 => if r4 = 0 then (B_X4_open_41 M post px a2 a1.toNatClampNeg 1 t4) else (B_X4_open_40 M post px a2 a1.toNatClampNeg t4)) px a1.toNatClampNeg t3))) px a1.toNatClampNeg t2)))) px a2 0 120 t1) px a1 ((t 18 o0)) t)
def P_X4_shut (M : Nat → Nat → Bool) (post : TT → Prop) (px : String → TT → Prop) (o0 : Nat) (a1 : Int32) (t : TT) : Prop := M 0 o0 = true ∧ (P_X4_askNumber M (fun t1 => M 0 o0 = true ∧ ((M 4 0 = true ∧ vp_in a1 5 ∧ M 8 a1.toNatClampNeg = true) ∧ (M 8 a1.toNatClampNeg = true ∧ (P_X2_hasOpenDoors M (fun r2 t2 => P_X4_askThat M (fun t3 => M 8 a1.toNatClampNeg = true ∧ (post (up2 t3 27 a1.toNatClampNeg ((-1))))) px r2 t2) px a1.toNatClampNeg t1)))) px a1 ((t 18 o0)) t)
def B_X4_hold_34 (M : Nat → Nat → Bool) (post : Int32 → TT → Prop) (px : String → TT → Prop) (a2 : Int32) (o3 : Nat) (s0 : Int32) (t : TT) : Prop := P_X4_askThat M (fun t3 => M 8 o3 = true ∧ (M 8 o3 = true ∧ (M 8 o3 = true ∧ (post (((up2 t3 29 o3 ((mmin (((t3 29 o3) + a2)) 99))) 29 o3)) (up2 t3 29 o3 ((mmin (((t3 29 o3) + a2)) 99))))))) px s0 t
def P_X4_hold (M : Nat → Nat → Bool) (post : Int32 → TT → Prop) (px : String → TT → Prop) (o0 : Nat) (a1 : Int32) (a2 : Int32) (t : TT) : Prop := M 0 o0 = true ∧ (P_X4_askNumber M (fun t1 => P_X4_askRange M (fun t2 => M 0 o0 = true ∧ ((M 4 0 = true ∧ vp_in a1 5 ∧ M 8 a1.toNatClampNeg = true) ∧ (M 8 a1.toNatClampNeg = true ∧ (if (t2 22 a1.toNatClampNeg) = 0 then (B_X4_hold_34 M post px a2 a1.toNatClampNeg 1 t2) else (B_X4_hold_34 M post px a2 a1.toNatClampNeg 0 t2))))) px a2 1 60 t1) px a1 ((t 18 o0)) t)
def B_X4_depart_31 (M : Nat → Nat → Bool) (post : Int32 → TT → Prop) (px : String → TT → Prop) (t : TT) : Prop := False
def P_X4_depart (M : Nat → Nat → Bool) (post : Int32 → TT → Prop) (px : String → TT → Prop) (o0 : Nat) (a1 : Int32) (t : TT) : Prop := M 0 o0 = true ∧ (P_X4_askNumber M (fun t1 => M 0 o0 = true ∧ ((M 4 0 = true ∧ vp_in a1 5 ∧ M 8 a1.toNatClampNeg = true) ∧ (M 8 a1.toNatClampNeg = true ∧ (if (t1 26 a1.toNatClampNeg) = -1 then (B_X4_depart_31 M post px t1) else (M 8 a1.toNatClampNeg = true ∧ (P_X2_canDepart M (fun r2 t2 => if r2 = 0 then (B_X4_depart_31 M post px t2) else (M 8 a1.toNatClampNeg = true ∧ (M 0 o0 = true ∧ (¬ (t1 26 a1.toNatClampNeg) = -1 ∧ (M 5 (((t1 26 a1.toNatClampNeg)).toNatClampNeg) = true ∧ (P_X1_countDeparture M (fun t3 => ¬ (t1 26 a1.toNatClampNeg) = -1 ∧ (M 5 (((t1 26 a1.toNatClampNeg)).toNatClampNeg) = true ∧ (post ((t3 40 (((t1 26 a1.toNatClampNeg)).toNatClampNeg))) t3))) px (((t1 26 a1.toNatClampNeg)).toNatClampNeg) (((up2 t2 26 a1.toNatClampNeg ((-1))) 1 o0)) (up2 t2 26 a1.toNatClampNeg ((-1))))))))) px a1.toNatClampNeg t1)))))) px a1 ((t 18 o0)) t)
def P_X4_rate (M : Nat → Nat → Bool) (post : Int32 → TT → Prop) (px : String → TT → Prop) (o0 : Nat) (a1 : Int32) (a2 : Int32) (t : TT) : Prop := M 0 o0 = true ∧ (P_X4_askNumber M (fun t1 => P_X4_askRange M (fun t2 => M 0 o0 = true ∧ ((M 1 0 = true ∧ vp_in a1 6 ∧ M 5 a1.toNatClampNeg = true) ∧ (M 5 a1.toNatClampNeg = true ∧ (M 5 a1.toNatClampNeg = true ∧ (post ((t2 5 a1.toNatClampNeg)) (up2 t2 5 a1.toNatClampNeg a2)))))) px a2 0 9 t1) px a1 ((t 3 o0)) t)
def P_X4_platformIs (M : Nat → Nat → Bool) (post : Int32 → TT → Prop) (px : String → TT → Prop) (o0 : Nat) (a1 : Int32) (a2 : Int32) (t : TT) : Prop := M 0 o0 = true ∧ (P_X4_askNumber M (fun t1 => P_X4_askRange M (fun t2 => M 0 o0 = true ∧ ((M 1 0 = true ∧ vp_in a1 6 ∧ M 5 a1.toNatClampNeg = true) ∧ (M 5 a1.toNatClampNeg = true ∧ (P_X1_tell M (fun r3 t3 => post r3 t3) px a1.toNatClampNeg a2 t2)))) px a2 0 3 t1) px a1 ((t 3 o0)) t)
def P_X4_placeAnew (M : Nat → Nat → Bool) (post : Int32 → TT → Prop) (px : String → TT → Prop) (o0 : Nat) (a1 : Int32) (t : TT) : Prop := M 0 o0 = true ∧ (P_X4_askNumber M (fun t1 => M 0 o0 = true ∧ ((M 4 0 = true ∧ vp_in a1 5 ∧ M 8 a1.toNatClampNeg = true) ∧ (M 0 o0 = true ∧ (M 8 a1.toNatClampNeg = true ∧ (P_X2_playAgain M (fun r2 t2 => post r2 t2) px a1.toNatClampNeg ((t1 1 o0)) t1))))) px a1 ((t 18 o0)) t)
def L_X4_isSafe_26 (M : Nat → Nat → Bool) (post : Int32 → TT → Prop) (px : String → TT → Prop) (k2 : Nat → Int32 → TT → Prop) : Nat → Nat → Int32 → Int32 → TT → Prop
  | 0 => fun _ _ _ _ => False
  | n + 1 => fun o0 a1 a2 t => if a1 ≤ a2 then (k2 o0 ((a1 + 1)) t) else (M 0 o0 = true ∧ ((M 4 0 = true ∧ vp_in a1 5 ∧ M 8 a1.toNatClampNeg = true) ∧ (M 0 o0 = true ∧ ((M 4 0 = true ∧ vp_in a2 5 ∧ M 8 a2.toNatClampNeg = true) ∧ (M 8 a2.toNatClampNeg = true ∧ (M 0 o0 = true ∧ ((M 4 0 = true ∧ vp_in a2 5 ∧ M 8 a2.toNatClampNeg = true) ∧ (M 8 a2.toNatClampNeg = true ∧ (M 8 a1.toNatClampNeg = true ∧ (P_X2_mayCover M (fun r2 t2 => if r2 = 0 then (L_X4_isSafe_26 M post px k2 n o0 a1 ((a2 + 1)) t2) else (isB 0 ∧ post 0 t2)) px a1.toNatClampNeg (((t 20 a2.toNatClampNeg) - 100)) ((t 21 a2.toNatClampNeg)) t))))))))))
def L_X4_isSafe_2 (M : Nat → Nat → Bool) (post : Int32 → TT → Prop) (px : String → TT → Prop) : Nat → Nat → Int32 → TT → Prop
  | 0 => fun _ _ _ => False
  | n + 1 => fun o0 a1 t => M 0 o0 = true ∧ (if (t 18 o0) ≤ a1 then (isB 1 ∧ post 1 t) else (M 0 o0 = true ∧ ((M 4 0 = true ∧ vp_in a1 5 ∧ M 8 a1.toNatClampNeg = true) ∧ (M 8 a1.toNatClampNeg = true ∧ (P_X2_isInItsBounds M (fun r1 t1 => if r1 = 0 then (isB 0 ∧ post 0 t1) else (∃ n9, L_X4_isSafe_26 M post px (L_X4_isSafe_2 M post px n) n9 o0 a1 0 t1)) px a1.toNatClampNeg t)))))
def P_X4_isSafe (M : Nat → Nat → Bool) (post : Int32 → TT → Prop) (px : String → TT → Prop) (o0 : Nat) (t : TT) : Prop := ∃ n9, L_X4_isSafe_2 M post px n9 o0 0 t
def B_X4_canBePutIn_112 (M : Nat → Nat → Bool) (post : Int32 → TT → Prop) (px : String → TT → Prop) (k69 : Nat → Int32 → Int32 → TT → Prop) (o0 : Nat) (a1 : Int32) (a2 : Int32) (t : TT) : Prop := k69 o0 a1 ((a2 + 1)) t
def L_X4_canBePutIn_69 (M : Nat → Nat → Bool) (post : Int32 → TT → Prop) (px : String → TT → Prop) : Nat → Nat → Int32 → Int32 → TT → Prop
  | 0 => fun _ _ _ _ => False
  | n + 1 => fun o0 a1 a2 t => M 0 o0 = true ∧ (if (t 14 o0) ≤ a2 then (isB 1 ∧ post 1 t) else (M 0 o0 = true ∧ ((M 3 0 = true ∧ vp_in a2 4 ∧ M 7 a2.toNatClampNeg = true) ∧ (M 7 a2.toNatClampNeg = true ∧ (if (t 17 a2.toNatClampNeg) = 0 then (B_X4_canBePutIn_112 M post px (L_X4_canBePutIn_69 M post px n) o0 a1 a2 t) else (M 7 a2.toNatClampNeg = true ∧ (if a1 < (t 15 a2.toNatClampNeg) then (B_X4_canBePutIn_112 M post px (L_X4_canBePutIn_69 M post px n) o0 a1 a2 t) else (M 7 a2.toNatClampNeg = true ∧ (if (t 16 a2.toNatClampNeg) < (a1 - 100) then (B_X4_canBePutIn_112 M post px (L_X4_canBePutIn_69 M post px n) o0 a1 a2 t) else (isB 0 ∧ post 0 t))))))))))
def B_X4_canBePutIn_52 (M : Nat → Nat → Bool) (post : Int32 → TT → Prop) (px : String → TT → Prop) (k2 : Nat → Int32 → Int32 → TT → Prop) (o0 : Nat) (a1 : Int32) (a2 : Int32) (s0 : Int32) (t : TT) : Prop := if s0 = 0 then (isB 0 ∧ post 0 t) else (k2 o0 a1 ((a2 + 1)) t)
def L_X4_canBePutIn_2 (M : Nat → Nat → Bool) (post : Int32 → TT → Prop) (px : String → TT → Prop) : Nat → Nat → Int32 → Int32 → TT → Prop
  | 0 => fun _ _ _ _ => False
  | n + 1 => fun o0 a1 a2 t => M 0 o0 = true ∧ (if (t 18 o0) ≤ a2 then (∃ n9, L_X4_canBePutIn_69 M post px n9 o0 a1 0 t) else (M 0 o0 = true ∧ ((M 4 0 = true ∧ vp_in a2 5 ∧ M 8 a2.toNatClampNeg = true) ∧ (M 8 a2.toNatClampNeg = true ∧ (if a1 ≤ (t 19 a2.toNatClampNeg) then (M 8 a2.toNatClampNeg = true ∧ (if ((t 24 a2.toNatClampNeg) - 120) < a1 then (B_X4_canBePutIn_52 M post px (L_X4_canBePutIn_2 M post px n) o0 a1 a2 0 t) else (B_X4_canBePutIn_52 M post px (L_X4_canBePutIn_2 M post px n) o0 a1 a2 1 t))) else (M 8 a2.toNatClampNeg = true ∧ (P_X2_keeps M (fun r1 t1 => B_X4_canBePutIn_52 M post px (L_X4_canBePutIn_2 M post px n) o0 a1 a2 r1 t1) px a2.toNatClampNeg ((a1 - 120)) t)))))))
def P_X4_canBePutIn (M : Nat → Nat → Bool) (post : Int32 → TT → Prop) (px : String → TT → Prop) (o0 : Nat) (a1 : Int32) (t : TT) : Prop := ∃ n9, L_X4_canBePutIn_2 M post px n9 o0 a1 0 t
def P_L_way (M : Nat → Nat → Bool) (post : Int32 → TT → Prop) (px : String → TT → Prop) (a0 : Int32) (t : TT) : Prop := ¬ (2 : Int32) = 0 ∧ (post ((((a0 * (a0 + 1)) / 2) + a0)) t)
def B_L_isAt_59 (M : Nat → Nat → Bool) (post : Int32 → TT → Prop) (px : String → TT → Prop) (s0 : Int32) (t : TT) : Prop := isB s0 ∧ post s0 t
def B_L_isAt_58 (M : Nat → Nat → Bool) (post : Int32 → TT → Prop) (px : String → TT → Prop) (t : TT) : Prop := B_L_isAt_59 M post px 0 t
def P_L_isAt (M : Nat → Nat → Bool) (post : Int32 → TT → Prop) (px : String → TT → Prop) (o0 : Nat) (a1 : Int32) (t : TT) : Prop := M 0 o0 = true ∧ (P_X4_trainIs M (fun r1 t1 => if 0 ≤ r1 then (M 0 o0 = true ∧ (P_X4_platformIs M (fun r2 t2 => M 0 o0 = true ∧ (P_X4_trainIs M (fun r3 t3 => if r3 = 0 then (M 0 o0 = true ∧ (P_X4_trainIs M (fun r4 t4 => if r4 < (r2 - 1) then (B_L_isAt_58 M post px t4) else (M 0 o0 = true ∧ (P_X4_trainIs M (fun r5 t5 => if (r2 + 1) < r5 then (B_L_isAt_58 M post px t5) else (B_L_isAt_59 M post px 1 t5)) px o0 a1 2 t4))) px o0 a1 1 t3)) else (B_L_isAt_58 M post px t3)) px o0 a1 3 t2)) px o0 r1 0 t1)) else (isB 0 ∧ post 0 t1)) px o0 a1 7 t)
def B_L_mayStop_53 (M : Nat → Nat → Bool) (post : Int32 → TT → Prop) (px : String → TT → Prop) (s0 : Int32) (t : TT) : Prop := isB s0 ∧ post s0 t
def B_L_mayStop_52 (M : Nat → Nat → Bool) (post : Int32 → TT → Prop) (px : String → TT → Prop) (t : TT) : Prop := B_L_mayStop_53 M post px 0 t
def P_L_mayStop (M : Nat → Nat → Bool) (post : Int32 → TT → Prop) (px : String → TT → Prop) (o0 : Nat) (a1 : Int32) (a2 : Int32) (t : TT) : Prop := M 0 o0 = true ∧ (P_X4_trainIs M (fun r1 t1 => if r1 = 0 then (M 0 o0 = true ∧ (P_X4_trainIs M (fun r2 t2 => if r2 = (-1) then (M 0 o0 = true ∧ (P_X4_trainIs M (fun r3 t3 => M 0 o0 = true ∧ (P_X4_trainIs M (fun r4 t4 => P_L_way M (fun r5 t5 => M 0 o0 = true ∧ (P_X4_platformIs M (fun r6 t6 => if (r6 + 1) < (r3 + r5) then (B_L_mayStop_52 M post px t6) else (B_L_mayStop_53 M post px 1 t6)) px o0 a2 0 t5)) px r4 t4) px o0 a1 3 t3)) px o0 a1 2 t2)) else (B_L_mayStop_52 M post px t2)) px o0 a1 8 t1)) else (B_L_mayStop_52 M post px t1)) px o0 a1 6 t)
def B_L_mayClose_104 (M : Nat → Nat → Bool) (post : Int32 → TT → Prop) (px : String → TT → Prop) (k5 : Nat → Int32 → Int32 → Int32 → Int32 → TT → Prop) (o0 : Nat) (a1 : Int32) (a2 : Int32) (a4 : Int32) (s0 : Int32) (t : TT) : Prop := k5 o0 a1 a2 s0 ((a4 + 1)) t
def B_L_mayClose_103 (M : Nat → Nat → Bool) (post : Int32 → TT → Prop) (px : String → TT → Prop) (k5 : Nat → Int32 → Int32 → Int32 → Int32 → TT → Prop) (o0 : Nat) (a1 : Int32) (a2 : Int32) (a4 : Int32) (t : TT) : Prop := B_L_mayClose_104 M post px k5 o0 a1 a2 a4 0 t
def B_L_mayClose_99 (M : Nat → Nat → Bool) (post : Int32 → TT → Prop) (px : String → TT → Prop) (k5 : Nat → Int32 → Int32 → Int32 → Int32 → TT → Prop) (o0 : Nat) (a1 : Int32) (a2 : Int32) (a4 : Int32) (t : TT) : Prop := B_L_mayClose_104 M post px k5 o0 a1 a2 a4 1 t
def B_L_mayClose_76 (M : Nat → Nat → Bool) (post : Int32 → TT → Prop) (px : String → TT → Prop) (k5 : Nat → Int32 → Int32 → Int32 → Int32 → TT → Prop) (o0 : Nat) (a1 : Int32) (a2 : Int32) (a3 : Int32) (a4 : Int32) (a5 : Int32) (a6 : Int32) (s0 : Int32) (t : TT) : Prop := if a3 = 0 then (B_L_mayClose_103 M post px k5 o0 a1 a2 a4 t) else (if a6 = 0 then (if a1 ≤ a5 then (B_L_mayClose_103 M post px k5 o0 a1 a2 a4 t) else (if a1 < s0 then (B_L_mayClose_103 M post px k5 o0 a1 a2 a4 t) else (B_L_mayClose_99 M post px k5 o0 a1 a2 a4 t))) else (B_L_mayClose_99 M post px k5 o0 a1 a2 a4 t))
def B_L_mayClose_39 (M : Nat → Nat → Bool) (post : Int32 → TT → Prop) (px : String → TT → Prop) (k5 : Nat → Int32 → Int32 → Int32 → Int32 → TT → Prop) (o0 : Nat) (a1 : Int32) (a2 : Int32) (a3 : Int32) (a4 : Int32) (a5 : Int32) (s0 : Int32) (t : TT) : Prop := M 0 o0 = true ∧ (P_X4_trainIs M (fun r3 t3 => if r3 = 1 then (M 0 o0 = true ∧ (P_X4_trainIs M (fun r4 t4 => B_L_mayClose_76 M post px k5 o0 a1 a2 a3 a4 a5 s0 r4 t4) px o0 a4 4 t3)) else (M 0 o0 = true ∧ (P_X4_trainIs M (fun r5 t5 => P_L_way M (fun r6 t6 => B_L_mayClose_76 M post px k5 o0 a1 a2 a3 a4 a5 s0 ((a5 + r6)) t6) px r5 t5) px o0 a4 3 t3))) px o0 a4 6 t)
def L_L_mayClose_5 (M : Nat → Nat → Bool) (post : Int32 → TT → Prop) (px : String → TT → Prop) : Nat → Nat → Int32 → Int32 → Int32 → Int32 → TT → Prop
  | 0 => fun _ _ _ _ _ _ => False
  | n + 1 => fun o0 a1 a2 a3 a4 t => if 5 ≤ a4 then (isB a3 ∧ post a3 t) else (M 0 o0 = true ∧ (P_X4_trainIs M (fun r1 t1 => M 0 o0 = true ∧ (P_X4_trainIs M (fun r2 t2 => if (r2 - 100) ≤ a2 then (B_L_mayClose_39 M post px (L_L_mayClose_5 M post px n) o0 a1 a2 a3 a4 r1 0 t2) else (B_L_mayClose_39 M post px (L_L_mayClose_5 M post px n) o0 a1 a2 a3 a4 r1 1 t2)) px o0 a4 1 t1)) px o0 a4 2 t))
def P_L_mayClose (M : Nat → Nat → Bool) (post : Int32 → TT → Prop) (px : String → TT → Prop) (o0 : Nat) (a1 : Int32) (a2 : Int32) (t : TT) : Prop := ∃ n9, L_L_mayClose_5 M post px n9 o0 a1 a2 1 0 t
def B_L_isSafe_137 (M : Nat → Nat → Bool) (post : Int32 → TT → Prop) (px : String → TT → Prop) (k7 : Nat → Int32 → Int32 → TT → Prop) (k92 : Nat → Int32 → Int32 → Int32 → Int32 → Int32 → TT → Prop) (o0 : Nat) (a2 : Int32) (a4 : Int32) (a5 : Int32) (a6 : Int32) (s0 : Int32) (t : TT) : Prop := k92 o0 s0 a2 a4 a5 ((a6 + 1)) t
def B_L_isSafe_136 (M : Nat → Nat → Bool) (post : Int32 → TT → Prop) (px : String → TT → Prop) (k7 : Nat → Int32 → Int32 → TT → Prop) (k92 : Nat → Int32 → Int32 → Int32 → Int32 → Int32 → TT → Prop) (o0 : Nat) (a2 : Int32) (a4 : Int32) (a5 : Int32) (a6 : Int32) (t : TT) : Prop := B_L_isSafe_137 M post px k7 k92 o0 a2 a4 a5 a6 0 t
def B_L_isSafe_132 (M : Nat → Nat → Bool) (post : Int32 → TT → Prop) (px : String → TT → Prop) (k7 : Nat → Int32 → Int32 → TT → Prop) (k92 : Nat → Int32 → Int32 → Int32 → Int32 → Int32 → TT → Prop) (o0 : Nat) (a2 : Int32) (a4 : Int32) (a5 : Int32) (a6 : Int32) (t : TT) : Prop := B_L_isSafe_137 M post px k7 k92 o0 a2 a4 a5 a6 1 t
def L_L_isSafe_92 (M : Nat → Nat → Bool) (post : Int32 → TT → Prop) (px : String → TT → Prop) (k7 : Nat → Int32 → Int32 → TT → Prop) : Nat → Nat → Int32 → Int32 → Int32 → Int32 → Int32 → TT → Prop
  | 0 => fun _ _ _ _ _ _ _ => False
  | n + 1 => fun o0 a1 a2 a4 a5 a6 t => if a2 ≤ a6 then (k7 o0 a1 ((a2 + 1)) t) else (if a1 = 0 then (B_L_isSafe_136 M post px k7 (L_L_isSafe_92 M post px k7 n) o0 a2 a4 a5 a6 t) else (M 0 o0 = true ∧ (P_X4_trainIs M (fun r8 t8 => if a5 < (r8 - 100) then (B_L_isSafe_132 M post px k7 (L_L_isSafe_92 M post px k7 n) o0 a2 a4 a5 a6 t8) else (M 0 o0 = true ∧ (P_X4_trainIs M (fun r9 t9 => if (a4 - 100) ≤ r9 then (B_L_isSafe_136 M post px k7 (L_L_isSafe_92 M post px k7 n) o0 a2 a4 a5 a6 t9) else (B_L_isSafe_132 M post px k7 (L_L_isSafe_92 M post px k7 n) o0 a2 a4 a5 a6 t9)) px o0 a6 2 t8))) px o0 a6 1 t)))
def B_L_isSafe_88 (M : Nat → Nat → Bool) (post : Int32 → TT → Prop) (px : String → TT → Prop) (k7 : Nat → Int32 → Int32 → TT → Prop) (o0 : Nat) (a2 : Int32) (a4 : Int32) (a5 : Int32) (s0 : Int32) (t : TT) : Prop := ∃ n9, L_L_isSafe_92 M post px k7 n9 o0 s0 a2 a4 a5 0 t
def B_L_isSafe_87 (M : Nat → Nat → Bool) (post : Int32 → TT → Prop) (px : String → TT → Prop) (k7 : Nat → Int32 → Int32 → TT → Prop) (o0 : Nat) (a2 : Int32) (a4 : Int32) (a5 : Int32) (t : TT) : Prop := B_L_isSafe_88 M post px k7 o0 a2 a4 a5 0 t
def L_L_isSafe_7 (M : Nat → Nat → Bool) (post : Int32 → TT → Prop) (px : String → TT → Prop) : Nat → Nat → Int32 → Int32 → TT → Prop
  | 0 => fun _ _ _ _ => False
  | n + 1 => fun o0 a1 a2 t => if 5 ≤ a2 then (isB a1 ∧ post a1 t) else (M 0 o0 = true ∧ (P_X4_trainIs M (fun r2 t2 => M 0 o0 = true ∧ (P_X4_trainIs M (fun r3 t3 => M 0 o0 = true ∧ (P_X4_trainIs M (fun r4 t4 => if a1 = 0 then (B_L_isSafe_87 M post px (L_L_isSafe_7 M post px n) o0 a2 r3 r4 t4) else (if r2 < r3 then (B_L_isSafe_87 M post px (L_L_isSafe_7 M post px n) o0 a2 r3 r4 t4) else (if r4 < r2 then (B_L_isSafe_87 M post px (L_L_isSafe_7 M post px n) o0 a2 r3 r4 t4) else (M 0 o0 = true ∧ (P_X4_trainIs M (fun r5 t5 => if r5 < r4 then (B_L_isSafe_87 M post px (L_L_isSafe_7 M post px n) o0 a2 r3 r4 t5) else (M 0 o0 = true ∧ (P_X4_trainIs M (fun r6 t6 => if 5000 < r6 then (B_L_isSafe_87 M post px (L_L_isSafe_7 M post px n) o0 a2 r3 r4 t6) else (M 0 o0 = true ∧ (P_X4_placeAnew M (fun r7 t7 => if r7 = r2 then (B_L_isSafe_88 M post px (L_L_isSafe_7 M post px n) o0 a2 r3 r4 1 t7) else (B_L_isSafe_87 M post px (L_L_isSafe_7 M post px n) o0 a2 r3 r4 t7)) px o0 a2 t6))) px o0 a2 4 t5))) px o0 a2 4 t4))))) px o0 a2 2 t3)) px o0 a2 1 t2)) px o0 a2 0 t))
def P_L_isSafe (M : Nat → Nat → Bool) (post : Int32 → TT → Prop) (px : String → TT → Prop) (o0 : Nat) (t : TT) : Prop := M 0 o0 = true ∧ (P_X4_isSafe M (fun r1 t1 => ∃ n9, L_L_isSafe_7 M post px n9 o0 r1 0 t1) px o0 t)
def B_L_doors_92 (M : Nat → Nat → Bool) (post : TT → Prop) (px : String → TT → Prop) (t : TT) : Prop := post t
def B_L_doors_51 (M : Nat → Nat → Bool) (post : TT → Prop) (px : String → TT → Prop) (o0 : Nat) (a1 : Int32) (a2 : Int32) (t : TT) : Prop := P_L_isAt M (fun r6 t6 => if r6 = 0 then (M 0 o0 = true ∧ (P_X4_trainIs M (fun r7 t7 => if r7 = 0 then (¬ (5 : Int32) = 0 ∧ (M 0 o0 = true ∧ (P_X4_hold M (fun r8 t8 => B_L_doors_92 M post px t8) px o0 a1 ((1 + (a2 - a2 / 5 * 5))) t7))) else (B_L_doors_92 M post px t7)) px o0 a1 3 t6)) else (¬ (50 : Int32) = 0 ∧ (M 0 o0 = true ∧ (P_X4_open M (fun r9 t9 => B_L_doors_92 M post px t9) px o0 a1 ((a2 - a2 / 50 * 50)) t6)))) px o0 a1 t
def P_L_doors (M : Nat → Nat → Bool) (post : TT → Prop) (px : String → TT → Prop) (o0 : Nat) (a1 : Int32) (a2 : Int32) (t : TT) : Prop := M 0 o0 = true ∧ (P_X4_trainIs M (fun r1 t1 => if r1 < 0 then (P_L_isAt M (fun r2 t2 => if r2 = 0 then (B_L_doors_51 M post px o0 a1 a2 t2) else (¬ (3 : Int32) = 0 ∧ (if (a2 - a2 / 3 * 3) = 0 then (M 0 o0 = true ∧ (P_X4_trainIs M (fun r3 t3 => if r3 = 0 then (M 0 o0 = true ∧ (P_X4_depart M (fun r4 t4 => B_L_doors_92 M post px t4) px o0 a1 t3)) else (B_L_doors_51 M post px o0 a1 a2 t3)) px o0 a1 10 t2)) else (B_L_doors_51 M post px o0 a1 a2 t2)))) px o0 a1 t1) else (M 0 o0 = true ∧ (P_X4_shut M (fun t5 => B_L_doors_92 M post px t5) px o0 a1 t1))) px o0 a1 8 t)
end
section
/-! printed (wip/p26/gen26.py): the instructions of each method, its fields, its words -/
def F_X1 : List (Nat × Nat × Nat) := [(9, 5, 7), (18, 5, 1), (21, 5, 4), (24, 5, 5), (27, 5, 6)]
theorem F_X1_ok : ∀ ix f, fldOf F_X1 ix = some f → fldOK RX1 ix f := fun ix f h => fldOf_ok (by decide +kernel) h
def F_X2 : List (Nat × Nat × Nat) := [(9, 8, 2), (15, 8, 3), (18, 8, 15), (22, 8, 0), (25, 8, 1), (28, 8, 4), (31, 8, 5), (34, 8, 6), (40, 8, 9), (43, 8, 8), (46, 8, 12), (50, 8, 11), (53, 8, 13), (57, 5, 0), (62, 8, 16), (65, 8, 17), (72, 5, 1), (94, 8, 10), (97, 5, 2), (100, 8, 14), (106, 5, 4)]
theorem F_X2_ok : ∀ ix f, fldOf F_X2 ix = some f → fldOK RX2 ix f := fun ix f h => fldOf_ok (by decide +kernel) h
def F_X4 : List (Nat × Nat × Nat) := [(11, 0, 0), (17, 0, 1), (23, 0, 2), (29, 0, 3), (33, 0, 8), (41, 0, 4), (51, 0, 5), (60, 6, 1), (64, 0, 6), (68, 7, 2), (78, 0, 7), (85, 0, 9), (93, 8, 10), (96, 8, 11), (99, 8, 9), (102, 8, 12), (112, 5, 1), (118, 8, 13), (132, 8, 15), (135, 8, 17), (157, 5, 0), (160, 5, 3), (173, 8, 5), (176, 8, 6), (195, 7, 0), (198, 7, 1), (201, 8, 4), (204, 8, 7), (211, 8, 8), (243, 6, 0), (249, 5, 4)]
theorem F_X4_ok : ∀ ix f, fldOf F_X4 ix = some f → fldOK RX4 ix f := fun ix f h => fldOf_ok (by decide +kernel) h
def F_L : List (Nat × Nat × Nat) := []
theorem F_L_ok : ∀ ix f, fldOf F_L ix = some f → fldOK RL ix f := fun ix f h => fldOf_ok (by decide +kernel) h
def T_X1_tell : List (Nat × Ent) := [(0, (.iload_n 1, 1, 0, 0, [])), (1, (.tableswitch 42 0 2 #[27, 32, 37], 27, 43, 0, [28, 33, 38])), (28, (.aload_n 0, 1, 0, 0, [])), (29, (.getfield 18, 3, 0, 0, [])), (32, (.ireturn, 1, 0, 0, [])), (33, (.aload_n 0, 1, 0, 0, [])), (34, (.getfield 21, 3, 0, 0, [])), (37, (.ireturn, 1, 0, 0, [])), (38, (.aload_n 0, 1, 0, 0, [])), (39, (.getfield 24, 3, 0, 0, [])), (42, (.ireturn, 1, 0, 0, [])), (43, (.aload_n 0, 1, 0, 0, [])), (44, (.getfield 9, 3, 0, 0, [])), (47, (.ireturn, 1, 0, 0, []))]
theorem T_X1_tell_ok : (T_X1_tell.all (fun q => entOK cX1_tell q.1 q.2)) = true := by decide +kernel
def T_X1_countDeparture : List (Nat × Ent) := [(0, (.aload_n 0, 1, 0, 0, [])), (1, (.getfield 24, 3, 0, 0, [])), (4, (.ifCond .le 13, 3, 17, 0, [])), (7, (.aload_n 0, 1, 0, 0, [])), (8, (.iload_n 1, 1, 0, 0, [])), (9, (.aload_n 0, 1, 0, 0, [])), (10, (.getfield 27, 3, 0, 0, [])), (13, (.isub, 1, 0, 0, [])), (14, (.putfield 9, 3, 0, 0, [])), (17, (.aload_n 0, 1, 0, 0, [])), (18, (.dup, 1, 0, 0, [])), (19, (.getfield 24, 3, 0, 0, [])), (22, (.iconst 1, 1, 0, 1, [])), (23, (.iadd, 1, 0, 0, [])), (24, (.putfield 24, 3, 0, 0, [])), (27, (.aload_n 0, 1, 0, 0, [])), (28, (.iload_n 1, 1, 0, 0, [])), (29, (.putfield 27, 3, 0, 0, [])), (32, (.return_, 1, 0, 0, []))]
theorem T_X1_countDeparture_ok : (T_X1_countDeparture.all (fun q => entOK cX1_countDeparture q.1 q.2)) = true := by decide +kernel
def T_X2_tell : List (Nat × Ent) := [(0, (.iload_n 1, 1, 0, 0, [])), (1, (.tableswitch 135 0 9 #[55, 60, 65, 70, 75, 80, 93, 106, 125, 130], 55, 136, 0, [56, 61, 66, 71, 76, 81, 94, 107, 126, 131])), (56, (.aload_n 0, 1, 0, 0, [])), (57, (.getfield 28, 3, 0, 0, [])), (60, (.ireturn, 1, 0, 0, [])), (61, (.aload_n 0, 1, 0, 0, [])), (62, (.getfield 31, 3, 0, 0, [])), (65, (.ireturn, 1, 0, 0, [])), (66, (.aload_n 0, 1, 0, 0, [])), (67, (.getfield 34, 3, 0, 0, [])), (70, (.ireturn, 1, 0, 0, [])), (71, (.aload_n 0, 1, 0, 0, [])), (72, (.getfield 40, 3, 0, 0, [])), (75, (.ireturn, 1, 0, 0, [])), (76, (.aload_n 0, 1, 0, 0, [])), (77, (.getfield 43, 3, 0, 0, [])), (80, (.ireturn, 1, 0, 0, [])), (81, (.aload_n 0, 1, 0, 0, [])), (82, (.getfield 46, 3, 0, 0, [])), (85, (.ifCond .eq 7, 3, 92, 0, [])), (88, (.iconst 1, 1, 0, 1, [])), (89, (.goto 4, 3, 93, 0, [])), (92, (.iconst 0, 1, 0, 0, [])), (93, (.ireturn, 1, 0, 0, [])), (94, (.aload_n 0, 1, 0, 0, [])), (95, (.getfield 50, 3, 0, 0, [])), (98, (.ifCond .eq 7, 3, 105, 0, [])), (101, (.iconst 1, 1, 0, 1, [])), (102, (.goto 4, 3, 106, 0, [])), (105, (.iconst 0, 1, 0, 0, [])), (106, (.ireturn, 1, 0, 0, [])), (107, (.aload_n 0, 1, 0, 0, [])), (108, (.getfield 53, 3, 0, 0, [])), (111, (.ifnonnull 7, 3, 118, 0, [])), (114, (.iconst (-1), 1, 0, (-1), [])), (115, (.goto 10, 3, 125, 0, [])), (118, (.aload_n 0, 1, 0, 0, [])), (119, (.getfield 53, 3, 0, 0, [])), (122, (.getfield 57, 3, 0, 0, [])), (125, (.ireturn, 1, 0, 0, [])), (126, (.aload_n 0, 1, 0, 0, [])), (127, (.getfield 18, 3, 0, 0, [])), (130, (.ireturn, 1, 0, 0, [])), (131, (.aload_n 0, 1, 0, 0, [])), (132, (.getfield 62, 3, 0, 0, [])), (135, (.ireturn, 1, 0, 0, [])), (136, (.aload_n 0, 1, 0, 0, [])), (137, (.getfield 65, 3, 0, 0, [])), (140, (.ireturn, 1, 0, 0, []))]
theorem T_X2_tell_ok : (T_X2_tell.all (fun q => entOK cX2_tell q.1 q.2)) = true := by decide +kernel
def T_X2_wayToStop : List (Nat × Ent) := [(0, (.iload_n 0, 1, 0, 0, [])), (1, (.iload_n 0, 1, 0, 0, [])), (2, (.iconst 1, 1, 0, 1, [])), (3, (.iadd, 1, 0, 0, [])), (4, (.imul, 1, 0, 0, [])), (5, (.iconst 2, 1, 0, 2, [])), (6, (.idiv, 1, 0, 0, [])), (7, (.iload_n 0, 1, 0, 0, [])), (8, (.iadd, 1, 0, 0, [])), (9, (.ireturn, 1, 0, 0, []))]
theorem T_X2_wayToStop_ok : (T_X2_wayToStop.all (fun q => entOK cX2_wayToStop q.1 q.2)) = true := by decide +kernel
def T_X2_keeps : List (Nat × Ent) := [(0, (.aload_n 0, 1, 0, 0, [])), (1, (.getfield 50, 3, 0, 0, [])), (4, (.ifCond .eq 10, 3, 14, 0, [])), (7, (.aload_n 0, 1, 0, 0, [])), (8, (.getfield 43, 3, 0, 0, [])), (11, (.goto 15, 3, 26, 0, [])), (14, (.aload_n 0, 1, 0, 0, [])), (15, (.getfield 34, 3, 0, 0, [])), (18, (.aload_n 0, 1, 0, 0, [])), (19, (.getfield 40, 3, 0, 0, [])), (22, (.invokestatic 68, 3, 0, 0, [])), (25, (.iadd, 1, 0, 0, [])), (26, (.istore_n 2, 1, 0, 0, [])), (27, (.iload_n 2, 1, 0, 0, [])), (28, (.iload_n 1, 1, 0, 0, [])), (29, (.if_icmp .gt 7, 3, 36, 0, [])), (32, (.iconst 1, 1, 0, 1, [])), (33, (.goto 4, 3, 37, 0, [])), (36, (.iconst 0, 1, 0, 0, [])), (37, (.ireturn, 1, 0, 0, []))]
theorem T_X2_keeps_ok : (T_X2_keeps.all (fun q => entOK cX2_keeps q.1 q.2)) = true := by decide +kernel
def T_X2_mayCover : List (Nat × Ent) := [(0, (.aload_n 0, 1, 0, 0, [])), (1, (.getfield 31, 3, 0, 0, [])), (4, (.bipush 100, 2, 0, 100, [])), (6, (.isub, 1, 0, 0, [])), (7, (.iload_n 2, 1, 0, 0, [])), (8, (.if_icmp .gt 15, 3, 23, 0, [])), (11, (.aload_n 0, 1, 0, 0, [])), (12, (.getfield 34, 3, 0, 0, [])), (15, (.iload_n 1, 1, 0, 0, [])), (16, (.if_icmp .lt 7, 3, 23, 0, [])), (19, (.iconst 1, 1, 0, 1, [])), (20, (.goto 4, 3, 24, 0, [])), (23, (.iconst 0, 1, 0, 0, [])), (24, (.ireturn, 1, 0, 0, []))]
theorem T_X2_mayCover_ok : (T_X2_mayCover.all (fun q => entOK cX2_mayCover q.1 q.2)) = true := by decide +kernel
def T_X2_isInItsBounds : List (Nat × Ent) := [(0, (.aload_n 0, 1, 0, 0, [])), (1, (.getfield 31, 3, 0, 0, [])), (4, (.aload_n 0, 1, 0, 0, [])), (5, (.getfield 28, 3, 0, 0, [])), (8, (.if_icmp .gt 29, 3, 37, 0, [])), (11, (.aload_n 0, 1, 0, 0, [])), (12, (.getfield 28, 3, 0, 0, [])), (15, (.aload_n 0, 1, 0, 0, [])), (16, (.getfield 34, 3, 0, 0, [])), (19, (.if_icmp .gt 18, 3, 37, 0, [])), (22, (.aload_n 0, 1, 0, 0, [])), (23, (.getfield 34, 3, 0, 0, [])), (26, (.aload_n 0, 1, 0, 0, [])), (27, (.getfield 43, 3, 0, 0, [])), (30, (.if_icmp .gt 7, 3, 37, 0, [])), (33, (.iconst 1, 1, 0, 1, [])), (34, (.goto 4, 3, 38, 0, [])), (37, (.iconst 0, 1, 0, 0, [])), (38, (.ireturn, 1, 0, 0, []))]
theorem T_X2_isInItsBounds_ok : (T_X2_isInItsBounds.all (fun q => entOK cX2_isInItsBounds q.1 q.2)) = true := by decide +kernel
def T_X2_hasOpenDoors : List (Nat × Ent) := [(0, (.aload_n 0, 1, 0, 0, [])), (1, (.getfield 18, 3, 0, 0, [])), (4, (.iconst (-1), 1, 0, (-1), [])), (5, (.if_icmp .eq 7, 3, 12, 0, [])), (8, (.iconst 1, 1, 0, 1, [])), (9, (.goto 4, 3, 13, 0, [])), (12, (.iconst 0, 1, 0, 0, [])), (13, (.ireturn, 1, 0, 0, []))]
theorem T_X2_hasOpenDoors_ok : (T_X2_hasOpenDoors.all (fun q => entOK cX2_hasOpenDoors q.1 q.2)) = true := by decide +kernel
def T_X2_isAtStop : List (Nat × Ent) := [(0, (.aload_n 0, 1, 0, 0, [])), (1, (.getfield 53, 3, 0, 0, [])), (4, (.ifnull 46, 3, 50, 0, [])), (7, (.aload_n 0, 1, 0, 0, [])), (8, (.getfield 40, 3, 0, 0, [])), (11, (.ifCond .ne 39, 3, 50, 0, [])), (14, (.aload_n 0, 1, 0, 0, [])), (15, (.getfield 31, 3, 0, 0, [])), (18, (.aload_n 0, 1, 0, 0, [])), (19, (.getfield 53, 3, 0, 0, [])), (22, (.getfield 72, 3, 0, 0, [])), (25, (.iconst 1, 1, 0, 1, [])), (26, (.isub, 1, 0, 0, [])), (27, (.if_icmp .lt 23, 3, 50, 0, [])), (30, (.aload_n 0, 1, 0, 0, [])), (31, (.getfield 34, 3, 0, 0, [])), (34, (.aload_n 0, 1, 0, 0, [])), (35, (.getfield 53, 3, 0, 0, [])), (38, (.getfield 72, 3, 0, 0, [])), (41, (.iconst 1, 1, 0, 1, [])), (42, (.iadd, 1, 0, 0, [])), (43, (.if_icmp .gt 7, 3, 50, 0, [])), (46, (.iconst 1, 1, 0, 1, [])), (47, (.goto 4, 3, 51, 0, [])), (50, (.iconst 0, 1, 0, 0, [])), (51, (.ireturn, 1, 0, 0, []))]
theorem T_X2_isAtStop_ok : (T_X2_isAtStop.all (fun q => entOK cX2_isAtStop q.1 q.2)) = true := by decide +kernel
def T_X2_canDepart : List (Nat × Ent) := [(0, (.aload_n 0, 1, 0, 0, [])), (1, (.invokevirtual 75, 3, 0, 0, [])), (4, (.ifCond .eq 21, 3, 25, 0, [])), (7, (.aload_n 0, 1, 0, 0, [])), (8, (.invokevirtual 79, 3, 0, 0, [])), (11, (.ifCond .ne 14, 3, 25, 0, [])), (14, (.aload_n 0, 1, 0, 0, [])), (15, (.getfield 65, 3, 0, 0, [])), (18, (.ifCond .ne 7, 3, 25, 0, [])), (21, (.iconst 1, 1, 0, 1, [])), (22, (.goto 4, 3, 26, 0, [])), (25, (.iconst 0, 1, 0, 0, [])), (26, (.ireturn, 1, 0, 0, []))]
theorem T_X2_canDepart_ok : (T_X2_canDepart.all (fun q => entOK cX2_canDepart q.1 q.2)) = true := by decide +kernel
def T_X2_greatestSpeed : List (Nat × Ent) := [(0, (.aload_n 0, 1, 0, 0, [])), (1, (.getfield 53, 3, 0, 0, [])), (4, (.ifnonnull 10, 3, 14, 0, [])), (7, (.aload_n 0, 1, 0, 0, [])), (8, (.getfield 43, 3, 0, 0, [])), (11, (.goto 19, 3, 30, 0, [])), (14, (.aload_n 0, 1, 0, 0, [])), (15, (.getfield 43, 3, 0, 0, [])), (18, (.aload_n 0, 1, 0, 0, [])), (19, (.getfield 53, 3, 0, 0, [])), (22, (.getfield 72, 3, 0, 0, [])), (25, (.iconst 1, 1, 0, 1, [])), (26, (.iadd, 1, 0, 0, [])), (27, (.invokestatic 91, 3, 0, 0, [])), (30, (.istore_n 2, 1, 0, 0, [])), (31, (.aload_n 0, 1, 0, 0, [])), (32, (.getfield 40, 3, 0, 0, [])), (35, (.iconst 1, 1, 0, 1, [])), (36, (.iadd, 1, 0, 0, [])), (37, (.iload_n 1, 1, 0, 0, [])), (38, (.aload_n 0, 1, 0, 0, [])), (39, (.getfield 40, 3, 0, 0, [])), (42, (.iconst 1, 1, 0, 1, [])), (43, (.isub, 1, 0, 0, [])), (44, (.invokestatic 82, 3, 0, 0, [])), (47, (.invokestatic 91, 3, 0, 0, [])), (50, (.istore_n 3, 1, 0, 0, [])), (51, (.iload_n 3, 1, 0, 0, [])), (52, (.ifCond .le 22, 3, 74, 0, [])), (55, (.aload_n 0, 1, 0, 0, [])), (56, (.getfield 34, 3, 0, 0, [])), (59, (.iload_n 3, 1, 0, 0, [])), (60, (.invokestatic 68, 3, 0, 0, [])), (63, (.iadd, 1, 0, 0, [])), (64, (.iload_n 2, 1, 0, 0, [])), (65, (.if_icmp .le 9, 3, 74, 0, [])), (68, (.iinc 3 (-1), 3, 0, (-1), [])), (71, (.goto (-20), 3, 51, 0, [])), (74, (.iload_n 3, 1, 0, 0, [])), (75, (.ireturn, 1, 0, 0, []))]
theorem T_X2_greatestSpeed_ok : (T_X2_greatestSpeed.all (fun q => entOK cX2_greatestSpeed q.1 q.2)) = true := by decide +kernel
def T_X2_findSpeed : List (Nat × Ent) := [(0, (.aload_n 0, 1, 0, 0, [])), (1, (.getfield 46, 3, 0, 0, [])), (4, (.ifCond .eq 36, 3, 40, 0, [])), (7, (.aload_n 0, 1, 0, 0, [])), (8, (.aload_n 0, 1, 0, 0, [])), (9, (.getfield 40, 3, 0, 0, [])), (12, (.iconst 3, 1, 0, 3, [])), (13, (.isub, 1, 0, 0, [])), (14, (.iconst 0, 1, 0, 0, [])), (15, (.invokestatic 82, 3, 0, 0, [])), (18, (.putfield 40, 3, 0, 0, [])), (21, (.aload_n 0, 1, 0, 0, [])), (22, (.aload_n 0, 1, 0, 0, [])), (23, (.getfield 40, 3, 0, 0, [])), (26, (.ifCond .le 7, 3, 33, 0, [])), (29, (.iconst 1, 1, 0, 1, [])), (30, (.goto 4, 3, 34, 0, [])), (33, (.iconst 0, 1, 0, 0, [])), (34, (.putfield 46, 3, 0, 0, [])), (37, (.goto 34, 3, 71, 0, [])), (40, (.aload_n 0, 1, 0, 0, [])), (41, (.invokevirtual 79, 3, 0, 0, [])), (44, (.ifCond .ne 10, 3, 54, 0, [])), (47, (.aload_n 0, 1, 0, 0, [])), (48, (.getfield 65, 3, 0, 0, [])), (51, (.ifCond .le 11, 3, 62, 0, [])), (54, (.aload_n 0, 1, 0, 0, [])), (55, (.iconst 0, 1, 0, 0, [])), (56, (.putfield 40, 3, 0, 0, [])), (59, (.goto 12, 3, 71, 0, [])), (62, (.aload_n 0, 1, 0, 0, [])), (63, (.aload_n 0, 1, 0, 0, [])), (64, (.iload_n 1, 1, 0, 0, [])), (65, (.invokevirtual 88, 3, 0, 0, [])), (68, (.putfield 40, 3, 0, 0, [])), (71, (.return_, 1, 0, 0, []))]
theorem T_X2_findSpeed_ok : (T_X2_findSpeed.all (fun q => entOK cX2_findSpeed q.1 q.2)) = true := by decide +kernel
def T_X2_go : List (Nat × Ent) := [(0, (.iconst 0, 1, 0, 0, [])), (1, (.istore_n 2, 1, 0, 0, [])), (2, (.aload_n 0, 1, 0, 0, [])), (3, (.getfield 40, 3, 0, 0, [])), (6, (.ifCond .le 53, 3, 59, 0, [])), (9, (.aload_n 0, 1, 0, 0, [])), (10, (.getfield 40, 3, 0, 0, [])), (13, (.aload_n 0, 1, 0, 0, [])), (14, (.getfield 94, 3, 0, 0, [])), (17, (.iadd, 1, 0, 0, [])), (18, (.istore_n 2, 1, 0, 0, [])), (19, (.aload_n 0, 1, 0, 0, [])), (20, (.dup, 1, 0, 0, [])), (21, (.getfield 28, 3, 0, 0, [])), (24, (.iload_n 2, 1, 0, 0, [])), (25, (.iadd, 1, 0, 0, [])), (26, (.putfield 28, 3, 0, 0, [])), (29, (.aload_n 0, 1, 0, 0, [])), (30, (.dup, 1, 0, 0, [])), (31, (.getfield 31, 3, 0, 0, [])), (34, (.aload_n 0, 1, 0, 0, [])), (35, (.getfield 40, 3, 0, 0, [])), (38, (.iconst 1, 1, 0, 1, [])), (39, (.isub, 1, 0, 0, [])), (40, (.iadd, 1, 0, 0, [])), (41, (.putfield 31, 3, 0, 0, [])), (44, (.aload_n 0, 1, 0, 0, [])), (45, (.dup, 1, 0, 0, [])), (46, (.getfield 34, 3, 0, 0, [])), (49, (.aload_n 0, 1, 0, 0, [])), (50, (.getfield 40, 3, 0, 0, [])), (53, (.iconst 1, 1, 0, 1, [])), (54, (.iadd, 1, 0, 0, [])), (55, (.iadd, 1, 0, 0, [])), (56, (.putfield 34, 3, 0, 0, [])), (59, (.iload_n 1, 1, 0, 0, [])), (60, (.ifCond .lt 40, 3, 100, 0, [])), (63, (.iload_n 1, 1, 0, 0, [])), (64, (.aload_n 0, 1, 0, 0, [])), (65, (.getfield 9, 3, 0, 0, [])), (68, (.arraylength, 1, 0, 0, [])), (69, (.if_icmp .ge 31, 3, 100, 0, [])), (72, (.iload_n 1, 1, 0, 0, [])), (73, (.aload_n 0, 1, 0, 0, [])), (74, (.getfield 15, 3, 0, 0, [])), (77, (.arraylength, 1, 0, 0, [])), (78, (.if_icmp .ge 22, 3, 100, 0, [])), (81, (.aload_n 0, 1, 0, 0, [])), (82, (.getfield 9, 3, 0, 0, [])), (85, (.iload_n 1, 1, 0, 0, [])), (86, (.aload_n 0, 1, 0, 0, [])), (87, (.getfield 40, 3, 0, 0, [])), (90, (.i2b, 1, 0, 0, [])), (91, (.bastore, 1, 0, 0, [])), (92, (.aload_n 0, 1, 0, 0, [])), (93, (.getfield 15, 3, 0, 0, [])), (96, (.iload_n 1, 1, 0, 0, [])), (97, (.iload_n 2, 1, 0, 0, [])), (98, (.i2b, 1, 0, 0, [])), (99, (.bastore, 1, 0, 0, [])), (100, (.return_, 1, 0, 0, []))]
theorem T_X2_go_ok : (T_X2_go.all (fun q => entOK cX2_go q.1 q.2)) = true := by decide +kernel
def T_X2_playAgain : List (Nat × Ent) := [(0, (.aload_n 0, 1, 0, 0, [])), (1, (.getfield 22, 3, 0, 0, [])), (4, (.istore_n 2, 1, 0, 0, [])), (5, (.aload_n 0, 1, 0, 0, [])), (6, (.getfield 25, 3, 0, 0, [])), (9, (.iconst 1, 1, 0, 1, [])), (10, (.iadd, 1, 0, 0, [])), (11, (.istore_n 3, 1, 0, 0, [])), (12, (.iload_n 3, 1, 0, 0, [])), (13, (.iload_n 1, 1, 0, 0, [])), (14, (.if_icmp .gt 27, 3, 41, 0, [])), (17, (.iload_n 3, 1, 0, 0, [])), (18, (.aload_n 0, 1, 0, 0, [])), (19, (.getfield 15, 3, 0, 0, [])), (22, (.arraylength, 1, 0, 0, [])), (23, (.if_icmp .ge 18, 3, 41, 0, [])), (26, (.iload_n 2, 1, 0, 0, [])), (27, (.aload_n 0, 1, 0, 0, [])), (28, (.getfield 15, 3, 0, 0, [])), (31, (.iload_n 3, 1, 0, 0, [])), (32, (.baload, 1, 0, 0, [])), (33, (.iadd, 1, 0, 0, [])), (34, (.istore_n 2, 1, 0, 0, [])), (35, (.iinc 3 1, 3, 0, 1, [])), (38, (.goto (-26), 3, 12, 0, [])), (41, (.iload_n 2, 1, 0, 0, [])), (42, (.ireturn, 1, 0, 0, []))]
theorem T_X2_playAgain_ok : (T_X2_playAgain.all (fun q => entOK cX2_playAgain q.1 q.2)) = true := by decide +kernel
def T_X2_openDoors : List (Nat × Ent) := [(0, (.aload_n 0, 1, 0, 0, [])), (1, (.getfield 53, 3, 0, 0, [])), (4, (.ifnonnull 8, 3, 12, 0, [])), (7, (.bipush 15, 2, 0, 15, [])), (9, (.goto 10, 3, 19, 0, [])), (12, (.aload_n 0, 1, 0, 0, [])), (13, (.getfield 53, 3, 0, 0, [])), (16, (.getfield 97, 3, 0, 0, [])), (19, (.istore_n 2, 1, 0, 0, [])), (20, (.aload_n 0, 1, 0, 0, [])), (21, (.bipush 15, 2, 0, 15, [])), (23, (.aload_n 0, 1, 0, 0, [])), (24, (.getfield 100, 3, 0, 0, [])), (27, (.iload_n 2, 1, 0, 0, [])), (28, (.ior, 1, 0, 0, [])), (29, (.iconst (-1), 1, 0, (-1), [])), (30, (.ixor, 1, 0, 0, [])), (31, (.iand, 1, 0, 0, [])), (32, (.putfield 18, 3, 0, 0, [])), (35, (.aload_n 0, 1, 0, 0, [])), (36, (.aload_n 0, 1, 0, 0, [])), (37, (.getfield 62, 3, 0, 0, [])), (40, (.iload_n 1, 1, 0, 0, [])), (41, (.isub, 1, 0, 0, [])), (42, (.iconst 0, 1, 0, 0, [])), (43, (.invokestatic 82, 3, 0, 0, [])), (46, (.putfield 62, 3, 0, 0, [])), (49, (.return_, 1, 0, 0, []))]
theorem T_X2_openDoors_ok : (T_X2_openDoors.all (fun q => entOK cX2_openDoors q.1 q.2)) = true := by decide +kernel
def T_X2_takePeople : List (Nat × Ent) := [(0, (.aload_n 0, 1, 0, 0, [])), (1, (.getfield 53, 3, 0, 0, [])), (4, (.ifnull 65, 3, 69, 0, [])), (7, (.aload_n 0, 1, 0, 0, [])), (8, (.invokevirtual 79, 3, 0, 0, [])), (11, (.ifCond .eq 58, 3, 69, 0, [])), (14, (.iconst 2, 1, 0, 2, [])), (15, (.aload_n 0, 1, 0, 0, [])), (16, (.getfield 18, 3, 0, 0, [])), (19, (.invokestatic 101, 3, 0, 0, [])), (22, (.imul, 1, 0, 0, [])), (23, (.istore_n 1, 1, 0, 0, [])), (24, (.iload_n 1, 1, 0, 0, [])), (25, (.aload_n 0, 1, 0, 0, [])), (26, (.getfield 53, 3, 0, 0, [])), (29, (.getfield 106, 3, 0, 0, [])), (32, (.bipush 120, 2, 0, 120, [])), (34, (.aload_n 0, 1, 0, 0, [])), (35, (.getfield 62, 3, 0, 0, [])), (38, (.isub, 1, 0, 0, [])), (39, (.invokestatic 91, 3, 0, 0, [])), (42, (.invokestatic 91, 3, 0, 0, [])), (45, (.istore_n 2, 1, 0, 0, [])), (46, (.aload_n 0, 1, 0, 0, [])), (47, (.getfield 53, 3, 0, 0, [])), (50, (.dup, 1, 0, 0, [])), (51, (.getfield 106, 3, 0, 0, [])), (54, (.iload_n 2, 1, 0, 0, [])), (55, (.isub, 1, 0, 0, [])), (56, (.putfield 106, 3, 0, 0, [])), (59, (.aload_n 0, 1, 0, 0, [])), (60, (.dup, 1, 0, 0, [])), (61, (.getfield 62, 3, 0, 0, [])), (64, (.iload_n 2, 1, 0, 0, [])), (65, (.iadd, 1, 0, 0, [])), (66, (.putfield 62, 3, 0, 0, [])), (69, (.return_, 1, 0, 0, []))]
theorem T_X2_takePeople_ok : (T_X2_takePeople.all (fun q => entOK cX2_takePeople q.1 q.2)) = true := by decide +kernel
def T_X4_askNumber : List (Nat × Ent) := [(0, (.iload_n 0, 1, 0, 0, [])), (1, (.ifCond .lt 8, 3, 9, 0, [])), (4, (.iload_n 0, 1, 0, 0, [])), (5, (.iload_n 1, 1, 0, 0, [])), (6, (.if_icmp .lt 13, 3, 19, 0, [])), (19, (.return_, 1, 0, 0, []))]
theorem T_X4_askNumber_ok : (T_X4_askNumber.all (fun q => entOK cX4_askNumber q.1 q.2)) = true := by decide +kernel
def T_X4_works : List (Nat × Ent) := [(0, (.iload_n 1, 1, 0, 0, [])), (1, (.aload_n 0, 1, 0, 0, [])), (2, (.getfield 51, 3, 0, 0, [])), (5, (.invokestatic 57, 3, 0, 0, [])), (8, (.aload_n 0, 1, 0, 0, [])), (9, (.getfield 17, 3, 0, 0, [])), (12, (.iload_n 1, 1, 0, 0, [])), (13, (.aaload, 1, 0, 0, [])), (14, (.astore_n 3, 1, 0, 0, [])), (15, (.aload_n 3, 1, 0, 0, [])), (16, (.getfield 60, 3, 0, 0, [])), (19, (.istore 4, 2, 0, 0, [])), (21, (.aload_n 3, 1, 0, 0, [])), (22, (.iload_n 2, 1, 0, 0, [])), (23, (.putfield 60, 3, 0, 0, [])), (26, (.iload 4, 2, 0, 0, [])), (28, (.ireturn, 1, 0, 0, []))]
theorem T_X4_works_ok : (T_X4_works.all (fun q => entOK cX4_works q.1 q.2)) = true := by decide +kernel
def T_X4_askThat : List (Nat × Ent) := [(0, (.iload_n 0, 1, 0, 0, [])), (1, (.ifCond .ne 13, 3, 14, 0, [])), (14, (.return_, 1, 0, 0, []))]
theorem T_X4_askThat_ok : (T_X4_askThat.all (fun q => entOK cX4_askThat q.1 q.2)) = true := by decide +kernel
def T_X4_canBeClosed : List (Nat × Ent) := [(0, (.iconst 0, 1, 0, 0, [])), (1, (.istore_n 2, 1, 0, 0, [])), (2, (.iload_n 2, 1, 0, 0, [])), (3, (.aload_n 0, 1, 0, 0, [])), (4, (.getfield 78, 3, 0, 0, [])), (7, (.if_icmp .ge 57, 3, 64, 0, [])), (10, (.aload_n 0, 1, 0, 0, [])), (11, (.getfield 29, 3, 0, 0, [])), (14, (.iload_n 2, 1, 0, 0, [])), (15, (.aaload, 1, 0, 0, [])), (16, (.astore_n 3, 1, 0, 0, [])), (17, (.aload_n 3, 1, 0, 0, [])), (18, (.aload_n 1, 1, 0, 0, [])), (19, (.getfield 195, 3, 0, 0, [])), (22, (.aload_n 1, 1, 0, 0, [])), (23, (.getfield 198, 3, 0, 0, [])), (26, (.invokevirtual 179, 3, 0, 0, [])), (29, (.ifCond .eq 5, 3, 34, 0, [])), (32, (.iconst 0, 1, 0, 0, [])), (33, (.ireturn, 1, 0, 0, [])), (34, (.aload_n 3, 1, 0, 0, [])), (35, (.getfield 176, 3, 0, 0, [])), (38, (.aload_n 1, 1, 0, 0, [])), (39, (.getfield 195, 3, 0, 0, [])), (42, (.if_icmp .ge 16, 3, 58, 0, [])), (45, (.aload_n 3, 1, 0, 0, [])), (46, (.aload_n 1, 1, 0, 0, [])), (47, (.getfield 195, 3, 0, 0, [])), (50, (.invokevirtual 115, 3, 0, 0, [])), (53, (.ifCond .ne 5, 3, 58, 0, [])), (56, (.iconst 0, 1, 0, 0, [])), (57, (.ireturn, 1, 0, 0, [])), (58, (.iinc 2 1, 3, 0, 1, [])), (61, (.goto (-59), 3, 2, 0, [])), (64, (.iconst 1, 1, 0, 1, [])), (65, (.ireturn, 1, 0, 0, []))]
theorem T_X4_canBeClosed_ok : (T_X4_canBeClosed.all (fun q => entOK cX4_canBeClosed q.1 q.2)) = true := by decide +kernel
def T_X4_oneAheadOf : List (Nat × Ent) := [(0, (.aconst_null, 1, 8, 0, [])), (1, (.astore_n 2, 1, 0, 0, [])), (2, (.iconst 0, 1, 0, 0, [])), (3, (.istore_n 3, 1, 0, 0, [])), (4, (.iload_n 3, 1, 0, 0, [])), (5, (.aload_n 0, 1, 0, 0, [])), (6, (.getfield 78, 3, 0, 0, [])), (9, (.if_icmp .ge 48, 3, 57, 0, [])), (12, (.aload_n 0, 1, 0, 0, [])), (13, (.getfield 29, 3, 0, 0, [])), (16, (.iload_n 3, 1, 0, 0, [])), (17, (.aaload, 1, 0, 0, [])), (18, (.astore 4, 2, 0, 0, [])), (20, (.aload 4, 2, 0, 0, [])), (22, (.getfield 201, 3, 0, 0, [])), (25, (.aload_n 1, 1, 0, 0, [])), (26, (.getfield 201, 3, 0, 0, [])), (29, (.if_icmp .le 22, 3, 51, 0, [])), (32, (.aload_n 2, 1, 0, 0, [])), (33, (.ifnull 15, 3, 48, 0, [])), (36, (.aload 4, 2, 0, 0, [])), (38, (.getfield 201, 3, 0, 0, [])), (41, (.aload_n 2, 1, 0, 0, [])), (42, (.getfield 201, 3, 0, 0, [])), (45, (.if_icmp .ge 6, 3, 51, 0, [])), (48, (.aload 4, 2, 0, 0, [])), (50, (.astore_n 2, 1, 0, 0, [])), (51, (.iinc 3 1, 3, 0, 1, [])), (54, (.goto (-50), 3, 4, 0, [])), (57, (.aload_n 2, 1, 0, 0, [])), (58, (.areturn, 1, 0, 0, []))]
theorem T_X4_oneAheadOf_ok : (T_X4_oneAheadOf.all (fun q => entOK cX4_oneAheadOf q.1 q.2)) = true := by decide +kernel
def T_X4_limitFor : List (Nat × Ent) := [(0, (.sipush 5000, 3, 0, 5000, [])), (3, (.istore_n 2, 1, 0, 0, [])), (4, (.aload_n 0, 1, 0, 0, [])), (5, (.aload_n 1, 1, 0, 0, [])), (6, (.invokevirtual 214, 3, 0, 0, [])), (9, (.astore_n 3, 1, 0, 0, [])), (10, (.aload_n 3, 1, 0, 0, [])), (11, (.ifnull 15, 3, 26, 0, [])), (14, (.iload_n 2, 1, 0, 0, [])), (15, (.aload_n 3, 1, 0, 0, [])), (16, (.getfield 204, 3, 0, 0, [])), (19, (.bipush 120, 2, 0, 120, [])), (21, (.isub, 1, 0, 0, [])), (22, (.invokestatic 138, 3, 0, 0, [])), (25, (.istore_n 2, 1, 0, 0, [])), (26, (.iconst 0, 1, 0, 0, [])), (27, (.istore 4, 2, 0, 0, [])), (29, (.iload 4, 2, 0, 0, [])), (31, (.aload_n 0, 1, 0, 0, [])), (32, (.getfield 64, 3, 0, 0, [])), (35, (.if_icmp .ge 48, 3, 83, 0, [])), (38, (.aload_n 0, 1, 0, 0, [])), (39, (.getfield 23, 3, 0, 0, [])), (42, (.iload 4, 2, 0, 0, [])), (44, (.aaload, 1, 0, 0, [])), (45, (.astore 5, 2, 0, 0, [])), (47, (.aload 5, 2, 0, 0, [])), (49, (.getfield 68, 3, 0, 0, [])), (52, (.ifCond .eq 25, 3, 77, 0, [])), (55, (.aload 5, 2, 0, 0, [])), (57, (.getfield 195, 3, 0, 0, [])), (60, (.aload_n 1, 1, 0, 0, [])), (61, (.getfield 176, 3, 0, 0, [])), (64, (.if_icmp .lt 13, 3, 77, 0, [])), (67, (.iload_n 2, 1, 0, 0, [])), (68, (.aload 5, 2, 0, 0, [])), (70, (.getfield 195, 3, 0, 0, [])), (73, (.invokestatic 138, 3, 0, 0, [])), (76, (.istore_n 2, 1, 0, 0, [])), (77, (.iinc 4 1, 3, 0, 1, [])), (80, (.goto (-51), 3, 29, 0, [])), (83, (.iload_n 2, 1, 0, 0, [])), (84, (.ireturn, 1, 0, 0, []))]
theorem T_X4_limitFor_ok : (T_X4_limitFor.all (fun q => entOK cX4_limitFor q.1 q.2)) = true := by decide +kernel
def T_X4_dealLimits : List (Nat × Ent) := [(0, (.iconst 0, 1, 0, 0, [])), (1, (.istore_n 1, 1, 0, 0, [])), (2, (.iload_n 1, 1, 0, 0, [])), (3, (.aload_n 0, 1, 0, 0, [])), (4, (.getfield 78, 3, 0, 0, [])), (7, (.if_icmp .ge 32, 3, 39, 0, [])), (10, (.aload_n 0, 1, 0, 0, [])), (11, (.getfield 29, 3, 0, 0, [])), (14, (.iload_n 1, 1, 0, 0, [])), (15, (.aaload, 1, 0, 0, [])), (16, (.astore_n 2, 1, 0, 0, [])), (17, (.aload_n 2, 1, 0, 0, [])), (18, (.getfield 96, 3, 0, 0, [])), (21, (.ifCond .ne 12, 3, 33, 0, [])), (24, (.aload_n 2, 1, 0, 0, [])), (25, (.aload_n 0, 1, 0, 0, [])), (26, (.aload_n 2, 1, 0, 0, [])), (27, (.invokevirtual 207, 3, 0, 0, [])), (30, (.putfield 211, 3, 0, 0, [])), (33, (.iinc 1 1, 3, 0, 1, [])), (36, (.goto (-34), 3, 2, 0, [])), (39, (.return_, 1, 0, 0, []))]
theorem T_X4_dealLimits_ok : (T_X4_dealLimits.all (fun q => entOK cX4_dealLimits q.1 q.2)) = true := by decide +kernel
def T_X4_close : List (Nat × Ent) := [(0, (.iload_n 1, 1, 0, 0, [])), (1, (.aload_n 0, 1, 0, 0, [])), (2, (.getfield 64, 3, 0, 0, [])), (5, (.invokestatic 57, 3, 0, 0, [])), (8, (.aload_n 0, 1, 0, 0, [])), (9, (.getfield 23, 3, 0, 0, [])), (12, (.iload_n 1, 1, 0, 0, [])), (13, (.aaload, 1, 0, 0, [])), (14, (.astore_n 3, 1, 0, 0, [])), (15, (.aload_n 3, 1, 0, 0, [])), (16, (.getfield 68, 3, 0, 0, [])), (19, (.istore 4, 2, 0, 0, [])), (21, (.iload_n 2, 1, 0, 0, [])), (22, (.ifCond .eq 16, 3, 38, 0, [])), (25, (.iload 4, 2, 0, 0, [])), (27, (.ifCond .ne 11, 3, 38, 0, [])), (30, (.aload_n 0, 1, 0, 0, [])), (31, (.aload_n 3, 1, 0, 0, [])), (32, (.invokevirtual 71, 3, 0, 0, [])), (35, (.ifCond .eq 7, 3, 42, 0, [])), (38, (.iconst 1, 1, 0, 1, [])), (39, (.goto 4, 3, 43, 0, [])), (42, (.iconst 0, 1, 0, 0, [])), (43, (.invokestatic 44, 3, 0, 0, [])), (46, (.aload_n 3, 1, 0, 0, [])), (47, (.iload_n 2, 1, 0, 0, [])), (48, (.putfield 68, 3, 0, 0, [])), (51, (.aload_n 0, 1, 0, 0, [])), (52, (.invokevirtual 75, 3, 0, 0, [])), (55, (.iload 4, 2, 0, 0, [])), (57, (.ireturn, 1, 0, 0, []))]
theorem T_X4_close_ok : (T_X4_close.all (fun q => entOK cX4_close q.1 q.2)) = true := by decide +kernel
def T_X4_askRange : List (Nat × Ent) := [(0, (.iload_n 0, 1, 0, 0, [])), (1, (.iload_n 1, 1, 0, 0, [])), (2, (.if_icmp .lt 8, 3, 10, 0, [])), (5, (.iload_n 0, 1, 0, 0, [])), (6, (.iload_n 2, 1, 0, 0, [])), (7, (.if_icmp .le 13, 3, 20, 0, [])), (20, (.return_, 1, 0, 0, []))]
theorem T_X4_askRange_ok : (T_X4_askRange.all (fun q => entOK cX4_askRange q.1 q.2)) = true := by decide +kernel
def T_X4_speed : List (Nat × Ent) := [(0, (.iload_n 1, 1, 0, 0, [])), (1, (.iconst 1, 1, 0, 1, [])), (2, (.bipush 20, 2, 0, 20, [])), (4, (.invokestatic 37, 3, 0, 0, [])), (7, (.aload_n 0, 1, 0, 0, [])), (8, (.getfield 33, 3, 0, 0, [])), (11, (.istore_n 2, 1, 0, 0, [])), (12, (.aload_n 0, 1, 0, 0, [])), (13, (.iload_n 1, 1, 0, 0, [])), (14, (.putfield 33, 3, 0, 0, [])), (17, (.iload_n 2, 1, 0, 0, [])), (18, (.ireturn, 1, 0, 0, []))]
theorem T_X4_speed_ok : (T_X4_speed.all (fun q => entOK cX4_speed q.1 q.2)) = true := by decide +kernel
def T_X4_trainIs : List (Nat × Ent) := [(0, (.iload_n 1, 1, 0, 0, [])), (1, (.aload_n 0, 1, 0, 0, [])), (2, (.getfield 78, 3, 0, 0, [])), (5, (.invokestatic 57, 3, 0, 0, [])), (8, (.iload_n 2, 1, 0, 0, [])), (9, (.iconst 0, 1, 0, 0, [])), (10, (.bipush 10, 2, 0, 10, [])), (12, (.invokestatic 37, 3, 0, 0, [])), (15, (.aload_n 0, 1, 0, 0, [])), (16, (.getfield 29, 3, 0, 0, [])), (19, (.iload_n 1, 1, 0, 0, [])), (20, (.aaload, 1, 0, 0, [])), (21, (.iload_n 2, 1, 0, 0, [])), (22, (.invokevirtual 89, 3, 0, 0, [])), (25, (.ireturn, 1, 0, 0, []))]
theorem T_X4_trainIs_ok : (T_X4_trainIs.all (fun q => entOK cX4_trainIs q.1 q.2)) = true := by decide +kernel
def T_X4_slip : List (Nat × Ent) := [(0, (.iload_n 1, 1, 0, 0, [])), (1, (.aload_n 0, 1, 0, 0, [])), (2, (.getfield 78, 3, 0, 0, [])), (5, (.invokestatic 57, 3, 0, 0, [])), (8, (.iload_n 2, 1, 0, 0, [])), (9, (.iconst (-1), 1, 0, (-1), [])), (10, (.iconst 1, 1, 0, 1, [])), (11, (.invokestatic 37, 3, 0, 0, [])), (14, (.aload_n 0, 1, 0, 0, [])), (15, (.getfield 29, 3, 0, 0, [])), (18, (.iload_n 1, 1, 0, 0, [])), (19, (.aaload, 1, 0, 0, [])), (20, (.astore_n 3, 1, 0, 0, [])), (21, (.aload_n 3, 1, 0, 0, [])), (22, (.getfield 93, 3, 0, 0, [])), (25, (.istore 4, 2, 0, 0, [])), (27, (.aload_n 3, 1, 0, 0, [])), (28, (.iload_n 2, 1, 0, 0, [])), (29, (.putfield 93, 3, 0, 0, [])), (32, (.iload 4, 2, 0, 0, [])), (34, (.ireturn, 1, 0, 0, []))]
theorem T_X4_slip_ok : (T_X4_slip.all (fun q => entOK cX4_slip q.1 q.2)) = true := by decide +kernel
def T_X4_silent : List (Nat × Ent) := [(0, (.iload_n 1, 1, 0, 0, [])), (1, (.aload_n 0, 1, 0, 0, [])), (2, (.getfield 78, 3, 0, 0, [])), (5, (.invokestatic 57, 3, 0, 0, [])), (8, (.aload_n 0, 1, 0, 0, [])), (9, (.getfield 29, 3, 0, 0, [])), (12, (.iload_n 1, 1, 0, 0, [])), (13, (.aaload, 1, 0, 0, [])), (14, (.astore_n 3, 1, 0, 0, [])), (15, (.aload_n 3, 1, 0, 0, [])), (16, (.getfield 96, 3, 0, 0, [])), (19, (.istore 4, 2, 0, 0, [])), (21, (.aload_n 3, 1, 0, 0, [])), (22, (.iload_n 2, 1, 0, 0, [])), (23, (.putfield 96, 3, 0, 0, [])), (26, (.iload 4, 2, 0, 0, [])), (28, (.ireturn, 1, 0, 0, []))]
theorem T_X4_silent_ok : (T_X4_silent.all (fun q => entOK cX4_silent q.1 q.2)) = true := by decide +kernel
def T_X4_emergency : List (Nat × Ent) := [(0, (.iload_n 1, 1, 0, 0, [])), (1, (.aload_n 0, 1, 0, 0, [])), (2, (.getfield 78, 3, 0, 0, [])), (5, (.invokestatic 57, 3, 0, 0, [])), (8, (.aload_n 0, 1, 0, 0, [])), (9, (.getfield 29, 3, 0, 0, [])), (12, (.iload_n 1, 1, 0, 0, [])), (13, (.aaload, 1, 0, 0, [])), (14, (.astore_n 2, 1, 0, 0, [])), (15, (.aload_n 2, 1, 0, 0, [])), (16, (.getfield 99, 3, 0, 0, [])), (19, (.ifCond .le 8, 3, 27, 0, [])), (22, (.aload_n 2, 1, 0, 0, [])), (23, (.iconst 1, 1, 0, 1, [])), (24, (.putfield 102, 3, 0, 0, [])), (27, (.aload_n 2, 1, 0, 0, [])), (28, (.getfield 102, 3, 0, 0, [])), (31, (.ireturn, 1, 0, 0, []))]
theorem T_X4_emergency_ok : (T_X4_emergency.all (fun q => entOK cX4_emergency q.1 q.2)) = true := by decide +kernel
def T_X4_countHolding : List (Nat × Ent) := [(0, (.iconst 0, 1, 0, 0, [])), (1, (.istore_n 1, 1, 0, 0, [])), (2, (.iload_n 1, 1, 0, 0, [])), (3, (.aload_n 0, 1, 0, 0, [])), (4, (.getfield 78, 3, 0, 0, [])), (7, (.if_icmp .ge 33, 3, 40, 0, [])), (10, (.aload_n 0, 1, 0, 0, [])), (11, (.getfield 29, 3, 0, 0, [])), (14, (.iload_n 1, 1, 0, 0, [])), (15, (.aaload, 1, 0, 0, [])), (16, (.aload_n 0, 1, 0, 0, [])), (17, (.getfield 29, 3, 0, 0, [])), (20, (.iload_n 1, 1, 0, 0, [])), (21, (.aaload, 1, 0, 0, [])), (22, (.getfield 135, 3, 0, 0, [])), (25, (.iconst 1, 1, 0, 1, [])), (26, (.isub, 1, 0, 0, [])), (27, (.iconst 0, 1, 0, 0, [])), (28, (.invokestatic 246, 3, 0, 0, [])), (31, (.putfield 135, 3, 0, 0, [])), (34, (.iinc 1 1, 3, 0, 1, [])), (37, (.goto (-35), 3, 2, 0, [])), (40, (.return_, 1, 0, 0, []))]
theorem T_X4_countHolding_ok : (T_X4_countHolding.all (fun q => entOK cX4_countHolding q.1 q.2)) = true := by decide +kernel
def T_X4_letPeopleBoard : List (Nat × Ent) := [(0, (.iconst 0, 1, 0, 0, [])), (1, (.istore_n 1, 1, 0, 0, [])), (2, (.iload_n 1, 1, 0, 0, [])), (3, (.aload_n 0, 1, 0, 0, [])), (4, (.getfield 78, 3, 0, 0, [])), (7, (.if_icmp .ge 18, 3, 25, 0, [])), (10, (.aload_n 0, 1, 0, 0, [])), (11, (.getfield 29, 3, 0, 0, [])), (14, (.iload_n 1, 1, 0, 0, [])), (15, (.aaload, 1, 0, 0, [])), (16, (.invokevirtual 252, 3, 0, 0, [])), (19, (.iinc 1 1, 3, 0, 1, [])), (22, (.goto (-20), 3, 2, 0, [])), (25, (.return_, 1, 0, 0, []))]
theorem T_X4_letPeopleBoard_ok : (T_X4_letPeopleBoard.all (fun q => entOK cX4_letPeopleBoard q.1 q.2)) = true := by decide +kernel
def T_X4_letPeopleCome : List (Nat × Ent) := [(0, (.iconst 0, 1, 0, 0, [])), (1, (.istore_n 1, 1, 0, 0, [])), (2, (.iload_n 1, 1, 0, 0, [])), (3, (.aload_n 0, 1, 0, 0, [])), (4, (.getfield 41, 3, 0, 0, [])), (7, (.if_icmp .ge 35, 3, 42, 0, [])), (10, (.aload_n 0, 1, 0, 0, [])), (11, (.getfield 11, 3, 0, 0, [])), (14, (.iload_n 1, 1, 0, 0, [])), (15, (.aaload, 1, 0, 0, [])), (16, (.astore_n 2, 1, 0, 0, [])), (17, (.aload_n 2, 1, 0, 0, [])), (18, (.aload_n 2, 1, 0, 0, [])), (19, (.getfield 249, 3, 0, 0, [])), (22, (.aload_n 2, 1, 0, 0, [])), (23, (.getfield 160, 3, 0, 0, [])), (26, (.iadd, 1, 0, 0, [])), (27, (.sipush 999, 3, 0, 999, [])), (30, (.invokestatic 138, 3, 0, 0, [])), (33, (.putfield 249, 3, 0, 0, [])), (36, (.iinc 1 1, 3, 0, 1, [])), (39, (.goto (-37), 3, 2, 0, [])), (42, (.return_, 1, 0, 0, []))]
theorem T_X4_letPeopleCome_ok : (T_X4_letPeopleCome.all (fun q => entOK cX4_letPeopleCome q.1 q.2)) = true := by decide +kernel
def T_X4_meetsBeacon : List (Nat × Ent) := [(0, (.iconst 0, 1, 0, 0, [])), (1, (.istore_n 3, 1, 0, 0, [])), (2, (.iload_n 3, 1, 0, 0, [])), (3, (.aload_n 0, 1, 0, 0, [])), (4, (.getfield 51, 3, 0, 0, [])), (7, (.if_icmp .ge 45, 3, 52, 0, [])), (10, (.aload_n 0, 1, 0, 0, [])), (11, (.getfield 17, 3, 0, 0, [])), (14, (.iload_n 3, 1, 0, 0, [])), (15, (.aaload, 1, 0, 0, [])), (16, (.astore 4, 2, 0, 0, [])), (18, (.aload 4, 2, 0, 0, [])), (20, (.getfield 60, 3, 0, 0, [])), (23, (.ifCond .eq 23, 3, 46, 0, [])), (26, (.aload 4, 2, 0, 0, [])), (28, (.getfield 243, 3, 0, 0, [])), (31, (.iload_n 1, 1, 0, 0, [])), (32, (.if_icmp .le 14, 3, 46, 0, [])), (35, (.aload 4, 2, 0, 0, [])), (37, (.getfield 243, 3, 0, 0, [])), (40, (.iload_n 2, 1, 0, 0, [])), (41, (.if_icmp .gt 5, 3, 46, 0, [])), (44, (.iconst 1, 1, 0, 1, [])), (45, (.ireturn, 1, 0, 0, [])), (46, (.iinc 3 1, 3, 0, 1, [])), (49, (.goto (-47), 3, 2, 0, [])), (52, (.iconst 0, 1, 0, 0, [])), (53, (.ireturn, 1, 0, 0, []))]
theorem T_X4_meetsBeacon_ok : (T_X4_meetsBeacon.all (fun q => entOK cX4_meetsBeacon q.1 q.2)) = true := by decide +kernel
def T_X4_move : List (Nat × Ent) := [(0, (.aload_n 1, 1, 0, 0, [])), (1, (.getfield 201, 3, 0, 0, [])), (4, (.istore_n 2, 1, 0, 0, [])), (5, (.aload_n 1, 1, 0, 0, [])), (6, (.aload_n 0, 1, 0, 0, [])), (7, (.getfield 85, 3, 0, 0, [])), (10, (.invokevirtual 237, 3, 0, 0, [])), (13, (.aload_n 0, 1, 0, 0, [])), (14, (.iload_n 2, 1, 0, 0, [])), (15, (.aload_n 1, 1, 0, 0, [])), (16, (.getfield 201, 3, 0, 0, [])), (19, (.invokevirtual 240, 3, 0, 0, [])), (22, (.ifCond .eq 19, 3, 41, 0, [])), (25, (.aload_n 1, 1, 0, 0, [])), (26, (.aload_n 1, 1, 0, 0, [])), (27, (.getfield 201, 3, 0, 0, [])), (30, (.putfield 173, 3, 0, 0, [])), (33, (.aload_n 1, 1, 0, 0, [])), (34, (.aload_n 1, 1, 0, 0, [])), (35, (.getfield 201, 3, 0, 0, [])), (38, (.putfield 176, 3, 0, 0, [])), (41, (.return_, 1, 0, 0, []))]
theorem T_X4_move_ok : (T_X4_move.all (fun q => entOK cX4_move q.1 q.2)) = true := by decide +kernel
def T_X4_takeReports : List (Nat × Ent) := [(0, (.iconst 0, 1, 0, 0, [])), (1, (.istore_n 1, 1, 0, 0, [])), (2, (.iload_n 1, 1, 0, 0, [])), (3, (.aload_n 0, 1, 0, 0, [])), (4, (.getfield 78, 3, 0, 0, [])), (7, (.if_icmp .ge 31, 3, 38, 0, [])), (10, (.aload_n 0, 1, 0, 0, [])), (11, (.getfield 29, 3, 0, 0, [])), (14, (.iload_n 1, 1, 0, 0, [])), (15, (.aaload, 1, 0, 0, [])), (16, (.astore_n 2, 1, 0, 0, [])), (17, (.aload_n 2, 1, 0, 0, [])), (18, (.getfield 96, 3, 0, 0, [])), (21, (.ifCond .ne 11, 3, 32, 0, [])), (24, (.aload_n 2, 1, 0, 0, [])), (25, (.aload_n 2, 1, 0, 0, [])), (26, (.getfield 173, 3, 0, 0, [])), (29, (.putfield 204, 3, 0, 0, [])), (32, (.iinc 1 1, 3, 0, 1, [])), (35, (.goto (-33), 3, 2, 0, [])), (38, (.return_, 1, 0, 0, []))]
theorem T_X4_takeReports_ok : (T_X4_takeReports.all (fun q => entOK cX4_takeReports q.1 q.2)) = true := by decide +kernel
def T_X4_passOne : List (Nat × Ent) := [(0, (.aload_n 0, 1, 0, 0, [])), (1, (.dup, 1, 0, 0, [])), (2, (.getfield 85, 3, 0, 0, [])), (5, (.iconst 1, 1, 0, 1, [])), (6, (.iadd, 1, 0, 0, [])), (7, (.putfield 85, 3, 0, 0, [])), (10, (.aload_n 0, 1, 0, 0, [])), (11, (.invokevirtual 218, 3, 0, 0, [])), (14, (.aload_n 0, 1, 0, 0, [])), (15, (.invokevirtual 75, 3, 0, 0, [])), (18, (.iconst 0, 1, 0, 0, [])), (19, (.istore_n 1, 1, 0, 0, [])), (20, (.iload_n 1, 1, 0, 0, [])), (21, (.aload_n 0, 1, 0, 0, [])), (22, (.getfield 78, 3, 0, 0, [])), (25, (.if_icmp .ge 22, 3, 47, 0, [])), (28, (.aload_n 0, 1, 0, 0, [])), (29, (.getfield 29, 3, 0, 0, [])), (32, (.iload_n 1, 1, 0, 0, [])), (33, (.aaload, 1, 0, 0, [])), (34, (.aload_n 0, 1, 0, 0, [])), (35, (.getfield 33, 3, 0, 0, [])), (38, (.invokevirtual 221, 3, 0, 0, [])), (41, (.iinc 1 1, 3, 0, 1, [])), (44, (.goto (-24), 3, 20, 0, [])), (47, (.iconst 0, 1, 0, 0, [])), (48, (.istore_n 1, 1, 0, 0, [])), (49, (.iload_n 1, 1, 0, 0, [])), (50, (.aload_n 0, 1, 0, 0, [])), (51, (.getfield 78, 3, 0, 0, [])), (54, (.if_icmp .ge 19, 3, 73, 0, [])), (57, (.aload_n 0, 1, 0, 0, [])), (58, (.aload_n 0, 1, 0, 0, [])), (59, (.getfield 29, 3, 0, 0, [])), (62, (.iload_n 1, 1, 0, 0, [])), (63, (.aaload, 1, 0, 0, [])), (64, (.invokevirtual 224, 3, 0, 0, [])), (67, (.iinc 1 1, 3, 0, 1, [])), (70, (.goto (-21), 3, 49, 0, [])), (73, (.aload_n 0, 1, 0, 0, [])), (74, (.invokevirtual 228, 3, 0, 0, [])), (77, (.aload_n 0, 1, 0, 0, [])), (78, (.invokevirtual 231, 3, 0, 0, [])), (81, (.aload_n 0, 1, 0, 0, [])), (82, (.invokevirtual 234, 3, 0, 0, [])), (85, (.return_, 1, 0, 0, []))]
theorem T_X4_passOne_ok : (T_X4_passOne.all (fun q => entOK cX4_passOne q.1 q.2)) = true := by decide +kernel
def T_X4_pass : List (Nat × Ent) := [(0, (.iload_n 1, 1, 0, 0, [])), (1, (.iconst 1, 1, 0, 1, [])), (2, (.bipush 99, 2, 0, 99, [])), (4, (.invokestatic 37, 3, 0, 0, [])), (7, (.aload_n 0, 1, 0, 0, [])), (8, (.getfield 85, 3, 0, 0, [])), (11, (.iload_n 1, 1, 0, 0, [])), (12, (.iadd, 1, 0, 0, [])), (13, (.sipush 999, 3, 0, 999, [])), (16, (.if_icmp .gt 7, 3, 23, 0, [])), (19, (.iconst 1, 1, 0, 1, [])), (20, (.goto 4, 3, 24, 0, [])), (23, (.iconst 0, 1, 0, 0, [])), (24, (.invokestatic 44, 3, 0, 0, [])), (27, (.iconst 0, 1, 0, 0, [])), (28, (.istore_n 2, 1, 0, 0, [])), (29, (.iload_n 2, 1, 0, 0, [])), (30, (.iload_n 1, 1, 0, 0, [])), (31, (.if_icmp .ge 13, 3, 44, 0, [])), (34, (.aload_n 0, 1, 0, 0, [])), (35, (.invokevirtual 105, 3, 0, 0, [])), (38, (.iinc 2 1, 3, 0, 1, [])), (41, (.goto (-12), 3, 29, 0, [])), (44, (.aload_n 0, 1, 0, 0, [])), (45, (.getfield 85, 3, 0, 0, [])), (48, (.ireturn, 1, 0, 0, []))]
theorem T_X4_pass_ok : (T_X4_pass.all (fun q => entOK cX4_pass q.1 q.2)) = true := by decide +kernel
def T_X4_stop : List (Nat × Ent) := [(0, (.iload_n 1, 1, 0, 0, [])), (1, (.aload_n 0, 1, 0, 0, [])), (2, (.getfield 78, 3, 0, 0, [])), (5, (.invokestatic 57, 3, 0, 0, [])), (8, (.iload_n 2, 1, 0, 0, [])), (9, (.aload_n 0, 1, 0, 0, [])), (10, (.getfield 41, 3, 0, 0, [])), (13, (.invokestatic 57, 3, 0, 0, [])), (16, (.aload_n 0, 1, 0, 0, [])), (17, (.getfield 29, 3, 0, 0, [])), (20, (.iload_n 1, 1, 0, 0, [])), (21, (.aaload, 1, 0, 0, [])), (22, (.astore_n 3, 1, 0, 0, [])), (23, (.aload_n 0, 1, 0, 0, [])), (24, (.getfield 11, 3, 0, 0, [])), (27, (.iload_n 2, 1, 0, 0, [])), (28, (.aaload, 1, 0, 0, [])), (29, (.astore 4, 2, 0, 0, [])), (31, (.aload_n 3, 1, 0, 0, [])), (32, (.getfield 96, 3, 0, 0, [])), (35, (.ifCond .ne 28, 3, 63, 0, [])), (38, (.aload_n 3, 1, 0, 0, [])), (39, (.invokevirtual 108, 3, 0, 0, [])), (42, (.ifCond .ne 21, 3, 63, 0, [])), (45, (.aload_n 3, 1, 0, 0, [])), (46, (.aload 4, 2, 0, 0, [])), (48, (.getfield 112, 3, 0, 0, [])), (51, (.iconst 1, 1, 0, 1, [])), (52, (.iadd, 1, 0, 0, [])), (53, (.invokevirtual 115, 3, 0, 0, [])), (56, (.ifCond .eq 7, 3, 63, 0, [])), (59, (.iconst 1, 1, 0, 1, [])), (60, (.goto 4, 3, 64, 0, [])), (63, (.iconst 0, 1, 0, 0, [])), (64, (.invokestatic 44, 3, 0, 0, [])), (67, (.aload_n 3, 1, 0, 0, [])), (68, (.aload 4, 2, 0, 0, [])), (70, (.putfield 118, 3, 0, 0, [])), (73, (.return_, 1, 0, 0, []))]
theorem T_X4_stop_ok : (T_X4_stop.all (fun q => entOK cX4_stop q.1 q.2)) = true := by decide +kernel
def T_X4_open : List (Nat × Ent) := [(0, (.iload_n 1, 1, 0, 0, [])), (1, (.aload_n 0, 1, 0, 0, [])), (2, (.getfield 78, 3, 0, 0, [])), (5, (.invokestatic 57, 3, 0, 0, [])), (8, (.iload_n 2, 1, 0, 0, [])), (9, (.iconst 0, 1, 0, 0, [])), (10, (.bipush 120, 2, 0, 120, [])), (12, (.invokestatic 37, 3, 0, 0, [])), (15, (.aload_n 0, 1, 0, 0, [])), (16, (.getfield 29, 3, 0, 0, [])), (19, (.iload_n 1, 1, 0, 0, [])), (20, (.aaload, 1, 0, 0, [])), (21, (.astore_n 3, 1, 0, 0, [])), (22, (.aload_n 3, 1, 0, 0, [])), (23, (.invokevirtual 126, 3, 0, 0, [])), (26, (.ifCond .eq 14, 3, 40, 0, [])), (29, (.aload_n 3, 1, 0, 0, [])), (30, (.invokevirtual 108, 3, 0, 0, [])), (33, (.ifCond .ne 7, 3, 40, 0, [])), (36, (.iconst 1, 1, 0, 1, [])), (37, (.goto 4, 3, 41, 0, [])), (40, (.iconst 0, 1, 0, 0, [])), (41, (.invokestatic 44, 3, 0, 0, [])), (44, (.aload_n 3, 1, 0, 0, [])), (45, (.iload_n 2, 1, 0, 0, [])), (46, (.invokevirtual 129, 3, 0, 0, [])), (49, (.aload_n 3, 1, 0, 0, [])), (50, (.getfield 132, 3, 0, 0, [])), (53, (.ireturn, 1, 0, 0, []))]
theorem T_X4_open_ok : (T_X4_open.all (fun q => entOK cX4_open q.1 q.2)) = true := by decide +kernel
def T_X4_shut : List (Nat × Ent) := [(0, (.iload_n 1, 1, 0, 0, [])), (1, (.aload_n 0, 1, 0, 0, [])), (2, (.getfield 78, 3, 0, 0, [])), (5, (.invokestatic 57, 3, 0, 0, [])), (8, (.aload_n 0, 1, 0, 0, [])), (9, (.getfield 29, 3, 0, 0, [])), (12, (.iload_n 1, 1, 0, 0, [])), (13, (.aaload, 1, 0, 0, [])), (14, (.astore_n 2, 1, 0, 0, [])), (15, (.aload_n 2, 1, 0, 0, [])), (16, (.invokevirtual 108, 3, 0, 0, [])), (19, (.invokestatic 44, 3, 0, 0, [])), (22, (.aload_n 2, 1, 0, 0, [])), (23, (.iconst (-1), 1, 0, (-1), [])), (24, (.putfield 132, 3, 0, 0, [])), (27, (.return_, 1, 0, 0, []))]
theorem T_X4_shut_ok : (T_X4_shut.all (fun q => entOK cX4_shut q.1 q.2)) = true := by decide +kernel
def T_X4_hold : List (Nat × Ent) := [(0, (.iload_n 1, 1, 0, 0, [])), (1, (.aload_n 0, 1, 0, 0, [])), (2, (.getfield 78, 3, 0, 0, [])), (5, (.invokestatic 57, 3, 0, 0, [])), (8, (.iload_n 2, 1, 0, 0, [])), (9, (.iconst 1, 1, 0, 1, [])), (10, (.bipush 60, 2, 0, 60, [])), (12, (.invokestatic 37, 3, 0, 0, [])), (15, (.aload_n 0, 1, 0, 0, [])), (16, (.getfield 29, 3, 0, 0, [])), (19, (.iload_n 1, 1, 0, 0, [])), (20, (.aaload, 1, 0, 0, [])), (21, (.astore_n 3, 1, 0, 0, [])), (22, (.aload_n 3, 1, 0, 0, [])), (23, (.getfield 99, 3, 0, 0, [])), (26, (.ifCond .ne 7, 3, 33, 0, [])), (29, (.iconst 1, 1, 0, 1, [])), (30, (.goto 4, 3, 34, 0, [])), (33, (.iconst 0, 1, 0, 0, [])), (34, (.invokestatic 44, 3, 0, 0, [])), (37, (.aload_n 3, 1, 0, 0, [])), (38, (.aload_n 3, 1, 0, 0, [])), (39, (.getfield 135, 3, 0, 0, [])), (42, (.iload_n 2, 1, 0, 0, [])), (43, (.iadd, 1, 0, 0, [])), (44, (.bipush 99, 2, 0, 99, [])), (46, (.invokestatic 138, 3, 0, 0, [])), (49, (.putfield 135, 3, 0, 0, [])), (52, (.aload_n 3, 1, 0, 0, [])), (53, (.getfield 135, 3, 0, 0, [])), (56, (.ireturn, 1, 0, 0, []))]
theorem T_X4_hold_ok : (T_X4_hold.all (fun q => entOK cX4_hold q.1 q.2)) = true := by decide +kernel
def T_X4_depart : List (Nat × Ent) := [(0, (.iload_n 1, 1, 0, 0, [])), (1, (.aload_n 0, 1, 0, 0, [])), (2, (.getfield 78, 3, 0, 0, [])), (5, (.invokestatic 57, 3, 0, 0, [])), (8, (.aload_n 0, 1, 0, 0, [])), (9, (.getfield 29, 3, 0, 0, [])), (12, (.iload_n 1, 1, 0, 0, [])), (13, (.aaload, 1, 0, 0, [])), (14, (.astore_n 2, 1, 0, 0, [])), (15, (.aload_n 2, 1, 0, 0, [])), (16, (.getfield 118, 3, 0, 0, [])), (19, (.astore_n 3, 1, 0, 0, [])), (20, (.aload_n 3, 1, 0, 0, [])), (21, (.ifnull 10, 3, 31, 0, [])), (24, (.aload_n 2, 1, 0, 0, [])), (25, (.invokevirtual 144, 3, 0, 0, [])), (28, (.ifCond .ne 13, 3, 41, 0, [])), (41, (.aload_n 2, 1, 0, 0, [])), (42, (.aconst_null, 1, 5, 0, [])), (43, (.putfield 118, 3, 0, 0, [])), (46, (.aload_n 3, 1, 0, 0, [])), (47, (.aload_n 0, 1, 0, 0, [])), (48, (.getfield 85, 3, 0, 0, [])), (51, (.invokevirtual 154, 3, 0, 0, [])), (54, (.aload_n 3, 1, 0, 0, [])), (55, (.getfield 157, 3, 0, 0, [])), (58, (.ireturn, 1, 0, 0, []))]
theorem T_X4_depart_ok : (T_X4_depart.all (fun q => entOK cX4_depart q.1 q.2)) = true := by decide +kernel
def T_X4_rate : List (Nat × Ent) := [(0, (.iload_n 1, 1, 0, 0, [])), (1, (.aload_n 0, 1, 0, 0, [])), (2, (.getfield 41, 3, 0, 0, [])), (5, (.invokestatic 57, 3, 0, 0, [])), (8, (.iload_n 2, 1, 0, 0, [])), (9, (.iconst 0, 1, 0, 0, [])), (10, (.bipush 9, 2, 0, 9, [])), (12, (.invokestatic 37, 3, 0, 0, [])), (15, (.aload_n 0, 1, 0, 0, [])), (16, (.getfield 11, 3, 0, 0, [])), (19, (.iload_n 1, 1, 0, 0, [])), (20, (.aaload, 1, 0, 0, [])), (21, (.astore_n 3, 1, 0, 0, [])), (22, (.aload_n 3, 1, 0, 0, [])), (23, (.getfield 160, 3, 0, 0, [])), (26, (.istore 4, 2, 0, 0, [])), (28, (.aload_n 3, 1, 0, 0, [])), (29, (.iload_n 2, 1, 0, 0, [])), (30, (.putfield 160, 3, 0, 0, [])), (33, (.iload 4, 2, 0, 0, [])), (35, (.ireturn, 1, 0, 0, []))]
theorem T_X4_rate_ok : (T_X4_rate.all (fun q => entOK cX4_rate q.1 q.2)) = true := by decide +kernel
def T_X4_platformIs : List (Nat × Ent) := [(0, (.iload_n 1, 1, 0, 0, [])), (1, (.aload_n 0, 1, 0, 0, [])), (2, (.getfield 41, 3, 0, 0, [])), (5, (.invokestatic 57, 3, 0, 0, [])), (8, (.iload_n 2, 1, 0, 0, [])), (9, (.iconst 0, 1, 0, 0, [])), (10, (.iconst 3, 1, 0, 3, [])), (11, (.invokestatic 37, 3, 0, 0, [])), (14, (.aload_n 0, 1, 0, 0, [])), (15, (.getfield 11, 3, 0, 0, [])), (18, (.iload_n 1, 1, 0, 0, [])), (19, (.aaload, 1, 0, 0, [])), (20, (.iload_n 2, 1, 0, 0, [])), (21, (.invokevirtual 163, 3, 0, 0, [])), (24, (.ireturn, 1, 0, 0, []))]
theorem T_X4_platformIs_ok : (T_X4_platformIs.all (fun q => entOK cX4_platformIs q.1 q.2)) = true := by decide +kernel
def T_X4_placeAnew : List (Nat × Ent) := [(0, (.iload_n 1, 1, 0, 0, [])), (1, (.aload_n 0, 1, 0, 0, [])), (2, (.getfield 78, 3, 0, 0, [])), (5, (.invokestatic 57, 3, 0, 0, [])), (8, (.aload_n 0, 1, 0, 0, [])), (9, (.getfield 29, 3, 0, 0, [])), (12, (.iload_n 1, 1, 0, 0, [])), (13, (.aaload, 1, 0, 0, [])), (14, (.aload_n 0, 1, 0, 0, [])), (15, (.getfield 85, 3, 0, 0, [])), (18, (.invokevirtual 167, 3, 0, 0, [])), (21, (.ireturn, 1, 0, 0, []))]
theorem T_X4_placeAnew_ok : (T_X4_placeAnew.all (fun q => entOK cX4_placeAnew q.1 q.2)) = true := by decide +kernel
def T_X4_isSafe : List (Nat × Ent) := [(0, (.iconst 0, 1, 0, 0, [])), (1, (.istore_n 1, 1, 0, 0, [])), (2, (.iload_n 1, 1, 0, 0, [])), (3, (.aload_n 0, 1, 0, 0, [])), (4, (.getfield 78, 3, 0, 0, [])), (7, (.if_icmp .ge 71, 3, 78, 0, [])), (10, (.aload_n 0, 1, 0, 0, [])), (11, (.getfield 29, 3, 0, 0, [])), (14, (.iload_n 1, 1, 0, 0, [])), (15, (.aaload, 1, 0, 0, [])), (16, (.invokevirtual 170, 3, 0, 0, [])), (19, (.ifCond .ne 5, 3, 24, 0, [])), (22, (.iconst 0, 1, 0, 0, [])), (23, (.ireturn, 1, 0, 0, [])), (24, (.iconst 0, 1, 0, 0, [])), (25, (.istore_n 2, 1, 0, 0, [])), (26, (.iload_n 2, 1, 0, 0, [])), (27, (.iload_n 1, 1, 0, 0, [])), (28, (.if_icmp .ge 44, 3, 72, 0, [])), (31, (.aload_n 0, 1, 0, 0, [])), (32, (.getfield 29, 3, 0, 0, [])), (35, (.iload_n 1, 1, 0, 0, [])), (36, (.aaload, 1, 0, 0, [])), (37, (.aload_n 0, 1, 0, 0, [])), (38, (.getfield 29, 3, 0, 0, [])), (41, (.iload_n 2, 1, 0, 0, [])), (42, (.aaload, 1, 0, 0, [])), (43, (.getfield 173, 3, 0, 0, [])), (46, (.bipush 100, 2, 0, 100, [])), (48, (.isub, 1, 0, 0, [])), (49, (.aload_n 0, 1, 0, 0, [])), (50, (.getfield 29, 3, 0, 0, [])), (53, (.iload_n 2, 1, 0, 0, [])), (54, (.aaload, 1, 0, 0, [])), (55, (.getfield 176, 3, 0, 0, [])), (58, (.invokevirtual 179, 3, 0, 0, [])), (61, (.ifCond .eq 5, 3, 66, 0, [])), (64, (.iconst 0, 1, 0, 0, [])), (65, (.ireturn, 1, 0, 0, [])), (66, (.iinc 2 1, 3, 0, 1, [])), (69, (.goto (-43), 3, 26, 0, [])), (72, (.iinc 1 1, 3, 0, 1, [])), (75, (.goto (-73), 3, 2, 0, [])), (78, (.iconst 1, 1, 0, 1, [])), (79, (.ireturn, 1, 0, 0, []))]
theorem T_X4_isSafe_ok : (T_X4_isSafe.all (fun q => entOK cX4_isSafe q.1 q.2)) = true := by decide +kernel
def T_X4_canBePutIn : List (Nat × Ent) := [(0, (.iconst 0, 1, 0, 0, [])), (1, (.istore_n 2, 1, 0, 0, [])), (2, (.iload_n 2, 1, 0, 0, [])), (3, (.aload_n 0, 1, 0, 0, [])), (4, (.getfield 78, 3, 0, 0, [])), (7, (.if_icmp .ge 60, 3, 67, 0, [])), (10, (.aload_n 0, 1, 0, 0, [])), (11, (.getfield 29, 3, 0, 0, [])), (14, (.iload_n 2, 1, 0, 0, [])), (15, (.aaload, 1, 0, 0, [])), (16, (.astore_n 3, 1, 0, 0, [])), (17, (.aload_n 3, 1, 0, 0, [])), (18, (.getfield 201, 3, 0, 0, [])), (21, (.iload_n 1, 1, 0, 0, [])), (22, (.if_icmp .ge 14, 3, 36, 0, [])), (25, (.aload_n 3, 1, 0, 0, [])), (26, (.iload_n 1, 1, 0, 0, [])), (27, (.bipush 120, 2, 0, 120, [])), (29, (.isub, 1, 0, 0, [])), (30, (.invokevirtual 115, 3, 0, 0, [])), (33, (.goto 19, 3, 52, 0, [])), (36, (.aload_n 3, 1, 0, 0, [])), (37, (.getfield 204, 3, 0, 0, [])), (40, (.bipush 120, 2, 0, 120, [])), (42, (.isub, 1, 0, 0, [])), (43, (.iload_n 1, 1, 0, 0, [])), (44, (.if_icmp .lt 7, 3, 51, 0, [])), (47, (.iconst 1, 1, 0, 1, [])), (48, (.goto 4, 3, 52, 0, [])), (51, (.iconst 0, 1, 0, 0, [])), (52, (.istore 4, 2, 0, 0, [])), (54, (.iload 4, 2, 0, 0, [])), (56, (.ifCond .ne 5, 3, 61, 0, [])), (59, (.iconst 0, 1, 0, 0, [])), (60, (.ireturn, 1, 0, 0, [])), (61, (.iinc 2 1, 3, 0, 1, [])), (64, (.goto (-62), 3, 2, 0, [])), (67, (.iconst 0, 1, 0, 0, [])), (68, (.istore_n 2, 1, 0, 0, [])), (69, (.iload_n 2, 1, 0, 0, [])), (70, (.aload_n 0, 1, 0, 0, [])), (71, (.getfield 64, 3, 0, 0, [])), (74, (.if_icmp .ge 44, 3, 118, 0, [])), (77, (.aload_n 0, 1, 0, 0, [])), (78, (.getfield 23, 3, 0, 0, [])), (81, (.iload_n 2, 1, 0, 0, [])), (82, (.aaload, 1, 0, 0, [])), (83, (.astore_n 3, 1, 0, 0, [])), (84, (.aload_n 3, 1, 0, 0, [])), (85, (.getfield 68, 3, 0, 0, [])), (88, (.ifCond .eq 24, 3, 112, 0, [])), (91, (.aload_n 3, 1, 0, 0, [])), (92, (.getfield 195, 3, 0, 0, [])), (95, (.iload_n 1, 1, 0, 0, [])), (96, (.if_icmp .gt 16, 3, 112, 0, [])), (99, (.aload_n 3, 1, 0, 0, [])), (100, (.getfield 198, 3, 0, 0, [])), (103, (.iload_n 1, 1, 0, 0, [])), (104, (.bipush 100, 2, 0, 100, [])), (106, (.isub, 1, 0, 0, [])), (107, (.if_icmp .lt 5, 3, 112, 0, [])), (110, (.iconst 0, 1, 0, 0, [])), (111, (.ireturn, 1, 0, 0, [])), (112, (.iinc 2 1, 3, 0, 1, [])), (115, (.goto (-46), 3, 69, 0, [])), (118, (.iconst 1, 1, 0, 1, [])), (119, (.ireturn, 1, 0, 0, []))]
theorem T_X4_canBePutIn_ok : (T_X4_canBePutIn.all (fun q => entOK cX4_canBePutIn q.1 q.2)) = true := by decide +kernel
def T_L_way : List (Nat × Ent) := [(0, (.iload_n 0, 1, 0, 0, [])), (1, (.iload_n 0, 1, 0, 0, [])), (2, (.iconst 1, 1, 0, 1, [])), (3, (.iadd, 1, 0, 0, [])), (4, (.imul, 1, 0, 0, [])), (5, (.iconst 2, 1, 0, 2, [])), (6, (.idiv, 1, 0, 0, [])), (7, (.iload_n 0, 1, 0, 0, [])), (8, (.iadd, 1, 0, 0, [])), (9, (.ireturn, 1, 0, 0, []))]
theorem T_L_way_ok : (T_L_way.all (fun q => entOK cL_way q.1 q.2)) = true := by decide +kernel
def T_L_isAt : List (Nat × Ent) := [(0, (.aload_n 0, 1, 0, 0, [])), (1, (.iload_n 1, 1, 0, 0, [])), (2, (.bipush 7, 2, 0, 7, [])), (4, (.invokevirtual 9, 3, 0, 0, [])), (7, (.istore_n 2, 1, 0, 0, [])), (8, (.iload_n 2, 1, 0, 0, [])), (9, (.ifCond .ge 5, 3, 14, 0, [])), (12, (.iconst 0, 1, 0, 0, [])), (13, (.ireturn, 1, 0, 0, [])), (14, (.aload_n 0, 1, 0, 0, [])), (15, (.iload_n 2, 1, 0, 0, [])), (16, (.iconst 0, 1, 0, 0, [])), (17, (.invokevirtual 15, 3, 0, 0, [])), (20, (.istore_n 3, 1, 0, 0, [])), (21, (.aload_n 0, 1, 0, 0, [])), (22, (.iload_n 1, 1, 0, 0, [])), (23, (.iconst 3, 1, 0, 3, [])), (24, (.invokevirtual 9, 3, 0, 0, [])), (27, (.ifCond .ne 31, 3, 58, 0, [])), (30, (.aload_n 0, 1, 0, 0, [])), (31, (.iload_n 1, 1, 0, 0, [])), (32, (.iconst 1, 1, 0, 1, [])), (33, (.invokevirtual 9, 3, 0, 0, [])), (36, (.iload_n 3, 1, 0, 0, [])), (37, (.iconst 1, 1, 0, 1, [])), (38, (.isub, 1, 0, 0, [])), (39, (.if_icmp .lt 19, 3, 58, 0, [])), (42, (.aload_n 0, 1, 0, 0, [])), (43, (.iload_n 1, 1, 0, 0, [])), (44, (.iconst 2, 1, 0, 2, [])), (45, (.invokevirtual 9, 3, 0, 0, [])), (48, (.iload_n 3, 1, 0, 0, [])), (49, (.iconst 1, 1, 0, 1, [])), (50, (.iadd, 1, 0, 0, [])), (51, (.if_icmp .gt 7, 3, 58, 0, [])), (54, (.iconst 1, 1, 0, 1, [])), (55, (.goto 4, 3, 59, 0, [])), (58, (.iconst 0, 1, 0, 0, [])), (59, (.ireturn, 1, 0, 0, []))]
theorem T_L_isAt_ok : (T_L_isAt.all (fun q => entOK cL_isAt q.1 q.2)) = true := by decide +kernel
def T_L_mayStop : List (Nat × Ent) := [(0, (.aload_n 0, 1, 0, 0, [])), (1, (.iload_n 1, 1, 0, 0, [])), (2, (.bipush 6, 2, 0, 6, [])), (4, (.invokevirtual 9, 3, 0, 0, [])), (7, (.ifCond .ne 45, 3, 52, 0, [])), (10, (.aload_n 0, 1, 0, 0, [])), (11, (.iload_n 1, 1, 0, 0, [])), (12, (.bipush 8, 2, 0, 8, [])), (14, (.invokevirtual 9, 3, 0, 0, [])), (17, (.iconst (-1), 1, 0, (-1), [])), (18, (.if_icmp .ne 34, 3, 52, 0, [])), (21, (.aload_n 0, 1, 0, 0, [])), (22, (.iload_n 1, 1, 0, 0, [])), (23, (.iconst 2, 1, 0, 2, [])), (24, (.invokevirtual 9, 3, 0, 0, [])), (27, (.aload_n 0, 1, 0, 0, [])), (28, (.iload_n 1, 1, 0, 0, [])), (29, (.iconst 3, 1, 0, 3, [])), (30, (.invokevirtual 9, 3, 0, 0, [])), (33, (.invokestatic 18, 3, 0, 0, [])), (36, (.iadd, 1, 0, 0, [])), (37, (.aload_n 0, 1, 0, 0, [])), (38, (.iload_n 2, 1, 0, 0, [])), (39, (.iconst 0, 1, 0, 0, [])), (40, (.invokevirtual 15, 3, 0, 0, [])), (43, (.iconst 1, 1, 0, 1, [])), (44, (.iadd, 1, 0, 0, [])), (45, (.if_icmp .gt 7, 3, 52, 0, [])), (48, (.iconst 1, 1, 0, 1, [])), (49, (.goto 4, 3, 53, 0, [])), (52, (.iconst 0, 1, 0, 0, [])), (53, (.ireturn, 1, 0, 0, []))]
theorem T_L_mayStop_ok : (T_L_mayStop.all (fun q => entOK cL_mayStop q.1 q.2)) = true := by decide +kernel
def T_L_mayClose : List (Nat × Ent) := [(0, (.iconst 1, 1, 0, 1, [])), (1, (.istore_n 3, 1, 0, 0, [])), (2, (.iconst 0, 1, 0, 0, [])), (3, (.istore 4, 2, 0, 0, [])), (5, (.iload 4, 2, 0, 0, [])), (7, (.iconst 5, 1, 0, 5, [])), (8, (.if_icmp .ge 103, 3, 111, 0, [])), (11, (.aload_n 0, 1, 0, 0, [])), (12, (.iload 4, 2, 0, 0, [])), (14, (.iconst 2, 1, 0, 2, [])), (15, (.invokevirtual 9, 3, 0, 0, [])), (18, (.istore 5, 2, 0, 0, [])), (20, (.aload_n 0, 1, 0, 0, [])), (21, (.iload 4, 2, 0, 0, [])), (23, (.iconst 1, 1, 0, 1, [])), (24, (.invokevirtual 9, 3, 0, 0, [])), (27, (.bipush 100, 2, 0, 100, [])), (29, (.isub, 1, 0, 0, [])), (30, (.iload_n 2, 1, 0, 0, [])), (31, (.if_icmp .le 7, 3, 38, 0, [])), (34, (.iconst 1, 1, 0, 1, [])), (35, (.goto 4, 3, 39, 0, [])), (38, (.iconst 0, 1, 0, 0, [])), (39, (.istore 6, 2, 0, 0, [])), (41, (.aload_n 0, 1, 0, 0, [])), (42, (.iload 4, 2, 0, 0, [])), (44, (.bipush 6, 2, 0, 6, [])), (46, (.invokevirtual 9, 3, 0, 0, [])), (49, (.iconst 1, 1, 0, 1, [])), (50, (.if_icmp .ne 13, 3, 63, 0, [])), (53, (.aload_n 0, 1, 0, 0, [])), (54, (.iload 4, 2, 0, 0, [])), (56, (.iconst 4, 1, 0, 4, [])), (57, (.invokevirtual 9, 3, 0, 0, [])), (60, (.goto 16, 3, 76, 0, [])), (63, (.iload 5, 2, 0, 0, [])), (65, (.aload_n 0, 1, 0, 0, [])), (66, (.iload 4, 2, 0, 0, [])), (68, (.iconst 3, 1, 0, 3, [])), (69, (.invokevirtual 9, 3, 0, 0, [])), (72, (.invokestatic 18, 3, 0, 0, [])), (75, (.iadd, 1, 0, 0, [])), (76, (.istore 7, 2, 0, 0, [])), (78, (.iload_n 3, 1, 0, 0, [])), (79, (.ifCond .eq 24, 3, 103, 0, [])), (82, (.iload 6, 2, 0, 0, [])), (84, (.ifCond .ne 15, 3, 99, 0, [])), (87, (.iload 5, 2, 0, 0, [])), (89, (.iload_n 1, 1, 0, 0, [])), (90, (.if_icmp .ge 13, 3, 103, 0, [])), (93, (.iload 7, 2, 0, 0, [])), (95, (.iload_n 1, 1, 0, 0, [])), (96, (.if_icmp .gt 7, 3, 103, 0, [])), (99, (.iconst 1, 1, 0, 1, [])), (100, (.goto 4, 3, 104, 0, [])), (103, (.iconst 0, 1, 0, 0, [])), (104, (.istore_n 3, 1, 0, 0, [])), (105, (.iinc 4 1, 3, 0, 1, [])), (108, (.goto (-103), 3, 5, 0, [])), (111, (.iload_n 3, 1, 0, 0, [])), (112, (.ireturn, 1, 0, 0, []))]
theorem T_L_mayClose_ok : (T_L_mayClose.all (fun q => entOK cL_mayClose q.1 q.2)) = true := by decide +kernel
def T_L_isSafe : List (Nat × Ent) := [(0, (.aload_n 0, 1, 0, 0, [])), (1, (.invokevirtual 24, 3, 0, 0, [])), (4, (.istore_n 1, 1, 0, 0, [])), (5, (.iconst 0, 1, 0, 0, [])), (6, (.istore_n 2, 1, 0, 0, [])), (7, (.iload_n 2, 1, 0, 0, [])), (8, (.iconst 5, 1, 0, 5, [])), (9, (.if_icmp .ge 141, 3, 150, 0, [])), (12, (.aload_n 0, 1, 0, 0, [])), (13, (.iload_n 2, 1, 0, 0, [])), (14, (.iconst 0, 1, 0, 0, [])), (15, (.invokevirtual 9, 3, 0, 0, [])), (18, (.istore_n 3, 1, 0, 0, [])), (19, (.aload_n 0, 1, 0, 0, [])), (20, (.iload_n 2, 1, 0, 0, [])), (21, (.iconst 1, 1, 0, 1, [])), (22, (.invokevirtual 9, 3, 0, 0, [])), (25, (.istore 4, 2, 0, 0, [])), (27, (.aload_n 0, 1, 0, 0, [])), (28, (.iload_n 2, 1, 0, 0, [])), (29, (.iconst 2, 1, 0, 2, [])), (30, (.invokevirtual 9, 3, 0, 0, [])), (33, (.istore 5, 2, 0, 0, [])), (35, (.iload_n 1, 1, 0, 0, [])), (36, (.ifCond .eq 51, 3, 87, 0, [])), (39, (.iload 4, 2, 0, 0, [])), (41, (.iload_n 3, 1, 0, 0, [])), (42, (.if_icmp .gt 45, 3, 87, 0, [])), (45, (.iload_n 3, 1, 0, 0, [])), (46, (.iload 5, 2, 0, 0, [])), (48, (.if_icmp .gt 39, 3, 87, 0, [])), (51, (.iload 5, 2, 0, 0, [])), (53, (.aload_n 0, 1, 0, 0, [])), (54, (.iload_n 2, 1, 0, 0, [])), (55, (.iconst 4, 1, 0, 4, [])), (56, (.invokevirtual 9, 3, 0, 0, [])), (59, (.if_icmp .gt 28, 3, 87, 0, [])), (62, (.aload_n 0, 1, 0, 0, [])), (63, (.iload_n 2, 1, 0, 0, [])), (64, (.iconst 4, 1, 0, 4, [])), (65, (.invokevirtual 9, 3, 0, 0, [])), (68, (.sipush 5000, 3, 0, 5000, [])), (71, (.if_icmp .gt 16, 3, 87, 0, [])), (74, (.aload_n 0, 1, 0, 0, [])), (75, (.iload_n 2, 1, 0, 0, [])), (76, (.invokevirtual 28, 3, 0, 0, [])), (79, (.iload_n 3, 1, 0, 0, [])), (80, (.if_icmp .ne 7, 3, 87, 0, [])), (83, (.iconst 1, 1, 0, 1, [])), (84, (.goto 4, 3, 88, 0, [])), (87, (.iconst 0, 1, 0, 0, [])), (88, (.istore_n 1, 1, 0, 0, [])), (89, (.iconst 0, 1, 0, 0, [])), (90, (.istore 6, 2, 0, 0, [])), (92, (.iload 6, 2, 0, 0, [])), (94, (.iload_n 2, 1, 0, 0, [])), (95, (.if_icmp .ge 49, 3, 144, 0, [])), (98, (.iload_n 1, 1, 0, 0, [])), (99, (.ifCond .eq 37, 3, 136, 0, [])), (102, (.iload 5, 2, 0, 0, [])), (104, (.aload_n 0, 1, 0, 0, [])), (105, (.iload 6, 2, 0, 0, [])), (107, (.iconst 1, 1, 0, 1, [])), (108, (.invokevirtual 9, 3, 0, 0, [])), (111, (.bipush 100, 2, 0, 100, [])), (113, (.isub, 1, 0, 0, [])), (114, (.if_icmp .lt 18, 3, 132, 0, [])), (117, (.aload_n 0, 1, 0, 0, [])), (118, (.iload 6, 2, 0, 0, [])), (120, (.iconst 2, 1, 0, 2, [])), (121, (.invokevirtual 9, 3, 0, 0, [])), (124, (.iload 4, 2, 0, 0, [])), (126, (.bipush 100, 2, 0, 100, [])), (128, (.isub, 1, 0, 0, [])), (129, (.if_icmp .ge 7, 3, 136, 0, [])), (132, (.iconst 1, 1, 0, 1, [])), (133, (.goto 4, 3, 137, 0, [])), (136, (.iconst 0, 1, 0, 0, [])), (137, (.istore_n 1, 1, 0, 0, [])), (138, (.iinc 6 1, 3, 0, 1, [])), (141, (.goto (-49), 3, 92, 0, [])), (144, (.iinc 2 1, 3, 0, 1, [])), (147, (.goto (-140), 3, 7, 0, [])), (150, (.iload_n 1, 1, 0, 0, [])), (151, (.ireturn, 1, 0, 0, []))]
theorem T_L_isSafe_ok : (T_L_isSafe.all (fun q => entOK cL_isSafe q.1 q.2)) = true := by decide +kernel
def T_L_doors : List (Nat × Ent) := [(0, (.aload_n 0, 1, 0, 0, [])), (1, (.iload_n 1, 1, 0, 0, [])), (2, (.bipush 8, 2, 0, 8, [])), (4, (.invokevirtual 9, 3, 0, 0, [])), (7, (.ifCond .lt 11, 3, 18, 0, [])), (10, (.aload_n 0, 1, 0, 0, [])), (11, (.iload_n 1, 1, 0, 0, [])), (12, (.invokevirtual 31, 3, 0, 0, [])), (15, (.goto 77, 3, 92, 0, [])), (18, (.aload_n 0, 1, 0, 0, [])), (19, (.iload_n 1, 1, 0, 0, [])), (20, (.invokestatic 35, 3, 0, 0, [])), (23, (.ifCond .eq 28, 3, 51, 0, [])), (26, (.iload_n 2, 1, 0, 0, [])), (27, (.iconst 3, 1, 0, 3, [])), (28, (.irem, 1, 0, 0, [])), (29, (.ifCond .ne 22, 3, 51, 0, [])), (32, (.aload_n 0, 1, 0, 0, [])), (33, (.iload_n 1, 1, 0, 0, [])), (34, (.bipush 10, 2, 0, 10, [])), (36, (.invokevirtual 9, 3, 0, 0, [])), (39, (.ifCond .ne 12, 3, 51, 0, [])), (42, (.aload_n 0, 1, 0, 0, [])), (43, (.iload_n 1, 1, 0, 0, [])), (44, (.invokevirtual 39, 3, 0, 0, [])), (47, (.pop, 1, 0, 0, [])), (48, (.goto 44, 3, 92, 0, [])), (51, (.aload_n 0, 1, 0, 0, [])), (52, (.iload_n 1, 1, 0, 0, [])), (53, (.invokestatic 35, 3, 0, 0, [])), (56, (.ifCond .eq 16, 3, 72, 0, [])), (59, (.aload_n 0, 1, 0, 0, [])), (60, (.iload_n 1, 1, 0, 0, [])), (61, (.iload_n 2, 1, 0, 0, [])), (62, (.bipush 50, 2, 0, 50, [])), (64, (.irem, 1, 0, 0, [])), (65, (.invokevirtual 42, 3, 0, 0, [])), (68, (.pop, 1, 0, 0, [])), (69, (.goto 23, 3, 92, 0, [])), (72, (.aload_n 0, 1, 0, 0, [])), (73, (.iload_n 1, 1, 0, 0, [])), (74, (.iconst 3, 1, 0, 3, [])), (75, (.invokevirtual 9, 3, 0, 0, [])), (78, (.ifCond .ne 14, 3, 92, 0, [])), (81, (.aload_n 0, 1, 0, 0, [])), (82, (.iload_n 1, 1, 0, 0, [])), (83, (.iconst 1, 1, 0, 1, [])), (84, (.iload_n 2, 1, 0, 0, [])), (85, (.iconst 5, 1, 0, 5, [])), (86, (.irem, 1, 0, 0, [])), (87, (.iadd, 1, 0, 0, [])), (88, (.invokevirtual 45, 3, 0, 0, [])), (91, (.pop, 1, 0, 0, [])), (92, (.return_, 1, 0, 0, []))]
theorem T_L_doors_ok : (T_L_doors.all (fun q => entOK cL_doors q.1 q.2)) = true := by decide +kernel
theorem ws_X1_tell : Cond.instanceMethod yX1_tell ∈ LT ∧ Cond.selects yX1_tell.cls yX1_tell yX1_tell ∈ LT ∧ Cond.initialized yX1_tell.cls ∈ LT ∧ Cond.code yX1_tell cX1_tell 2 (some .int) ∈ LT := by decide +kernel
theorem ws_X1_countDeparture : Cond.instanceMethod yX1_countDeparture ∈ LT ∧ Cond.selects yX1_countDeparture.cls yX1_countDeparture yX1_countDeparture ∈ LT ∧ Cond.initialized yX1_countDeparture.cls ∈ LT ∧ Cond.code yX1_countDeparture cX1_countDeparture 2 none ∈ LT := by decide +kernel
theorem ws_X2_tell : Cond.instanceMethod yX2_tell ∈ LT ∧ Cond.selects yX2_tell.cls yX2_tell yX2_tell ∈ LT ∧ Cond.initialized yX2_tell.cls ∈ LT ∧ Cond.code yX2_tell cX2_tell 2 (some .int) ∈ LT := by decide +kernel
theorem ws_X2_wayToStop : Cond.static yX2_wayToStop ∈ LT ∧ Cond.initialized yX2_wayToStop.cls ∈ LT ∧ Cond.code yX2_wayToStop cX2_wayToStop 1 (some .int) ∈ LT := by decide +kernel
theorem ws_X2_keeps : Cond.instanceMethod yX2_keeps ∈ LT ∧ Cond.selects yX2_keeps.cls yX2_keeps yX2_keeps ∈ LT ∧ Cond.initialized yX2_keeps.cls ∈ LT ∧ Cond.code yX2_keeps cX2_keeps 3 (some .boolean) ∈ LT := by decide +kernel
theorem ws_X2_mayCover : Cond.instanceMethod yX2_mayCover ∈ LT ∧ Cond.selects yX2_mayCover.cls yX2_mayCover yX2_mayCover ∈ LT ∧ Cond.initialized yX2_mayCover.cls ∈ LT ∧ Cond.code yX2_mayCover cX2_mayCover 3 (some .boolean) ∈ LT := by decide +kernel
theorem ws_X2_isInItsBounds : Cond.instanceMethod yX2_isInItsBounds ∈ LT ∧ Cond.selects yX2_isInItsBounds.cls yX2_isInItsBounds yX2_isInItsBounds ∈ LT ∧ Cond.initialized yX2_isInItsBounds.cls ∈ LT ∧ Cond.code yX2_isInItsBounds cX2_isInItsBounds 1 (some .boolean) ∈ LT := by decide +kernel
theorem ws_X2_hasOpenDoors : Cond.instanceMethod yX2_hasOpenDoors ∈ LT ∧ Cond.selects yX2_hasOpenDoors.cls yX2_hasOpenDoors yX2_hasOpenDoors ∈ LT ∧ Cond.initialized yX2_hasOpenDoors.cls ∈ LT ∧ Cond.code yX2_hasOpenDoors cX2_hasOpenDoors 1 (some .boolean) ∈ LT := by decide +kernel
theorem ws_X2_isAtStop : Cond.instanceMethod yX2_isAtStop ∈ LT ∧ Cond.selects yX2_isAtStop.cls yX2_isAtStop yX2_isAtStop ∈ LT ∧ Cond.initialized yX2_isAtStop.cls ∈ LT ∧ Cond.code yX2_isAtStop cX2_isAtStop 1 (some .boolean) ∈ LT := by decide +kernel
theorem ws_X2_canDepart : Cond.instanceMethod yX2_canDepart ∈ LT ∧ Cond.selects yX2_canDepart.cls yX2_canDepart yX2_canDepart ∈ LT ∧ Cond.initialized yX2_canDepart.cls ∈ LT ∧ Cond.code yX2_canDepart cX2_canDepart 1 (some .boolean) ∈ LT := by decide +kernel
theorem ws_X2_greatestSpeed : Cond.instanceMethod yX2_greatestSpeed ∈ LT ∧ Cond.selects yX2_greatestSpeed.cls yX2_greatestSpeed yX2_greatestSpeed ∈ LT ∧ Cond.initialized yX2_greatestSpeed.cls ∈ LT ∧ Cond.code yX2_greatestSpeed cX2_greatestSpeed 4 (some .int) ∈ LT := by decide +kernel
theorem ws_X2_findSpeed : Cond.instanceMethod yX2_findSpeed ∈ LT ∧ Cond.selects yX2_findSpeed.cls yX2_findSpeed yX2_findSpeed ∈ LT ∧ Cond.initialized yX2_findSpeed.cls ∈ LT ∧ Cond.code yX2_findSpeed cX2_findSpeed 2 none ∈ LT := by decide +kernel
theorem ws_X2_go : Cond.instanceMethod yX2_go ∈ LT ∧ Cond.selects yX2_go.cls yX2_go yX2_go ∈ LT ∧ Cond.initialized yX2_go.cls ∈ LT ∧ Cond.code yX2_go cX2_go 3 none ∈ LT := by decide +kernel
theorem ws_X2_playAgain : Cond.instanceMethod yX2_playAgain ∈ LT ∧ Cond.selects yX2_playAgain.cls yX2_playAgain yX2_playAgain ∈ LT ∧ Cond.initialized yX2_playAgain.cls ∈ LT ∧ Cond.code yX2_playAgain cX2_playAgain 4 (some .int) ∈ LT := by decide +kernel
theorem ws_X2_openDoors : Cond.instanceMethod yX2_openDoors ∈ LT ∧ Cond.selects yX2_openDoors.cls yX2_openDoors yX2_openDoors ∈ LT ∧ Cond.initialized yX2_openDoors.cls ∈ LT ∧ Cond.code yX2_openDoors cX2_openDoors 3 none ∈ LT := by decide +kernel
theorem ws_X2_takePeople : Cond.instanceMethod yX2_takePeople ∈ LT ∧ Cond.selects yX2_takePeople.cls yX2_takePeople yX2_takePeople ∈ LT ∧ Cond.initialized yX2_takePeople.cls ∈ LT ∧ Cond.code yX2_takePeople cX2_takePeople 3 none ∈ LT := by decide +kernel
theorem ws_X4_askNumber : Cond.static yX4_askNumber ∈ LT ∧ Cond.initialized yX4_askNumber.cls ∈ LT ∧ Cond.code yX4_askNumber cX4_askNumber 2 none ∈ LT := by decide +kernel
theorem ws_X4_works : Cond.instanceMethod yX4_works ∈ LT ∧ Cond.selects yX4_works.cls yX4_works yX4_works ∈ LT ∧ Cond.initialized yX4_works.cls ∈ LT ∧ Cond.code yX4_works cX4_works 5 (some .boolean) ∈ LT := by decide +kernel
theorem ws_X4_askThat : Cond.static yX4_askThat ∈ LT ∧ Cond.initialized yX4_askThat.cls ∈ LT ∧ Cond.code yX4_askThat cX4_askThat 1 none ∈ LT := by decide +kernel
theorem ws_X4_canBeClosed : Cond.instanceMethod yX4_canBeClosed ∈ LT ∧ Cond.selects yX4_canBeClosed.cls yX4_canBeClosed yX4_canBeClosed ∈ LT ∧ Cond.initialized yX4_canBeClosed.cls ∈ LT ∧ Cond.code yX4_canBeClosed cX4_canBeClosed 4 (some .boolean) ∈ LT := by decide +kernel
theorem ws_X4_oneAheadOf : Cond.instanceMethod yX4_oneAheadOf ∈ LT ∧ Cond.selects yX4_oneAheadOf.cls yX4_oneAheadOf yX4_oneAheadOf ∈ LT ∧ Cond.initialized yX4_oneAheadOf.cls ∈ LT ∧ Cond.code yX4_oneAheadOf cX4_oneAheadOf 5 (some (.object "HeadwayDeep$Train")) ∈ LT := by decide +kernel
theorem ws_X4_limitFor : Cond.instanceMethod yX4_limitFor ∈ LT ∧ Cond.selects yX4_limitFor.cls yX4_limitFor yX4_limitFor ∈ LT ∧ Cond.initialized yX4_limitFor.cls ∈ LT ∧ Cond.code yX4_limitFor cX4_limitFor 6 (some .int) ∈ LT := by decide +kernel
theorem ws_X4_dealLimits : Cond.instanceMethod yX4_dealLimits ∈ LT ∧ Cond.selects yX4_dealLimits.cls yX4_dealLimits yX4_dealLimits ∈ LT ∧ Cond.initialized yX4_dealLimits.cls ∈ LT ∧ Cond.code yX4_dealLimits cX4_dealLimits 3 none ∈ LT := by decide +kernel
theorem ws_X4_close : Cond.instanceMethod yX4_close ∈ LT ∧ Cond.selects yX4_close.cls yX4_close yX4_close ∈ LT ∧ Cond.initialized yX4_close.cls ∈ LT ∧ Cond.code yX4_close cX4_close 5 (some .boolean) ∈ LT := by decide +kernel
theorem ws_X4_askRange : Cond.static yX4_askRange ∈ LT ∧ Cond.initialized yX4_askRange.cls ∈ LT ∧ Cond.code yX4_askRange cX4_askRange 3 none ∈ LT := by decide +kernel
theorem ws_X4_speed : Cond.instanceMethod yX4_speed ∈ LT ∧ Cond.selects yX4_speed.cls yX4_speed yX4_speed ∈ LT ∧ Cond.initialized yX4_speed.cls ∈ LT ∧ Cond.code yX4_speed cX4_speed 3 (some .int) ∈ LT := by decide +kernel
theorem ws_X4_trainIs : Cond.instanceMethod yX4_trainIs ∈ LT ∧ Cond.selects yX4_trainIs.cls yX4_trainIs yX4_trainIs ∈ LT ∧ Cond.initialized yX4_trainIs.cls ∈ LT ∧ Cond.code yX4_trainIs cX4_trainIs 3 (some .int) ∈ LT := by decide +kernel
theorem ws_X4_slip : Cond.instanceMethod yX4_slip ∈ LT ∧ Cond.selects yX4_slip.cls yX4_slip yX4_slip ∈ LT ∧ Cond.initialized yX4_slip.cls ∈ LT ∧ Cond.code yX4_slip cX4_slip 5 (some .int) ∈ LT := by decide +kernel
theorem ws_X4_silent : Cond.instanceMethod yX4_silent ∈ LT ∧ Cond.selects yX4_silent.cls yX4_silent yX4_silent ∈ LT ∧ Cond.initialized yX4_silent.cls ∈ LT ∧ Cond.code yX4_silent cX4_silent 5 (some .boolean) ∈ LT := by decide +kernel
theorem ws_X4_emergency : Cond.instanceMethod yX4_emergency ∈ LT ∧ Cond.selects yX4_emergency.cls yX4_emergency yX4_emergency ∈ LT ∧ Cond.initialized yX4_emergency.cls ∈ LT ∧ Cond.code yX4_emergency cX4_emergency 3 (some .boolean) ∈ LT := by decide +kernel
theorem ws_X4_countHolding : Cond.instanceMethod yX4_countHolding ∈ LT ∧ Cond.selects yX4_countHolding.cls yX4_countHolding yX4_countHolding ∈ LT ∧ Cond.initialized yX4_countHolding.cls ∈ LT ∧ Cond.code yX4_countHolding cX4_countHolding 2 none ∈ LT := by decide +kernel
theorem ws_X4_letPeopleBoard : Cond.instanceMethod yX4_letPeopleBoard ∈ LT ∧ Cond.selects yX4_letPeopleBoard.cls yX4_letPeopleBoard yX4_letPeopleBoard ∈ LT ∧ Cond.initialized yX4_letPeopleBoard.cls ∈ LT ∧ Cond.code yX4_letPeopleBoard cX4_letPeopleBoard 2 none ∈ LT := by decide +kernel
theorem ws_X4_letPeopleCome : Cond.instanceMethod yX4_letPeopleCome ∈ LT ∧ Cond.selects yX4_letPeopleCome.cls yX4_letPeopleCome yX4_letPeopleCome ∈ LT ∧ Cond.initialized yX4_letPeopleCome.cls ∈ LT ∧ Cond.code yX4_letPeopleCome cX4_letPeopleCome 3 none ∈ LT := by decide +kernel
theorem ws_X4_meetsBeacon : Cond.instanceMethod yX4_meetsBeacon ∈ LT ∧ Cond.selects yX4_meetsBeacon.cls yX4_meetsBeacon yX4_meetsBeacon ∈ LT ∧ Cond.initialized yX4_meetsBeacon.cls ∈ LT ∧ Cond.code yX4_meetsBeacon cX4_meetsBeacon 5 (some .boolean) ∈ LT := by decide +kernel
theorem ws_X4_move : Cond.instanceMethod yX4_move ∈ LT ∧ Cond.selects yX4_move.cls yX4_move yX4_move ∈ LT ∧ Cond.initialized yX4_move.cls ∈ LT ∧ Cond.code yX4_move cX4_move 3 none ∈ LT := by decide +kernel
theorem ws_X4_takeReports : Cond.instanceMethod yX4_takeReports ∈ LT ∧ Cond.selects yX4_takeReports.cls yX4_takeReports yX4_takeReports ∈ LT ∧ Cond.initialized yX4_takeReports.cls ∈ LT ∧ Cond.code yX4_takeReports cX4_takeReports 3 none ∈ LT := by decide +kernel
theorem ws_X4_passOne : Cond.instanceMethod yX4_passOne ∈ LT ∧ Cond.selects yX4_passOne.cls yX4_passOne yX4_passOne ∈ LT ∧ Cond.initialized yX4_passOne.cls ∈ LT ∧ Cond.code yX4_passOne cX4_passOne 2 none ∈ LT := by decide +kernel
theorem ws_X4_pass : Cond.instanceMethod yX4_pass ∈ LT ∧ Cond.selects yX4_pass.cls yX4_pass yX4_pass ∈ LT ∧ Cond.initialized yX4_pass.cls ∈ LT ∧ Cond.code yX4_pass cX4_pass 3 (some .int) ∈ LT := by decide +kernel
theorem ws_X4_stop : Cond.instanceMethod yX4_stop ∈ LT ∧ Cond.selects yX4_stop.cls yX4_stop yX4_stop ∈ LT ∧ Cond.initialized yX4_stop.cls ∈ LT ∧ Cond.code yX4_stop cX4_stop 5 none ∈ LT := by decide +kernel
theorem ws_X4_open : Cond.instanceMethod yX4_open ∈ LT ∧ Cond.selects yX4_open.cls yX4_open yX4_open ∈ LT ∧ Cond.initialized yX4_open.cls ∈ LT ∧ Cond.code yX4_open cX4_open 4 (some .int) ∈ LT := by decide +kernel
theorem ws_X4_shut : Cond.instanceMethod yX4_shut ∈ LT ∧ Cond.selects yX4_shut.cls yX4_shut yX4_shut ∈ LT ∧ Cond.initialized yX4_shut.cls ∈ LT ∧ Cond.code yX4_shut cX4_shut 3 none ∈ LT := by decide +kernel
theorem ws_X4_hold : Cond.instanceMethod yX4_hold ∈ LT ∧ Cond.selects yX4_hold.cls yX4_hold yX4_hold ∈ LT ∧ Cond.initialized yX4_hold.cls ∈ LT ∧ Cond.code yX4_hold cX4_hold 4 (some .int) ∈ LT := by decide +kernel
theorem ws_X4_depart : Cond.instanceMethod yX4_depart ∈ LT ∧ Cond.selects yX4_depart.cls yX4_depart yX4_depart ∈ LT ∧ Cond.initialized yX4_depart.cls ∈ LT ∧ Cond.code yX4_depart cX4_depart 4 (some .int) ∈ LT := by decide +kernel
theorem ws_X4_rate : Cond.instanceMethod yX4_rate ∈ LT ∧ Cond.selects yX4_rate.cls yX4_rate yX4_rate ∈ LT ∧ Cond.initialized yX4_rate.cls ∈ LT ∧ Cond.code yX4_rate cX4_rate 5 (some .int) ∈ LT := by decide +kernel
theorem ws_X4_platformIs : Cond.instanceMethod yX4_platformIs ∈ LT ∧ Cond.selects yX4_platformIs.cls yX4_platformIs yX4_platformIs ∈ LT ∧ Cond.initialized yX4_platformIs.cls ∈ LT ∧ Cond.code yX4_platformIs cX4_platformIs 3 (some .int) ∈ LT := by decide +kernel
theorem ws_X4_placeAnew : Cond.instanceMethod yX4_placeAnew ∈ LT ∧ Cond.selects yX4_placeAnew.cls yX4_placeAnew yX4_placeAnew ∈ LT ∧ Cond.initialized yX4_placeAnew.cls ∈ LT ∧ Cond.code yX4_placeAnew cX4_placeAnew 2 (some .int) ∈ LT := by decide +kernel
theorem ws_X4_isSafe : Cond.instanceMethod yX4_isSafe ∈ LT ∧ Cond.selects yX4_isSafe.cls yX4_isSafe yX4_isSafe ∈ LT ∧ Cond.initialized yX4_isSafe.cls ∈ LT ∧ Cond.code yX4_isSafe cX4_isSafe 3 (some .boolean) ∈ LT := by decide +kernel
theorem ws_X4_canBePutIn : Cond.instanceMethod yX4_canBePutIn ∈ LT ∧ Cond.selects yX4_canBePutIn.cls yX4_canBePutIn yX4_canBePutIn ∈ LT ∧ Cond.initialized yX4_canBePutIn.cls ∈ LT ∧ Cond.code yX4_canBePutIn cX4_canBePutIn 5 (some .boolean) ∈ LT := by decide +kernel
theorem ws_L_way : Cond.static yL_way ∈ LT ∧ Cond.initialized yL_way.cls ∈ LT ∧ Cond.code yL_way cL_way 1 (some .int) ∈ LT := by decide +kernel
theorem ws_L_isAt : Cond.static yL_isAt ∈ LT ∧ Cond.initialized yL_isAt.cls ∈ LT ∧ Cond.code yL_isAt cL_isAt 4 (some .boolean) ∈ LT := by decide +kernel
theorem ws_L_mayStop : Cond.static yL_mayStop ∈ LT ∧ Cond.initialized yL_mayStop.cls ∈ LT ∧ Cond.code yL_mayStop cL_mayStop 3 (some .boolean) ∈ LT := by decide +kernel
theorem ws_L_mayClose : Cond.static yL_mayClose ∈ LT ∧ Cond.initialized yL_mayClose.cls ∈ LT ∧ Cond.code yL_mayClose cL_mayClose 8 (some .boolean) ∈ LT := by decide +kernel
theorem ws_L_isSafe : Cond.static yL_isSafe ∈ LT ∧ Cond.initialized yL_isSafe.cls ∈ LT ∧ Cond.code yL_isSafe cL_isSafe 7 (some .boolean) ∈ LT := by decide +kernel
theorem ws_L_doors : Cond.static yL_doors ∈ LT ∧ Cond.initialized yL_doors.cls ∈ LT ∧ Cond.code yL_doors cL_doors 3 none ∈ LT := by decide +kernel
def PC_X1_tell (M : Nat → Nat → Bool) (as : List VV) (t : TT) (k : Option VV → TT → Prop) (kx : String → TT → Prop) : Prop := match as with
  | [.inr (.inl (5, o0)), .inl a1] => M 5 o0 = true ∧ P_X1_tell M (fun r t1 => k (some (.inl r)) t1) kx o0 a1 t
  | [.inr (.inr (5, x)), .inl a1] => ¬ x = -1 ∧ (M 5 x.toNatClampNeg = true ∧ P_X1_tell M (fun r t1 => k (some (.inl r)) t1) kx x.toNatClampNeg a1 t)
  | _ => False
def PC_X1_countDeparture (M : Nat → Nat → Bool) (as : List VV) (t : TT) (k : Option VV → TT → Prop) (kx : String → TT → Prop) : Prop := match as with
  | [.inr (.inl (5, o0)), .inl a1] => M 5 o0 = true ∧ P_X1_countDeparture M (fun t1 => k none t1) kx o0 a1 t
  | [.inr (.inr (5, x)), .inl a1] => ¬ x = -1 ∧ (M 5 x.toNatClampNeg = true ∧ P_X1_countDeparture M (fun t1 => k none t1) kx x.toNatClampNeg a1 t)
  | _ => False
def PC_X2_tell (M : Nat → Nat → Bool) (as : List VV) (t : TT) (k : Option VV → TT → Prop) (kx : String → TT → Prop) : Prop := match as with
  | [.inr (.inl (8, o0)), .inl a1] => M 8 o0 = true ∧ P_X2_tell M (fun r t1 => k (some (.inl r)) t1) kx o0 a1 t
  | [.inr (.inr (8, x)), .inl a1] => ¬ x = -1 ∧ (M 8 x.toNatClampNeg = true ∧ P_X2_tell M (fun r t1 => k (some (.inl r)) t1) kx x.toNatClampNeg a1 t)
  | _ => False
def PC_X2_wayToStop (M : Nat → Nat → Bool) (as : List VV) (t : TT) (k : Option VV → TT → Prop) (kx : String → TT → Prop) : Prop := match as with
  | [.inl a0] => P_X2_wayToStop M (fun r t1 => k (some (.inl r)) t1) kx a0 t
  | _ => False
def PC_X2_keeps (M : Nat → Nat → Bool) (as : List VV) (t : TT) (k : Option VV → TT → Prop) (kx : String → TT → Prop) : Prop := match as with
  | [.inr (.inl (8, o0)), .inl a1] => M 8 o0 = true ∧ P_X2_keeps M (fun r t1 => k (some (.inl r)) t1) kx o0 a1 t
  | [.inr (.inr (8, x)), .inl a1] => ¬ x = -1 ∧ (M 8 x.toNatClampNeg = true ∧ P_X2_keeps M (fun r t1 => k (some (.inl r)) t1) kx x.toNatClampNeg a1 t)
  | _ => False
def PC_X2_mayCover (M : Nat → Nat → Bool) (as : List VV) (t : TT) (k : Option VV → TT → Prop) (kx : String → TT → Prop) : Prop := match as with
  | [.inr (.inl (8, o0)), .inl a1, .inl a2] => M 8 o0 = true ∧ P_X2_mayCover M (fun r t1 => k (some (.inl r)) t1) kx o0 a1 a2 t
  | [.inr (.inr (8, x)), .inl a1, .inl a2] => ¬ x = -1 ∧ (M 8 x.toNatClampNeg = true ∧ P_X2_mayCover M (fun r t1 => k (some (.inl r)) t1) kx x.toNatClampNeg a1 a2 t)
  | _ => False
def PC_X2_isInItsBounds (M : Nat → Nat → Bool) (as : List VV) (t : TT) (k : Option VV → TT → Prop) (kx : String → TT → Prop) : Prop := match as with
  | [.inr (.inl (8, o0))] => M 8 o0 = true ∧ P_X2_isInItsBounds M (fun r t1 => k (some (.inl r)) t1) kx o0 t
  | [.inr (.inr (8, x))] => ¬ x = -1 ∧ (M 8 x.toNatClampNeg = true ∧ P_X2_isInItsBounds M (fun r t1 => k (some (.inl r)) t1) kx x.toNatClampNeg t)
  | _ => False
def PC_X2_hasOpenDoors (M : Nat → Nat → Bool) (as : List VV) (t : TT) (k : Option VV → TT → Prop) (kx : String → TT → Prop) : Prop := match as with
  | [.inr (.inl (8, o0))] => M 8 o0 = true ∧ P_X2_hasOpenDoors M (fun r t1 => k (some (.inl r)) t1) kx o0 t
  | [.inr (.inr (8, x))] => ¬ x = -1 ∧ (M 8 x.toNatClampNeg = true ∧ P_X2_hasOpenDoors M (fun r t1 => k (some (.inl r)) t1) kx x.toNatClampNeg t)
  | _ => False
def PC_X2_isAtStop (M : Nat → Nat → Bool) (as : List VV) (t : TT) (k : Option VV → TT → Prop) (kx : String → TT → Prop) : Prop := match as with
  | [.inr (.inl (8, o0))] => M 8 o0 = true ∧ P_X2_isAtStop M (fun r t1 => k (some (.inl r)) t1) kx o0 t
  | [.inr (.inr (8, x))] => ¬ x = -1 ∧ (M 8 x.toNatClampNeg = true ∧ P_X2_isAtStop M (fun r t1 => k (some (.inl r)) t1) kx x.toNatClampNeg t)
  | _ => False
def PC_X2_canDepart (M : Nat → Nat → Bool) (as : List VV) (t : TT) (k : Option VV → TT → Prop) (kx : String → TT → Prop) : Prop := match as with
  | [.inr (.inl (8, o0))] => M 8 o0 = true ∧ P_X2_canDepart M (fun r t1 => k (some (.inl r)) t1) kx o0 t
  | [.inr (.inr (8, x))] => ¬ x = -1 ∧ (M 8 x.toNatClampNeg = true ∧ P_X2_canDepart M (fun r t1 => k (some (.inl r)) t1) kx x.toNatClampNeg t)
  | _ => False
def PC_X2_greatestSpeed (M : Nat → Nat → Bool) (as : List VV) (t : TT) (k : Option VV → TT → Prop) (kx : String → TT → Prop) : Prop := match as with
  | [.inr (.inl (8, o0)), .inl a1] => M 8 o0 = true ∧ P_X2_greatestSpeed M (fun r t1 => k (some (.inl r)) t1) kx o0 a1 t
  | [.inr (.inr (8, x)), .inl a1] => ¬ x = -1 ∧ (M 8 x.toNatClampNeg = true ∧ P_X2_greatestSpeed M (fun r t1 => k (some (.inl r)) t1) kx x.toNatClampNeg a1 t)
  | _ => False
def PC_X2_findSpeed (M : Nat → Nat → Bool) (as : List VV) (t : TT) (k : Option VV → TT → Prop) (kx : String → TT → Prop) : Prop := match as with
  | [.inr (.inl (8, o0)), .inl a1] => M 8 o0 = true ∧ P_X2_findSpeed M (fun t1 => k none t1) kx o0 a1 t
  | [.inr (.inr (8, x)), .inl a1] => ¬ x = -1 ∧ (M 8 x.toNatClampNeg = true ∧ P_X2_findSpeed M (fun t1 => k none t1) kx x.toNatClampNeg a1 t)
  | _ => False
def PC_X2_go (M : Nat → Nat → Bool) (as : List VV) (t : TT) (k : Option VV → TT → Prop) (kx : String → TT → Prop) : Prop := match as with
  | [.inr (.inl (8, o0)), .inl a1] => M 8 o0 = true ∧ P_X2_go M (fun t1 => k none t1) kx o0 a1 t
  | [.inr (.inr (8, x)), .inl a1] => ¬ x = -1 ∧ (M 8 x.toNatClampNeg = true ∧ P_X2_go M (fun t1 => k none t1) kx x.toNatClampNeg a1 t)
  | _ => False
def PC_X2_playAgain (M : Nat → Nat → Bool) (as : List VV) (t : TT) (k : Option VV → TT → Prop) (kx : String → TT → Prop) : Prop := match as with
  | [.inr (.inl (8, o0)), .inl a1] => M 8 o0 = true ∧ P_X2_playAgain M (fun r t1 => k (some (.inl r)) t1) kx o0 a1 t
  | [.inr (.inr (8, x)), .inl a1] => ¬ x = -1 ∧ (M 8 x.toNatClampNeg = true ∧ P_X2_playAgain M (fun r t1 => k (some (.inl r)) t1) kx x.toNatClampNeg a1 t)
  | _ => False
def PC_X2_openDoors (M : Nat → Nat → Bool) (as : List VV) (t : TT) (k : Option VV → TT → Prop) (kx : String → TT → Prop) : Prop := match as with
  | [.inr (.inl (8, o0)), .inl a1] => M 8 o0 = true ∧ P_X2_openDoors M (fun t1 => k none t1) kx o0 a1 t
  | [.inr (.inr (8, x)), .inl a1] => ¬ x = -1 ∧ (M 8 x.toNatClampNeg = true ∧ P_X2_openDoors M (fun t1 => k none t1) kx x.toNatClampNeg a1 t)
  | _ => False
def PC_X2_takePeople (M : Nat → Nat → Bool) (as : List VV) (t : TT) (k : Option VV → TT → Prop) (kx : String → TT → Prop) : Prop := match as with
  | [.inr (.inl (8, o0))] => M 8 o0 = true ∧ P_X2_takePeople M (fun t1 => k none t1) kx o0 t
  | [.inr (.inr (8, x))] => ¬ x = -1 ∧ (M 8 x.toNatClampNeg = true ∧ P_X2_takePeople M (fun t1 => k none t1) kx x.toNatClampNeg t)
  | _ => False
def PC_X4_askNumber (M : Nat → Nat → Bool) (as : List VV) (t : TT) (k : Option VV → TT → Prop) (kx : String → TT → Prop) : Prop := match as with
  | [.inl a0, .inl a1] => P_X4_askNumber M (fun t1 => k none t1) kx a0 a1 t
  | _ => False
def PC_X4_works (M : Nat → Nat → Bool) (as : List VV) (t : TT) (k : Option VV → TT → Prop) (kx : String → TT → Prop) : Prop := match as with
  | [.inr (.inl (0, o0)), .inl a1, .inl a2] => M 0 o0 = true ∧ P_X4_works M (fun r t1 => k (some (.inl r)) t1) kx o0 a1 a2 t
  | [.inr (.inr (0, x)), .inl a1, .inl a2] => ¬ x = -1 ∧ (M 0 x.toNatClampNeg = true ∧ P_X4_works M (fun r t1 => k (some (.inl r)) t1) kx x.toNatClampNeg a1 a2 t)
  | _ => False
def PC_X4_askThat (M : Nat → Nat → Bool) (as : List VV) (t : TT) (k : Option VV → TT → Prop) (kx : String → TT → Prop) : Prop := match as with
  | [.inl a0] => P_X4_askThat M (fun t1 => k none t1) kx a0 t
  | _ => False
def PC_X4_canBeClosed (M : Nat → Nat → Bool) (as : List VV) (t : TT) (k : Option VV → TT → Prop) (kx : String → TT → Prop) : Prop := match as with
  | [.inr (.inl (0, o0)), .inr (.inl (7, o1))] => M 0 o0 = true ∧ P_X4_canBeClosed M (fun r t1 => k (some (.inl r)) t1) kx o0 o1 t
  | [.inr (.inr (0, x)), .inr (.inl (7, o1))] => ¬ x = -1 ∧ (M 0 x.toNatClampNeg = true ∧ P_X4_canBeClosed M (fun r t1 => k (some (.inl r)) t1) kx x.toNatClampNeg o1 t)
  | _ => False
def PC_X4_oneAheadOf (M : Nat → Nat → Bool) (as : List VV) (t : TT) (k : Option VV → TT → Prop) (kx : String → TT → Prop) : Prop := match as with
  | [.inr (.inl (0, o0)), .inr (.inl (8, o1))] => M 0 o0 = true ∧ P_X4_oneAheadOf M (fun r t1 => k (some (.inr (.inr (8, r)))) t1) kx o0 o1 t
  | [.inr (.inr (0, x)), .inr (.inl (8, o1))] => ¬ x = -1 ∧ (M 0 x.toNatClampNeg = true ∧ P_X4_oneAheadOf M (fun r t1 => k (some (.inr (.inr (8, r)))) t1) kx x.toNatClampNeg o1 t)
  | _ => False
def PC_X4_limitFor (M : Nat → Nat → Bool) (as : List VV) (t : TT) (k : Option VV → TT → Prop) (kx : String → TT → Prop) : Prop := match as with
  | [.inr (.inl (0, o0)), .inr (.inl (8, o1))] => M 0 o0 = true ∧ P_X4_limitFor M (fun r t1 => k (some (.inl r)) t1) kx o0 o1 t
  | [.inr (.inr (0, x)), .inr (.inl (8, o1))] => ¬ x = -1 ∧ (M 0 x.toNatClampNeg = true ∧ P_X4_limitFor M (fun r t1 => k (some (.inl r)) t1) kx x.toNatClampNeg o1 t)
  | _ => False
def PC_X4_dealLimits (M : Nat → Nat → Bool) (as : List VV) (t : TT) (k : Option VV → TT → Prop) (kx : String → TT → Prop) : Prop := match as with
  | [.inr (.inl (0, o0))] => M 0 o0 = true ∧ P_X4_dealLimits M (fun t1 => k none t1) kx o0 t
  | [.inr (.inr (0, x))] => ¬ x = -1 ∧ (M 0 x.toNatClampNeg = true ∧ P_X4_dealLimits M (fun t1 => k none t1) kx x.toNatClampNeg t)
  | _ => False
def PC_X4_close (M : Nat → Nat → Bool) (as : List VV) (t : TT) (k : Option VV → TT → Prop) (kx : String → TT → Prop) : Prop := match as with
  | [.inr (.inl (0, o0)), .inl a1, .inl a2] => M 0 o0 = true ∧ P_X4_close M (fun r t1 => k (some (.inl r)) t1) kx o0 a1 a2 t
  | [.inr (.inr (0, x)), .inl a1, .inl a2] => ¬ x = -1 ∧ (M 0 x.toNatClampNeg = true ∧ P_X4_close M (fun r t1 => k (some (.inl r)) t1) kx x.toNatClampNeg a1 a2 t)
  | _ => False
def PC_X4_askRange (M : Nat → Nat → Bool) (as : List VV) (t : TT) (k : Option VV → TT → Prop) (kx : String → TT → Prop) : Prop := match as with
  | [.inl a0, .inl a1, .inl a2] => P_X4_askRange M (fun t1 => k none t1) kx a0 a1 a2 t
  | _ => False
def PC_X4_speed (M : Nat → Nat → Bool) (as : List VV) (t : TT) (k : Option VV → TT → Prop) (kx : String → TT → Prop) : Prop := match as with
  | [.inr (.inl (0, o0)), .inl a1] => M 0 o0 = true ∧ P_X4_speed M (fun r t1 => k (some (.inl r)) t1) kx o0 a1 t
  | [.inr (.inr (0, x)), .inl a1] => ¬ x = -1 ∧ (M 0 x.toNatClampNeg = true ∧ P_X4_speed M (fun r t1 => k (some (.inl r)) t1) kx x.toNatClampNeg a1 t)
  | _ => False
def PC_X4_trainIs (M : Nat → Nat → Bool) (as : List VV) (t : TT) (k : Option VV → TT → Prop) (kx : String → TT → Prop) : Prop := match as with
  | [.inr (.inl (0, o0)), .inl a1, .inl a2] => M 0 o0 = true ∧ P_X4_trainIs M (fun r t1 => k (some (.inl r)) t1) kx o0 a1 a2 t
  | [.inr (.inr (0, x)), .inl a1, .inl a2] => ¬ x = -1 ∧ (M 0 x.toNatClampNeg = true ∧ P_X4_trainIs M (fun r t1 => k (some (.inl r)) t1) kx x.toNatClampNeg a1 a2 t)
  | _ => False
def PC_X4_slip (M : Nat → Nat → Bool) (as : List VV) (t : TT) (k : Option VV → TT → Prop) (kx : String → TT → Prop) : Prop := match as with
  | [.inr (.inl (0, o0)), .inl a1, .inl a2] => M 0 o0 = true ∧ P_X4_slip M (fun r t1 => k (some (.inl r)) t1) kx o0 a1 a2 t
  | [.inr (.inr (0, x)), .inl a1, .inl a2] => ¬ x = -1 ∧ (M 0 x.toNatClampNeg = true ∧ P_X4_slip M (fun r t1 => k (some (.inl r)) t1) kx x.toNatClampNeg a1 a2 t)
  | _ => False
def PC_X4_silent (M : Nat → Nat → Bool) (as : List VV) (t : TT) (k : Option VV → TT → Prop) (kx : String → TT → Prop) : Prop := match as with
  | [.inr (.inl (0, o0)), .inl a1, .inl a2] => M 0 o0 = true ∧ P_X4_silent M (fun r t1 => k (some (.inl r)) t1) kx o0 a1 a2 t
  | [.inr (.inr (0, x)), .inl a1, .inl a2] => ¬ x = -1 ∧ (M 0 x.toNatClampNeg = true ∧ P_X4_silent M (fun r t1 => k (some (.inl r)) t1) kx x.toNatClampNeg a1 a2 t)
  | _ => False
def PC_X4_emergency (M : Nat → Nat → Bool) (as : List VV) (t : TT) (k : Option VV → TT → Prop) (kx : String → TT → Prop) : Prop := match as with
  | [.inr (.inl (0, o0)), .inl a1] => M 0 o0 = true ∧ P_X4_emergency M (fun r t1 => k (some (.inl r)) t1) kx o0 a1 t
  | [.inr (.inr (0, x)), .inl a1] => ¬ x = -1 ∧ (M 0 x.toNatClampNeg = true ∧ P_X4_emergency M (fun r t1 => k (some (.inl r)) t1) kx x.toNatClampNeg a1 t)
  | _ => False
def PC_X4_countHolding (M : Nat → Nat → Bool) (as : List VV) (t : TT) (k : Option VV → TT → Prop) (kx : String → TT → Prop) : Prop := match as with
  | [.inr (.inl (0, o0))] => M 0 o0 = true ∧ P_X4_countHolding M (fun t1 => k none t1) kx o0 t
  | [.inr (.inr (0, x))] => ¬ x = -1 ∧ (M 0 x.toNatClampNeg = true ∧ P_X4_countHolding M (fun t1 => k none t1) kx x.toNatClampNeg t)
  | _ => False
def PC_X4_letPeopleBoard (M : Nat → Nat → Bool) (as : List VV) (t : TT) (k : Option VV → TT → Prop) (kx : String → TT → Prop) : Prop := match as with
  | [.inr (.inl (0, o0))] => M 0 o0 = true ∧ P_X4_letPeopleBoard M (fun t1 => k none t1) kx o0 t
  | [.inr (.inr (0, x))] => ¬ x = -1 ∧ (M 0 x.toNatClampNeg = true ∧ P_X4_letPeopleBoard M (fun t1 => k none t1) kx x.toNatClampNeg t)
  | _ => False
def PC_X4_letPeopleCome (M : Nat → Nat → Bool) (as : List VV) (t : TT) (k : Option VV → TT → Prop) (kx : String → TT → Prop) : Prop := match as with
  | [.inr (.inl (0, o0))] => M 0 o0 = true ∧ P_X4_letPeopleCome M (fun t1 => k none t1) kx o0 t
  | [.inr (.inr (0, x))] => ¬ x = -1 ∧ (M 0 x.toNatClampNeg = true ∧ P_X4_letPeopleCome M (fun t1 => k none t1) kx x.toNatClampNeg t)
  | _ => False
def PC_X4_meetsBeacon (M : Nat → Nat → Bool) (as : List VV) (t : TT) (k : Option VV → TT → Prop) (kx : String → TT → Prop) : Prop := match as with
  | [.inr (.inl (0, o0)), .inl a1, .inl a2] => M 0 o0 = true ∧ P_X4_meetsBeacon M (fun r t1 => k (some (.inl r)) t1) kx o0 a1 a2 t
  | [.inr (.inr (0, x)), .inl a1, .inl a2] => ¬ x = -1 ∧ (M 0 x.toNatClampNeg = true ∧ P_X4_meetsBeacon M (fun r t1 => k (some (.inl r)) t1) kx x.toNatClampNeg a1 a2 t)
  | _ => False
def PC_X4_move (M : Nat → Nat → Bool) (as : List VV) (t : TT) (k : Option VV → TT → Prop) (kx : String → TT → Prop) : Prop := match as with
  | [.inr (.inl (0, o0)), .inr (.inl (8, o1))] => M 0 o0 = true ∧ P_X4_move M (fun t1 => k none t1) kx o0 o1 t
  | [.inr (.inr (0, x)), .inr (.inl (8, o1))] => ¬ x = -1 ∧ (M 0 x.toNatClampNeg = true ∧ P_X4_move M (fun t1 => k none t1) kx x.toNatClampNeg o1 t)
  | _ => False
def PC_X4_takeReports (M : Nat → Nat → Bool) (as : List VV) (t : TT) (k : Option VV → TT → Prop) (kx : String → TT → Prop) : Prop := match as with
  | [.inr (.inl (0, o0))] => M 0 o0 = true ∧ P_X4_takeReports M (fun t1 => k none t1) kx o0 t
  | [.inr (.inr (0, x))] => ¬ x = -1 ∧ (M 0 x.toNatClampNeg = true ∧ P_X4_takeReports M (fun t1 => k none t1) kx x.toNatClampNeg t)
  | _ => False
def PC_X4_passOne (M : Nat → Nat → Bool) (as : List VV) (t : TT) (k : Option VV → TT → Prop) (kx : String → TT → Prop) : Prop := match as with
  | [.inr (.inl (0, o0))] => M 0 o0 = true ∧ P_X4_passOne M (fun t1 => k none t1) kx o0 t
  | [.inr (.inr (0, x))] => ¬ x = -1 ∧ (M 0 x.toNatClampNeg = true ∧ P_X4_passOne M (fun t1 => k none t1) kx x.toNatClampNeg t)
  | _ => False
def PC_X4_pass (M : Nat → Nat → Bool) (as : List VV) (t : TT) (k : Option VV → TT → Prop) (kx : String → TT → Prop) : Prop := match as with
  | [.inr (.inl (0, o0)), .inl a1] => M 0 o0 = true ∧ P_X4_pass M (fun r t1 => k (some (.inl r)) t1) kx o0 a1 t
  | [.inr (.inr (0, x)), .inl a1] => ¬ x = -1 ∧ (M 0 x.toNatClampNeg = true ∧ P_X4_pass M (fun r t1 => k (some (.inl r)) t1) kx x.toNatClampNeg a1 t)
  | _ => False
def PC_X4_stop (M : Nat → Nat → Bool) (as : List VV) (t : TT) (k : Option VV → TT → Prop) (kx : String → TT → Prop) : Prop := match as with
  | [.inr (.inl (0, o0)), .inl a1, .inl a2] => M 0 o0 = true ∧ P_X4_stop M (fun t1 => k none t1) kx o0 a1 a2 t
  | [.inr (.inr (0, x)), .inl a1, .inl a2] => ¬ x = -1 ∧ (M 0 x.toNatClampNeg = true ∧ P_X4_stop M (fun t1 => k none t1) kx x.toNatClampNeg a1 a2 t)
  | _ => False
def PC_X4_open (M : Nat → Nat → Bool) (as : List VV) (t : TT) (k : Option VV → TT → Prop) (kx : String → TT → Prop) : Prop := match as with
  | [.inr (.inl (0, o0)), .inl a1, .inl a2] => M 0 o0 = true ∧ P_X4_open M (fun r t1 => k (some (.inl r)) t1) kx o0 a1 a2 t
  | [.inr (.inr (0, x)), .inl a1, .inl a2] => ¬ x = -1 ∧ (M 0 x.toNatClampNeg = true ∧ P_X4_open M (fun r t1 => k (some (.inl r)) t1) kx x.toNatClampNeg a1 a2 t)
  | _ => False
def PC_X4_shut (M : Nat → Nat → Bool) (as : List VV) (t : TT) (k : Option VV → TT → Prop) (kx : String → TT → Prop) : Prop := match as with
  | [.inr (.inl (0, o0)), .inl a1] => M 0 o0 = true ∧ P_X4_shut M (fun t1 => k none t1) kx o0 a1 t
  | [.inr (.inr (0, x)), .inl a1] => ¬ x = -1 ∧ (M 0 x.toNatClampNeg = true ∧ P_X4_shut M (fun t1 => k none t1) kx x.toNatClampNeg a1 t)
  | _ => False
def PC_X4_hold (M : Nat → Nat → Bool) (as : List VV) (t : TT) (k : Option VV → TT → Prop) (kx : String → TT → Prop) : Prop := match as with
  | [.inr (.inl (0, o0)), .inl a1, .inl a2] => M 0 o0 = true ∧ P_X4_hold M (fun r t1 => k (some (.inl r)) t1) kx o0 a1 a2 t
  | [.inr (.inr (0, x)), .inl a1, .inl a2] => ¬ x = -1 ∧ (M 0 x.toNatClampNeg = true ∧ P_X4_hold M (fun r t1 => k (some (.inl r)) t1) kx x.toNatClampNeg a1 a2 t)
  | _ => False
def PC_X4_depart (M : Nat → Nat → Bool) (as : List VV) (t : TT) (k : Option VV → TT → Prop) (kx : String → TT → Prop) : Prop := match as with
  | [.inr (.inl (0, o0)), .inl a1] => M 0 o0 = true ∧ P_X4_depart M (fun r t1 => k (some (.inl r)) t1) kx o0 a1 t
  | [.inr (.inr (0, x)), .inl a1] => ¬ x = -1 ∧ (M 0 x.toNatClampNeg = true ∧ P_X4_depart M (fun r t1 => k (some (.inl r)) t1) kx x.toNatClampNeg a1 t)
  | _ => False
def PC_X4_rate (M : Nat → Nat → Bool) (as : List VV) (t : TT) (k : Option VV → TT → Prop) (kx : String → TT → Prop) : Prop := match as with
  | [.inr (.inl (0, o0)), .inl a1, .inl a2] => M 0 o0 = true ∧ P_X4_rate M (fun r t1 => k (some (.inl r)) t1) kx o0 a1 a2 t
  | [.inr (.inr (0, x)), .inl a1, .inl a2] => ¬ x = -1 ∧ (M 0 x.toNatClampNeg = true ∧ P_X4_rate M (fun r t1 => k (some (.inl r)) t1) kx x.toNatClampNeg a1 a2 t)
  | _ => False
def PC_X4_platformIs (M : Nat → Nat → Bool) (as : List VV) (t : TT) (k : Option VV → TT → Prop) (kx : String → TT → Prop) : Prop := match as with
  | [.inr (.inl (0, o0)), .inl a1, .inl a2] => M 0 o0 = true ∧ P_X4_platformIs M (fun r t1 => k (some (.inl r)) t1) kx o0 a1 a2 t
  | [.inr (.inr (0, x)), .inl a1, .inl a2] => ¬ x = -1 ∧ (M 0 x.toNatClampNeg = true ∧ P_X4_platformIs M (fun r t1 => k (some (.inl r)) t1) kx x.toNatClampNeg a1 a2 t)
  | _ => False
def PC_X4_placeAnew (M : Nat → Nat → Bool) (as : List VV) (t : TT) (k : Option VV → TT → Prop) (kx : String → TT → Prop) : Prop := match as with
  | [.inr (.inl (0, o0)), .inl a1] => M 0 o0 = true ∧ P_X4_placeAnew M (fun r t1 => k (some (.inl r)) t1) kx o0 a1 t
  | [.inr (.inr (0, x)), .inl a1] => ¬ x = -1 ∧ (M 0 x.toNatClampNeg = true ∧ P_X4_placeAnew M (fun r t1 => k (some (.inl r)) t1) kx x.toNatClampNeg a1 t)
  | _ => False
def PC_X4_isSafe (M : Nat → Nat → Bool) (as : List VV) (t : TT) (k : Option VV → TT → Prop) (kx : String → TT → Prop) : Prop := match as with
  | [.inr (.inl (0, o0))] => M 0 o0 = true ∧ P_X4_isSafe M (fun r t1 => k (some (.inl r)) t1) kx o0 t
  | [.inr (.inr (0, x))] => ¬ x = -1 ∧ (M 0 x.toNatClampNeg = true ∧ P_X4_isSafe M (fun r t1 => k (some (.inl r)) t1) kx x.toNatClampNeg t)
  | _ => False
def PC_X4_canBePutIn (M : Nat → Nat → Bool) (as : List VV) (t : TT) (k : Option VV → TT → Prop) (kx : String → TT → Prop) : Prop := match as with
  | [.inr (.inl (0, o0)), .inl a1] => M 0 o0 = true ∧ P_X4_canBePutIn M (fun r t1 => k (some (.inl r)) t1) kx o0 a1 t
  | [.inr (.inr (0, x)), .inl a1] => ¬ x = -1 ∧ (M 0 x.toNatClampNeg = true ∧ P_X4_canBePutIn M (fun r t1 => k (some (.inl r)) t1) kx x.toNatClampNeg a1 t)
  | _ => False
def PC_L_way (M : Nat → Nat → Bool) (as : List VV) (t : TT) (k : Option VV → TT → Prop) (kx : String → TT → Prop) : Prop := match as with
  | [.inl a0] => P_L_way M (fun r t1 => k (some (.inl r)) t1) kx a0 t
  | _ => False
def PC_L_isAt (M : Nat → Nat → Bool) (as : List VV) (t : TT) (k : Option VV → TT → Prop) (kx : String → TT → Prop) : Prop := match as with
  | [.inr (.inl (0, o0)), .inl a1] => P_L_isAt M (fun r t1 => k (some (.inl r)) t1) kx o0 a1 t
  | _ => False
def PC_L_mayStop (M : Nat → Nat → Bool) (as : List VV) (t : TT) (k : Option VV → TT → Prop) (kx : String → TT → Prop) : Prop := match as with
  | [.inr (.inl (0, o0)), .inl a1, .inl a2] => P_L_mayStop M (fun r t1 => k (some (.inl r)) t1) kx o0 a1 a2 t
  | _ => False
def PC_L_mayClose (M : Nat → Nat → Bool) (as : List VV) (t : TT) (k : Option VV → TT → Prop) (kx : String → TT → Prop) : Prop := match as with
  | [.inr (.inl (0, o0)), .inl a1, .inl a2] => P_L_mayClose M (fun r t1 => k (some (.inl r)) t1) kx o0 a1 a2 t
  | _ => False
def PC_L_isSafe (M : Nat → Nat → Bool) (as : List VV) (t : TT) (k : Option VV → TT → Prop) (kx : String → TT → Prop) : Prop := match as with
  | [.inr (.inl (0, o0))] => P_L_isSafe M (fun r t1 => k (some (.inl r)) t1) kx o0 t
  | _ => False
def PC_L_doors (M : Nat → Nat → Bool) (as : List VV) (t : TT) (k : Option VV → TT → Prop) (kx : String → TT → Prop) : Prop := match as with
  | [.inr (.inl (0, o0)), .inl a1, .inl a2] => P_L_doors M (fun t1 => k none t1) kx o0 a1 a2 t
  | _ => False
end
section
/-! printed (wip/p26/gen26.py): contracts -/
section K
variable {p : Program} {l : Launch} {e : Env} {R : Room} {s : State} {m : MethodId} {args : Array Value} {below : List Frame} {meth : Method} {c : Code} {Q : State → Prop} {D : va_G} {X : Nat → ClassId} {ad : Nat → Nat → Nat} {A : Nat → Prop} {M : Nat → Nat → Bool} {nL : Nat} {b : ByteArray} {mc ms : Nat} {k : Option VV → TT → Prop} {kx : String → TT → Prop} {t : TT} {as : List VV}
def Q_X1_tell (M : Nat → Nat → Bool) (ix : Nat) (as : List VV) (t : TT) (k : Option VV → TT → Prop) (kx : String → TT → Prop) : Prop := False
def N_X1_tell (v : Bool) (ix : Nat) : Option (Nat × Nat × Nat) := none
def S_X1_tell (pc : Nat) : Option (List (Nat × Nat × Nat) × List (Nat × Nat) × Nat × Nat) := none
def H_X1_tell (pc : Nat) : Option String := none
set_option maxRecDepth 100000 in
set_option maxHeartbeats 4000000 in
theorem c_X1_tell {l : Launch} (hst9 : l.stackTraces = false) {D : va_G} {X : Nat → ClassId} {ad : Nat → Nat → Nat} {M : Nat → Nat → Bool} {post : Option VV → TT → Prop} {px : String → TT → Prop} (o0 : Nat) (a1 : Int32) (t : TT) (h : P_X1_tell M (fun r t1 => post (some (.inl r)) t1) px o0 a1 t) : CT l yX1_tell (Cond.code yX1_tell cX1_tell 2 (some .int) :: LT) ({ frames := 0, cells := 0, slots := 0, locals := 0 } : Room) D X ad M [.inr (.inl (5, o0)), .inl a1] t 0 0 post px := by
  refine met_of_wp (by decide +kernel) (Nat.le_of_ble_eq_true rfl) ?_
  intro p e s m args below meth c A hx hb hml hts hown hK hnt hlocks hr hA hE
  have hR9 : Ready p l e ({ frames := 0, cells := 0, slots := 0, locals := 0 } : Room) s m args below meth c D X ad A M 2 cX1_tell 0 0 post px RX1 1 (fldOf F_X1) N_X1_tell (Q_X1_tell M) (tabOf T_X1_tell) H_X1_tell := by
    refine ⟨hx, hb, hts, hown, hK, hnt, hlocks, hr, F_X1_ok, ?_, fun pc en h => tabOf_ok T_X1_tell_ok h, ?_⟩
    · intro v9 ix n mc1 ms1 as t k hn hl h
      unfold N_X1_tell at hn
      cases hn
    · intro pc E hE9; cases hE9
  refine wp_go hR9 (cs := S_X1_tell) (Bk := (fun _ _ _ _ => False)) ?_ 400 0 _ _ _ _ _ h
  intro pc q vs ws t hc hk
  exact hk.elim
theorem k_X1_tell (hx : p.tables.exec = Jvm.exec) (hb : c.code = b) (hml : c.maxLocals = nL) (hts : ∀ w ∈ LT, w.before args s = true) {own : String} (hown : s.vm.findClass own = some m.cls) (hK : va_K D vwCl (TYX X) s) (hA : ∀ q, s.heap.size ≤ q → A q) (hE : EX A s) (hst9 : l.stackTraces = false) {ix : Nat} (hl9 : Cond.methodLink own ix yX1_tell ∈ LT) (hR : 1 ≤ R.frames ∧ 21 ≤ R.locals) (hmc : R.cells = mc) (hms : R.slots = ms) (h : PC_X1_tell M as t k kx) : CallOK p l e R s m args below meth c Q D X ad A M nL b mc ms (.invokevirtual ix) 0 0 as t k kx := by
  unfold PC_X1_tell at h
  split at h
  · exact call_V hx hb hml hts hown hK hA hE (c_X1_tell hst9 _ _ t h.2) ⟨hl9, ws_X1_tell.1, ws_X1_tell.2.1, ws_X1_tell.2.2.1, ws_X1_tell.2.2.2⟩ (n := 1) (by decide +kernel) hR rfl rfl hmc hms rfl ⟨5, _, rfl, h.1, Or.inr (Or.inl rfl), rfl⟩
  · exact CallOK.congr (by simp only [List.map_cons]; congr 1; exact (if_neg h.1).symm) (call_V hx hb hml hts hown hK hA hE (c_X1_tell hst9 _ _ t h.2.2) ⟨hl9, ws_X1_tell.1, ws_X1_tell.2.1, ws_X1_tell.2.2.1, ws_X1_tell.2.2.2⟩ (n := 1) (by decide +kernel) hR rfl rfl hmc hms rfl ⟨5, _, rfl, h.2.1, Or.inr (Or.inl rfl), rfl⟩)
  · exact h.elim
def Q_X1_countDeparture (M : Nat → Nat → Bool) (ix : Nat) (as : List VV) (t : TT) (k : Option VV → TT → Prop) (kx : String → TT → Prop) : Prop := False
def N_X1_countDeparture (v : Bool) (ix : Nat) : Option (Nat × Nat × Nat) := none
def S_X1_countDeparture (pc : Nat) : Option (List (Nat × Nat × Nat) × List (Nat × Nat) × Nat × Nat) := match pc with
  | 17 => some ([(0, 1, 5), (1, 0, 0)], [], 0, 0)
  | _ => none
def H_X1_countDeparture (pc : Nat) : Option String := none
set_option maxRecDepth 100000 in
set_option maxHeartbeats 4000000 in
theorem c_X1_countDeparture {l : Launch} (hst9 : l.stackTraces = false) {D : va_G} {X : Nat → ClassId} {ad : Nat → Nat → Nat} {M : Nat → Nat → Bool} {post : Option VV → TT → Prop} {px : String → TT → Prop} (o0 : Nat) (a1 : Int32) (t : TT) (h : P_X1_countDeparture M (fun t1 => post none t1) px o0 a1 t) : CT l yX1_countDeparture (Cond.code yX1_countDeparture cX1_countDeparture 2 none :: LT) ({ frames := 0, cells := 0, slots := 0, locals := 0 } : Room) D X ad M [.inr (.inl (5, o0)), .inl a1] t 0 0 post px := by
  refine met_of_wp (by decide +kernel) (Nat.le_of_ble_eq_true rfl) ?_
  intro p e s m args below meth c A hx hb hml hts hown hK hnt hlocks hr hA hE
  have hR9 : Ready p l e ({ frames := 0, cells := 0, slots := 0, locals := 0 } : Room) s m args below meth c D X ad A M 2 cX1_countDeparture 0 0 post px RX1 0 (fldOf F_X1) N_X1_countDeparture (Q_X1_countDeparture M) (tabOf T_X1_countDeparture) H_X1_countDeparture := by
    refine ⟨hx, hb, hts, hown, hK, hnt, hlocks, hr, F_X1_ok, ?_, fun pc en h => tabOf_ok T_X1_countDeparture_ok h, ?_⟩
    · intro v9 ix n mc1 ms1 as t k hn hl h
      unfold N_X1_countDeparture at hn
      cases hn
    · intro pc E hE9; cases hE9
  have W17 : ∀ (o0 : Nat) (a1 : Int32) (t : TT), B_X1_countDeparture_17 M (fun t1 => post none t1) px o0 a1 t → Wat p l e ({ frames := 0, cells := 0, slots := 0, locals := 0 } : Room) s m args below meth c (QM below args s D X ad A M 0 0 post px) D X ad A M 2 17 [(0, .inr (.inl (5, o0))), (1, .inl a1)] [] t 0 0 := by
    intro o0 a1 t h
    refine wp_go hR9 (cs := S_X1_countDeparture) (Bk := (fun _ _ _ _ => False)) ?_ 400 17 _ _ _ _ _ h
    intro pc q vs ws t hc hk
    exact hk.elim
  refine wp_go hR9 (cs := S_X1_countDeparture) (Bk := (fun pc vs ws t => match pc with | 17 => (match vs, ws with | [.inr (.inl (5, o0)), .inl a1], [] => B_X1_countDeparture_17 M (fun t1 => post none t1) px o0 a1 t | _, _ => False) | _ => False)) ?_ 400 0 _ _ _ _ _ h
  intro pc q vs ws t hc hk
  split at hk
  · cases hc
    split at hk
    · exact W17 _ _ _ hk
    · exact hk.elim
  · exact hk.elim
theorem k_X1_countDeparture (hx : p.tables.exec = Jvm.exec) (hb : c.code = b) (hml : c.maxLocals = nL) (hts : ∀ w ∈ LT, w.before args s = true) {own : String} (hown : s.vm.findClass own = some m.cls) (hK : va_K D vwCl (TYX X) s) (hA : ∀ q, s.heap.size ≤ q → A q) (hE : EX A s) (hst9 : l.stackTraces = false) {ix : Nat} (hl9 : Cond.methodLink own ix yX1_countDeparture ∈ LT) (hR : 1 ≤ R.frames ∧ 21 ≤ R.locals) (hmc : R.cells = mc) (hms : R.slots = ms) (h : PC_X1_countDeparture M as t k kx) : CallOK p l e R s m args below meth c Q D X ad A M nL b mc ms (.invokevirtual ix) 0 0 as t k kx := by
  unfold PC_X1_countDeparture at h
  split at h
  · exact call_V hx hb hml hts hown hK hA hE (c_X1_countDeparture hst9 _ _ t h.2) ⟨hl9, ws_X1_countDeparture.1, ws_X1_countDeparture.2.1, ws_X1_countDeparture.2.2.1, ws_X1_countDeparture.2.2.2⟩ (n := 1) (by decide +kernel) hR rfl rfl hmc hms rfl ⟨5, _, rfl, h.1, Or.inr (Or.inl rfl), rfl⟩
  · exact CallOK.congr (by simp only [List.map_cons]; congr 1; exact (if_neg h.1).symm) (call_V hx hb hml hts hown hK hA hE (c_X1_countDeparture hst9 _ _ t h.2.2) ⟨hl9, ws_X1_countDeparture.1, ws_X1_countDeparture.2.1, ws_X1_countDeparture.2.2.1, ws_X1_countDeparture.2.2.2⟩ (n := 1) (by decide +kernel) hR rfl rfl hmc hms rfl ⟨5, _, rfl, h.2.1, Or.inr (Or.inl rfl), rfl⟩)
  · exact h.elim
def Q_X2_tell (M : Nat → Nat → Bool) (ix : Nat) (as : List VV) (t : TT) (k : Option VV → TT → Prop) (kx : String → TT → Prop) : Prop := False
def N_X2_tell (v : Bool) (ix : Nat) : Option (Nat × Nat × Nat) := none
def S_X2_tell (pc : Nat) : Option (List (Nat × Nat × Nat) × List (Nat × Nat) × Nat × Nat) := match pc with
  | 93 => some ([], [(0, 0)], 0, 0)
  | 106 => some ([], [(0, 0)], 0, 0)
  | 125 => some ([], [(0, 0)], 0, 0)
  | _ => none
def H_X2_tell (pc : Nat) : Option String := none
set_option maxRecDepth 100000 in
set_option maxHeartbeats 4000000 in
theorem c_X2_tell {l : Launch} (hst9 : l.stackTraces = false) {D : va_G} {X : Nat → ClassId} {ad : Nat → Nat → Nat} {M : Nat → Nat → Bool} {post : Option VV → TT → Prop} {px : String → TT → Prop} (o0 : Nat) (a1 : Int32) (t : TT) (h : P_X2_tell M (fun r t1 => post (some (.inl r)) t1) px o0 a1 t) : CT l yX2_tell (Cond.code yX2_tell cX2_tell 2 (some .int) :: LT) ({ frames := 0, cells := 0, slots := 0, locals := 0 } : Room) D X ad M [.inr (.inl (8, o0)), .inl a1] t 0 0 post px := by
  refine met_of_wp (by decide +kernel) (Nat.le_of_ble_eq_true rfl) ?_
  intro p e s m args below meth c A hx hb hml hts hown hK hnt hlocks hr hA hE
  have hR9 : Ready p l e ({ frames := 0, cells := 0, slots := 0, locals := 0 } : Room) s m args below meth c D X ad A M 2 cX2_tell 0 0 post px RX2 1 (fldOf F_X2) N_X2_tell (Q_X2_tell M) (tabOf T_X2_tell) H_X2_tell := by
    refine ⟨hx, hb, hts, hown, hK, hnt, hlocks, hr, F_X2_ok, ?_, fun pc en h => tabOf_ok T_X2_tell_ok h, ?_⟩
    · intro v9 ix n mc1 ms1 as t k hn hl h
      unfold N_X2_tell at hn
      cases hn
    · intro pc E hE9; cases hE9
  have W93 : ∀ (s0 : Int32) (t : TT), B_X2_tell_93 M (fun r t1 => post (some (.inl r)) t1) px s0 t → Wat p l e ({ frames := 0, cells := 0, slots := 0, locals := 0 } : Room) s m args below meth c (QM below args s D X ad A M 0 0 post px) D X ad A M 2 93 [] [.inl s0] t 0 0 := by
    intro s0 t h
    refine wp_go hR9 (cs := S_X2_tell) (Bk := (fun _ _ _ _ => False)) ?_ 400 93 _ _ _ _ _ h
    intro pc q vs ws t hc hk
    exact hk.elim
  have W106 : ∀ (s0 : Int32) (t : TT), B_X2_tell_106 M (fun r t1 => post (some (.inl r)) t1) px s0 t → Wat p l e ({ frames := 0, cells := 0, slots := 0, locals := 0 } : Room) s m args below meth c (QM below args s D X ad A M 0 0 post px) D X ad A M 2 106 [] [.inl s0] t 0 0 := by
    intro s0 t h
    refine wp_go hR9 (cs := S_X2_tell) (Bk := (fun _ _ _ _ => False)) ?_ 400 106 _ _ _ _ _ h
    intro pc q vs ws t hc hk
    exact hk.elim
  have W125 : ∀ (s0 : Int32) (t : TT), B_X2_tell_125 M (fun r t1 => post (some (.inl r)) t1) px s0 t → Wat p l e ({ frames := 0, cells := 0, slots := 0, locals := 0 } : Room) s m args below meth c (QM below args s D X ad A M 0 0 post px) D X ad A M 2 125 [] [.inl s0] t 0 0 := by
    intro s0 t h
    refine wp_go hR9 (cs := S_X2_tell) (Bk := (fun _ _ _ _ => False)) ?_ 400 125 _ _ _ _ _ h
    intro pc q vs ws t hc hk
    exact hk.elim
  refine wp_go hR9 (cs := S_X2_tell) (Bk := (fun pc vs ws t => match pc with | 93 => (match vs, ws with | [], [.inl s0] => B_X2_tell_93 M (fun r t1 => post (some (.inl r)) t1) px s0 t | _, _ => False) | 106 => (match vs, ws with | [], [.inl s0] => B_X2_tell_106 M (fun r t1 => post (some (.inl r)) t1) px s0 t | _, _ => False) | 125 => (match vs, ws with | [], [.inl s0] => B_X2_tell_125 M (fun r t1 => post (some (.inl r)) t1) px s0 t | _, _ => False) | _ => False)) ?_ 400 0 _ _ _ _ _ h
  intro pc q vs ws t hc hk
  split at hk
  · cases hc
    split at hk
    · exact W93 _ _ hk
    · exact hk.elim
  · cases hc
    split at hk
    · exact W106 _ _ hk
    · exact hk.elim
  · cases hc
    split at hk
    · exact W125 _ _ hk
    · exact hk.elim
  · exact hk.elim
theorem k_X2_tell (hx : p.tables.exec = Jvm.exec) (hb : c.code = b) (hml : c.maxLocals = nL) (hts : ∀ w ∈ LT, w.before args s = true) {own : String} (hown : s.vm.findClass own = some m.cls) (hK : va_K D vwCl (TYX X) s) (hA : ∀ q, s.heap.size ≤ q → A q) (hE : EX A s) (hst9 : l.stackTraces = false) {ix : Nat} (hl9 : Cond.methodLink own ix yX2_tell ∈ LT) (hR : 1 ≤ R.frames ∧ 21 ≤ R.locals) (hmc : R.cells = mc) (hms : R.slots = ms) (h : PC_X2_tell M as t k kx) : CallOK p l e R s m args below meth c Q D X ad A M nL b mc ms (.invokevirtual ix) 0 0 as t k kx := by
  unfold PC_X2_tell at h
  split at h
  · exact call_V hx hb hml hts hown hK hA hE (c_X2_tell hst9 _ _ t h.2) ⟨hl9, ws_X2_tell.1, ws_X2_tell.2.1, ws_X2_tell.2.2.1, ws_X2_tell.2.2.2⟩ (n := 1) (by decide +kernel) hR rfl rfl hmc hms rfl ⟨8, _, rfl, h.1, Or.inr (Or.inr (Or.inr (Or.inr rfl))), rfl⟩
  · exact CallOK.congr (by simp only [List.map_cons]; congr 1; exact (if_neg h.1).symm) (call_V hx hb hml hts hown hK hA hE (c_X2_tell hst9 _ _ t h.2.2) ⟨hl9, ws_X2_tell.1, ws_X2_tell.2.1, ws_X2_tell.2.2.1, ws_X2_tell.2.2.2⟩ (n := 1) (by decide +kernel) hR rfl rfl hmc hms rfl ⟨8, _, rfl, h.2.1, Or.inr (Or.inr (Or.inr (Or.inr rfl))), rfl⟩)
  · exact h.elim
def Q_X2_wayToStop (M : Nat → Nat → Bool) (ix : Nat) (as : List VV) (t : TT) (k : Option VV → TT → Prop) (kx : String → TT → Prop) : Prop := False
def N_X2_wayToStop (v : Bool) (ix : Nat) : Option (Nat × Nat × Nat) := none
def S_X2_wayToStop (pc : Nat) : Option (List (Nat × Nat × Nat) × List (Nat × Nat) × Nat × Nat) := none
def H_X2_wayToStop (pc : Nat) : Option String := none
set_option maxRecDepth 100000 in
set_option maxHeartbeats 4000000 in
theorem c_X2_wayToStop {l : Launch} (hst9 : l.stackTraces = false) {D : va_G} {X : Nat → ClassId} {ad : Nat → Nat → Nat} {M : Nat → Nat → Bool} {post : Option VV → TT → Prop} {px : String → TT → Prop} (a0 : Int32) (t : TT) (h : P_X2_wayToStop M (fun r t1 => post (some (.inl r)) t1) px a0 t) : CT l yX2_wayToStop (Cond.code yX2_wayToStop cX2_wayToStop 1 (some .int) :: LT) ({ frames := 0, cells := 0, slots := 0, locals := 0 } : Room) D X ad M [.inl a0] t 0 0 post px := by
  refine met_of_wp (by decide +kernel) (Nat.le_of_ble_eq_true rfl) ?_
  intro p e s m args below meth c A hx hb hml hts hown hK hnt hlocks hr hA hE
  have hR9 : Ready p l e ({ frames := 0, cells := 0, slots := 0, locals := 0 } : Room) s m args below meth c D X ad A M 1 cX2_wayToStop 0 0 post px RX2 1 (fldOf F_X2) N_X2_wayToStop (Q_X2_wayToStop M) (tabOf T_X2_wayToStop) H_X2_wayToStop := by
    refine ⟨hx, hb, hts, hown, hK, hnt, hlocks, hr, F_X2_ok, ?_, fun pc en h => tabOf_ok T_X2_wayToStop_ok h, ?_⟩
    · intro v9 ix n mc1 ms1 as t k hn hl h
      unfold N_X2_wayToStop at hn
      cases hn
    · intro pc E hE9; cases hE9
  refine wp_go hR9 (cs := S_X2_wayToStop) (Bk := (fun _ _ _ _ => False)) ?_ 400 0 _ _ _ _ _ h
  intro pc q vs ws t hc hk
  exact hk.elim
theorem k_X2_wayToStop (hx : p.tables.exec = Jvm.exec) (hb : c.code = b) (hml : c.maxLocals = nL) (hts : ∀ w ∈ LT, w.before args s = true) {own : String} (hown : s.vm.findClass own = some m.cls) (hK : va_K D vwCl (TYX X) s) (hA : ∀ q, s.heap.size ≤ q → A q) (hE : EX A s) (hst9 : l.stackTraces = false) {ix : Nat} (hl9 : Cond.methodLink own ix yX2_wayToStop ∈ LT) (hR : 1 ≤ R.frames ∧ 20 ≤ R.locals) (hmc : R.cells = mc) (hms : R.slots = ms) (h : PC_X2_wayToStop M as t k kx) : CallOK p l e R s m args below meth c Q D X ad A M nL b mc ms (.invokestatic ix) 0 0 as t k kx := by
  unfold PC_X2_wayToStop at h
  split at h
  · exact call_S hx hb hml hts hown hK hA hE (c_X2_wayToStop hst9 _ t h) ⟨hl9, ws_X2_wayToStop.1, ws_X2_wayToStop.2.1, ws_X2_wayToStop.2.2⟩ (n := 1) (by decide +kernel) hR rfl rfl hmc hms rfl
  · exact h.elim
def Q_X2_keeps (M : Nat → Nat → Bool) (ix : Nat) (as : List VV) (t : TT) (k : Option VV → TT → Prop) (kx : String → TT → Prop) : Prop := match ix with
  | 68 => PC_X2_wayToStop M as t k kx
  | _ => False
def N_X2_keeps (v : Bool) (ix : Nat) : Option (Nat × Nat × Nat) := match v, ix with
  | false, 68 => some (1, 0, 0)
  | _, _ => none
def S_X2_keeps (pc : Nat) : Option (List (Nat × Nat × Nat) × List (Nat × Nat) × Nat × Nat) := match pc with
  | 37 => some ([], [(0, 0)], 0, 0)
  | 26 => some ([(1, 0, 0)], [(0, 0)], 0, 0)
  | _ => none
def H_X2_keeps (pc : Nat) : Option String := none
set_option maxRecDepth 100000 in
set_option maxHeartbeats 4000000 in
theorem c_X2_keeps {l : Launch} (hst9 : l.stackTraces = false) {D : va_G} {X : Nat → ClassId} {ad : Nat → Nat → Nat} {M : Nat → Nat → Bool} {post : Option VV → TT → Prop} {px : String → TT → Prop} (o0 : Nat) (a1 : Int32) (t : TT) (h : P_X2_keeps M (fun r t1 => post (some (.inl r)) t1) px o0 a1 t) : CT l yX2_keeps (Cond.code yX2_keeps cX2_keeps 3 (some .boolean) :: LT) ({ frames := 1, cells := 0, slots := 0, locals := 20 } : Room) D X ad M [.inr (.inl (8, o0)), .inl a1] t 0 0 post px := by
  refine met_of_wp (by decide +kernel) (Nat.le_of_ble_eq_true rfl) ?_
  intro p e s m args below meth c A hx hb hml hts hown hK hnt hlocks hr hA hE
  have hR9 : Ready p l e ({ frames := 1, cells := 0, slots := 0, locals := 20 } : Room) s m args below meth c D X ad A M 3 cX2_keeps 0 0 post px RX2 2 (fldOf F_X2) N_X2_keeps (Q_X2_keeps M) (tabOf T_X2_keeps) H_X2_keeps := by
    refine ⟨hx, hb, hts, hown, hK, hnt, hlocks, hr, F_X2_ok, ?_, fun pc en h => tabOf_ok T_X2_keeps_ok h, ?_⟩
    · intro v9 ix n mc1 ms1 as t k hn hl h
      unfold N_X2_keeps at hn
      split at hn
      · cases hn
        exact k_X2_wayToStop hx hb hml hts hown hK hA hE hst9 (by decide +kernel) ⟨Nat.le_of_ble_eq_true rfl, Nat.le_of_ble_eq_true rfl⟩ rfl rfl h
      · cases hn
    · intro pc E hE9; cases hE9
  have W37 : ∀ (s0 : Int32) (t : TT), B_X2_keeps_37 M (fun r t1 => post (some (.inl r)) t1) px s0 t → Wat p l e ({ frames := 1, cells := 0, slots := 0, locals := 20 } : Room) s m args below meth c (QM below args s D X ad A M 0 0 post px) D X ad A M 3 37 [] [.inl s0] t 0 0 := by
    intro s0 t h
    refine wp_go hR9 (cs := S_X2_keeps) (Bk := (fun _ _ _ _ => False)) ?_ 400 37 _ _ _ _ _ h
    intro pc q vs ws t hc hk
    exact hk.elim
  have W26 : ∀ (a1 : Int32) (s0 : Int32) (t : TT), B_X2_keeps_26 M (fun r t1 => post (some (.inl r)) t1) px a1 s0 t → Wat p l e ({ frames := 1, cells := 0, slots := 0, locals := 20 } : Room) s m args below meth c (QM below args s D X ad A M 0 0 post px) D X ad A M 3 26 [(1, .inl a1)] [.inl s0] t 0 0 := by
    intro a1 s0 t h
    refine wp_go hR9 (cs := S_X2_keeps) (Bk := (fun pc vs ws t => match pc with | 37 => (match vs, ws with | [], [.inl s0] => B_X2_keeps_37 M (fun r t1 => post (some (.inl r)) t1) px s0 t | _, _ => False) | _ => False)) ?_ 400 26 _ _ _ _ _ h
    intro pc q vs ws t hc hk
    split at hk
    · cases hc
      split at hk
      · exact W37 _ _ hk
      · exact hk.elim
    · exact hk.elim
  refine wp_go hR9 (cs := S_X2_keeps) (Bk := (fun pc vs ws t => match pc with | 26 => (match vs, ws with | [.inl a1], [.inl s0] => B_X2_keeps_26 M (fun r t1 => post (some (.inl r)) t1) px a1 s0 t | _, _ => False) | _ => False)) ?_ 400 0 _ _ _ _ _ h
  intro pc q vs ws t hc hk
  split at hk
  · cases hc
    split at hk
    · exact W26 _ _ _ hk
    · exact hk.elim
  · exact hk.elim
theorem k_X2_keeps (hx : p.tables.exec = Jvm.exec) (hb : c.code = b) (hml : c.maxLocals = nL) (hts : ∀ w ∈ LT, w.before args s = true) {own : String} (hown : s.vm.findClass own = some m.cls) (hK : va_K D vwCl (TYX X) s) (hA : ∀ q, s.heap.size ≤ q → A q) (hE : EX A s) (hst9 : l.stackTraces = false) {ix : Nat} (hl9 : Cond.methodLink own ix yX2_keeps ∈ LT) (hR : 2 ≤ R.frames ∧ 42 ≤ R.locals) (hmc : R.cells = mc) (hms : R.slots = ms) (h : PC_X2_keeps M as t k kx) : CallOK p l e R s m args below meth c Q D X ad A M nL b mc ms (.invokevirtual ix) 0 0 as t k kx := by
  unfold PC_X2_keeps at h
  split at h
  · exact call_V hx hb hml hts hown hK hA hE (c_X2_keeps hst9 _ _ t h.2) ⟨hl9, ws_X2_keeps.1, ws_X2_keeps.2.1, ws_X2_keeps.2.2.1, ws_X2_keeps.2.2.2⟩ (n := 1) (by decide +kernel) hR rfl rfl hmc hms rfl ⟨8, _, rfl, h.1, Or.inr (Or.inr (Or.inr (Or.inr rfl))), rfl⟩
  · exact CallOK.congr (by simp only [List.map_cons]; congr 1; exact (if_neg h.1).symm) (call_V hx hb hml hts hown hK hA hE (c_X2_keeps hst9 _ _ t h.2.2) ⟨hl9, ws_X2_keeps.1, ws_X2_keeps.2.1, ws_X2_keeps.2.2.1, ws_X2_keeps.2.2.2⟩ (n := 1) (by decide +kernel) hR rfl rfl hmc hms rfl ⟨8, _, rfl, h.2.1, Or.inr (Or.inr (Or.inr (Or.inr rfl))), rfl⟩)
  · exact h.elim
def Q_X2_mayCover (M : Nat → Nat → Bool) (ix : Nat) (as : List VV) (t : TT) (k : Option VV → TT → Prop) (kx : String → TT → Prop) : Prop := False
def N_X2_mayCover (v : Bool) (ix : Nat) : Option (Nat × Nat × Nat) := none
def S_X2_mayCover (pc : Nat) : Option (List (Nat × Nat × Nat) × List (Nat × Nat) × Nat × Nat) := match pc with
  | 24 => some ([], [(0, 0)], 0, 0)
  | 23 => some ([], [], 0, 0)
  | _ => none
def H_X2_mayCover (pc : Nat) : Option String := none
set_option maxRecDepth 100000 in
set_option maxHeartbeats 4000000 in
theorem c_X2_mayCover {l : Launch} (hst9 : l.stackTraces = false) {D : va_G} {X : Nat → ClassId} {ad : Nat → Nat → Nat} {M : Nat → Nat → Bool} {post : Option VV → TT → Prop} {px : String → TT → Prop} (o0 : Nat) (a1 : Int32) (a2 : Int32) (t : TT) (h : P_X2_mayCover M (fun r t1 => post (some (.inl r)) t1) px o0 a1 a2 t) : CT l yX2_mayCover (Cond.code yX2_mayCover cX2_mayCover 3 (some .boolean) :: LT) ({ frames := 0, cells := 0, slots := 0, locals := 0 } : Room) D X ad M [.inr (.inl (8, o0)), .inl a1, .inl a2] t 0 0 post px := by
  refine met_of_wp (by decide +kernel) (Nat.le_of_ble_eq_true rfl) ?_
  intro p e s m args below meth c A hx hb hml hts hown hK hnt hlocks hr hA hE
  have hR9 : Ready p l e ({ frames := 0, cells := 0, slots := 0, locals := 0 } : Room) s m args below meth c D X ad A M 3 cX2_mayCover 0 0 post px RX2 2 (fldOf F_X2) N_X2_mayCover (Q_X2_mayCover M) (tabOf T_X2_mayCover) H_X2_mayCover := by
    refine ⟨hx, hb, hts, hown, hK, hnt, hlocks, hr, F_X2_ok, ?_, fun pc en h => tabOf_ok T_X2_mayCover_ok h, ?_⟩
    · intro v9 ix n mc1 ms1 as t k hn hl h
      unfold N_X2_mayCover at hn
      cases hn
    · intro pc E hE9; cases hE9
  have W24 : ∀ (s0 : Int32) (t : TT), B_X2_mayCover_24 M (fun r t1 => post (some (.inl r)) t1) px s0 t → Wat p l e ({ frames := 0, cells := 0, slots := 0, locals := 0 } : Room) s m args below meth c (QM below args s D X ad A M 0 0 post px) D X ad A M 3 24 [] [.inl s0] t 0 0 := by
    intro s0 t h
    refine wp_go hR9 (cs := S_X2_mayCover) (Bk := (fun _ _ _ _ => False)) ?_ 400 24 _ _ _ _ _ h
    intro pc q vs ws t hc hk
    exact hk.elim
  have W23 : ∀ (t : TT), B_X2_mayCover_23 M (fun r t1 => post (some (.inl r)) t1) px t → Wat p l e ({ frames := 0, cells := 0, slots := 0, locals := 0 } : Room) s m args below meth c (QM below args s D X ad A M 0 0 post px) D X ad A M 3 23 [] [] t 0 0 := by
    intro t h
    refine wp_go hR9 (cs := S_X2_mayCover) (Bk := (fun pc vs ws t => match pc with | 24 => (match vs, ws with | [], [.inl s0] => B_X2_mayCover_24 M (fun r t1 => post (some (.inl r)) t1) px s0 t | _, _ => False) | _ => False)) ?_ 400 23 _ _ _ _ _ h
    intro pc q vs ws t hc hk
    split at hk
    · cases hc
      split at hk
      · exact W24 _ _ hk
      · exact hk.elim
    · exact hk.elim
  refine wp_go hR9 (cs := S_X2_mayCover) (Bk := (fun pc vs ws t => match pc with | 23 => (match vs, ws with | [], [] => B_X2_mayCover_23 M (fun r t1 => post (some (.inl r)) t1) px t | _, _ => False) | 24 => (match vs, ws with | [], [.inl s0] => B_X2_mayCover_24 M (fun r t1 => post (some (.inl r)) t1) px s0 t | _, _ => False) | _ => False)) ?_ 400 0 _ _ _ _ _ h
  intro pc q vs ws t hc hk
  split at hk
  · cases hc
    split at hk
    · exact W23 _ hk
    · exact hk.elim
  · cases hc
    split at hk
    · exact W24 _ _ hk
    · exact hk.elim
  · exact hk.elim
theorem k_X2_mayCover (hx : p.tables.exec = Jvm.exec) (hb : c.code = b) (hml : c.maxLocals = nL) (hts : ∀ w ∈ LT, w.before args s = true) {own : String} (hown : s.vm.findClass own = some m.cls) (hK : va_K D vwCl (TYX X) s) (hA : ∀ q, s.heap.size ≤ q → A q) (hE : EX A s) (hst9 : l.stackTraces = false) {ix : Nat} (hl9 : Cond.methodLink own ix yX2_mayCover ∈ LT) (hR : 1 ≤ R.frames ∧ 22 ≤ R.locals) (hmc : R.cells = mc) (hms : R.slots = ms) (h : PC_X2_mayCover M as t k kx) : CallOK p l e R s m args below meth c Q D X ad A M nL b mc ms (.invokevirtual ix) 0 0 as t k kx := by
  unfold PC_X2_mayCover at h
  split at h
  · exact call_V hx hb hml hts hown hK hA hE (c_X2_mayCover hst9 _ _ _ t h.2) ⟨hl9, ws_X2_mayCover.1, ws_X2_mayCover.2.1, ws_X2_mayCover.2.2.1, ws_X2_mayCover.2.2.2⟩ (n := 2) (by decide +kernel) hR rfl rfl hmc hms rfl ⟨8, _, rfl, h.1, Or.inr (Or.inr (Or.inr (Or.inr rfl))), rfl⟩
  · exact CallOK.congr (by simp only [List.map_cons]; congr 1; exact (if_neg h.1).symm) (call_V hx hb hml hts hown hK hA hE (c_X2_mayCover hst9 _ _ _ t h.2.2) ⟨hl9, ws_X2_mayCover.1, ws_X2_mayCover.2.1, ws_X2_mayCover.2.2.1, ws_X2_mayCover.2.2.2⟩ (n := 2) (by decide +kernel) hR rfl rfl hmc hms rfl ⟨8, _, rfl, h.2.1, Or.inr (Or.inr (Or.inr (Or.inr rfl))), rfl⟩)
  · exact h.elim
def Q_X2_isInItsBounds (M : Nat → Nat → Bool) (ix : Nat) (as : List VV) (t : TT) (k : Option VV → TT → Prop) (kx : String → TT → Prop) : Prop := False
def N_X2_isInItsBounds (v : Bool) (ix : Nat) : Option (Nat × Nat × Nat) := none
def S_X2_isInItsBounds (pc : Nat) : Option (List (Nat × Nat × Nat) × List (Nat × Nat) × Nat × Nat) := match pc with
  | 38 => some ([], [(0, 0)], 0, 0)
  | 37 => some ([], [], 0, 0)
  | _ => none
def H_X2_isInItsBounds (pc : Nat) : Option String := none
set_option maxRecDepth 100000 in
set_option maxHeartbeats 4000000 in
theorem c_X2_isInItsBounds {l : Launch} (hst9 : l.stackTraces = false) {D : va_G} {X : Nat → ClassId} {ad : Nat → Nat → Nat} {M : Nat → Nat → Bool} {post : Option VV → TT → Prop} {px : String → TT → Prop} (o0 : Nat) (t : TT) (h : P_X2_isInItsBounds M (fun r t1 => post (some (.inl r)) t1) px o0 t) : CT l yX2_isInItsBounds (Cond.code yX2_isInItsBounds cX2_isInItsBounds 1 (some .boolean) :: LT) ({ frames := 0, cells := 0, slots := 0, locals := 0 } : Room) D X ad M [.inr (.inl (8, o0))] t 0 0 post px := by
  refine met_of_wp (by decide +kernel) (Nat.le_of_ble_eq_true rfl) ?_
  intro p e s m args below meth c A hx hb hml hts hown hK hnt hlocks hr hA hE
  have hR9 : Ready p l e ({ frames := 0, cells := 0, slots := 0, locals := 0 } : Room) s m args below meth c D X ad A M 1 cX2_isInItsBounds 0 0 post px RX2 2 (fldOf F_X2) N_X2_isInItsBounds (Q_X2_isInItsBounds M) (tabOf T_X2_isInItsBounds) H_X2_isInItsBounds := by
    refine ⟨hx, hb, hts, hown, hK, hnt, hlocks, hr, F_X2_ok, ?_, fun pc en h => tabOf_ok T_X2_isInItsBounds_ok h, ?_⟩
    · intro v9 ix n mc1 ms1 as t k hn hl h
      unfold N_X2_isInItsBounds at hn
      cases hn
    · intro pc E hE9; cases hE9
  have W38 : ∀ (s0 : Int32) (t : TT), B_X2_isInItsBounds_38 M (fun r t1 => post (some (.inl r)) t1) px s0 t → Wat p l e ({ frames := 0, cells := 0, slots := 0, locals := 0 } : Room) s m args below meth c (QM below args s D X ad A M 0 0 post px) D X ad A M 1 38 [] [.inl s0] t 0 0 := by
    intro s0 t h
    refine wp_go hR9 (cs := S_X2_isInItsBounds) (Bk := (fun _ _ _ _ => False)) ?_ 400 38 _ _ _ _ _ h
    intro pc q vs ws t hc hk
    exact hk.elim
  have W37 : ∀ (t : TT), B_X2_isInItsBounds_37 M (fun r t1 => post (some (.inl r)) t1) px t → Wat p l e ({ frames := 0, cells := 0, slots := 0, locals := 0 } : Room) s m args below meth c (QM below args s D X ad A M 0 0 post px) D X ad A M 1 37 [] [] t 0 0 := by
    intro t h
    refine wp_go hR9 (cs := S_X2_isInItsBounds) (Bk := (fun pc vs ws t => match pc with | 38 => (match vs, ws with | [], [.inl s0] => B_X2_isInItsBounds_38 M (fun r t1 => post (some (.inl r)) t1) px s0 t | _, _ => False) | _ => False)) ?_ 400 37 _ _ _ _ _ h
    intro pc q vs ws t hc hk
    split at hk
    · cases hc
      split at hk
      · exact W38 _ _ hk
      · exact hk.elim
    · exact hk.elim
  refine wp_go hR9 (cs := S_X2_isInItsBounds) (Bk := (fun pc vs ws t => match pc with | 37 => (match vs, ws with | [], [] => B_X2_isInItsBounds_37 M (fun r t1 => post (some (.inl r)) t1) px t | _, _ => False) | 38 => (match vs, ws with | [], [.inl s0] => B_X2_isInItsBounds_38 M (fun r t1 => post (some (.inl r)) t1) px s0 t | _, _ => False) | _ => False)) ?_ 400 0 _ _ _ _ _ h
  intro pc q vs ws t hc hk
  split at hk
  · cases hc
    split at hk
    · exact W37 _ hk
    · exact hk.elim
  · cases hc
    split at hk
    · exact W38 _ _ hk
    · exact hk.elim
  · exact hk.elim
theorem k_X2_isInItsBounds (hx : p.tables.exec = Jvm.exec) (hb : c.code = b) (hml : c.maxLocals = nL) (hts : ∀ w ∈ LT, w.before args s = true) {own : String} (hown : s.vm.findClass own = some m.cls) (hK : va_K D vwCl (TYX X) s) (hA : ∀ q, s.heap.size ≤ q → A q) (hE : EX A s) (hst9 : l.stackTraces = false) {ix : Nat} (hl9 : Cond.methodLink own ix yX2_isInItsBounds ∈ LT) (hR : 1 ≤ R.frames ∧ 20 ≤ R.locals) (hmc : R.cells = mc) (hms : R.slots = ms) (h : PC_X2_isInItsBounds M as t k kx) : CallOK p l e R s m args below meth c Q D X ad A M nL b mc ms (.invokevirtual ix) 0 0 as t k kx := by
  unfold PC_X2_isInItsBounds at h
  split at h
  · exact call_V hx hb hml hts hown hK hA hE (c_X2_isInItsBounds hst9 _ t h.2) ⟨hl9, ws_X2_isInItsBounds.1, ws_X2_isInItsBounds.2.1, ws_X2_isInItsBounds.2.2.1, ws_X2_isInItsBounds.2.2.2⟩ (n := 0) (by decide +kernel) hR rfl rfl hmc hms rfl ⟨8, _, rfl, h.1, Or.inr (Or.inr (Or.inr (Or.inr rfl))), rfl⟩
  · exact CallOK.congr (by simp only [List.map_cons]; congr 1; exact (if_neg h.1).symm) (call_V hx hb hml hts hown hK hA hE (c_X2_isInItsBounds hst9 _ t h.2.2) ⟨hl9, ws_X2_isInItsBounds.1, ws_X2_isInItsBounds.2.1, ws_X2_isInItsBounds.2.2.1, ws_X2_isInItsBounds.2.2.2⟩ (n := 0) (by decide +kernel) hR rfl rfl hmc hms rfl ⟨8, _, rfl, h.2.1, Or.inr (Or.inr (Or.inr (Or.inr rfl))), rfl⟩)
  · exact h.elim
def Q_X2_hasOpenDoors (M : Nat → Nat → Bool) (ix : Nat) (as : List VV) (t : TT) (k : Option VV → TT → Prop) (kx : String → TT → Prop) : Prop := False
def N_X2_hasOpenDoors (v : Bool) (ix : Nat) : Option (Nat × Nat × Nat) := none
def S_X2_hasOpenDoors (pc : Nat) : Option (List (Nat × Nat × Nat) × List (Nat × Nat) × Nat × Nat) := match pc with
  | 13 => some ([], [(0, 0)], 0, 0)
  | _ => none
def H_X2_hasOpenDoors (pc : Nat) : Option String := none
set_option maxRecDepth 100000 in
set_option maxHeartbeats 4000000 in
theorem c_X2_hasOpenDoors {l : Launch} (hst9 : l.stackTraces = false) {D : va_G} {X : Nat → ClassId} {ad : Nat → Nat → Nat} {M : Nat → Nat → Bool} {post : Option VV → TT → Prop} {px : String → TT → Prop} (o0 : Nat) (t : TT) (h : P_X2_hasOpenDoors M (fun r t1 => post (some (.inl r)) t1) px o0 t) : CT l yX2_hasOpenDoors (Cond.code yX2_hasOpenDoors cX2_hasOpenDoors 1 (some .boolean) :: LT) ({ frames := 0, cells := 0, slots := 0, locals := 0 } : Room) D X ad M [.inr (.inl (8, o0))] t 0 0 post px := by
  refine met_of_wp (by decide +kernel) (Nat.le_of_ble_eq_true rfl) ?_
  intro p e s m args below meth c A hx hb hml hts hown hK hnt hlocks hr hA hE
  have hR9 : Ready p l e ({ frames := 0, cells := 0, slots := 0, locals := 0 } : Room) s m args below meth c D X ad A M 1 cX2_hasOpenDoors 0 0 post px RX2 2 (fldOf F_X2) N_X2_hasOpenDoors (Q_X2_hasOpenDoors M) (tabOf T_X2_hasOpenDoors) H_X2_hasOpenDoors := by
    refine ⟨hx, hb, hts, hown, hK, hnt, hlocks, hr, F_X2_ok, ?_, fun pc en h => tabOf_ok T_X2_hasOpenDoors_ok h, ?_⟩
    · intro v9 ix n mc1 ms1 as t k hn hl h
      unfold N_X2_hasOpenDoors at hn
      cases hn
    · intro pc E hE9; cases hE9
  have W13 : ∀ (s0 : Int32) (t : TT), B_X2_hasOpenDoors_13 M (fun r t1 => post (some (.inl r)) t1) px s0 t → Wat p l e ({ frames := 0, cells := 0, slots := 0, locals := 0 } : Room) s m args below meth c (QM below args s D X ad A M 0 0 post px) D X ad A M 1 13 [] [.inl s0] t 0 0 := by
    intro s0 t h
    refine wp_go hR9 (cs := S_X2_hasOpenDoors) (Bk := (fun _ _ _ _ => False)) ?_ 400 13 _ _ _ _ _ h
    intro pc q vs ws t hc hk
    exact hk.elim
  refine wp_go hR9 (cs := S_X2_hasOpenDoors) (Bk := (fun pc vs ws t => match pc with | 13 => (match vs, ws with | [], [.inl s0] => B_X2_hasOpenDoors_13 M (fun r t1 => post (some (.inl r)) t1) px s0 t | _, _ => False) | _ => False)) ?_ 400 0 _ _ _ _ _ h
  intro pc q vs ws t hc hk
  split at hk
  · cases hc
    split at hk
    · exact W13 _ _ hk
    · exact hk.elim
  · exact hk.elim
theorem k_X2_hasOpenDoors (hx : p.tables.exec = Jvm.exec) (hb : c.code = b) (hml : c.maxLocals = nL) (hts : ∀ w ∈ LT, w.before args s = true) {own : String} (hown : s.vm.findClass own = some m.cls) (hK : va_K D vwCl (TYX X) s) (hA : ∀ q, s.heap.size ≤ q → A q) (hE : EX A s) (hst9 : l.stackTraces = false) {ix : Nat} (hl9 : Cond.methodLink own ix yX2_hasOpenDoors ∈ LT) (hR : 1 ≤ R.frames ∧ 20 ≤ R.locals) (hmc : R.cells = mc) (hms : R.slots = ms) (h : PC_X2_hasOpenDoors M as t k kx) : CallOK p l e R s m args below meth c Q D X ad A M nL b mc ms (.invokevirtual ix) 0 0 as t k kx := by
  unfold PC_X2_hasOpenDoors at h
  split at h
  · exact call_V hx hb hml hts hown hK hA hE (c_X2_hasOpenDoors hst9 _ t h.2) ⟨hl9, ws_X2_hasOpenDoors.1, ws_X2_hasOpenDoors.2.1, ws_X2_hasOpenDoors.2.2.1, ws_X2_hasOpenDoors.2.2.2⟩ (n := 0) (by decide +kernel) hR rfl rfl hmc hms rfl ⟨8, _, rfl, h.1, Or.inr (Or.inr (Or.inr (Or.inr rfl))), rfl⟩
  · exact CallOK.congr (by simp only [List.map_cons]; congr 1; exact (if_neg h.1).symm) (call_V hx hb hml hts hown hK hA hE (c_X2_hasOpenDoors hst9 _ t h.2.2) ⟨hl9, ws_X2_hasOpenDoors.1, ws_X2_hasOpenDoors.2.1, ws_X2_hasOpenDoors.2.2.1, ws_X2_hasOpenDoors.2.2.2⟩ (n := 0) (by decide +kernel) hR rfl rfl hmc hms rfl ⟨8, _, rfl, h.2.1, Or.inr (Or.inr (Or.inr (Or.inr rfl))), rfl⟩)
  · exact h.elim
def Q_X2_isAtStop (M : Nat → Nat → Bool) (ix : Nat) (as : List VV) (t : TT) (k : Option VV → TT → Prop) (kx : String → TT → Prop) : Prop := False
def N_X2_isAtStop (v : Bool) (ix : Nat) : Option (Nat × Nat × Nat) := none
def S_X2_isAtStop (pc : Nat) : Option (List (Nat × Nat × Nat) × List (Nat × Nat) × Nat × Nat) := match pc with
  | 51 => some ([], [(0, 0)], 0, 0)
  | 50 => some ([], [], 0, 0)
  | _ => none
def H_X2_isAtStop (pc : Nat) : Option String := none
set_option maxRecDepth 100000 in
set_option maxHeartbeats 4000000 in
theorem c_X2_isAtStop {l : Launch} (hst9 : l.stackTraces = false) {D : va_G} {X : Nat → ClassId} {ad : Nat → Nat → Nat} {M : Nat → Nat → Bool} {post : Option VV → TT → Prop} {px : String → TT → Prop} (o0 : Nat) (t : TT) (h : P_X2_isAtStop M (fun r t1 => post (some (.inl r)) t1) px o0 t) : CT l yX2_isAtStop (Cond.code yX2_isAtStop cX2_isAtStop 1 (some .boolean) :: LT) ({ frames := 0, cells := 0, slots := 0, locals := 0 } : Room) D X ad M [.inr (.inl (8, o0))] t 0 0 post px := by
  refine met_of_wp (by decide +kernel) (Nat.le_of_ble_eq_true rfl) ?_
  intro p e s m args below meth c A hx hb hml hts hown hK hnt hlocks hr hA hE
  have hR9 : Ready p l e ({ frames := 0, cells := 0, slots := 0, locals := 0 } : Room) s m args below meth c D X ad A M 1 cX2_isAtStop 0 0 post px RX2 2 (fldOf F_X2) N_X2_isAtStop (Q_X2_isAtStop M) (tabOf T_X2_isAtStop) H_X2_isAtStop := by
    refine ⟨hx, hb, hts, hown, hK, hnt, hlocks, hr, F_X2_ok, ?_, fun pc en h => tabOf_ok T_X2_isAtStop_ok h, ?_⟩
    · intro v9 ix n mc1 ms1 as t k hn hl h
      unfold N_X2_isAtStop at hn
      cases hn
    · intro pc E hE9; cases hE9
  have W51 : ∀ (s0 : Int32) (t : TT), B_X2_isAtStop_51 M (fun r t1 => post (some (.inl r)) t1) px s0 t → Wat p l e ({ frames := 0, cells := 0, slots := 0, locals := 0 } : Room) s m args below meth c (QM below args s D X ad A M 0 0 post px) D X ad A M 1 51 [] [.inl s0] t 0 0 := by
    intro s0 t h
    refine wp_go hR9 (cs := S_X2_isAtStop) (Bk := (fun _ _ _ _ => False)) ?_ 400 51 _ _ _ _ _ h
    intro pc q vs ws t hc hk
    exact hk.elim
  have W50 : ∀ (t : TT), B_X2_isAtStop_50 M (fun r t1 => post (some (.inl r)) t1) px t → Wat p l e ({ frames := 0, cells := 0, slots := 0, locals := 0 } : Room) s m args below meth c (QM below args s D X ad A M 0 0 post px) D X ad A M 1 50 [] [] t 0 0 := by
    intro t h
    refine wp_go hR9 (cs := S_X2_isAtStop) (Bk := (fun pc vs ws t => match pc with | 51 => (match vs, ws with | [], [.inl s0] => B_X2_isAtStop_51 M (fun r t1 => post (some (.inl r)) t1) px s0 t | _, _ => False) | _ => False)) ?_ 400 50 _ _ _ _ _ h
    intro pc q vs ws t hc hk
    split at hk
    · cases hc
      split at hk
      · exact W51 _ _ hk
      · exact hk.elim
    · exact hk.elim
  refine wp_go hR9 (cs := S_X2_isAtStop) (Bk := (fun pc vs ws t => match pc with | 50 => (match vs, ws with | [], [] => B_X2_isAtStop_50 M (fun r t1 => post (some (.inl r)) t1) px t | _, _ => False) | 51 => (match vs, ws with | [], [.inl s0] => B_X2_isAtStop_51 M (fun r t1 => post (some (.inl r)) t1) px s0 t | _, _ => False) | _ => False)) ?_ 400 0 _ _ _ _ _ h
  intro pc q vs ws t hc hk
  split at hk
  · cases hc
    split at hk
    · exact W50 _ hk
    · exact hk.elim
  · cases hc
    split at hk
    · exact W51 _ _ hk
    · exact hk.elim
  · exact hk.elim
theorem k_X2_isAtStop (hx : p.tables.exec = Jvm.exec) (hb : c.code = b) (hml : c.maxLocals = nL) (hts : ∀ w ∈ LT, w.before args s = true) {own : String} (hown : s.vm.findClass own = some m.cls) (hK : va_K D vwCl (TYX X) s) (hA : ∀ q, s.heap.size ≤ q → A q) (hE : EX A s) (hst9 : l.stackTraces = false) {ix : Nat} (hl9 : Cond.methodLink own ix yX2_isAtStop ∈ LT) (hR : 1 ≤ R.frames ∧ 20 ≤ R.locals) (hmc : R.cells = mc) (hms : R.slots = ms) (h : PC_X2_isAtStop M as t k kx) : CallOK p l e R s m args below meth c Q D X ad A M nL b mc ms (.invokevirtual ix) 0 0 as t k kx := by
  unfold PC_X2_isAtStop at h
  split at h
  · exact call_V hx hb hml hts hown hK hA hE (c_X2_isAtStop hst9 _ t h.2) ⟨hl9, ws_X2_isAtStop.1, ws_X2_isAtStop.2.1, ws_X2_isAtStop.2.2.1, ws_X2_isAtStop.2.2.2⟩ (n := 0) (by decide +kernel) hR rfl rfl hmc hms rfl ⟨8, _, rfl, h.1, Or.inr (Or.inr (Or.inr (Or.inr rfl))), rfl⟩
  · exact CallOK.congr (by simp only [List.map_cons]; congr 1; exact (if_neg h.1).symm) (call_V hx hb hml hts hown hK hA hE (c_X2_isAtStop hst9 _ t h.2.2) ⟨hl9, ws_X2_isAtStop.1, ws_X2_isAtStop.2.1, ws_X2_isAtStop.2.2.1, ws_X2_isAtStop.2.2.2⟩ (n := 0) (by decide +kernel) hR rfl rfl hmc hms rfl ⟨8, _, rfl, h.2.1, Or.inr (Or.inr (Or.inr (Or.inr rfl))), rfl⟩)
  · exact h.elim
def Q_X2_canDepart (M : Nat → Nat → Bool) (ix : Nat) (as : List VV) (t : TT) (k : Option VV → TT → Prop) (kx : String → TT → Prop) : Prop := match ix with
  | 75 => PC_X2_isAtStop M as t k kx
  | 79 => PC_X2_hasOpenDoors M as t k kx
  | _ => False
def N_X2_canDepart (v : Bool) (ix : Nat) : Option (Nat × Nat × Nat) := match v, ix with
  | true, 75 => some (1, 0, 0)
  | true, 79 => some (1, 0, 0)
  | _, _ => none
def S_X2_canDepart (pc : Nat) : Option (List (Nat × Nat × Nat) × List (Nat × Nat) × Nat × Nat) := match pc with
  | 26 => some ([], [(0, 0)], 0, 0)
  | 25 => some ([], [], 0, 0)
  | _ => none
def H_X2_canDepart (pc : Nat) : Option String := none
set_option maxRecDepth 100000 in
set_option maxHeartbeats 4000000 in
theorem c_X2_canDepart {l : Launch} (hst9 : l.stackTraces = false) {D : va_G} {X : Nat → ClassId} {ad : Nat → Nat → Nat} {M : Nat → Nat → Bool} {post : Option VV → TT → Prop} {px : String → TT → Prop} (o0 : Nat) (t : TT) (h : P_X2_canDepart M (fun r t1 => post (some (.inl r)) t1) px o0 t) : CT l yX2_canDepart (Cond.code yX2_canDepart cX2_canDepart 1 (some .boolean) :: LT) ({ frames := 1, cells := 0, slots := 0, locals := 20 } : Room) D X ad M [.inr (.inl (8, o0))] t 0 0 post px := by
  refine met_of_wp (by decide +kernel) (Nat.le_of_ble_eq_true rfl) ?_
  intro p e s m args below meth c A hx hb hml hts hown hK hnt hlocks hr hA hE
  have hR9 : Ready p l e ({ frames := 1, cells := 0, slots := 0, locals := 20 } : Room) s m args below meth c D X ad A M 1 cX2_canDepart 0 0 post px RX2 2 (fldOf F_X2) N_X2_canDepart (Q_X2_canDepart M) (tabOf T_X2_canDepart) H_X2_canDepart := by
    refine ⟨hx, hb, hts, hown, hK, hnt, hlocks, hr, F_X2_ok, ?_, fun pc en h => tabOf_ok T_X2_canDepart_ok h, ?_⟩
    · intro v9 ix n mc1 ms1 as t k hn hl h
      unfold N_X2_canDepart at hn
      split at hn
      · cases hn
        exact k_X2_isAtStop hx hb hml hts hown hK hA hE hst9 (by decide +kernel) ⟨Nat.le_of_ble_eq_true rfl, Nat.le_of_ble_eq_true rfl⟩ rfl rfl h
      · cases hn
        exact k_X2_hasOpenDoors hx hb hml hts hown hK hA hE hst9 (by decide +kernel) ⟨Nat.le_of_ble_eq_true rfl, Nat.le_of_ble_eq_true rfl⟩ rfl rfl h
      · cases hn
    · intro pc E hE9; cases hE9
  have W26 : ∀ (s0 : Int32) (t : TT), B_X2_canDepart_26 M (fun r t1 => post (some (.inl r)) t1) px s0 t → Wat p l e ({ frames := 1, cells := 0, slots := 0, locals := 20 } : Room) s m args below meth c (QM below args s D X ad A M 0 0 post px) D X ad A M 1 26 [] [.inl s0] t 0 0 := by
    intro s0 t h
    refine wp_go hR9 (cs := S_X2_canDepart) (Bk := (fun _ _ _ _ => False)) ?_ 400 26 _ _ _ _ _ h
    intro pc q vs ws t hc hk
    exact hk.elim
  have W25 : ∀ (t : TT), B_X2_canDepart_25 M (fun r t1 => post (some (.inl r)) t1) px t → Wat p l e ({ frames := 1, cells := 0, slots := 0, locals := 20 } : Room) s m args below meth c (QM below args s D X ad A M 0 0 post px) D X ad A M 1 25 [] [] t 0 0 := by
    intro t h
    refine wp_go hR9 (cs := S_X2_canDepart) (Bk := (fun pc vs ws t => match pc with | 26 => (match vs, ws with | [], [.inl s0] => B_X2_canDepart_26 M (fun r t1 => post (some (.inl r)) t1) px s0 t | _, _ => False) | _ => False)) ?_ 400 25 _ _ _ _ _ h
    intro pc q vs ws t hc hk
    split at hk
    · cases hc
      split at hk
      · exact W26 _ _ hk
      · exact hk.elim
    · exact hk.elim
  refine wp_go hR9 (cs := S_X2_canDepart) (Bk := (fun pc vs ws t => match pc with | 25 => (match vs, ws with | [], [] => B_X2_canDepart_25 M (fun r t1 => post (some (.inl r)) t1) px t | _, _ => False) | 26 => (match vs, ws with | [], [.inl s0] => B_X2_canDepart_26 M (fun r t1 => post (some (.inl r)) t1) px s0 t | _, _ => False) | _ => False)) ?_ 400 0 _ _ _ _ _ h
  intro pc q vs ws t hc hk
  split at hk
  · cases hc
    split at hk
    · exact W25 _ hk
    · exact hk.elim
  · cases hc
    split at hk
    · exact W26 _ _ hk
    · exact hk.elim
  · exact hk.elim
theorem k_X2_canDepart (hx : p.tables.exec = Jvm.exec) (hb : c.code = b) (hml : c.maxLocals = nL) (hts : ∀ w ∈ LT, w.before args s = true) {own : String} (hown : s.vm.findClass own = some m.cls) (hK : va_K D vwCl (TYX X) s) (hA : ∀ q, s.heap.size ≤ q → A q) (hE : EX A s) (hst9 : l.stackTraces = false) {ix : Nat} (hl9 : Cond.methodLink own ix yX2_canDepart ∈ LT) (hR : 2 ≤ R.frames ∧ 40 ≤ R.locals) (hmc : R.cells = mc) (hms : R.slots = ms) (h : PC_X2_canDepart M as t k kx) : CallOK p l e R s m args below meth c Q D X ad A M nL b mc ms (.invokevirtual ix) 0 0 as t k kx := by
  unfold PC_X2_canDepart at h
  split at h
  · exact call_V hx hb hml hts hown hK hA hE (c_X2_canDepart hst9 _ t h.2) ⟨hl9, ws_X2_canDepart.1, ws_X2_canDepart.2.1, ws_X2_canDepart.2.2.1, ws_X2_canDepart.2.2.2⟩ (n := 0) (by decide +kernel) hR rfl rfl hmc hms rfl ⟨8, _, rfl, h.1, Or.inr (Or.inr (Or.inr (Or.inr rfl))), rfl⟩
  · exact CallOK.congr (by simp only [List.map_cons]; congr 1; exact (if_neg h.1).symm) (call_V hx hb hml hts hown hK hA hE (c_X2_canDepart hst9 _ t h.2.2) ⟨hl9, ws_X2_canDepart.1, ws_X2_canDepart.2.1, ws_X2_canDepart.2.2.1, ws_X2_canDepart.2.2.2⟩ (n := 0) (by decide +kernel) hR rfl rfl hmc hms rfl ⟨8, _, rfl, h.2.1, Or.inr (Or.inr (Or.inr (Or.inr rfl))), rfl⟩)
  · exact h.elim
def Q_X2_greatestSpeed (M : Nat → Nat → Bool) (ix : Nat) (as : List VV) (t : TT) (k : Option VV → TT → Prop) (kx : String → TT → Prop) : Prop := match ix with
  | 68 => PC_X2_wayToStop M as t k kx
  | 82 => PC_mmax as t k
  | 91 => PC_mmin as t k
  | _ => False
def N_X2_greatestSpeed (v : Bool) (ix : Nat) : Option (Nat × Nat × Nat) := match v, ix with
  | false, 68 => some (1, 0, 0)
  | false, 82 => some (2, 0, 0)
  | false, 91 => some (2, 0, 0)
  | _, _ => none
def S_X2_greatestSpeed (pc : Nat) : Option (List (Nat × Nat × Nat) × List (Nat × Nat) × Nat × Nat) := match pc with
  | 74 => some ([(3, 0, 0)], [], 0, 0)
  | 51 => some ([(0, 1, 8), (2, 0, 0), (3, 0, 0)], [], 0, 0)
  | 30 => some ([(0, 1, 8), (1, 0, 0)], [(0, 0)], 0, 0)
  | _ => none
def H_X2_greatestSpeed (pc : Nat) : Option String := none
set_option maxRecDepth 100000 in
set_option maxHeartbeats 4000000 in
theorem c_X2_greatestSpeed {l : Launch} (hst9 : l.stackTraces = false) {D : va_G} {X : Nat → ClassId} {ad : Nat → Nat → Nat} {M : Nat → Nat → Bool} {post : Option VV → TT → Prop} {px : String → TT → Prop} (o0 : Nat) (a1 : Int32) (t : TT) (h : P_X2_greatestSpeed M (fun r t1 => post (some (.inl r)) t1) px o0 a1 t) : CT l yX2_greatestSpeed (Cond.code yX2_greatestSpeed cX2_greatestSpeed 4 (some .int) :: LT) ({ frames := 1, cells := 0, slots := 0, locals := 21 } : Room) D X ad M [.inr (.inl (8, o0)), .inl a1] t 0 0 post px := by
  refine met_of_wp (by decide +kernel) (Nat.le_of_ble_eq_true rfl) ?_
  intro p e s m args below meth c A hx hb hml hts hown hK hnt hlocks hr hA hE
  have hR9 : Ready p l e ({ frames := 1, cells := 0, slots := 0, locals := 21 } : Room) s m args below meth c D X ad A M 4 cX2_greatestSpeed 0 0 post px RX2 1 (fldOf F_X2) N_X2_greatestSpeed (Q_X2_greatestSpeed M) (tabOf T_X2_greatestSpeed) H_X2_greatestSpeed := by
    refine ⟨hx, hb, hts, hown, hK, hnt, hlocks, hr, F_X2_ok, ?_, fun pc en h => tabOf_ok T_X2_greatestSpeed_ok h, ?_⟩
    · intro v9 ix n mc1 ms1 as t k hn hl h
      unfold N_X2_greatestSpeed at hn
      split at hn
      · cases hn
        exact k_X2_wayToStop hx hb hml hts hown hK hA hE hst9 (by decide +kernel) ⟨Nat.le_of_ble_eq_true rfl, Nat.le_of_ble_eq_true rfl⟩ rfl rfl h
      · cases hn
        exact k_mmax hx hb hml hts hown (by decide +kernel) ⟨Nat.le_of_ble_eq_true rfl, Nat.le_of_ble_eq_true rfl⟩ rfl rfl h
      · cases hn
        exact k_mmin hx hb hml hts hown (by decide +kernel) ⟨Nat.le_of_ble_eq_true rfl, Nat.le_of_ble_eq_true rfl⟩ rfl rfl h
      · cases hn
    · intro pc E hE9; cases hE9
  have W74 : ∀ (a3 : Int32) (t : TT), B_X2_greatestSpeed_74 M (fun r t1 => post (some (.inl r)) t1) px a3 t → Wat p l e ({ frames := 1, cells := 0, slots := 0, locals := 21 } : Room) s m args below meth c (QM below args s D X ad A M 0 0 post px) D X ad A M 4 74 [(3, .inl a3)] [] t 0 0 := by
    intro a3 t h
    refine wp_go hR9 (cs := S_X2_greatestSpeed) (Bk := (fun _ _ _ _ => False)) ?_ 400 74 _ _ _ _ _ h
    intro pc q vs ws t hc hk
    exact hk.elim
  have W51 : ∀ (n : Nat) (o0 : Nat) (a2 : Int32) (a3 : Int32) (t : TT), L_X2_greatestSpeed_51 M (fun r t1 => post (some (.inl r)) t1) px n o0 a2 a3 t → Wat p l e ({ frames := 1, cells := 0, slots := 0, locals := 21 } : Room) s m args below meth c (QM below args s D X ad A M 0 0 post px) D X ad A M 4 51 [(0, .inr (.inl (8, o0))), (2, .inl a2), (3, .inl a3)] [] t 0 0 := by
    intro n
    induction n with
    | zero =>
      intro o0 a2 a3 t h
      exact h.elim
    | succ n ih =>
      intro o0 a2 a3 t h
      refine wp_go hR9 (cs := S_X2_greatestSpeed) (Bk := (fun pc vs ws t => match pc with | 51 => (match vs, ws with | [.inr (.inl (8, o0)), .inl a2, .inl a3], [] => L_X2_greatestSpeed_51 M (fun r t1 => post (some (.inl r)) t1) px n o0 a2 a3 t | _, _ => False) | 74 => (match vs, ws with | [.inl a3], [] => B_X2_greatestSpeed_74 M (fun r t1 => post (some (.inl r)) t1) px a3 t | _, _ => False) | _ => False)) ?_ 400 51 _ _ _ _ _ h
      intro pc q vs ws t hc hk
      split at hk
      · cases hc
        split at hk
        · exact ih _ _ _ _ hk
        · exact hk.elim
      · cases hc
        split at hk
        · exact W74 _ _ hk
        · exact hk.elim
      · exact hk.elim
  have W30 : ∀ (o0 : Nat) (a1 : Int32) (s0 : Int32) (t : TT), B_X2_greatestSpeed_30 M (fun r t1 => post (some (.inl r)) t1) px o0 a1 s0 t → Wat p l e ({ frames := 1, cells := 0, slots := 0, locals := 21 } : Room) s m args below meth c (QM below args s D X ad A M 0 0 post px) D X ad A M 4 30 [(0, .inr (.inl (8, o0))), (1, .inl a1)] [.inl s0] t 0 0 := by
    intro o0 a1 s0 t h
    refine wp_go hR9 (cs := S_X2_greatestSpeed) (Bk := (fun pc vs ws t => match pc with | 51 => (match vs, ws with | [.inr (.inl (8, o0)), .inl a2, .inl a3], [] => ∃ n9, L_X2_greatestSpeed_51 M (fun r t1 => post (some (.inl r)) t1) px n9 o0 a2 a3 t | _, _ => False) | _ => False)) ?_ 400 30 _ _ _ _ _ h
    intro pc q vs ws t hc hk
    split at hk
    · cases hc
      split at hk
      · obtain ⟨n9, hk⟩ := hk
        exact W51 n9 _ _ _ _ hk
      · exact hk.elim
    · exact hk.elim
  refine wp_go hR9 (cs := S_X2_greatestSpeed) (Bk := (fun pc vs ws t => match pc with | 30 => (match vs, ws with | [.inr (.inl (8, o0)), .inl a1], [.inl s0] => B_X2_greatestSpeed_30 M (fun r t1 => post (some (.inl r)) t1) px o0 a1 s0 t | _, _ => False) | _ => False)) ?_ 400 0 _ _ _ _ _ h
  intro pc q vs ws t hc hk
  split at hk
  · cases hc
    split at hk
    · exact W30 _ _ _ _ hk
    · exact hk.elim
  · exact hk.elim
theorem k_X2_greatestSpeed (hx : p.tables.exec = Jvm.exec) (hb : c.code = b) (hml : c.maxLocals = nL) (hts : ∀ w ∈ LT, w.before args s = true) {own : String} (hown : s.vm.findClass own = some m.cls) (hK : va_K D vwCl (TYX X) s) (hA : ∀ q, s.heap.size ≤ q → A q) (hE : EX A s) (hst9 : l.stackTraces = false) {ix : Nat} (hl9 : Cond.methodLink own ix yX2_greatestSpeed ∈ LT) (hR : 2 ≤ R.frames ∧ 44 ≤ R.locals) (hmc : R.cells = mc) (hms : R.slots = ms) (h : PC_X2_greatestSpeed M as t k kx) : CallOK p l e R s m args below meth c Q D X ad A M nL b mc ms (.invokevirtual ix) 0 0 as t k kx := by
  unfold PC_X2_greatestSpeed at h
  split at h
  · exact call_V hx hb hml hts hown hK hA hE (c_X2_greatestSpeed hst9 _ _ t h.2) ⟨hl9, ws_X2_greatestSpeed.1, ws_X2_greatestSpeed.2.1, ws_X2_greatestSpeed.2.2.1, ws_X2_greatestSpeed.2.2.2⟩ (n := 1) (by decide +kernel) hR rfl rfl hmc hms rfl ⟨8, _, rfl, h.1, Or.inr (Or.inr (Or.inr (Or.inr rfl))), rfl⟩
  · exact CallOK.congr (by simp only [List.map_cons]; congr 1; exact (if_neg h.1).symm) (call_V hx hb hml hts hown hK hA hE (c_X2_greatestSpeed hst9 _ _ t h.2.2) ⟨hl9, ws_X2_greatestSpeed.1, ws_X2_greatestSpeed.2.1, ws_X2_greatestSpeed.2.2.1, ws_X2_greatestSpeed.2.2.2⟩ (n := 1) (by decide +kernel) hR rfl rfl hmc hms rfl ⟨8, _, rfl, h.2.1, Or.inr (Or.inr (Or.inr (Or.inr rfl))), rfl⟩)
  · exact h.elim
def Q_X2_findSpeed (M : Nat → Nat → Bool) (ix : Nat) (as : List VV) (t : TT) (k : Option VV → TT → Prop) (kx : String → TT → Prop) : Prop := match ix with
  | 82 => PC_mmax as t k
  | 79 => PC_X2_hasOpenDoors M as t k kx
  | 88 => PC_X2_greatestSpeed M as t k kx
  | _ => False
def N_X2_findSpeed (v : Bool) (ix : Nat) : Option (Nat × Nat × Nat) := match v, ix with
  | false, 82 => some (2, 0, 0)
  | true, 79 => some (1, 0, 0)
  | true, 88 => some (2, 0, 0)
  | _, _ => none
def S_X2_findSpeed (pc : Nat) : Option (List (Nat × Nat × Nat) × List (Nat × Nat) × Nat × Nat) := match pc with
  | 71 => some ([], [], 0, 0)
  | 54 => some ([(0, 1, 8)], [], 0, 0)
  | 34 => some ([], [(0, 0), (1, 8)], 0, 0)
  | _ => none
def H_X2_findSpeed (pc : Nat) : Option String := none
set_option maxRecDepth 100000 in
set_option maxHeartbeats 4000000 in
theorem c_X2_findSpeed {l : Launch} (hst9 : l.stackTraces = false) {D : va_G} {X : Nat → ClassId} {ad : Nat → Nat → Nat} {M : Nat → Nat → Bool} {post : Option VV → TT → Prop} {px : String → TT → Prop} (o0 : Nat) (a1 : Int32) (t : TT) (h : P_X2_findSpeed M (fun t1 => post none t1) px o0 a1 t) : CT l yX2_findSpeed (Cond.code yX2_findSpeed cX2_findSpeed 2 none :: LT) ({ frames := 2, cells := 0, slots := 0, locals := 44 } : Room) D X ad M [.inr (.inl (8, o0)), .inl a1] t 0 0 post px := by
  refine met_of_wp (by decide +kernel) (Nat.le_of_ble_eq_true rfl) ?_
  intro p e s m args below meth c A hx hb hml hts hown hK hnt hlocks hr hA hE
  have hR9 : Ready p l e ({ frames := 2, cells := 0, slots := 0, locals := 44 } : Room) s m args below meth c D X ad A M 2 cX2_findSpeed 0 0 post px RX2 0 (fldOf F_X2) N_X2_findSpeed (Q_X2_findSpeed M) (tabOf T_X2_findSpeed) H_X2_findSpeed := by
    refine ⟨hx, hb, hts, hown, hK, hnt, hlocks, hr, F_X2_ok, ?_, fun pc en h => tabOf_ok T_X2_findSpeed_ok h, ?_⟩
    · intro v9 ix n mc1 ms1 as t k hn hl h
      unfold N_X2_findSpeed at hn
      split at hn
      · cases hn
        exact k_mmax hx hb hml hts hown (by decide +kernel) ⟨Nat.le_of_ble_eq_true rfl, Nat.le_of_ble_eq_true rfl⟩ rfl rfl h
      · cases hn
        exact k_X2_hasOpenDoors hx hb hml hts hown hK hA hE hst9 (by decide +kernel) ⟨Nat.le_of_ble_eq_true rfl, Nat.le_of_ble_eq_true rfl⟩ rfl rfl h
      · cases hn
        exact k_X2_greatestSpeed hx hb hml hts hown hK hA hE hst9 (by decide +kernel) ⟨Nat.le_of_ble_eq_true rfl, Nat.le_of_ble_eq_true rfl⟩ rfl rfl h
      · cases hn
    · intro pc E hE9; cases hE9
  have W71 : ∀ (t : TT), B_X2_findSpeed_71 M (fun t1 => post none t1) px t → Wat p l e ({ frames := 2, cells := 0, slots := 0, locals := 44 } : Room) s m args below meth c (QM below args s D X ad A M 0 0 post px) D X ad A M 2 71 [] [] t 0 0 := by
    intro t h
    refine wp_go hR9 (cs := S_X2_findSpeed) (Bk := (fun _ _ _ _ => False)) ?_ 400 71 _ _ _ _ _ h
    intro pc q vs ws t hc hk
    exact hk.elim
  have W54 : ∀ (o0 : Nat) (t : TT), B_X2_findSpeed_54 M (fun t1 => post none t1) px o0 t → Wat p l e ({ frames := 2, cells := 0, slots := 0, locals := 44 } : Room) s m args below meth c (QM below args s D X ad A M 0 0 post px) D X ad A M 2 54 [(0, .inr (.inl (8, o0)))] [] t 0 0 := by
    intro o0 t h
    refine wp_go hR9 (cs := S_X2_findSpeed) (Bk := (fun pc vs ws t => match pc with | 71 => (match vs, ws with | [], [] => B_X2_findSpeed_71 M (fun t1 => post none t1) px t | _, _ => False) | _ => False)) ?_ 400 54 _ _ _ _ _ h
    intro pc q vs ws t hc hk
    split at hk
    · cases hc
      split at hk
      · exact W71 _ hk
      · exact hk.elim
    · exact hk.elim
  have W34 : ∀ (s0 : Int32) (u1 : Nat) (t : TT), B_X2_findSpeed_34 M (fun t1 => post none t1) px s0 u1 t → Wat p l e ({ frames := 2, cells := 0, slots := 0, locals := 44 } : Room) s m args below meth c (QM below args s D X ad A M 0 0 post px) D X ad A M 2 34 [] [.inl s0, .inr (.inl (8, u1))] t 0 0 := by
    intro s0 u1 t h
    refine wp_go hR9 (cs := S_X2_findSpeed) (Bk := (fun pc vs ws t => match pc with | 71 => (match vs, ws with | [], [] => B_X2_findSpeed_71 M (fun t1 => post none t1) px t | _, _ => False) | _ => False)) ?_ 400 34 _ _ _ _ _ h
    intro pc q vs ws t hc hk
    split at hk
    · cases hc
      split at hk
      · exact W71 _ hk
      · exact hk.elim
    · exact hk.elim
  refine wp_go hR9 (cs := S_X2_findSpeed) (Bk := (fun pc vs ws t => match pc with | 34 => (match vs, ws with | [], [.inl s0, .inr (.inl (8, u1))] => B_X2_findSpeed_34 M (fun t1 => post none t1) px s0 u1 t | _, _ => False) | 54 => (match vs, ws with | [.inr (.inl (8, o0))], [] => B_X2_findSpeed_54 M (fun t1 => post none t1) px o0 t | _, _ => False) | 71 => (match vs, ws with | [], [] => B_X2_findSpeed_71 M (fun t1 => post none t1) px t | _, _ => False) | _ => False)) ?_ 400 0 _ _ _ _ _ h
  intro pc q vs ws t hc hk
  split at hk
  · cases hc
    split at hk
    · exact W34 _ _ _ hk
    · exact hk.elim
  · cases hc
    split at hk
    · exact W54 _ _ hk
    · exact hk.elim
  · cases hc
    split at hk
    · exact W71 _ hk
    · exact hk.elim
  · exact hk.elim
theorem k_X2_findSpeed (hx : p.tables.exec = Jvm.exec) (hb : c.code = b) (hml : c.maxLocals = nL) (hts : ∀ w ∈ LT, w.before args s = true) {own : String} (hown : s.vm.findClass own = some m.cls) (hK : va_K D vwCl (TYX X) s) (hA : ∀ q, s.heap.size ≤ q → A q) (hE : EX A s) (hst9 : l.stackTraces = false) {ix : Nat} (hl9 : Cond.methodLink own ix yX2_findSpeed ∈ LT) (hR : 3 ≤ R.frames ∧ 65 ≤ R.locals) (hmc : R.cells = mc) (hms : R.slots = ms) (h : PC_X2_findSpeed M as t k kx) : CallOK p l e R s m args below meth c Q D X ad A M nL b mc ms (.invokevirtual ix) 0 0 as t k kx := by
  unfold PC_X2_findSpeed at h
  split at h
  · exact call_V hx hb hml hts hown hK hA hE (c_X2_findSpeed hst9 _ _ t h.2) ⟨hl9, ws_X2_findSpeed.1, ws_X2_findSpeed.2.1, ws_X2_findSpeed.2.2.1, ws_X2_findSpeed.2.2.2⟩ (n := 1) (by decide +kernel) hR rfl rfl hmc hms rfl ⟨8, _, rfl, h.1, Or.inr (Or.inr (Or.inr (Or.inr rfl))), rfl⟩
  · exact CallOK.congr (by simp only [List.map_cons]; congr 1; exact (if_neg h.1).symm) (call_V hx hb hml hts hown hK hA hE (c_X2_findSpeed hst9 _ _ t h.2.2) ⟨hl9, ws_X2_findSpeed.1, ws_X2_findSpeed.2.1, ws_X2_findSpeed.2.2.1, ws_X2_findSpeed.2.2.2⟩ (n := 1) (by decide +kernel) hR rfl rfl hmc hms rfl ⟨8, _, rfl, h.2.1, Or.inr (Or.inr (Or.inr (Or.inr rfl))), rfl⟩)
  · exact h.elim
def Q_X2_go (M : Nat → Nat → Bool) (ix : Nat) (as : List VV) (t : TT) (k : Option VV → TT → Prop) (kx : String → TT → Prop) : Prop := False
def N_X2_go (v : Bool) (ix : Nat) : Option (Nat × Nat × Nat) := none
def S_X2_go (pc : Nat) : Option (List (Nat × Nat × Nat) × List (Nat × Nat) × Nat × Nat) := match pc with
  | 100 => some ([], [], 0, 0)
  | 59 => some ([(0, 1, 8), (1, 0, 0), (2, 0, 0)], [], 0, 0)
  | _ => none
def H_X2_go (pc : Nat) : Option String := none
set_option maxRecDepth 100000 in
set_option maxHeartbeats 4000000 in
theorem c_X2_go {l : Launch} (hst9 : l.stackTraces = false) {D : va_G} {X : Nat → ClassId} {ad : Nat → Nat → Nat} {M : Nat → Nat → Bool} {post : Option VV → TT → Prop} {px : String → TT → Prop} (o0 : Nat) (a1 : Int32) (t : TT) (h : P_X2_go M (fun t1 => post none t1) px o0 a1 t) : CT l yX2_go (Cond.code yX2_go cX2_go 3 none :: LT) ({ frames := 0, cells := 0, slots := 0, locals := 0 } : Room) D X ad M [.inr (.inl (8, o0)), .inl a1] t 0 0 post px := by
  refine met_of_wp (by decide +kernel) (Nat.le_of_ble_eq_true rfl) ?_
  intro p e s m args below meth c A hx hb hml hts hown hK hnt hlocks hr hA hE
  have hR9 : Ready p l e ({ frames := 0, cells := 0, slots := 0, locals := 0 } : Room) s m args below meth c D X ad A M 3 cX2_go 0 0 post px RX2 0 (fldOf F_X2) N_X2_go (Q_X2_go M) (tabOf T_X2_go) H_X2_go := by
    refine ⟨hx, hb, hts, hown, hK, hnt, hlocks, hr, F_X2_ok, ?_, fun pc en h => tabOf_ok T_X2_go_ok h, ?_⟩
    · intro v9 ix n mc1 ms1 as t k hn hl h
      unfold N_X2_go at hn
      cases hn
    · intro pc E hE9; cases hE9
  have W100 : ∀ (t : TT), B_X2_go_100 M (fun t1 => post none t1) px t → Wat p l e ({ frames := 0, cells := 0, slots := 0, locals := 0 } : Room) s m args below meth c (QM below args s D X ad A M 0 0 post px) D X ad A M 3 100 [] [] t 0 0 := by
    intro t h
    refine wp_go hR9 (cs := S_X2_go) (Bk := (fun _ _ _ _ => False)) ?_ 400 100 _ _ _ _ _ h
    intro pc q vs ws t hc hk
    exact hk.elim
  have W59 : ∀ (o0 : Nat) (a1 : Int32) (a2 : Int32) (t : TT), B_X2_go_59 M (fun t1 => post none t1) px o0 a1 a2 t → Wat p l e ({ frames := 0, cells := 0, slots := 0, locals := 0 } : Room) s m args below meth c (QM below args s D X ad A M 0 0 post px) D X ad A M 3 59 [(0, .inr (.inl (8, o0))), (1, .inl a1), (2, .inl a2)] [] t 0 0 := by
    intro o0 a1 a2 t h
    refine wp_go hR9 (cs := S_X2_go) (Bk := (fun pc vs ws t => match pc with | 100 => (match vs, ws with | [], [] => B_X2_go_100 M (fun t1 => post none t1) px t | _, _ => False) | _ => False)) ?_ 400 59 _ _ _ _ _ h
    intro pc q vs ws t hc hk
    split at hk
    · cases hc
      split at hk
      · exact W100 _ hk
      · exact hk.elim
    · exact hk.elim
  refine wp_go hR9 (cs := S_X2_go) (Bk := (fun pc vs ws t => match pc with | 59 => (match vs, ws with | [.inr (.inl (8, o0)), .inl a1, .inl a2], [] => B_X2_go_59 M (fun t1 => post none t1) px o0 a1 a2 t | _, _ => False) | _ => False)) ?_ 400 0 _ _ _ _ _ h
  intro pc q vs ws t hc hk
  split at hk
  · cases hc
    split at hk
    · exact W59 _ _ _ _ hk
    · exact hk.elim
  · exact hk.elim
theorem k_X2_go (hx : p.tables.exec = Jvm.exec) (hb : c.code = b) (hml : c.maxLocals = nL) (hts : ∀ w ∈ LT, w.before args s = true) {own : String} (hown : s.vm.findClass own = some m.cls) (hK : va_K D vwCl (TYX X) s) (hA : ∀ q, s.heap.size ≤ q → A q) (hE : EX A s) (hst9 : l.stackTraces = false) {ix : Nat} (hl9 : Cond.methodLink own ix yX2_go ∈ LT) (hR : 1 ≤ R.frames ∧ 22 ≤ R.locals) (hmc : R.cells = mc) (hms : R.slots = ms) (h : PC_X2_go M as t k kx) : CallOK p l e R s m args below meth c Q D X ad A M nL b mc ms (.invokevirtual ix) 0 0 as t k kx := by
  unfold PC_X2_go at h
  split at h
  · exact call_V hx hb hml hts hown hK hA hE (c_X2_go hst9 _ _ t h.2) ⟨hl9, ws_X2_go.1, ws_X2_go.2.1, ws_X2_go.2.2.1, ws_X2_go.2.2.2⟩ (n := 1) (by decide +kernel) hR rfl rfl hmc hms rfl ⟨8, _, rfl, h.1, Or.inr (Or.inr (Or.inr (Or.inr rfl))), rfl⟩
  · exact CallOK.congr (by simp only [List.map_cons]; congr 1; exact (if_neg h.1).symm) (call_V hx hb hml hts hown hK hA hE (c_X2_go hst9 _ _ t h.2.2) ⟨hl9, ws_X2_go.1, ws_X2_go.2.1, ws_X2_go.2.2.1, ws_X2_go.2.2.2⟩ (n := 1) (by decide +kernel) hR rfl rfl hmc hms rfl ⟨8, _, rfl, h.2.1, Or.inr (Or.inr (Or.inr (Or.inr rfl))), rfl⟩)
  · exact h.elim
def Q_X2_playAgain (M : Nat → Nat → Bool) (ix : Nat) (as : List VV) (t : TT) (k : Option VV → TT → Prop) (kx : String → TT → Prop) : Prop := False
def N_X2_playAgain (v : Bool) (ix : Nat) : Option (Nat × Nat × Nat) := none
def S_X2_playAgain (pc : Nat) : Option (List (Nat × Nat × Nat) × List (Nat × Nat) × Nat × Nat) := match pc with
  | 41 => some ([(2, 0, 0)], [], 0, 0)
  | 12 => some ([(0, 1, 8), (1, 0, 0), (2, 0, 0), (3, 0, 0)], [], 0, 0)
  | _ => none
def H_X2_playAgain (pc : Nat) : Option String := none
set_option maxRecDepth 100000 in
set_option maxHeartbeats 4000000 in
theorem c_X2_playAgain {l : Launch} (hst9 : l.stackTraces = false) {D : va_G} {X : Nat → ClassId} {ad : Nat → Nat → Nat} {M : Nat → Nat → Bool} {post : Option VV → TT → Prop} {px : String → TT → Prop} (o0 : Nat) (a1 : Int32) (t : TT) (h : P_X2_playAgain M (fun r t1 => post (some (.inl r)) t1) px o0 a1 t) : CT l yX2_playAgain (Cond.code yX2_playAgain cX2_playAgain 4 (some .int) :: LT) ({ frames := 0, cells := 0, slots := 0, locals := 0 } : Room) D X ad M [.inr (.inl (8, o0)), .inl a1] t 0 0 post px := by
  refine met_of_wp (by decide +kernel) (Nat.le_of_ble_eq_true rfl) ?_
  intro p e s m args below meth c A hx hb hml hts hown hK hnt hlocks hr hA hE
  have hR9 : Ready p l e ({ frames := 0, cells := 0, slots := 0, locals := 0 } : Room) s m args below meth c D X ad A M 4 cX2_playAgain 0 0 post px RX2 1 (fldOf F_X2) N_X2_playAgain (Q_X2_playAgain M) (tabOf T_X2_playAgain) H_X2_playAgain := by
    refine ⟨hx, hb, hts, hown, hK, hnt, hlocks, hr, F_X2_ok, ?_, fun pc en h => tabOf_ok T_X2_playAgain_ok h, ?_⟩
    · intro v9 ix n mc1 ms1 as t k hn hl h
      unfold N_X2_playAgain at hn
      cases hn
    · intro pc E hE9; cases hE9
  have W41 : ∀ (a2 : Int32) (t : TT), B_X2_playAgain_41 M (fun r t1 => post (some (.inl r)) t1) px a2 t → Wat p l e ({ frames := 0, cells := 0, slots := 0, locals := 0 } : Room) s m args below meth c (QM below args s D X ad A M 0 0 post px) D X ad A M 4 41 [(2, .inl a2)] [] t 0 0 := by
    intro a2 t h
    refine wp_go hR9 (cs := S_X2_playAgain) (Bk := (fun _ _ _ _ => False)) ?_ 400 41 _ _ _ _ _ h
    intro pc q vs ws t hc hk
    exact hk.elim
  have W12 : ∀ (n : Nat) (o0 : Nat) (a1 : Int32) (a2 : Int32) (a3 : Int32) (t : TT), L_X2_playAgain_12 M (fun r t1 => post (some (.inl r)) t1) px n o0 a1 a2 a3 t → Wat p l e ({ frames := 0, cells := 0, slots := 0, locals := 0 } : Room) s m args below meth c (QM below args s D X ad A M 0 0 post px) D X ad A M 4 12 [(0, .inr (.inl (8, o0))), (1, .inl a1), (2, .inl a2), (3, .inl a3)] [] t 0 0 := by
    intro n
    induction n with
    | zero =>
      intro o0 a1 a2 a3 t h
      exact h.elim
    | succ n ih =>
      intro o0 a1 a2 a3 t h
      refine wp_go hR9 (cs := S_X2_playAgain) (Bk := (fun pc vs ws t => match pc with | 12 => (match vs, ws with | [.inr (.inl (8, o0)), .inl a1, .inl a2, .inl a3], [] => L_X2_playAgain_12 M (fun r t1 => post (some (.inl r)) t1) px n o0 a1 a2 a3 t | _, _ => False) | 41 => (match vs, ws with | [.inl a2], [] => B_X2_playAgain_41 M (fun r t1 => post (some (.inl r)) t1) px a2 t | _, _ => False) | _ => False)) ?_ 400 12 _ _ _ _ _ h
      intro pc q vs ws t hc hk
      split at hk
      · cases hc
        split at hk
        · exact ih _ _ _ _ _ hk
        · exact hk.elim
      · cases hc
        split at hk
        · exact W41 _ _ hk
        · exact hk.elim
      · exact hk.elim
  refine wp_go hR9 (cs := S_X2_playAgain) (Bk := (fun pc vs ws t => match pc with | 12 => (match vs, ws with | [.inr (.inl (8, o0)), .inl a1, .inl a2, .inl a3], [] => ∃ n9, L_X2_playAgain_12 M (fun r t1 => post (some (.inl r)) t1) px n9 o0 a1 a2 a3 t | _, _ => False) | _ => False)) ?_ 400 0 _ _ _ _ _ h
  intro pc q vs ws t hc hk
  split at hk
  · cases hc
    split at hk
    · obtain ⟨n9, hk⟩ := hk
      exact W12 n9 _ _ _ _ _ hk
    · exact hk.elim
  · exact hk.elim
theorem k_X2_playAgain (hx : p.tables.exec = Jvm.exec) (hb : c.code = b) (hml : c.maxLocals = nL) (hts : ∀ w ∈ LT, w.before args s = true) {own : String} (hown : s.vm.findClass own = some m.cls) (hK : va_K D vwCl (TYX X) s) (hA : ∀ q, s.heap.size ≤ q → A q) (hE : EX A s) (hst9 : l.stackTraces = false) {ix : Nat} (hl9 : Cond.methodLink own ix yX2_playAgain ∈ LT) (hR : 1 ≤ R.frames ∧ 23 ≤ R.locals) (hmc : R.cells = mc) (hms : R.slots = ms) (h : PC_X2_playAgain M as t k kx) : CallOK p l e R s m args below meth c Q D X ad A M nL b mc ms (.invokevirtual ix) 0 0 as t k kx := by
  unfold PC_X2_playAgain at h
  split at h
  · exact call_V hx hb hml hts hown hK hA hE (c_X2_playAgain hst9 _ _ t h.2) ⟨hl9, ws_X2_playAgain.1, ws_X2_playAgain.2.1, ws_X2_playAgain.2.2.1, ws_X2_playAgain.2.2.2⟩ (n := 1) (by decide +kernel) hR rfl rfl hmc hms rfl ⟨8, _, rfl, h.1, Or.inr (Or.inr (Or.inr (Or.inr rfl))), rfl⟩
  · exact CallOK.congr (by simp only [List.map_cons]; congr 1; exact (if_neg h.1).symm) (call_V hx hb hml hts hown hK hA hE (c_X2_playAgain hst9 _ _ t h.2.2) ⟨hl9, ws_X2_playAgain.1, ws_X2_playAgain.2.1, ws_X2_playAgain.2.2.1, ws_X2_playAgain.2.2.2⟩ (n := 1) (by decide +kernel) hR rfl rfl hmc hms rfl ⟨8, _, rfl, h.2.1, Or.inr (Or.inr (Or.inr (Or.inr rfl))), rfl⟩)
  · exact h.elim
def Q_X2_openDoors (M : Nat → Nat → Bool) (ix : Nat) (as : List VV) (t : TT) (k : Option VV → TT → Prop) (kx : String → TT → Prop) : Prop := match ix with
  | 82 => PC_mmax as t k
  | _ => False
def N_X2_openDoors (v : Bool) (ix : Nat) : Option (Nat × Nat × Nat) := match v, ix with
  | false, 82 => some (2, 0, 0)
  | _, _ => none
def S_X2_openDoors (pc : Nat) : Option (List (Nat × Nat × Nat) × List (Nat × Nat) × Nat × Nat) := match pc with
  | 19 => some ([(0, 1, 8), (1, 0, 0)], [(0, 0)], 0, 0)
  | _ => none
def H_X2_openDoors (pc : Nat) : Option String := none
set_option maxRecDepth 100000 in
set_option maxHeartbeats 4000000 in
theorem c_X2_openDoors {l : Launch} (hst9 : l.stackTraces = false) {D : va_G} {X : Nat → ClassId} {ad : Nat → Nat → Nat} {M : Nat → Nat → Bool} {post : Option VV → TT → Prop} {px : String → TT → Prop} (o0 : Nat) (a1 : Int32) (t : TT) (h : P_X2_openDoors M (fun t1 => post none t1) px o0 a1 t) : CT l yX2_openDoors (Cond.code yX2_openDoors cX2_openDoors 3 none :: LT) ({ frames := 1, cells := 0, slots := 0, locals := 21 } : Room) D X ad M [.inr (.inl (8, o0)), .inl a1] t 0 0 post px := by
  refine met_of_wp (by decide +kernel) (Nat.le_of_ble_eq_true rfl) ?_
  intro p e s m args below meth c A hx hb hml hts hown hK hnt hlocks hr hA hE
  have hR9 : Ready p l e ({ frames := 1, cells := 0, slots := 0, locals := 21 } : Room) s m args below meth c D X ad A M 3 cX2_openDoors 0 0 post px RX2 0 (fldOf F_X2) N_X2_openDoors (Q_X2_openDoors M) (tabOf T_X2_openDoors) H_X2_openDoors := by
    refine ⟨hx, hb, hts, hown, hK, hnt, hlocks, hr, F_X2_ok, ?_, fun pc en h => tabOf_ok T_X2_openDoors_ok h, ?_⟩
    · intro v9 ix n mc1 ms1 as t k hn hl h
      unfold N_X2_openDoors at hn
      split at hn
      · cases hn
        exact k_mmax hx hb hml hts hown (by decide +kernel) ⟨Nat.le_of_ble_eq_true rfl, Nat.le_of_ble_eq_true rfl⟩ rfl rfl h
      · cases hn
    · intro pc E hE9; cases hE9
  have W19 : ∀ (o0 : Nat) (a1 : Int32) (s0 : Int32) (t : TT), B_X2_openDoors_19 M (fun t1 => post none t1) px o0 a1 s0 t → Wat p l e ({ frames := 1, cells := 0, slots := 0, locals := 21 } : Room) s m args below meth c (QM below args s D X ad A M 0 0 post px) D X ad A M 3 19 [(0, .inr (.inl (8, o0))), (1, .inl a1)] [.inl s0] t 0 0 := by
    intro o0 a1 s0 t h
    refine wp_go hR9 (cs := S_X2_openDoors) (Bk := (fun _ _ _ _ => False)) ?_ 400 19 _ _ _ _ _ h
    intro pc q vs ws t hc hk
    exact hk.elim
  refine wp_go hR9 (cs := S_X2_openDoors) (Bk := (fun pc vs ws t => match pc with | 19 => (match vs, ws with | [.inr (.inl (8, o0)), .inl a1], [.inl s0] => B_X2_openDoors_19 M (fun t1 => post none t1) px o0 a1 s0 t | _, _ => False) | _ => False)) ?_ 400 0 _ _ _ _ _ h
  intro pc q vs ws t hc hk
  split at hk
  · cases hc
    split at hk
    · exact W19 _ _ _ _ hk
    · exact hk.elim
  · exact hk.elim
theorem k_X2_openDoors (hx : p.tables.exec = Jvm.exec) (hb : c.code = b) (hml : c.maxLocals = nL) (hts : ∀ w ∈ LT, w.before args s = true) {own : String} (hown : s.vm.findClass own = some m.cls) (hK : va_K D vwCl (TYX X) s) (hA : ∀ q, s.heap.size ≤ q → A q) (hE : EX A s) (hst9 : l.stackTraces = false) {ix : Nat} (hl9 : Cond.methodLink own ix yX2_openDoors ∈ LT) (hR : 2 ≤ R.frames ∧ 43 ≤ R.locals) (hmc : R.cells = mc) (hms : R.slots = ms) (h : PC_X2_openDoors M as t k kx) : CallOK p l e R s m args below meth c Q D X ad A M nL b mc ms (.invokevirtual ix) 0 0 as t k kx := by
  unfold PC_X2_openDoors at h
  split at h
  · exact call_V hx hb hml hts hown hK hA hE (c_X2_openDoors hst9 _ _ t h.2) ⟨hl9, ws_X2_openDoors.1, ws_X2_openDoors.2.1, ws_X2_openDoors.2.2.1, ws_X2_openDoors.2.2.2⟩ (n := 1) (by decide +kernel) hR rfl rfl hmc hms rfl ⟨8, _, rfl, h.1, Or.inr (Or.inr (Or.inr (Or.inr rfl))), rfl⟩
  · exact CallOK.congr (by simp only [List.map_cons]; congr 1; exact (if_neg h.1).symm) (call_V hx hb hml hts hown hK hA hE (c_X2_openDoors hst9 _ _ t h.2.2) ⟨hl9, ws_X2_openDoors.1, ws_X2_openDoors.2.1, ws_X2_openDoors.2.2.1, ws_X2_openDoors.2.2.2⟩ (n := 1) (by decide +kernel) hR rfl rfl hmc hms rfl ⟨8, _, rfl, h.2.1, Or.inr (Or.inr (Or.inr (Or.inr rfl))), rfl⟩)
  · exact h.elim
def Q_X2_takePeople (M : Nat → Nat → Bool) (ix : Nat) (as : List VV) (t : TT) (k : Option VV → TT → Prop) (kx : String → TT → Prop) : Prop := match ix with
  | 91 => PC_mmin as t k
  | 101 => PC_bitc as t k
  | 79 => PC_X2_hasOpenDoors M as t k kx
  | _ => False
def N_X2_takePeople (v : Bool) (ix : Nat) : Option (Nat × Nat × Nat) := match v, ix with
  | false, 91 => some (2, 0, 0)
  | false, 101 => some (1, 0, 0)
  | true, 79 => some (1, 0, 0)
  | _, _ => none
def S_X2_takePeople (pc : Nat) : Option (List (Nat × Nat × Nat) × List (Nat × Nat) × Nat × Nat) := match pc with
  | 69 => some ([], [], 0, 0)
  | _ => none
def H_X2_takePeople (pc : Nat) : Option String := none
set_option maxRecDepth 100000 in
set_option maxHeartbeats 4000000 in
theorem c_X2_takePeople {l : Launch} (hst9 : l.stackTraces = false) {D : va_G} {X : Nat → ClassId} {ad : Nat → Nat → Nat} {M : Nat → Nat → Bool} {post : Option VV → TT → Prop} {px : String → TT → Prop} (o0 : Nat) (t : TT) (h : P_X2_takePeople M (fun t1 => post none t1) px o0 t) : CT l yX2_takePeople (Cond.code yX2_takePeople cX2_takePeople 3 none :: LT) ({ frames := 1, cells := 0, slots := 0, locals := 21 } : Room) D X ad M [.inr (.inl (8, o0))] t 0 0 post px := by
  refine met_of_wp (by decide +kernel) (Nat.le_of_ble_eq_true rfl) ?_
  intro p e s m args below meth c A hx hb hml hts hown hK hnt hlocks hr hA hE
  have hR9 : Ready p l e ({ frames := 1, cells := 0, slots := 0, locals := 21 } : Room) s m args below meth c D X ad A M 3 cX2_takePeople 0 0 post px RX2 0 (fldOf F_X2) N_X2_takePeople (Q_X2_takePeople M) (tabOf T_X2_takePeople) H_X2_takePeople := by
    refine ⟨hx, hb, hts, hown, hK, hnt, hlocks, hr, F_X2_ok, ?_, fun pc en h => tabOf_ok T_X2_takePeople_ok h, ?_⟩
    · intro v9 ix n mc1 ms1 as t k hn hl h
      unfold N_X2_takePeople at hn
      split at hn
      · cases hn
        exact k_mmin hx hb hml hts hown (by decide +kernel) ⟨Nat.le_of_ble_eq_true rfl, Nat.le_of_ble_eq_true rfl⟩ rfl rfl h
      · cases hn
        exact k_bitc hx hb hml hts hown hK hA hE hst9 (by decide +kernel) ⟨Nat.le_of_ble_eq_true rfl, Nat.le_of_ble_eq_true rfl⟩ rfl rfl h
      · cases hn
        exact k_X2_hasOpenDoors hx hb hml hts hown hK hA hE hst9 (by decide +kernel) ⟨Nat.le_of_ble_eq_true rfl, Nat.le_of_ble_eq_true rfl⟩ rfl rfl h
      · cases hn
    · intro pc E hE9; cases hE9
  have W69 : ∀ (t : TT), B_X2_takePeople_69 M (fun t1 => post none t1) px t → Wat p l e ({ frames := 1, cells := 0, slots := 0, locals := 21 } : Room) s m args below meth c (QM below args s D X ad A M 0 0 post px) D X ad A M 3 69 [] [] t 0 0 := by
    intro t h
    refine wp_go hR9 (cs := S_X2_takePeople) (Bk := (fun _ _ _ _ => False)) ?_ 400 69 _ _ _ _ _ h
    intro pc q vs ws t hc hk
    exact hk.elim
  refine wp_go hR9 (cs := S_X2_takePeople) (Bk := (fun pc vs ws t => match pc with | 69 => (match vs, ws with | [], [] => B_X2_takePeople_69 M (fun t1 => post none t1) px t | _, _ => False) | _ => False)) ?_ 400 0 _ _ _ _ _ h
  intro pc q vs ws t hc hk
  split at hk
  · cases hc
    split at hk
    · exact W69 _ hk
    · exact hk.elim
  · exact hk.elim
theorem k_X2_takePeople (hx : p.tables.exec = Jvm.exec) (hb : c.code = b) (hml : c.maxLocals = nL) (hts : ∀ w ∈ LT, w.before args s = true) {own : String} (hown : s.vm.findClass own = some m.cls) (hK : va_K D vwCl (TYX X) s) (hA : ∀ q, s.heap.size ≤ q → A q) (hE : EX A s) (hst9 : l.stackTraces = false) {ix : Nat} (hl9 : Cond.methodLink own ix yX2_takePeople ∈ LT) (hR : 2 ≤ R.frames ∧ 43 ≤ R.locals) (hmc : R.cells = mc) (hms : R.slots = ms) (h : PC_X2_takePeople M as t k kx) : CallOK p l e R s m args below meth c Q D X ad A M nL b mc ms (.invokevirtual ix) 0 0 as t k kx := by
  unfold PC_X2_takePeople at h
  split at h
  · exact call_V hx hb hml hts hown hK hA hE (c_X2_takePeople hst9 _ t h.2) ⟨hl9, ws_X2_takePeople.1, ws_X2_takePeople.2.1, ws_X2_takePeople.2.2.1, ws_X2_takePeople.2.2.2⟩ (n := 0) (by decide +kernel) hR rfl rfl hmc hms rfl ⟨8, _, rfl, h.1, Or.inr (Or.inr (Or.inr (Or.inr rfl))), rfl⟩
  · exact CallOK.congr (by simp only [List.map_cons]; congr 1; exact (if_neg h.1).symm) (call_V hx hb hml hts hown hK hA hE (c_X2_takePeople hst9 _ t h.2.2) ⟨hl9, ws_X2_takePeople.1, ws_X2_takePeople.2.1, ws_X2_takePeople.2.2.1, ws_X2_takePeople.2.2.2⟩ (n := 0) (by decide +kernel) hR rfl rfl hmc hms rfl ⟨8, _, rfl, h.2.1, Or.inr (Or.inr (Or.inr (Or.inr rfl))), rfl⟩)
  · exact h.elim
end K
end
section
/-! printed (wip/p26/gen26.py): contracts -/
section K
variable {p : Program} {l : Launch} {e : Env} {R : Room} {s : State} {m : MethodId} {args : Array Value} {below : List Frame} {meth : Method} {c : Code} {Q : State → Prop} {D : va_G} {X : Nat → ClassId} {ad : Nat → Nat → Nat} {A : Nat → Prop} {M : Nat → Nat → Bool} {nL : Nat} {b : ByteArray} {mc ms : Nat} {k : Option VV → TT → Prop} {kx : String → TT → Prop} {t : TT} {as : List VV}
def Q_X4_askNumber (M : Nat → Nat → Bool) (ix : Nat) (as : List VV) (t : TT) (k : Option VV → TT → Prop) (kx : String → TT → Prop) : Prop := False
def N_X4_askNumber (v : Bool) (ix : Nat) : Option (Nat × Nat × Nat) := none
def S_X4_askNumber (pc : Nat) : Option (List (Nat × Nat × Nat) × List (Nat × Nat) × Nat × Nat) := match pc with
  | 9 => some ([], [], 0, 0)
  | _ => none
def H_X4_askNumber (pc : Nat) : Option String := match pc with
  | 9 => some IOB
  | _ => none
set_option maxRecDepth 100000 in
set_option maxHeartbeats 4000000 in
theorem c_X4_askNumber {l : Launch} (hst9 : l.stackTraces = false) {D : va_G} {X : Nat → ClassId} {ad : Nat → Nat → Nat} {M : Nat → Nat → Bool} {post : Option VV → TT → Prop} {px : String → TT → Prop} (a0 : Int32) (a1 : Int32) (t : TT) (h : P_X4_askNumber M (fun t1 => post none t1) px a0 a1 t) : CT l yX4_askNumber (Cond.code yX4_askNumber cX4_askNumber 2 none :: LT) ({ frames := 0, cells := 0, slots := 0, locals := 0 } : Room) D X ad M [.inl a0, .inl a1] t 0 0 post px := by
  refine met_of_wp (by decide +kernel) (Nat.le_of_ble_eq_true rfl) ?_
  intro p e s m args below meth c A hx hb hml hts hown hK hnt hlocks hr hA hE
  have hR9 : Ready p l e ({ frames := 0, cells := 0, slots := 0, locals := 0 } : Room) s m args below meth c D X ad A M 2 cX4_askNumber 0 0 post px RX4 0 (fldOf F_X4) N_X4_askNumber (Q_X4_askNumber M) (tabOf T_X4_askNumber) H_X4_askNumber := by
    refine ⟨hx, hb, hts, hown, hK, hnt, hlocks, hr, F_X4_ok, ?_, fun pc en h => tabOf_ok T_X4_askNumber_ok h, ?_⟩
    · intro v9 ix n mc1 ms1 as t k hn hl h
      unfold N_X4_askNumber at hn
      cases hn
    · exact fun pc E hE9 loc st t cl sl hp h1 h2 h8 => absurd h1 (Nat.not_succ_le_zero _)
  have W9 : ∀ (t : TT), B_X4_askNumber_9 M (fun t1 => post none t1) px t → Wat p l e ({ frames := 0, cells := 0, slots := 0, locals := 0 } : Room) s m args below meth c (QM below args s D X ad A M 0 0 post px) D X ad A M 2 9 [] [] t 0 0 := by
    intro t h
    refine wp_go hR9 (cs := S_X4_askNumber) (Bk := (fun _ _ _ _ => False)) ?_ 400 9 _ _ _ _ _ h
    intro pc q vs ws t hc hk
    exact hk.elim
  refine wp_go hR9 (cs := S_X4_askNumber) (Bk := (fun pc vs ws t => match pc with | 9 => (match vs, ws with | [], [] => B_X4_askNumber_9 M (fun t1 => post none t1) px t | _, _ => False) | _ => False)) ?_ 400 0 _ _ _ _ _ h
  intro pc q vs ws t hc hk
  split at hk
  · cases hc
    split at hk
    · exact W9 _ hk
    · exact hk.elim
  · exact hk.elim
theorem k_X4_askNumber (hx : p.tables.exec = Jvm.exec) (hb : c.code = b) (hml : c.maxLocals = nL) (hts : ∀ w ∈ LT, w.before args s = true) {own : String} (hown : s.vm.findClass own = some m.cls) (hK : va_K D vwCl (TYX X) s) (hA : ∀ q, s.heap.size ≤ q → A q) (hE : EX A s) (hst9 : l.stackTraces = false) {ix : Nat} (hl9 : Cond.methodLink own ix yX4_askNumber ∈ LT) (hR : 1 ≤ R.frames ∧ 21 ≤ R.locals) (hmc : R.cells = mc) (hms : R.slots = ms) (h : PC_X4_askNumber M as t k kx) : CallOK p l e R s m args below meth c Q D X ad A M nL b mc ms (.invokestatic ix) 0 0 as t k kx := by
  unfold PC_X4_askNumber at h
  split at h
  · exact call_S hx hb hml hts hown hK hA hE (c_X4_askNumber hst9 _ _ t h) ⟨hl9, ws_X4_askNumber.1, ws_X4_askNumber.2.1, ws_X4_askNumber.2.2⟩ (n := 2) (by decide +kernel) hR rfl rfl hmc hms rfl
  · exact h.elim
def Q_X4_works (M : Nat → Nat → Bool) (ix : Nat) (as : List VV) (t : TT) (k : Option VV → TT → Prop) (kx : String → TT → Prop) : Prop := match ix with
  | 57 => PC_X4_askNumber M as t k kx
  | _ => False
def N_X4_works (v : Bool) (ix : Nat) : Option (Nat × Nat × Nat) := match v, ix with
  | false, 57 => some (2, 0, 0)
  | _, _ => none
def S_X4_works (pc : Nat) : Option (List (Nat × Nat × Nat) × List (Nat × Nat) × Nat × Nat) := none
def H_X4_works (pc : Nat) : Option String := none
set_option maxRecDepth 100000 in
set_option maxHeartbeats 4000000 in
theorem c_X4_works {l : Launch} (hst9 : l.stackTraces = false) {D : va_G} {X : Nat → ClassId} {ad : Nat → Nat → Nat} {M : Nat → Nat → Bool} {post : Option VV → TT → Prop} {px : String → TT → Prop} (o0 : Nat) (a1 : Int32) (a2 : Int32) (t : TT) (h : P_X4_works M (fun r t1 => post (some (.inl r)) t1) px o0 a1 a2 t) : CT l yX4_works (Cond.code yX4_works cX4_works 5 (some .boolean) :: LT) ({ frames := 1, cells := 0, slots := 0, locals := 21 } : Room) D X ad M [.inr (.inl (0, o0)), .inl a1, .inl a2] t 0 0 post px := by
  refine met_of_wp (by decide +kernel) (Nat.le_of_ble_eq_true rfl) ?_
  intro p e s m args below meth c A hx hb hml hts hown hK hnt hlocks hr hA hE
  have hR9 : Ready p l e ({ frames := 1, cells := 0, slots := 0, locals := 21 } : Room) s m args below meth c D X ad A M 5 cX4_works 0 0 post px RX4 2 (fldOf F_X4) N_X4_works (Q_X4_works M) (tabOf T_X4_works) H_X4_works := by
    refine ⟨hx, hb, hts, hown, hK, hnt, hlocks, hr, F_X4_ok, ?_, fun pc en h => tabOf_ok T_X4_works_ok h, ?_⟩
    · intro v9 ix n mc1 ms1 as t k hn hl h
      unfold N_X4_works at hn
      split at hn
      · cases hn
        exact k_X4_askNumber hx hb hml hts hown hK hA hE hst9 (by decide +kernel) ⟨Nat.le_of_ble_eq_true rfl, Nat.le_of_ble_eq_true rfl⟩ rfl rfl h
      · cases hn
    · intro pc E hE9; cases hE9
  refine wp_go hR9 (cs := S_X4_works) (Bk := (fun _ _ _ _ => False)) ?_ 400 0 _ _ _ _ _ h
  intro pc q vs ws t hc hk
  exact hk.elim
theorem k_X4_works (hx : p.tables.exec = Jvm.exec) (hb : c.code = b) (hml : c.maxLocals = nL) (hts : ∀ w ∈ LT, w.before args s = true) {own : String} (hown : s.vm.findClass own = some m.cls) (hK : va_K D vwCl (TYX X) s) (hA : ∀ q, s.heap.size ≤ q → A q) (hE : EX A s) (hst9 : l.stackTraces = false) {ix : Nat} (hl9 : Cond.methodLink own ix yX4_works ∈ LT) (hR : 2 ≤ R.frames ∧ 45 ≤ R.locals) (hmc : R.cells = mc) (hms : R.slots = ms) (h : PC_X4_works M as t k kx) : CallOK p l e R s m args below meth c Q D X ad A M nL b mc ms (.invokevirtual ix) 0 0 as t k kx := by
  unfold PC_X4_works at h
  split at h
  · exact call_V hx hb hml hts hown hK hA hE (c_X4_works hst9 _ _ _ t h.2) ⟨hl9, ws_X4_works.1, ws_X4_works.2.1, ws_X4_works.2.2.1, ws_X4_works.2.2.2⟩ (n := 2) (by decide +kernel) hR rfl rfl hmc hms rfl ⟨0, _, rfl, h.1, Or.inl rfl, rfl⟩
  · exact CallOK.congr (by simp only [List.map_cons]; congr 1; exact (if_neg h.1).symm) (call_V hx hb hml hts hown hK hA hE (c_X4_works hst9 _ _ _ t h.2.2) ⟨hl9, ws_X4_works.1, ws_X4_works.2.1, ws_X4_works.2.2.1, ws_X4_works.2.2.2⟩ (n := 2) (by decide +kernel) hR rfl rfl hmc hms rfl ⟨0, _, rfl, h.2.1, Or.inl rfl, rfl⟩)
  · exact h.elim
def Q_X4_askThat (M : Nat → Nat → Bool) (ix : Nat) (as : List VV) (t : TT) (k : Option VV → TT → Prop) (kx : String → TT → Prop) : Prop := False
def N_X4_askThat (v : Bool) (ix : Nat) : Option (Nat × Nat × Nat) := none
def S_X4_askThat (pc : Nat) : Option (List (Nat × Nat × Nat) × List (Nat × Nat) × Nat × Nat) := none
def H_X4_askThat (pc : Nat) : Option String := match pc with
  | 4 => some ISE9
  | _ => none
set_option maxRecDepth 100000 in
set_option maxHeartbeats 4000000 in
theorem c_X4_askThat {l : Launch} (hst9 : l.stackTraces = false) {D : va_G} {X : Nat → ClassId} {ad : Nat → Nat → Nat} {M : Nat → Nat → Bool} {post : Option VV → TT → Prop} {px : String → TT → Prop} (a0 : Int32) (t : TT) (h : P_X4_askThat M (fun t1 => post none t1) px a0 t) : CT l yX4_askThat (Cond.code yX4_askThat cX4_askThat 1 none :: LT) ({ frames := 0, cells := 0, slots := 0, locals := 0 } : Room) D X ad M [.inl a0] t 0 0 post px := by
  refine met_of_wp (by decide +kernel) (Nat.le_of_ble_eq_true rfl) ?_
  intro p e s m args below meth c A hx hb hml hts hown hK hnt hlocks hr hA hE
  have hR9 : Ready p l e ({ frames := 0, cells := 0, slots := 0, locals := 0 } : Room) s m args below meth c D X ad A M 1 cX4_askThat 0 0 post px RX4 0 (fldOf F_X4) N_X4_askThat (Q_X4_askThat M) (tabOf T_X4_askThat) H_X4_askThat := by
    refine ⟨hx, hb, hts, hown, hK, hnt, hlocks, hr, F_X4_ok, ?_, fun pc en h => tabOf_ok T_X4_askThat_ok h, ?_⟩
    · intro v9 ix n mc1 ms1 as t k hn hl h
      unfold N_X4_askThat at hn
      cases hn
    · exact fun pc E hE9 loc st t cl sl hp h1 h2 h8 => absurd h1 (Nat.not_succ_le_zero _)
  refine wp_go hR9 (cs := S_X4_askThat) (Bk := (fun _ _ _ _ => False)) ?_ 400 0 _ _ _ _ _ h
  intro pc q vs ws t hc hk
  exact hk.elim
theorem k_X4_askThat (hx : p.tables.exec = Jvm.exec) (hb : c.code = b) (hml : c.maxLocals = nL) (hts : ∀ w ∈ LT, w.before args s = true) {own : String} (hown : s.vm.findClass own = some m.cls) (hK : va_K D vwCl (TYX X) s) (hA : ∀ q, s.heap.size ≤ q → A q) (hE : EX A s) (hst9 : l.stackTraces = false) {ix : Nat} (hl9 : Cond.methodLink own ix yX4_askThat ∈ LT) (hR : 1 ≤ R.frames ∧ 20 ≤ R.locals) (hmc : R.cells = mc) (hms : R.slots = ms) (h : PC_X4_askThat M as t k kx) : CallOK p l e R s m args below meth c Q D X ad A M nL b mc ms (.invokestatic ix) 0 0 as t k kx := by
  unfold PC_X4_askThat at h
  split at h
  · exact call_S hx hb hml hts hown hK hA hE (c_X4_askThat hst9 _ t h) ⟨hl9, ws_X4_askThat.1, ws_X4_askThat.2.1, ws_X4_askThat.2.2⟩ (n := 1) (by decide +kernel) hR rfl rfl hmc hms rfl
  · exact h.elim
def Q_X4_canBeClosed (M : Nat → Nat → Bool) (ix : Nat) (as : List VV) (t : TT) (k : Option VV → TT → Prop) (kx : String → TT → Prop) : Prop := match ix with
  | 115 => PC_X2_keeps M as t k kx
  | 179 => PC_X2_mayCover M as t k kx
  | _ => False
def N_X4_canBeClosed (v : Bool) (ix : Nat) : Option (Nat × Nat × Nat) := match v, ix with
  | true, 115 => some (2, 0, 0)
  | true, 179 => some (3, 0, 0)
  | _, _ => none
def S_X4_canBeClosed (pc : Nat) : Option (List (Nat × Nat × Nat) × List (Nat × Nat) × Nat × Nat) := match pc with
  | 58 => some ([(0, 1, 0), (1, 1, 7), (2, 0, 0)], [], 0, 0)
  | 2 => some ([(0, 1, 0), (1, 1, 7), (2, 0, 0)], [], 0, 0)
  | _ => none
def H_X4_canBeClosed (pc : Nat) : Option String := none
set_option maxRecDepth 100000 in
set_option maxHeartbeats 4000000 in
theorem c_X4_canBeClosed {l : Launch} (hst9 : l.stackTraces = false) {D : va_G} {X : Nat → ClassId} {ad : Nat → Nat → Nat} {M : Nat → Nat → Bool} {post : Option VV → TT → Prop} {px : String → TT → Prop} (o0 : Nat) (o1 : Nat) (t : TT) (h : P_X4_canBeClosed M (fun r t1 => post (some (.inl r)) t1) px o0 o1 t) : CT l yX4_canBeClosed (Cond.code yX4_canBeClosed cX4_canBeClosed 4 (some .boolean) :: LT) ({ frames := 2, cells := 0, slots := 0, locals := 42 } : Room) D X ad M [.inr (.inl (0, o0)), .inr (.inl (7, o1))] t 0 0 post px := by
  refine met_of_wp (by decide +kernel) (Nat.le_of_ble_eq_true rfl) ?_
  intro p e s m args below meth c A hx hb hml hts hown hK hnt hlocks hr hA hE
  have hR9 : Ready p l e ({ frames := 2, cells := 0, slots := 0, locals := 42 } : Room) s m args below meth c D X ad A M 4 cX4_canBeClosed 0 0 post px RX4 2 (fldOf F_X4) N_X4_canBeClosed (Q_X4_canBeClosed M) (tabOf T_X4_canBeClosed) H_X4_canBeClosed := by
    refine ⟨hx, hb, hts, hown, hK, hnt, hlocks, hr, F_X4_ok, ?_, fun pc en h => tabOf_ok T_X4_canBeClosed_ok h, ?_⟩
    · intro v9 ix n mc1 ms1 as t k hn hl h
      unfold N_X4_canBeClosed at hn
      split at hn
      · cases hn
        exact k_X2_keeps hx hb hml hts hown hK hA hE hst9 (by decide +kernel) ⟨Nat.le_of_ble_eq_true rfl, Nat.le_of_ble_eq_true rfl⟩ rfl rfl h
      · cases hn
        exact k_X2_mayCover hx hb hml hts hown hK hA hE hst9 (by decide +kernel) ⟨Nat.le_of_ble_eq_true rfl, Nat.le_of_ble_eq_true rfl⟩ rfl rfl h
      · cases hn
    · intro pc E hE9; cases hE9
  have W58 : ∀ (k2 : Nat → Nat → Int32 → TT → Prop) (hk2 : ∀ (o0 : Nat) (o1 : Nat) (a2 : Int32) (t : TT), k2 o0 o1 a2 t → Wat p l e ({ frames := 2, cells := 0, slots := 0, locals := 42 } : Room) s m args below meth c (QM below args s D X ad A M 0 0 post px) D X ad A M 4 2 [(0, .inr (.inl (0, o0))), (1, .inr (.inl (7, o1))), (2, .inl a2)] [] t 0 0) (o0 : Nat) (o1 : Nat) (a2 : Int32) (t : TT), B_X4_canBeClosed_58 M (fun r t1 => post (some (.inl r)) t1) px k2 o0 o1 a2 t → Wat p l e ({ frames := 2, cells := 0, slots := 0, locals := 42 } : Room) s m args below meth c (QM below args s D X ad A M 0 0 post px) D X ad A M 4 58 [(0, .inr (.inl (0, o0))), (1, .inr (.inl (7, o1))), (2, .inl a2)] [] t 0 0 := by
    intro k2 hk2 o0 o1 a2 t h
    refine wp_go hR9 (cs := S_X4_canBeClosed) (Bk := (fun pc vs ws t => match pc with | 2 => (match vs, ws with | [.inr (.inl (0, o0)), .inr (.inl (7, o1)), .inl a2], [] => k2 o0 o1 a2 t | _, _ => False) | _ => False)) ?_ 400 58 _ _ _ _ _ h
    intro pc q vs ws t hc hk
    split at hk
    · cases hc
      split at hk
      · exact hk2 _ _ _ _ hk
      · exact hk.elim
    · exact hk.elim
  have W2 : ∀ (n : Nat) (o0 : Nat) (o1 : Nat) (a2 : Int32) (t : TT), L_X4_canBeClosed_2 M (fun r t1 => post (some (.inl r)) t1) px n o0 o1 a2 t → Wat p l e ({ frames := 2, cells := 0, slots := 0, locals := 42 } : Room) s m args below meth c (QM below args s D X ad A M 0 0 post px) D X ad A M 4 2 [(0, .inr (.inl (0, o0))), (1, .inr (.inl (7, o1))), (2, .inl a2)] [] t 0 0 := by
    intro n
    induction n with
    | zero =>
      intro o0 o1 a2 t h
      exact h.elim
    | succ n ih =>
      intro o0 o1 a2 t h
      refine wp_go hR9 (cs := S_X4_canBeClosed) (Bk := (fun pc vs ws t => match pc with | 58 => (match vs, ws with | [.inr (.inl (0, o0)), .inr (.inl (7, o1)), .inl a2], [] => B_X4_canBeClosed_58 M (fun r t1 => post (some (.inl r)) t1) px (L_X4_canBeClosed_2 M (fun r t1 => post (some (.inl r)) t1) px n) o0 o1 a2 t | _, _ => False) | _ => False)) ?_ 400 2 _ _ _ _ _ h
      intro pc q vs ws t hc hk
      split at hk
      · cases hc
        split at hk
        · exact W58 _ ih _ _ _ _ hk
        · exact hk.elim
      · exact hk.elim
  refine wp_go hR9 (cs := S_X4_canBeClosed) (Bk := (fun pc vs ws t => match pc with | 2 => (match vs, ws with | [.inr (.inl (0, o0)), .inr (.inl (7, o1)), .inl a2], [] => ∃ n9, L_X4_canBeClosed_2 M (fun r t1 => post (some (.inl r)) t1) px n9 o0 o1 a2 t | _, _ => False) | _ => False)) ?_ 400 0 _ _ _ _ _ h
  intro pc q vs ws t hc hk
  split at hk
  · cases hc
    split at hk
    · obtain ⟨n9, hk⟩ := hk
      exact W2 n9 _ _ _ _ hk
    · exact hk.elim
  · exact hk.elim
theorem k_X4_canBeClosed (hx : p.tables.exec = Jvm.exec) (hb : c.code = b) (hml : c.maxLocals = nL) (hts : ∀ w ∈ LT, w.before args s = true) {own : String} (hown : s.vm.findClass own = some m.cls) (hK : va_K D vwCl (TYX X) s) (hA : ∀ q, s.heap.size ≤ q → A q) (hE : EX A s) (hst9 : l.stackTraces = false) {ix : Nat} (hl9 : Cond.methodLink own ix yX4_canBeClosed ∈ LT) (hR : 3 ≤ R.frames ∧ 65 ≤ R.locals) (hmc : R.cells = mc) (hms : R.slots = ms) (h : PC_X4_canBeClosed M as t k kx) : CallOK p l e R s m args below meth c Q D X ad A M nL b mc ms (.invokevirtual ix) 0 0 as t k kx := by
  unfold PC_X4_canBeClosed at h
  split at h
  · exact call_V hx hb hml hts hown hK hA hE (c_X4_canBeClosed hst9 _ _ t h.2) ⟨hl9, ws_X4_canBeClosed.1, ws_X4_canBeClosed.2.1, ws_X4_canBeClosed.2.2.1, ws_X4_canBeClosed.2.2.2⟩ (n := 1) (by decide +kernel) hR rfl rfl hmc hms rfl ⟨0, _, rfl, h.1, Or.inl rfl, rfl⟩
  · exact CallOK.congr (by simp only [List.map_cons]; congr 1; exact (if_neg h.1).symm) (call_V hx hb hml hts hown hK hA hE (c_X4_canBeClosed hst9 _ _ t h.2.2) ⟨hl9, ws_X4_canBeClosed.1, ws_X4_canBeClosed.2.1, ws_X4_canBeClosed.2.2.1, ws_X4_canBeClosed.2.2.2⟩ (n := 1) (by decide +kernel) hR rfl rfl hmc hms rfl ⟨0, _, rfl, h.2.1, Or.inl rfl, rfl⟩)
  · exact h.elim
def Q_X4_oneAheadOf (M : Nat → Nat → Bool) (ix : Nat) (as : List VV) (t : TT) (k : Option VV → TT → Prop) (kx : String → TT → Prop) : Prop := False
def N_X4_oneAheadOf (v : Bool) (ix : Nat) : Option (Nat × Nat × Nat) := none
def S_X4_oneAheadOf (pc : Nat) : Option (List (Nat × Nat × Nat) × List (Nat × Nat) × Nat × Nat) := match pc with
  | 51 => some ([(0, 1, 0), (1, 1, 8), (2, 2, 8), (3, 0, 0)], [], 0, 0)
  | 48 => some ([(0, 1, 0), (1, 1, 8), (3, 0, 0), (4, 1, 8)], [], 0, 0)
  | 4 => some ([(0, 1, 0), (1, 1, 8), (2, 2, 8), (3, 0, 0)], [], 0, 0)
  | _ => none
def H_X4_oneAheadOf (pc : Nat) : Option String := none
set_option maxRecDepth 100000 in
set_option maxHeartbeats 4000000 in
theorem c_X4_oneAheadOf {l : Launch} (hst9 : l.stackTraces = false) {D : va_G} {X : Nat → ClassId} {ad : Nat → Nat → Nat} {M : Nat → Nat → Bool} {post : Option VV → TT → Prop} {px : String → TT → Prop} (o0 : Nat) (o1 : Nat) (t : TT) (h : P_X4_oneAheadOf M (fun r t1 => post (some (.inr (.inr (8, r)))) t1) px o0 o1 t) : CT l yX4_oneAheadOf (Cond.code yX4_oneAheadOf cX4_oneAheadOf 5 (some (.object "HeadwayDeep$Train")) :: LT) ({ frames := 0, cells := 0, slots := 0, locals := 0 } : Room) D X ad M [.inr (.inl (0, o0)), .inr (.inl (8, o1))] t 0 0 post px := by
  refine met_of_wp (by decide +kernel) (Nat.le_of_ble_eq_true rfl) ?_
  intro p e s m args below meth c A hx hb hml hts hown hK hnt hlocks hr hA hE
  have hR9 : Ready p l e ({ frames := 0, cells := 0, slots := 0, locals := 0 } : Room) s m args below meth c D X ad A M 5 cX4_oneAheadOf 0 0 post px RX4 3 (fldOf F_X4) N_X4_oneAheadOf (Q_X4_oneAheadOf M) (tabOf T_X4_oneAheadOf) H_X4_oneAheadOf := by
    refine ⟨hx, hb, hts, hown, hK, hnt, hlocks, hr, F_X4_ok, ?_, fun pc en h => tabOf_ok T_X4_oneAheadOf_ok h, ?_⟩
    · intro v9 ix n mc1 ms1 as t k hn hl h
      unfold N_X4_oneAheadOf at hn
      cases hn
    · intro pc E hE9; cases hE9
  have W51 : ∀ (k4 : Nat → Nat → Int32 → Int32 → TT → Prop) (hk4 : ∀ (o0 : Nat) (o1 : Nat) (q2 : Int32) (a3 : Int32) (t : TT), k4 o0 o1 q2 a3 t → Wat p l e ({ frames := 0, cells := 0, slots := 0, locals := 0 } : Room) s m args below meth c (QM below args s D X ad A M 0 0 post px) D X ad A M 5 4 [(0, .inr (.inl (0, o0))), (1, .inr (.inl (8, o1))), (2, .inr (.inr (8, q2))), (3, .inl a3)] [] t 0 0) (o0 : Nat) (o1 : Nat) (q2 : Int32) (a3 : Int32) (t : TT), B_X4_oneAheadOf_51 M (fun r t1 => post (some (.inr (.inr (8, r)))) t1) px k4 o0 o1 q2 a3 t → Wat p l e ({ frames := 0, cells := 0, slots := 0, locals := 0 } : Room) s m args below meth c (QM below args s D X ad A M 0 0 post px) D X ad A M 5 51 [(0, .inr (.inl (0, o0))), (1, .inr (.inl (8, o1))), (2, .inr (.inr (8, q2))), (3, .inl a3)] [] t 0 0 := by
    intro k4 hk4 o0 o1 q2 a3 t h
    refine wp_go hR9 (cs := S_X4_oneAheadOf) (Bk := (fun pc vs ws t => match pc with | 4 => (match vs, ws with | [.inr (.inl (0, o0)), .inr (.inl (8, o1)), .inr (.inr (8, q2)), .inl a3], [] => k4 o0 o1 q2 a3 t | _, _ => False) | _ => False)) ?_ 400 51 _ _ _ _ _ h
    intro pc q vs ws t hc hk
    split at hk
    · cases hc
      split at hk
      · exact hk4 _ _ _ _ _ hk
      · exact hk.elim
    · exact hk.elim
  have W48 : ∀ (k4 : Nat → Nat → Int32 → Int32 → TT → Prop) (hk4 : ∀ (o0 : Nat) (o1 : Nat) (q2 : Int32) (a3 : Int32) (t : TT), k4 o0 o1 q2 a3 t → Wat p l e ({ frames := 0, cells := 0, slots := 0, locals := 0 } : Room) s m args below meth c (QM below args s D X ad A M 0 0 post px) D X ad A M 5 4 [(0, .inr (.inl (0, o0))), (1, .inr (.inl (8, o1))), (2, .inr (.inr (8, q2))), (3, .inl a3)] [] t 0 0) (o0 : Nat) (o1 : Nat) (a3 : Int32) (o4 : Nat) (t : TT), B_X4_oneAheadOf_48 M (fun r t1 => post (some (.inr (.inr (8, r)))) t1) px k4 o0 o1 a3 o4 t → Wat p l e ({ frames := 0, cells := 0, slots := 0, locals := 0 } : Room) s m args below meth c (QM below args s D X ad A M 0 0 post px) D X ad A M 5 48 [(0, .inr (.inl (0, o0))), (1, .inr (.inl (8, o1))), (3, .inl a3), (4, .inr (.inl (8, o4)))] [] t 0 0 := by
    intro k4 hk4 o0 o1 a3 o4 t h
    refine wp_go hR9 (cs := S_X4_oneAheadOf) (Bk := (fun pc vs ws t => match pc with | 51 => (match vs, ws with | [.inr (.inl (0, o0)), .inr (.inl (8, o1)), .inr (.inr (8, q2)), .inl a3], [] => B_X4_oneAheadOf_51 M (fun r t1 => post (some (.inr (.inr (8, r)))) t1) px k4 o0 o1 q2 a3 t | _, _ => False) | _ => False)) ?_ 400 48 _ _ _ _ _ h
    intro pc q vs ws t hc hk
    split at hk
    · cases hc
      split at hk
      · exact W51 _ hk4 _ _ _ _ _ hk
      · exact hk.elim
    · exact hk.elim
  have W4 : ∀ (n : Nat) (o0 : Nat) (o1 : Nat) (q2 : Int32) (a3 : Int32) (t : TT), L_X4_oneAheadOf_4 M (fun r t1 => post (some (.inr (.inr (8, r)))) t1) px n o0 o1 q2 a3 t → Wat p l e ({ frames := 0, cells := 0, slots := 0, locals := 0 } : Room) s m args below meth c (QM below args s D X ad A M 0 0 post px) D X ad A M 5 4 [(0, .inr (.inl (0, o0))), (1, .inr (.inl (8, o1))), (2, .inr (.inr (8, q2))), (3, .inl a3)] [] t 0 0 := by
    intro n
    induction n with
    | zero =>
      intro o0 o1 q2 a3 t h
      exact h.elim
    | succ n ih =>
      intro o0 o1 q2 a3 t h
      refine wp_go hR9 (cs := S_X4_oneAheadOf) (Bk := (fun pc vs ws t => match pc with | 48 => (match vs, ws with | [.inr (.inl (0, o0)), .inr (.inl (8, o1)), .inl a3, .inr (.inl (8, o4))], [] => B_X4_oneAheadOf_48 M (fun r t1 => post (some (.inr (.inr (8, r)))) t1) px (L_X4_oneAheadOf_4 M (fun r t1 => post (some (.inr (.inr (8, r)))) t1) px n) o0 o1 a3 o4 t | _, _ => False) | 51 => (match vs, ws with | [.inr (.inl (0, o0)), .inr (.inl (8, o1)), .inr (.inr (8, q2)), .inl a3], [] => B_X4_oneAheadOf_51 M (fun r t1 => post (some (.inr (.inr (8, r)))) t1) px (L_X4_oneAheadOf_4 M (fun r t1 => post (some (.inr (.inr (8, r)))) t1) px n) o0 o1 q2 a3 t | _, _ => False) | _ => False)) ?_ 400 4 _ _ _ _ _ h
      intro pc q vs ws t hc hk
      split at hk
      · cases hc
        split at hk
        · exact W48 _ ih _ _ _ _ _ hk
        · exact hk.elim
      · cases hc
        split at hk
        · exact W51 _ ih _ _ _ _ _ hk
        · exact hk.elim
      · exact hk.elim
  refine wp_go hR9 (cs := S_X4_oneAheadOf) (Bk := (fun pc vs ws t => match pc with | 4 => (match vs, ws with | [.inr (.inl (0, o0)), .inr (.inl (8, o1)), .inr (.inr (8, q2)), .inl a3], [] => ∃ n9, L_X4_oneAheadOf_4 M (fun r t1 => post (some (.inr (.inr (8, r)))) t1) px n9 o0 o1 q2 a3 t | _, _ => False) | _ => False)) ?_ 400 0 _ _ _ _ _ h
  intro pc q vs ws t hc hk
  split at hk
  · cases hc
    split at hk
    · obtain ⟨n9, hk⟩ := hk
      exact W4 n9 _ _ _ _ _ hk
    · exact hk.elim
  · exact hk.elim
theorem k_X4_oneAheadOf (hx : p.tables.exec = Jvm.exec) (hb : c.code = b) (hml : c.maxLocals = nL) (hts : ∀ w ∈ LT, w.before args s = true) {own : String} (hown : s.vm.findClass own = some m.cls) (hK : va_K D vwCl (TYX X) s) (hA : ∀ q, s.heap.size ≤ q → A q) (hE : EX A s) (hst9 : l.stackTraces = false) {ix : Nat} (hl9 : Cond.methodLink own ix yX4_oneAheadOf ∈ LT) (hR : 1 ≤ R.frames ∧ 24 ≤ R.locals) (hmc : R.cells = mc) (hms : R.slots = ms) (h : PC_X4_oneAheadOf M as t k kx) : CallOK p l e R s m args below meth c Q D X ad A M nL b mc ms (.invokevirtual ix) 0 0 as t k kx := by
  unfold PC_X4_oneAheadOf at h
  split at h
  · exact call_V hx hb hml hts hown hK hA hE (c_X4_oneAheadOf hst9 _ _ t h.2) ⟨hl9, ws_X4_oneAheadOf.1, ws_X4_oneAheadOf.2.1, ws_X4_oneAheadOf.2.2.1, ws_X4_oneAheadOf.2.2.2⟩ (n := 1) (by decide +kernel) hR rfl rfl hmc hms rfl ⟨0, _, rfl, h.1, Or.inl rfl, rfl⟩
  · exact CallOK.congr (by simp only [List.map_cons]; congr 1; exact (if_neg h.1).symm) (call_V hx hb hml hts hown hK hA hE (c_X4_oneAheadOf hst9 _ _ t h.2.2) ⟨hl9, ws_X4_oneAheadOf.1, ws_X4_oneAheadOf.2.1, ws_X4_oneAheadOf.2.2.1, ws_X4_oneAheadOf.2.2.2⟩ (n := 1) (by decide +kernel) hR rfl rfl hmc hms rfl ⟨0, _, rfl, h.2.1, Or.inl rfl, rfl⟩)
  · exact h.elim
def Q_X4_limitFor (M : Nat → Nat → Bool) (ix : Nat) (as : List VV) (t : TT) (k : Option VV → TT → Prop) (kx : String → TT → Prop) : Prop := match ix with
  | 138 => PC_mmin as t k
  | 214 => PC_X4_oneAheadOf M as t k kx
  | _ => False
def N_X4_limitFor (v : Bool) (ix : Nat) : Option (Nat × Nat × Nat) := match v, ix with
  | false, 138 => some (2, 0, 0)
  | true, 214 => some (2, 0, 0)
  | _, _ => none
def S_X4_limitFor (pc : Nat) : Option (List (Nat × Nat × Nat) × List (Nat × Nat) × Nat × Nat) := match pc with
  | 77 => some ([(0, 1, 0), (1, 1, 8), (2, 0, 0), (4, 0, 0)], [], 0, 0)
  | 29 => some ([(0, 1, 0), (1, 1, 8), (2, 0, 0), (4, 0, 0)], [], 0, 0)
  | 26 => some ([(0, 1, 0), (1, 1, 8), (2, 0, 0)], [], 0, 0)
  | _ => none
def H_X4_limitFor (pc : Nat) : Option String := none
set_option maxRecDepth 100000 in
set_option maxHeartbeats 4000000 in
theorem c_X4_limitFor {l : Launch} (hst9 : l.stackTraces = false) {D : va_G} {X : Nat → ClassId} {ad : Nat → Nat → Nat} {M : Nat → Nat → Bool} {post : Option VV → TT → Prop} {px : String → TT → Prop} (o0 : Nat) (o1 : Nat) (t : TT) (h : P_X4_limitFor M (fun r t1 => post (some (.inl r)) t1) px o0 o1 t) : CT l yX4_limitFor (Cond.code yX4_limitFor cX4_limitFor 6 (some .int) :: LT) ({ frames := 1, cells := 0, slots := 0, locals := 24 } : Room) D X ad M [.inr (.inl (0, o0)), .inr (.inl (8, o1))] t 0 0 post px := by
  refine met_of_wp (by decide +kernel) (Nat.le_of_ble_eq_true rfl) ?_
  intro p e s m args below meth c A hx hb hml hts hown hK hnt hlocks hr hA hE
  have hR9 : Ready p l e ({ frames := 1, cells := 0, slots := 0, locals := 24 } : Room) s m args below meth c D X ad A M 6 cX4_limitFor 0 0 post px RX4 1 (fldOf F_X4) N_X4_limitFor (Q_X4_limitFor M) (tabOf T_X4_limitFor) H_X4_limitFor := by
    refine ⟨hx, hb, hts, hown, hK, hnt, hlocks, hr, F_X4_ok, ?_, fun pc en h => tabOf_ok T_X4_limitFor_ok h, ?_⟩
    · intro v9 ix n mc1 ms1 as t k hn hl h
      unfold N_X4_limitFor at hn
      split at hn
      · cases hn
        exact k_mmin hx hb hml hts hown (by decide +kernel) ⟨Nat.le_of_ble_eq_true rfl, Nat.le_of_ble_eq_true rfl⟩ rfl rfl h
      · cases hn
        exact k_X4_oneAheadOf hx hb hml hts hown hK hA hE hst9 (by decide +kernel) ⟨Nat.le_of_ble_eq_true rfl, Nat.le_of_ble_eq_true rfl⟩ rfl rfl h
      · cases hn
    · intro pc E hE9; cases hE9
  have W77 : ∀ (k29 : Nat → Nat → Int32 → Int32 → TT → Prop) (hk29 : ∀ (o0 : Nat) (o1 : Nat) (a2 : Int32) (a4 : Int32) (t : TT), k29 o0 o1 a2 a4 t → Wat p l e ({ frames := 1, cells := 0, slots := 0, locals := 24 } : Room) s m args below meth c (QM below args s D X ad A M 0 0 post px) D X ad A M 6 29 [(0, .inr (.inl (0, o0))), (1, .inr (.inl (8, o1))), (2, .inl a2), (4, .inl a4)] [] t 0 0) (o0 : Nat) (o1 : Nat) (a2 : Int32) (a4 : Int32) (t : TT), B_X4_limitFor_77 M (fun r t1 => post (some (.inl r)) t1) px k29 o0 o1 a2 a4 t → Wat p l e ({ frames := 1, cells := 0, slots := 0, locals := 24 } : Room) s m args below meth c (QM below args s D X ad A M 0 0 post px) D X ad A M 6 77 [(0, .inr (.inl (0, o0))), (1, .inr (.inl (8, o1))), (2, .inl a2), (4, .inl a4)] [] t 0 0 := by
    intro k29 hk29 o0 o1 a2 a4 t h
    refine wp_go hR9 (cs := S_X4_limitFor) (Bk := (fun pc vs ws t => match pc with | 29 => (match vs, ws with | [.inr (.inl (0, o0)), .inr (.inl (8, o1)), .inl a2, .inl a4], [] => k29 o0 o1 a2 a4 t | _, _ => False) | _ => False)) ?_ 400 77 _ _ _ _ _ h
    intro pc q vs ws t hc hk
    split at hk
    · cases hc
      split at hk
      · exact hk29 _ _ _ _ _ hk
      · exact hk.elim
    · exact hk.elim
  have W29 : ∀ (n : Nat) (o0 : Nat) (o1 : Nat) (a2 : Int32) (a4 : Int32) (t : TT), L_X4_limitFor_29 M (fun r t1 => post (some (.inl r)) t1) px n o0 o1 a2 a4 t → Wat p l e ({ frames := 1, cells := 0, slots := 0, locals := 24 } : Room) s m args below meth c (QM below args s D X ad A M 0 0 post px) D X ad A M 6 29 [(0, .inr (.inl (0, o0))), (1, .inr (.inl (8, o1))), (2, .inl a2), (4, .inl a4)] [] t 0 0 := by
    intro n
    induction n with
    | zero =>
      intro o0 o1 a2 a4 t h
      exact h.elim
    | succ n ih =>
      intro o0 o1 a2 a4 t h
      refine wp_go hR9 (cs := S_X4_limitFor) (Bk := (fun pc vs ws t => match pc with | 77 => (match vs, ws with | [.inr (.inl (0, o0)), .inr (.inl (8, o1)), .inl a2, .inl a4], [] => B_X4_limitFor_77 M (fun r t1 => post (some (.inl r)) t1) px (L_X4_limitFor_29 M (fun r t1 => post (some (.inl r)) t1) px n) o0 o1 a2 a4 t | _, _ => False) | _ => False)) ?_ 400 29 _ _ _ _ _ h
      intro pc q vs ws t hc hk
      split at hk
      · cases hc
        split at hk
        · exact W77 _ ih _ _ _ _ _ hk
        · exact hk.elim
      · exact hk.elim
  have W26 : ∀ (o0 : Nat) (o1 : Nat) (a2 : Int32) (t : TT), B_X4_limitFor_26 M (fun r t1 => post (some (.inl r)) t1) px o0 o1 a2 t → Wat p l e ({ frames := 1, cells := 0, slots := 0, locals := 24 } : Room) s m args below meth c (QM below args s D X ad A M 0 0 post px) D X ad A M 6 26 [(0, .inr (.inl (0, o0))), (1, .inr (.inl (8, o1))), (2, .inl a2)] [] t 0 0 := by
    intro o0 o1 a2 t h
    refine wp_go hR9 (cs := S_X4_limitFor) (Bk := (fun pc vs ws t => match pc with | 29 => (match vs, ws with | [.inr (.inl (0, o0)), .inr (.inl (8, o1)), .inl a2, .inl a4], [] => ∃ n9, L_X4_limitFor_29 M (fun r t1 => post (some (.inl r)) t1) px n9 o0 o1 a2 a4 t | _, _ => False) | _ => False)) ?_ 400 26 _ _ _ _ _ h
    intro pc q vs ws t hc hk
    split at hk
    · cases hc
      split at hk
      · obtain ⟨n9, hk⟩ := hk
        exact W29 n9 _ _ _ _ _ hk
      · exact hk.elim
    · exact hk.elim
  refine wp_go hR9 (cs := S_X4_limitFor) (Bk := (fun pc vs ws t => match pc with | 26 => (match vs, ws with | [.inr (.inl (0, o0)), .inr (.inl (8, o1)), .inl a2], [] => B_X4_limitFor_26 M (fun r t1 => post (some (.inl r)) t1) px o0 o1 a2 t | _, _ => False) | _ => False)) ?_ 400 0 _ _ _ _ _ h
  intro pc q vs ws t hc hk
  split at hk
  · cases hc
    split at hk
    · exact W26 _ _ _ _ hk
    · exact hk.elim
  · exact hk.elim
theorem k_X4_limitFor (hx : p.tables.exec = Jvm.exec) (hb : c.code = b) (hml : c.maxLocals = nL) (hts : ∀ w ∈ LT, w.before args s = true) {own : String} (hown : s.vm.findClass own = some m.cls) (hK : va_K D vwCl (TYX X) s) (hA : ∀ q, s.heap.size ≤ q → A q) (hE : EX A s) (hst9 : l.stackTraces = false) {ix : Nat} (hl9 : Cond.methodLink own ix yX4_limitFor ∈ LT) (hR : 2 ≤ R.frames ∧ 49 ≤ R.locals) (hmc : R.cells = mc) (hms : R.slots = ms) (h : PC_X4_limitFor M as t k kx) : CallOK p l e R s m args below meth c Q D X ad A M nL b mc ms (.invokevirtual ix) 0 0 as t k kx := by
  unfold PC_X4_limitFor at h
  split at h
  · exact call_V hx hb hml hts hown hK hA hE (c_X4_limitFor hst9 _ _ t h.2) ⟨hl9, ws_X4_limitFor.1, ws_X4_limitFor.2.1, ws_X4_limitFor.2.2.1, ws_X4_limitFor.2.2.2⟩ (n := 1) (by decide +kernel) hR rfl rfl hmc hms rfl ⟨0, _, rfl, h.1, Or.inl rfl, rfl⟩
  · exact CallOK.congr (by simp only [List.map_cons]; congr 1; exact (if_neg h.1).symm) (call_V hx hb hml hts hown hK hA hE (c_X4_limitFor hst9 _ _ t h.2.2) ⟨hl9, ws_X4_limitFor.1, ws_X4_limitFor.2.1, ws_X4_limitFor.2.2.1, ws_X4_limitFor.2.2.2⟩ (n := 1) (by decide +kernel) hR rfl rfl hmc hms rfl ⟨0, _, rfl, h.2.1, Or.inl rfl, rfl⟩)
  · exact h.elim
def Q_X4_dealLimits (M : Nat → Nat → Bool) (ix : Nat) (as : List VV) (t : TT) (k : Option VV → TT → Prop) (kx : String → TT → Prop) : Prop := match ix with
  | 207 => PC_X4_limitFor M as t k kx
  | _ => False
def N_X4_dealLimits (v : Bool) (ix : Nat) : Option (Nat × Nat × Nat) := match v, ix with
  | true, 207 => some (2, 0, 0)
  | _, _ => none
def S_X4_dealLimits (pc : Nat) : Option (List (Nat × Nat × Nat) × List (Nat × Nat) × Nat × Nat) := match pc with
  | 33 => some ([(0, 1, 0), (1, 0, 0)], [], 0, 0)
  | 2 => some ([(0, 1, 0), (1, 0, 0)], [], 0, 0)
  | _ => none
def H_X4_dealLimits (pc : Nat) : Option String := none
set_option maxRecDepth 100000 in
set_option maxHeartbeats 4000000 in
theorem c_X4_dealLimits {l : Launch} (hst9 : l.stackTraces = false) {D : va_G} {X : Nat → ClassId} {ad : Nat → Nat → Nat} {M : Nat → Nat → Bool} {post : Option VV → TT → Prop} {px : String → TT → Prop} (o0 : Nat) (t : TT) (h : P_X4_dealLimits M (fun t1 => post none t1) px o0 t) : CT l yX4_dealLimits (Cond.code yX4_dealLimits cX4_dealLimits 3 none :: LT) ({ frames := 2, cells := 0, slots := 0, locals := 49 } : Room) D X ad M [.inr (.inl (0, o0))] t 0 0 post px := by
  refine met_of_wp (by decide +kernel) (Nat.le_of_ble_eq_true rfl) ?_
  intro p e s m args below meth c A hx hb hml hts hown hK hnt hlocks hr hA hE
  have hR9 : Ready p l e ({ frames := 2, cells := 0, slots := 0, locals := 49 } : Room) s m args below meth c D X ad A M 3 cX4_dealLimits 0 0 post px RX4 0 (fldOf F_X4) N_X4_dealLimits (Q_X4_dealLimits M) (tabOf T_X4_dealLimits) H_X4_dealLimits := by
    refine ⟨hx, hb, hts, hown, hK, hnt, hlocks, hr, F_X4_ok, ?_, fun pc en h => tabOf_ok T_X4_dealLimits_ok h, ?_⟩
    · intro v9 ix n mc1 ms1 as t k hn hl h
      unfold N_X4_dealLimits at hn
      split at hn
      · cases hn
        exact k_X4_limitFor hx hb hml hts hown hK hA hE hst9 (by decide +kernel) ⟨Nat.le_of_ble_eq_true rfl, Nat.le_of_ble_eq_true rfl⟩ rfl rfl h
      · cases hn
    · intro pc E hE9; cases hE9
  have W33 : ∀ (k2 : Nat → Int32 → TT → Prop) (hk2 : ∀ (o0 : Nat) (a1 : Int32) (t : TT), k2 o0 a1 t → Wat p l e ({ frames := 2, cells := 0, slots := 0, locals := 49 } : Room) s m args below meth c (QM below args s D X ad A M 0 0 post px) D X ad A M 3 2 [(0, .inr (.inl (0, o0))), (1, .inl a1)] [] t 0 0) (o0 : Nat) (a1 : Int32) (t : TT), B_X4_dealLimits_33 M (fun t1 => post none t1) px k2 o0 a1 t → Wat p l e ({ frames := 2, cells := 0, slots := 0, locals := 49 } : Room) s m args below meth c (QM below args s D X ad A M 0 0 post px) D X ad A M 3 33 [(0, .inr (.inl (0, o0))), (1, .inl a1)] [] t 0 0 := by
    intro k2 hk2 o0 a1 t h
    refine wp_go hR9 (cs := S_X4_dealLimits) (Bk := (fun pc vs ws t => match pc with | 2 => (match vs, ws with | [.inr (.inl (0, o0)), .inl a1], [] => k2 o0 a1 t | _, _ => False) | _ => False)) ?_ 400 33 _ _ _ _ _ h
    intro pc q vs ws t hc hk
    split at hk
    · cases hc
      split at hk
      · exact hk2 _ _ _ hk
      · exact hk.elim
    · exact hk.elim
  have W2 : ∀ (n : Nat) (o0 : Nat) (a1 : Int32) (t : TT), L_X4_dealLimits_2 M (fun t1 => post none t1) px n o0 a1 t → Wat p l e ({ frames := 2, cells := 0, slots := 0, locals := 49 } : Room) s m args below meth c (QM below args s D X ad A M 0 0 post px) D X ad A M 3 2 [(0, .inr (.inl (0, o0))), (1, .inl a1)] [] t 0 0 := by
    intro n
    induction n with
    | zero =>
      intro o0 a1 t h
      exact h.elim
    | succ n ih =>
      intro o0 a1 t h
      refine wp_go hR9 (cs := S_X4_dealLimits) (Bk := (fun pc vs ws t => match pc with | 33 => (match vs, ws with | [.inr (.inl (0, o0)), .inl a1], [] => B_X4_dealLimits_33 M (fun t1 => post none t1) px (L_X4_dealLimits_2 M (fun t1 => post none t1) px n) o0 a1 t | _, _ => False) | _ => False)) ?_ 400 2 _ _ _ _ _ h
      intro pc q vs ws t hc hk
      split at hk
      · cases hc
        split at hk
        · exact W33 _ ih _ _ _ hk
        · exact hk.elim
      · exact hk.elim
  refine wp_go hR9 (cs := S_X4_dealLimits) (Bk := (fun pc vs ws t => match pc with | 2 => (match vs, ws with | [.inr (.inl (0, o0)), .inl a1], [] => ∃ n9, L_X4_dealLimits_2 M (fun t1 => post none t1) px n9 o0 a1 t | _, _ => False) | _ => False)) ?_ 400 0 _ _ _ _ _ h
  intro pc q vs ws t hc hk
  split at hk
  · cases hc
    split at hk
    · obtain ⟨n9, hk⟩ := hk
      exact W2 n9 _ _ _ hk
    · exact hk.elim
  · exact hk.elim
theorem k_X4_dealLimits (hx : p.tables.exec = Jvm.exec) (hb : c.code = b) (hml : c.maxLocals = nL) (hts : ∀ w ∈ LT, w.before args s = true) {own : String} (hown : s.vm.findClass own = some m.cls) (hK : va_K D vwCl (TYX X) s) (hA : ∀ q, s.heap.size ≤ q → A q) (hE : EX A s) (hst9 : l.stackTraces = false) {ix : Nat} (hl9 : Cond.methodLink own ix yX4_dealLimits ∈ LT) (hR : 3 ≤ R.frames ∧ 71 ≤ R.locals) (hmc : R.cells = mc) (hms : R.slots = ms) (h : PC_X4_dealLimits M as t k kx) : CallOK p l e R s m args below meth c Q D X ad A M nL b mc ms (.invokevirtual ix) 0 0 as t k kx := by
  unfold PC_X4_dealLimits at h
  split at h
  · exact call_V hx hb hml hts hown hK hA hE (c_X4_dealLimits hst9 _ t h.2) ⟨hl9, ws_X4_dealLimits.1, ws_X4_dealLimits.2.1, ws_X4_dealLimits.2.2.1, ws_X4_dealLimits.2.2.2⟩ (n := 0) (by decide +kernel) hR rfl rfl hmc hms rfl ⟨0, _, rfl, h.1, Or.inl rfl, rfl⟩
  · exact CallOK.congr (by simp only [List.map_cons]; congr 1; exact (if_neg h.1).symm) (call_V hx hb hml hts hown hK hA hE (c_X4_dealLimits hst9 _ t h.2.2) ⟨hl9, ws_X4_dealLimits.1, ws_X4_dealLimits.2.1, ws_X4_dealLimits.2.2.1, ws_X4_dealLimits.2.2.2⟩ (n := 0) (by decide +kernel) hR rfl rfl hmc hms rfl ⟨0, _, rfl, h.2.1, Or.inl rfl, rfl⟩)
  · exact h.elim
def Q_X4_close (M : Nat → Nat → Bool) (ix : Nat) (as : List VV) (t : TT) (k : Option VV → TT → Prop) (kx : String → TT → Prop) : Prop := match ix with
  | 44 => PC_X4_askThat M as t k kx
  | 57 => PC_X4_askNumber M as t k kx
  | 71 => PC_X4_canBeClosed M as t k kx
  | 75 => PC_X4_dealLimits M as t k kx
  | _ => False
def N_X4_close (v : Bool) (ix : Nat) : Option (Nat × Nat × Nat) := match v, ix with
  | false, 44 => some (1, 0, 0)
  | false, 57 => some (2, 0, 0)
  | true, 71 => some (2, 0, 0)
  | true, 75 => some (1, 0, 0)
  | _, _ => none
def S_X4_close (pc : Nat) : Option (List (Nat × Nat × Nat) × List (Nat × Nat) × Nat × Nat) := match pc with
  | 43 => some ([(0, 1, 0), (2, 0, 0), (3, 1, 7), (4, 0, 0)], [(0, 0)], 0, 0)
  | 38 => some ([(0, 1, 0), (2, 0, 0), (3, 1, 7), (4, 0, 0)], [], 0, 0)
  | _ => none
def H_X4_close (pc : Nat) : Option String := none
set_option maxRecDepth 100000 in
set_option maxHeartbeats 4000000 in
theorem c_X4_close {l : Launch} (hst9 : l.stackTraces = false) {D : va_G} {X : Nat → ClassId} {ad : Nat → Nat → Nat} {M : Nat → Nat → Bool} {post : Option VV → TT → Prop} {px : String → TT → Prop} (o0 : Nat) (a1 : Int32) (a2 : Int32) (t : TT) (h : P_X4_close M (fun r t1 => post (some (.inl r)) t1) px o0 a1 a2 t) : CT l yX4_close (Cond.code yX4_close cX4_close 5 (some .boolean) :: LT) ({ frames := 3, cells := 0, slots := 0, locals := 71 } : Room) D X ad M [.inr (.inl (0, o0)), .inl a1, .inl a2] t 0 0 post px := by
  refine met_of_wp (by decide +kernel) (Nat.le_of_ble_eq_true rfl) ?_
  intro p e s m args below meth c A hx hb hml hts hown hK hnt hlocks hr hA hE
  have hR9 : Ready p l e ({ frames := 3, cells := 0, slots := 0, locals := 71 } : Room) s m args below meth c D X ad A M 5 cX4_close 0 0 post px RX4 2 (fldOf F_X4) N_X4_close (Q_X4_close M) (tabOf T_X4_close) H_X4_close := by
    refine ⟨hx, hb, hts, hown, hK, hnt, hlocks, hr, F_X4_ok, ?_, fun pc en h => tabOf_ok T_X4_close_ok h, ?_⟩
    · intro v9 ix n mc1 ms1 as t k hn hl h
      unfold N_X4_close at hn
      split at hn
      · cases hn
        exact k_X4_askThat hx hb hml hts hown hK hA hE hst9 (by decide +kernel) ⟨Nat.le_of_ble_eq_true rfl, Nat.le_of_ble_eq_true rfl⟩ rfl rfl h
      · cases hn
        exact k_X4_askNumber hx hb hml hts hown hK hA hE hst9 (by decide +kernel) ⟨Nat.le_of_ble_eq_true rfl, Nat.le_of_ble_eq_true rfl⟩ rfl rfl h
      · cases hn
        exact k_X4_canBeClosed hx hb hml hts hown hK hA hE hst9 (by decide +kernel) ⟨Nat.le_of_ble_eq_true rfl, Nat.le_of_ble_eq_true rfl⟩ rfl rfl h
      · cases hn
        exact k_X4_dealLimits hx hb hml hts hown hK hA hE hst9 (by decide +kernel) ⟨Nat.le_of_ble_eq_true rfl, Nat.le_of_ble_eq_true rfl⟩ rfl rfl h
      · cases hn
    · intro pc E hE9; cases hE9
  have W43 : ∀ (o0 : Nat) (a2 : Int32) (o3 : Nat) (a4 : Int32) (s0 : Int32) (t : TT), B_X4_close_43 M (fun r t1 => post (some (.inl r)) t1) px o0 a2 o3 a4 s0 t → Wat p l e ({ frames := 3, cells := 0, slots := 0, locals := 71 } : Room) s m args below meth c (QM below args s D X ad A M 0 0 post px) D X ad A M 5 43 [(0, .inr (.inl (0, o0))), (2, .inl a2), (3, .inr (.inl (7, o3))), (4, .inl a4)] [.inl s0] t 0 0 := by
    intro o0 a2 o3 a4 s0 t h
    refine wp_go hR9 (cs := S_X4_close) (Bk := (fun _ _ _ _ => False)) ?_ 400 43 _ _ _ _ _ h
    intro pc q vs ws t hc hk
    exact hk.elim
  have W38 : ∀ (o0 : Nat) (a2 : Int32) (o3 : Nat) (a4 : Int32) (t : TT), B_X4_close_38 M (fun r t1 => post (some (.inl r)) t1) px o0 a2 o3 a4 t → Wat p l e ({ frames := 3, cells := 0, slots := 0, locals := 71 } : Room) s m args below meth c (QM below args s D X ad A M 0 0 post px) D X ad A M 5 38 [(0, .inr (.inl (0, o0))), (2, .inl a2), (3, .inr (.inl (7, o3))), (4, .inl a4)] [] t 0 0 := by
    intro o0 a2 o3 a4 t h
    refine wp_go hR9 (cs := S_X4_close) (Bk := (fun pc vs ws t => match pc with | 43 => (match vs, ws with | [.inr (.inl (0, o0)), .inl a2, .inr (.inl (7, o3)), .inl a4], [.inl s0] => B_X4_close_43 M (fun r t1 => post (some (.inl r)) t1) px o0 a2 o3 a4 s0 t | _, _ => False) | _ => False)) ?_ 400 38 _ _ _ _ _ h
    intro pc q vs ws t hc hk
    split at hk
    · cases hc
      split at hk
      · exact W43 _ _ _ _ _ _ hk
      · exact hk.elim
    · exact hk.elim
  refine wp_go hR9 (cs := S_X4_close) (Bk := (fun pc vs ws t => match pc with | 38 => (match vs, ws with | [.inr (.inl (0, o0)), .inl a2, .inr (.inl (7, o3)), .inl a4], [] => B_X4_close_38 M (fun r t1 => post (some (.inl r)) t1) px o0 a2 o3 a4 t | _, _ => False) | 43 => (match vs, ws with | [.inr (.inl (0, o0)), .inl a2, .inr (.inl (7, o3)), .inl a4], [.inl s0] => B_X4_close_43 M (fun r t1 => post (some (.inl r)) t1) px o0 a2 o3 a4 s0 t | _, _ => False) | _ => False)) ?_ 400 0 _ _ _ _ _ h
  intro pc q vs ws t hc hk
  split at hk
  · cases hc
    split at hk
    · exact W38 _ _ _ _ _ hk
    · exact hk.elim
  · cases hc
    split at hk
    · exact W43 _ _ _ _ _ _ hk
    · exact hk.elim
  · exact hk.elim
theorem k_X4_close (hx : p.tables.exec = Jvm.exec) (hb : c.code = b) (hml : c.maxLocals = nL) (hts : ∀ w ∈ LT, w.before args s = true) {own : String} (hown : s.vm.findClass own = some m.cls) (hK : va_K D vwCl (TYX X) s) (hA : ∀ q, s.heap.size ≤ q → A q) (hE : EX A s) (hst9 : l.stackTraces = false) {ix : Nat} (hl9 : Cond.methodLink own ix yX4_close ∈ LT) (hR : 4 ≤ R.frames ∧ 95 ≤ R.locals) (hmc : R.cells = mc) (hms : R.slots = ms) (h : PC_X4_close M as t k kx) : CallOK p l e R s m args below meth c Q D X ad A M nL b mc ms (.invokevirtual ix) 0 0 as t k kx := by
  unfold PC_X4_close at h
  split at h
  · exact call_V hx hb hml hts hown hK hA hE (c_X4_close hst9 _ _ _ t h.2) ⟨hl9, ws_X4_close.1, ws_X4_close.2.1, ws_X4_close.2.2.1, ws_X4_close.2.2.2⟩ (n := 2) (by decide +kernel) hR rfl rfl hmc hms rfl ⟨0, _, rfl, h.1, Or.inl rfl, rfl⟩
  · exact CallOK.congr (by simp only [List.map_cons]; congr 1; exact (if_neg h.1).symm) (call_V hx hb hml hts hown hK hA hE (c_X4_close hst9 _ _ _ t h.2.2) ⟨hl9, ws_X4_close.1, ws_X4_close.2.1, ws_X4_close.2.2.1, ws_X4_close.2.2.2⟩ (n := 2) (by decide +kernel) hR rfl rfl hmc hms rfl ⟨0, _, rfl, h.2.1, Or.inl rfl, rfl⟩)
  · exact h.elim
def Q_X4_askRange (M : Nat → Nat → Bool) (ix : Nat) (as : List VV) (t : TT) (k : Option VV → TT → Prop) (kx : String → TT → Prop) : Prop := False
def N_X4_askRange (v : Bool) (ix : Nat) : Option (Nat × Nat × Nat) := none
def S_X4_askRange (pc : Nat) : Option (List (Nat × Nat × Nat) × List (Nat × Nat) × Nat × Nat) := match pc with
  | 10 => some ([], [], 0, 0)
  | _ => none
def H_X4_askRange (pc : Nat) : Option String := match pc with
  | 10 => some IAE9
  | _ => none
set_option maxRecDepth 100000 in
set_option maxHeartbeats 4000000 in
theorem c_X4_askRange {l : Launch} (hst9 : l.stackTraces = false) {D : va_G} {X : Nat → ClassId} {ad : Nat → Nat → Nat} {M : Nat → Nat → Bool} {post : Option VV → TT → Prop} {px : String → TT → Prop} (a0 : Int32) (a1 : Int32) (a2 : Int32) (t : TT) (h : P_X4_askRange M (fun t1 => post none t1) px a0 a1 a2 t) : CT l yX4_askRange (Cond.code yX4_askRange cX4_askRange 3 none :: LT) ({ frames := 0, cells := 0, slots := 0, locals := 0 } : Room) D X ad M [.inl a0, .inl a1, .inl a2] t 0 0 post px := by
  refine met_of_wp (by decide +kernel) (Nat.le_of_ble_eq_true rfl) ?_
  intro p e s m args below meth c A hx hb hml hts hown hK hnt hlocks hr hA hE
  have hR9 : Ready p l e ({ frames := 0, cells := 0, slots := 0, locals := 0 } : Room) s m args below meth c D X ad A M 3 cX4_askRange 0 0 post px RX4 0 (fldOf F_X4) N_X4_askRange (Q_X4_askRange M) (tabOf T_X4_askRange) H_X4_askRange := by
    refine ⟨hx, hb, hts, hown, hK, hnt, hlocks, hr, F_X4_ok, ?_, fun pc en h => tabOf_ok T_X4_askRange_ok h, ?_⟩
    · intro v9 ix n mc1 ms1 as t k hn hl h
      unfold N_X4_askRange at hn
      cases hn
    · exact fun pc E hE9 loc st t cl sl hp h1 h2 h8 => absurd h1 (Nat.not_succ_le_zero _)
  have W10 : ∀ (t : TT), B_X4_askRange_10 M (fun t1 => post none t1) px t → Wat p l e ({ frames := 0, cells := 0, slots := 0, locals := 0 } : Room) s m args below meth c (QM below args s D X ad A M 0 0 post px) D X ad A M 3 10 [] [] t 0 0 := by
    intro t h
    refine wp_go hR9 (cs := S_X4_askRange) (Bk := (fun _ _ _ _ => False)) ?_ 400 10 _ _ _ _ _ h
    intro pc q vs ws t hc hk
    exact hk.elim
  refine wp_go hR9 (cs := S_X4_askRange) (Bk := (fun pc vs ws t => match pc with | 10 => (match vs, ws with | [], [] => B_X4_askRange_10 M (fun t1 => post none t1) px t | _, _ => False) | _ => False)) ?_ 400 0 _ _ _ _ _ h
  intro pc q vs ws t hc hk
  split at hk
  · cases hc
    split at hk
    · exact W10 _ hk
    · exact hk.elim
  · exact hk.elim
theorem k_X4_askRange (hx : p.tables.exec = Jvm.exec) (hb : c.code = b) (hml : c.maxLocals = nL) (hts : ∀ w ∈ LT, w.before args s = true) {own : String} (hown : s.vm.findClass own = some m.cls) (hK : va_K D vwCl (TYX X) s) (hA : ∀ q, s.heap.size ≤ q → A q) (hE : EX A s) (hst9 : l.stackTraces = false) {ix : Nat} (hl9 : Cond.methodLink own ix yX4_askRange ∈ LT) (hR : 1 ≤ R.frames ∧ 22 ≤ R.locals) (hmc : R.cells = mc) (hms : R.slots = ms) (h : PC_X4_askRange M as t k kx) : CallOK p l e R s m args below meth c Q D X ad A M nL b mc ms (.invokestatic ix) 0 0 as t k kx := by
  unfold PC_X4_askRange at h
  split at h
  · exact call_S hx hb hml hts hown hK hA hE (c_X4_askRange hst9 _ _ _ t h) ⟨hl9, ws_X4_askRange.1, ws_X4_askRange.2.1, ws_X4_askRange.2.2⟩ (n := 3) (by decide +kernel) hR rfl rfl hmc hms rfl
  · exact h.elim
def Q_X4_speed (M : Nat → Nat → Bool) (ix : Nat) (as : List VV) (t : TT) (k : Option VV → TT → Prop) (kx : String → TT → Prop) : Prop := match ix with
  | 37 => PC_X4_askRange M as t k kx
  | _ => False
def N_X4_speed (v : Bool) (ix : Nat) : Option (Nat × Nat × Nat) := match v, ix with
  | false, 37 => some (3, 0, 0)
  | _, _ => none
def S_X4_speed (pc : Nat) : Option (List (Nat × Nat × Nat) × List (Nat × Nat) × Nat × Nat) := none
def H_X4_speed (pc : Nat) : Option String := none
set_option maxRecDepth 100000 in
set_option maxHeartbeats 4000000 in
theorem c_X4_speed {l : Launch} (hst9 : l.stackTraces = false) {D : va_G} {X : Nat → ClassId} {ad : Nat → Nat → Nat} {M : Nat → Nat → Bool} {post : Option VV → TT → Prop} {px : String → TT → Prop} (o0 : Nat) (a1 : Int32) (t : TT) (h : P_X4_speed M (fun r t1 => post (some (.inl r)) t1) px o0 a1 t) : CT l yX4_speed (Cond.code yX4_speed cX4_speed 3 (some .int) :: LT) ({ frames := 1, cells := 0, slots := 0, locals := 22 } : Room) D X ad M [.inr (.inl (0, o0)), .inl a1] t 0 0 post px := by
  refine met_of_wp (by decide +kernel) (Nat.le_of_ble_eq_true rfl) ?_
  intro p e s m args below meth c A hx hb hml hts hown hK hnt hlocks hr hA hE
  have hR9 : Ready p l e ({ frames := 1, cells := 0, slots := 0, locals := 22 } : Room) s m args below meth c D X ad A M 3 cX4_speed 0 0 post px RX4 1 (fldOf F_X4) N_X4_speed (Q_X4_speed M) (tabOf T_X4_speed) H_X4_speed := by
    refine ⟨hx, hb, hts, hown, hK, hnt, hlocks, hr, F_X4_ok, ?_, fun pc en h => tabOf_ok T_X4_speed_ok h, ?_⟩
    · intro v9 ix n mc1 ms1 as t k hn hl h
      unfold N_X4_speed at hn
      split at hn
      · cases hn
        exact k_X4_askRange hx hb hml hts hown hK hA hE hst9 (by decide +kernel) ⟨Nat.le_of_ble_eq_true rfl, Nat.le_of_ble_eq_true rfl⟩ rfl rfl h
      · cases hn
    · intro pc E hE9; cases hE9
  refine wp_go hR9 (cs := S_X4_speed) (Bk := (fun _ _ _ _ => False)) ?_ 400 0 _ _ _ _ _ h
  intro pc q vs ws t hc hk
  exact hk.elim
theorem k_X4_speed (hx : p.tables.exec = Jvm.exec) (hb : c.code = b) (hml : c.maxLocals = nL) (hts : ∀ w ∈ LT, w.before args s = true) {own : String} (hown : s.vm.findClass own = some m.cls) (hK : va_K D vwCl (TYX X) s) (hA : ∀ q, s.heap.size ≤ q → A q) (hE : EX A s) (hst9 : l.stackTraces = false) {ix : Nat} (hl9 : Cond.methodLink own ix yX4_speed ∈ LT) (hR : 2 ≤ R.frames ∧ 44 ≤ R.locals) (hmc : R.cells = mc) (hms : R.slots = ms) (h : PC_X4_speed M as t k kx) : CallOK p l e R s m args below meth c Q D X ad A M nL b mc ms (.invokevirtual ix) 0 0 as t k kx := by
  unfold PC_X4_speed at h
  split at h
  · exact call_V hx hb hml hts hown hK hA hE (c_X4_speed hst9 _ _ t h.2) ⟨hl9, ws_X4_speed.1, ws_X4_speed.2.1, ws_X4_speed.2.2.1, ws_X4_speed.2.2.2⟩ (n := 1) (by decide +kernel) hR rfl rfl hmc hms rfl ⟨0, _, rfl, h.1, Or.inl rfl, rfl⟩
  · exact CallOK.congr (by simp only [List.map_cons]; congr 1; exact (if_neg h.1).symm) (call_V hx hb hml hts hown hK hA hE (c_X4_speed hst9 _ _ t h.2.2) ⟨hl9, ws_X4_speed.1, ws_X4_speed.2.1, ws_X4_speed.2.2.1, ws_X4_speed.2.2.2⟩ (n := 1) (by decide +kernel) hR rfl rfl hmc hms rfl ⟨0, _, rfl, h.2.1, Or.inl rfl, rfl⟩)
  · exact h.elim
def Q_X4_trainIs (M : Nat → Nat → Bool) (ix : Nat) (as : List VV) (t : TT) (k : Option VV → TT → Prop) (kx : String → TT → Prop) : Prop := match ix with
  | 37 => PC_X4_askRange M as t k kx
  | 57 => PC_X4_askNumber M as t k kx
  | 89 => PC_X2_tell M as t k kx
  | _ => False
def N_X4_trainIs (v : Bool) (ix : Nat) : Option (Nat × Nat × Nat) := match v, ix with
  | false, 37 => some (3, 0, 0)
  | false, 57 => some (2, 0, 0)
  | true, 89 => some (2, 0, 0)
  | _, _ => none
def S_X4_trainIs (pc : Nat) : Option (List (Nat × Nat × Nat) × List (Nat × Nat) × Nat × Nat) := none
def H_X4_trainIs (pc : Nat) : Option String := none
set_option maxRecDepth 100000 in
set_option maxHeartbeats 4000000 in
theorem c_X4_trainIs {l : Launch} (hst9 : l.stackTraces = false) {D : va_G} {X : Nat → ClassId} {ad : Nat → Nat → Nat} {M : Nat → Nat → Bool} {post : Option VV → TT → Prop} {px : String → TT → Prop} (o0 : Nat) (a1 : Int32) (a2 : Int32) (t : TT) (h : P_X4_trainIs M (fun r t1 => post (some (.inl r)) t1) px o0 a1 a2 t) : CT l yX4_trainIs (Cond.code yX4_trainIs cX4_trainIs 3 (some .int) :: LT) ({ frames := 1, cells := 0, slots := 0, locals := 22 } : Room) D X ad M [.inr (.inl (0, o0)), .inl a1, .inl a2] t 0 0 post px := by
  refine met_of_wp (by decide +kernel) (Nat.le_of_ble_eq_true rfl) ?_
  intro p e s m args below meth c A hx hb hml hts hown hK hnt hlocks hr hA hE
  have hR9 : Ready p l e ({ frames := 1, cells := 0, slots := 0, locals := 22 } : Room) s m args below meth c D X ad A M 3 cX4_trainIs 0 0 post px RX4 1 (fldOf F_X4) N_X4_trainIs (Q_X4_trainIs M) (tabOf T_X4_trainIs) H_X4_trainIs := by
    refine ⟨hx, hb, hts, hown, hK, hnt, hlocks, hr, F_X4_ok, ?_, fun pc en h => tabOf_ok T_X4_trainIs_ok h, ?_⟩
    · intro v9 ix n mc1 ms1 as t k hn hl h
      unfold N_X4_trainIs at hn
      split at hn
      · cases hn
        exact k_X4_askRange hx hb hml hts hown hK hA hE hst9 (by decide +kernel) ⟨Nat.le_of_ble_eq_true rfl, Nat.le_of_ble_eq_true rfl⟩ rfl rfl h
      · cases hn
        exact k_X4_askNumber hx hb hml hts hown hK hA hE hst9 (by decide +kernel) ⟨Nat.le_of_ble_eq_true rfl, Nat.le_of_ble_eq_true rfl⟩ rfl rfl h
      · cases hn
        exact k_X2_tell hx hb hml hts hown hK hA hE hst9 (by decide +kernel) ⟨Nat.le_of_ble_eq_true rfl, Nat.le_of_ble_eq_true rfl⟩ rfl rfl h
      · cases hn
    · intro pc E hE9; cases hE9
  refine wp_go hR9 (cs := S_X4_trainIs) (Bk := (fun _ _ _ _ => False)) ?_ 400 0 _ _ _ _ _ h
  intro pc q vs ws t hc hk
  exact hk.elim
theorem k_X4_trainIs (hx : p.tables.exec = Jvm.exec) (hb : c.code = b) (hml : c.maxLocals = nL) (hts : ∀ w ∈ LT, w.before args s = true) {own : String} (hown : s.vm.findClass own = some m.cls) (hK : va_K D vwCl (TYX X) s) (hA : ∀ q, s.heap.size ≤ q → A q) (hE : EX A s) (hst9 : l.stackTraces = false) {ix : Nat} (hl9 : Cond.methodLink own ix yX4_trainIs ∈ LT) (hR : 2 ≤ R.frames ∧ 44 ≤ R.locals) (hmc : R.cells = mc) (hms : R.slots = ms) (h : PC_X4_trainIs M as t k kx) : CallOK p l e R s m args below meth c Q D X ad A M nL b mc ms (.invokevirtual ix) 0 0 as t k kx := by
  unfold PC_X4_trainIs at h
  split at h
  · exact call_V hx hb hml hts hown hK hA hE (c_X4_trainIs hst9 _ _ _ t h.2) ⟨hl9, ws_X4_trainIs.1, ws_X4_trainIs.2.1, ws_X4_trainIs.2.2.1, ws_X4_trainIs.2.2.2⟩ (n := 2) (by decide +kernel) hR rfl rfl hmc hms rfl ⟨0, _, rfl, h.1, Or.inl rfl, rfl⟩
  · exact CallOK.congr (by simp only [List.map_cons]; congr 1; exact (if_neg h.1).symm) (call_V hx hb hml hts hown hK hA hE (c_X4_trainIs hst9 _ _ _ t h.2.2) ⟨hl9, ws_X4_trainIs.1, ws_X4_trainIs.2.1, ws_X4_trainIs.2.2.1, ws_X4_trainIs.2.2.2⟩ (n := 2) (by decide +kernel) hR rfl rfl hmc hms rfl ⟨0, _, rfl, h.2.1, Or.inl rfl, rfl⟩)
  · exact h.elim
def Q_X4_slip (M : Nat → Nat → Bool) (ix : Nat) (as : List VV) (t : TT) (k : Option VV → TT → Prop) (kx : String → TT → Prop) : Prop := match ix with
  | 37 => PC_X4_askRange M as t k kx
  | 57 => PC_X4_askNumber M as t k kx
  | _ => False
def N_X4_slip (v : Bool) (ix : Nat) : Option (Nat × Nat × Nat) := match v, ix with
  | false, 37 => some (3, 0, 0)
  | false, 57 => some (2, 0, 0)
  | _, _ => none
def S_X4_slip (pc : Nat) : Option (List (Nat × Nat × Nat) × List (Nat × Nat) × Nat × Nat) := none
def H_X4_slip (pc : Nat) : Option String := none
set_option maxRecDepth 100000 in
set_option maxHeartbeats 4000000 in
theorem c_X4_slip {l : Launch} (hst9 : l.stackTraces = false) {D : va_G} {X : Nat → ClassId} {ad : Nat → Nat → Nat} {M : Nat → Nat → Bool} {post : Option VV → TT → Prop} {px : String → TT → Prop} (o0 : Nat) (a1 : Int32) (a2 : Int32) (t : TT) (h : P_X4_slip M (fun r t1 => post (some (.inl r)) t1) px o0 a1 a2 t) : CT l yX4_slip (Cond.code yX4_slip cX4_slip 5 (some .int) :: LT) ({ frames := 1, cells := 0, slots := 0, locals := 22 } : Room) D X ad M [.inr (.inl (0, o0)), .inl a1, .inl a2] t 0 0 post px := by
  refine met_of_wp (by decide +kernel) (Nat.le_of_ble_eq_true rfl) ?_
  intro p e s m args below meth c A hx hb hml hts hown hK hnt hlocks hr hA hE
  have hR9 : Ready p l e ({ frames := 1, cells := 0, slots := 0, locals := 22 } : Room) s m args below meth c D X ad A M 5 cX4_slip 0 0 post px RX4 1 (fldOf F_X4) N_X4_slip (Q_X4_slip M) (tabOf T_X4_slip) H_X4_slip := by
    refine ⟨hx, hb, hts, hown, hK, hnt, hlocks, hr, F_X4_ok, ?_, fun pc en h => tabOf_ok T_X4_slip_ok h, ?_⟩
    · intro v9 ix n mc1 ms1 as t k hn hl h
      unfold N_X4_slip at hn
      split at hn
      · cases hn
        exact k_X4_askRange hx hb hml hts hown hK hA hE hst9 (by decide +kernel) ⟨Nat.le_of_ble_eq_true rfl, Nat.le_of_ble_eq_true rfl⟩ rfl rfl h
      · cases hn
        exact k_X4_askNumber hx hb hml hts hown hK hA hE hst9 (by decide +kernel) ⟨Nat.le_of_ble_eq_true rfl, Nat.le_of_ble_eq_true rfl⟩ rfl rfl h
      · cases hn
    · intro pc E hE9; cases hE9
  refine wp_go hR9 (cs := S_X4_slip) (Bk := (fun _ _ _ _ => False)) ?_ 400 0 _ _ _ _ _ h
  intro pc q vs ws t hc hk
  exact hk.elim
theorem k_X4_slip (hx : p.tables.exec = Jvm.exec) (hb : c.code = b) (hml : c.maxLocals = nL) (hts : ∀ w ∈ LT, w.before args s = true) {own : String} (hown : s.vm.findClass own = some m.cls) (hK : va_K D vwCl (TYX X) s) (hA : ∀ q, s.heap.size ≤ q → A q) (hE : EX A s) (hst9 : l.stackTraces = false) {ix : Nat} (hl9 : Cond.methodLink own ix yX4_slip ∈ LT) (hR : 2 ≤ R.frames ∧ 46 ≤ R.locals) (hmc : R.cells = mc) (hms : R.slots = ms) (h : PC_X4_slip M as t k kx) : CallOK p l e R s m args below meth c Q D X ad A M nL b mc ms (.invokevirtual ix) 0 0 as t k kx := by
  unfold PC_X4_slip at h
  split at h
  · exact call_V hx hb hml hts hown hK hA hE (c_X4_slip hst9 _ _ _ t h.2) ⟨hl9, ws_X4_slip.1, ws_X4_slip.2.1, ws_X4_slip.2.2.1, ws_X4_slip.2.2.2⟩ (n := 2) (by decide +kernel) hR rfl rfl hmc hms rfl ⟨0, _, rfl, h.1, Or.inl rfl, rfl⟩
  · exact CallOK.congr (by simp only [List.map_cons]; congr 1; exact (if_neg h.1).symm) (call_V hx hb hml hts hown hK hA hE (c_X4_slip hst9 _ _ _ t h.2.2) ⟨hl9, ws_X4_slip.1, ws_X4_slip.2.1, ws_X4_slip.2.2.1, ws_X4_slip.2.2.2⟩ (n := 2) (by decide +kernel) hR rfl rfl hmc hms rfl ⟨0, _, rfl, h.2.1, Or.inl rfl, rfl⟩)
  · exact h.elim
def Q_X4_silent (M : Nat → Nat → Bool) (ix : Nat) (as : List VV) (t : TT) (k : Option VV → TT → Prop) (kx : String → TT → Prop) : Prop := match ix with
  | 57 => PC_X4_askNumber M as t k kx
  | _ => False
def N_X4_silent (v : Bool) (ix : Nat) : Option (Nat × Nat × Nat) := match v, ix with
  | false, 57 => some (2, 0, 0)
  | _, _ => none
def S_X4_silent (pc : Nat) : Option (List (Nat × Nat × Nat) × List (Nat × Nat) × Nat × Nat) := none
def H_X4_silent (pc : Nat) : Option String := none
set_option maxRecDepth 100000 in
set_option maxHeartbeats 4000000 in
theorem c_X4_silent {l : Launch} (hst9 : l.stackTraces = false) {D : va_G} {X : Nat → ClassId} {ad : Nat → Nat → Nat} {M : Nat → Nat → Bool} {post : Option VV → TT → Prop} {px : String → TT → Prop} (o0 : Nat) (a1 : Int32) (a2 : Int32) (t : TT) (h : P_X4_silent M (fun r t1 => post (some (.inl r)) t1) px o0 a1 a2 t) : CT l yX4_silent (Cond.code yX4_silent cX4_silent 5 (some .boolean) :: LT) ({ frames := 1, cells := 0, slots := 0, locals := 21 } : Room) D X ad M [.inr (.inl (0, o0)), .inl a1, .inl a2] t 0 0 post px := by
  refine met_of_wp (by decide +kernel) (Nat.le_of_ble_eq_true rfl) ?_
  intro p e s m args below meth c A hx hb hml hts hown hK hnt hlocks hr hA hE
  have hR9 : Ready p l e ({ frames := 1, cells := 0, slots := 0, locals := 21 } : Room) s m args below meth c D X ad A M 5 cX4_silent 0 0 post px RX4 2 (fldOf F_X4) N_X4_silent (Q_X4_silent M) (tabOf T_X4_silent) H_X4_silent := by
    refine ⟨hx, hb, hts, hown, hK, hnt, hlocks, hr, F_X4_ok, ?_, fun pc en h => tabOf_ok T_X4_silent_ok h, ?_⟩
    · intro v9 ix n mc1 ms1 as t k hn hl h
      unfold N_X4_silent at hn
      split at hn
      · cases hn
        exact k_X4_askNumber hx hb hml hts hown hK hA hE hst9 (by decide +kernel) ⟨Nat.le_of_ble_eq_true rfl, Nat.le_of_ble_eq_true rfl⟩ rfl rfl h
      · cases hn
    · intro pc E hE9; cases hE9
  refine wp_go hR9 (cs := S_X4_silent) (Bk := (fun _ _ _ _ => False)) ?_ 400 0 _ _ _ _ _ h
  intro pc q vs ws t hc hk
  exact hk.elim
theorem k_X4_silent (hx : p.tables.exec = Jvm.exec) (hb : c.code = b) (hml : c.maxLocals = nL) (hts : ∀ w ∈ LT, w.before args s = true) {own : String} (hown : s.vm.findClass own = some m.cls) (hK : va_K D vwCl (TYX X) s) (hA : ∀ q, s.heap.size ≤ q → A q) (hE : EX A s) (hst9 : l.stackTraces = false) {ix : Nat} (hl9 : Cond.methodLink own ix yX4_silent ∈ LT) (hR : 2 ≤ R.frames ∧ 45 ≤ R.locals) (hmc : R.cells = mc) (hms : R.slots = ms) (h : PC_X4_silent M as t k kx) : CallOK p l e R s m args below meth c Q D X ad A M nL b mc ms (.invokevirtual ix) 0 0 as t k kx := by
  unfold PC_X4_silent at h
  split at h
  · exact call_V hx hb hml hts hown hK hA hE (c_X4_silent hst9 _ _ _ t h.2) ⟨hl9, ws_X4_silent.1, ws_X4_silent.2.1, ws_X4_silent.2.2.1, ws_X4_silent.2.2.2⟩ (n := 2) (by decide +kernel) hR rfl rfl hmc hms rfl ⟨0, _, rfl, h.1, Or.inl rfl, rfl⟩
  · exact CallOK.congr (by simp only [List.map_cons]; congr 1; exact (if_neg h.1).symm) (call_V hx hb hml hts hown hK hA hE (c_X4_silent hst9 _ _ _ t h.2.2) ⟨hl9, ws_X4_silent.1, ws_X4_silent.2.1, ws_X4_silent.2.2.1, ws_X4_silent.2.2.2⟩ (n := 2) (by decide +kernel) hR rfl rfl hmc hms rfl ⟨0, _, rfl, h.2.1, Or.inl rfl, rfl⟩)
  · exact h.elim
def Q_X4_emergency (M : Nat → Nat → Bool) (ix : Nat) (as : List VV) (t : TT) (k : Option VV → TT → Prop) (kx : String → TT → Prop) : Prop := match ix with
  | 57 => PC_X4_askNumber M as t k kx
  | _ => False
def N_X4_emergency (v : Bool) (ix : Nat) : Option (Nat × Nat × Nat) := match v, ix with
  | false, 57 => some (2, 0, 0)
  | _, _ => none
def S_X4_emergency (pc : Nat) : Option (List (Nat × Nat × Nat) × List (Nat × Nat) × Nat × Nat) := match pc with
  | 27 => some ([(2, 1, 8)], [], 0, 0)
  | _ => none
def H_X4_emergency (pc : Nat) : Option String := none
set_option maxRecDepth 100000 in
set_option maxHeartbeats 4000000 in
theorem c_X4_emergency {l : Launch} (hst9 : l.stackTraces = false) {D : va_G} {X : Nat → ClassId} {ad : Nat → Nat → Nat} {M : Nat → Nat → Bool} {post : Option VV → TT → Prop} {px : String → TT → Prop} (o0 : Nat) (a1 : Int32) (t : TT) (h : P_X4_emergency M (fun r t1 => post (some (.inl r)) t1) px o0 a1 t) : CT l yX4_emergency (Cond.code yX4_emergency cX4_emergency 3 (some .boolean) :: LT) ({ frames := 1, cells := 0, slots := 0, locals := 21 } : Room) D X ad M [.inr (.inl (0, o0)), .inl a1] t 0 0 post px := by
  refine met_of_wp (by decide +kernel) (Nat.le_of_ble_eq_true rfl) ?_
  intro p e s m args below meth c A hx hb hml hts hown hK hnt hlocks hr hA hE
  have hR9 : Ready p l e ({ frames := 1, cells := 0, slots := 0, locals := 21 } : Room) s m args below meth c D X ad A M 3 cX4_emergency 0 0 post px RX4 2 (fldOf F_X4) N_X4_emergency (Q_X4_emergency M) (tabOf T_X4_emergency) H_X4_emergency := by
    refine ⟨hx, hb, hts, hown, hK, hnt, hlocks, hr, F_X4_ok, ?_, fun pc en h => tabOf_ok T_X4_emergency_ok h, ?_⟩
    · intro v9 ix n mc1 ms1 as t k hn hl h
      unfold N_X4_emergency at hn
      split at hn
      · cases hn
        exact k_X4_askNumber hx hb hml hts hown hK hA hE hst9 (by decide +kernel) ⟨Nat.le_of_ble_eq_true rfl, Nat.le_of_ble_eq_true rfl⟩ rfl rfl h
      · cases hn
    · intro pc E hE9; cases hE9
  have W27 : ∀ (o2 : Nat) (t : TT), B_X4_emergency_27 M (fun r t1 => post (some (.inl r)) t1) px o2 t → Wat p l e ({ frames := 1, cells := 0, slots := 0, locals := 21 } : Room) s m args below meth c (QM below args s D X ad A M 0 0 post px) D X ad A M 3 27 [(2, .inr (.inl (8, o2)))] [] t 0 0 := by
    intro o2 t h
    refine wp_go hR9 (cs := S_X4_emergency) (Bk := (fun _ _ _ _ => False)) ?_ 400 27 _ _ _ _ _ h
    intro pc q vs ws t hc hk
    exact hk.elim
  refine wp_go hR9 (cs := S_X4_emergency) (Bk := (fun pc vs ws t => match pc with | 27 => (match vs, ws with | [.inr (.inl (8, o2))], [] => B_X4_emergency_27 M (fun r t1 => post (some (.inl r)) t1) px o2 t | _, _ => False) | _ => False)) ?_ 400 0 _ _ _ _ _ h
  intro pc q vs ws t hc hk
  split at hk
  · cases hc
    split at hk
    · exact W27 _ _ hk
    · exact hk.elim
  · exact hk.elim
theorem k_X4_emergency (hx : p.tables.exec = Jvm.exec) (hb : c.code = b) (hml : c.maxLocals = nL) (hts : ∀ w ∈ LT, w.before args s = true) {own : String} (hown : s.vm.findClass own = some m.cls) (hK : va_K D vwCl (TYX X) s) (hA : ∀ q, s.heap.size ≤ q → A q) (hE : EX A s) (hst9 : l.stackTraces = false) {ix : Nat} (hl9 : Cond.methodLink own ix yX4_emergency ∈ LT) (hR : 2 ≤ R.frames ∧ 43 ≤ R.locals) (hmc : R.cells = mc) (hms : R.slots = ms) (h : PC_X4_emergency M as t k kx) : CallOK p l e R s m args below meth c Q D X ad A M nL b mc ms (.invokevirtual ix) 0 0 as t k kx := by
  unfold PC_X4_emergency at h
  split at h
  · exact call_V hx hb hml hts hown hK hA hE (c_X4_emergency hst9 _ _ t h.2) ⟨hl9, ws_X4_emergency.1, ws_X4_emergency.2.1, ws_X4_emergency.2.2.1, ws_X4_emergency.2.2.2⟩ (n := 1) (by decide +kernel) hR rfl rfl hmc hms rfl ⟨0, _, rfl, h.1, Or.inl rfl, rfl⟩
  · exact CallOK.congr (by simp only [List.map_cons]; congr 1; exact (if_neg h.1).symm) (call_V hx hb hml hts hown hK hA hE (c_X4_emergency hst9 _ _ t h.2.2) ⟨hl9, ws_X4_emergency.1, ws_X4_emergency.2.1, ws_X4_emergency.2.2.1, ws_X4_emergency.2.2.2⟩ (n := 1) (by decide +kernel) hR rfl rfl hmc hms rfl ⟨0, _, rfl, h.2.1, Or.inl rfl, rfl⟩)
  · exact h.elim
def Q_X4_countHolding (M : Nat → Nat → Bool) (ix : Nat) (as : List VV) (t : TT) (k : Option VV → TT → Prop) (kx : String → TT → Prop) : Prop := match ix with
  | 246 => PC_mmax as t k
  | _ => False
def N_X4_countHolding (v : Bool) (ix : Nat) : Option (Nat × Nat × Nat) := match v, ix with
  | false, 246 => some (2, 0, 0)
  | _, _ => none
def S_X4_countHolding (pc : Nat) : Option (List (Nat × Nat × Nat) × List (Nat × Nat) × Nat × Nat) := match pc with
  | 2 => some ([(0, 1, 0), (1, 0, 0)], [], 0, 0)
  | _ => none
def H_X4_countHolding (pc : Nat) : Option String := none
set_option maxRecDepth 100000 in
set_option maxHeartbeats 4000000 in
theorem c_X4_countHolding {l : Launch} (hst9 : l.stackTraces = false) {D : va_G} {X : Nat → ClassId} {ad : Nat → Nat → Nat} {M : Nat → Nat → Bool} {post : Option VV → TT → Prop} {px : String → TT → Prop} (o0 : Nat) (t : TT) (h : P_X4_countHolding M (fun t1 => post none t1) px o0 t) : CT l yX4_countHolding (Cond.code yX4_countHolding cX4_countHolding 2 none :: LT) ({ frames := 1, cells := 0, slots := 0, locals := 21 } : Room) D X ad M [.inr (.inl (0, o0))] t 0 0 post px := by
  refine met_of_wp (by decide +kernel) (Nat.le_of_ble_eq_true rfl) ?_
  intro p e s m args below meth c A hx hb hml hts hown hK hnt hlocks hr hA hE
  have hR9 : Ready p l e ({ frames := 1, cells := 0, slots := 0, locals := 21 } : Room) s m args below meth c D X ad A M 2 cX4_countHolding 0 0 post px RX4 0 (fldOf F_X4) N_X4_countHolding (Q_X4_countHolding M) (tabOf T_X4_countHolding) H_X4_countHolding := by
    refine ⟨hx, hb, hts, hown, hK, hnt, hlocks, hr, F_X4_ok, ?_, fun pc en h => tabOf_ok T_X4_countHolding_ok h, ?_⟩
    · intro v9 ix n mc1 ms1 as t k hn hl h
      unfold N_X4_countHolding at hn
      split at hn
      · cases hn
        exact k_mmax hx hb hml hts hown (by decide +kernel) ⟨Nat.le_of_ble_eq_true rfl, Nat.le_of_ble_eq_true rfl⟩ rfl rfl h
      · cases hn
    · intro pc E hE9; cases hE9
  have W2 : ∀ (n : Nat) (o0 : Nat) (a1 : Int32) (t : TT), L_X4_countHolding_2 M (fun t1 => post none t1) px n o0 a1 t → Wat p l e ({ frames := 1, cells := 0, slots := 0, locals := 21 } : Room) s m args below meth c (QM below args s D X ad A M 0 0 post px) D X ad A M 2 2 [(0, .inr (.inl (0, o0))), (1, .inl a1)] [] t 0 0 := by
    intro n
    induction n with
    | zero =>
      intro o0 a1 t h
      exact h.elim
    | succ n ih =>
      intro o0 a1 t h
      refine wp_go hR9 (cs := S_X4_countHolding) (Bk := (fun pc vs ws t => match pc with | 2 => (match vs, ws with | [.inr (.inl (0, o0)), .inl a1], [] => L_X4_countHolding_2 M (fun t1 => post none t1) px n o0 a1 t | _, _ => False) | _ => False)) ?_ 400 2 _ _ _ _ _ h
      intro pc q vs ws t hc hk
      split at hk
      · cases hc
        split at hk
        · exact ih _ _ _ hk
        · exact hk.elim
      · exact hk.elim
  refine wp_go hR9 (cs := S_X4_countHolding) (Bk := (fun pc vs ws t => match pc with | 2 => (match vs, ws with | [.inr (.inl (0, o0)), .inl a1], [] => ∃ n9, L_X4_countHolding_2 M (fun t1 => post none t1) px n9 o0 a1 t | _, _ => False) | _ => False)) ?_ 400 0 _ _ _ _ _ h
  intro pc q vs ws t hc hk
  split at hk
  · cases hc
    split at hk
    · obtain ⟨n9, hk⟩ := hk
      exact W2 n9 _ _ _ hk
    · exact hk.elim
  · exact hk.elim
theorem k_X4_countHolding (hx : p.tables.exec = Jvm.exec) (hb : c.code = b) (hml : c.maxLocals = nL) (hts : ∀ w ∈ LT, w.before args s = true) {own : String} (hown : s.vm.findClass own = some m.cls) (hK : va_K D vwCl (TYX X) s) (hA : ∀ q, s.heap.size ≤ q → A q) (hE : EX A s) (hst9 : l.stackTraces = false) {ix : Nat} (hl9 : Cond.methodLink own ix yX4_countHolding ∈ LT) (hR : 2 ≤ R.frames ∧ 42 ≤ R.locals) (hmc : R.cells = mc) (hms : R.slots = ms) (h : PC_X4_countHolding M as t k kx) : CallOK p l e R s m args below meth c Q D X ad A M nL b mc ms (.invokevirtual ix) 0 0 as t k kx := by
  unfold PC_X4_countHolding at h
  split at h
  · exact call_V hx hb hml hts hown hK hA hE (c_X4_countHolding hst9 _ t h.2) ⟨hl9, ws_X4_countHolding.1, ws_X4_countHolding.2.1, ws_X4_countHolding.2.2.1, ws_X4_countHolding.2.2.2⟩ (n := 0) (by decide +kernel) hR rfl rfl hmc hms rfl ⟨0, _, rfl, h.1, Or.inl rfl, rfl⟩
  · exact CallOK.congr (by simp only [List.map_cons]; congr 1; exact (if_neg h.1).symm) (call_V hx hb hml hts hown hK hA hE (c_X4_countHolding hst9 _ t h.2.2) ⟨hl9, ws_X4_countHolding.1, ws_X4_countHolding.2.1, ws_X4_countHolding.2.2.1, ws_X4_countHolding.2.2.2⟩ (n := 0) (by decide +kernel) hR rfl rfl hmc hms rfl ⟨0, _, rfl, h.2.1, Or.inl rfl, rfl⟩)
  · exact h.elim
def Q_X4_letPeopleBoard (M : Nat → Nat → Bool) (ix : Nat) (as : List VV) (t : TT) (k : Option VV → TT → Prop) (kx : String → TT → Prop) : Prop := match ix with
  | 252 => PC_X2_takePeople M as t k kx
  | _ => False
def N_X4_letPeopleBoard (v : Bool) (ix : Nat) : Option (Nat × Nat × Nat) := match v, ix with
  | true, 252 => some (1, 0, 0)
  | _, _ => none
def S_X4_letPeopleBoard (pc : Nat) : Option (List (Nat × Nat × Nat) × List (Nat × Nat) × Nat × Nat) := match pc with
  | 2 => some ([(0, 1, 0), (1, 0, 0)], [], 0, 0)
  | _ => none
def H_X4_letPeopleBoard (pc : Nat) : Option String := none
set_option maxRecDepth 100000 in
set_option maxHeartbeats 4000000 in
theorem c_X4_letPeopleBoard {l : Launch} (hst9 : l.stackTraces = false) {D : va_G} {X : Nat → ClassId} {ad : Nat → Nat → Nat} {M : Nat → Nat → Bool} {post : Option VV → TT → Prop} {px : String → TT → Prop} (o0 : Nat) (t : TT) (h : P_X4_letPeopleBoard M (fun t1 => post none t1) px o0 t) : CT l yX4_letPeopleBoard (Cond.code yX4_letPeopleBoard cX4_letPeopleBoard 2 none :: LT) ({ frames := 2, cells := 0, slots := 0, locals := 43 } : Room) D X ad M [.inr (.inl (0, o0))] t 0 0 post px := by
  refine met_of_wp (by decide +kernel) (Nat.le_of_ble_eq_true rfl) ?_
  intro p e s m args below meth c A hx hb hml hts hown hK hnt hlocks hr hA hE
  have hR9 : Ready p l e ({ frames := 2, cells := 0, slots := 0, locals := 43 } : Room) s m args below meth c D X ad A M 2 cX4_letPeopleBoard 0 0 post px RX4 0 (fldOf F_X4) N_X4_letPeopleBoard (Q_X4_letPeopleBoard M) (tabOf T_X4_letPeopleBoard) H_X4_letPeopleBoard := by
    refine ⟨hx, hb, hts, hown, hK, hnt, hlocks, hr, F_X4_ok, ?_, fun pc en h => tabOf_ok T_X4_letPeopleBoard_ok h, ?_⟩
    · intro v9 ix n mc1 ms1 as t k hn hl h
      unfold N_X4_letPeopleBoard at hn
      split at hn
      · cases hn
        exact k_X2_takePeople hx hb hml hts hown hK hA hE hst9 (by decide +kernel) ⟨Nat.le_of_ble_eq_true rfl, Nat.le_of_ble_eq_true rfl⟩ rfl rfl h
      · cases hn
    · intro pc E hE9; cases hE9
  have W2 : ∀ (n : Nat) (o0 : Nat) (a1 : Int32) (t : TT), L_X4_letPeopleBoard_2 M (fun t1 => post none t1) px n o0 a1 t → Wat p l e ({ frames := 2, cells := 0, slots := 0, locals := 43 } : Room) s m args below meth c (QM below args s D X ad A M 0 0 post px) D X ad A M 2 2 [(0, .inr (.inl (0, o0))), (1, .inl a1)] [] t 0 0 := by
    intro n
    induction n with
    | zero =>
      intro o0 a1 t h
      exact h.elim
    | succ n ih =>
      intro o0 a1 t h
      refine wp_go hR9 (cs := S_X4_letPeopleBoard) (Bk := (fun pc vs ws t => match pc with | 2 => (match vs, ws with | [.inr (.inl (0, o0)), .inl a1], [] => L_X4_letPeopleBoard_2 M (fun t1 => post none t1) px n o0 a1 t | _, _ => False) | _ => False)) ?_ 400 2 _ _ _ _ _ h
      intro pc q vs ws t hc hk
      split at hk
      · cases hc
        split at hk
        · exact ih _ _ _ hk
        · exact hk.elim
      · exact hk.elim
  refine wp_go hR9 (cs := S_X4_letPeopleBoard) (Bk := (fun pc vs ws t => match pc with | 2 => (match vs, ws with | [.inr (.inl (0, o0)), .inl a1], [] => ∃ n9, L_X4_letPeopleBoard_2 M (fun t1 => post none t1) px n9 o0 a1 t | _, _ => False) | _ => False)) ?_ 400 0 _ _ _ _ _ h
  intro pc q vs ws t hc hk
  split at hk
  · cases hc
    split at hk
    · obtain ⟨n9, hk⟩ := hk
      exact W2 n9 _ _ _ hk
    · exact hk.elim
  · exact hk.elim
theorem k_X4_letPeopleBoard (hx : p.tables.exec = Jvm.exec) (hb : c.code = b) (hml : c.maxLocals = nL) (hts : ∀ w ∈ LT, w.before args s = true) {own : String} (hown : s.vm.findClass own = some m.cls) (hK : va_K D vwCl (TYX X) s) (hA : ∀ q, s.heap.size ≤ q → A q) (hE : EX A s) (hst9 : l.stackTraces = false) {ix : Nat} (hl9 : Cond.methodLink own ix yX4_letPeopleBoard ∈ LT) (hR : 3 ≤ R.frames ∧ 64 ≤ R.locals) (hmc : R.cells = mc) (hms : R.slots = ms) (h : PC_X4_letPeopleBoard M as t k kx) : CallOK p l e R s m args below meth c Q D X ad A M nL b mc ms (.invokevirtual ix) 0 0 as t k kx := by
  unfold PC_X4_letPeopleBoard at h
  split at h
  · exact call_V hx hb hml hts hown hK hA hE (c_X4_letPeopleBoard hst9 _ t h.2) ⟨hl9, ws_X4_letPeopleBoard.1, ws_X4_letPeopleBoard.2.1, ws_X4_letPeopleBoard.2.2.1, ws_X4_letPeopleBoard.2.2.2⟩ (n := 0) (by decide +kernel) hR rfl rfl hmc hms rfl ⟨0, _, rfl, h.1, Or.inl rfl, rfl⟩
  · exact CallOK.congr (by simp only [List.map_cons]; congr 1; exact (if_neg h.1).symm) (call_V hx hb hml hts hown hK hA hE (c_X4_letPeopleBoard hst9 _ t h.2.2) ⟨hl9, ws_X4_letPeopleBoard.1, ws_X4_letPeopleBoard.2.1, ws_X4_letPeopleBoard.2.2.1, ws_X4_letPeopleBoard.2.2.2⟩ (n := 0) (by decide +kernel) hR rfl rfl hmc hms rfl ⟨0, _, rfl, h.2.1, Or.inl rfl, rfl⟩)
  · exact h.elim
def Q_X4_letPeopleCome (M : Nat → Nat → Bool) (ix : Nat) (as : List VV) (t : TT) (k : Option VV → TT → Prop) (kx : String → TT → Prop) : Prop := match ix with
  | 138 => PC_mmin as t k
  | _ => False
def N_X4_letPeopleCome (v : Bool) (ix : Nat) : Option (Nat × Nat × Nat) := match v, ix with
  | false, 138 => some (2, 0, 0)
  | _, _ => none
def S_X4_letPeopleCome (pc : Nat) : Option (List (Nat × Nat × Nat) × List (Nat × Nat) × Nat × Nat) := match pc with
  | 2 => some ([(0, 1, 0), (1, 0, 0)], [], 0, 0)
  | _ => none
def H_X4_letPeopleCome (pc : Nat) : Option String := none
set_option maxRecDepth 100000 in
set_option maxHeartbeats 4000000 in
theorem c_X4_letPeopleCome {l : Launch} (hst9 : l.stackTraces = false) {D : va_G} {X : Nat → ClassId} {ad : Nat → Nat → Nat} {M : Nat → Nat → Bool} {post : Option VV → TT → Prop} {px : String → TT → Prop} (o0 : Nat) (t : TT) (h : P_X4_letPeopleCome M (fun t1 => post none t1) px o0 t) : CT l yX4_letPeopleCome (Cond.code yX4_letPeopleCome cX4_letPeopleCome 3 none :: LT) ({ frames := 1, cells := 0, slots := 0, locals := 21 } : Room) D X ad M [.inr (.inl (0, o0))] t 0 0 post px := by
  refine met_of_wp (by decide +kernel) (Nat.le_of_ble_eq_true rfl) ?_
  intro p e s m args below meth c A hx hb hml hts hown hK hnt hlocks hr hA hE
  have hR9 : Ready p l e ({ frames := 1, cells := 0, slots := 0, locals := 21 } : Room) s m args below meth c D X ad A M 3 cX4_letPeopleCome 0 0 post px RX4 0 (fldOf F_X4) N_X4_letPeopleCome (Q_X4_letPeopleCome M) (tabOf T_X4_letPeopleCome) H_X4_letPeopleCome := by
    refine ⟨hx, hb, hts, hown, hK, hnt, hlocks, hr, F_X4_ok, ?_, fun pc en h => tabOf_ok T_X4_letPeopleCome_ok h, ?_⟩
    · intro v9 ix n mc1 ms1 as t k hn hl h
      unfold N_X4_letPeopleCome at hn
      split at hn
      · cases hn
        exact k_mmin hx hb hml hts hown (by decide +kernel) ⟨Nat.le_of_ble_eq_true rfl, Nat.le_of_ble_eq_true rfl⟩ rfl rfl h
      · cases hn
    · intro pc E hE9; cases hE9
  have W2 : ∀ (n : Nat) (o0 : Nat) (a1 : Int32) (t : TT), L_X4_letPeopleCome_2 M (fun t1 => post none t1) px n o0 a1 t → Wat p l e ({ frames := 1, cells := 0, slots := 0, locals := 21 } : Room) s m args below meth c (QM below args s D X ad A M 0 0 post px) D X ad A M 3 2 [(0, .inr (.inl (0, o0))), (1, .inl a1)] [] t 0 0 := by
    intro n
    induction n with
    | zero =>
      intro o0 a1 t h
      exact h.elim
    | succ n ih =>
      intro o0 a1 t h
      refine wp_go hR9 (cs := S_X4_letPeopleCome) (Bk := (fun pc vs ws t => match pc with | 2 => (match vs, ws with | [.inr (.inl (0, o0)), .inl a1], [] => L_X4_letPeopleCome_2 M (fun t1 => post none t1) px n o0 a1 t | _, _ => False) | _ => False)) ?_ 400 2 _ _ _ _ _ h
      intro pc q vs ws t hc hk
      split at hk
      · cases hc
        split at hk
        · exact ih _ _ _ hk
        · exact hk.elim
      · exact hk.elim
  refine wp_go hR9 (cs := S_X4_letPeopleCome) (Bk := (fun pc vs ws t => match pc with | 2 => (match vs, ws with | [.inr (.inl (0, o0)), .inl a1], [] => ∃ n9, L_X4_letPeopleCome_2 M (fun t1 => post none t1) px n9 o0 a1 t | _, _ => False) | _ => False)) ?_ 400 0 _ _ _ _ _ h
  intro pc q vs ws t hc hk
  split at hk
  · cases hc
    split at hk
    · obtain ⟨n9, hk⟩ := hk
      exact W2 n9 _ _ _ hk
    · exact hk.elim
  · exact hk.elim
theorem k_X4_letPeopleCome (hx : p.tables.exec = Jvm.exec) (hb : c.code = b) (hml : c.maxLocals = nL) (hts : ∀ w ∈ LT, w.before args s = true) {own : String} (hown : s.vm.findClass own = some m.cls) (hK : va_K D vwCl (TYX X) s) (hA : ∀ q, s.heap.size ≤ q → A q) (hE : EX A s) (hst9 : l.stackTraces = false) {ix : Nat} (hl9 : Cond.methodLink own ix yX4_letPeopleCome ∈ LT) (hR : 2 ≤ R.frames ∧ 43 ≤ R.locals) (hmc : R.cells = mc) (hms : R.slots = ms) (h : PC_X4_letPeopleCome M as t k kx) : CallOK p l e R s m args below meth c Q D X ad A M nL b mc ms (.invokevirtual ix) 0 0 as t k kx := by
  unfold PC_X4_letPeopleCome at h
  split at h
  · exact call_V hx hb hml hts hown hK hA hE (c_X4_letPeopleCome hst9 _ t h.2) ⟨hl9, ws_X4_letPeopleCome.1, ws_X4_letPeopleCome.2.1, ws_X4_letPeopleCome.2.2.1, ws_X4_letPeopleCome.2.2.2⟩ (n := 0) (by decide +kernel) hR rfl rfl hmc hms rfl ⟨0, _, rfl, h.1, Or.inl rfl, rfl⟩
  · exact CallOK.congr (by simp only [List.map_cons]; congr 1; exact (if_neg h.1).symm) (call_V hx hb hml hts hown hK hA hE (c_X4_letPeopleCome hst9 _ t h.2.2) ⟨hl9, ws_X4_letPeopleCome.1, ws_X4_letPeopleCome.2.1, ws_X4_letPeopleCome.2.2.1, ws_X4_letPeopleCome.2.2.2⟩ (n := 0) (by decide +kernel) hR rfl rfl hmc hms rfl ⟨0, _, rfl, h.2.1, Or.inl rfl, rfl⟩)
  · exact h.elim
def Q_X4_meetsBeacon (M : Nat → Nat → Bool) (ix : Nat) (as : List VV) (t : TT) (k : Option VV → TT → Prop) (kx : String → TT → Prop) : Prop := False
def N_X4_meetsBeacon (v : Bool) (ix : Nat) : Option (Nat × Nat × Nat) := none
def S_X4_meetsBeacon (pc : Nat) : Option (List (Nat × Nat × Nat) × List (Nat × Nat) × Nat × Nat) := match pc with
  | 46 => some ([(0, 1, 0), (1, 0, 0), (2, 0, 0), (3, 0, 0)], [], 0, 0)
  | 2 => some ([(0, 1, 0), (1, 0, 0), (2, 0, 0), (3, 0, 0)], [], 0, 0)
  | _ => none
def H_X4_meetsBeacon (pc : Nat) : Option String := none
set_option maxRecDepth 100000 in
set_option maxHeartbeats 4000000 in
theorem c_X4_meetsBeacon {l : Launch} (hst9 : l.stackTraces = false) {D : va_G} {X : Nat → ClassId} {ad : Nat → Nat → Nat} {M : Nat → Nat → Bool} {post : Option VV → TT → Prop} {px : String → TT → Prop} (o0 : Nat) (a1 : Int32) (a2 : Int32) (t : TT) (h : P_X4_meetsBeacon M (fun r t1 => post (some (.inl r)) t1) px o0 a1 a2 t) : CT l yX4_meetsBeacon (Cond.code yX4_meetsBeacon cX4_meetsBeacon 5 (some .boolean) :: LT) ({ frames := 0, cells := 0, slots := 0, locals := 0 } : Room) D X ad M [.inr (.inl (0, o0)), .inl a1, .inl a2] t 0 0 post px := by
  refine met_of_wp (by decide +kernel) (Nat.le_of_ble_eq_true rfl) ?_
  intro p e s m args below meth c A hx hb hml hts hown hK hnt hlocks hr hA hE
  have hR9 : Ready p l e ({ frames := 0, cells := 0, slots := 0, locals := 0 } : Room) s m args below meth c D X ad A M 5 cX4_meetsBeacon 0 0 post px RX4 2 (fldOf F_X4) N_X4_meetsBeacon (Q_X4_meetsBeacon M) (tabOf T_X4_meetsBeacon) H_X4_meetsBeacon := by
    refine ⟨hx, hb, hts, hown, hK, hnt, hlocks, hr, F_X4_ok, ?_, fun pc en h => tabOf_ok T_X4_meetsBeacon_ok h, ?_⟩
    · intro v9 ix n mc1 ms1 as t k hn hl h
      unfold N_X4_meetsBeacon at hn
      cases hn
    · intro pc E hE9; cases hE9
  have W46 : ∀ (k2 : Nat → Int32 → Int32 → Int32 → TT → Prop) (hk2 : ∀ (o0 : Nat) (a1 : Int32) (a2 : Int32) (a3 : Int32) (t : TT), k2 o0 a1 a2 a3 t → Wat p l e ({ frames := 0, cells := 0, slots := 0, locals := 0 } : Room) s m args below meth c (QM below args s D X ad A M 0 0 post px) D X ad A M 5 2 [(0, .inr (.inl (0, o0))), (1, .inl a1), (2, .inl a2), (3, .inl a3)] [] t 0 0) (o0 : Nat) (a1 : Int32) (a2 : Int32) (a3 : Int32) (t : TT), B_X4_meetsBeacon_46 M (fun r t1 => post (some (.inl r)) t1) px k2 o0 a1 a2 a3 t → Wat p l e ({ frames := 0, cells := 0, slots := 0, locals := 0 } : Room) s m args below meth c (QM below args s D X ad A M 0 0 post px) D X ad A M 5 46 [(0, .inr (.inl (0, o0))), (1, .inl a1), (2, .inl a2), (3, .inl a3)] [] t 0 0 := by
    intro k2 hk2 o0 a1 a2 a3 t h
    refine wp_go hR9 (cs := S_X4_meetsBeacon) (Bk := (fun pc vs ws t => match pc with | 2 => (match vs, ws with | [.inr (.inl (0, o0)), .inl a1, .inl a2, .inl a3], [] => k2 o0 a1 a2 a3 t | _, _ => False) | _ => False)) ?_ 400 46 _ _ _ _ _ h
    intro pc q vs ws t hc hk
    split at hk
    · cases hc
      split at hk
      · exact hk2 _ _ _ _ _ hk
      · exact hk.elim
    · exact hk.elim
  have W2 : ∀ (n : Nat) (o0 : Nat) (a1 : Int32) (a2 : Int32) (a3 : Int32) (t : TT), L_X4_meetsBeacon_2 M (fun r t1 => post (some (.inl r)) t1) px n o0 a1 a2 a3 t → Wat p l e ({ frames := 0, cells := 0, slots := 0, locals := 0 } : Room) s m args below meth c (QM below args s D X ad A M 0 0 post px) D X ad A M 5 2 [(0, .inr (.inl (0, o0))), (1, .inl a1), (2, .inl a2), (3, .inl a3)] [] t 0 0 := by
    intro n
    induction n with
    | zero =>
      intro o0 a1 a2 a3 t h
      exact h.elim
    | succ n ih =>
      intro o0 a1 a2 a3 t h
      refine wp_go hR9 (cs := S_X4_meetsBeacon) (Bk := (fun pc vs ws t => match pc with | 46 => (match vs, ws with | [.inr (.inl (0, o0)), .inl a1, .inl a2, .inl a3], [] => B_X4_meetsBeacon_46 M (fun r t1 => post (some (.inl r)) t1) px (L_X4_meetsBeacon_2 M (fun r t1 => post (some (.inl r)) t1) px n) o0 a1 a2 a3 t | _, _ => False) | _ => False)) ?_ 400 2 _ _ _ _ _ h
      intro pc q vs ws t hc hk
      split at hk
      · cases hc
        split at hk
        · exact W46 _ ih _ _ _ _ _ hk
        · exact hk.elim
      · exact hk.elim
  refine wp_go hR9 (cs := S_X4_meetsBeacon) (Bk := (fun pc vs ws t => match pc with | 2 => (match vs, ws with | [.inr (.inl (0, o0)), .inl a1, .inl a2, .inl a3], [] => ∃ n9, L_X4_meetsBeacon_2 M (fun r t1 => post (some (.inl r)) t1) px n9 o0 a1 a2 a3 t | _, _ => False) | _ => False)) ?_ 400 0 _ _ _ _ _ h
  intro pc q vs ws t hc hk
  split at hk
  · cases hc
    split at hk
    · obtain ⟨n9, hk⟩ := hk
      exact W2 n9 _ _ _ _ _ hk
    · exact hk.elim
  · exact hk.elim
theorem k_X4_meetsBeacon (hx : p.tables.exec = Jvm.exec) (hb : c.code = b) (hml : c.maxLocals = nL) (hts : ∀ w ∈ LT, w.before args s = true) {own : String} (hown : s.vm.findClass own = some m.cls) (hK : va_K D vwCl (TYX X) s) (hA : ∀ q, s.heap.size ≤ q → A q) (hE : EX A s) (hst9 : l.stackTraces = false) {ix : Nat} (hl9 : Cond.methodLink own ix yX4_meetsBeacon ∈ LT) (hR : 1 ≤ R.frames ∧ 24 ≤ R.locals) (hmc : R.cells = mc) (hms : R.slots = ms) (h : PC_X4_meetsBeacon M as t k kx) : CallOK p l e R s m args below meth c Q D X ad A M nL b mc ms (.invokevirtual ix) 0 0 as t k kx := by
  unfold PC_X4_meetsBeacon at h
  split at h
  · exact call_V hx hb hml hts hown hK hA hE (c_X4_meetsBeacon hst9 _ _ _ t h.2) ⟨hl9, ws_X4_meetsBeacon.1, ws_X4_meetsBeacon.2.1, ws_X4_meetsBeacon.2.2.1, ws_X4_meetsBeacon.2.2.2⟩ (n := 2) (by decide +kernel) hR rfl rfl hmc hms rfl ⟨0, _, rfl, h.1, Or.inl rfl, rfl⟩
  · exact CallOK.congr (by simp only [List.map_cons]; congr 1; exact (if_neg h.1).symm) (call_V hx hb hml hts hown hK hA hE (c_X4_meetsBeacon hst9 _ _ _ t h.2.2) ⟨hl9, ws_X4_meetsBeacon.1, ws_X4_meetsBeacon.2.1, ws_X4_meetsBeacon.2.2.1, ws_X4_meetsBeacon.2.2.2⟩ (n := 2) (by decide +kernel) hR rfl rfl hmc hms rfl ⟨0, _, rfl, h.2.1, Or.inl rfl, rfl⟩)
  · exact h.elim
def Q_X4_move (M : Nat → Nat → Bool) (ix : Nat) (as : List VV) (t : TT) (k : Option VV → TT → Prop) (kx : String → TT → Prop) : Prop := match ix with
  | 237 => PC_X2_go M as t k kx
  | 240 => PC_X4_meetsBeacon M as t k kx
  | _ => False
def N_X4_move (v : Bool) (ix : Nat) : Option (Nat × Nat × Nat) := match v, ix with
  | true, 237 => some (2, 0, 0)
  | true, 240 => some (3, 0, 0)
  | _, _ => none
def S_X4_move (pc : Nat) : Option (List (Nat × Nat × Nat) × List (Nat × Nat) × Nat × Nat) := match pc with
  | 41 => some ([], [], 0, 0)
  | _ => none
def H_X4_move (pc : Nat) : Option String := none
set_option maxRecDepth 100000 in
set_option maxHeartbeats 4000000 in
theorem c_X4_move {l : Launch} (hst9 : l.stackTraces = false) {D : va_G} {X : Nat → ClassId} {ad : Nat → Nat → Nat} {M : Nat → Nat → Bool} {post : Option VV → TT → Prop} {px : String → TT → Prop} (o0 : Nat) (o1 : Nat) (t : TT) (h : P_X4_move M (fun t1 => post none t1) px o0 o1 t) : CT l yX4_move (Cond.code yX4_move cX4_move 3 none :: LT) ({ frames := 1, cells := 0, slots := 0, locals := 24 } : Room) D X ad M [.inr (.inl (0, o0)), .inr (.inl (8, o1))] t 0 0 post px := by
  refine met_of_wp (by decide +kernel) (Nat.le_of_ble_eq_true rfl) ?_
  intro p e s m args below meth c A hx hb hml hts hown hK hnt hlocks hr hA hE
  have hR9 : Ready p l e ({ frames := 1, cells := 0, slots := 0, locals := 24 } : Room) s m args below meth c D X ad A M 3 cX4_move 0 0 post px RX4 0 (fldOf F_X4) N_X4_move (Q_X4_move M) (tabOf T_X4_move) H_X4_move := by
    refine ⟨hx, hb, hts, hown, hK, hnt, hlocks, hr, F_X4_ok, ?_, fun pc en h => tabOf_ok T_X4_move_ok h, ?_⟩
    · intro v9 ix n mc1 ms1 as t k hn hl h
      unfold N_X4_move at hn
      split at hn
      · cases hn
        exact k_X2_go hx hb hml hts hown hK hA hE hst9 (by decide +kernel) ⟨Nat.le_of_ble_eq_true rfl, Nat.le_of_ble_eq_true rfl⟩ rfl rfl h
      · cases hn
        exact k_X4_meetsBeacon hx hb hml hts hown hK hA hE hst9 (by decide +kernel) ⟨Nat.le_of_ble_eq_true rfl, Nat.le_of_ble_eq_true rfl⟩ rfl rfl h
      · cases hn
    · intro pc E hE9; cases hE9
  have W41 : ∀ (t : TT), B_X4_move_41 M (fun t1 => post none t1) px t → Wat p l e ({ frames := 1, cells := 0, slots := 0, locals := 24 } : Room) s m args below meth c (QM below args s D X ad A M 0 0 post px) D X ad A M 3 41 [] [] t 0 0 := by
    intro t h
    refine wp_go hR9 (cs := S_X4_move) (Bk := (fun _ _ _ _ => False)) ?_ 400 41 _ _ _ _ _ h
    intro pc q vs ws t hc hk
    exact hk.elim
  refine wp_go hR9 (cs := S_X4_move) (Bk := (fun pc vs ws t => match pc with | 41 => (match vs, ws with | [], [] => B_X4_move_41 M (fun t1 => post none t1) px t | _, _ => False) | _ => False)) ?_ 400 0 _ _ _ _ _ h
  intro pc q vs ws t hc hk
  split at hk
  · cases hc
    split at hk
    · exact W41 _ hk
    · exact hk.elim
  · exact hk.elim
theorem k_X4_move (hx : p.tables.exec = Jvm.exec) (hb : c.code = b) (hml : c.maxLocals = nL) (hts : ∀ w ∈ LT, w.before args s = true) {own : String} (hown : s.vm.findClass own = some m.cls) (hK : va_K D vwCl (TYX X) s) (hA : ∀ q, s.heap.size ≤ q → A q) (hE : EX A s) (hst9 : l.stackTraces = false) {ix : Nat} (hl9 : Cond.methodLink own ix yX4_move ∈ LT) (hR : 2 ≤ R.frames ∧ 46 ≤ R.locals) (hmc : R.cells = mc) (hms : R.slots = ms) (h : PC_X4_move M as t k kx) : CallOK p l e R s m args below meth c Q D X ad A M nL b mc ms (.invokevirtual ix) 0 0 as t k kx := by
  unfold PC_X4_move at h
  split at h
  · exact call_V hx hb hml hts hown hK hA hE (c_X4_move hst9 _ _ t h.2) ⟨hl9, ws_X4_move.1, ws_X4_move.2.1, ws_X4_move.2.2.1, ws_X4_move.2.2.2⟩ (n := 1) (by decide +kernel) hR rfl rfl hmc hms rfl ⟨0, _, rfl, h.1, Or.inl rfl, rfl⟩
  · exact CallOK.congr (by simp only [List.map_cons]; congr 1; exact (if_neg h.1).symm) (call_V hx hb hml hts hown hK hA hE (c_X4_move hst9 _ _ t h.2.2) ⟨hl9, ws_X4_move.1, ws_X4_move.2.1, ws_X4_move.2.2.1, ws_X4_move.2.2.2⟩ (n := 1) (by decide +kernel) hR rfl rfl hmc hms rfl ⟨0, _, rfl, h.2.1, Or.inl rfl, rfl⟩)
  · exact h.elim
def Q_X4_takeReports (M : Nat → Nat → Bool) (ix : Nat) (as : List VV) (t : TT) (k : Option VV → TT → Prop) (kx : String → TT → Prop) : Prop := False
def N_X4_takeReports (v : Bool) (ix : Nat) : Option (Nat × Nat × Nat) := none
def S_X4_takeReports (pc : Nat) : Option (List (Nat × Nat × Nat) × List (Nat × Nat) × Nat × Nat) := match pc with
  | 32 => some ([(0, 1, 0), (1, 0, 0)], [], 0, 0)
  | 2 => some ([(0, 1, 0), (1, 0, 0)], [], 0, 0)
  | _ => none
def H_X4_takeReports (pc : Nat) : Option String := none
set_option maxRecDepth 100000 in
set_option maxHeartbeats 4000000 in
theorem c_X4_takeReports {l : Launch} (hst9 : l.stackTraces = false) {D : va_G} {X : Nat → ClassId} {ad : Nat → Nat → Nat} {M : Nat → Nat → Bool} {post : Option VV → TT → Prop} {px : String → TT → Prop} (o0 : Nat) (t : TT) (h : P_X4_takeReports M (fun t1 => post none t1) px o0 t) : CT l yX4_takeReports (Cond.code yX4_takeReports cX4_takeReports 3 none :: LT) ({ frames := 0, cells := 0, slots := 0, locals := 0 } : Room) D X ad M [.inr (.inl (0, o0))] t 0 0 post px := by
  refine met_of_wp (by decide +kernel) (Nat.le_of_ble_eq_true rfl) ?_
  intro p e s m args below meth c A hx hb hml hts hown hK hnt hlocks hr hA hE
  have hR9 : Ready p l e ({ frames := 0, cells := 0, slots := 0, locals := 0 } : Room) s m args below meth c D X ad A M 3 cX4_takeReports 0 0 post px RX4 0 (fldOf F_X4) N_X4_takeReports (Q_X4_takeReports M) (tabOf T_X4_takeReports) H_X4_takeReports := by
    refine ⟨hx, hb, hts, hown, hK, hnt, hlocks, hr, F_X4_ok, ?_, fun pc en h => tabOf_ok T_X4_takeReports_ok h, ?_⟩
    · intro v9 ix n mc1 ms1 as t k hn hl h
      unfold N_X4_takeReports at hn
      cases hn
    · intro pc E hE9; cases hE9
  have W32 : ∀ (k2 : Nat → Int32 → TT → Prop) (hk2 : ∀ (o0 : Nat) (a1 : Int32) (t : TT), k2 o0 a1 t → Wat p l e ({ frames := 0, cells := 0, slots := 0, locals := 0 } : Room) s m args below meth c (QM below args s D X ad A M 0 0 post px) D X ad A M 3 2 [(0, .inr (.inl (0, o0))), (1, .inl a1)] [] t 0 0) (o0 : Nat) (a1 : Int32) (t : TT), B_X4_takeReports_32 M (fun t1 => post none t1) px k2 o0 a1 t → Wat p l e ({ frames := 0, cells := 0, slots := 0, locals := 0 } : Room) s m args below meth c (QM below args s D X ad A M 0 0 post px) D X ad A M 3 32 [(0, .inr (.inl (0, o0))), (1, .inl a1)] [] t 0 0 := by
    intro k2 hk2 o0 a1 t h
    refine wp_go hR9 (cs := S_X4_takeReports) (Bk := (fun pc vs ws t => match pc with | 2 => (match vs, ws with | [.inr (.inl (0, o0)), .inl a1], [] => k2 o0 a1 t | _, _ => False) | _ => False)) ?_ 400 32 _ _ _ _ _ h
    intro pc q vs ws t hc hk
    split at hk
    · cases hc
      split at hk
      · exact hk2 _ _ _ hk
      · exact hk.elim
    · exact hk.elim
  have W2 : ∀ (n : Nat) (o0 : Nat) (a1 : Int32) (t : TT), L_X4_takeReports_2 M (fun t1 => post none t1) px n o0 a1 t → Wat p l e ({ frames := 0, cells := 0, slots := 0, locals := 0 } : Room) s m args below meth c (QM below args s D X ad A M 0 0 post px) D X ad A M 3 2 [(0, .inr (.inl (0, o0))), (1, .inl a1)] [] t 0 0 := by
    intro n
    induction n with
    | zero =>
      intro o0 a1 t h
      exact h.elim
    | succ n ih =>
      intro o0 a1 t h
      refine wp_go hR9 (cs := S_X4_takeReports) (Bk := (fun pc vs ws t => match pc with | 32 => (match vs, ws with | [.inr (.inl (0, o0)), .inl a1], [] => B_X4_takeReports_32 M (fun t1 => post none t1) px (L_X4_takeReports_2 M (fun t1 => post none t1) px n) o0 a1 t | _, _ => False) | _ => False)) ?_ 400 2 _ _ _ _ _ h
      intro pc q vs ws t hc hk
      split at hk
      · cases hc
        split at hk
        · exact W32 _ ih _ _ _ hk
        · exact hk.elim
      · exact hk.elim
  refine wp_go hR9 (cs := S_X4_takeReports) (Bk := (fun pc vs ws t => match pc with | 2 => (match vs, ws with | [.inr (.inl (0, o0)), .inl a1], [] => ∃ n9, L_X4_takeReports_2 M (fun t1 => post none t1) px n9 o0 a1 t | _, _ => False) | _ => False)) ?_ 400 0 _ _ _ _ _ h
  intro pc q vs ws t hc hk
  split at hk
  · cases hc
    split at hk
    · obtain ⟨n9, hk⟩ := hk
      exact W2 n9 _ _ _ hk
    · exact hk.elim
  · exact hk.elim
theorem k_X4_takeReports (hx : p.tables.exec = Jvm.exec) (hb : c.code = b) (hml : c.maxLocals = nL) (hts : ∀ w ∈ LT, w.before args s = true) {own : String} (hown : s.vm.findClass own = some m.cls) (hK : va_K D vwCl (TYX X) s) (hA : ∀ q, s.heap.size ≤ q → A q) (hE : EX A s) (hst9 : l.stackTraces = false) {ix : Nat} (hl9 : Cond.methodLink own ix yX4_takeReports ∈ LT) (hR : 1 ≤ R.frames ∧ 22 ≤ R.locals) (hmc : R.cells = mc) (hms : R.slots = ms) (h : PC_X4_takeReports M as t k kx) : CallOK p l e R s m args below meth c Q D X ad A M nL b mc ms (.invokevirtual ix) 0 0 as t k kx := by
  unfold PC_X4_takeReports at h
  split at h
  · exact call_V hx hb hml hts hown hK hA hE (c_X4_takeReports hst9 _ t h.2) ⟨hl9, ws_X4_takeReports.1, ws_X4_takeReports.2.1, ws_X4_takeReports.2.2.1, ws_X4_takeReports.2.2.2⟩ (n := 0) (by decide +kernel) hR rfl rfl hmc hms rfl ⟨0, _, rfl, h.1, Or.inl rfl, rfl⟩
  · exact CallOK.congr (by simp only [List.map_cons]; congr 1; exact (if_neg h.1).symm) (call_V hx hb hml hts hown hK hA hE (c_X4_takeReports hst9 _ t h.2.2) ⟨hl9, ws_X4_takeReports.1, ws_X4_takeReports.2.1, ws_X4_takeReports.2.2.1, ws_X4_takeReports.2.2.2⟩ (n := 0) (by decide +kernel) hR rfl rfl hmc hms rfl ⟨0, _, rfl, h.2.1, Or.inl rfl, rfl⟩)
  · exact h.elim
def Q_X4_passOne (M : Nat → Nat → Bool) (ix : Nat) (as : List VV) (t : TT) (k : Option VV → TT → Prop) (kx : String → TT → Prop) : Prop := match ix with
  | 75 => PC_X4_dealLimits M as t k kx
  | 218 => PC_X4_takeReports M as t k kx
  | 221 => PC_X2_findSpeed M as t k kx
  | 224 => PC_X4_move M as t k kx
  | 228 => PC_X4_countHolding M as t k kx
  | 231 => PC_X4_letPeopleCome M as t k kx
  | 234 => PC_X4_letPeopleBoard M as t k kx
  | _ => False
def N_X4_passOne (v : Bool) (ix : Nat) : Option (Nat × Nat × Nat) := match v, ix with
  | true, 75 => some (1, 0, 0)
  | true, 218 => some (1, 0, 0)
  | true, 221 => some (2, 0, 0)
  | true, 224 => some (2, 0, 0)
  | true, 228 => some (1, 0, 0)
  | true, 231 => some (1, 0, 0)
  | true, 234 => some (1, 0, 0)
  | _, _ => none
def S_X4_passOne (pc : Nat) : Option (List (Nat × Nat × Nat) × List (Nat × Nat) × Nat × Nat) := match pc with
  | 49 => some ([(0, 1, 0), (1, 0, 0)], [], 0, 0)
  | 20 => some ([(0, 1, 0), (1, 0, 0)], [], 0, 0)
  | _ => none
def H_X4_passOne (pc : Nat) : Option String := none
set_option maxRecDepth 100000 in
set_option maxHeartbeats 4000000 in
theorem c_X4_passOne {l : Launch} (hst9 : l.stackTraces = false) {D : va_G} {X : Nat → ClassId} {ad : Nat → Nat → Nat} {M : Nat → Nat → Bool} {post : Option VV → TT → Prop} {px : String → TT → Prop} (o0 : Nat) (t : TT) (h : P_X4_passOne M (fun t1 => post none t1) px o0 t) : CT l yX4_passOne (Cond.code yX4_passOne cX4_passOne 2 none :: LT) ({ frames := 3, cells := 0, slots := 0, locals := 71 } : Room) D X ad M [.inr (.inl (0, o0))] t 0 0 post px := by
  refine met_of_wp (by decide +kernel) (Nat.le_of_ble_eq_true rfl) ?_
  intro p e s m args below meth c A hx hb hml hts hown hK hnt hlocks hr hA hE
  have hR9 : Ready p l e ({ frames := 3, cells := 0, slots := 0, locals := 71 } : Room) s m args below meth c D X ad A M 2 cX4_passOne 0 0 post px RX4 0 (fldOf F_X4) N_X4_passOne (Q_X4_passOne M) (tabOf T_X4_passOne) H_X4_passOne := by
    refine ⟨hx, hb, hts, hown, hK, hnt, hlocks, hr, F_X4_ok, ?_, fun pc en h => tabOf_ok T_X4_passOne_ok h, ?_⟩
    · intro v9 ix n mc1 ms1 as t k hn hl h
      unfold N_X4_passOne at hn
      split at hn
      · cases hn
        exact k_X4_dealLimits hx hb hml hts hown hK hA hE hst9 (by decide +kernel) ⟨Nat.le_of_ble_eq_true rfl, Nat.le_of_ble_eq_true rfl⟩ rfl rfl h
      · cases hn
        exact k_X4_takeReports hx hb hml hts hown hK hA hE hst9 (by decide +kernel) ⟨Nat.le_of_ble_eq_true rfl, Nat.le_of_ble_eq_true rfl⟩ rfl rfl h
      · cases hn
        exact k_X2_findSpeed hx hb hml hts hown hK hA hE hst9 (by decide +kernel) ⟨Nat.le_of_ble_eq_true rfl, Nat.le_of_ble_eq_true rfl⟩ rfl rfl h
      · cases hn
        exact k_X4_move hx hb hml hts hown hK hA hE hst9 (by decide +kernel) ⟨Nat.le_of_ble_eq_true rfl, Nat.le_of_ble_eq_true rfl⟩ rfl rfl h
      · cases hn
        exact k_X4_countHolding hx hb hml hts hown hK hA hE hst9 (by decide +kernel) ⟨Nat.le_of_ble_eq_true rfl, Nat.le_of_ble_eq_true rfl⟩ rfl rfl h
      · cases hn
        exact k_X4_letPeopleCome hx hb hml hts hown hK hA hE hst9 (by decide +kernel) ⟨Nat.le_of_ble_eq_true rfl, Nat.le_of_ble_eq_true rfl⟩ rfl rfl h
      · cases hn
        exact k_X4_letPeopleBoard hx hb hml hts hown hK hA hE hst9 (by decide +kernel) ⟨Nat.le_of_ble_eq_true rfl, Nat.le_of_ble_eq_true rfl⟩ rfl rfl h
      · cases hn
    · intro pc E hE9; cases hE9
  have W49 : ∀ (n : Nat) (o0 : Nat) (a1 : Int32) (t : TT), L_X4_passOne_49 M (fun t1 => post none t1) px n o0 a1 t → Wat p l e ({ frames := 3, cells := 0, slots := 0, locals := 71 } : Room) s m args below meth c (QM below args s D X ad A M 0 0 post px) D X ad A M 2 49 [(0, .inr (.inl (0, o0))), (1, .inl a1)] [] t 0 0 := by
    intro n
    induction n with
    | zero =>
      intro o0 a1 t h
      exact h.elim
    | succ n ih =>
      intro o0 a1 t h
      refine wp_go hR9 (cs := S_X4_passOne) (Bk := (fun pc vs ws t => match pc with | 49 => (match vs, ws with | [.inr (.inl (0, o0)), .inl a1], [] => L_X4_passOne_49 M (fun t1 => post none t1) px n o0 a1 t | _, _ => False) | _ => False)) ?_ 400 49 _ _ _ _ _ h
      intro pc q vs ws t hc hk
      split at hk
      · cases hc
        split at hk
        · exact ih _ _ _ hk
        · exact hk.elim
      · exact hk.elim
  have W20 : ∀ (n : Nat) (o0 : Nat) (a1 : Int32) (t : TT), L_X4_passOne_20 M (fun t1 => post none t1) px n o0 a1 t → Wat p l e ({ frames := 3, cells := 0, slots := 0, locals := 71 } : Room) s m args below meth c (QM below args s D X ad A M 0 0 post px) D X ad A M 2 20 [(0, .inr (.inl (0, o0))), (1, .inl a1)] [] t 0 0 := by
    intro n
    induction n with
    | zero =>
      intro o0 a1 t h
      exact h.elim
    | succ n ih =>
      intro o0 a1 t h
      refine wp_go hR9 (cs := S_X4_passOne) (Bk := (fun pc vs ws t => match pc with | 20 => (match vs, ws with | [.inr (.inl (0, o0)), .inl a1], [] => L_X4_passOne_20 M (fun t1 => post none t1) px n o0 a1 t | _, _ => False) | 49 => (match vs, ws with | [.inr (.inl (0, o0)), .inl a1], [] => ∃ n9, L_X4_passOne_49 M (fun t1 => post none t1) px n9 o0 a1 t | _, _ => False) | _ => False)) ?_ 400 20 _ _ _ _ _ h
      intro pc q vs ws t hc hk
      split at hk
      · cases hc
        split at hk
        · exact ih _ _ _ hk
        · exact hk.elim
      · cases hc
        split at hk
        · obtain ⟨n9, hk⟩ := hk
          exact W49 n9 _ _ _ hk
        · exact hk.elim
      · exact hk.elim
  refine wp_go hR9 (cs := S_X4_passOne) (Bk := (fun pc vs ws t => match pc with | 20 => (match vs, ws with | [.inr (.inl (0, o0)), .inl a1], [] => ∃ n9, L_X4_passOne_20 M (fun t1 => post none t1) px n9 o0 a1 t | _, _ => False) | _ => False)) ?_ 400 0 _ _ _ _ _ h
  intro pc q vs ws t hc hk
  split at hk
  · cases hc
    split at hk
    · obtain ⟨n9, hk⟩ := hk
      exact W20 n9 _ _ _ hk
    · exact hk.elim
  · exact hk.elim
theorem k_X4_passOne (hx : p.tables.exec = Jvm.exec) (hb : c.code = b) (hml : c.maxLocals = nL) (hts : ∀ w ∈ LT, w.before args s = true) {own : String} (hown : s.vm.findClass own = some m.cls) (hK : va_K D vwCl (TYX X) s) (hA : ∀ q, s.heap.size ≤ q → A q) (hE : EX A s) (hst9 : l.stackTraces = false) {ix : Nat} (hl9 : Cond.methodLink own ix yX4_passOne ∈ LT) (hR : 4 ≤ R.frames ∧ 92 ≤ R.locals) (hmc : R.cells = mc) (hms : R.slots = ms) (h : PC_X4_passOne M as t k kx) : CallOK p l e R s m args below meth c Q D X ad A M nL b mc ms (.invokevirtual ix) 0 0 as t k kx := by
  unfold PC_X4_passOne at h
  split at h
  · exact call_V hx hb hml hts hown hK hA hE (c_X4_passOne hst9 _ t h.2) ⟨hl9, ws_X4_passOne.1, ws_X4_passOne.2.1, ws_X4_passOne.2.2.1, ws_X4_passOne.2.2.2⟩ (n := 0) (by decide +kernel) hR rfl rfl hmc hms rfl ⟨0, _, rfl, h.1, Or.inl rfl, rfl⟩
  · exact CallOK.congr (by simp only [List.map_cons]; congr 1; exact (if_neg h.1).symm) (call_V hx hb hml hts hown hK hA hE (c_X4_passOne hst9 _ t h.2.2) ⟨hl9, ws_X4_passOne.1, ws_X4_passOne.2.1, ws_X4_passOne.2.2.1, ws_X4_passOne.2.2.2⟩ (n := 0) (by decide +kernel) hR rfl rfl hmc hms rfl ⟨0, _, rfl, h.2.1, Or.inl rfl, rfl⟩)
  · exact h.elim
def Q_X4_pass (M : Nat → Nat → Bool) (ix : Nat) (as : List VV) (t : TT) (k : Option VV → TT → Prop) (kx : String → TT → Prop) : Prop := match ix with
  | 37 => PC_X4_askRange M as t k kx
  | 44 => PC_X4_askThat M as t k kx
  | 105 => PC_X4_passOne M as t k kx
  | _ => False
def N_X4_pass (v : Bool) (ix : Nat) : Option (Nat × Nat × Nat) := match v, ix with
  | false, 37 => some (3, 0, 0)
  | false, 44 => some (1, 0, 0)
  | true, 105 => some (1, 0, 0)
  | _, _ => none
def S_X4_pass (pc : Nat) : Option (List (Nat × Nat × Nat) × List (Nat × Nat) × Nat × Nat) := match pc with
  | 29 => some ([(0, 1, 0), (1, 0, 0), (2, 0, 0)], [], 0, 0)
  | 24 => some ([(0, 1, 0), (1, 0, 0)], [(0, 0)], 0, 0)
  | _ => none
def H_X4_pass (pc : Nat) : Option String := none
set_option maxRecDepth 100000 in
set_option maxHeartbeats 4000000 in
theorem c_X4_pass {l : Launch} (hst9 : l.stackTraces = false) {D : va_G} {X : Nat → ClassId} {ad : Nat → Nat → Nat} {M : Nat → Nat → Bool} {post : Option VV → TT → Prop} {px : String → TT → Prop} (o0 : Nat) (a1 : Int32) (t : TT) (h : P_X4_pass M (fun r t1 => post (some (.inl r)) t1) px o0 a1 t) : CT l yX4_pass (Cond.code yX4_pass cX4_pass 3 (some .int) :: LT) ({ frames := 4, cells := 0, slots := 0, locals := 92 } : Room) D X ad M [.inr (.inl (0, o0)), .inl a1] t 0 0 post px := by
  refine met_of_wp (by decide +kernel) (Nat.le_of_ble_eq_true rfl) ?_
  intro p e s m args below meth c A hx hb hml hts hown hK hnt hlocks hr hA hE
  have hR9 : Ready p l e ({ frames := 4, cells := 0, slots := 0, locals := 92 } : Room) s m args below meth c D X ad A M 3 cX4_pass 0 0 post px RX4 1 (fldOf F_X4) N_X4_pass (Q_X4_pass M) (tabOf T_X4_pass) H_X4_pass := by
    refine ⟨hx, hb, hts, hown, hK, hnt, hlocks, hr, F_X4_ok, ?_, fun pc en h => tabOf_ok T_X4_pass_ok h, ?_⟩
    · intro v9 ix n mc1 ms1 as t k hn hl h
      unfold N_X4_pass at hn
      split at hn
      · cases hn
        exact k_X4_askRange hx hb hml hts hown hK hA hE hst9 (by decide +kernel) ⟨Nat.le_of_ble_eq_true rfl, Nat.le_of_ble_eq_true rfl⟩ rfl rfl h
      · cases hn
        exact k_X4_askThat hx hb hml hts hown hK hA hE hst9 (by decide +kernel) ⟨Nat.le_of_ble_eq_true rfl, Nat.le_of_ble_eq_true rfl⟩ rfl rfl h
      · cases hn
        exact k_X4_passOne hx hb hml hts hown hK hA hE hst9 (by decide +kernel) ⟨Nat.le_of_ble_eq_true rfl, Nat.le_of_ble_eq_true rfl⟩ rfl rfl h
      · cases hn
    · intro pc E hE9; cases hE9
  have W29 : ∀ (n : Nat) (o0 : Nat) (a1 : Int32) (a2 : Int32) (t : TT), L_X4_pass_29 M (fun r t1 => post (some (.inl r)) t1) px n o0 a1 a2 t → Wat p l e ({ frames := 4, cells := 0, slots := 0, locals := 92 } : Room) s m args below meth c (QM below args s D X ad A M 0 0 post px) D X ad A M 3 29 [(0, .inr (.inl (0, o0))), (1, .inl a1), (2, .inl a2)] [] t 0 0 := by
    intro n
    induction n with
    | zero =>
      intro o0 a1 a2 t h
      exact h.elim
    | succ n ih =>
      intro o0 a1 a2 t h
      refine wp_go hR9 (cs := S_X4_pass) (Bk := (fun pc vs ws t => match pc with | 29 => (match vs, ws with | [.inr (.inl (0, o0)), .inl a1, .inl a2], [] => L_X4_pass_29 M (fun r t1 => post (some (.inl r)) t1) px n o0 a1 a2 t | _, _ => False) | _ => False)) ?_ 400 29 _ _ _ _ _ h
      intro pc q vs ws t hc hk
      split at hk
      · cases hc
        split at hk
        · exact ih _ _ _ _ hk
        · exact hk.elim
      · exact hk.elim
  have W24 : ∀ (o0 : Nat) (a1 : Int32) (s0 : Int32) (t : TT), B_X4_pass_24 M (fun r t1 => post (some (.inl r)) t1) px o0 a1 s0 t → Wat p l e ({ frames := 4, cells := 0, slots := 0, locals := 92 } : Room) s m args below meth c (QM below args s D X ad A M 0 0 post px) D X ad A M 3 24 [(0, .inr (.inl (0, o0))), (1, .inl a1)] [.inl s0] t 0 0 := by
    intro o0 a1 s0 t h
    refine wp_go hR9 (cs := S_X4_pass) (Bk := (fun pc vs ws t => match pc with | 29 => (match vs, ws with | [.inr (.inl (0, o0)), .inl a1, .inl a2], [] => ∃ n9, L_X4_pass_29 M (fun r t1 => post (some (.inl r)) t1) px n9 o0 a1 a2 t | _, _ => False) | _ => False)) ?_ 400 24 _ _ _ _ _ h
    intro pc q vs ws t hc hk
    split at hk
    · cases hc
      split at hk
      · obtain ⟨n9, hk⟩ := hk
        exact W29 n9 _ _ _ _ hk
      · exact hk.elim
    · exact hk.elim
  refine wp_go hR9 (cs := S_X4_pass) (Bk := (fun pc vs ws t => match pc with | 24 => (match vs, ws with | [.inr (.inl (0, o0)), .inl a1], [.inl s0] => B_X4_pass_24 M (fun r t1 => post (some (.inl r)) t1) px o0 a1 s0 t | _, _ => False) | _ => False)) ?_ 400 0 _ _ _ _ _ h
  intro pc q vs ws t hc hk
  split at hk
  · cases hc
    split at hk
    · exact W24 _ _ _ _ hk
    · exact hk.elim
  · exact hk.elim
theorem k_X4_pass (hx : p.tables.exec = Jvm.exec) (hb : c.code = b) (hml : c.maxLocals = nL) (hts : ∀ w ∈ LT, w.before args s = true) {own : String} (hown : s.vm.findClass own = some m.cls) (hK : va_K D vwCl (TYX X) s) (hA : ∀ q, s.heap.size ≤ q → A q) (hE : EX A s) (hst9 : l.stackTraces = false) {ix : Nat} (hl9 : Cond.methodLink own ix yX4_pass ∈ LT) (hR : 5 ≤ R.frames ∧ 114 ≤ R.locals) (hmc : R.cells = mc) (hms : R.slots = ms) (h : PC_X4_pass M as t k kx) : CallOK p l e R s m args below meth c Q D X ad A M nL b mc ms (.invokevirtual ix) 0 0 as t k kx := by
  unfold PC_X4_pass at h
  split at h
  · exact call_V hx hb hml hts hown hK hA hE (c_X4_pass hst9 _ _ t h.2) ⟨hl9, ws_X4_pass.1, ws_X4_pass.2.1, ws_X4_pass.2.2.1, ws_X4_pass.2.2.2⟩ (n := 1) (by decide +kernel) hR rfl rfl hmc hms rfl ⟨0, _, rfl, h.1, Or.inl rfl, rfl⟩
  · exact CallOK.congr (by simp only [List.map_cons]; congr 1; exact (if_neg h.1).symm) (call_V hx hb hml hts hown hK hA hE (c_X4_pass hst9 _ _ t h.2.2) ⟨hl9, ws_X4_pass.1, ws_X4_pass.2.1, ws_X4_pass.2.2.1, ws_X4_pass.2.2.2⟩ (n := 1) (by decide +kernel) hR rfl rfl hmc hms rfl ⟨0, _, rfl, h.2.1, Or.inl rfl, rfl⟩)
  · exact h.elim
def Q_X4_stop (M : Nat → Nat → Bool) (ix : Nat) (as : List VV) (t : TT) (k : Option VV → TT → Prop) (kx : String → TT → Prop) : Prop := match ix with
  | 44 => PC_X4_askThat M as t k kx
  | 57 => PC_X4_askNumber M as t k kx
  | 108 => PC_X2_hasOpenDoors M as t k kx
  | 115 => PC_X2_keeps M as t k kx
  | _ => False
def N_X4_stop (v : Bool) (ix : Nat) : Option (Nat × Nat × Nat) := match v, ix with
  | false, 44 => some (1, 0, 0)
  | false, 57 => some (2, 0, 0)
  | true, 108 => some (1, 0, 0)
  | true, 115 => some (2, 0, 0)
  | _, _ => none
def S_X4_stop (pc : Nat) : Option (List (Nat × Nat × Nat) × List (Nat × Nat) × Nat × Nat) := match pc with
  | 64 => some ([(3, 1, 8), (4, 1, 5)], [(0, 0)], 0, 0)
  | 63 => some ([(3, 1, 8), (4, 1, 5)], [], 0, 0)
  | _ => none
def H_X4_stop (pc : Nat) : Option String := none
set_option maxRecDepth 100000 in
set_option maxHeartbeats 4000000 in
theorem c_X4_stop {l : Launch} (hst9 : l.stackTraces = false) {D : va_G} {X : Nat → ClassId} {ad : Nat → Nat → Nat} {M : Nat → Nat → Bool} {post : Option VV → TT → Prop} {px : String → TT → Prop} (o0 : Nat) (a1 : Int32) (a2 : Int32) (t : TT) (h : P_X4_stop M (fun t1 => post none t1) px o0 a1 a2 t) : CT l yX4_stop (Cond.code yX4_stop cX4_stop 5 none :: LT) ({ frames := 2, cells := 0, slots := 0, locals := 42 } : Room) D X ad M [.inr (.inl (0, o0)), .inl a1, .inl a2] t 0 0 post px := by
  refine met_of_wp (by decide +kernel) (Nat.le_of_ble_eq_true rfl) ?_
  intro p e s m args below meth c A hx hb hml hts hown hK hnt hlocks hr hA hE
  have hR9 : Ready p l e ({ frames := 2, cells := 0, slots := 0, locals := 42 } : Room) s m args below meth c D X ad A M 5 cX4_stop 0 0 post px RX4 0 (fldOf F_X4) N_X4_stop (Q_X4_stop M) (tabOf T_X4_stop) H_X4_stop := by
    refine ⟨hx, hb, hts, hown, hK, hnt, hlocks, hr, F_X4_ok, ?_, fun pc en h => tabOf_ok T_X4_stop_ok h, ?_⟩
    · intro v9 ix n mc1 ms1 as t k hn hl h
      unfold N_X4_stop at hn
      split at hn
      · cases hn
        exact k_X4_askThat hx hb hml hts hown hK hA hE hst9 (by decide +kernel) ⟨Nat.le_of_ble_eq_true rfl, Nat.le_of_ble_eq_true rfl⟩ rfl rfl h
      · cases hn
        exact k_X4_askNumber hx hb hml hts hown hK hA hE hst9 (by decide +kernel) ⟨Nat.le_of_ble_eq_true rfl, Nat.le_of_ble_eq_true rfl⟩ rfl rfl h
      · cases hn
        exact k_X2_hasOpenDoors hx hb hml hts hown hK hA hE hst9 (by decide +kernel) ⟨Nat.le_of_ble_eq_true rfl, Nat.le_of_ble_eq_true rfl⟩ rfl rfl h
      · cases hn
        exact k_X2_keeps hx hb hml hts hown hK hA hE hst9 (by decide +kernel) ⟨Nat.le_of_ble_eq_true rfl, Nat.le_of_ble_eq_true rfl⟩ rfl rfl h
      · cases hn
    · intro pc E hE9; cases hE9
  have W64 : ∀ (o3 : Nat) (o4 : Nat) (s0 : Int32) (t : TT), B_X4_stop_64 M (fun t1 => post none t1) px o3 o4 s0 t → Wat p l e ({ frames := 2, cells := 0, slots := 0, locals := 42 } : Room) s m args below meth c (QM below args s D X ad A M 0 0 post px) D X ad A M 5 64 [(3, .inr (.inl (8, o3))), (4, .inr (.inl (5, o4)))] [.inl s0] t 0 0 := by
    intro o3 o4 s0 t h
    refine wp_go hR9 (cs := S_X4_stop) (Bk := (fun _ _ _ _ => False)) ?_ 400 64 _ _ _ _ _ h
    intro pc q vs ws t hc hk
    exact hk.elim
  have W63 : ∀ (o3 : Nat) (o4 : Nat) (t : TT), B_X4_stop_63 M (fun t1 => post none t1) px o3 o4 t → Wat p l e ({ frames := 2, cells := 0, slots := 0, locals := 42 } : Room) s m args below meth c (QM below args s D X ad A M 0 0 post px) D X ad A M 5 63 [(3, .inr (.inl (8, o3))), (4, .inr (.inl (5, o4)))] [] t 0 0 := by
    intro o3 o4 t h
    refine wp_go hR9 (cs := S_X4_stop) (Bk := (fun pc vs ws t => match pc with | 64 => (match vs, ws with | [.inr (.inl (8, o3)), .inr (.inl (5, o4))], [.inl s0] => B_X4_stop_64 M (fun t1 => post none t1) px o3 o4 s0 t | _, _ => False) | _ => False)) ?_ 400 63 _ _ _ _ _ h
    intro pc q vs ws t hc hk
    split at hk
    · cases hc
      split at hk
      · exact W64 _ _ _ _ hk
      · exact hk.elim
    · exact hk.elim
  refine wp_go hR9 (cs := S_X4_stop) (Bk := (fun pc vs ws t => match pc with | 63 => (match vs, ws with | [.inr (.inl (8, o3)), .inr (.inl (5, o4))], [] => B_X4_stop_63 M (fun t1 => post none t1) px o3 o4 t | _, _ => False) | 64 => (match vs, ws with | [.inr (.inl (8, o3)), .inr (.inl (5, o4))], [.inl s0] => B_X4_stop_64 M (fun t1 => post none t1) px o3 o4 s0 t | _, _ => False) | _ => False)) ?_ 400 0 _ _ _ _ _ h
  intro pc q vs ws t hc hk
  split at hk
  · cases hc
    split at hk
    · exact W63 _ _ _ hk
    · exact hk.elim
  · cases hc
    split at hk
    · exact W64 _ _ _ _ hk
    · exact hk.elim
  · exact hk.elim
theorem k_X4_stop (hx : p.tables.exec = Jvm.exec) (hb : c.code = b) (hml : c.maxLocals = nL) (hts : ∀ w ∈ LT, w.before args s = true) {own : String} (hown : s.vm.findClass own = some m.cls) (hK : va_K D vwCl (TYX X) s) (hA : ∀ q, s.heap.size ≤ q → A q) (hE : EX A s) (hst9 : l.stackTraces = false) {ix : Nat} (hl9 : Cond.methodLink own ix yX4_stop ∈ LT) (hR : 3 ≤ R.frames ∧ 66 ≤ R.locals) (hmc : R.cells = mc) (hms : R.slots = ms) (h : PC_X4_stop M as t k kx) : CallOK p l e R s m args below meth c Q D X ad A M nL b mc ms (.invokevirtual ix) 0 0 as t k kx := by
  unfold PC_X4_stop at h
  split at h
  · exact call_V hx hb hml hts hown hK hA hE (c_X4_stop hst9 _ _ _ t h.2) ⟨hl9, ws_X4_stop.1, ws_X4_stop.2.1, ws_X4_stop.2.2.1, ws_X4_stop.2.2.2⟩ (n := 2) (by decide +kernel) hR rfl rfl hmc hms rfl ⟨0, _, rfl, h.1, Or.inl rfl, rfl⟩
  · exact CallOK.congr (by simp only [List.map_cons]; congr 1; exact (if_neg h.1).symm) (call_V hx hb hml hts hown hK hA hE (c_X4_stop hst9 _ _ _ t h.2.2) ⟨hl9, ws_X4_stop.1, ws_X4_stop.2.1, ws_X4_stop.2.2.1, ws_X4_stop.2.2.2⟩ (n := 2) (by decide +kernel) hR rfl rfl hmc hms rfl ⟨0, _, rfl, h.2.1, Or.inl rfl, rfl⟩)
  · exact h.elim
def Q_X4_open (M : Nat → Nat → Bool) (ix : Nat) (as : List VV) (t : TT) (k : Option VV → TT → Prop) (kx : String → TT → Prop) : Prop := match ix with
  | 37 => PC_X4_askRange M as t k kx
  | 44 => PC_X4_askThat M as t k kx
  | 57 => PC_X4_askNumber M as t k kx
  | 108 => PC_X2_hasOpenDoors M as t k kx
  | 126 => PC_X2_isAtStop M as t k kx
  | 129 => PC_X2_openDoors M as t k kx
  | _ => False
def N_X4_open (v : Bool) (ix : Nat) : Option (Nat × Nat × Nat) := match v, ix with
  | false, 37 => some (3, 0, 0)
  | false, 44 => some (1, 0, 0)
  | false, 57 => some (2, 0, 0)
  | true, 108 => some (1, 0, 0)
  | true, 126 => some (1, 0, 0)
  | true, 129 => some (2, 0, 0)
  | _, _ => none
def S_X4_open (pc : Nat) : Option (List (Nat × Nat × Nat) × List (Nat × Nat) × Nat × Nat) := match pc with
  | 41 => some ([(2, 0, 0), (3, 1, 8)], [(0, 0)], 0, 0)
  | 40 => some ([(2, 0, 0), (3, 1, 8)], [], 0, 0)
  | _ => none
def H_X4_open (pc : Nat) : Option String := none
set_option maxRecDepth 100000 in
set_option maxHeartbeats 4000000 in
theorem c_X4_open {l : Launch} (hst9 : l.stackTraces = false) {D : va_G} {X : Nat → ClassId} {ad : Nat → Nat → Nat} {M : Nat → Nat → Bool} {post : Option VV → TT → Prop} {px : String → TT → Prop} (o0 : Nat) (a1 : Int32) (a2 : Int32) (t : TT) (h : P_X4_open M (fun r t1 => post (some (.inl r)) t1) px o0 a1 a2 t) : CT l yX4_open (Cond.code yX4_open cX4_open 4 (some .int) :: LT) ({ frames := 2, cells := 0, slots := 0, locals := 43 } : Room) D X ad M [.inr (.inl (0, o0)), .inl a1, .inl a2] t 0 0 post px := by
  refine met_of_wp (by decide +kernel) (Nat.le_of_ble_eq_true rfl) ?_
  intro p e s m args below meth c A hx hb hml hts hown hK hnt hlocks hr hA hE
  have hR9 : Ready p l e ({ frames := 2, cells := 0, slots := 0, locals := 43 } : Room) s m args below meth c D X ad A M 4 cX4_open 0 0 post px RX4 1 (fldOf F_X4) N_X4_open (Q_X4_open M) (tabOf T_X4_open) H_X4_open := by
    refine ⟨hx, hb, hts, hown, hK, hnt, hlocks, hr, F_X4_ok, ?_, fun pc en h => tabOf_ok T_X4_open_ok h, ?_⟩
    · intro v9 ix n mc1 ms1 as t k hn hl h
      unfold N_X4_open at hn
      split at hn
      · cases hn
        exact k_X4_askRange hx hb hml hts hown hK hA hE hst9 (by decide +kernel) ⟨Nat.le_of_ble_eq_true rfl, Nat.le_of_ble_eq_true rfl⟩ rfl rfl h
      · cases hn
        exact k_X4_askThat hx hb hml hts hown hK hA hE hst9 (by decide +kernel) ⟨Nat.le_of_ble_eq_true rfl, Nat.le_of_ble_eq_true rfl⟩ rfl rfl h
      · cases hn
        exact k_X4_askNumber hx hb hml hts hown hK hA hE hst9 (by decide +kernel) ⟨Nat.le_of_ble_eq_true rfl, Nat.le_of_ble_eq_true rfl⟩ rfl rfl h
      · cases hn
        exact k_X2_hasOpenDoors hx hb hml hts hown hK hA hE hst9 (by decide +kernel) ⟨Nat.le_of_ble_eq_true rfl, Nat.le_of_ble_eq_true rfl⟩ rfl rfl h
      · cases hn
        exact k_X2_isAtStop hx hb hml hts hown hK hA hE hst9 (by decide +kernel) ⟨Nat.le_of_ble_eq_true rfl, Nat.le_of_ble_eq_true rfl⟩ rfl rfl h
      · cases hn
        exact k_X2_openDoors hx hb hml hts hown hK hA hE hst9 (by decide +kernel) ⟨Nat.le_of_ble_eq_true rfl, Nat.le_of_ble_eq_true rfl⟩ rfl rfl h
      · cases hn
    · intro pc E hE9; cases hE9
  have W41 : ∀ (a2 : Int32) (o3 : Nat) (s0 : Int32) (t : TT), B_X4_open_41 M (fun r t1 => post (some (.inl r)) t1) px a2 o3 s0 t → Wat p l e ({ frames := 2, cells := 0, slots := 0, locals := 43 } : Room) s m args below meth c (QM below args s D X ad A M 0 0 post px) D X ad A M 4 41 [(2, .inl a2), (3, .inr (.inl (8, o3)))] [.inl s0] t 0 0 := by
    intro a2 o3 s0 t h
    refine wp_go hR9 (cs := S_X4_open) (Bk := (fun _ _ _ _ => False)) ?_ 400 41 _ _ _ _ _ h
    intro pc q vs ws t hc hk
    exact hk.elim
  have W40 : ∀ (a2 : Int32) (o3 : Nat) (t : TT), B_X4_open_40 M (fun r t1 => post (some (.inl r)) t1) px a2 o3 t → Wat p l e ({ frames := 2, cells := 0, slots := 0, locals := 43 } : Room) s m args below meth c (QM below args s D X ad A M 0 0 post px) D X ad A M 4 40 [(2, .inl a2), (3, .inr (.inl (8, o3)))] [] t 0 0 := by
    intro a2 o3 t h
    refine wp_go hR9 (cs := S_X4_open) (Bk := (fun pc vs ws t => match pc with | 41 => (match vs, ws with | [.inl a2, .inr (.inl (8, o3))], [.inl s0] => B_X4_open_41 M (fun r t1 => post (some (.inl r)) t1) px a2 o3 s0 t | _, _ => False) | _ => False)) ?_ 400 40 _ _ _ _ _ h
    intro pc q vs ws t hc hk
    split at hk
    · cases hc
      split at hk
      · exact W41 _ _ _ _ hk
      · exact hk.elim
    · exact hk.elim
  refine wp_go hR9 (cs := S_X4_open) (Bk := (fun pc vs ws t => match pc with | 40 => (match vs, ws with | [.inl a2, .inr (.inl (8, o3))], [] => B_X4_open_40 M (fun r t1 => post (some (.inl r)) t1) px a2 o3 t | _, _ => False) | 41 => (match vs, ws with | [.inl a2, .inr (.inl (8, o3))], [.inl s0] => B_X4_open_41 M (fun r t1 => post (some (.inl r)) t1) px a2 o3 s0 t | _, _ => False) | _ => False)) ?_ 400 0 _ _ _ _ _ h
  intro pc q vs ws t hc hk
  split at hk
  · cases hc
    split at hk
    · exact W40 _ _ _ hk
    · exact hk.elim
  · cases hc
    split at hk
    · exact W41 _ _ _ _ hk
    · exact hk.elim
  · exact hk.elim
theorem k_X4_open (hx : p.tables.exec = Jvm.exec) (hb : c.code = b) (hml : c.maxLocals = nL) (hts : ∀ w ∈ LT, w.before args s = true) {own : String} (hown : s.vm.findClass own = some m.cls) (hK : va_K D vwCl (TYX X) s) (hA : ∀ q, s.heap.size ≤ q → A q) (hE : EX A s) (hst9 : l.stackTraces = false) {ix : Nat} (hl9 : Cond.methodLink own ix yX4_open ∈ LT) (hR : 3 ≤ R.frames ∧ 66 ≤ R.locals) (hmc : R.cells = mc) (hms : R.slots = ms) (h : PC_X4_open M as t k kx) : CallOK p l e R s m args below meth c Q D X ad A M nL b mc ms (.invokevirtual ix) 0 0 as t k kx := by
  unfold PC_X4_open at h
  split at h
  · exact call_V hx hb hml hts hown hK hA hE (c_X4_open hst9 _ _ _ t h.2) ⟨hl9, ws_X4_open.1, ws_X4_open.2.1, ws_X4_open.2.2.1, ws_X4_open.2.2.2⟩ (n := 2) (by decide +kernel) hR rfl rfl hmc hms rfl ⟨0, _, rfl, h.1, Or.inl rfl, rfl⟩
  · exact CallOK.congr (by simp only [List.map_cons]; congr 1; exact (if_neg h.1).symm) (call_V hx hb hml hts hown hK hA hE (c_X4_open hst9 _ _ _ t h.2.2) ⟨hl9, ws_X4_open.1, ws_X4_open.2.1, ws_X4_open.2.2.1, ws_X4_open.2.2.2⟩ (n := 2) (by decide +kernel) hR rfl rfl hmc hms rfl ⟨0, _, rfl, h.2.1, Or.inl rfl, rfl⟩)
  · exact h.elim
def Q_X4_shut (M : Nat → Nat → Bool) (ix : Nat) (as : List VV) (t : TT) (k : Option VV → TT → Prop) (kx : String → TT → Prop) : Prop := match ix with
  | 44 => PC_X4_askThat M as t k kx
  | 57 => PC_X4_askNumber M as t k kx
  | 108 => PC_X2_hasOpenDoors M as t k kx
  | _ => False
def N_X4_shut (v : Bool) (ix : Nat) : Option (Nat × Nat × Nat) := match v, ix with
  | false, 44 => some (1, 0, 0)
  | false, 57 => some (2, 0, 0)
  | true, 108 => some (1, 0, 0)
  | _, _ => none
def S_X4_shut (pc : Nat) : Option (List (Nat × Nat × Nat) × List (Nat × Nat) × Nat × Nat) := none
def H_X4_shut (pc : Nat) : Option String := none
set_option maxRecDepth 100000 in
set_option maxHeartbeats 4000000 in
theorem c_X4_shut {l : Launch} (hst9 : l.stackTraces = false) {D : va_G} {X : Nat → ClassId} {ad : Nat → Nat → Nat} {M : Nat → Nat → Bool} {post : Option VV → TT → Prop} {px : String → TT → Prop} (o0 : Nat) (a1 : Int32) (t : TT) (h : P_X4_shut M (fun t1 => post none t1) px o0 a1 t) : CT l yX4_shut (Cond.code yX4_shut cX4_shut 3 none :: LT) ({ frames := 1, cells := 0, slots := 0, locals := 21 } : Room) D X ad M [.inr (.inl (0, o0)), .inl a1] t 0 0 post px := by
  refine met_of_wp (by decide +kernel) (Nat.le_of_ble_eq_true rfl) ?_
  intro p e s m args below meth c A hx hb hml hts hown hK hnt hlocks hr hA hE
  have hR9 : Ready p l e ({ frames := 1, cells := 0, slots := 0, locals := 21 } : Room) s m args below meth c D X ad A M 3 cX4_shut 0 0 post px RX4 0 (fldOf F_X4) N_X4_shut (Q_X4_shut M) (tabOf T_X4_shut) H_X4_shut := by
    refine ⟨hx, hb, hts, hown, hK, hnt, hlocks, hr, F_X4_ok, ?_, fun pc en h => tabOf_ok T_X4_shut_ok h, ?_⟩
    · intro v9 ix n mc1 ms1 as t k hn hl h
      unfold N_X4_shut at hn
      split at hn
      · cases hn
        exact k_X4_askThat hx hb hml hts hown hK hA hE hst9 (by decide +kernel) ⟨Nat.le_of_ble_eq_true rfl, Nat.le_of_ble_eq_true rfl⟩ rfl rfl h
      · cases hn
        exact k_X4_askNumber hx hb hml hts hown hK hA hE hst9 (by decide +kernel) ⟨Nat.le_of_ble_eq_true rfl, Nat.le_of_ble_eq_true rfl⟩ rfl rfl h
      · cases hn
        exact k_X2_hasOpenDoors hx hb hml hts hown hK hA hE hst9 (by decide +kernel) ⟨Nat.le_of_ble_eq_true rfl, Nat.le_of_ble_eq_true rfl⟩ rfl rfl h
      · cases hn
    · intro pc E hE9; cases hE9
  refine wp_go hR9 (cs := S_X4_shut) (Bk := (fun _ _ _ _ => False)) ?_ 400 0 _ _ _ _ _ h
  intro pc q vs ws t hc hk
  exact hk.elim
theorem k_X4_shut (hx : p.tables.exec = Jvm.exec) (hb : c.code = b) (hml : c.maxLocals = nL) (hts : ∀ w ∈ LT, w.before args s = true) {own : String} (hown : s.vm.findClass own = some m.cls) (hK : va_K D vwCl (TYX X) s) (hA : ∀ q, s.heap.size ≤ q → A q) (hE : EX A s) (hst9 : l.stackTraces = false) {ix : Nat} (hl9 : Cond.methodLink own ix yX4_shut ∈ LT) (hR : 2 ≤ R.frames ∧ 43 ≤ R.locals) (hmc : R.cells = mc) (hms : R.slots = ms) (h : PC_X4_shut M as t k kx) : CallOK p l e R s m args below meth c Q D X ad A M nL b mc ms (.invokevirtual ix) 0 0 as t k kx := by
  unfold PC_X4_shut at h
  split at h
  · exact call_V hx hb hml hts hown hK hA hE (c_X4_shut hst9 _ _ t h.2) ⟨hl9, ws_X4_shut.1, ws_X4_shut.2.1, ws_X4_shut.2.2.1, ws_X4_shut.2.2.2⟩ (n := 1) (by decide +kernel) hR rfl rfl hmc hms rfl ⟨0, _, rfl, h.1, Or.inl rfl, rfl⟩
  · exact CallOK.congr (by simp only [List.map_cons]; congr 1; exact (if_neg h.1).symm) (call_V hx hb hml hts hown hK hA hE (c_X4_shut hst9 _ _ t h.2.2) ⟨hl9, ws_X4_shut.1, ws_X4_shut.2.1, ws_X4_shut.2.2.1, ws_X4_shut.2.2.2⟩ (n := 1) (by decide +kernel) hR rfl rfl hmc hms rfl ⟨0, _, rfl, h.2.1, Or.inl rfl, rfl⟩)
  · exact h.elim
def Q_X4_hold (M : Nat → Nat → Bool) (ix : Nat) (as : List VV) (t : TT) (k : Option VV → TT → Prop) (kx : String → TT → Prop) : Prop := match ix with
  | 37 => PC_X4_askRange M as t k kx
  | 44 => PC_X4_askThat M as t k kx
  | 57 => PC_X4_askNumber M as t k kx
  | 138 => PC_mmin as t k
  | _ => False
def N_X4_hold (v : Bool) (ix : Nat) : Option (Nat × Nat × Nat) := match v, ix with
  | false, 37 => some (3, 0, 0)
  | false, 44 => some (1, 0, 0)
  | false, 57 => some (2, 0, 0)
  | false, 138 => some (2, 0, 0)
  | _, _ => none
def S_X4_hold (pc : Nat) : Option (List (Nat × Nat × Nat) × List (Nat × Nat) × Nat × Nat) := match pc with
  | 34 => some ([(2, 0, 0), (3, 1, 8)], [(0, 0)], 0, 0)
  | _ => none
def H_X4_hold (pc : Nat) : Option String := none
set_option maxRecDepth 100000 in
set_option maxHeartbeats 4000000 in
theorem c_X4_hold {l : Launch} (hst9 : l.stackTraces = false) {D : va_G} {X : Nat → ClassId} {ad : Nat → Nat → Nat} {M : Nat → Nat → Bool} {post : Option VV → TT → Prop} {px : String → TT → Prop} (o0 : Nat) (a1 : Int32) (a2 : Int32) (t : TT) (h : P_X4_hold M (fun r t1 => post (some (.inl r)) t1) px o0 a1 a2 t) : CT l yX4_hold (Cond.code yX4_hold cX4_hold 4 (some .int) :: LT) ({ frames := 1, cells := 0, slots := 0, locals := 22 } : Room) D X ad M [.inr (.inl (0, o0)), .inl a1, .inl a2] t 0 0 post px := by
  refine met_of_wp (by decide +kernel) (Nat.le_of_ble_eq_true rfl) ?_
  intro p e s m args below meth c A hx hb hml hts hown hK hnt hlocks hr hA hE
  have hR9 : Ready p l e ({ frames := 1, cells := 0, slots := 0, locals := 22 } : Room) s m args below meth c D X ad A M 4 cX4_hold 0 0 post px RX4 1 (fldOf F_X4) N_X4_hold (Q_X4_hold M) (tabOf T_X4_hold) H_X4_hold := by
    refine ⟨hx, hb, hts, hown, hK, hnt, hlocks, hr, F_X4_ok, ?_, fun pc en h => tabOf_ok T_X4_hold_ok h, ?_⟩
    · intro v9 ix n mc1 ms1 as t k hn hl h
      unfold N_X4_hold at hn
      split at hn
      · cases hn
        exact k_X4_askRange hx hb hml hts hown hK hA hE hst9 (by decide +kernel) ⟨Nat.le_of_ble_eq_true rfl, Nat.le_of_ble_eq_true rfl⟩ rfl rfl h
      · cases hn
        exact k_X4_askThat hx hb hml hts hown hK hA hE hst9 (by decide +kernel) ⟨Nat.le_of_ble_eq_true rfl, Nat.le_of_ble_eq_true rfl⟩ rfl rfl h
      · cases hn
        exact k_X4_askNumber hx hb hml hts hown hK hA hE hst9 (by decide +kernel) ⟨Nat.le_of_ble_eq_true rfl, Nat.le_of_ble_eq_true rfl⟩ rfl rfl h
      · cases hn
        exact k_mmin hx hb hml hts hown (by decide +kernel) ⟨Nat.le_of_ble_eq_true rfl, Nat.le_of_ble_eq_true rfl⟩ rfl rfl h
      · cases hn
    · intro pc E hE9; cases hE9
  have W34 : ∀ (a2 : Int32) (o3 : Nat) (s0 : Int32) (t : TT), B_X4_hold_34 M (fun r t1 => post (some (.inl r)) t1) px a2 o3 s0 t → Wat p l e ({ frames := 1, cells := 0, slots := 0, locals := 22 } : Room) s m args below meth c (QM below args s D X ad A M 0 0 post px) D X ad A M 4 34 [(2, .inl a2), (3, .inr (.inl (8, o3)))] [.inl s0] t 0 0 := by
    intro a2 o3 s0 t h
    refine wp_go hR9 (cs := S_X4_hold) (Bk := (fun _ _ _ _ => False)) ?_ 400 34 _ _ _ _ _ h
    intro pc q vs ws t hc hk
    exact hk.elim
  refine wp_go hR9 (cs := S_X4_hold) (Bk := (fun pc vs ws t => match pc with | 34 => (match vs, ws with | [.inl a2, .inr (.inl (8, o3))], [.inl s0] => B_X4_hold_34 M (fun r t1 => post (some (.inl r)) t1) px a2 o3 s0 t | _, _ => False) | _ => False)) ?_ 400 0 _ _ _ _ _ h
  intro pc q vs ws t hc hk
  split at hk
  · cases hc
    split at hk
    · exact W34 _ _ _ _ hk
    · exact hk.elim
  · exact hk.elim
theorem k_X4_hold (hx : p.tables.exec = Jvm.exec) (hb : c.code = b) (hml : c.maxLocals = nL) (hts : ∀ w ∈ LT, w.before args s = true) {own : String} (hown : s.vm.findClass own = some m.cls) (hK : va_K D vwCl (TYX X) s) (hA : ∀ q, s.heap.size ≤ q → A q) (hE : EX A s) (hst9 : l.stackTraces = false) {ix : Nat} (hl9 : Cond.methodLink own ix yX4_hold ∈ LT) (hR : 2 ≤ R.frames ∧ 45 ≤ R.locals) (hmc : R.cells = mc) (hms : R.slots = ms) (h : PC_X4_hold M as t k kx) : CallOK p l e R s m args below meth c Q D X ad A M nL b mc ms (.invokevirtual ix) 0 0 as t k kx := by
  unfold PC_X4_hold at h
  split at h
  · exact call_V hx hb hml hts hown hK hA hE (c_X4_hold hst9 _ _ _ t h.2) ⟨hl9, ws_X4_hold.1, ws_X4_hold.2.1, ws_X4_hold.2.2.1, ws_X4_hold.2.2.2⟩ (n := 2) (by decide +kernel) hR rfl rfl hmc hms rfl ⟨0, _, rfl, h.1, Or.inl rfl, rfl⟩
  · exact CallOK.congr (by simp only [List.map_cons]; congr 1; exact (if_neg h.1).symm) (call_V hx hb hml hts hown hK hA hE (c_X4_hold hst9 _ _ _ t h.2.2) ⟨hl9, ws_X4_hold.1, ws_X4_hold.2.1, ws_X4_hold.2.2.1, ws_X4_hold.2.2.2⟩ (n := 2) (by decide +kernel) hR rfl rfl hmc hms rfl ⟨0, _, rfl, h.2.1, Or.inl rfl, rfl⟩)
  · exact h.elim
def Q_X4_depart (M : Nat → Nat → Bool) (ix : Nat) (as : List VV) (t : TT) (k : Option VV → TT → Prop) (kx : String → TT → Prop) : Prop := match ix with
  | 57 => PC_X4_askNumber M as t k kx
  | 144 => PC_X2_canDepart M as t k kx
  | 154 => PC_X1_countDeparture M as t k kx
  | _ => False
def N_X4_depart (v : Bool) (ix : Nat) : Option (Nat × Nat × Nat) := match v, ix with
  | false, 57 => some (2, 0, 0)
  | true, 144 => some (1, 0, 0)
  | true, 154 => some (2, 0, 0)
  | _, _ => none
def S_X4_depart (pc : Nat) : Option (List (Nat × Nat × Nat) × List (Nat × Nat) × Nat × Nat) := match pc with
  | 31 => some ([], [], 0, 0)
  | _ => none
def H_X4_depart (pc : Nat) : Option String := match pc with
  | 31 => some ISE9
  | _ => none
set_option maxRecDepth 100000 in
set_option maxHeartbeats 4000000 in
theorem c_X4_depart {l : Launch} (hst9 : l.stackTraces = false) {D : va_G} {X : Nat → ClassId} {ad : Nat → Nat → Nat} {M : Nat → Nat → Bool} {post : Option VV → TT → Prop} {px : String → TT → Prop} (o0 : Nat) (a1 : Int32) (t : TT) (h : P_X4_depart M (fun r t1 => post (some (.inl r)) t1) px o0 a1 t) : CT l yX4_depart (Cond.code yX4_depart cX4_depart 4 (some .int) :: LT) ({ frames := 2, cells := 0, slots := 0, locals := 40 } : Room) D X ad M [.inr (.inl (0, o0)), .inl a1] t 0 0 post px := by
  refine met_of_wp (by decide +kernel) (Nat.le_of_ble_eq_true rfl) ?_
  intro p e s m args below meth c A hx hb hml hts hown hK hnt hlocks hr hA hE
  have hR9 : Ready p l e ({ frames := 2, cells := 0, slots := 0, locals := 40 } : Room) s m args below meth c D X ad A M 4 cX4_depart 0 0 post px RX4 1 (fldOf F_X4) N_X4_depart (Q_X4_depart M) (tabOf T_X4_depart) H_X4_depart := by
    refine ⟨hx, hb, hts, hown, hK, hnt, hlocks, hr, F_X4_ok, ?_, fun pc en h => tabOf_ok T_X4_depart_ok h, ?_⟩
    · intro v9 ix n mc1 ms1 as t k hn hl h
      unfold N_X4_depart at hn
      split at hn
      · cases hn
        exact k_X4_askNumber hx hb hml hts hown hK hA hE hst9 (by decide +kernel) ⟨Nat.le_of_ble_eq_true rfl, Nat.le_of_ble_eq_true rfl⟩ rfl rfl h
      · cases hn
        exact k_X2_canDepart hx hb hml hts hown hK hA hE hst9 (by decide +kernel) ⟨Nat.le_of_ble_eq_true rfl, Nat.le_of_ble_eq_true rfl⟩ rfl rfl h
      · cases hn
        exact k_X1_countDeparture hx hb hml hts hown hK hA hE hst9 (by decide +kernel) ⟨Nat.le_of_ble_eq_true rfl, Nat.le_of_ble_eq_true rfl⟩ rfl rfl h
      · cases hn
    · exact fun pc E hE9 loc st t cl sl hp h1 h2 h8 => absurd h1 (Nat.not_succ_le_zero _)
  have W31 : ∀ (t : TT), B_X4_depart_31 M (fun r t1 => post (some (.inl r)) t1) px t → Wat p l e ({ frames := 2, cells := 0, slots := 0, locals := 40 } : Room) s m args below meth c (QM below args s D X ad A M 0 0 post px) D X ad A M 4 31 [] [] t 0 0 := by
    intro t h
    refine wp_go hR9 (cs := S_X4_depart) (Bk := (fun _ _ _ _ => False)) ?_ 400 31 _ _ _ _ _ h
    intro pc q vs ws t hc hk
    exact hk.elim
  refine wp_go hR9 (cs := S_X4_depart) (Bk := (fun pc vs ws t => match pc with | 31 => (match vs, ws with | [], [] => B_X4_depart_31 M (fun r t1 => post (some (.inl r)) t1) px t | _, _ => False) | _ => False)) ?_ 400 0 _ _ _ _ _ h
  intro pc q vs ws t hc hk
  split at hk
  · cases hc
    split at hk
    · exact W31 _ hk
    · exact hk.elim
  · exact hk.elim
theorem k_X4_depart (hx : p.tables.exec = Jvm.exec) (hb : c.code = b) (hml : c.maxLocals = nL) (hts : ∀ w ∈ LT, w.before args s = true) {own : String} (hown : s.vm.findClass own = some m.cls) (hK : va_K D vwCl (TYX X) s) (hA : ∀ q, s.heap.size ≤ q → A q) (hE : EX A s) (hst9 : l.stackTraces = false) {ix : Nat} (hl9 : Cond.methodLink own ix yX4_depart ∈ LT) (hR : 3 ≤ R.frames ∧ 63 ≤ R.locals) (hmc : R.cells = mc) (hms : R.slots = ms) (h : PC_X4_depart M as t k kx) : CallOK p l e R s m args below meth c Q D X ad A M nL b mc ms (.invokevirtual ix) 0 0 as t k kx := by
  unfold PC_X4_depart at h
  split at h
  · exact call_V hx hb hml hts hown hK hA hE (c_X4_depart hst9 _ _ t h.2) ⟨hl9, ws_X4_depart.1, ws_X4_depart.2.1, ws_X4_depart.2.2.1, ws_X4_depart.2.2.2⟩ (n := 1) (by decide +kernel) hR rfl rfl hmc hms rfl ⟨0, _, rfl, h.1, Or.inl rfl, rfl⟩
  · exact CallOK.congr (by simp only [List.map_cons]; congr 1; exact (if_neg h.1).symm) (call_V hx hb hml hts hown hK hA hE (c_X4_depart hst9 _ _ t h.2.2) ⟨hl9, ws_X4_depart.1, ws_X4_depart.2.1, ws_X4_depart.2.2.1, ws_X4_depart.2.2.2⟩ (n := 1) (by decide +kernel) hR rfl rfl hmc hms rfl ⟨0, _, rfl, h.2.1, Or.inl rfl, rfl⟩)
  · exact h.elim
def Q_X4_rate (M : Nat → Nat → Bool) (ix : Nat) (as : List VV) (t : TT) (k : Option VV → TT → Prop) (kx : String → TT → Prop) : Prop := match ix with
  | 37 => PC_X4_askRange M as t k kx
  | 57 => PC_X4_askNumber M as t k kx
  | _ => False
def N_X4_rate (v : Bool) (ix : Nat) : Option (Nat × Nat × Nat) := match v, ix with
  | false, 37 => some (3, 0, 0)
  | false, 57 => some (2, 0, 0)
  | _, _ => none
def S_X4_rate (pc : Nat) : Option (List (Nat × Nat × Nat) × List (Nat × Nat) × Nat × Nat) := none
def H_X4_rate (pc : Nat) : Option String := none
set_option maxRecDepth 100000 in
set_option maxHeartbeats 4000000 in
theorem c_X4_rate {l : Launch} (hst9 : l.stackTraces = false) {D : va_G} {X : Nat → ClassId} {ad : Nat → Nat → Nat} {M : Nat → Nat → Bool} {post : Option VV → TT → Prop} {px : String → TT → Prop} (o0 : Nat) (a1 : Int32) (a2 : Int32) (t : TT) (h : P_X4_rate M (fun r t1 => post (some (.inl r)) t1) px o0 a1 a2 t) : CT l yX4_rate (Cond.code yX4_rate cX4_rate 5 (some .int) :: LT) ({ frames := 1, cells := 0, slots := 0, locals := 22 } : Room) D X ad M [.inr (.inl (0, o0)), .inl a1, .inl a2] t 0 0 post px := by
  refine met_of_wp (by decide +kernel) (Nat.le_of_ble_eq_true rfl) ?_
  intro p e s m args below meth c A hx hb hml hts hown hK hnt hlocks hr hA hE
  have hR9 : Ready p l e ({ frames := 1, cells := 0, slots := 0, locals := 22 } : Room) s m args below meth c D X ad A M 5 cX4_rate 0 0 post px RX4 1 (fldOf F_X4) N_X4_rate (Q_X4_rate M) (tabOf T_X4_rate) H_X4_rate := by
    refine ⟨hx, hb, hts, hown, hK, hnt, hlocks, hr, F_X4_ok, ?_, fun pc en h => tabOf_ok T_X4_rate_ok h, ?_⟩
    · intro v9 ix n mc1 ms1 as t k hn hl h
      unfold N_X4_rate at hn
      split at hn
      · cases hn
        exact k_X4_askRange hx hb hml hts hown hK hA hE hst9 (by decide +kernel) ⟨Nat.le_of_ble_eq_true rfl, Nat.le_of_ble_eq_true rfl⟩ rfl rfl h
      · cases hn
        exact k_X4_askNumber hx hb hml hts hown hK hA hE hst9 (by decide +kernel) ⟨Nat.le_of_ble_eq_true rfl, Nat.le_of_ble_eq_true rfl⟩ rfl rfl h
      · cases hn
    · intro pc E hE9; cases hE9
  refine wp_go hR9 (cs := S_X4_rate) (Bk := (fun _ _ _ _ => False)) ?_ 400 0 _ _ _ _ _ h
  intro pc q vs ws t hc hk
  exact hk.elim
theorem k_X4_rate (hx : p.tables.exec = Jvm.exec) (hb : c.code = b) (hml : c.maxLocals = nL) (hts : ∀ w ∈ LT, w.before args s = true) {own : String} (hown : s.vm.findClass own = some m.cls) (hK : va_K D vwCl (TYX X) s) (hA : ∀ q, s.heap.size ≤ q → A q) (hE : EX A s) (hst9 : l.stackTraces = false) {ix : Nat} (hl9 : Cond.methodLink own ix yX4_rate ∈ LT) (hR : 2 ≤ R.frames ∧ 46 ≤ R.locals) (hmc : R.cells = mc) (hms : R.slots = ms) (h : PC_X4_rate M as t k kx) : CallOK p l e R s m args below meth c Q D X ad A M nL b mc ms (.invokevirtual ix) 0 0 as t k kx := by
  unfold PC_X4_rate at h
  split at h
  · exact call_V hx hb hml hts hown hK hA hE (c_X4_rate hst9 _ _ _ t h.2) ⟨hl9, ws_X4_rate.1, ws_X4_rate.2.1, ws_X4_rate.2.2.1, ws_X4_rate.2.2.2⟩ (n := 2) (by decide +kernel) hR rfl rfl hmc hms rfl ⟨0, _, rfl, h.1, Or.inl rfl, rfl⟩
  · exact CallOK.congr (by simp only [List.map_cons]; congr 1; exact (if_neg h.1).symm) (call_V hx hb hml hts hown hK hA hE (c_X4_rate hst9 _ _ _ t h.2.2) ⟨hl9, ws_X4_rate.1, ws_X4_rate.2.1, ws_X4_rate.2.2.1, ws_X4_rate.2.2.2⟩ (n := 2) (by decide +kernel) hR rfl rfl hmc hms rfl ⟨0, _, rfl, h.2.1, Or.inl rfl, rfl⟩)
  · exact h.elim
def Q_X4_platformIs (M : Nat → Nat → Bool) (ix : Nat) (as : List VV) (t : TT) (k : Option VV → TT → Prop) (kx : String → TT → Prop) : Prop := match ix with
  | 37 => PC_X4_askRange M as t k kx
  | 57 => PC_X4_askNumber M as t k kx
  | 163 => PC_X1_tell M as t k kx
  | _ => False
def N_X4_platformIs (v : Bool) (ix : Nat) : Option (Nat × Nat × Nat) := match v, ix with
  | false, 37 => some (3, 0, 0)
  | false, 57 => some (2, 0, 0)
  | true, 163 => some (2, 0, 0)
  | _, _ => none
def S_X4_platformIs (pc : Nat) : Option (List (Nat × Nat × Nat) × List (Nat × Nat) × Nat × Nat) := none
def H_X4_platformIs (pc : Nat) : Option String := none
set_option maxRecDepth 100000 in
set_option maxHeartbeats 4000000 in
theorem c_X4_platformIs {l : Launch} (hst9 : l.stackTraces = false) {D : va_G} {X : Nat → ClassId} {ad : Nat → Nat → Nat} {M : Nat → Nat → Bool} {post : Option VV → TT → Prop} {px : String → TT → Prop} (o0 : Nat) (a1 : Int32) (a2 : Int32) (t : TT) (h : P_X4_platformIs M (fun r t1 => post (some (.inl r)) t1) px o0 a1 a2 t) : CT l yX4_platformIs (Cond.code yX4_platformIs cX4_platformIs 3 (some .int) :: LT) ({ frames := 1, cells := 0, slots := 0, locals := 22 } : Room) D X ad M [.inr (.inl (0, o0)), .inl a1, .inl a2] t 0 0 post px := by
  refine met_of_wp (by decide +kernel) (Nat.le_of_ble_eq_true rfl) ?_
  intro p e s m args below meth c A hx hb hml hts hown hK hnt hlocks hr hA hE
  have hR9 : Ready p l e ({ frames := 1, cells := 0, slots := 0, locals := 22 } : Room) s m args below meth c D X ad A M 3 cX4_platformIs 0 0 post px RX4 1 (fldOf F_X4) N_X4_platformIs (Q_X4_platformIs M) (tabOf T_X4_platformIs) H_X4_platformIs := by
    refine ⟨hx, hb, hts, hown, hK, hnt, hlocks, hr, F_X4_ok, ?_, fun pc en h => tabOf_ok T_X4_platformIs_ok h, ?_⟩
    · intro v9 ix n mc1 ms1 as t k hn hl h
      unfold N_X4_platformIs at hn
      split at hn
      · cases hn
        exact k_X4_askRange hx hb hml hts hown hK hA hE hst9 (by decide +kernel) ⟨Nat.le_of_ble_eq_true rfl, Nat.le_of_ble_eq_true rfl⟩ rfl rfl h
      · cases hn
        exact k_X4_askNumber hx hb hml hts hown hK hA hE hst9 (by decide +kernel) ⟨Nat.le_of_ble_eq_true rfl, Nat.le_of_ble_eq_true rfl⟩ rfl rfl h
      · cases hn
        exact k_X1_tell hx hb hml hts hown hK hA hE hst9 (by decide +kernel) ⟨Nat.le_of_ble_eq_true rfl, Nat.le_of_ble_eq_true rfl⟩ rfl rfl h
      · cases hn
    · intro pc E hE9; cases hE9
  refine wp_go hR9 (cs := S_X4_platformIs) (Bk := (fun _ _ _ _ => False)) ?_ 400 0 _ _ _ _ _ h
  intro pc q vs ws t hc hk
  exact hk.elim
theorem k_X4_platformIs (hx : p.tables.exec = Jvm.exec) (hb : c.code = b) (hml : c.maxLocals = nL) (hts : ∀ w ∈ LT, w.before args s = true) {own : String} (hown : s.vm.findClass own = some m.cls) (hK : va_K D vwCl (TYX X) s) (hA : ∀ q, s.heap.size ≤ q → A q) (hE : EX A s) (hst9 : l.stackTraces = false) {ix : Nat} (hl9 : Cond.methodLink own ix yX4_platformIs ∈ LT) (hR : 2 ≤ R.frames ∧ 44 ≤ R.locals) (hmc : R.cells = mc) (hms : R.slots = ms) (h : PC_X4_platformIs M as t k kx) : CallOK p l e R s m args below meth c Q D X ad A M nL b mc ms (.invokevirtual ix) 0 0 as t k kx := by
  unfold PC_X4_platformIs at h
  split at h
  · exact call_V hx hb hml hts hown hK hA hE (c_X4_platformIs hst9 _ _ _ t h.2) ⟨hl9, ws_X4_platformIs.1, ws_X4_platformIs.2.1, ws_X4_platformIs.2.2.1, ws_X4_platformIs.2.2.2⟩ (n := 2) (by decide +kernel) hR rfl rfl hmc hms rfl ⟨0, _, rfl, h.1, Or.inl rfl, rfl⟩
  · exact CallOK.congr (by simp only [List.map_cons]; congr 1; exact (if_neg h.1).symm) (call_V hx hb hml hts hown hK hA hE (c_X4_platformIs hst9 _ _ _ t h.2.2) ⟨hl9, ws_X4_platformIs.1, ws_X4_platformIs.2.1, ws_X4_platformIs.2.2.1, ws_X4_platformIs.2.2.2⟩ (n := 2) (by decide +kernel) hR rfl rfl hmc hms rfl ⟨0, _, rfl, h.2.1, Or.inl rfl, rfl⟩)
  · exact h.elim
def Q_X4_placeAnew (M : Nat → Nat → Bool) (ix : Nat) (as : List VV) (t : TT) (k : Option VV → TT → Prop) (kx : String → TT → Prop) : Prop := match ix with
  | 57 => PC_X4_askNumber M as t k kx
  | 167 => PC_X2_playAgain M as t k kx
  | _ => False
def N_X4_placeAnew (v : Bool) (ix : Nat) : Option (Nat × Nat × Nat) := match v, ix with
  | false, 57 => some (2, 0, 0)
  | true, 167 => some (2, 0, 0)
  | _, _ => none
def S_X4_placeAnew (pc : Nat) : Option (List (Nat × Nat × Nat) × List (Nat × Nat) × Nat × Nat) := none
def H_X4_placeAnew (pc : Nat) : Option String := none
set_option maxRecDepth 100000 in
set_option maxHeartbeats 4000000 in
theorem c_X4_placeAnew {l : Launch} (hst9 : l.stackTraces = false) {D : va_G} {X : Nat → ClassId} {ad : Nat → Nat → Nat} {M : Nat → Nat → Bool} {post : Option VV → TT → Prop} {px : String → TT → Prop} (o0 : Nat) (a1 : Int32) (t : TT) (h : P_X4_placeAnew M (fun r t1 => post (some (.inl r)) t1) px o0 a1 t) : CT l yX4_placeAnew (Cond.code yX4_placeAnew cX4_placeAnew 2 (some .int) :: LT) ({ frames := 1, cells := 0, slots := 0, locals := 23 } : Room) D X ad M [.inr (.inl (0, o0)), .inl a1] t 0 0 post px := by
  refine met_of_wp (by decide +kernel) (Nat.le_of_ble_eq_true rfl) ?_
  intro p e s m args below meth c A hx hb hml hts hown hK hnt hlocks hr hA hE
  have hR9 : Ready p l e ({ frames := 1, cells := 0, slots := 0, locals := 23 } : Room) s m args below meth c D X ad A M 2 cX4_placeAnew 0 0 post px RX4 1 (fldOf F_X4) N_X4_placeAnew (Q_X4_placeAnew M) (tabOf T_X4_placeAnew) H_X4_placeAnew := by
    refine ⟨hx, hb, hts, hown, hK, hnt, hlocks, hr, F_X4_ok, ?_, fun pc en h => tabOf_ok T_X4_placeAnew_ok h, ?_⟩
    · intro v9 ix n mc1 ms1 as t k hn hl h
      unfold N_X4_placeAnew at hn
      split at hn
      · cases hn
        exact k_X4_askNumber hx hb hml hts hown hK hA hE hst9 (by decide +kernel) ⟨Nat.le_of_ble_eq_true rfl, Nat.le_of_ble_eq_true rfl⟩ rfl rfl h
      · cases hn
        exact k_X2_playAgain hx hb hml hts hown hK hA hE hst9 (by decide +kernel) ⟨Nat.le_of_ble_eq_true rfl, Nat.le_of_ble_eq_true rfl⟩ rfl rfl h
      · cases hn
    · intro pc E hE9; cases hE9
  refine wp_go hR9 (cs := S_X4_placeAnew) (Bk := (fun _ _ _ _ => False)) ?_ 400 0 _ _ _ _ _ h
  intro pc q vs ws t hc hk
  exact hk.elim
theorem k_X4_placeAnew (hx : p.tables.exec = Jvm.exec) (hb : c.code = b) (hml : c.maxLocals = nL) (hts : ∀ w ∈ LT, w.before args s = true) {own : String} (hown : s.vm.findClass own = some m.cls) (hK : va_K D vwCl (TYX X) s) (hA : ∀ q, s.heap.size ≤ q → A q) (hE : EX A s) (hst9 : l.stackTraces = false) {ix : Nat} (hl9 : Cond.methodLink own ix yX4_placeAnew ∈ LT) (hR : 2 ≤ R.frames ∧ 44 ≤ R.locals) (hmc : R.cells = mc) (hms : R.slots = ms) (h : PC_X4_placeAnew M as t k kx) : CallOK p l e R s m args below meth c Q D X ad A M nL b mc ms (.invokevirtual ix) 0 0 as t k kx := by
  unfold PC_X4_placeAnew at h
  split at h
  · exact call_V hx hb hml hts hown hK hA hE (c_X4_placeAnew hst9 _ _ t h.2) ⟨hl9, ws_X4_placeAnew.1, ws_X4_placeAnew.2.1, ws_X4_placeAnew.2.2.1, ws_X4_placeAnew.2.2.2⟩ (n := 1) (by decide +kernel) hR rfl rfl hmc hms rfl ⟨0, _, rfl, h.1, Or.inl rfl, rfl⟩
  · exact CallOK.congr (by simp only [List.map_cons]; congr 1; exact (if_neg h.1).symm) (call_V hx hb hml hts hown hK hA hE (c_X4_placeAnew hst9 _ _ t h.2.2) ⟨hl9, ws_X4_placeAnew.1, ws_X4_placeAnew.2.1, ws_X4_placeAnew.2.2.1, ws_X4_placeAnew.2.2.2⟩ (n := 1) (by decide +kernel) hR rfl rfl hmc hms rfl ⟨0, _, rfl, h.2.1, Or.inl rfl, rfl⟩)
  · exact h.elim
def Q_X4_isSafe (M : Nat → Nat → Bool) (ix : Nat) (as : List VV) (t : TT) (k : Option VV → TT → Prop) (kx : String → TT → Prop) : Prop := match ix with
  | 170 => PC_X2_isInItsBounds M as t k kx
  | 179 => PC_X2_mayCover M as t k kx
  | _ => False
def N_X4_isSafe (v : Bool) (ix : Nat) : Option (Nat × Nat × Nat) := match v, ix with
  | true, 170 => some (1, 0, 0)
  | true, 179 => some (3, 0, 0)
  | _, _ => none
def S_X4_isSafe (pc : Nat) : Option (List (Nat × Nat × Nat) × List (Nat × Nat) × Nat × Nat) := match pc with
  | 26 => some ([(0, 1, 0), (1, 0, 0), (2, 0, 0)], [], 0, 0)
  | 2 => some ([(0, 1, 0), (1, 0, 0)], [], 0, 0)
  | _ => none
def H_X4_isSafe (pc : Nat) : Option String := none
set_option maxRecDepth 100000 in
set_option maxHeartbeats 4000000 in
theorem c_X4_isSafe {l : Launch} (hst9 : l.stackTraces = false) {D : va_G} {X : Nat → ClassId} {ad : Nat → Nat → Nat} {M : Nat → Nat → Bool} {post : Option VV → TT → Prop} {px : String → TT → Prop} (o0 : Nat) (t : TT) (h : P_X4_isSafe M (fun r t1 => post (some (.inl r)) t1) px o0 t) : CT l yX4_isSafe (Cond.code yX4_isSafe cX4_isSafe 3 (some .boolean) :: LT) ({ frames := 1, cells := 0, slots := 0, locals := 22 } : Room) D X ad M [.inr (.inl (0, o0))] t 0 0 post px := by
  refine met_of_wp (by decide +kernel) (Nat.le_of_ble_eq_true rfl) ?_
  intro p e s m args below meth c A hx hb hml hts hown hK hnt hlocks hr hA hE
  have hR9 : Ready p l e ({ frames := 1, cells := 0, slots := 0, locals := 22 } : Room) s m args below meth c D X ad A M 3 cX4_isSafe 0 0 post px RX4 2 (fldOf F_X4) N_X4_isSafe (Q_X4_isSafe M) (tabOf T_X4_isSafe) H_X4_isSafe := by
    refine ⟨hx, hb, hts, hown, hK, hnt, hlocks, hr, F_X4_ok, ?_, fun pc en h => tabOf_ok T_X4_isSafe_ok h, ?_⟩
    · intro v9 ix n mc1 ms1 as t k hn hl h
      unfold N_X4_isSafe at hn
      split at hn
      · cases hn
        exact k_X2_isInItsBounds hx hb hml hts hown hK hA hE hst9 (by decide +kernel) ⟨Nat.le_of_ble_eq_true rfl, Nat.le_of_ble_eq_true rfl⟩ rfl rfl h
      · cases hn
        exact k_X2_mayCover hx hb hml hts hown hK hA hE hst9 (by decide +kernel) ⟨Nat.le_of_ble_eq_true rfl, Nat.le_of_ble_eq_true rfl⟩ rfl rfl h
      · cases hn
    · intro pc E hE9; cases hE9
  have W26 : ∀ (k2 : Nat → Int32 → TT → Prop) (hk2 : ∀ (o0 : Nat) (a1 : Int32) (t : TT), k2 o0 a1 t → Wat p l e ({ frames := 1, cells := 0, slots := 0, locals := 22 } : Room) s m args below meth c (QM below args s D X ad A M 0 0 post px) D X ad A M 3 2 [(0, .inr (.inl (0, o0))), (1, .inl a1)] [] t 0 0) (n : Nat) (o0 : Nat) (a1 : Int32) (a2 : Int32) (t : TT), L_X4_isSafe_26 M (fun r t1 => post (some (.inl r)) t1) px k2 n o0 a1 a2 t → Wat p l e ({ frames := 1, cells := 0, slots := 0, locals := 22 } : Room) s m args below meth c (QM below args s D X ad A M 0 0 post px) D X ad A M 3 26 [(0, .inr (.inl (0, o0))), (1, .inl a1), (2, .inl a2)] [] t 0 0 := by
    intro k2 hk2
    intro n
    induction n with
    | zero =>
      intro o0 a1 a2 t h
      exact h.elim
    | succ n ih =>
      intro o0 a1 a2 t h
      refine wp_go hR9 (cs := S_X4_isSafe) (Bk := (fun pc vs ws t => match pc with | 2 => (match vs, ws with | [.inr (.inl (0, o0)), .inl a1], [] => k2 o0 a1 t | _, _ => False) | 26 => (match vs, ws with | [.inr (.inl (0, o0)), .inl a1, .inl a2], [] => L_X4_isSafe_26 M (fun r t1 => post (some (.inl r)) t1) px k2 n o0 a1 a2 t | _, _ => False) | _ => False)) ?_ 400 26 _ _ _ _ _ h
      intro pc q vs ws t hc hk
      split at hk
      · cases hc
        split at hk
        · exact hk2 _ _ _ hk
        · exact hk.elim
      · cases hc
        split at hk
        · exact ih _ _ _ _ hk
        · exact hk.elim
      · exact hk.elim
  have W2 : ∀ (n : Nat) (o0 : Nat) (a1 : Int32) (t : TT), L_X4_isSafe_2 M (fun r t1 => post (some (.inl r)) t1) px n o0 a1 t → Wat p l e ({ frames := 1, cells := 0, slots := 0, locals := 22 } : Room) s m args below meth c (QM below args s D X ad A M 0 0 post px) D X ad A M 3 2 [(0, .inr (.inl (0, o0))), (1, .inl a1)] [] t 0 0 := by
    intro n
    induction n with
    | zero =>
      intro o0 a1 t h
      exact h.elim
    | succ n ih =>
      intro o0 a1 t h
      refine wp_go hR9 (cs := S_X4_isSafe) (Bk := (fun pc vs ws t => match pc with | 26 => (match vs, ws with | [.inr (.inl (0, o0)), .inl a1, .inl a2], [] => ∃ n9, L_X4_isSafe_26 M (fun r t1 => post (some (.inl r)) t1) px (L_X4_isSafe_2 M (fun r t1 => post (some (.inl r)) t1) px n) n9 o0 a1 a2 t | _, _ => False) | _ => False)) ?_ 400 2 _ _ _ _ _ h
      intro pc q vs ws t hc hk
      split at hk
      · cases hc
        split at hk
        · obtain ⟨n9, hk⟩ := hk
          exact W26 _ ih n9 _ _ _ _ hk
        · exact hk.elim
      · exact hk.elim
  refine wp_go hR9 (cs := S_X4_isSafe) (Bk := (fun pc vs ws t => match pc with | 2 => (match vs, ws with | [.inr (.inl (0, o0)), .inl a1], [] => ∃ n9, L_X4_isSafe_2 M (fun r t1 => post (some (.inl r)) t1) px n9 o0 a1 t | _, _ => False) | _ => False)) ?_ 400 0 _ _ _ _ _ h
  intro pc q vs ws t hc hk
  split at hk
  · cases hc
    split at hk
    · obtain ⟨n9, hk⟩ := hk
      exact W2 n9 _ _ _ hk
    · exact hk.elim
  · exact hk.elim
theorem k_X4_isSafe (hx : p.tables.exec = Jvm.exec) (hb : c.code = b) (hml : c.maxLocals = nL) (hts : ∀ w ∈ LT, w.before args s = true) {own : String} (hown : s.vm.findClass own = some m.cls) (hK : va_K D vwCl (TYX X) s) (hA : ∀ q, s.heap.size ≤ q → A q) (hE : EX A s) (hst9 : l.stackTraces = false) {ix : Nat} (hl9 : Cond.methodLink own ix yX4_isSafe ∈ LT) (hR : 2 ≤ R.frames ∧ 44 ≤ R.locals) (hmc : R.cells = mc) (hms : R.slots = ms) (h : PC_X4_isSafe M as t k kx) : CallOK p l e R s m args below meth c Q D X ad A M nL b mc ms (.invokevirtual ix) 0 0 as t k kx := by
  unfold PC_X4_isSafe at h
  split at h
  · exact call_V hx hb hml hts hown hK hA hE (c_X4_isSafe hst9 _ t h.2) ⟨hl9, ws_X4_isSafe.1, ws_X4_isSafe.2.1, ws_X4_isSafe.2.2.1, ws_X4_isSafe.2.2.2⟩ (n := 0) (by decide +kernel) hR rfl rfl hmc hms rfl ⟨0, _, rfl, h.1, Or.inl rfl, rfl⟩
  · exact CallOK.congr (by simp only [List.map_cons]; congr 1; exact (if_neg h.1).symm) (call_V hx hb hml hts hown hK hA hE (c_X4_isSafe hst9 _ t h.2.2) ⟨hl9, ws_X4_isSafe.1, ws_X4_isSafe.2.1, ws_X4_isSafe.2.2.1, ws_X4_isSafe.2.2.2⟩ (n := 0) (by decide +kernel) hR rfl rfl hmc hms rfl ⟨0, _, rfl, h.2.1, Or.inl rfl, rfl⟩)
  · exact h.elim
def Q_X4_canBePutIn (M : Nat → Nat → Bool) (ix : Nat) (as : List VV) (t : TT) (k : Option VV → TT → Prop) (kx : String → TT → Prop) : Prop := match ix with
  | 115 => PC_X2_keeps M as t k kx
  | _ => False
def N_X4_canBePutIn (v : Bool) (ix : Nat) : Option (Nat × Nat × Nat) := match v, ix with
  | true, 115 => some (2, 0, 0)
  | _, _ => none
def S_X4_canBePutIn (pc : Nat) : Option (List (Nat × Nat × Nat) × List (Nat × Nat) × Nat × Nat) := match pc with
  | 112 => some ([(0, 1, 0), (1, 0, 0), (2, 0, 0)], [], 0, 0)
  | 69 => some ([(0, 1, 0), (1, 0, 0), (2, 0, 0)], [], 0, 0)
  | 52 => some ([(0, 1, 0), (1, 0, 0), (2, 0, 0)], [(0, 0)], 0, 0)
  | 2 => some ([(0, 1, 0), (1, 0, 0), (2, 0, 0)], [], 0, 0)
  | _ => none
def H_X4_canBePutIn (pc : Nat) : Option String := none
set_option maxRecDepth 100000 in
set_option maxHeartbeats 4000000 in
theorem c_X4_canBePutIn {l : Launch} (hst9 : l.stackTraces = false) {D : va_G} {X : Nat → ClassId} {ad : Nat → Nat → Nat} {M : Nat → Nat → Bool} {post : Option VV → TT → Prop} {px : String → TT → Prop} (o0 : Nat) (a1 : Int32) (t : TT) (h : P_X4_canBePutIn M (fun r t1 => post (some (.inl r)) t1) px o0 a1 t) : CT l yX4_canBePutIn (Cond.code yX4_canBePutIn cX4_canBePutIn 5 (some .boolean) :: LT) ({ frames := 2, cells := 0, slots := 0, locals := 42 } : Room) D X ad M [.inr (.inl (0, o0)), .inl a1] t 0 0 post px := by
  refine met_of_wp (by decide +kernel) (Nat.le_of_ble_eq_true rfl) ?_
  intro p e s m args below meth c A hx hb hml hts hown hK hnt hlocks hr hA hE
  have hR9 : Ready p l e ({ frames := 2, cells := 0, slots := 0, locals := 42 } : Room) s m args below meth c D X ad A M 5 cX4_canBePutIn 0 0 post px RX4 2 (fldOf F_X4) N_X4_canBePutIn (Q_X4_canBePutIn M) (tabOf T_X4_canBePutIn) H_X4_canBePutIn := by
    refine ⟨hx, hb, hts, hown, hK, hnt, hlocks, hr, F_X4_ok, ?_, fun pc en h => tabOf_ok T_X4_canBePutIn_ok h, ?_⟩
    · intro v9 ix n mc1 ms1 as t k hn hl h
      unfold N_X4_canBePutIn at hn
      split at hn
      · cases hn
        exact k_X2_keeps hx hb hml hts hown hK hA hE hst9 (by decide +kernel) ⟨Nat.le_of_ble_eq_true rfl, Nat.le_of_ble_eq_true rfl⟩ rfl rfl h
      · cases hn
    · intro pc E hE9; cases hE9
  have W112 : ∀ (k69 : Nat → Int32 → Int32 → TT → Prop) (hk69 : ∀ (o0 : Nat) (a1 : Int32) (a2 : Int32) (t : TT), k69 o0 a1 a2 t → Wat p l e ({ frames := 2, cells := 0, slots := 0, locals := 42 } : Room) s m args below meth c (QM below args s D X ad A M 0 0 post px) D X ad A M 5 69 [(0, .inr (.inl (0, o0))), (1, .inl a1), (2, .inl a2)] [] t 0 0) (o0 : Nat) (a1 : Int32) (a2 : Int32) (t : TT), B_X4_canBePutIn_112 M (fun r t1 => post (some (.inl r)) t1) px k69 o0 a1 a2 t → Wat p l e ({ frames := 2, cells := 0, slots := 0, locals := 42 } : Room) s m args below meth c (QM below args s D X ad A M 0 0 post px) D X ad A M 5 112 [(0, .inr (.inl (0, o0))), (1, .inl a1), (2, .inl a2)] [] t 0 0 := by
    intro k69 hk69 o0 a1 a2 t h
    refine wp_go hR9 (cs := S_X4_canBePutIn) (Bk := (fun pc vs ws t => match pc with | 69 => (match vs, ws with | [.inr (.inl (0, o0)), .inl a1, .inl a2], [] => k69 o0 a1 a2 t | _, _ => False) | _ => False)) ?_ 400 112 _ _ _ _ _ h
    intro pc q vs ws t hc hk
    split at hk
    · cases hc
      split at hk
      · exact hk69 _ _ _ _ hk
      · exact hk.elim
    · exact hk.elim
  have W69 : ∀ (n : Nat) (o0 : Nat) (a1 : Int32) (a2 : Int32) (t : TT), L_X4_canBePutIn_69 M (fun r t1 => post (some (.inl r)) t1) px n o0 a1 a2 t → Wat p l e ({ frames := 2, cells := 0, slots := 0, locals := 42 } : Room) s m args below meth c (QM below args s D X ad A M 0 0 post px) D X ad A M 5 69 [(0, .inr (.inl (0, o0))), (1, .inl a1), (2, .inl a2)] [] t 0 0 := by
    intro n
    induction n with
    | zero =>
      intro o0 a1 a2 t h
      exact h.elim
    | succ n ih =>
      intro o0 a1 a2 t h
      refine wp_go hR9 (cs := S_X4_canBePutIn) (Bk := (fun pc vs ws t => match pc with | 112 => (match vs, ws with | [.inr (.inl (0, o0)), .inl a1, .inl a2], [] => B_X4_canBePutIn_112 M (fun r t1 => post (some (.inl r)) t1) px (L_X4_canBePutIn_69 M (fun r t1 => post (some (.inl r)) t1) px n) o0 a1 a2 t | _, _ => False) | _ => False)) ?_ 400 69 _ _ _ _ _ h
      intro pc q vs ws t hc hk
      split at hk
      · cases hc
        split at hk
        · exact W112 _ ih _ _ _ _ hk
        · exact hk.elim
      · exact hk.elim
  have W52 : ∀ (k2 : Nat → Int32 → Int32 → TT → Prop) (hk2 : ∀ (o0 : Nat) (a1 : Int32) (a2 : Int32) (t : TT), k2 o0 a1 a2 t → Wat p l e ({ frames := 2, cells := 0, slots := 0, locals := 42 } : Room) s m args below meth c (QM below args s D X ad A M 0 0 post px) D X ad A M 5 2 [(0, .inr (.inl (0, o0))), (1, .inl a1), (2, .inl a2)] [] t 0 0) (o0 : Nat) (a1 : Int32) (a2 : Int32) (s0 : Int32) (t : TT), B_X4_canBePutIn_52 M (fun r t1 => post (some (.inl r)) t1) px k2 o0 a1 a2 s0 t → Wat p l e ({ frames := 2, cells := 0, slots := 0, locals := 42 } : Room) s m args below meth c (QM below args s D X ad A M 0 0 post px) D X ad A M 5 52 [(0, .inr (.inl (0, o0))), (1, .inl a1), (2, .inl a2)] [.inl s0] t 0 0 := by
    intro k2 hk2 o0 a1 a2 s0 t h
    refine wp_go hR9 (cs := S_X4_canBePutIn) (Bk := (fun pc vs ws t => match pc with | 2 => (match vs, ws with | [.inr (.inl (0, o0)), .inl a1, .inl a2], [] => k2 o0 a1 a2 t | _, _ => False) | _ => False)) ?_ 400 52 _ _ _ _ _ h
    intro pc q vs ws t hc hk
    split at hk
    · cases hc
      split at hk
      · exact hk2 _ _ _ _ hk
      · exact hk.elim
    · exact hk.elim
  have W2 : ∀ (n : Nat) (o0 : Nat) (a1 : Int32) (a2 : Int32) (t : TT), L_X4_canBePutIn_2 M (fun r t1 => post (some (.inl r)) t1) px n o0 a1 a2 t → Wat p l e ({ frames := 2, cells := 0, slots := 0, locals := 42 } : Room) s m args below meth c (QM below args s D X ad A M 0 0 post px) D X ad A M 5 2 [(0, .inr (.inl (0, o0))), (1, .inl a1), (2, .inl a2)] [] t 0 0 := by
    intro n
    induction n with
    | zero =>
      intro o0 a1 a2 t h
      exact h.elim
    | succ n ih =>
      intro o0 a1 a2 t h
      refine wp_go hR9 (cs := S_X4_canBePutIn) (Bk := (fun pc vs ws t => match pc with | 52 => (match vs, ws with | [.inr (.inl (0, o0)), .inl a1, .inl a2], [.inl s0] => B_X4_canBePutIn_52 M (fun r t1 => post (some (.inl r)) t1) px (L_X4_canBePutIn_2 M (fun r t1 => post (some (.inl r)) t1) px n) o0 a1 a2 s0 t | _, _ => False) | 69 => (match vs, ws with | [.inr (.inl (0, o0)), .inl a1, .inl a2], [] => ∃ n9, L_X4_canBePutIn_69 M (fun r t1 => post (some (.inl r)) t1) px n9 o0 a1 a2 t | _, _ => False) | _ => False)) ?_ 400 2 _ _ _ _ _ h
      intro pc q vs ws t hc hk
      split at hk
      · cases hc
        split at hk
        · exact W52 _ ih _ _ _ _ _ hk
        · exact hk.elim
      · cases hc
        split at hk
        · obtain ⟨n9, hk⟩ := hk
          exact W69 n9 _ _ _ _ hk
        · exact hk.elim
      · exact hk.elim
  refine wp_go hR9 (cs := S_X4_canBePutIn) (Bk := (fun pc vs ws t => match pc with | 2 => (match vs, ws with | [.inr (.inl (0, o0)), .inl a1, .inl a2], [] => ∃ n9, L_X4_canBePutIn_2 M (fun r t1 => post (some (.inl r)) t1) px n9 o0 a1 a2 t | _, _ => False) | _ => False)) ?_ 400 0 _ _ _ _ _ h
  intro pc q vs ws t hc hk
  split at hk
  · cases hc
    split at hk
    · obtain ⟨n9, hk⟩ := hk
      exact W2 n9 _ _ _ _ hk
    · exact hk.elim
  · exact hk.elim
theorem k_X4_canBePutIn (hx : p.tables.exec = Jvm.exec) (hb : c.code = b) (hml : c.maxLocals = nL) (hts : ∀ w ∈ LT, w.before args s = true) {own : String} (hown : s.vm.findClass own = some m.cls) (hK : va_K D vwCl (TYX X) s) (hA : ∀ q, s.heap.size ≤ q → A q) (hE : EX A s) (hst9 : l.stackTraces = false) {ix : Nat} (hl9 : Cond.methodLink own ix yX4_canBePutIn ∈ LT) (hR : 3 ≤ R.frames ∧ 66 ≤ R.locals) (hmc : R.cells = mc) (hms : R.slots = ms) (h : PC_X4_canBePutIn M as t k kx) : CallOK p l e R s m args below meth c Q D X ad A M nL b mc ms (.invokevirtual ix) 0 0 as t k kx := by
  unfold PC_X4_canBePutIn at h
  split at h
  · exact call_V hx hb hml hts hown hK hA hE (c_X4_canBePutIn hst9 _ _ t h.2) ⟨hl9, ws_X4_canBePutIn.1, ws_X4_canBePutIn.2.1, ws_X4_canBePutIn.2.2.1, ws_X4_canBePutIn.2.2.2⟩ (n := 1) (by decide +kernel) hR rfl rfl hmc hms rfl ⟨0, _, rfl, h.1, Or.inl rfl, rfl⟩
  · exact CallOK.congr (by simp only [List.map_cons]; congr 1; exact (if_neg h.1).symm) (call_V hx hb hml hts hown hK hA hE (c_X4_canBePutIn hst9 _ _ t h.2.2) ⟨hl9, ws_X4_canBePutIn.1, ws_X4_canBePutIn.2.1, ws_X4_canBePutIn.2.2.1, ws_X4_canBePutIn.2.2.2⟩ (n := 1) (by decide +kernel) hR rfl rfl hmc hms rfl ⟨0, _, rfl, h.2.1, Or.inl rfl, rfl⟩)
  · exact h.elim
end K
end
section
/-! printed (wip/p26/gen26.py): contracts -/
section K
variable {p : Program} {l : Launch} {e : Env} {R : Room} {s : State} {m : MethodId} {args : Array Value} {below : List Frame} {meth : Method} {c : Code} {Q : State → Prop} {D : va_G} {X : Nat → ClassId} {ad : Nat → Nat → Nat} {A : Nat → Prop} {M : Nat → Nat → Bool} {nL : Nat} {b : ByteArray} {mc ms : Nat} {k : Option VV → TT → Prop} {kx : String → TT → Prop} {t : TT} {as : List VV}
def Q_L_way (M : Nat → Nat → Bool) (ix : Nat) (as : List VV) (t : TT) (k : Option VV → TT → Prop) (kx : String → TT → Prop) : Prop := False
def N_L_way (v : Bool) (ix : Nat) : Option (Nat × Nat × Nat) := none
def S_L_way (pc : Nat) : Option (List (Nat × Nat × Nat) × List (Nat × Nat) × Nat × Nat) := none
def H_L_way (pc : Nat) : Option String := none
set_option maxRecDepth 100000 in
set_option maxHeartbeats 4000000 in
theorem c_L_way {l : Launch} (hst9 : l.stackTraces = false) {D : va_G} {X : Nat → ClassId} {ad : Nat → Nat → Nat} {M : Nat → Nat → Bool} {post : Option VV → TT → Prop} {px : String → TT → Prop} (a0 : Int32) (t : TT) (h : P_L_way M (fun r t1 => post (some (.inl r)) t1) px a0 t) : CT l yL_way (Cond.code yL_way cL_way 1 (some .int) :: LT) ({ frames := 0, cells := 0, slots := 0, locals := 0 } : Room) D X ad M [.inl a0] t 0 0 post px := by
  refine met_of_wp (by decide +kernel) (Nat.le_of_ble_eq_true rfl) ?_
  intro p e s m args below meth c A hx hb hml hts hown hK hnt hlocks hr hA hE
  have hR9 : Ready p l e ({ frames := 0, cells := 0, slots := 0, locals := 0 } : Room) s m args below meth c D X ad A M 1 cL_way 0 0 post px RL 1 (fldOf F_L) N_L_way (Q_L_way M) (tabOf T_L_way) H_L_way := by
    refine ⟨hx, hb, hts, hown, hK, hnt, hlocks, hr, F_L_ok, ?_, fun pc en h => tabOf_ok T_L_way_ok h, ?_⟩
    · intro v9 ix n mc1 ms1 as t k hn hl h
      unfold N_L_way at hn
      cases hn
    · intro pc E hE9; cases hE9
  refine wp_go hR9 (cs := S_L_way) (Bk := (fun _ _ _ _ => False)) ?_ 400 0 _ _ _ _ _ h
  intro pc q vs ws t hc hk
  exact hk.elim
theorem k_L_way (hx : p.tables.exec = Jvm.exec) (hb : c.code = b) (hml : c.maxLocals = nL) (hts : ∀ w ∈ LT, w.before args s = true) {own : String} (hown : s.vm.findClass own = some m.cls) (hK : va_K D vwCl (TYX X) s) (hA : ∀ q, s.heap.size ≤ q → A q) (hE : EX A s) (hst9 : l.stackTraces = false) {ix : Nat} (hl9 : Cond.methodLink own ix yL_way ∈ LT) (hR : 1 ≤ R.frames ∧ 20 ≤ R.locals) (hmc : R.cells = mc) (hms : R.slots = ms) (h : PC_L_way M as t k kx) : CallOK p l e R s m args below meth c Q D X ad A M nL b mc ms (.invokestatic ix) 0 0 as t k kx := by
  unfold PC_L_way at h
  split at h
  · exact call_S hx hb hml hts hown hK hA hE (c_L_way hst9 _ t h) ⟨hl9, ws_L_way.1, ws_L_way.2.1, ws_L_way.2.2⟩ (n := 1) (by decide +kernel) hR rfl rfl hmc hms rfl
  · exact h.elim
def Q_L_isAt (M : Nat → Nat → Bool) (ix : Nat) (as : List VV) (t : TT) (k : Option VV → TT → Prop) (kx : String → TT → Prop) : Prop := match ix with
  | 9 => PC_X4_trainIs M as t k kx
  | 15 => PC_X4_platformIs M as t k kx
  | _ => False
def N_L_isAt (v : Bool) (ix : Nat) : Option (Nat × Nat × Nat) := match v, ix with
  | true, 9 => some (3, 0, 0)
  | true, 15 => some (3, 0, 0)
  | _, _ => none
def S_L_isAt (pc : Nat) : Option (List (Nat × Nat × Nat) × List (Nat × Nat) × Nat × Nat) := match pc with
  | 59 => some ([], [(0, 0)], 0, 0)
  | 58 => some ([], [], 0, 0)
  | _ => none
def H_L_isAt (pc : Nat) : Option String := none
set_option maxRecDepth 100000 in
set_option maxHeartbeats 4000000 in
theorem c_L_isAt {l : Launch} (hst9 : l.stackTraces = false) {D : va_G} {X : Nat → ClassId} {ad : Nat → Nat → Nat} {M : Nat → Nat → Bool} {post : Option VV → TT → Prop} {px : String → TT → Prop} (o0 : Nat) (a1 : Int32) (t : TT) (h : P_L_isAt M (fun r t1 => post (some (.inl r)) t1) px o0 a1 t) : CT l yL_isAt (Cond.code yL_isAt cL_isAt 4 (some .boolean) :: LT) ({ frames := 2, cells := 0, slots := 0, locals := 44 } : Room) D X ad M [.inr (.inl (0, o0)), .inl a1] t 0 0 post px := by
  refine met_of_wp (by decide +kernel) (Nat.le_of_ble_eq_true rfl) ?_
  intro p e s m args below meth c A hx hb hml hts hown hK hnt hlocks hr hA hE
  have hR9 : Ready p l e ({ frames := 2, cells := 0, slots := 0, locals := 44 } : Room) s m args below meth c D X ad A M 4 cL_isAt 0 0 post px RL 2 (fldOf F_L) N_L_isAt (Q_L_isAt M) (tabOf T_L_isAt) H_L_isAt := by
    refine ⟨hx, hb, hts, hown, hK, hnt, hlocks, hr, F_L_ok, ?_, fun pc en h => tabOf_ok T_L_isAt_ok h, ?_⟩
    · intro v9 ix n mc1 ms1 as t k hn hl h
      unfold N_L_isAt at hn
      split at hn
      · cases hn
        exact k_X4_trainIs hx hb hml hts hown hK hA hE hst9 (by decide +kernel) ⟨Nat.le_of_ble_eq_true rfl, Nat.le_of_ble_eq_true rfl⟩ rfl rfl h
      · cases hn
        exact k_X4_platformIs hx hb hml hts hown hK hA hE hst9 (by decide +kernel) ⟨Nat.le_of_ble_eq_true rfl, Nat.le_of_ble_eq_true rfl⟩ rfl rfl h
      · cases hn
    · intro pc E hE9; cases hE9
  have W59 : ∀ (s0 : Int32) (t : TT), B_L_isAt_59 M (fun r t1 => post (some (.inl r)) t1) px s0 t → Wat p l e ({ frames := 2, cells := 0, slots := 0, locals := 44 } : Room) s m args below meth c (QM below args s D X ad A M 0 0 post px) D X ad A M 4 59 [] [.inl s0] t 0 0 := by
    intro s0 t h
    refine wp_go hR9 (cs := S_L_isAt) (Bk := (fun _ _ _ _ => False)) ?_ 400 59 _ _ _ _ _ h
    intro pc q vs ws t hc hk
    exact hk.elim
  have W58 : ∀ (t : TT), B_L_isAt_58 M (fun r t1 => post (some (.inl r)) t1) px t → Wat p l e ({ frames := 2, cells := 0, slots := 0, locals := 44 } : Room) s m args below meth c (QM below args s D X ad A M 0 0 post px) D X ad A M 4 58 [] [] t 0 0 := by
    intro t h
    refine wp_go hR9 (cs := S_L_isAt) (Bk := (fun pc vs ws t => match pc with | 59 => (match vs, ws with | [], [.inl s0] => B_L_isAt_59 M (fun r t1 => post (some (.inl r)) t1) px s0 t | _, _ => False) | _ => False)) ?_ 400 58 _ _ _ _ _ h
    intro pc q vs ws t hc hk
    split at hk
    · cases hc
      split at hk
      · exact W59 _ _ hk
      · exact hk.elim
    · exact hk.elim
  refine wp_go hR9 (cs := S_L_isAt) (Bk := (fun pc vs ws t => match pc with | 58 => (match vs, ws with | [], [] => B_L_isAt_58 M (fun r t1 => post (some (.inl r)) t1) px t | _, _ => False) | 59 => (match vs, ws with | [], [.inl s0] => B_L_isAt_59 M (fun r t1 => post (some (.inl r)) t1) px s0 t | _, _ => False) | _ => False)) ?_ 400 0 _ _ _ _ _ h
  intro pc q vs ws t hc hk
  split at hk
  · cases hc
    split at hk
    · exact W58 _ hk
    · exact hk.elim
  · cases hc
    split at hk
    · exact W59 _ _ hk
    · exact hk.elim
  · exact hk.elim
theorem k_L_isAt (hx : p.tables.exec = Jvm.exec) (hb : c.code = b) (hml : c.maxLocals = nL) (hts : ∀ w ∈ LT, w.before args s = true) {own : String} (hown : s.vm.findClass own = some m.cls) (hK : va_K D vwCl (TYX X) s) (hA : ∀ q, s.heap.size ≤ q → A q) (hE : EX A s) (hst9 : l.stackTraces = false) {ix : Nat} (hl9 : Cond.methodLink own ix yL_isAt ∈ LT) (hR : 3 ≤ R.frames ∧ 67 ≤ R.locals) (hmc : R.cells = mc) (hms : R.slots = ms) (h : PC_L_isAt M as t k kx) : CallOK p l e R s m args below meth c Q D X ad A M nL b mc ms (.invokestatic ix) 0 0 as t k kx := by
  unfold PC_L_isAt at h
  split at h
  · exact call_S hx hb hml hts hown hK hA hE (c_L_isAt hst9 _ _ t h) ⟨hl9, ws_L_isAt.1, ws_L_isAt.2.1, ws_L_isAt.2.2⟩ (n := 2) (by decide +kernel) hR rfl rfl hmc hms rfl
  · exact h.elim
def Q_L_mayStop (M : Nat → Nat → Bool) (ix : Nat) (as : List VV) (t : TT) (k : Option VV → TT → Prop) (kx : String → TT → Prop) : Prop := match ix with
  | 18 => PC_L_way M as t k kx
  | 9 => PC_X4_trainIs M as t k kx
  | 15 => PC_X4_platformIs M as t k kx
  | _ => False
def N_L_mayStop (v : Bool) (ix : Nat) : Option (Nat × Nat × Nat) := match v, ix with
  | false, 18 => some (1, 0, 0)
  | true, 9 => some (3, 0, 0)
  | true, 15 => some (3, 0, 0)
  | _, _ => none
def S_L_mayStop (pc : Nat) : Option (List (Nat × Nat × Nat) × List (Nat × Nat) × Nat × Nat) := match pc with
  | 53 => some ([], [(0, 0)], 0, 0)
  | 52 => some ([], [], 0, 0)
  | _ => none
def H_L_mayStop (pc : Nat) : Option String := none
set_option maxRecDepth 100000 in
set_option maxHeartbeats 4000000 in
theorem c_L_mayStop {l : Launch} (hst9 : l.stackTraces = false) {D : va_G} {X : Nat → ClassId} {ad : Nat → Nat → Nat} {M : Nat → Nat → Bool} {post : Option VV → TT → Prop} {px : String → TT → Prop} (o0 : Nat) (a1 : Int32) (a2 : Int32) (t : TT) (h : P_L_mayStop M (fun r t1 => post (some (.inl r)) t1) px o0 a1 a2 t) : CT l yL_mayStop (Cond.code yL_mayStop cL_mayStop 3 (some .boolean) :: LT) ({ frames := 2, cells := 0, slots := 0, locals := 44 } : Room) D X ad M [.inr (.inl (0, o0)), .inl a1, .inl a2] t 0 0 post px := by
  refine met_of_wp (by decide +kernel) (Nat.le_of_ble_eq_true rfl) ?_
  intro p e s m args below meth c A hx hb hml hts hown hK hnt hlocks hr hA hE
  have hR9 : Ready p l e ({ frames := 2, cells := 0, slots := 0, locals := 44 } : Room) s m args below meth c D X ad A M 3 cL_mayStop 0 0 post px RL 2 (fldOf F_L) N_L_mayStop (Q_L_mayStop M) (tabOf T_L_mayStop) H_L_mayStop := by
    refine ⟨hx, hb, hts, hown, hK, hnt, hlocks, hr, F_L_ok, ?_, fun pc en h => tabOf_ok T_L_mayStop_ok h, ?_⟩
    · intro v9 ix n mc1 ms1 as t k hn hl h
      unfold N_L_mayStop at hn
      split at hn
      · cases hn
        exact k_L_way hx hb hml hts hown hK hA hE hst9 (by decide +kernel) ⟨Nat.le_of_ble_eq_true rfl, Nat.le_of_ble_eq_true rfl⟩ rfl rfl h
      · cases hn
        exact k_X4_trainIs hx hb hml hts hown hK hA hE hst9 (by decide +kernel) ⟨Nat.le_of_ble_eq_true rfl, Nat.le_of_ble_eq_true rfl⟩ rfl rfl h
      · cases hn
        exact k_X4_platformIs hx hb hml hts hown hK hA hE hst9 (by decide +kernel) ⟨Nat.le_of_ble_eq_true rfl, Nat.le_of_ble_eq_true rfl⟩ rfl rfl h
      · cases hn
    · intro pc E hE9; cases hE9
  have W53 : ∀ (s0 : Int32) (t : TT), B_L_mayStop_53 M (fun r t1 => post (some (.inl r)) t1) px s0 t → Wat p l e ({ frames := 2, cells := 0, slots := 0, locals := 44 } : Room) s m args below meth c (QM below args s D X ad A M 0 0 post px) D X ad A M 3 53 [] [.inl s0] t 0 0 := by
    intro s0 t h
    refine wp_go hR9 (cs := S_L_mayStop) (Bk := (fun _ _ _ _ => False)) ?_ 400 53 _ _ _ _ _ h
    intro pc q vs ws t hc hk
    exact hk.elim
  have W52 : ∀ (t : TT), B_L_mayStop_52 M (fun r t1 => post (some (.inl r)) t1) px t → Wat p l e ({ frames := 2, cells := 0, slots := 0, locals := 44 } : Room) s m args below meth c (QM below args s D X ad A M 0 0 post px) D X ad A M 3 52 [] [] t 0 0 := by
    intro t h
    refine wp_go hR9 (cs := S_L_mayStop) (Bk := (fun pc vs ws t => match pc with | 53 => (match vs, ws with | [], [.inl s0] => B_L_mayStop_53 M (fun r t1 => post (some (.inl r)) t1) px s0 t | _, _ => False) | _ => False)) ?_ 400 52 _ _ _ _ _ h
    intro pc q vs ws t hc hk
    split at hk
    · cases hc
      split at hk
      · exact W53 _ _ hk
      · exact hk.elim
    · exact hk.elim
  refine wp_go hR9 (cs := S_L_mayStop) (Bk := (fun pc vs ws t => match pc with | 52 => (match vs, ws with | [], [] => B_L_mayStop_52 M (fun r t1 => post (some (.inl r)) t1) px t | _, _ => False) | 53 => (match vs, ws with | [], [.inl s0] => B_L_mayStop_53 M (fun r t1 => post (some (.inl r)) t1) px s0 t | _, _ => False) | _ => False)) ?_ 400 0 _ _ _ _ _ h
  intro pc q vs ws t hc hk
  split at hk
  · cases hc
    split at hk
    · exact W52 _ hk
    · exact hk.elim
  · cases hc
    split at hk
    · exact W53 _ _ hk
    · exact hk.elim
  · exact hk.elim
theorem k_L_mayStop (hx : p.tables.exec = Jvm.exec) (hb : c.code = b) (hml : c.maxLocals = nL) (hts : ∀ w ∈ LT, w.before args s = true) {own : String} (hown : s.vm.findClass own = some m.cls) (hK : va_K D vwCl (TYX X) s) (hA : ∀ q, s.heap.size ≤ q → A q) (hE : EX A s) (hst9 : l.stackTraces = false) {ix : Nat} (hl9 : Cond.methodLink own ix yL_mayStop ∈ LT) (hR : 3 ≤ R.frames ∧ 66 ≤ R.locals) (hmc : R.cells = mc) (hms : R.slots = ms) (h : PC_L_mayStop M as t k kx) : CallOK p l e R s m args below meth c Q D X ad A M nL b mc ms (.invokestatic ix) 0 0 as t k kx := by
  unfold PC_L_mayStop at h
  split at h
  · exact call_S hx hb hml hts hown hK hA hE (c_L_mayStop hst9 _ _ _ t h) ⟨hl9, ws_L_mayStop.1, ws_L_mayStop.2.1, ws_L_mayStop.2.2⟩ (n := 3) (by decide +kernel) hR rfl rfl hmc hms rfl
  · exact h.elim
def Q_L_mayClose (M : Nat → Nat → Bool) (ix : Nat) (as : List VV) (t : TT) (k : Option VV → TT → Prop) (kx : String → TT → Prop) : Prop := match ix with
  | 18 => PC_L_way M as t k kx
  | 9 => PC_X4_trainIs M as t k kx
  | _ => False
def N_L_mayClose (v : Bool) (ix : Nat) : Option (Nat × Nat × Nat) := match v, ix with
  | false, 18 => some (1, 0, 0)
  | true, 9 => some (3, 0, 0)
  | _, _ => none
def S_L_mayClose (pc : Nat) : Option (List (Nat × Nat × Nat) × List (Nat × Nat) × Nat × Nat) := match pc with
  | 104 => some ([(0, 1, 0), (1, 0, 0), (2, 0, 0), (4, 0, 0)], [(0, 0)], 0, 0)
  | 103 => some ([(0, 1, 0), (1, 0, 0), (2, 0, 0), (4, 0, 0)], [], 0, 0)
  | 99 => some ([(0, 1, 0), (1, 0, 0), (2, 0, 0), (4, 0, 0)], [], 0, 0)
  | 76 => some ([(0, 1, 0), (1, 0, 0), (2, 0, 0), (3, 0, 0), (4, 0, 0), (5, 0, 0), (6, 0, 0)], [(0, 0)], 0, 0)
  | 39 => some ([(0, 1, 0), (1, 0, 0), (2, 0, 0), (3, 0, 0), (4, 0, 0), (5, 0, 0)], [(0, 0)], 0, 0)
  | 5 => some ([(0, 1, 0), (1, 0, 0), (2, 0, 0), (3, 0, 0), (4, 0, 0)], [], 0, 0)
  | _ => none
def H_L_mayClose (pc : Nat) : Option String := none
set_option maxRecDepth 100000 in
set_option maxHeartbeats 4000000 in
theorem c_L_mayClose {l : Launch} (hst9 : l.stackTraces = false) {D : va_G} {X : Nat → ClassId} {ad : Nat → Nat → Nat} {M : Nat → Nat → Bool} {post : Option VV → TT → Prop} {px : String → TT → Prop} (o0 : Nat) (a1 : Int32) (a2 : Int32) (t : TT) (h : P_L_mayClose M (fun r t1 => post (some (.inl r)) t1) px o0 a1 a2 t) : CT l yL_mayClose (Cond.code yL_mayClose cL_mayClose 8 (some .boolean) :: LT) ({ frames := 2, cells := 0, slots := 0, locals := 44 } : Room) D X ad M [.inr (.inl (0, o0)), .inl a1, .inl a2] t 0 0 post px := by
  refine met_of_wp (by decide +kernel) (Nat.le_of_ble_eq_true rfl) ?_
  intro p e s m args below meth c A hx hb hml hts hown hK hnt hlocks hr hA hE
  have hR9 : Ready p l e ({ frames := 2, cells := 0, slots := 0, locals := 44 } : Room) s m args below meth c D X ad A M 8 cL_mayClose 0 0 post px RL 2 (fldOf F_L) N_L_mayClose (Q_L_mayClose M) (tabOf T_L_mayClose) H_L_mayClose := by
    refine ⟨hx, hb, hts, hown, hK, hnt, hlocks, hr, F_L_ok, ?_, fun pc en h => tabOf_ok T_L_mayClose_ok h, ?_⟩
    · intro v9 ix n mc1 ms1 as t k hn hl h
      unfold N_L_mayClose at hn
      split at hn
      · cases hn
        exact k_L_way hx hb hml hts hown hK hA hE hst9 (by decide +kernel) ⟨Nat.le_of_ble_eq_true rfl, Nat.le_of_ble_eq_true rfl⟩ rfl rfl h
      · cases hn
        exact k_X4_trainIs hx hb hml hts hown hK hA hE hst9 (by decide +kernel) ⟨Nat.le_of_ble_eq_true rfl, Nat.le_of_ble_eq_true rfl⟩ rfl rfl h
      · cases hn
    · intro pc E hE9; cases hE9
  have W104 : ∀ (k5 : Nat → Int32 → Int32 → Int32 → Int32 → TT → Prop) (hk5 : ∀ (o0 : Nat) (a1 : Int32) (a2 : Int32) (a3 : Int32) (a4 : Int32) (t : TT), k5 o0 a1 a2 a3 a4 t → Wat p l e ({ frames := 2, cells := 0, slots := 0, locals := 44 } : Room) s m args below meth c (QM below args s D X ad A M 0 0 post px) D X ad A M 8 5 [(0, .inr (.inl (0, o0))), (1, .inl a1), (2, .inl a2), (3, .inl a3), (4, .inl a4)] [] t 0 0) (o0 : Nat) (a1 : Int32) (a2 : Int32) (a4 : Int32) (s0 : Int32) (t : TT), B_L_mayClose_104 M (fun r t1 => post (some (.inl r)) t1) px k5 o0 a1 a2 a4 s0 t → Wat p l e ({ frames := 2, cells := 0, slots := 0, locals := 44 } : Room) s m args below meth c (QM below args s D X ad A M 0 0 post px) D X ad A M 8 104 [(0, .inr (.inl (0, o0))), (1, .inl a1), (2, .inl a2), (4, .inl a4)] [.inl s0] t 0 0 := by
    intro k5 hk5 o0 a1 a2 a4 s0 t h
    refine wp_go hR9 (cs := S_L_mayClose) (Bk := (fun pc vs ws t => match pc with | 5 => (match vs, ws with | [.inr (.inl (0, o0)), .inl a1, .inl a2, .inl a3, .inl a4], [] => k5 o0 a1 a2 a3 a4 t | _, _ => False) | _ => False)) ?_ 400 104 _ _ _ _ _ h
    intro pc q vs ws t hc hk
    split at hk
    · cases hc
      split at hk
      · exact hk5 _ _ _ _ _ _ hk
      · exact hk.elim
    · exact hk.elim
  have W103 : ∀ (k5 : Nat → Int32 → Int32 → Int32 → Int32 → TT → Prop) (hk5 : ∀ (o0 : Nat) (a1 : Int32) (a2 : Int32) (a3 : Int32) (a4 : Int32) (t : TT), k5 o0 a1 a2 a3 a4 t → Wat p l e ({ frames := 2, cells := 0, slots := 0, locals := 44 } : Room) s m args below meth c (QM below args s D X ad A M 0 0 post px) D X ad A M 8 5 [(0, .inr (.inl (0, o0))), (1, .inl a1), (2, .inl a2), (3, .inl a3), (4, .inl a4)] [] t 0 0) (o0 : Nat) (a1 : Int32) (a2 : Int32) (a4 : Int32) (t : TT), B_L_mayClose_103 M (fun r t1 => post (some (.inl r)) t1) px k5 o0 a1 a2 a4 t → Wat p l e ({ frames := 2, cells := 0, slots := 0, locals := 44 } : Room) s m args below meth c (QM below args s D X ad A M 0 0 post px) D X ad A M 8 103 [(0, .inr (.inl (0, o0))), (1, .inl a1), (2, .inl a2), (4, .inl a4)] [] t 0 0 := by
    intro k5 hk5 o0 a1 a2 a4 t h
    refine wp_go hR9 (cs := S_L_mayClose) (Bk := (fun pc vs ws t => match pc with | 104 => (match vs, ws with | [.inr (.inl (0, o0)), .inl a1, .inl a2, .inl a4], [.inl s0] => B_L_mayClose_104 M (fun r t1 => post (some (.inl r)) t1) px k5 o0 a1 a2 a4 s0 t | _, _ => False) | _ => False)) ?_ 400 103 _ _ _ _ _ h
    intro pc q vs ws t hc hk
    split at hk
    · cases hc
      split at hk
      · exact W104 _ hk5 _ _ _ _ _ _ hk
      · exact hk.elim
    · exact hk.elim
  have W99 : ∀ (k5 : Nat → Int32 → Int32 → Int32 → Int32 → TT → Prop) (hk5 : ∀ (o0 : Nat) (a1 : Int32) (a2 : Int32) (a3 : Int32) (a4 : Int32) (t : TT), k5 o0 a1 a2 a3 a4 t → Wat p l e ({ frames := 2, cells := 0, slots := 0, locals := 44 } : Room) s m args below meth c (QM below args s D X ad A M 0 0 post px) D X ad A M 8 5 [(0, .inr (.inl (0, o0))), (1, .inl a1), (2, .inl a2), (3, .inl a3), (4, .inl a4)] [] t 0 0) (o0 : Nat) (a1 : Int32) (a2 : Int32) (a4 : Int32) (t : TT), B_L_mayClose_99 M (fun r t1 => post (some (.inl r)) t1) px k5 o0 a1 a2 a4 t → Wat p l e ({ frames := 2, cells := 0, slots := 0, locals := 44 } : Room) s m args below meth c (QM below args s D X ad A M 0 0 post px) D X ad A M 8 99 [(0, .inr (.inl (0, o0))), (1, .inl a1), (2, .inl a2), (4, .inl a4)] [] t 0 0 := by
    intro k5 hk5 o0 a1 a2 a4 t h
    refine wp_go hR9 (cs := S_L_mayClose) (Bk := (fun pc vs ws t => match pc with | 104 => (match vs, ws with | [.inr (.inl (0, o0)), .inl a1, .inl a2, .inl a4], [.inl s0] => B_L_mayClose_104 M (fun r t1 => post (some (.inl r)) t1) px k5 o0 a1 a2 a4 s0 t | _, _ => False) | _ => False)) ?_ 400 99 _ _ _ _ _ h
    intro pc q vs ws t hc hk
    split at hk
    · cases hc
      split at hk
      · exact W104 _ hk5 _ _ _ _ _ _ hk
      · exact hk.elim
    · exact hk.elim
  have W76 : ∀ (k5 : Nat → Int32 → Int32 → Int32 → Int32 → TT → Prop) (hk5 : ∀ (o0 : Nat) (a1 : Int32) (a2 : Int32) (a3 : Int32) (a4 : Int32) (t : TT), k5 o0 a1 a2 a3 a4 t → Wat p l e ({ frames := 2, cells := 0, slots := 0, locals := 44 } : Room) s m args below meth c (QM below args s D X ad A M 0 0 post px) D X ad A M 8 5 [(0, .inr (.inl (0, o0))), (1, .inl a1), (2, .inl a2), (3, .inl a3), (4, .inl a4)] [] t 0 0) (o0 : Nat) (a1 : Int32) (a2 : Int32) (a3 : Int32) (a4 : Int32) (a5 : Int32) (a6 : Int32) (s0 : Int32) (t : TT), B_L_mayClose_76 M (fun r t1 => post (some (.inl r)) t1) px k5 o0 a1 a2 a3 a4 a5 a6 s0 t → Wat p l e ({ frames := 2, cells := 0, slots := 0, locals := 44 } : Room) s m args below meth c (QM below args s D X ad A M 0 0 post px) D X ad A M 8 76 [(0, .inr (.inl (0, o0))), (1, .inl a1), (2, .inl a2), (3, .inl a3), (4, .inl a4), (5, .inl a5), (6, .inl a6)] [.inl s0] t 0 0 := by
    intro k5 hk5 o0 a1 a2 a3 a4 a5 a6 s0 t h
    refine wp_go hR9 (cs := S_L_mayClose) (Bk := (fun pc vs ws t => match pc with | 99 => (match vs, ws with | [.inr (.inl (0, o0)), .inl a1, .inl a2, .inl a4], [] => B_L_mayClose_99 M (fun r t1 => post (some (.inl r)) t1) px k5 o0 a1 a2 a4 t | _, _ => False) | 103 => (match vs, ws with | [.inr (.inl (0, o0)), .inl a1, .inl a2, .inl a4], [] => B_L_mayClose_103 M (fun r t1 => post (some (.inl r)) t1) px k5 o0 a1 a2 a4 t | _, _ => False) | _ => False)) ?_ 400 76 _ _ _ _ _ h
    intro pc q vs ws t hc hk
    split at hk
    · cases hc
      split at hk
      · exact W99 _ hk5 _ _ _ _ _ hk
      · exact hk.elim
    · cases hc
      split at hk
      · exact W103 _ hk5 _ _ _ _ _ hk
      · exact hk.elim
    · exact hk.elim
  have W39 : ∀ (k5 : Nat → Int32 → Int32 → Int32 → Int32 → TT → Prop) (hk5 : ∀ (o0 : Nat) (a1 : Int32) (a2 : Int32) (a3 : Int32) (a4 : Int32) (t : TT), k5 o0 a1 a2 a3 a4 t → Wat p l e ({ frames := 2, cells := 0, slots := 0, locals := 44 } : Room) s m args below meth c (QM below args s D X ad A M 0 0 post px) D X ad A M 8 5 [(0, .inr (.inl (0, o0))), (1, .inl a1), (2, .inl a2), (3, .inl a3), (4, .inl a4)] [] t 0 0) (o0 : Nat) (a1 : Int32) (a2 : Int32) (a3 : Int32) (a4 : Int32) (a5 : Int32) (s0 : Int32) (t : TT), B_L_mayClose_39 M (fun r t1 => post (some (.inl r)) t1) px k5 o0 a1 a2 a3 a4 a5 s0 t → Wat p l e ({ frames := 2, cells := 0, slots := 0, locals := 44 } : Room) s m args below meth c (QM below args s D X ad A M 0 0 post px) D X ad A M 8 39 [(0, .inr (.inl (0, o0))), (1, .inl a1), (2, .inl a2), (3, .inl a3), (4, .inl a4), (5, .inl a5)] [.inl s0] t 0 0 := by
    intro k5 hk5 o0 a1 a2 a3 a4 a5 s0 t h
    refine wp_go hR9 (cs := S_L_mayClose) (Bk := (fun pc vs ws t => match pc with | 76 => (match vs, ws with | [.inr (.inl (0, o0)), .inl a1, .inl a2, .inl a3, .inl a4, .inl a5, .inl a6], [.inl s0] => B_L_mayClose_76 M (fun r t1 => post (some (.inl r)) t1) px k5 o0 a1 a2 a3 a4 a5 a6 s0 t | _, _ => False) | _ => False)) ?_ 400 39 _ _ _ _ _ h
    intro pc q vs ws t hc hk
    split at hk
    · cases hc
      split at hk
      · exact W76 _ hk5 _ _ _ _ _ _ _ _ _ hk
      · exact hk.elim
    · exact hk.elim
  have W5 : ∀ (n : Nat) (o0 : Nat) (a1 : Int32) (a2 : Int32) (a3 : Int32) (a4 : Int32) (t : TT), L_L_mayClose_5 M (fun r t1 => post (some (.inl r)) t1) px n o0 a1 a2 a3 a4 t → Wat p l e ({ frames := 2, cells := 0, slots := 0, locals := 44 } : Room) s m args below meth c (QM below args s D X ad A M 0 0 post px) D X ad A M 8 5 [(0, .inr (.inl (0, o0))), (1, .inl a1), (2, .inl a2), (3, .inl a3), (4, .inl a4)] [] t 0 0 := by
    intro n
    induction n with
    | zero =>
      intro o0 a1 a2 a3 a4 t h
      exact h.elim
    | succ n ih =>
      intro o0 a1 a2 a3 a4 t h
      refine wp_go hR9 (cs := S_L_mayClose) (Bk := (fun pc vs ws t => match pc with | 39 => (match vs, ws with | [.inr (.inl (0, o0)), .inl a1, .inl a2, .inl a3, .inl a4, .inl a5], [.inl s0] => B_L_mayClose_39 M (fun r t1 => post (some (.inl r)) t1) px (L_L_mayClose_5 M (fun r t1 => post (some (.inl r)) t1) px n) o0 a1 a2 a3 a4 a5 s0 t | _, _ => False) | _ => False)) ?_ 400 5 _ _ _ _ _ h
      intro pc q vs ws t hc hk
      split at hk
      · cases hc
        split at hk
        · exact W39 _ ih _ _ _ _ _ _ _ _ hk
        · exact hk.elim
      · exact hk.elim
  refine wp_go hR9 (cs := S_L_mayClose) (Bk := (fun pc vs ws t => match pc with | 5 => (match vs, ws with | [.inr (.inl (0, o0)), .inl a1, .inl a2, .inl a3, .inl a4], [] => ∃ n9, L_L_mayClose_5 M (fun r t1 => post (some (.inl r)) t1) px n9 o0 a1 a2 a3 a4 t | _, _ => False) | _ => False)) ?_ 400 0 _ _ _ _ _ h
  intro pc q vs ws t hc hk
  split at hk
  · cases hc
    split at hk
    · obtain ⟨n9, hk⟩ := hk
      exact W5 n9 _ _ _ _ _ _ hk
    · exact hk.elim
  · exact hk.elim
theorem k_L_mayClose (hx : p.tables.exec = Jvm.exec) (hb : c.code = b) (hml : c.maxLocals = nL) (hts : ∀ w ∈ LT, w.before args s = true) {own : String} (hown : s.vm.findClass own = some m.cls) (hK : va_K D vwCl (TYX X) s) (hA : ∀ q, s.heap.size ≤ q → A q) (hE : EX A s) (hst9 : l.stackTraces = false) {ix : Nat} (hl9 : Cond.methodLink own ix yL_mayClose ∈ LT) (hR : 3 ≤ R.frames ∧ 71 ≤ R.locals) (hmc : R.cells = mc) (hms : R.slots = ms) (h : PC_L_mayClose M as t k kx) : CallOK p l e R s m args below meth c Q D X ad A M nL b mc ms (.invokestatic ix) 0 0 as t k kx := by
  unfold PC_L_mayClose at h
  split at h
  · exact call_S hx hb hml hts hown hK hA hE (c_L_mayClose hst9 _ _ _ t h) ⟨hl9, ws_L_mayClose.1, ws_L_mayClose.2.1, ws_L_mayClose.2.2⟩ (n := 3) (by decide +kernel) hR rfl rfl hmc hms rfl
  · exact h.elim
def Q_L_isSafe (M : Nat → Nat → Bool) (ix : Nat) (as : List VV) (t : TT) (k : Option VV → TT → Prop) (kx : String → TT → Prop) : Prop := match ix with
  | 9 => PC_X4_trainIs M as t k kx
  | 24 => PC_X4_isSafe M as t k kx
  | 28 => PC_X4_placeAnew M as t k kx
  | _ => False
def N_L_isSafe (v : Bool) (ix : Nat) : Option (Nat × Nat × Nat) := match v, ix with
  | true, 9 => some (3, 0, 0)
  | true, 24 => some (1, 0, 0)
  | true, 28 => some (2, 0, 0)
  | _, _ => none
def S_L_isSafe (pc : Nat) : Option (List (Nat × Nat × Nat) × List (Nat × Nat) × Nat × Nat) := match pc with
  | 137 => some ([(0, 1, 0), (2, 0, 0), (4, 0, 0), (5, 0, 0), (6, 0, 0)], [(0, 0)], 0, 0)
  | 136 => some ([(0, 1, 0), (2, 0, 0), (4, 0, 0), (5, 0, 0), (6, 0, 0)], [], 0, 0)
  | 132 => some ([(0, 1, 0), (2, 0, 0), (4, 0, 0), (5, 0, 0), (6, 0, 0)], [], 0, 0)
  | 92 => some ([(0, 1, 0), (1, 0, 0), (2, 0, 0), (4, 0, 0), (5, 0, 0), (6, 0, 0)], [], 0, 0)
  | 88 => some ([(0, 1, 0), (2, 0, 0), (4, 0, 0), (5, 0, 0)], [(0, 0)], 0, 0)
  | 87 => some ([(0, 1, 0), (2, 0, 0), (4, 0, 0), (5, 0, 0)], [], 0, 0)
  | 7 => some ([(0, 1, 0), (1, 0, 0), (2, 0, 0)], [], 0, 0)
  | _ => none
def H_L_isSafe (pc : Nat) : Option String := none
set_option maxRecDepth 100000 in
set_option maxHeartbeats 4000000 in
theorem c_L_isSafe {l : Launch} (hst9 : l.stackTraces = false) {D : va_G} {X : Nat → ClassId} {ad : Nat → Nat → Nat} {M : Nat → Nat → Bool} {post : Option VV → TT → Prop} {px : String → TT → Prop} (o0 : Nat) (t : TT) (h : P_L_isSafe M (fun r t1 => post (some (.inl r)) t1) px o0 t) : CT l yL_isSafe (Cond.code yL_isSafe cL_isSafe 7 (some .boolean) :: LT) ({ frames := 2, cells := 0, slots := 0, locals := 44 } : Room) D X ad M [.inr (.inl (0, o0))] t 0 0 post px := by
  refine met_of_wp (by decide +kernel) (Nat.le_of_ble_eq_true rfl) ?_
  intro p e s m args below meth c A hx hb hml hts hown hK hnt hlocks hr hA hE
  have hR9 : Ready p l e ({ frames := 2, cells := 0, slots := 0, locals := 44 } : Room) s m args below meth c D X ad A M 7 cL_isSafe 0 0 post px RL 2 (fldOf F_L) N_L_isSafe (Q_L_isSafe M) (tabOf T_L_isSafe) H_L_isSafe := by
    refine ⟨hx, hb, hts, hown, hK, hnt, hlocks, hr, F_L_ok, ?_, fun pc en h => tabOf_ok T_L_isSafe_ok h, ?_⟩
    · intro v9 ix n mc1 ms1 as t k hn hl h
      unfold N_L_isSafe at hn
      split at hn
      · cases hn
        exact k_X4_trainIs hx hb hml hts hown hK hA hE hst9 (by decide +kernel) ⟨Nat.le_of_ble_eq_true rfl, Nat.le_of_ble_eq_true rfl⟩ rfl rfl h
      · cases hn
        exact k_X4_isSafe hx hb hml hts hown hK hA hE hst9 (by decide +kernel) ⟨Nat.le_of_ble_eq_true rfl, Nat.le_of_ble_eq_true rfl⟩ rfl rfl h
      · cases hn
        exact k_X4_placeAnew hx hb hml hts hown hK hA hE hst9 (by decide +kernel) ⟨Nat.le_of_ble_eq_true rfl, Nat.le_of_ble_eq_true rfl⟩ rfl rfl h
      · cases hn
    · intro pc E hE9; cases hE9
  have W137 : ∀ (k7 : Nat → Int32 → Int32 → TT → Prop) (hk7 : ∀ (o0 : Nat) (a1 : Int32) (a2 : Int32) (t : TT), k7 o0 a1 a2 t → Wat p l e ({ frames := 2, cells := 0, slots := 0, locals := 44 } : Room) s m args below meth c (QM below args s D X ad A M 0 0 post px) D X ad A M 7 7 [(0, .inr (.inl (0, o0))), (1, .inl a1), (2, .inl a2)] [] t 0 0) (k92 : Nat → Int32 → Int32 → Int32 → Int32 → Int32 → TT → Prop) (hk92 : ∀ (o0 : Nat) (a1 : Int32) (a2 : Int32) (a4 : Int32) (a5 : Int32) (a6 : Int32) (t : TT), k92 o0 a1 a2 a4 a5 a6 t → Wat p l e ({ frames := 2, cells := 0, slots := 0, locals := 44 } : Room) s m args below meth c (QM below args s D X ad A M 0 0 post px) D X ad A M 7 92 [(0, .inr (.inl (0, o0))), (1, .inl a1), (2, .inl a2), (4, .inl a4), (5, .inl a5), (6, .inl a6)] [] t 0 0) (o0 : Nat) (a2 : Int32) (a4 : Int32) (a5 : Int32) (a6 : Int32) (s0 : Int32) (t : TT), B_L_isSafe_137 M (fun r t1 => post (some (.inl r)) t1) px k7 k92 o0 a2 a4 a5 a6 s0 t → Wat p l e ({ frames := 2, cells := 0, slots := 0, locals := 44 } : Room) s m args below meth c (QM below args s D X ad A M 0 0 post px) D X ad A M 7 137 [(0, .inr (.inl (0, o0))), (2, .inl a2), (4, .inl a4), (5, .inl a5), (6, .inl a6)] [.inl s0] t 0 0 := by
    intro k7 hk7 k92 hk92 o0 a2 a4 a5 a6 s0 t h
    refine wp_go hR9 (cs := S_L_isSafe) (Bk := (fun pc vs ws t => match pc with | 92 => (match vs, ws with | [.inr (.inl (0, o0)), .inl a1, .inl a2, .inl a4, .inl a5, .inl a6], [] => k92 o0 a1 a2 a4 a5 a6 t | _, _ => False) | _ => False)) ?_ 400 137 _ _ _ _ _ h
    intro pc q vs ws t hc hk
    split at hk
    · cases hc
      split at hk
      · exact hk92 _ _ _ _ _ _ _ hk
      · exact hk.elim
    · exact hk.elim
  have W136 : ∀ (k7 : Nat → Int32 → Int32 → TT → Prop) (hk7 : ∀ (o0 : Nat) (a1 : Int32) (a2 : Int32) (t : TT), k7 o0 a1 a2 t → Wat p l e ({ frames := 2, cells := 0, slots := 0, locals := 44 } : Room) s m args below meth c (QM below args s D X ad A M 0 0 post px) D X ad A M 7 7 [(0, .inr (.inl (0, o0))), (1, .inl a1), (2, .inl a2)] [] t 0 0) (k92 : Nat → Int32 → Int32 → Int32 → Int32 → Int32 → TT → Prop) (hk92 : ∀ (o0 : Nat) (a1 : Int32) (a2 : Int32) (a4 : Int32) (a5 : Int32) (a6 : Int32) (t : TT), k92 o0 a1 a2 a4 a5 a6 t → Wat p l e ({ frames := 2, cells := 0, slots := 0, locals := 44 } : Room) s m args below meth c (QM below args s D X ad A M 0 0 post px) D X ad A M 7 92 [(0, .inr (.inl (0, o0))), (1, .inl a1), (2, .inl a2), (4, .inl a4), (5, .inl a5), (6, .inl a6)] [] t 0 0) (o0 : Nat) (a2 : Int32) (a4 : Int32) (a5 : Int32) (a6 : Int32) (t : TT), B_L_isSafe_136 M (fun r t1 => post (some (.inl r)) t1) px k7 k92 o0 a2 a4 a5 a6 t → Wat p l e ({ frames := 2, cells := 0, slots := 0, locals := 44 } : Room) s m args below meth c (QM below args s D X ad A M 0 0 post px) D X ad A M 7 136 [(0, .inr (.inl (0, o0))), (2, .inl a2), (4, .inl a4), (5, .inl a5), (6, .inl a6)] [] t 0 0 := by
    intro k7 hk7 k92 hk92 o0 a2 a4 a5 a6 t h
    refine wp_go hR9 (cs := S_L_isSafe) (Bk := (fun pc vs ws t => match pc with | 137 => (match vs, ws with | [.inr (.inl (0, o0)), .inl a2, .inl a4, .inl a5, .inl a6], [.inl s0] => B_L_isSafe_137 M (fun r t1 => post (some (.inl r)) t1) px k7 k92 o0 a2 a4 a5 a6 s0 t | _, _ => False) | _ => False)) ?_ 400 136 _ _ _ _ _ h
    intro pc q vs ws t hc hk
    split at hk
    · cases hc
      split at hk
      · exact W137 _ hk7 _ hk92 _ _ _ _ _ _ _ hk
      · exact hk.elim
    · exact hk.elim
  have W132 : ∀ (k7 : Nat → Int32 → Int32 → TT → Prop) (hk7 : ∀ (o0 : Nat) (a1 : Int32) (a2 : Int32) (t : TT), k7 o0 a1 a2 t → Wat p l e ({ frames := 2, cells := 0, slots := 0, locals := 44 } : Room) s m args below meth c (QM below args s D X ad A M 0 0 post px) D X ad A M 7 7 [(0, .inr (.inl (0, o0))), (1, .inl a1), (2, .inl a2)] [] t 0 0) (k92 : Nat → Int32 → Int32 → Int32 → Int32 → Int32 → TT → Prop) (hk92 : ∀ (o0 : Nat) (a1 : Int32) (a2 : Int32) (a4 : Int32) (a5 : Int32) (a6 : Int32) (t : TT), k92 o0 a1 a2 a4 a5 a6 t → Wat p l e ({ frames := 2, cells := 0, slots := 0, locals := 44 } : Room) s m args below meth c (QM below args s D X ad A M 0 0 post px) D X ad A M 7 92 [(0, .inr (.inl (0, o0))), (1, .inl a1), (2, .inl a2), (4, .inl a4), (5, .inl a5), (6, .inl a6)] [] t 0 0) (o0 : Nat) (a2 : Int32) (a4 : Int32) (a5 : Int32) (a6 : Int32) (t : TT), B_L_isSafe_132 M (fun r t1 => post (some (.inl r)) t1) px k7 k92 o0 a2 a4 a5 a6 t → Wat p l e ({ frames := 2, cells := 0, slots := 0, locals := 44 } : Room) s m args below meth c (QM below args s D X ad A M 0 0 post px) D X ad A M 7 132 [(0, .inr (.inl (0, o0))), (2, .inl a2), (4, .inl a4), (5, .inl a5), (6, .inl a6)] [] t 0 0 := by
    intro k7 hk7 k92 hk92 o0 a2 a4 a5 a6 t h
    refine wp_go hR9 (cs := S_L_isSafe) (Bk := (fun pc vs ws t => match pc with | 137 => (match vs, ws with | [.inr (.inl (0, o0)), .inl a2, .inl a4, .inl a5, .inl a6], [.inl s0] => B_L_isSafe_137 M (fun r t1 => post (some (.inl r)) t1) px k7 k92 o0 a2 a4 a5 a6 s0 t | _, _ => False) | _ => False)) ?_ 400 132 _ _ _ _ _ h
    intro pc q vs ws t hc hk
    split at hk
    · cases hc
      split at hk
      · exact W137 _ hk7 _ hk92 _ _ _ _ _ _ _ hk
      · exact hk.elim
    · exact hk.elim
  have W92 : ∀ (k7 : Nat → Int32 → Int32 → TT → Prop) (hk7 : ∀ (o0 : Nat) (a1 : Int32) (a2 : Int32) (t : TT), k7 o0 a1 a2 t → Wat p l e ({ frames := 2, cells := 0, slots := 0, locals := 44 } : Room) s m args below meth c (QM below args s D X ad A M 0 0 post px) D X ad A M 7 7 [(0, .inr (.inl (0, o0))), (1, .inl a1), (2, .inl a2)] [] t 0 0) (n : Nat) (o0 : Nat) (a1 : Int32) (a2 : Int32) (a4 : Int32) (a5 : Int32) (a6 : Int32) (t : TT), L_L_isSafe_92 M (fun r t1 => post (some (.inl r)) t1) px k7 n o0 a1 a2 a4 a5 a6 t → Wat p l e ({ frames := 2, cells := 0, slots := 0, locals := 44 } : Room) s m args below meth c (QM below args s D X ad A M 0 0 post px) D X ad A M 7 92 [(0, .inr (.inl (0, o0))), (1, .inl a1), (2, .inl a2), (4, .inl a4), (5, .inl a5), (6, .inl a6)] [] t 0 0 := by
    intro k7 hk7
    intro n
    induction n with
    | zero =>
      intro o0 a1 a2 a4 a5 a6 t h
      exact h.elim
    | succ n ih =>
      intro o0 a1 a2 a4 a5 a6 t h
      refine wp_go hR9 (cs := S_L_isSafe) (Bk := (fun pc vs ws t => match pc with | 7 => (match vs, ws with | [.inr (.inl (0, o0)), .inl a1, .inl a2], [] => k7 o0 a1 a2 t | _, _ => False) | 132 => (match vs, ws with | [.inr (.inl (0, o0)), .inl a2, .inl a4, .inl a5, .inl a6], [] => B_L_isSafe_132 M (fun r t1 => post (some (.inl r)) t1) px k7 (L_L_isSafe_92 M (fun r t1 => post (some (.inl r)) t1) px k7 n) o0 a2 a4 a5 a6 t | _, _ => False) | 136 => (match vs, ws with | [.inr (.inl (0, o0)), .inl a2, .inl a4, .inl a5, .inl a6], [] => B_L_isSafe_136 M (fun r t1 => post (some (.inl r)) t1) px k7 (L_L_isSafe_92 M (fun r t1 => post (some (.inl r)) t1) px k7 n) o0 a2 a4 a5 a6 t | _, _ => False) | _ => False)) ?_ 400 92 _ _ _ _ _ h
      intro pc q vs ws t hc hk
      split at hk
      · cases hc
        split at hk
        · exact hk7 _ _ _ _ hk
        · exact hk.elim
      · cases hc
        split at hk
        · exact W132 _ hk7 _ ih _ _ _ _ _ _ hk
        · exact hk.elim
      · cases hc
        split at hk
        · exact W136 _ hk7 _ ih _ _ _ _ _ _ hk
        · exact hk.elim
      · exact hk.elim
  have W88 : ∀ (k7 : Nat → Int32 → Int32 → TT → Prop) (hk7 : ∀ (o0 : Nat) (a1 : Int32) (a2 : Int32) (t : TT), k7 o0 a1 a2 t → Wat p l e ({ frames := 2, cells := 0, slots := 0, locals := 44 } : Room) s m args below meth c (QM below args s D X ad A M 0 0 post px) D X ad A M 7 7 [(0, .inr (.inl (0, o0))), (1, .inl a1), (2, .inl a2)] [] t 0 0) (o0 : Nat) (a2 : Int32) (a4 : Int32) (a5 : Int32) (s0 : Int32) (t : TT), B_L_isSafe_88 M (fun r t1 => post (some (.inl r)) t1) px k7 o0 a2 a4 a5 s0 t → Wat p l e ({ frames := 2, cells := 0, slots := 0, locals := 44 } : Room) s m args below meth c (QM below args s D X ad A M 0 0 post px) D X ad A M 7 88 [(0, .inr (.inl (0, o0))), (2, .inl a2), (4, .inl a4), (5, .inl a5)] [.inl s0] t 0 0 := by
    intro k7 hk7 o0 a2 a4 a5 s0 t h
    refine wp_go hR9 (cs := S_L_isSafe) (Bk := (fun pc vs ws t => match pc with | 92 => (match vs, ws with | [.inr (.inl (0, o0)), .inl a1, .inl a2, .inl a4, .inl a5, .inl a6], [] => ∃ n9, L_L_isSafe_92 M (fun r t1 => post (some (.inl r)) t1) px k7 n9 o0 a1 a2 a4 a5 a6 t | _, _ => False) | _ => False)) ?_ 400 88 _ _ _ _ _ h
    intro pc q vs ws t hc hk
    split at hk
    · cases hc
      split at hk
      · obtain ⟨n9, hk⟩ := hk
        exact W92 _ hk7 n9 _ _ _ _ _ _ _ hk
      · exact hk.elim
    · exact hk.elim
  have W87 : ∀ (k7 : Nat → Int32 → Int32 → TT → Prop) (hk7 : ∀ (o0 : Nat) (a1 : Int32) (a2 : Int32) (t : TT), k7 o0 a1 a2 t → Wat p l e ({ frames := 2, cells := 0, slots := 0, locals := 44 } : Room) s m args below meth c (QM below args s D X ad A M 0 0 post px) D X ad A M 7 7 [(0, .inr (.inl (0, o0))), (1, .inl a1), (2, .inl a2)] [] t 0 0) (o0 : Nat) (a2 : Int32) (a4 : Int32) (a5 : Int32) (t : TT), B_L_isSafe_87 M (fun r t1 => post (some (.inl r)) t1) px k7 o0 a2 a4 a5 t → Wat p l e ({ frames := 2, cells := 0, slots := 0, locals := 44 } : Room) s m args below meth c (QM below args s D X ad A M 0 0 post px) D X ad A M 7 87 [(0, .inr (.inl (0, o0))), (2, .inl a2), (4, .inl a4), (5, .inl a5)] [] t 0 0 := by
    intro k7 hk7 o0 a2 a4 a5 t h
    refine wp_go hR9 (cs := S_L_isSafe) (Bk := (fun pc vs ws t => match pc with | 88 => (match vs, ws with | [.inr (.inl (0, o0)), .inl a2, .inl a4, .inl a5], [.inl s0] => B_L_isSafe_88 M (fun r t1 => post (some (.inl r)) t1) px k7 o0 a2 a4 a5 s0 t | _, _ => False) | _ => False)) ?_ 400 87 _ _ _ _ _ h
    intro pc q vs ws t hc hk
    split at hk
    · cases hc
      split at hk
      · exact W88 _ hk7 _ _ _ _ _ _ hk
      · exact hk.elim
    · exact hk.elim
  have W7 : ∀ (n : Nat) (o0 : Nat) (a1 : Int32) (a2 : Int32) (t : TT), L_L_isSafe_7 M (fun r t1 => post (some (.inl r)) t1) px n o0 a1 a2 t → Wat p l e ({ frames := 2, cells := 0, slots := 0, locals := 44 } : Room) s m args below meth c (QM below args s D X ad A M 0 0 post px) D X ad A M 7 7 [(0, .inr (.inl (0, o0))), (1, .inl a1), (2, .inl a2)] [] t 0 0 := by
    intro n
    induction n with
    | zero =>
      intro o0 a1 a2 t h
      exact h.elim
    | succ n ih =>
      intro o0 a1 a2 t h
      refine wp_go hR9 (cs := S_L_isSafe) (Bk := (fun pc vs ws t => match pc with | 87 => (match vs, ws with | [.inr (.inl (0, o0)), .inl a2, .inl a4, .inl a5], [] => B_L_isSafe_87 M (fun r t1 => post (some (.inl r)) t1) px (L_L_isSafe_7 M (fun r t1 => post (some (.inl r)) t1) px n) o0 a2 a4 a5 t | _, _ => False) | 88 => (match vs, ws with | [.inr (.inl (0, o0)), .inl a2, .inl a4, .inl a5], [.inl s0] => B_L_isSafe_88 M (fun r t1 => post (some (.inl r)) t1) px (L_L_isSafe_7 M (fun r t1 => post (some (.inl r)) t1) px n) o0 a2 a4 a5 s0 t | _, _ => False) | _ => False)) ?_ 400 7 _ _ _ _ _ h
      intro pc q vs ws t hc hk
      split at hk
      · cases hc
        split at hk
        · exact W87 _ ih _ _ _ _ _ hk
        · exact hk.elim
      · cases hc
        split at hk
        · exact W88 _ ih _ _ _ _ _ _ hk
        · exact hk.elim
      · exact hk.elim
  refine wp_go hR9 (cs := S_L_isSafe) (Bk := (fun pc vs ws t => match pc with | 7 => (match vs, ws with | [.inr (.inl (0, o0)), .inl a1, .inl a2], [] => ∃ n9, L_L_isSafe_7 M (fun r t1 => post (some (.inl r)) t1) px n9 o0 a1 a2 t | _, _ => False) | _ => False)) ?_ 400 0 _ _ _ _ _ h
  intro pc q vs ws t hc hk
  split at hk
  · cases hc
    split at hk
    · obtain ⟨n9, hk⟩ := hk
      exact W7 n9 _ _ _ _ hk
    · exact hk.elim
  · exact hk.elim
theorem k_L_isSafe (hx : p.tables.exec = Jvm.exec) (hb : c.code = b) (hml : c.maxLocals = nL) (hts : ∀ w ∈ LT, w.before args s = true) {own : String} (hown : s.vm.findClass own = some m.cls) (hK : va_K D vwCl (TYX X) s) (hA : ∀ q, s.heap.size ≤ q → A q) (hE : EX A s) (hst9 : l.stackTraces = false) {ix : Nat} (hl9 : Cond.methodLink own ix yL_isSafe ∈ LT) (hR : 3 ≤ R.frames ∧ 70 ≤ R.locals) (hmc : R.cells = mc) (hms : R.slots = ms) (h : PC_L_isSafe M as t k kx) : CallOK p l e R s m args below meth c Q D X ad A M nL b mc ms (.invokestatic ix) 0 0 as t k kx := by
  unfold PC_L_isSafe at h
  split at h
  · exact call_S hx hb hml hts hown hK hA hE (c_L_isSafe hst9 _ t h) ⟨hl9, ws_L_isSafe.1, ws_L_isSafe.2.1, ws_L_isSafe.2.2⟩ (n := 1) (by decide +kernel) hR rfl rfl hmc hms rfl
  · exact h.elim
def Q_L_doors (M : Nat → Nat → Bool) (ix : Nat) (as : List VV) (t : TT) (k : Option VV → TT → Prop) (kx : String → TT → Prop) : Prop := match ix with
  | 35 => PC_L_isAt M as t k kx
  | 9 => PC_X4_trainIs M as t k kx
  | 31 => PC_X4_shut M as t k kx
  | 39 => PC_X4_depart M as t k kx
  | 42 => PC_X4_open M as t k kx
  | 45 => PC_X4_hold M as t k kx
  | _ => False
def N_L_doors (v : Bool) (ix : Nat) : Option (Nat × Nat × Nat) := match v, ix with
  | false, 35 => some (2, 0, 0)
  | true, 9 => some (3, 0, 0)
  | true, 31 => some (2, 0, 0)
  | true, 39 => some (2, 0, 0)
  | true, 42 => some (3, 0, 0)
  | true, 45 => some (3, 0, 0)
  | _, _ => none
def S_L_doors (pc : Nat) : Option (List (Nat × Nat × Nat) × List (Nat × Nat) × Nat × Nat) := match pc with
  | 92 => some ([], [], 0, 0)
  | 51 => some ([(0, 1, 0), (1, 0, 0), (2, 0, 0)], [], 0, 0)
  | _ => none
def H_L_doors (pc : Nat) : Option String := none
set_option maxRecDepth 100000 in
set_option maxHeartbeats 4000000 in
theorem c_L_doors {l : Launch} (hst9 : l.stackTraces = false) {D : va_G} {X : Nat → ClassId} {ad : Nat → Nat → Nat} {M : Nat → Nat → Bool} {post : Option VV → TT → Prop} {px : String → TT → Prop} (o0 : Nat) (a1 : Int32) (a2 : Int32) (t : TT) (h : P_L_doors M (fun t1 => post none t1) px o0 a1 a2 t) : CT l yL_doors (Cond.code yL_doors cL_doors 3 none :: LT) ({ frames := 3, cells := 0, slots := 0, locals := 67 } : Room) D X ad M [.inr (.inl (0, o0)), .inl a1, .inl a2] t 0 0 post px := by
  refine met_of_wp (by decide +kernel) (Nat.le_of_ble_eq_true rfl) ?_
  intro p e s m args below meth c A hx hb hml hts hown hK hnt hlocks hr hA hE
  have hR9 : Ready p l e ({ frames := 3, cells := 0, slots := 0, locals := 67 } : Room) s m args below meth c D X ad A M 3 cL_doors 0 0 post px RL 0 (fldOf F_L) N_L_doors (Q_L_doors M) (tabOf T_L_doors) H_L_doors := by
    refine ⟨hx, hb, hts, hown, hK, hnt, hlocks, hr, F_L_ok, ?_, fun pc en h => tabOf_ok T_L_doors_ok h, ?_⟩
    · intro v9 ix n mc1 ms1 as t k hn hl h
      unfold N_L_doors at hn
      split at hn
      · cases hn
        exact k_L_isAt hx hb hml hts hown hK hA hE hst9 (by decide +kernel) ⟨Nat.le_of_ble_eq_true rfl, Nat.le_of_ble_eq_true rfl⟩ rfl rfl h
      · cases hn
        exact k_X4_trainIs hx hb hml hts hown hK hA hE hst9 (by decide +kernel) ⟨Nat.le_of_ble_eq_true rfl, Nat.le_of_ble_eq_true rfl⟩ rfl rfl h
      · cases hn
        exact k_X4_shut hx hb hml hts hown hK hA hE hst9 (by decide +kernel) ⟨Nat.le_of_ble_eq_true rfl, Nat.le_of_ble_eq_true rfl⟩ rfl rfl h
      · cases hn
        exact k_X4_depart hx hb hml hts hown hK hA hE hst9 (by decide +kernel) ⟨Nat.le_of_ble_eq_true rfl, Nat.le_of_ble_eq_true rfl⟩ rfl rfl h
      · cases hn
        exact k_X4_open hx hb hml hts hown hK hA hE hst9 (by decide +kernel) ⟨Nat.le_of_ble_eq_true rfl, Nat.le_of_ble_eq_true rfl⟩ rfl rfl h
      · cases hn
        exact k_X4_hold hx hb hml hts hown hK hA hE hst9 (by decide +kernel) ⟨Nat.le_of_ble_eq_true rfl, Nat.le_of_ble_eq_true rfl⟩ rfl rfl h
      · cases hn
    · intro pc E hE9; cases hE9
  have W92 : ∀ (t : TT), B_L_doors_92 M (fun t1 => post none t1) px t → Wat p l e ({ frames := 3, cells := 0, slots := 0, locals := 67 } : Room) s m args below meth c (QM below args s D X ad A M 0 0 post px) D X ad A M 3 92 [] [] t 0 0 := by
    intro t h
    refine wp_go hR9 (cs := S_L_doors) (Bk := (fun _ _ _ _ => False)) ?_ 400 92 _ _ _ _ _ h
    intro pc q vs ws t hc hk
    exact hk.elim
  have W51 : ∀ (o0 : Nat) (a1 : Int32) (a2 : Int32) (t : TT), B_L_doors_51 M (fun t1 => post none t1) px o0 a1 a2 t → Wat p l e ({ frames := 3, cells := 0, slots := 0, locals := 67 } : Room) s m args below meth c (QM below args s D X ad A M 0 0 post px) D X ad A M 3 51 [(0, .inr (.inl (0, o0))), (1, .inl a1), (2, .inl a2)] [] t 0 0 := by
    intro o0 a1 a2 t h
    refine wp_go hR9 (cs := S_L_doors) (Bk := (fun pc vs ws t => match pc with | 92 => (match vs, ws with | [], [] => B_L_doors_92 M (fun t1 => post none t1) px t | _, _ => False) | _ => False)) ?_ 400 51 _ _ _ _ _ h
    intro pc q vs ws t hc hk
    split at hk
    · cases hc
      split at hk
      · exact W92 _ hk
      · exact hk.elim
    · exact hk.elim
  refine wp_go hR9 (cs := S_L_doors) (Bk := (fun pc vs ws t => match pc with | 51 => (match vs, ws with | [.inr (.inl (0, o0)), .inl a1, .inl a2], [] => B_L_doors_51 M (fun t1 => post none t1) px o0 a1 a2 t | _, _ => False) | 92 => (match vs, ws with | [], [] => B_L_doors_92 M (fun t1 => post none t1) px t | _, _ => False) | _ => False)) ?_ 400 0 _ _ _ _ _ h
  intro pc q vs ws t hc hk
  split at hk
  · cases hc
    split at hk
    · exact W51 _ _ _ _ hk
    · exact hk.elim
  · cases hc
    split at hk
    · exact W92 _ hk
    · exact hk.elim
  · exact hk.elim
theorem k_L_doors (hx : p.tables.exec = Jvm.exec) (hb : c.code = b) (hml : c.maxLocals = nL) (hts : ∀ w ∈ LT, w.before args s = true) {own : String} (hown : s.vm.findClass own = some m.cls) (hK : va_K D vwCl (TYX X) s) (hA : ∀ q, s.heap.size ≤ q → A q) (hE : EX A s) (hst9 : l.stackTraces = false) {ix : Nat} (hl9 : Cond.methodLink own ix yL_doors ∈ LT) (hR : 4 ≤ R.frames ∧ 89 ≤ R.locals) (hmc : R.cells = mc) (hms : R.slots = ms) (h : PC_L_doors M as t k kx) : CallOK p l e R s m args below meth c Q D X ad A M nL b mc ms (.invokestatic ix) 0 0 as t k kx := by
  unfold PC_L_doors at h
  split at h
  · exact call_S hx hb hml hts hown hK hA hE (c_L_doors hst9 _ _ _ t h) ⟨hl9, ws_L_doors.1, ws_L_doors.2.1, ws_L_doors.2.2⟩ (n := 3) (by decide +kernel) hR rfl rfl hmc hms rfl
  · exact h.elim
end K
end
section
/-! THE NUMBERS: small facts of Int32, the two tables, the invariant -/
theorem i_add {a b : Int32} (h1 : -2147483648 ≤ a.toInt + b.toInt) (h2 : a.toInt + b.toInt < 2147483648) : (a + b).toInt = a.toInt + b.toInt := by
  rw [Int32.toInt_add]
  exact Int.bmod_eq_of_le (by omega) (by omega)
theorem i_sub {a b : Int32} (h1 : -2147483648 ≤ a.toInt - b.toInt) (h2 : a.toInt - b.toInt < 2147483648) : (a - b).toInt = a.toInt - b.toInt := by
  rw [Int32.toInt_sub]
  exact Int.bmod_eq_of_le (by omega) (by omega)
theorem i_lt {a b : Int32} : a < b ↔ a.toInt < b.toInt := Int32.lt_iff_toInt_lt
theorem i_le {a b : Int32} : a ≤ b ↔ a.toInt ≤ b.toInt := Int32.le_iff_toInt_le
theorem i_eq {a b : Int32} : a = b ↔ a.toInt = b.toInt := Int32.toInt_inj.symm
theorem i_rng (a : Int32) : -2147483648 ≤ a.toInt ∧ a.toInt < 2147483648 := ⟨a.le_toInt, a.toInt_lt⟩
theorem i_m1 : (-1 : Int32).toInt = -1 := by decide +kernel
theorem i_0 : (0 : Int32).toInt = 0 := by decide +kernel
theorem i_1 : (1 : Int32).toInt = 1 := by decide +kernel
theorem nI_m1 {n : Nat} (h : n < 2 ^ 31) : nI n ≠ -1 := by
  intro z
  have h1 := nI_toInt h
  rw [z, i_m1] at h1
  omega
theorem m1_cl : (-1 : Int32).toNatClampNeg = 0 := by decide +kernel
theorem up2_self {t : TT} {k i : Nat} {v : Int32} (h : v = t k i) : up2 t k i v = t := by
  funext a b
  unfold up2
  split
  · next z => rw [z.1, z.2, h]
  · rfl
theorem isB_0 : isB 0 := Or.inl rfl
theorem isB_1 : isB 1 := Or.inr rfl
theorem vz_0 : vp_nar .boolean 0 = 0 := by decide +kernel
theorem vz_1 : vp_nar .boolean 1 = 1 := by decide +kernel
theorem vz_B {x : Int32} (h : isB x) : vp_nar .boolean x = x := by rcases h with rfl | rfl <;> decide +kernel
theorem vy_I : ∀ n, n < 128 → vp_nar .byte (nI n).toInt8.toInt32 = nI n := by decide +kernel
theorem vp0 {n N : Nat} (h : n < N) (hN : N ≤ 5000) : vp_in (nI n) N := vp_in_nI h (by omega)
theorem cl0 {n : Nat} (h : n ≤ 5000) : (nI n).toNatClampNeg = n := nI_clamp (by omega)
def MS (np nb nz nt kp i : Nat) : Bool := (Nat.ble kp 4 && i == 0) || (kp == 5 && Nat.blt i np) || (kp == 6 && Nat.blt i nb) || (kp == 7 && Nat.blt i nz) || ((kp == 8 || kp == 9 || kp == 10) && Nat.blt i nt)
theorem MS_ok {np nb nz nt : Nat} : okM (MS np nb nz nt) := fun kp i h => by
  unfold MS at h
  simp only [Bool.or_eq_true, Bool.and_eq_true, beq_iff_eq, Nat.ble_eq, Nat.blt_eq] at h
  omega
theorem MS_0 {np nb nz nt : Nat} : MS np nb nz nt 0 0 = true := rfl
theorem MS_1 {np nb nz nt : Nat} : MS np nb nz nt 1 0 = true := rfl
theorem MS_2 {np nb nz nt : Nat} : MS np nb nz nt 2 0 = true := rfl
theorem MS_3 {np nb nz nt : Nat} : MS np nb nz nt 3 0 = true := rfl
theorem MS_4 {np nb nz nt : Nat} : MS np nb nz nt 4 0 = true := rfl
theorem MS_5 {np nb nz nt i : Nat} : (MS np nb nz nt 5 i = true) = (i < np) := by simp [MS]
theorem MS_6 {np nb nz nt i : Nat} : (MS np nb nz nt 6 i = true) = (i < nb) := by simp [MS]
theorem MS_7 {np nb nz nt i : Nat} : (MS np nb nz nt 7 i = true) = (i < nz) := by simp [MS]
theorem MS_8 {np nb nz nt i : Nat} : (MS np nb nz nt 8 i = true) = (i < nt) := by simp [MS]
theorem MS_9 {np nb nz nt i : Nat} : (MS np nb nz nt 9 i = true) = (i < nt) := by simp [MS]
theorem MS_10 {np nb nz nt i : Nat} : (MS np nb nz nt 10 i = true) = (i < nt) := by simp [MS]
/-- the class's table out of the reference's -/
def over (t : TT) : TT := fun k i => if k = 9 then (if t 7 i < 2 then -1 else t 9 i) else if k = 40 then nI i else if k = 0 then 0 else t k i
theorem ov {t : TT} {k i : Nat} (h : (k != 9 && k != 40 && k != 0) = true) : over t k i = t k i := by
  simp only [Bool.and_eq_true, bne_iff_ne] at h
  unfold over
  rw [if_neg h.1.1, if_neg h.1.2, if_neg h.2]
theorem over_up {t : TT} {k i : Nat} {v : Int32} (h : (k != 9 && k != 40 && k != 0 && k != 7) = true) : up2 (over t) k i v = over (up2 t k i v) := by
  simp only [Bool.and_eq_true, bne_iff_ne] at h
  obtain ⟨⟨⟨h1, h2⟩, h3⟩, h4⟩ := h
  funext a b
  unfold over up2
  by_cases e : a = k ∧ b = i
  · obtain ⟨rfl, rfl⟩ := e
    simp [h1, h2, h3]
  · rw [if_neg e]
    simp only [if_neg e]
    have e7 : ¬ (7 = k ∧ b = i) := fun z => h4 z.1.symm
    have e9 : ¬ (9 = k ∧ b = i) := fun z => h1 z.1.symm
    rw [if_neg e7, if_neg e9]
theorem over_thr {t : TT} {v : Int32} : over (up2 t 0 0 v) = over t := by
  funext a b
  unfold over up2
  by_cases h0 : a = 0
  · subst h0
    simp
  · simp [h0]
end
section
/-! WHAT THE SMALL METHODS ANSWER: the reference's and the class's, by the same words of the table -/
theorem ov_1 {t : TT} {i : Nat} : over t 1 i = t 1 i := rfl
theorem ov_2 {t : TT} {i : Nat} : over t 2 i = t 2 i := rfl
theorem ov_3 {t : TT} {i : Nat} : over t 3 i = t 3 i := rfl
theorem ov_4 {t : TT} {i : Nat} : over t 4 i = t 4 i := rfl
theorem ov_5 {t : TT} {i : Nat} : over t 5 i = t 5 i := rfl
theorem ov_6 {t : TT} {i : Nat} : over t 6 i = t 6 i := rfl
theorem ov_7 {t : TT} {i : Nat} : over t 7 i = t 7 i := rfl
theorem ov_8 {t : TT} {i : Nat} : over t 8 i = t 8 i := rfl
theorem ov_10 {t : TT} {i : Nat} : over t 10 i = t 10 i := rfl
theorem ov_11 {t : TT} {i : Nat} : over t 11 i = t 11 i := rfl
theorem ov_12 {t : TT} {i : Nat} : over t 12 i = t 12 i := rfl
theorem ov_13 {t : TT} {i : Nat} : over t 13 i = t 13 i := rfl
theorem ov_14 {t : TT} {i : Nat} : over t 14 i = t 14 i := rfl
theorem ov_15 {t : TT} {i : Nat} : over t 15 i = t 15 i := rfl
theorem ov_16 {t : TT} {i : Nat} : over t 16 i = t 16 i := rfl
theorem ov_17 {t : TT} {i : Nat} : over t 17 i = t 17 i := rfl
theorem ov_18 {t : TT} {i : Nat} : over t 18 i = t 18 i := rfl
theorem ov_19 {t : TT} {i : Nat} : over t 19 i = t 19 i := rfl
theorem ov_20 {t : TT} {i : Nat} : over t 20 i = t 20 i := rfl
theorem ov_21 {t : TT} {i : Nat} : over t 21 i = t 21 i := rfl
theorem ov_22 {t : TT} {i : Nat} : over t 22 i = t 22 i := rfl
theorem ov_23 {t : TT} {i : Nat} : over t 23 i = t 23 i := rfl
theorem ov_24 {t : TT} {i : Nat} : over t 24 i = t 24 i := rfl
theorem ov_25 {t : TT} {i : Nat} : over t 25 i = t 25 i := rfl
theorem ov_26 {t : TT} {i : Nat} : over t 26 i = t 26 i := rfl
theorem ov_27 {t : TT} {i : Nat} : over t 27 i = t 27 i := rfl
theorem ov_28 {t : TT} {i : Nat} : over t 28 i = t 28 i := rfl
theorem ov_29 {t : TT} {i : Nat} : over t 29 i = t 29 i := rfl
theorem ov_30 {t : TT} {i : Nat} : over t 30 i = t 30 i := rfl
theorem ov_31 {t : TT} {i : Nat} : over t 31 i = t 31 i := rfl
theorem ov_32 {t : TT} {i : Nat} : over t 32 i = t 32 i := rfl
theorem ov_33 {t : TT} {i : Nat} : over t 33 i = t 33 i := rfl
theorem ov_34 {t : TT} {i : Nat} : over t 34 i = t 34 i := rfl
theorem ov_35 {t : TT} {i : Nat} : over t 35 i = t 35 i := rfl
theorem ov_36 {t : TT} {i : Nat} : over t 36 i = t 36 i := rfl
def b2i (b : Bool) : Int32 := if b = true then 1 else 0
theorem b2i_B (b : Bool) : isB (b2i b) := by
  cases b
  · exact isB_0
  · exact isB_1
theorem b2i_0 {b : Bool} : (b2i b = 0) = (b = false) := by cases b <;> simp [b2i]
def way (v : Int32) : Int32 := ((v * (v + 1)) / 2) + v
def inS (a b c : Int32) : Int32 := if a < b then 0 else if c < a then 0 else 1
def keepsS (t : TT) (i : Nat) (m : Int32) : Bool := if t 34 i = 0 then !decide (m < t 21 i + way (t 22 i)) else !decide (m < t 23 i)
def atStopS (t : TT) (i : Nat) : Bool := if t 26 i = -1 then false else decide (t 22 i = 0) && !decide (t 20 i < t 4 (t 26 i).toNatClampNeg - 1) && !decide (t 4 (t 26 i).toNatClampNeg + 1 < t 21 i)
section ML
variable {px : String → TT → Prop} {t : TT}
theorem pc_way {M : Nat → Nat → Bool} {post : Int32 → TT → Prop} {a : Int32} : P_X2_wayToStop M post px a t = post (way a) t := by
  unfold P_X2_wayToStop way
  simp
end ML
section CL
variable {px : String → TT → Prop} {t : TT} {np nb nz nt : Nat}
theorem ms0 {q : Prop} : (MS np nb nz nt 0 0 = true ∧ q) = q := by simp [MS]
theorem ms1 {q : Prop} : (MS np nb nz nt 1 0 = true ∧ q) = q := by simp [MS]
theorem ms2 {q : Prop} : (MS np nb nz nt 2 0 = true ∧ q) = q := by simp [MS]
theorem ms3 {q : Prop} : (MS np nb nz nt 3 0 = true ∧ q) = q := by simp [MS]
theorem ms4 {q : Prop} : (MS np nb nz nt 4 0 = true ∧ q) = q := by simp [MS]
theorem pc_askNumber {M : Nat → Nat → Bool} {post : TT → Prop} {a b : Int32} : P_X4_askNumber M post px a b t = if a < 0 then False else if a < b then post t else False := rfl
theorem pc_askRange {M : Nat → Nat → Bool} {post : TT → Prop} {a b c : Int32} : P_X4_askRange M post px a b c t = if a < b then False else if a ≤ c then post t else False := rfl
theorem pc_askThat {M : Nat → Nat → Bool} {post : TT → Prop} {a : Int32} : P_X4_askThat M post px a t = if a = 0 then False else post t := rfl
theorem pc_keeps {post : Int32 → TT → Prop} {i : Nat} {m : Int32} (hi : i < nt) : P_X2_keeps (MS np nb nz nt) post px i m (over t) = post (b2i (keepsS t i m)) (over t) := by
  simp only [B_X2_keeps_37, B_X2_keeps_26, P_X2_keeps, keepsS, ov_1, ov_2, ov_3, ov_4, ov_5, ov_6, ov_7, ov_8, ov_10, ov_11, ov_12, ov_13, ov_14, ov_15, ov_16, ov_17, ov_18, ov_19, ov_20, ov_21, ov_22, ov_23, ov_24, ov_25, ov_26, ov_27, ov_28, ov_29, ov_30, ov_31, ov_32, ov_33, ov_34, ov_35, ov_36, MS_8, hi, true_and, pc_way]
  by_cases h0 : t 34 i = 0
  · by_cases h : m < t 21 i + way (t 22 i) <;> simp [h0, h, b2i, isB_0, isB_1]
  · by_cases h : m < t 23 i <;> simp [h0, h, b2i, isB_0, isB_1]
theorem pc_hasOpenDoors {post : Int32 → TT → Prop} {i : Nat} (hi : i < nt) : P_X2_hasOpenDoors (MS np nb nz nt) post px i (over t) = post (b2i (!decide (t 27 i = -1))) (over t) := by
  simp only [B_X2_hasOpenDoors_13, P_X2_hasOpenDoors, ov_1, ov_2, ov_3, ov_4, ov_5, ov_6, ov_7, ov_8, ov_10, ov_11, ov_12, ov_13, ov_14, ov_15, ov_16, ov_17, ov_18, ov_19, ov_20, ov_21, ov_22, ov_23, ov_24, ov_25, ov_26, ov_27, ov_28, ov_29, ov_30, ov_31, ov_32, ov_33, ov_34, ov_35, ov_36, MS_8, hi, true_and]
  by_cases h : t 27 i = -1 <;> simp [h, b2i, isB_0, isB_1]
theorem pc_isAtStop {post : Int32 → TT → Prop} {i : Nat} (hi : i < nt) (hs : t 26 i = -1 ∨ ∃ p, p < np ∧ t 26 i = nI p) (hp6 : np ≤ 6) : P_X2_isAtStop (MS np nb nz nt) post px i (over t) = post (b2i (atStopS t i)) (over t) := by
  simp only [B_X2_isAtStop_51, B_X2_isAtStop_50, P_X2_isAtStop, atStopS, ov_1, ov_2, ov_3, ov_4, ov_5, ov_6, ov_7, ov_8, ov_10, ov_11, ov_12, ov_13, ov_14, ov_15, ov_16, ov_17, ov_18, ov_19, ov_20, ov_21, ov_22, ov_23, ov_24, ov_25, ov_26, ov_27, ov_28, ov_29, ov_30, ov_31, ov_32, ov_33, ov_34, ov_35, ov_36, MS_8, MS_5, hi, true_and]
  rcases hs with h | ⟨p, hp, h⟩
  · simp only [h, if_true, isB_0, true_and]
    rfl
  · have hn := nI_m1 (n := p) (by omega)
    have hcp := cl0 (n := p) (by omega)
    simp only [h, hn, hp, hcp, if_false, true_and, not_false_eq_true]
    by_cases h1 : t 22 i = 0
    · by_cases h2 : t 20 i < t 4 p - 1
      · simp [h1, h2, b2i, isB_0]
      · by_cases h3 : t 4 p + 1 < t 21 i <;> simp [h1, h2, h3, b2i, isB_0, isB_1]
    · simp [h1, b2i, isB_0]
theorem pc_mayCover {post : Int32 → TT → Prop} {i : Nat} {a b : Int32} (hi : i < nt) : P_X2_mayCover (MS np nb nz nt) post px i a b (over t) = post (b2i (!decide (b < t 20 i - 100) && !decide (t 21 i < a))) (over t) := by
  simp only [B_X2_mayCover_24, B_X2_mayCover_23, P_X2_mayCover, ov_1, ov_2, ov_3, ov_4, ov_5, ov_6, ov_7, ov_8, ov_10, ov_11, ov_12, ov_13, ov_14, ov_15, ov_16, ov_17, ov_18, ov_19, ov_20, ov_21, ov_22, ov_23, ov_24, ov_25, ov_26, ov_27, ov_28, ov_29, ov_30, ov_31, ov_32, ov_33, ov_34, ov_35, ov_36, MS_8, hi, true_and]
  by_cases h : b < t 20 i - 100
  · simp [h, b2i, isB_0]
  · by_cases h2 : t 21 i < a <;> simp [h, h2, b2i, isB_0, isB_1]
theorem pc_isInItsBounds {post : Int32 → TT → Prop} {i : Nat} (hi : i < nt) : P_X2_isInItsBounds (MS np nb nz nt) post px i (over t) = post (b2i (!decide (t 19 i < t 20 i) && !decide (t 21 i < t 19 i) && !decide (t 23 i < t 21 i))) (over t) := by
  simp only [B_X2_isInItsBounds_38, B_X2_isInItsBounds_37, P_X2_isInItsBounds, ov_1, ov_2, ov_3, ov_4, ov_5, ov_6, ov_7, ov_8, ov_10, ov_11, ov_12, ov_13, ov_14, ov_15, ov_16, ov_17, ov_18, ov_19, ov_20, ov_21, ov_22, ov_23, ov_24, ov_25, ov_26, ov_27, ov_28, ov_29, ov_30, ov_31, ov_32, ov_33, ov_34, ov_35, ov_36, MS_8, hi, true_and]
  by_cases h : t 19 i < t 20 i
  · simp [h, b2i, isB_0]
  · by_cases h2 : t 21 i < t 19 i
    · simp [h2, b2i, isB_0]
    · by_cases h3 : t 23 i < t 21 i <;> simp [h, h2, h3, b2i, isB_0, isB_1]
theorem pc_canDepart {post : Int32 → TT → Prop} {i : Nat} (hi : i < nt) (hs : t 26 i = -1 ∨ ∃ p, p < np ∧ t 26 i = nI p) (hp6 : np ≤ 6) : P_X2_canDepart (MS np nb nz nt) post px i (over t) = post (b2i (atStopS t i && decide (t 27 i = -1) && decide (t 29 i = 0))) (over t) := by
  simp only [B_X2_canDepart_26, B_X2_canDepart_25, P_X2_canDepart, ov_1, ov_2, ov_3, ov_4, ov_5, ov_6, ov_7, ov_8, ov_10, ov_11, ov_12, ov_13, ov_14, ov_15, ov_16, ov_17, ov_18, ov_19, ov_20, ov_21, ov_22, ov_23, ov_24, ov_25, ov_26, ov_27, ov_28, ov_29, ov_30, ov_31, ov_32, ov_33, ov_34, ov_35, ov_36, MS_8, hi, true_and, pc_isAtStop hi hs hp6, pc_hasOpenDoors hi, b2i_0]
  by_cases h : atStopS t i = false
  · simp [h, b2i, isB_0]
  · by_cases h2 : t 27 i = -1
    · by_cases h3 : t 29 i = 0
      · simp at h; simp [h, h2, h3, b2i, isB_1]
      · simp [h, h2, h3, b2i, isB_0]
    · simp [h, h2, b2i, isB_0]
end CL
end
section
/-! the one ahead, what a train is given, the dealing out of LIMITS -/
def Cnt (t : TT) (np nb nz nt : Nat) : Prop := t 3 0 = nI np ∧ np ≤ 6 ∧ t 11 0 = nI nb ∧ nb ≤ 12 ∧ t 14 0 = nI nz ∧ nz ≤ 4 ∧ t 18 0 = nI nt ∧ nt ≤ 5
def nextR (t : TT) (i : Nat) : Nat → Int32
  | 0 => -1
  | k + 1 => if t 19 k ≤ t 19 i then nextR t i k else if nextR t i k = -1 then nI k else if t 19 (nextR t i k).toNatClampNeg ≤ t 19 k then nextR t i k else nI k
theorem nextR_rng {t : TT} {i : Nat} : ∀ k, nextR t i k = -1 ∨ ∃ j, j < k ∧ nextR t i k = nI j
  | 0 => Or.inl rfl
  | k + 1 => by
    have ih := nextR_rng (t := t) (i := i) k
    have up : nextR t i k = -1 ∨ ∃ j, j < k + 1 ∧ nextR t i k = nI j := ih.imp id (fun ⟨j, h1, h2⟩ => ⟨j, by omega, h2⟩)
    unfold nextR
    split
    · exact up
    · split
      · exact Or.inr ⟨k, by omega, rfl⟩
      · split
        · exact up
        · exact Or.inr ⟨k, by omega, rfl⟩
theorem mmin_le {a b : Int32} : mmin a b = if a ≤ b then a else b := by
  unfold mmin
  by_cases h : b < a
  · rw [if_pos h, if_neg (fun z => by rw [i_lt] at h; rw [i_le] at z; omega)]
  · rw [if_neg h, if_pos (by rw [i_lt] at h; rw [i_le]; omega)]
theorem mmin_ge {a b : Int32} : mmin a b = if b ≤ a then b else a := by
  unfold mmin
  by_cases h : b < a
  · rw [if_pos h, if_pos (by rw [i_lt] at h; rw [i_le]; omega)]
  · by_cases e : b ≤ a
    · rw [if_neg h, if_pos e]
      rw [i_eq]
      rw [i_lt] at h
      rw [i_le] at e
      omega
    · rw [if_neg h, if_neg e]
def giv0 (t : TT) (r : Int32) : Int32 := if r = -1 then 5000 else mmin 5000 (t 24 r.toNatClampNeg - 120)
def givR (t : TT) (i : Nat) (l0 : Int32) : Nat → Int32
  | 0 => l0
  | z + 1 => if t 17 z = 0 then givR t i l0 z else if t 15 z < t 21 i then givR t i l0 z else mmin (givR t i l0 z) (t 15 z)
def givS (t : TT) (nt nz i : Nat) : Int32 := givR t i (giv0 t (nextR t i nt)) nz
def dealR (t : TT) (nt nz : Nat) : Nat → TT
  | 0 => t
  | k + 1 => if dealR t nt nz k 34 k = 0 then up2 (dealR t nt nz k) 23 k (givS (dealR t nt nz k) nt nz k) else dealR t nt nz k
theorem dealR_ne {t : TT} {nt nz : Nat} {k i : Nat} (h : k ≠ 23) : ∀ j, dealR t nt nz j k i = t k i
  | 0 => rfl
  | j + 1 => by
    unfold dealR
    split
    · rw [up2_ne (fun z => h z.1), dealR_ne h j]
    · exact dealR_ne h j
theorem nle_self {n : Nat} : nI n ≤ nI n := Int32.le_refl _
section DL
variable {px : String → TT → Prop} {t : TT} {np nb nz nt : Nat}
theorem pc_oneAheadOf {post : Int32 → TT → Prop} {i : Nat} (hi : i < nt) (hc : Cnt t np nb nz nt) (h : post (nextR t i nt) (over t)) : P_X4_oneAheadOf (MS np nb nz nt) post px 0 i (over t) := by
  obtain ⟨-, -, -, -, -, -, ht, h5⟩ := hc
  have L : ∀ m k, k + m = nt → ∃ n, L_X4_oneAheadOf_4 (MS np nb nz nt) post px n 0 i (nextR t i k) (nI k) (over t) := by
    intro m
    induction m with
    | zero =>
      intro k hk
      have : k = nt := by omega
      subst this
      refine ⟨1, ?_⟩
      simp only [L_X4_oneAheadOf_4, ms0, ov_1, ov_2, ov_3, ov_4, ov_5, ov_6, ov_7, ov_8, ov_10, ov_11, ov_12, ov_13, ov_14, ov_15, ov_16, ov_17, ov_18, ov_19, ov_20, ov_21, ov_22, ov_23, ov_24, ov_25, ov_26, ov_27, ov_28, ov_29, ov_30, ov_31, ov_32, ov_33, ov_34, ov_35, ov_36, ht, nle_self, if_true]
      exact h
    | succ m ih =>
      intro k hk
      obtain ⟨n, hn⟩ := ih (k + 1) (by omega)
      refine ⟨n + 1, ?_⟩
      have hvk := vp0 (n := k) (N := 5) (by omega) (by omega)
      have hck := cl0 (n := k) (by omega)
      have hkt : k < nt := by omega
      have hk9 : k < 1000 := by omega
      have hlt : ¬ nI nt ≤ nI k := nI_ge (by omega) (by omega)
      simp only [L_X4_oneAheadOf_4, B_X4_oneAheadOf_51, B_X4_oneAheadOf_48, ms0, MS_4, MS_8, ov_1, ov_2, ov_3, ov_4, ov_5, ov_6, ov_7, ov_8, ov_10, ov_11, ov_12, ov_13, ov_14, ov_15, ov_16, ov_17, ov_18, ov_19, ov_20, ov_21, ov_22, ov_23, ov_24, ov_25, ov_26, ov_27, ov_28, ov_29, ov_30, ov_31, ov_32, ov_33, ov_34, ov_35, ov_36, ht, hlt, hvk, hck, hkt, hk9, hi, if_false, true_and, nI_1]
      by_cases h1 : t 19 k ≤ t 19 i
      · simp only [nextR, h1, if_true] at hn ⊢
        exact hn
      · by_cases h2 : nextR t i k = -1
        · simp only [nextR, h1, h2, if_true, if_false] at hn ⊢
          exact hn
        · obtain ⟨j, hj, ej⟩ := (nextR_rng k).resolve_left h2
          have hjt : j < nt := by omega
          have hcj := cl0 (n := j) (by omega)
          by_cases h3 : t 19 j ≤ t 19 k
          · rw [ej] at h2
            simp only [nextR, ej, hcj, hjt, h1, h2, h3, if_true, if_false, true_and, not_false_eq_true] at hn ⊢
            exact hn
          · rw [ej] at h2
            simp only [nextR, ej, hcj, hjt, h1, h2, h3, if_true, if_false, true_and, not_false_eq_true] at hn ⊢
            exact hn
  exact L nt 0 (by omega)
theorem pc_limitFor {post : Int32 → TT → Prop} {i : Nat} (hi : i < nt) (hc : Cnt t np nb nz nt) (h : post (givS t nt nz i) (over t)) : P_X4_limitFor (MS np nb nz nt) post px 0 i (over t) := by
  have hc0 := hc
  obtain ⟨-, -, -, -, hz, h4, ht, h5⟩ := hc
  have L : ∀ m z, z + m = nz → ∃ n, L_X4_limitFor_29 (MS np nb nz nt) post px n 0 i (givR t i (giv0 t (nextR t i nt)) z) (nI z) (over t) := by
    intro m
    induction m with
    | zero =>
      intro z hk
      have : z = nz := by omega
      subst this
      refine ⟨1, ?_⟩
      simp only [L_X4_limitFor_29, ms0, ov_1, ov_2, ov_3, ov_4, ov_5, ov_6, ov_7, ov_8, ov_10, ov_11, ov_12, ov_13, ov_14, ov_15, ov_16, ov_17, ov_18, ov_19, ov_20, ov_21, ov_22, ov_23, ov_24, ov_25, ov_26, ov_27, ov_28, ov_29, ov_30, ov_31, ov_32, ov_33, ov_34, ov_35, ov_36, hz, nle_self, if_true]
      exact h
    | succ m ih =>
      intro z hk
      obtain ⟨n, hn⟩ := ih (z + 1) (by omega)
      refine ⟨n + 1, ?_⟩
      have hvk := vp0 (n := z) (N := 4) (by omega) (by omega)
      have hck := cl0 (n := z) (by omega)
      have hzt : z < nz := by omega
      have hlt : ¬ nI nz ≤ nI z := nI_ge (by omega) (by omega)
      simp only [L_X4_limitFor_29, B_X4_limitFor_77, ms0, MS_3, MS_7, MS_8, ov_1, ov_2, ov_3, ov_4, ov_5, ov_6, ov_7, ov_8, ov_10, ov_11, ov_12, ov_13, ov_14, ov_15, ov_16, ov_17, ov_18, ov_19, ov_20, ov_21, ov_22, ov_23, ov_24, ov_25, ov_26, ov_27, ov_28, ov_29, ov_30, ov_31, ov_32, ov_33, ov_34, ov_35, ov_36, hz, hlt, hvk, hck, hzt, hi, if_false, true_and, nI_1]
      by_cases h1 : t 17 z = 0
      · simp only [givR, h1, if_true] at hn ⊢
        exact hn
      · by_cases h2 : t 15 z < t 21 i
        · simp only [givR, h1, h2, if_true, if_false] at hn ⊢
          exact hn
        · simp only [givR, h1, h2, if_true, if_false] at hn ⊢
          exact hn
  simp only [P_X4_limitFor, ms0]
  refine pc_oneAheadOf hi hc0 ?_
  obtain ⟨n, hn⟩ := L nz 0 (by omega)
  rcases nextR_rng (t := t) (i := i) nt with e | ⟨j, hj, ej⟩
  · rw [e] at hn ⊢
    simp only [giv0, givR, if_true, B_X4_limitFor_26] at hn ⊢
    exact ⟨n, hn⟩
  · have hn1 := nI_m1 (n := j) (by omega)
    have hjt : j < nt := hj
    have hcj := cl0 (n := j) (by omega)
    rw [ej] at hn ⊢
    simp only [giv0, givR, hn1, hcj, hjt, MS_8, ov_1, ov_2, ov_3, ov_4, ov_5, ov_6, ov_7, ov_8, ov_10, ov_11, ov_12, ov_13, ov_14, ov_15, ov_16, ov_17, ov_18, ov_19, ov_20, ov_21, ov_22, ov_23, ov_24, ov_25, ov_26, ov_27, ov_28, ov_29, ov_30, ov_31, ov_32, ov_33, ov_34, ov_35, ov_36, if_false, true_and, not_false_eq_true, B_X4_limitFor_26] at hn ⊢
    exact ⟨n, hn⟩
theorem Cnt.deal {j : Nat} (hc : Cnt t np nb nz nt) : Cnt (dealR t nt nz j) np nb nz nt := by
  unfold Cnt
  rw [dealR_ne (by decide), dealR_ne (by decide), dealR_ne (by decide), dealR_ne (by decide)]
  exact hc
theorem pc_dealLimits {post : TT → Prop} (hc : Cnt t np nb nz nt) (h : post (over (dealR t nt nz nt))) : P_X4_dealLimits (MS np nb nz nt) post px 0 (over t) := by
  have h5 := hc.2.2.2.2.2.2.2
  have L : ∀ m k, k + m = nt → ∃ n, L_X4_dealLimits_2 (MS np nb nz nt) post px n 0 (nI k) (over (dealR t nt nz k)) := by
    intro m
    induction m with
    | zero =>
      intro k hk
      have : k = nt := by omega
      subst this
      refine ⟨1, ?_⟩
      simp only [L_X4_dealLimits_2, ms0, ov_1, ov_2, ov_3, ov_4, ov_5, ov_6, ov_7, ov_8, ov_10, ov_11, ov_12, ov_13, ov_14, ov_15, ov_16, ov_17, ov_18, ov_19, ov_20, ov_21, ov_22, ov_23, ov_24, ov_25, ov_26, ov_27, ov_28, ov_29, ov_30, ov_31, ov_32, ov_33, ov_34, ov_35, ov_36, hc.deal.2.2.2.2.2.2.1, nle_self, if_true]
      exact h
    | succ m ih =>
      intro k hk
      obtain ⟨n, hn⟩ := ih (k + 1) (by omega)
      refine ⟨n + 1, ?_⟩
      have hvk := vp0 (n := k) (N := 5) (by omega) (by omega)
      have hck := cl0 (n := k) (by omega)
      have hkt : k < nt := by omega
      have hlt : ¬ nI nt ≤ nI k := nI_ge (by omega) (by omega)
      simp only [L_X4_dealLimits_2, B_X4_dealLimits_33, ms0, MS_4, MS_8, ov_1, ov_2, ov_3, ov_4, ov_5, ov_6, ov_7, ov_8, ov_10, ov_11, ov_12, ov_13, ov_14, ov_15, ov_16, ov_17, ov_18, ov_19, ov_20, ov_21, ov_22, ov_23, ov_24, ov_25, ov_26, ov_27, ov_28, ov_29, ov_30, ov_31, ov_32, ov_33, ov_34, ov_35, ov_36, hc.deal.2.2.2.2.2.2.1, hlt, hvk, hck, hkt, if_false, true_and, nI_1]
      by_cases h1 : dealR t nt nz k 34 k = 0
      · simp only [dealR, h1, if_true] at hn ⊢
        refine pc_limitFor hkt hc.deal ?_
        rw [over_up (by decide)]
        exact hn
      · simp only [dealR, h1, if_false] at hn ⊢
        exact hn
  exact L nt 0 (by omega)
end DL
end
section
/-! whether a ZONE can be closed, whether a train can be put in -/
theorem i10 : ((1 : Int32) = 0) = False := eq_false (by decide +kernel)
def allB (f : Nat → Bool) : Nat → Bool
  | 0 => true
  | k + 1 => allB f k && f k
theorem allB_f {f : Nat → Bool} {k : Nat} (h : f k = false) : ∀ n, k < n → allB f n = false
  | 0, hn => by omega
  | n + 1, hn => by
    unfold allB
    by_cases e : k = n
    · subst e
      rw [h, Bool.and_false]
    · rw [allB_f h n (by omega), Bool.false_and]
def okC (t : TT) (z k : Nat) : Bool := !(!decide (t 16 z < t 20 k - 100) && !decide (t 21 k < t 15 z)) && (decide (t 15 z ≤ t 21 k) || keepsS t k (t 15 z))
def okT (t : TT) (m : Int32) (k : Nat) : Bool := if m ≤ t 19 k then !decide (t 24 k - 120 < m) else keepsS t k (m - 120)
def okZ (t : TT) (m : Int32) (z : Nat) : Bool := if t 17 z = 0 then true else if m < t 15 z then true else decide (t 16 z < m - 100)
theorem i_nle {a b : Int32} : (a ≤ b) = ¬ b < a := by
  rw [i_le, i_lt]
  exact propext ⟨fun h => by omega, fun h => by omega⟩
section AL
variable {px : String → TT → Prop} {t : TT} {np nb nz nt : Nat}
theorem pc_canBeClosed {post : Int32 → TT → Prop} {z : Nat} (hz : z < nz) (hc : Cnt t np nb nz nt) (h : post (b2i (allB (okC t z) nt)) (over t)) : P_X4_canBeClosed (MS np nb nz nt) post px 0 z (over t) := by
  obtain ⟨-, -, -, -, -, h4, ht, h5⟩ := hc
  have L : ∀ m k, k + m = nt → allB (okC t z) k = true → ∃ n, L_X4_canBeClosed_2 (MS np nb nz nt) post px n 0 z (nI k) (over t) := by
    intro m
    induction m with
    | zero =>
      intro k hk hb
      have : k = nt := by omega
      subst this
      refine ⟨1, ?_⟩
      simp only [L_X4_canBeClosed_2, ms0, ov_1, ov_2, ov_3, ov_4, ov_5, ov_6, ov_7, ov_8, ov_10, ov_11, ov_12, ov_13, ov_14, ov_15, ov_16, ov_17, ov_18, ov_19, ov_20, ov_21, ov_22, ov_23, ov_24, ov_25, ov_26, ov_27, ov_28, ov_29, ov_30, ov_31, ov_32, ov_33, ov_34, ov_35, ov_36, ht, nle_self, if_true, isB_1, true_and]
      rw [hb] at h
      exact h
    | succ m ih =>
      intro k hk hb
      have hvk := vp0 (n := k) (N := 5) (by omega) (by omega)
      have hck := cl0 (n := k) (by omega)
      have hkt : k < nt := by omega
      have hlt : ¬ nI nt ≤ nI k := nI_ge (by omega) (by omega)
      have hz0 : okC t z k = false → post 0 (over t) := fun q => by rw [allB_f q nt hkt] at h; exact h
      cases ho : okC t z k with
      | false =>
        refine ⟨1, ?_⟩
        have h0 := hz0 ho
        simp only [L_X4_canBeClosed_2, B_X4_canBeClosed_58, ms0, MS_4, MS_7, MS_8, ov_1, ov_2, ov_3, ov_4, ov_5, ov_6, ov_7, ov_8, ov_10, ov_11, ov_12, ov_13, ov_14, ov_15, ov_16, ov_17, ov_18, ov_19, ov_20, ov_21, ov_22, ov_23, ov_24, ov_25, ov_26, ov_27, ov_28, ov_29, ov_30, ov_31, ov_32, ov_33, ov_34, ov_35, ov_36, ht, hlt, hvk, hck, hkt, hz, if_false, true_and, pc_mayCover hkt, pc_keeps hkt, b2i_0]
        simp only [okC] at ho
        cases h1 : (!decide (t 16 z < t 20 k - 100) && !decide (t 21 k < t 15 z)) with
        | true => simp [isB_0, h0]
        | false =>
          rw [h1] at ho
          simp at ho
          simp [ho.1, ho.2, isB_0, h0]
      | true =>
        obtain ⟨n, hn⟩ := ih (k + 1) (by omega) (by unfold allB; rw [hb, ho]; rfl)
        refine ⟨n + 1, ?_⟩
        simp only [L_X4_canBeClosed_2, B_X4_canBeClosed_58, ms0, MS_4, MS_7, MS_8, ov_1, ov_2, ov_3, ov_4, ov_5, ov_6, ov_7, ov_8, ov_10, ov_11, ov_12, ov_13, ov_14, ov_15, ov_16, ov_17, ov_18, ov_19, ov_20, ov_21, ov_22, ov_23, ov_24, ov_25, ov_26, ov_27, ov_28, ov_29, ov_30, ov_31, ov_32, ov_33, ov_34, ov_35, ov_36, ht, hlt, hvk, hck, hkt, hz, if_false, true_and, pc_mayCover hkt, pc_keeps hkt, b2i_0, nI_1]
        simp only [okC] at ho
        cases h1 : (!decide (t 16 z < t 20 k - 100) && !decide (t 21 k < t 15 z)) with
        | true => rw [h1] at ho; simp at ho
        | false =>
          rw [h1] at ho
          simp at ho
          rcases ho with ho | ho
          · simp [ho, hn]
          · simp [ho, hn]
  exact L nt 0 (by omega) rfl
theorem pc_canBePutIn {post : Int32 → TT → Prop} {m : Int32} (hc : Cnt t np nb nz nt) (h : post (b2i (allB (okT t m) nt && allB (okZ t m) nz)) (over t)) : P_X4_canBePutIn (MS np nb nz nt) post px 0 m (over t) := by
  obtain ⟨-, -, -, -, hz, h4, ht, h5⟩ := hc
  have LZ : allB (okT t m) nt = true → ∀ q z, z + q = nz → allB (okZ t m) z = true → ∃ n, L_X4_canBePutIn_69 (MS np nb nz nt) post px n 0 m (nI z) (over t) := by
    intro hT q
    rw [hT, Bool.true_and] at h
    induction q with
    | zero =>
      intro z hk hb
      have : z = nz := by omega
      subst this
      refine ⟨1, ?_⟩
      simp only [L_X4_canBePutIn_69, ms0, ov_1, ov_2, ov_3, ov_4, ov_5, ov_6, ov_7, ov_8, ov_10, ov_11, ov_12, ov_13, ov_14, ov_15, ov_16, ov_17, ov_18, ov_19, ov_20, ov_21, ov_22, ov_23, ov_24, ov_25, ov_26, ov_27, ov_28, ov_29, ov_30, ov_31, ov_32, ov_33, ov_34, ov_35, ov_36, hz, nle_self, if_true, isB_1, true_and]
      rw [hb] at h
      exact h
    | succ q ih =>
      intro z hk hb
      have hvk := vp0 (n := z) (N := 4) (by omega) (by omega)
      have hck := cl0 (n := z) (by omega)
      have hzt : z < nz := by omega
      have hlt : ¬ nI nz ≤ nI z := nI_ge (by omega) (by omega)
      cases ho : okZ t m z with
      | false =>
        refine ⟨1, ?_⟩
        have h0 : post 0 (over t) := by rw [allB_f ho nz hzt] at h; exact h
        simp only [L_X4_canBePutIn_69, B_X4_canBePutIn_112, ms0, MS_3, MS_7, ov_1, ov_2, ov_3, ov_4, ov_5, ov_6, ov_7, ov_8, ov_10, ov_11, ov_12, ov_13, ov_14, ov_15, ov_16, ov_17, ov_18, ov_19, ov_20, ov_21, ov_22, ov_23, ov_24, ov_25, ov_26, ov_27, ov_28, ov_29, ov_30, ov_31, ov_32, ov_33, ov_34, ov_35, ov_36, hz, hlt, hvk, hck, hzt, if_false, true_and]
        simp only [okZ] at ho
        by_cases h1 : t 17 z = 0
        · simp [h1] at ho
        · by_cases h2 : m < t 15 z
          · simp [h1, h2] at ho
          · simp only [h1, h2, if_false, decide_eq_false_iff_not] at ho
            simp [h1, h2, ho, isB_0, h0]
      | true =>
        obtain ⟨n, hn⟩ := ih (z + 1) (by omega) (by unfold allB; rw [hb, ho]; rfl)
        refine ⟨n + 1, ?_⟩
        simp only [L_X4_canBePutIn_69, B_X4_canBePutIn_112, ms0, MS_3, MS_7, ov_1, ov_2, ov_3, ov_4, ov_5, ov_6, ov_7, ov_8, ov_10, ov_11, ov_12, ov_13, ov_14, ov_15, ov_16, ov_17, ov_18, ov_19, ov_20, ov_21, ov_22, ov_23, ov_24, ov_25, ov_26, ov_27, ov_28, ov_29, ov_30, ov_31, ov_32, ov_33, ov_34, ov_35, ov_36, hz, hlt, hvk, hck, hzt, if_false, true_and, nI_1]
        simp only [okZ] at ho
        by_cases h1 : t 17 z = 0
        · simp [h1, hn]
        · by_cases h2 : m < t 15 z
          · simp [h1, h2, hn]
          · simp only [h1, h2, if_false, decide_eq_true_eq] at ho
            simp [h1, h2, ho, hn]
  have L : ∀ q k, k + q = nt → allB (okT t m) k = true → ∃ n, L_X4_canBePutIn_2 (MS np nb nz nt) post px n 0 m (nI k) (over t) := by
    intro q
    induction q with
    | zero =>
      intro k hk hb
      have : k = nt := by omega
      subst this
      refine ⟨1, ?_⟩
      simp only [L_X4_canBePutIn_2, ms0, ov_1, ov_2, ov_3, ov_4, ov_5, ov_6, ov_7, ov_8, ov_10, ov_11, ov_12, ov_13, ov_14, ov_15, ov_16, ov_17, ov_18, ov_19, ov_20, ov_21, ov_22, ov_23, ov_24, ov_25, ov_26, ov_27, ov_28, ov_29, ov_30, ov_31, ov_32, ov_33, ov_34, ov_35, ov_36, ht, nle_self, if_true]
      exact LZ hb nz 0 (by omega) rfl
    | succ q ih =>
      intro k hk hb
      have hvk := vp0 (n := k) (N := 5) (by omega) (by omega)
      have hck := cl0 (n := k) (by omega)
      have hkt : k < nt := by omega
      have hlt : ¬ nI nt ≤ nI k := nI_ge (by omega) (by omega)
      cases ho : okT t m k with
      | false =>
        refine ⟨1, ?_⟩
        have h0 : post 0 (over t) := by rw [allB_f ho nt hkt, Bool.false_and] at h; exact h
        simp only [L_X4_canBePutIn_2, B_X4_canBePutIn_52, ms0, MS_4, MS_8, ov_1, ov_2, ov_3, ov_4, ov_5, ov_6, ov_7, ov_8, ov_10, ov_11, ov_12, ov_13, ov_14, ov_15, ov_16, ov_17, ov_18, ov_19, ov_20, ov_21, ov_22, ov_23, ov_24, ov_25, ov_26, ov_27, ov_28, ov_29, ov_30, ov_31, ov_32, ov_33, ov_34, ov_35, ov_36, ht, hlt, hvk, hck, hkt, if_false, true_and, pc_keeps hkt, b2i_0]
        simp only [okT] at ho
        by_cases h1 : m ≤ t 19 k
        · simp [h1] at ho
          simp [h1, ho, isB_0, h0]
        · simp [h1] at ho
          simp [h1, ho, isB_0, h0]
      | true =>
        obtain ⟨n, hn⟩ := ih (k + 1) (by omega) (by unfold allB; rw [hb, ho]; rfl)
        refine ⟨n + 1, ?_⟩
        simp only [L_X4_canBePutIn_2, B_X4_canBePutIn_52, ms0, MS_4, MS_8, ov_1, ov_2, ov_3, ov_4, ov_5, ov_6, ov_7, ov_8, ov_10, ov_11, ov_12, ov_13, ov_14, ov_15, ov_16, ov_17, ov_18, ov_19, ov_20, ov_21, ov_22, ov_23, ov_24, ov_25, ov_26, ov_27, ov_28, ov_29, ov_30, ov_31, ov_32, ov_33, ov_34, ov_35, ov_36, ht, hlt, hvk, hck, hkt, if_false, true_and, pc_keeps hkt, b2i_0, nI_1]
        simp only [okT] at ho
        by_cases h1 : m ≤ t 19 k
        · simp only [h1, if_true, Bool.not_eq_true', decide_eq_false_iff_not] at ho
          simp [h1, ho, hn]
        · simp only [h1, if_false] at ho
          simp [h1, ho, hn]
  exact L nt 0 (by omega) rfl
end AL
end
section
/-! the invariant; a train's new speed -/
def TrI (t : TT) (np tk i : Nat) : Prop := (∃ s, s ≤ 20 ∧ t 22 i = nI s) ∧ (t 25 i = -1 ∨ t 25 i = 0 ∨ t 25 i = 1) ∧ (t 26 i = -1 ∨ ∃ p, p < np ∧ t 26 i = nI p) ∧ (t 27 i = -1 ∨ ∃ d, d ≤ 15 ∧ t 27 i = nI d) ∧ (t 27 i ≠ -1 → t 26 i ≠ -1) ∧ (∃ k, k ≤ 120 ∧ t 28 i = nI k) ∧ (∃ k, k ≤ 99 ∧ t 29 i = nI k) ∧ isB (t 33 i) ∧ isB (t 34 i) ∧ (t 33 i ≠ 0 → t 22 i ≠ 0) ∧ (∃ k, k ≤ tk ∧ t 32 i = nI k)
def PlI (t : TT) (n p : Nat) : Prop := (∃ d, d ≤ n ∧ t 7 p = nI d) ∧ (∃ w, w ≤ 999 ∧ t 6 p = nI w) ∧ (∃ r, r ≤ 9 ∧ t 5 p = nI r)
def Zr (t : TT) (np nb nz nt : Nat) : Prop := (∀ k i, nt ≤ i → 19 ≤ k → k ≤ 34 → t k i = 0) ∧ (∀ j, 1000 * nt ≤ j → t 35 j = 0 ∧ t 36 j = 0) ∧ (∀ k i, np ≤ i → 4 ≤ k → k ≤ 10 → t k i = 0) ∧ (∀ i, nb ≤ i → t 12 i = 0 ∧ t 13 i = 0) ∧ (∀ i, nz ≤ i → t 15 i = 0 ∧ t 16 i = 0 ∧ t 17 i = 0)
def Inv (n np nb nz nt tk : Nat) (t : TT) : Prop := Cnt t np nb nz nt ∧ (t 1 0 = nI tk ∧ tk ≤ 999) ∧ (∃ q, 1 ≤ q ∧ q ≤ 20 ∧ t 2 0 = nI q) ∧ (∀ i, i < nt → TrI t np tk i) ∧ (∀ p, p < np → PlI t n p) ∧ (∀ b, b < nb → isB (t 13 b)) ∧ (∀ z, z < nz → isB (t 17 z)) ∧ Zr t np nb nz nt
theorem TrI.congr {t t' : TT} {np tk i : Nat} (h : ∀ k, t' k i = t k i) (H : TrI t np tk i) : TrI t' np tk i := by
  unfold TrI
  simp only [h]
  exact H
/-- a number of a train that is there is told anew -/
theorem Inv.train {n np nb nz nt tk k i : Nat} {t : TT} {v : Int32} (h : Inv n np nb nz nt tk t) (hk : 19 ≤ k ∧ k ≤ 34) (hi : i < nt) (ht : TrI (up2 t k i v) np tk i) : Inv n np nb nz nt tk (up2 t k i v) := by
  obtain ⟨hc, htk, hq, hT, hP, hb, hz, z1, z2, z3, z4, z5⟩ := h
  have e : ∀ k' i', k' < 19 ∨ 34 < k' → up2 t k i v k' i' = t k' i' := fun k' i' q => up2_ne fun z => by omega
  refine ⟨?_, ?_, ?_, fun j hj => ?_, fun p hp => ?_, fun b hb9 => ?_, fun z hz9 => ?_, fun k' j hj h1 h2 => ?_, fun j hj => ?_, fun k' j hj h1 h2 => ?_, fun j hj => ?_, fun j hj => ?_⟩
  · unfold Cnt
    rw [e _ _ (by omega), e _ _ (by omega), e _ _ (by omega), e _ _ (by omega)]
    exact hc
  · rw [e _ _ (by omega)]; exact htk
  · rw [e _ _ (by omega)]; exact hq
  · by_cases q : j = i
    · subst q; exact ht
    · exact TrI.congr (fun k' => up2_ne fun z => q z.2) (hT j hj)
  · unfold PlI
    rw [e _ _ (by omega), e _ _ (by omega), e _ _ (by omega)]
    exact hP p hp
  · rw [e _ _ (by omega)]; exact hb b hb9
  · rw [e _ _ (by omega)]; exact hz z hz9
  · rw [up2_ne fun z => by omega]; exact z1 k' j hj h1 h2
  · rw [e _ _ (by omega), e _ _ (by omega)]; exact z2 j hj
  · rw [e _ _ (by omega)]; exact z3 k' j hj h1 h2
  · rw [e _ _ (by omega), e _ _ (by omega)]; exact z4 j hj
  · rw [e _ _ (by omega), e _ _ (by omega), e _ _ (by omega)]; exact z5 j hj
/-- one of a train's numbers of which nothing is asked: where it is, its LIMIT, its REPORT .. -/
theorem Inv.free {n np nb nz nt tk k i : Nat} {t : TT} {v : Int32} (h : Inv n np nb nz nt tk t) (hk : k = 19 ∨ k = 20 ∨ k = 21 ∨ k = 23 ∨ k = 24 ∨ k = 30 ∨ k = 31) (hi : i < nt) : Inv n np nb nz nt tk (up2 t k i v) := by
  refine h.train (by omega) hi ?_
  have H := h.2.2.2.1 i hi
  unfold TrI at H ⊢
  rw [up2_ne (fun z => by omega), up2_ne (fun z => by omega), up2_ne (fun z => by omega), up2_ne (fun z => by omega), up2_ne (fun z => by omega), up2_ne (fun z => by omega), up2_ne (fun z => by omega), up2_ne (fun z => by omega), up2_ne (fun z => by omega)]
  exact H
theorem Inv.deal9 {n np nb nz nt tk : Nat} {t : TT} (h : Inv n np nb nz nt tk t) : ∀ j, j ≤ nt → Inv n np nb nz nt tk (dealR t nt nz j)
  | 0, _ => h
  | j + 1, hj => by
    unfold dealR
    split
    · exact (Inv.deal9 h j (by omega)).free (by omega) (by omega)
    · exact Inv.deal9 h j (by omega)
theorem mmax_le {a b : Int32} : mmax a b = if a ≤ b then b else a := by
  unfold mmax
  by_cases h : a < b
  · rw [if_pos h, if_pos (by rw [i_lt] at h; rw [i_le]; omega)]
  · by_cases e : a ≤ b
    · rw [if_neg h, if_pos e, i_eq]
      rw [i_lt] at h
      rw [i_le] at e
      omega
    · rw [if_neg h, if_neg e]
def boundS (t : TT) (i : Nat) : Int32 := if t 26 i = -1 then t 23 i else mmin (t 23 i) (t 4 (t 26 i).toNatClampNeg + 1)
def downR (h e : Int32) : Nat → Int32
  | 0 => 0
  | n + 1 => if h + way (nI (n + 1)) ≤ e then nI (n + 1) else downR h e n
def wishS (t : TT) (i : Nat) : Int32 := mmin (t 22 i + 1) (mmax (t 2 0) (t 22 i - 1))
def spS (t : TT) (i : Nat) : Int32 := if t 33 i = 0 then (if t 27 i = -1 then (if t 29 i ≤ 0 then downR (t 21 i) (boundS t i) (wishS t i).toNatClampNeg else 0) else 0) else (if t 22 i ≤ 3 then 0 else t 22 i - 3)
def spU (t : TT) (i : Nat) : TT := up2 (up2 t 22 i (spS t i)) 33 i (if t 33 i = 0 then 0 else if spS t i ≤ 0 then 0 else 1)
theorem wish_dec : ∀ s, s < 21 → ∀ q, q < 21 → 1 ≤ q → ∃ w, w < 21 ∧ mmin (nI s + 1) (mmax (nI q) (nI s - 1)) = nI w := by decide +kernel
theorem brake_dec : ∀ s, s < 21 → ∃ w, w < 21 ∧ (if nI s ≤ 3 then 0 else nI s - 3) = nI w := by decide +kernel
theorem brake_dec2 : ∀ s, s < 21 → mmax (nI s - 3) 0 = (if nI s ≤ 3 then 0 else nI s - 3) := by decide +kernel
theorem pos_dec : ∀ s, s < 21 → (nI s ≤ 0 ∨ ¬ nI s = 0) := by decide +kernel
theorem downR_rng {h e : Int32} : ∀ n, ∃ w, w ≤ n ∧ downR h e n = nI w
  | 0 => ⟨0, Nat.le_refl 0, nI_0.symm⟩
  | n + 1 => by
    unfold downR
    split
    · exact ⟨n + 1, Nat.le_refl _, rfl⟩
    · obtain ⟨w, h1, h2⟩ := downR_rng (h := h) (e := e) n
      exact ⟨w, by omega, h2⟩
theorem wish_rng {n np nb nz nt tk i : Nat} {t : TT} (h : Inv n np nb nz nt tk t) (hi : i < nt) : ∃ w, w ≤ 20 ∧ wishS t i = nI w := by
  obtain ⟨q, q1, q2, q3⟩ := h.2.2.1
  obtain ⟨s, s1, s2⟩ := (h.2.2.2.1 i hi).1
  obtain ⟨w, w1, w2⟩ := wish_dec s (by omega) q (by omega) q1
  exact ⟨w, by omega, by unfold wishS; rw [q3, s2]; exact w2⟩
theorem spS_rng {n np nb nz nt tk i : Nat} {t : TT} (h : Inv n np nb nz nt tk t) (hi : i < nt) : ∃ w, w ≤ 20 ∧ spS t i = nI w := by
  obtain ⟨w, w1, w2⟩ := wish_rng h hi
  obtain ⟨s, s1, s2⟩ := (h.2.2.2.1 i hi).1
  unfold spS
  rw [w2, cl0 (by omega)]
  split
  · split
    · split
      · obtain ⟨w', h1, h2⟩ := downR_rng (h := t 21 i) (e := boundS t i) w
        exact ⟨w', by omega, h2⟩
      · exact ⟨0, by omega, nI_0.symm⟩
    · exact ⟨0, by omega, nI_0.symm⟩
  · obtain ⟨w', h1, h2⟩ := brake_dec s (by omega)
    rw [s2]
    exact ⟨w', by omega, h2⟩
theorem spU_inv {n np nb nz nt tk i : Nat} {t : TT} (h : Inv n np nb nz nt tk t) (hi : i < nt) : Inv n np nb nz nt tk (spU t i) := by
  obtain ⟨w, w1, w2⟩ := spS_rng h hi
  have e : spU t i = up2 (up2 t 33 i (if t 33 i = 0 then 0 else if spS t i ≤ 0 then 0 else 1)) 22 i (spS t i) := by
    funext a b
    unfold spU up2
    by_cases h1 : a = 33 ∧ b = i
    · have h2 : ¬ (a = 22 ∧ b = i) := by omega
      simp only [if_pos h1, if_neg h2]
    · by_cases h2 : a = 22 ∧ b = i
      · simp only [if_neg h1, if_pos h2]
      · simp only [if_neg h1, if_neg h2]
  have hb : isB (if t 33 i = 0 then 0 else if spS t i ≤ 0 then 0 else 1) := by
    split
    · exact isB_0
    · split
      · exact isB_0
      · exact isB_1
  have hp : (if t 33 i = 0 then 0 else if spS t i ≤ 0 then (0 : Int32) else 1) ≠ 0 → spS t i ≠ 0 := by
    rw [w2]
    intro q
    rcases pos_dec w (by omega) with z | z
    · rw [if_pos z] at q
      exact absurd (by split <;> rfl) q
    · exact z
  rw [e]
  obtain ⟨h1, h2, h3, h4, h5, h6, h7, h8, h9, h10, h11⟩ := h.2.2.2.1 i hi
  generalize (if t 33 i = 0 then 0 else if spS t i ≤ 0 then (0 : Int32) else 1) = x at hb hp ⊢
  have key : ∀ k, up2 (up2 t 33 i x) 22 i (spS t i) k i = if k = 22 then spS t i else if k = 33 then x else t k i := by
    intro k
    unfold up2
    by_cases q : k = 22
    · simp [q]
    · by_cases q2 : k = 33 <;> simp [q, q2]
  have hT : TrI (up2 (up2 t 33 i x) 22 i (spS t i)) np tk i := by
    unfold TrI
    simp only [key]
    exact ⟨⟨w, w1, w2⟩, h2, h3, h4, h5, h6, h7, hb, h9, hp, h11⟩
  obtain ⟨hc, htk, hq, hT0, hP, hbb, hz, z1, z2, z3, z4, z5⟩ := h
  have e9 : ∀ k' i', ¬ ((k' = 22 ∨ k' = 33) ∧ i' = i) → up2 (up2 t 33 i x) 22 i (spS t i) k' i' = t k' i' := fun k' i' q => by
    rw [up2_ne fun z => q ⟨Or.inl z.1, z.2⟩, up2_ne fun z => q ⟨Or.inr z.1, z.2⟩]
  refine ⟨?_, ?_, ?_, fun j hj => ?_, fun p hp => ?_, fun b hb9 => ?_, fun z hz9 => ?_, fun k' j hj h1 h2 => ?_, fun j hj => ?_, fun k' j hj h1 h2 => ?_, fun j hj => ?_, fun j hj => ?_⟩
  · unfold Cnt
    rw [e9 _ _ (by omega), e9 _ _ (by omega), e9 _ _ (by omega), e9 _ _ (by omega)]
    exact hc
  · rw [e9 _ _ (by omega)]; exact htk
  · rw [e9 _ _ (by omega)]; exact hq
  · by_cases q : j = i
    · subst q; exact hT
    · exact TrI.congr (fun k' => e9 _ _ (by omega)) (hT0 j hj)
  · unfold PlI
    rw [e9 _ _ (by omega), e9 _ _ (by omega), e9 _ _ (by omega)]
    exact hP p hp
  · rw [e9 _ _ (by omega)]; exact hbb b hb9
  · rw [e9 _ _ (by omega)]; exact hz z hz9
  · rw [e9 _ _ (by omega)]; exact z1 k' j hj h1 h2
  · rw [e9 _ _ (by omega), e9 _ _ (by omega)]; exact z2 j hj
  · rw [e9 _ _ (by omega)]; exact z3 k' j hj h1 h2
  · rw [e9 _ _ (by omega), e9 _ _ (by omega)]; exact z4 j hj
  · rw [e9 _ _ (by omega), e9 _ _ (by omega), e9 _ _ (by omega)]; exact z5 j hj
section SP
variable {px : String → TT → Prop} {t : TT} {n np nb nz nt tk : Nat}
theorem pc_greatestSpeed {post : Int32 → TT → Prop} {i : Nat} (hI : Inv n np nb nz nt tk t) (hi : i < nt) (h : post (downR (t 21 i) (boundS t i) (wishS t i).toNatClampNeg) (over t)) : P_X2_greatestSpeed (MS np nb nz nt) post px i (t 2 0) (over t) := by
  obtain ⟨w, w1, w2⟩ := wish_rng hI hi
  have h6 := hI.1.2.1
  obtain ⟨-, -, hs, -⟩ := hI.2.2.2.1 i hi
  rw [w2, cl0 (by omega)] at h
  have K : ∀ w, w ≤ 20 → post (downR (t 21 i) (boundS t i) w) (over t) → ∃ n, L_X2_greatestSpeed_51 (MS np nb nz nt) post px n i (boundS t i) (nI w) (over t) := by
    intro w
    induction w with
    | zero =>
      intro _ h
      refine ⟨1, ?_⟩
      simp only [L_X2_greatestSpeed_51, B_X2_greatestSpeed_74, nI_0, Int32.le_refl, if_true]
      exact h
    | succ w ih =>
      intro hw h
      have hp : ¬ nI (w + 1) ≤ 0 := nI_nle (by omega) (by omega)
      by_cases g : t 21 i + way (nI (w + 1)) ≤ boundS t i
      · refine ⟨1, ?_⟩
        simp only [L_X2_greatestSpeed_51, B_X2_greatestSpeed_74, MS_8, ov_1, ov_2, ov_3, ov_4, ov_5, ov_6, ov_7, ov_8, ov_10, ov_11, ov_12, ov_13, ov_14, ov_15, ov_16, ov_17, ov_18, ov_19, ov_20, ov_21, ov_22, ov_23, ov_24, ov_25, ov_26, ov_27, ov_28, ov_29, ov_30, ov_31, ov_32, ov_33, ov_34, ov_35, ov_36, hi, hp, g, downR, pc_way, if_true, if_false, true_and] at h ⊢
        exact h
      · simp only [downR, g, if_false] at h
        obtain ⟨n, hn⟩ := ih (by omega) h
        refine ⟨n + 1, ?_⟩
        simp only [L_X2_greatestSpeed_51, B_X2_greatestSpeed_74, MS_8, ov_1, ov_2, ov_3, ov_4, ov_5, ov_6, ov_7, ov_8, ov_10, ov_11, ov_12, ov_13, ov_14, ov_15, ov_16, ov_17, ov_18, ov_19, ov_20, ov_21, ov_22, ov_23, ov_24, ov_25, ov_26, ov_27, ov_28, ov_29, ov_30, ov_31, ov_32, ov_33, ov_34, ov_35, ov_36, hi, hp, g, pc_way, if_false, true_and, pk_m1]
        exact hn
  have K1 := K w w1 h
  rw [← w2] at K1
  unfold wishS boundS at K1
  simp only [P_X2_greatestSpeed, B_X2_greatestSpeed_30, MS_8, MS_5, ov_1, ov_2, ov_3, ov_4, ov_5, ov_6, ov_7, ov_8, ov_10, ov_11, ov_12, ov_13, ov_14, ov_15, ov_16, ov_17, ov_18, ov_19, ov_20, ov_21, ov_22, ov_23, ov_24, ov_25, ov_26, ov_27, ov_28, ov_29, ov_30, ov_31, ov_32, ov_33, ov_34, ov_35, ov_36, hi, true_and]
  rcases hs with hs | ⟨p, hp, hs⟩
  · simp only [hs, if_true] at K1 ⊢
    exact K1
  · have hn1 := nI_m1 (n := p) (by omega)
    have hcp := cl0 (n := p) (by omega)
    simp only [hs, hn1, hcp, hp, if_false, true_and, not_false_eq_true] at K1 ⊢
    exact K1
theorem pc_findSpeed {post : TT → Prop} {i : Nat} (hI : Inv n np nb nz nt tk t) (hi : i < nt) (h : post (over (spU t i))) : P_X2_findSpeed (MS np nb nz nt) post px i (t 2 0) (over t) := by
  obtain ⟨⟨s, s1, s2⟩, -⟩ := hI.2.2.2.1 i hi
  simp only [B_X2_findSpeed_71, B_X2_findSpeed_54, B_X2_findSpeed_34, P_X2_findSpeed, MS_8, ov_1, ov_2, ov_3, ov_4, ov_5, ov_6, ov_7, ov_8, ov_10, ov_11, ov_12, ov_13, ov_14, ov_15, ov_16, ov_17, ov_18, ov_19, ov_20, ov_21, ov_22, ov_23, ov_24, ov_25, ov_26, ov_27, ov_28, ov_29, ov_30, ov_31, ov_32, ov_33, ov_34, ov_35, ov_36, hi, true_and, pc_hasOpenDoors hi, b2i_0]
  have fin : ∀ v, t 33 i = 0 → v = spS t i → post (over (up2 t 22 i v)) := by
    intro v e hv
    unfold spU at h
    rw [if_pos e, up2_self (show (0 : Int32) = up2 t 22 i (spS t i) 33 i by rw [up2_ne (by omega), e])] at h
    rw [hv]
    exact h
  by_cases e : t 33 i = 0
  · by_cases d : t 27 i = -1
    · by_cases q : t 29 i ≤ 0
      · simp only [e, d, q, if_true, decide_true, Bool.not_true]
        refine pc_greatestSpeed hI hi ?_
        simp only [hi, true_and, over_up (show (22 != 9 && 22 != 40 && 22 != 0 && 22 != 7) = true from rfl)]
        exact fin _ e (by unfold spS; rw [if_pos e, if_pos d, if_pos q])
      · simp only [e, d, q, if_true, if_false, decide_true, Bool.not_true, over_up (show (22 != 9 && 22 != 40 && 22 != 0 && 22 != 7) = true from rfl)]
        exact fin _ e (by unfold spS; rw [if_pos e, if_pos d, if_neg q])
    · simp only [e, d, if_true, if_false, decide_false, Bool.not_false, Bool.true_eq_false, over_up (show (22 != 9 && 22 != 40 && 22 != 0 && 22 != 7) = true from rfl)]
      exact fin _ e (by unfold spS; rw [if_pos e, if_neg d])
  · have hv : mmax (t 22 i - 3) 0 = spS t i := by
      unfold spS
      rw [if_neg e, s2]
      exact brake_dec2 s (by omega)
    unfold spU at h
    rw [if_neg e] at h
    simp only [e, if_false, hv, over_up (show (22 != 9 && 22 != 40 && 22 != 0 && 22 != 7) = true from rfl), over_up (show (33 != 9 && 33 != 40 && 33 != 0 && 33 != 7) = true from rfl), up2_same, ov_22, isB_0, isB_1, true_and]
    by_cases c : spS t i ≤ 0 <;> simp only [c, if_true, if_false] at h ⊢ <;> exact h
end SP
end
section
/-! one tick: what each of its steps does to the table, on both sides -/
theorem up_1_2 {t : TT} {a b : Nat} {v : Int32} : up2 t 1 a v 2 b = t 2 b := rfl
theorem up_1_3 {t : TT} {a b : Nat} {v : Int32} : up2 t 1 a v 3 b = t 3 b := rfl
theorem up_1_4 {t : TT} {a b : Nat} {v : Int32} : up2 t 1 a v 4 b = t 4 b := rfl
theorem up_1_5 {t : TT} {a b : Nat} {v : Int32} : up2 t 1 a v 5 b = t 5 b := rfl
theorem up_1_6 {t : TT} {a b : Nat} {v : Int32} : up2 t 1 a v 6 b = t 6 b := rfl
theorem up_1_7 {t : TT} {a b : Nat} {v : Int32} : up2 t 1 a v 7 b = t 7 b := rfl
theorem up_1_8 {t : TT} {a b : Nat} {v : Int32} : up2 t 1 a v 8 b = t 8 b := rfl
theorem up_1_10 {t : TT} {a b : Nat} {v : Int32} : up2 t 1 a v 10 b = t 10 b := rfl
theorem up_1_11 {t : TT} {a b : Nat} {v : Int32} : up2 t 1 a v 11 b = t 11 b := rfl
theorem up_1_12 {t : TT} {a b : Nat} {v : Int32} : up2 t 1 a v 12 b = t 12 b := rfl
theorem up_1_13 {t : TT} {a b : Nat} {v : Int32} : up2 t 1 a v 13 b = t 13 b := rfl
theorem up_1_14 {t : TT} {a b : Nat} {v : Int32} : up2 t 1 a v 14 b = t 14 b := rfl
theorem up_1_15 {t : TT} {a b : Nat} {v : Int32} : up2 t 1 a v 15 b = t 15 b := rfl
theorem up_1_16 {t : TT} {a b : Nat} {v : Int32} : up2 t 1 a v 16 b = t 16 b := rfl
theorem up_1_17 {t : TT} {a b : Nat} {v : Int32} : up2 t 1 a v 17 b = t 17 b := rfl
theorem up_1_18 {t : TT} {a b : Nat} {v : Int32} : up2 t 1 a v 18 b = t 18 b := rfl
theorem up_1_19 {t : TT} {a b : Nat} {v : Int32} : up2 t 1 a v 19 b = t 19 b := rfl
theorem up_1_20 {t : TT} {a b : Nat} {v : Int32} : up2 t 1 a v 20 b = t 20 b := rfl
theorem up_1_21 {t : TT} {a b : Nat} {v : Int32} : up2 t 1 a v 21 b = t 21 b := rfl
theorem up_1_22 {t : TT} {a b : Nat} {v : Int32} : up2 t 1 a v 22 b = t 22 b := rfl
theorem up_1_23 {t : TT} {a b : Nat} {v : Int32} : up2 t 1 a v 23 b = t 23 b := rfl
theorem up_1_24 {t : TT} {a b : Nat} {v : Int32} : up2 t 1 a v 24 b = t 24 b := rfl
theorem up_1_25 {t : TT} {a b : Nat} {v : Int32} : up2 t 1 a v 25 b = t 25 b := rfl
theorem up_1_26 {t : TT} {a b : Nat} {v : Int32} : up2 t 1 a v 26 b = t 26 b := rfl
theorem up_1_27 {t : TT} {a b : Nat} {v : Int32} : up2 t 1 a v 27 b = t 27 b := rfl
theorem up_1_28 {t : TT} {a b : Nat} {v : Int32} : up2 t 1 a v 28 b = t 28 b := rfl
theorem up_1_29 {t : TT} {a b : Nat} {v : Int32} : up2 t 1 a v 29 b = t 29 b := rfl
theorem up_1_30 {t : TT} {a b : Nat} {v : Int32} : up2 t 1 a v 30 b = t 30 b := rfl
theorem up_1_31 {t : TT} {a b : Nat} {v : Int32} : up2 t 1 a v 31 b = t 31 b := rfl
theorem up_1_32 {t : TT} {a b : Nat} {v : Int32} : up2 t 1 a v 32 b = t 32 b := rfl
theorem up_1_33 {t : TT} {a b : Nat} {v : Int32} : up2 t 1 a v 33 b = t 33 b := rfl
theorem up_1_34 {t : TT} {a b : Nat} {v : Int32} : up2 t 1 a v 34 b = t 34 b := rfl
theorem up_1_35 {t : TT} {a b : Nat} {v : Int32} : up2 t 1 a v 35 b = t 35 b := rfl
theorem up_1_36 {t : TT} {a b : Nat} {v : Int32} : up2 t 1 a v 36 b = t 36 b := rfl
theorem up_2_1 {t : TT} {a b : Nat} {v : Int32} : up2 t 2 a v 1 b = t 1 b := rfl
theorem up_2_3 {t : TT} {a b : Nat} {v : Int32} : up2 t 2 a v 3 b = t 3 b := rfl
theorem up_2_4 {t : TT} {a b : Nat} {v : Int32} : up2 t 2 a v 4 b = t 4 b := rfl
theorem up_2_5 {t : TT} {a b : Nat} {v : Int32} : up2 t 2 a v 5 b = t 5 b := rfl
theorem up_2_6 {t : TT} {a b : Nat} {v : Int32} : up2 t 2 a v 6 b = t 6 b := rfl
theorem up_2_7 {t : TT} {a b : Nat} {v : Int32} : up2 t 2 a v 7 b = t 7 b := rfl
theorem up_2_8 {t : TT} {a b : Nat} {v : Int32} : up2 t 2 a v 8 b = t 8 b := rfl
theorem up_2_10 {t : TT} {a b : Nat} {v : Int32} : up2 t 2 a v 10 b = t 10 b := rfl
theorem up_2_11 {t : TT} {a b : Nat} {v : Int32} : up2 t 2 a v 11 b = t 11 b := rfl
theorem up_2_12 {t : TT} {a b : Nat} {v : Int32} : up2 t 2 a v 12 b = t 12 b := rfl
theorem up_2_13 {t : TT} {a b : Nat} {v : Int32} : up2 t 2 a v 13 b = t 13 b := rfl
theorem up_2_14 {t : TT} {a b : Nat} {v : Int32} : up2 t 2 a v 14 b = t 14 b := rfl
theorem up_2_15 {t : TT} {a b : Nat} {v : Int32} : up2 t 2 a v 15 b = t 15 b := rfl
theorem up_2_16 {t : TT} {a b : Nat} {v : Int32} : up2 t 2 a v 16 b = t 16 b := rfl
theorem up_2_17 {t : TT} {a b : Nat} {v : Int32} : up2 t 2 a v 17 b = t 17 b := rfl
theorem up_2_18 {t : TT} {a b : Nat} {v : Int32} : up2 t 2 a v 18 b = t 18 b := rfl
theorem up_2_19 {t : TT} {a b : Nat} {v : Int32} : up2 t 2 a v 19 b = t 19 b := rfl
theorem up_2_20 {t : TT} {a b : Nat} {v : Int32} : up2 t 2 a v 20 b = t 20 b := rfl
theorem up_2_21 {t : TT} {a b : Nat} {v : Int32} : up2 t 2 a v 21 b = t 21 b := rfl
theorem up_2_22 {t : TT} {a b : Nat} {v : Int32} : up2 t 2 a v 22 b = t 22 b := rfl
theorem up_2_23 {t : TT} {a b : Nat} {v : Int32} : up2 t 2 a v 23 b = t 23 b := rfl
theorem up_2_24 {t : TT} {a b : Nat} {v : Int32} : up2 t 2 a v 24 b = t 24 b := rfl
theorem up_2_25 {t : TT} {a b : Nat} {v : Int32} : up2 t 2 a v 25 b = t 25 b := rfl
theorem up_2_26 {t : TT} {a b : Nat} {v : Int32} : up2 t 2 a v 26 b = t 26 b := rfl
theorem up_2_27 {t : TT} {a b : Nat} {v : Int32} : up2 t 2 a v 27 b = t 27 b := rfl
theorem up_2_28 {t : TT} {a b : Nat} {v : Int32} : up2 t 2 a v 28 b = t 28 b := rfl
theorem up_2_29 {t : TT} {a b : Nat} {v : Int32} : up2 t 2 a v 29 b = t 29 b := rfl
theorem up_2_30 {t : TT} {a b : Nat} {v : Int32} : up2 t 2 a v 30 b = t 30 b := rfl
theorem up_2_31 {t : TT} {a b : Nat} {v : Int32} : up2 t 2 a v 31 b = t 31 b := rfl
theorem up_2_32 {t : TT} {a b : Nat} {v : Int32} : up2 t 2 a v 32 b = t 32 b := rfl
theorem up_2_33 {t : TT} {a b : Nat} {v : Int32} : up2 t 2 a v 33 b = t 33 b := rfl
theorem up_2_34 {t : TT} {a b : Nat} {v : Int32} : up2 t 2 a v 34 b = t 34 b := rfl
theorem up_2_35 {t : TT} {a b : Nat} {v : Int32} : up2 t 2 a v 35 b = t 35 b := rfl
theorem up_2_36 {t : TT} {a b : Nat} {v : Int32} : up2 t 2 a v 36 b = t 36 b := rfl
theorem up_3_1 {t : TT} {a b : Nat} {v : Int32} : up2 t 3 a v 1 b = t 1 b := rfl
theorem up_3_2 {t : TT} {a b : Nat} {v : Int32} : up2 t 3 a v 2 b = t 2 b := rfl
theorem up_3_4 {t : TT} {a b : Nat} {v : Int32} : up2 t 3 a v 4 b = t 4 b := rfl
theorem up_3_5 {t : TT} {a b : Nat} {v : Int32} : up2 t 3 a v 5 b = t 5 b := rfl
theorem up_3_6 {t : TT} {a b : Nat} {v : Int32} : up2 t 3 a v 6 b = t 6 b := rfl
theorem up_3_7 {t : TT} {a b : Nat} {v : Int32} : up2 t 3 a v 7 b = t 7 b := rfl
theorem up_3_8 {t : TT} {a b : Nat} {v : Int32} : up2 t 3 a v 8 b = t 8 b := rfl
theorem up_3_10 {t : TT} {a b : Nat} {v : Int32} : up2 t 3 a v 10 b = t 10 b := rfl
theorem up_3_11 {t : TT} {a b : Nat} {v : Int32} : up2 t 3 a v 11 b = t 11 b := rfl
theorem up_3_12 {t : TT} {a b : Nat} {v : Int32} : up2 t 3 a v 12 b = t 12 b := rfl
theorem up_3_13 {t : TT} {a b : Nat} {v : Int32} : up2 t 3 a v 13 b = t 13 b := rfl
theorem up_3_14 {t : TT} {a b : Nat} {v : Int32} : up2 t 3 a v 14 b = t 14 b := rfl
theorem up_3_15 {t : TT} {a b : Nat} {v : Int32} : up2 t 3 a v 15 b = t 15 b := rfl
theorem up_3_16 {t : TT} {a b : Nat} {v : Int32} : up2 t 3 a v 16 b = t 16 b := rfl
theorem up_3_17 {t : TT} {a b : Nat} {v : Int32} : up2 t 3 a v 17 b = t 17 b := rfl
theorem up_3_18 {t : TT} {a b : Nat} {v : Int32} : up2 t 3 a v 18 b = t 18 b := rfl
theorem up_3_19 {t : TT} {a b : Nat} {v : Int32} : up2 t 3 a v 19 b = t 19 b := rfl
theorem up_3_20 {t : TT} {a b : Nat} {v : Int32} : up2 t 3 a v 20 b = t 20 b := rfl
theorem up_3_21 {t : TT} {a b : Nat} {v : Int32} : up2 t 3 a v 21 b = t 21 b := rfl
theorem up_3_22 {t : TT} {a b : Nat} {v : Int32} : up2 t 3 a v 22 b = t 22 b := rfl
theorem up_3_23 {t : TT} {a b : Nat} {v : Int32} : up2 t 3 a v 23 b = t 23 b := rfl
theorem up_3_24 {t : TT} {a b : Nat} {v : Int32} : up2 t 3 a v 24 b = t 24 b := rfl
theorem up_3_25 {t : TT} {a b : Nat} {v : Int32} : up2 t 3 a v 25 b = t 25 b := rfl
theorem up_3_26 {t : TT} {a b : Nat} {v : Int32} : up2 t 3 a v 26 b = t 26 b := rfl
theorem up_3_27 {t : TT} {a b : Nat} {v : Int32} : up2 t 3 a v 27 b = t 27 b := rfl
theorem up_3_28 {t : TT} {a b : Nat} {v : Int32} : up2 t 3 a v 28 b = t 28 b := rfl
theorem up_3_29 {t : TT} {a b : Nat} {v : Int32} : up2 t 3 a v 29 b = t 29 b := rfl
theorem up_3_30 {t : TT} {a b : Nat} {v : Int32} : up2 t 3 a v 30 b = t 30 b := rfl
theorem up_3_31 {t : TT} {a b : Nat} {v : Int32} : up2 t 3 a v 31 b = t 31 b := rfl
theorem up_3_32 {t : TT} {a b : Nat} {v : Int32} : up2 t 3 a v 32 b = t 32 b := rfl
theorem up_3_33 {t : TT} {a b : Nat} {v : Int32} : up2 t 3 a v 33 b = t 33 b := rfl
theorem up_3_34 {t : TT} {a b : Nat} {v : Int32} : up2 t 3 a v 34 b = t 34 b := rfl
theorem up_3_35 {t : TT} {a b : Nat} {v : Int32} : up2 t 3 a v 35 b = t 35 b := rfl
theorem up_3_36 {t : TT} {a b : Nat} {v : Int32} : up2 t 3 a v 36 b = t 36 b := rfl
theorem up_4_1 {t : TT} {a b : Nat} {v : Int32} : up2 t 4 a v 1 b = t 1 b := rfl
theorem up_4_2 {t : TT} {a b : Nat} {v : Int32} : up2 t 4 a v 2 b = t 2 b := rfl
theorem up_4_3 {t : TT} {a b : Nat} {v : Int32} : up2 t 4 a v 3 b = t 3 b := rfl
theorem up_4_5 {t : TT} {a b : Nat} {v : Int32} : up2 t 4 a v 5 b = t 5 b := rfl
theorem up_4_6 {t : TT} {a b : Nat} {v : Int32} : up2 t 4 a v 6 b = t 6 b := rfl
theorem up_4_7 {t : TT} {a b : Nat} {v : Int32} : up2 t 4 a v 7 b = t 7 b := rfl
theorem up_4_8 {t : TT} {a b : Nat} {v : Int32} : up2 t 4 a v 8 b = t 8 b := rfl
theorem up_4_10 {t : TT} {a b : Nat} {v : Int32} : up2 t 4 a v 10 b = t 10 b := rfl
theorem up_4_11 {t : TT} {a b : Nat} {v : Int32} : up2 t 4 a v 11 b = t 11 b := rfl
theorem up_4_12 {t : TT} {a b : Nat} {v : Int32} : up2 t 4 a v 12 b = t 12 b := rfl
theorem up_4_13 {t : TT} {a b : Nat} {v : Int32} : up2 t 4 a v 13 b = t 13 b := rfl
theorem up_4_14 {t : TT} {a b : Nat} {v : Int32} : up2 t 4 a v 14 b = t 14 b := rfl
theorem up_4_15 {t : TT} {a b : Nat} {v : Int32} : up2 t 4 a v 15 b = t 15 b := rfl
theorem up_4_16 {t : TT} {a b : Nat} {v : Int32} : up2 t 4 a v 16 b = t 16 b := rfl
theorem up_4_17 {t : TT} {a b : Nat} {v : Int32} : up2 t 4 a v 17 b = t 17 b := rfl
theorem up_4_18 {t : TT} {a b : Nat} {v : Int32} : up2 t 4 a v 18 b = t 18 b := rfl
theorem up_4_19 {t : TT} {a b : Nat} {v : Int32} : up2 t 4 a v 19 b = t 19 b := rfl
theorem up_4_20 {t : TT} {a b : Nat} {v : Int32} : up2 t 4 a v 20 b = t 20 b := rfl
theorem up_4_21 {t : TT} {a b : Nat} {v : Int32} : up2 t 4 a v 21 b = t 21 b := rfl
theorem up_4_22 {t : TT} {a b : Nat} {v : Int32} : up2 t 4 a v 22 b = t 22 b := rfl
theorem up_4_23 {t : TT} {a b : Nat} {v : Int32} : up2 t 4 a v 23 b = t 23 b := rfl
theorem up_4_24 {t : TT} {a b : Nat} {v : Int32} : up2 t 4 a v 24 b = t 24 b := rfl
theorem up_4_25 {t : TT} {a b : Nat} {v : Int32} : up2 t 4 a v 25 b = t 25 b := rfl
theorem up_4_26 {t : TT} {a b : Nat} {v : Int32} : up2 t 4 a v 26 b = t 26 b := rfl
theorem up_4_27 {t : TT} {a b : Nat} {v : Int32} : up2 t 4 a v 27 b = t 27 b := rfl
theorem up_4_28 {t : TT} {a b : Nat} {v : Int32} : up2 t 4 a v 28 b = t 28 b := rfl
theorem up_4_29 {t : TT} {a b : Nat} {v : Int32} : up2 t 4 a v 29 b = t 29 b := rfl
theorem up_4_30 {t : TT} {a b : Nat} {v : Int32} : up2 t 4 a v 30 b = t 30 b := rfl
theorem up_4_31 {t : TT} {a b : Nat} {v : Int32} : up2 t 4 a v 31 b = t 31 b := rfl
theorem up_4_32 {t : TT} {a b : Nat} {v : Int32} : up2 t 4 a v 32 b = t 32 b := rfl
theorem up_4_33 {t : TT} {a b : Nat} {v : Int32} : up2 t 4 a v 33 b = t 33 b := rfl
theorem up_4_34 {t : TT} {a b : Nat} {v : Int32} : up2 t 4 a v 34 b = t 34 b := rfl
theorem up_4_35 {t : TT} {a b : Nat} {v : Int32} : up2 t 4 a v 35 b = t 35 b := rfl
theorem up_4_36 {t : TT} {a b : Nat} {v : Int32} : up2 t 4 a v 36 b = t 36 b := rfl
theorem up_5_1 {t : TT} {a b : Nat} {v : Int32} : up2 t 5 a v 1 b = t 1 b := rfl
theorem up_5_2 {t : TT} {a b : Nat} {v : Int32} : up2 t 5 a v 2 b = t 2 b := rfl
theorem up_5_3 {t : TT} {a b : Nat} {v : Int32} : up2 t 5 a v 3 b = t 3 b := rfl
theorem up_5_4 {t : TT} {a b : Nat} {v : Int32} : up2 t 5 a v 4 b = t 4 b := rfl
theorem up_5_6 {t : TT} {a b : Nat} {v : Int32} : up2 t 5 a v 6 b = t 6 b := rfl
theorem up_5_7 {t : TT} {a b : Nat} {v : Int32} : up2 t 5 a v 7 b = t 7 b := rfl
theorem up_5_8 {t : TT} {a b : Nat} {v : Int32} : up2 t 5 a v 8 b = t 8 b := rfl
theorem up_5_10 {t : TT} {a b : Nat} {v : Int32} : up2 t 5 a v 10 b = t 10 b := rfl
theorem up_5_11 {t : TT} {a b : Nat} {v : Int32} : up2 t 5 a v 11 b = t 11 b := rfl
theorem up_5_12 {t : TT} {a b : Nat} {v : Int32} : up2 t 5 a v 12 b = t 12 b := rfl
theorem up_5_13 {t : TT} {a b : Nat} {v : Int32} : up2 t 5 a v 13 b = t 13 b := rfl
theorem up_5_14 {t : TT} {a b : Nat} {v : Int32} : up2 t 5 a v 14 b = t 14 b := rfl
theorem up_5_15 {t : TT} {a b : Nat} {v : Int32} : up2 t 5 a v 15 b = t 15 b := rfl
theorem up_5_16 {t : TT} {a b : Nat} {v : Int32} : up2 t 5 a v 16 b = t 16 b := rfl
theorem up_5_17 {t : TT} {a b : Nat} {v : Int32} : up2 t 5 a v 17 b = t 17 b := rfl
theorem up_5_18 {t : TT} {a b : Nat} {v : Int32} : up2 t 5 a v 18 b = t 18 b := rfl
theorem up_5_19 {t : TT} {a b : Nat} {v : Int32} : up2 t 5 a v 19 b = t 19 b := rfl
theorem up_5_20 {t : TT} {a b : Nat} {v : Int32} : up2 t 5 a v 20 b = t 20 b := rfl
theorem up_5_21 {t : TT} {a b : Nat} {v : Int32} : up2 t 5 a v 21 b = t 21 b := rfl
theorem up_5_22 {t : TT} {a b : Nat} {v : Int32} : up2 t 5 a v 22 b = t 22 b := rfl
theorem up_5_23 {t : TT} {a b : Nat} {v : Int32} : up2 t 5 a v 23 b = t 23 b := rfl
theorem up_5_24 {t : TT} {a b : Nat} {v : Int32} : up2 t 5 a v 24 b = t 24 b := rfl
theorem up_5_25 {t : TT} {a b : Nat} {v : Int32} : up2 t 5 a v 25 b = t 25 b := rfl
theorem up_5_26 {t : TT} {a b : Nat} {v : Int32} : up2 t 5 a v 26 b = t 26 b := rfl
theorem up_5_27 {t : TT} {a b : Nat} {v : Int32} : up2 t 5 a v 27 b = t 27 b := rfl
theorem up_5_28 {t : TT} {a b : Nat} {v : Int32} : up2 t 5 a v 28 b = t 28 b := rfl
theorem up_5_29 {t : TT} {a b : Nat} {v : Int32} : up2 t 5 a v 29 b = t 29 b := rfl
theorem up_5_30 {t : TT} {a b : Nat} {v : Int32} : up2 t 5 a v 30 b = t 30 b := rfl
theorem up_5_31 {t : TT} {a b : Nat} {v : Int32} : up2 t 5 a v 31 b = t 31 b := rfl
theorem up_5_32 {t : TT} {a b : Nat} {v : Int32} : up2 t 5 a v 32 b = t 32 b := rfl
theorem up_5_33 {t : TT} {a b : Nat} {v : Int32} : up2 t 5 a v 33 b = t 33 b := rfl
theorem up_5_34 {t : TT} {a b : Nat} {v : Int32} : up2 t 5 a v 34 b = t 34 b := rfl
theorem up_5_35 {t : TT} {a b : Nat} {v : Int32} : up2 t 5 a v 35 b = t 35 b := rfl
theorem up_5_36 {t : TT} {a b : Nat} {v : Int32} : up2 t 5 a v 36 b = t 36 b := rfl
theorem up_6_1 {t : TT} {a b : Nat} {v : Int32} : up2 t 6 a v 1 b = t 1 b := rfl
theorem up_6_2 {t : TT} {a b : Nat} {v : Int32} : up2 t 6 a v 2 b = t 2 b := rfl
theorem up_6_3 {t : TT} {a b : Nat} {v : Int32} : up2 t 6 a v 3 b = t 3 b := rfl
theorem up_6_4 {t : TT} {a b : Nat} {v : Int32} : up2 t 6 a v 4 b = t 4 b := rfl
theorem up_6_5 {t : TT} {a b : Nat} {v : Int32} : up2 t 6 a v 5 b = t 5 b := rfl
theorem up_6_7 {t : TT} {a b : Nat} {v : Int32} : up2 t 6 a v 7 b = t 7 b := rfl
theorem up_6_8 {t : TT} {a b : Nat} {v : Int32} : up2 t 6 a v 8 b = t 8 b := rfl
theorem up_6_10 {t : TT} {a b : Nat} {v : Int32} : up2 t 6 a v 10 b = t 10 b := rfl
theorem up_6_11 {t : TT} {a b : Nat} {v : Int32} : up2 t 6 a v 11 b = t 11 b := rfl
theorem up_6_12 {t : TT} {a b : Nat} {v : Int32} : up2 t 6 a v 12 b = t 12 b := rfl
theorem up_6_13 {t : TT} {a b : Nat} {v : Int32} : up2 t 6 a v 13 b = t 13 b := rfl
theorem up_6_14 {t : TT} {a b : Nat} {v : Int32} : up2 t 6 a v 14 b = t 14 b := rfl
theorem up_6_15 {t : TT} {a b : Nat} {v : Int32} : up2 t 6 a v 15 b = t 15 b := rfl
theorem up_6_16 {t : TT} {a b : Nat} {v : Int32} : up2 t 6 a v 16 b = t 16 b := rfl
theorem up_6_17 {t : TT} {a b : Nat} {v : Int32} : up2 t 6 a v 17 b = t 17 b := rfl
theorem up_6_18 {t : TT} {a b : Nat} {v : Int32} : up2 t 6 a v 18 b = t 18 b := rfl
theorem up_6_19 {t : TT} {a b : Nat} {v : Int32} : up2 t 6 a v 19 b = t 19 b := rfl
theorem up_6_20 {t : TT} {a b : Nat} {v : Int32} : up2 t 6 a v 20 b = t 20 b := rfl
theorem up_6_21 {t : TT} {a b : Nat} {v : Int32} : up2 t 6 a v 21 b = t 21 b := rfl
theorem up_6_22 {t : TT} {a b : Nat} {v : Int32} : up2 t 6 a v 22 b = t 22 b := rfl
theorem up_6_23 {t : TT} {a b : Nat} {v : Int32} : up2 t 6 a v 23 b = t 23 b := rfl
theorem up_6_24 {t : TT} {a b : Nat} {v : Int32} : up2 t 6 a v 24 b = t 24 b := rfl
theorem up_6_25 {t : TT} {a b : Nat} {v : Int32} : up2 t 6 a v 25 b = t 25 b := rfl
theorem up_6_26 {t : TT} {a b : Nat} {v : Int32} : up2 t 6 a v 26 b = t 26 b := rfl
theorem up_6_27 {t : TT} {a b : Nat} {v : Int32} : up2 t 6 a v 27 b = t 27 b := rfl
theorem up_6_28 {t : TT} {a b : Nat} {v : Int32} : up2 t 6 a v 28 b = t 28 b := rfl
theorem up_6_29 {t : TT} {a b : Nat} {v : Int32} : up2 t 6 a v 29 b = t 29 b := rfl
theorem up_6_30 {t : TT} {a b : Nat} {v : Int32} : up2 t 6 a v 30 b = t 30 b := rfl
theorem up_6_31 {t : TT} {a b : Nat} {v : Int32} : up2 t 6 a v 31 b = t 31 b := rfl
theorem up_6_32 {t : TT} {a b : Nat} {v : Int32} : up2 t 6 a v 32 b = t 32 b := rfl
theorem up_6_33 {t : TT} {a b : Nat} {v : Int32} : up2 t 6 a v 33 b = t 33 b := rfl
theorem up_6_34 {t : TT} {a b : Nat} {v : Int32} : up2 t 6 a v 34 b = t 34 b := rfl
theorem up_6_35 {t : TT} {a b : Nat} {v : Int32} : up2 t 6 a v 35 b = t 35 b := rfl
theorem up_6_36 {t : TT} {a b : Nat} {v : Int32} : up2 t 6 a v 36 b = t 36 b := rfl
theorem up_7_1 {t : TT} {a b : Nat} {v : Int32} : up2 t 7 a v 1 b = t 1 b := rfl
theorem up_7_2 {t : TT} {a b : Nat} {v : Int32} : up2 t 7 a v 2 b = t 2 b := rfl
theorem up_7_3 {t : TT} {a b : Nat} {v : Int32} : up2 t 7 a v 3 b = t 3 b := rfl
theorem up_7_4 {t : TT} {a b : Nat} {v : Int32} : up2 t 7 a v 4 b = t 4 b := rfl
theorem up_7_5 {t : TT} {a b : Nat} {v : Int32} : up2 t 7 a v 5 b = t 5 b := rfl
theorem up_7_6 {t : TT} {a b : Nat} {v : Int32} : up2 t 7 a v 6 b = t 6 b := rfl
theorem up_7_8 {t : TT} {a b : Nat} {v : Int32} : up2 t 7 a v 8 b = t 8 b := rfl
theorem up_7_10 {t : TT} {a b : Nat} {v : Int32} : up2 t 7 a v 10 b = t 10 b := rfl
theorem up_7_11 {t : TT} {a b : Nat} {v : Int32} : up2 t 7 a v 11 b = t 11 b := rfl
theorem up_7_12 {t : TT} {a b : Nat} {v : Int32} : up2 t 7 a v 12 b = t 12 b := rfl
theorem up_7_13 {t : TT} {a b : Nat} {v : Int32} : up2 t 7 a v 13 b = t 13 b := rfl
theorem up_7_14 {t : TT} {a b : Nat} {v : Int32} : up2 t 7 a v 14 b = t 14 b := rfl
theorem up_7_15 {t : TT} {a b : Nat} {v : Int32} : up2 t 7 a v 15 b = t 15 b := rfl
theorem up_7_16 {t : TT} {a b : Nat} {v : Int32} : up2 t 7 a v 16 b = t 16 b := rfl
theorem up_7_17 {t : TT} {a b : Nat} {v : Int32} : up2 t 7 a v 17 b = t 17 b := rfl
theorem up_7_18 {t : TT} {a b : Nat} {v : Int32} : up2 t 7 a v 18 b = t 18 b := rfl
theorem up_7_19 {t : TT} {a b : Nat} {v : Int32} : up2 t 7 a v 19 b = t 19 b := rfl
theorem up_7_20 {t : TT} {a b : Nat} {v : Int32} : up2 t 7 a v 20 b = t 20 b := rfl
theorem up_7_21 {t : TT} {a b : Nat} {v : Int32} : up2 t 7 a v 21 b = t 21 b := rfl
theorem up_7_22 {t : TT} {a b : Nat} {v : Int32} : up2 t 7 a v 22 b = t 22 b := rfl
theorem up_7_23 {t : TT} {a b : Nat} {v : Int32} : up2 t 7 a v 23 b = t 23 b := rfl
theorem up_7_24 {t : TT} {a b : Nat} {v : Int32} : up2 t 7 a v 24 b = t 24 b := rfl
theorem up_7_25 {t : TT} {a b : Nat} {v : Int32} : up2 t 7 a v 25 b = t 25 b := rfl
theorem up_7_26 {t : TT} {a b : Nat} {v : Int32} : up2 t 7 a v 26 b = t 26 b := rfl
theorem up_7_27 {t : TT} {a b : Nat} {v : Int32} : up2 t 7 a v 27 b = t 27 b := rfl
theorem up_7_28 {t : TT} {a b : Nat} {v : Int32} : up2 t 7 a v 28 b = t 28 b := rfl
theorem up_7_29 {t : TT} {a b : Nat} {v : Int32} : up2 t 7 a v 29 b = t 29 b := rfl
theorem up_7_30 {t : TT} {a b : Nat} {v : Int32} : up2 t 7 a v 30 b = t 30 b := rfl
theorem up_7_31 {t : TT} {a b : Nat} {v : Int32} : up2 t 7 a v 31 b = t 31 b := rfl
theorem up_7_32 {t : TT} {a b : Nat} {v : Int32} : up2 t 7 a v 32 b = t 32 b := rfl
theorem up_7_33 {t : TT} {a b : Nat} {v : Int32} : up2 t 7 a v 33 b = t 33 b := rfl
theorem up_7_34 {t : TT} {a b : Nat} {v : Int32} : up2 t 7 a v 34 b = t 34 b := rfl
theorem up_7_35 {t : TT} {a b : Nat} {v : Int32} : up2 t 7 a v 35 b = t 35 b := rfl
theorem up_7_36 {t : TT} {a b : Nat} {v : Int32} : up2 t 7 a v 36 b = t 36 b := rfl
theorem up_8_1 {t : TT} {a b : Nat} {v : Int32} : up2 t 8 a v 1 b = t 1 b := rfl
theorem up_8_2 {t : TT} {a b : Nat} {v : Int32} : up2 t 8 a v 2 b = t 2 b := rfl
theorem up_8_3 {t : TT} {a b : Nat} {v : Int32} : up2 t 8 a v 3 b = t 3 b := rfl
theorem up_8_4 {t : TT} {a b : Nat} {v : Int32} : up2 t 8 a v 4 b = t 4 b := rfl
theorem up_8_5 {t : TT} {a b : Nat} {v : Int32} : up2 t 8 a v 5 b = t 5 b := rfl
theorem up_8_6 {t : TT} {a b : Nat} {v : Int32} : up2 t 8 a v 6 b = t 6 b := rfl
theorem up_8_7 {t : TT} {a b : Nat} {v : Int32} : up2 t 8 a v 7 b = t 7 b := rfl
theorem up_8_10 {t : TT} {a b : Nat} {v : Int32} : up2 t 8 a v 10 b = t 10 b := rfl
theorem up_8_11 {t : TT} {a b : Nat} {v : Int32} : up2 t 8 a v 11 b = t 11 b := rfl
theorem up_8_12 {t : TT} {a b : Nat} {v : Int32} : up2 t 8 a v 12 b = t 12 b := rfl
theorem up_8_13 {t : TT} {a b : Nat} {v : Int32} : up2 t 8 a v 13 b = t 13 b := rfl
theorem up_8_14 {t : TT} {a b : Nat} {v : Int32} : up2 t 8 a v 14 b = t 14 b := rfl
theorem up_8_15 {t : TT} {a b : Nat} {v : Int32} : up2 t 8 a v 15 b = t 15 b := rfl
theorem up_8_16 {t : TT} {a b : Nat} {v : Int32} : up2 t 8 a v 16 b = t 16 b := rfl
theorem up_8_17 {t : TT} {a b : Nat} {v : Int32} : up2 t 8 a v 17 b = t 17 b := rfl
theorem up_8_18 {t : TT} {a b : Nat} {v : Int32} : up2 t 8 a v 18 b = t 18 b := rfl
theorem up_8_19 {t : TT} {a b : Nat} {v : Int32} : up2 t 8 a v 19 b = t 19 b := rfl
theorem up_8_20 {t : TT} {a b : Nat} {v : Int32} : up2 t 8 a v 20 b = t 20 b := rfl
theorem up_8_21 {t : TT} {a b : Nat} {v : Int32} : up2 t 8 a v 21 b = t 21 b := rfl
theorem up_8_22 {t : TT} {a b : Nat} {v : Int32} : up2 t 8 a v 22 b = t 22 b := rfl
theorem up_8_23 {t : TT} {a b : Nat} {v : Int32} : up2 t 8 a v 23 b = t 23 b := rfl
theorem up_8_24 {t : TT} {a b : Nat} {v : Int32} : up2 t 8 a v 24 b = t 24 b := rfl
theorem up_8_25 {t : TT} {a b : Nat} {v : Int32} : up2 t 8 a v 25 b = t 25 b := rfl
theorem up_8_26 {t : TT} {a b : Nat} {v : Int32} : up2 t 8 a v 26 b = t 26 b := rfl
theorem up_8_27 {t : TT} {a b : Nat} {v : Int32} : up2 t 8 a v 27 b = t 27 b := rfl
theorem up_8_28 {t : TT} {a b : Nat} {v : Int32} : up2 t 8 a v 28 b = t 28 b := rfl
theorem up_8_29 {t : TT} {a b : Nat} {v : Int32} : up2 t 8 a v 29 b = t 29 b := rfl
theorem up_8_30 {t : TT} {a b : Nat} {v : Int32} : up2 t 8 a v 30 b = t 30 b := rfl
theorem up_8_31 {t : TT} {a b : Nat} {v : Int32} : up2 t 8 a v 31 b = t 31 b := rfl
theorem up_8_32 {t : TT} {a b : Nat} {v : Int32} : up2 t 8 a v 32 b = t 32 b := rfl
theorem up_8_33 {t : TT} {a b : Nat} {v : Int32} : up2 t 8 a v 33 b = t 33 b := rfl
theorem up_8_34 {t : TT} {a b : Nat} {v : Int32} : up2 t 8 a v 34 b = t 34 b := rfl
theorem up_8_35 {t : TT} {a b : Nat} {v : Int32} : up2 t 8 a v 35 b = t 35 b := rfl
theorem up_8_36 {t : TT} {a b : Nat} {v : Int32} : up2 t 8 a v 36 b = t 36 b := rfl
theorem up_10_1 {t : TT} {a b : Nat} {v : Int32} : up2 t 10 a v 1 b = t 1 b := rfl
theorem up_10_2 {t : TT} {a b : Nat} {v : Int32} : up2 t 10 a v 2 b = t 2 b := rfl
theorem up_10_3 {t : TT} {a b : Nat} {v : Int32} : up2 t 10 a v 3 b = t 3 b := rfl
theorem up_10_4 {t : TT} {a b : Nat} {v : Int32} : up2 t 10 a v 4 b = t 4 b := rfl
theorem up_10_5 {t : TT} {a b : Nat} {v : Int32} : up2 t 10 a v 5 b = t 5 b := rfl
theorem up_10_6 {t : TT} {a b : Nat} {v : Int32} : up2 t 10 a v 6 b = t 6 b := rfl
theorem up_10_7 {t : TT} {a b : Nat} {v : Int32} : up2 t 10 a v 7 b = t 7 b := rfl
theorem up_10_8 {t : TT} {a b : Nat} {v : Int32} : up2 t 10 a v 8 b = t 8 b := rfl
theorem up_10_11 {t : TT} {a b : Nat} {v : Int32} : up2 t 10 a v 11 b = t 11 b := rfl
theorem up_10_12 {t : TT} {a b : Nat} {v : Int32} : up2 t 10 a v 12 b = t 12 b := rfl
theorem up_10_13 {t : TT} {a b : Nat} {v : Int32} : up2 t 10 a v 13 b = t 13 b := rfl
theorem up_10_14 {t : TT} {a b : Nat} {v : Int32} : up2 t 10 a v 14 b = t 14 b := rfl
theorem up_10_15 {t : TT} {a b : Nat} {v : Int32} : up2 t 10 a v 15 b = t 15 b := rfl
theorem up_10_16 {t : TT} {a b : Nat} {v : Int32} : up2 t 10 a v 16 b = t 16 b := rfl
theorem up_10_17 {t : TT} {a b : Nat} {v : Int32} : up2 t 10 a v 17 b = t 17 b := rfl
theorem up_10_18 {t : TT} {a b : Nat} {v : Int32} : up2 t 10 a v 18 b = t 18 b := rfl
theorem up_10_19 {t : TT} {a b : Nat} {v : Int32} : up2 t 10 a v 19 b = t 19 b := rfl
theorem up_10_20 {t : TT} {a b : Nat} {v : Int32} : up2 t 10 a v 20 b = t 20 b := rfl
theorem up_10_21 {t : TT} {a b : Nat} {v : Int32} : up2 t 10 a v 21 b = t 21 b := rfl
theorem up_10_22 {t : TT} {a b : Nat} {v : Int32} : up2 t 10 a v 22 b = t 22 b := rfl
theorem up_10_23 {t : TT} {a b : Nat} {v : Int32} : up2 t 10 a v 23 b = t 23 b := rfl
theorem up_10_24 {t : TT} {a b : Nat} {v : Int32} : up2 t 10 a v 24 b = t 24 b := rfl
theorem up_10_25 {t : TT} {a b : Nat} {v : Int32} : up2 t 10 a v 25 b = t 25 b := rfl
theorem up_10_26 {t : TT} {a b : Nat} {v : Int32} : up2 t 10 a v 26 b = t 26 b := rfl
theorem up_10_27 {t : TT} {a b : Nat} {v : Int32} : up2 t 10 a v 27 b = t 27 b := rfl
theorem up_10_28 {t : TT} {a b : Nat} {v : Int32} : up2 t 10 a v 28 b = t 28 b := rfl
theorem up_10_29 {t : TT} {a b : Nat} {v : Int32} : up2 t 10 a v 29 b = t 29 b := rfl
theorem up_10_30 {t : TT} {a b : Nat} {v : Int32} : up2 t 10 a v 30 b = t 30 b := rfl
theorem up_10_31 {t : TT} {a b : Nat} {v : Int32} : up2 t 10 a v 31 b = t 31 b := rfl
theorem up_10_32 {t : TT} {a b : Nat} {v : Int32} : up2 t 10 a v 32 b = t 32 b := rfl
theorem up_10_33 {t : TT} {a b : Nat} {v : Int32} : up2 t 10 a v 33 b = t 33 b := rfl
theorem up_10_34 {t : TT} {a b : Nat} {v : Int32} : up2 t 10 a v 34 b = t 34 b := rfl
theorem up_10_35 {t : TT} {a b : Nat} {v : Int32} : up2 t 10 a v 35 b = t 35 b := rfl
theorem up_10_36 {t : TT} {a b : Nat} {v : Int32} : up2 t 10 a v 36 b = t 36 b := rfl
theorem up_11_1 {t : TT} {a b : Nat} {v : Int32} : up2 t 11 a v 1 b = t 1 b := rfl
theorem up_11_2 {t : TT} {a b : Nat} {v : Int32} : up2 t 11 a v 2 b = t 2 b := rfl
theorem up_11_3 {t : TT} {a b : Nat} {v : Int32} : up2 t 11 a v 3 b = t 3 b := rfl
theorem up_11_4 {t : TT} {a b : Nat} {v : Int32} : up2 t 11 a v 4 b = t 4 b := rfl
theorem up_11_5 {t : TT} {a b : Nat} {v : Int32} : up2 t 11 a v 5 b = t 5 b := rfl
theorem up_11_6 {t : TT} {a b : Nat} {v : Int32} : up2 t 11 a v 6 b = t 6 b := rfl
theorem up_11_7 {t : TT} {a b : Nat} {v : Int32} : up2 t 11 a v 7 b = t 7 b := rfl
theorem up_11_8 {t : TT} {a b : Nat} {v : Int32} : up2 t 11 a v 8 b = t 8 b := rfl
theorem up_11_10 {t : TT} {a b : Nat} {v : Int32} : up2 t 11 a v 10 b = t 10 b := rfl
theorem up_11_12 {t : TT} {a b : Nat} {v : Int32} : up2 t 11 a v 12 b = t 12 b := rfl
theorem up_11_13 {t : TT} {a b : Nat} {v : Int32} : up2 t 11 a v 13 b = t 13 b := rfl
theorem up_11_14 {t : TT} {a b : Nat} {v : Int32} : up2 t 11 a v 14 b = t 14 b := rfl
theorem up_11_15 {t : TT} {a b : Nat} {v : Int32} : up2 t 11 a v 15 b = t 15 b := rfl
theorem up_11_16 {t : TT} {a b : Nat} {v : Int32} : up2 t 11 a v 16 b = t 16 b := rfl
theorem up_11_17 {t : TT} {a b : Nat} {v : Int32} : up2 t 11 a v 17 b = t 17 b := rfl
theorem up_11_18 {t : TT} {a b : Nat} {v : Int32} : up2 t 11 a v 18 b = t 18 b := rfl
theorem up_11_19 {t : TT} {a b : Nat} {v : Int32} : up2 t 11 a v 19 b = t 19 b := rfl
theorem up_11_20 {t : TT} {a b : Nat} {v : Int32} : up2 t 11 a v 20 b = t 20 b := rfl
theorem up_11_21 {t : TT} {a b : Nat} {v : Int32} : up2 t 11 a v 21 b = t 21 b := rfl
theorem up_11_22 {t : TT} {a b : Nat} {v : Int32} : up2 t 11 a v 22 b = t 22 b := rfl
theorem up_11_23 {t : TT} {a b : Nat} {v : Int32} : up2 t 11 a v 23 b = t 23 b := rfl
theorem up_11_24 {t : TT} {a b : Nat} {v : Int32} : up2 t 11 a v 24 b = t 24 b := rfl
theorem up_11_25 {t : TT} {a b : Nat} {v : Int32} : up2 t 11 a v 25 b = t 25 b := rfl
theorem up_11_26 {t : TT} {a b : Nat} {v : Int32} : up2 t 11 a v 26 b = t 26 b := rfl
theorem up_11_27 {t : TT} {a b : Nat} {v : Int32} : up2 t 11 a v 27 b = t 27 b := rfl
theorem up_11_28 {t : TT} {a b : Nat} {v : Int32} : up2 t 11 a v 28 b = t 28 b := rfl
theorem up_11_29 {t : TT} {a b : Nat} {v : Int32} : up2 t 11 a v 29 b = t 29 b := rfl
theorem up_11_30 {t : TT} {a b : Nat} {v : Int32} : up2 t 11 a v 30 b = t 30 b := rfl
theorem up_11_31 {t : TT} {a b : Nat} {v : Int32} : up2 t 11 a v 31 b = t 31 b := rfl
theorem up_11_32 {t : TT} {a b : Nat} {v : Int32} : up2 t 11 a v 32 b = t 32 b := rfl
theorem up_11_33 {t : TT} {a b : Nat} {v : Int32} : up2 t 11 a v 33 b = t 33 b := rfl
theorem up_11_34 {t : TT} {a b : Nat} {v : Int32} : up2 t 11 a v 34 b = t 34 b := rfl
theorem up_11_35 {t : TT} {a b : Nat} {v : Int32} : up2 t 11 a v 35 b = t 35 b := rfl
theorem up_11_36 {t : TT} {a b : Nat} {v : Int32} : up2 t 11 a v 36 b = t 36 b := rfl
theorem up_12_1 {t : TT} {a b : Nat} {v : Int32} : up2 t 12 a v 1 b = t 1 b := rfl
theorem up_12_2 {t : TT} {a b : Nat} {v : Int32} : up2 t 12 a v 2 b = t 2 b := rfl
theorem up_12_3 {t : TT} {a b : Nat} {v : Int32} : up2 t 12 a v 3 b = t 3 b := rfl
theorem up_12_4 {t : TT} {a b : Nat} {v : Int32} : up2 t 12 a v 4 b = t 4 b := rfl
theorem up_12_5 {t : TT} {a b : Nat} {v : Int32} : up2 t 12 a v 5 b = t 5 b := rfl
theorem up_12_6 {t : TT} {a b : Nat} {v : Int32} : up2 t 12 a v 6 b = t 6 b := rfl
theorem up_12_7 {t : TT} {a b : Nat} {v : Int32} : up2 t 12 a v 7 b = t 7 b := rfl
theorem up_12_8 {t : TT} {a b : Nat} {v : Int32} : up2 t 12 a v 8 b = t 8 b := rfl
theorem up_12_10 {t : TT} {a b : Nat} {v : Int32} : up2 t 12 a v 10 b = t 10 b := rfl
theorem up_12_11 {t : TT} {a b : Nat} {v : Int32} : up2 t 12 a v 11 b = t 11 b := rfl
theorem up_12_13 {t : TT} {a b : Nat} {v : Int32} : up2 t 12 a v 13 b = t 13 b := rfl
theorem up_12_14 {t : TT} {a b : Nat} {v : Int32} : up2 t 12 a v 14 b = t 14 b := rfl
theorem up_12_15 {t : TT} {a b : Nat} {v : Int32} : up2 t 12 a v 15 b = t 15 b := rfl
theorem up_12_16 {t : TT} {a b : Nat} {v : Int32} : up2 t 12 a v 16 b = t 16 b := rfl
theorem up_12_17 {t : TT} {a b : Nat} {v : Int32} : up2 t 12 a v 17 b = t 17 b := rfl
theorem up_12_18 {t : TT} {a b : Nat} {v : Int32} : up2 t 12 a v 18 b = t 18 b := rfl
theorem up_12_19 {t : TT} {a b : Nat} {v : Int32} : up2 t 12 a v 19 b = t 19 b := rfl
theorem up_12_20 {t : TT} {a b : Nat} {v : Int32} : up2 t 12 a v 20 b = t 20 b := rfl
theorem up_12_21 {t : TT} {a b : Nat} {v : Int32} : up2 t 12 a v 21 b = t 21 b := rfl
theorem up_12_22 {t : TT} {a b : Nat} {v : Int32} : up2 t 12 a v 22 b = t 22 b := rfl
theorem up_12_23 {t : TT} {a b : Nat} {v : Int32} : up2 t 12 a v 23 b = t 23 b := rfl
theorem up_12_24 {t : TT} {a b : Nat} {v : Int32} : up2 t 12 a v 24 b = t 24 b := rfl
theorem up_12_25 {t : TT} {a b : Nat} {v : Int32} : up2 t 12 a v 25 b = t 25 b := rfl
theorem up_12_26 {t : TT} {a b : Nat} {v : Int32} : up2 t 12 a v 26 b = t 26 b := rfl
theorem up_12_27 {t : TT} {a b : Nat} {v : Int32} : up2 t 12 a v 27 b = t 27 b := rfl
theorem up_12_28 {t : TT} {a b : Nat} {v : Int32} : up2 t 12 a v 28 b = t 28 b := rfl
theorem up_12_29 {t : TT} {a b : Nat} {v : Int32} : up2 t 12 a v 29 b = t 29 b := rfl
theorem up_12_30 {t : TT} {a b : Nat} {v : Int32} : up2 t 12 a v 30 b = t 30 b := rfl
theorem up_12_31 {t : TT} {a b : Nat} {v : Int32} : up2 t 12 a v 31 b = t 31 b := rfl
theorem up_12_32 {t : TT} {a b : Nat} {v : Int32} : up2 t 12 a v 32 b = t 32 b := rfl
theorem up_12_33 {t : TT} {a b : Nat} {v : Int32} : up2 t 12 a v 33 b = t 33 b := rfl
theorem up_12_34 {t : TT} {a b : Nat} {v : Int32} : up2 t 12 a v 34 b = t 34 b := rfl
theorem up_12_35 {t : TT} {a b : Nat} {v : Int32} : up2 t 12 a v 35 b = t 35 b := rfl
theorem up_12_36 {t : TT} {a b : Nat} {v : Int32} : up2 t 12 a v 36 b = t 36 b := rfl
theorem up_13_1 {t : TT} {a b : Nat} {v : Int32} : up2 t 13 a v 1 b = t 1 b := rfl
theorem up_13_2 {t : TT} {a b : Nat} {v : Int32} : up2 t 13 a v 2 b = t 2 b := rfl
theorem up_13_3 {t : TT} {a b : Nat} {v : Int32} : up2 t 13 a v 3 b = t 3 b := rfl
theorem up_13_4 {t : TT} {a b : Nat} {v : Int32} : up2 t 13 a v 4 b = t 4 b := rfl
theorem up_13_5 {t : TT} {a b : Nat} {v : Int32} : up2 t 13 a v 5 b = t 5 b := rfl
theorem up_13_6 {t : TT} {a b : Nat} {v : Int32} : up2 t 13 a v 6 b = t 6 b := rfl
theorem up_13_7 {t : TT} {a b : Nat} {v : Int32} : up2 t 13 a v 7 b = t 7 b := rfl
theorem up_13_8 {t : TT} {a b : Nat} {v : Int32} : up2 t 13 a v 8 b = t 8 b := rfl
theorem up_13_10 {t : TT} {a b : Nat} {v : Int32} : up2 t 13 a v 10 b = t 10 b := rfl
theorem up_13_11 {t : TT} {a b : Nat} {v : Int32} : up2 t 13 a v 11 b = t 11 b := rfl
theorem up_13_12 {t : TT} {a b : Nat} {v : Int32} : up2 t 13 a v 12 b = t 12 b := rfl
theorem up_13_14 {t : TT} {a b : Nat} {v : Int32} : up2 t 13 a v 14 b = t 14 b := rfl
theorem up_13_15 {t : TT} {a b : Nat} {v : Int32} : up2 t 13 a v 15 b = t 15 b := rfl
theorem up_13_16 {t : TT} {a b : Nat} {v : Int32} : up2 t 13 a v 16 b = t 16 b := rfl
theorem up_13_17 {t : TT} {a b : Nat} {v : Int32} : up2 t 13 a v 17 b = t 17 b := rfl
theorem up_13_18 {t : TT} {a b : Nat} {v : Int32} : up2 t 13 a v 18 b = t 18 b := rfl
theorem up_13_19 {t : TT} {a b : Nat} {v : Int32} : up2 t 13 a v 19 b = t 19 b := rfl
theorem up_13_20 {t : TT} {a b : Nat} {v : Int32} : up2 t 13 a v 20 b = t 20 b := rfl
theorem up_13_21 {t : TT} {a b : Nat} {v : Int32} : up2 t 13 a v 21 b = t 21 b := rfl
theorem up_13_22 {t : TT} {a b : Nat} {v : Int32} : up2 t 13 a v 22 b = t 22 b := rfl
theorem up_13_23 {t : TT} {a b : Nat} {v : Int32} : up2 t 13 a v 23 b = t 23 b := rfl
theorem up_13_24 {t : TT} {a b : Nat} {v : Int32} : up2 t 13 a v 24 b = t 24 b := rfl
theorem up_13_25 {t : TT} {a b : Nat} {v : Int32} : up2 t 13 a v 25 b = t 25 b := rfl
theorem up_13_26 {t : TT} {a b : Nat} {v : Int32} : up2 t 13 a v 26 b = t 26 b := rfl
theorem up_13_27 {t : TT} {a b : Nat} {v : Int32} : up2 t 13 a v 27 b = t 27 b := rfl
theorem up_13_28 {t : TT} {a b : Nat} {v : Int32} : up2 t 13 a v 28 b = t 28 b := rfl
theorem up_13_29 {t : TT} {a b : Nat} {v : Int32} : up2 t 13 a v 29 b = t 29 b := rfl
theorem up_13_30 {t : TT} {a b : Nat} {v : Int32} : up2 t 13 a v 30 b = t 30 b := rfl
theorem up_13_31 {t : TT} {a b : Nat} {v : Int32} : up2 t 13 a v 31 b = t 31 b := rfl
theorem up_13_32 {t : TT} {a b : Nat} {v : Int32} : up2 t 13 a v 32 b = t 32 b := rfl
theorem up_13_33 {t : TT} {a b : Nat} {v : Int32} : up2 t 13 a v 33 b = t 33 b := rfl
theorem up_13_34 {t : TT} {a b : Nat} {v : Int32} : up2 t 13 a v 34 b = t 34 b := rfl
theorem up_13_35 {t : TT} {a b : Nat} {v : Int32} : up2 t 13 a v 35 b = t 35 b := rfl
theorem up_13_36 {t : TT} {a b : Nat} {v : Int32} : up2 t 13 a v 36 b = t 36 b := rfl
theorem up_14_1 {t : TT} {a b : Nat} {v : Int32} : up2 t 14 a v 1 b = t 1 b := rfl
theorem up_14_2 {t : TT} {a b : Nat} {v : Int32} : up2 t 14 a v 2 b = t 2 b := rfl
theorem up_14_3 {t : TT} {a b : Nat} {v : Int32} : up2 t 14 a v 3 b = t 3 b := rfl
theorem up_14_4 {t : TT} {a b : Nat} {v : Int32} : up2 t 14 a v 4 b = t 4 b := rfl
theorem up_14_5 {t : TT} {a b : Nat} {v : Int32} : up2 t 14 a v 5 b = t 5 b := rfl
theorem up_14_6 {t : TT} {a b : Nat} {v : Int32} : up2 t 14 a v 6 b = t 6 b := rfl
theorem up_14_7 {t : TT} {a b : Nat} {v : Int32} : up2 t 14 a v 7 b = t 7 b := rfl
theorem up_14_8 {t : TT} {a b : Nat} {v : Int32} : up2 t 14 a v 8 b = t 8 b := rfl
theorem up_14_10 {t : TT} {a b : Nat} {v : Int32} : up2 t 14 a v 10 b = t 10 b := rfl
theorem up_14_11 {t : TT} {a b : Nat} {v : Int32} : up2 t 14 a v 11 b = t 11 b := rfl
theorem up_14_12 {t : TT} {a b : Nat} {v : Int32} : up2 t 14 a v 12 b = t 12 b := rfl
theorem up_14_13 {t : TT} {a b : Nat} {v : Int32} : up2 t 14 a v 13 b = t 13 b := rfl
theorem up_14_15 {t : TT} {a b : Nat} {v : Int32} : up2 t 14 a v 15 b = t 15 b := rfl
theorem up_14_16 {t : TT} {a b : Nat} {v : Int32} : up2 t 14 a v 16 b = t 16 b := rfl
theorem up_14_17 {t : TT} {a b : Nat} {v : Int32} : up2 t 14 a v 17 b = t 17 b := rfl
theorem up_14_18 {t : TT} {a b : Nat} {v : Int32} : up2 t 14 a v 18 b = t 18 b := rfl
theorem up_14_19 {t : TT} {a b : Nat} {v : Int32} : up2 t 14 a v 19 b = t 19 b := rfl
theorem up_14_20 {t : TT} {a b : Nat} {v : Int32} : up2 t 14 a v 20 b = t 20 b := rfl
theorem up_14_21 {t : TT} {a b : Nat} {v : Int32} : up2 t 14 a v 21 b = t 21 b := rfl
theorem up_14_22 {t : TT} {a b : Nat} {v : Int32} : up2 t 14 a v 22 b = t 22 b := rfl
theorem up_14_23 {t : TT} {a b : Nat} {v : Int32} : up2 t 14 a v 23 b = t 23 b := rfl
theorem up_14_24 {t : TT} {a b : Nat} {v : Int32} : up2 t 14 a v 24 b = t 24 b := rfl
theorem up_14_25 {t : TT} {a b : Nat} {v : Int32} : up2 t 14 a v 25 b = t 25 b := rfl
theorem up_14_26 {t : TT} {a b : Nat} {v : Int32} : up2 t 14 a v 26 b = t 26 b := rfl
theorem up_14_27 {t : TT} {a b : Nat} {v : Int32} : up2 t 14 a v 27 b = t 27 b := rfl
theorem up_14_28 {t : TT} {a b : Nat} {v : Int32} : up2 t 14 a v 28 b = t 28 b := rfl
theorem up_14_29 {t : TT} {a b : Nat} {v : Int32} : up2 t 14 a v 29 b = t 29 b := rfl
theorem up_14_30 {t : TT} {a b : Nat} {v : Int32} : up2 t 14 a v 30 b = t 30 b := rfl
theorem up_14_31 {t : TT} {a b : Nat} {v : Int32} : up2 t 14 a v 31 b = t 31 b := rfl
theorem up_14_32 {t : TT} {a b : Nat} {v : Int32} : up2 t 14 a v 32 b = t 32 b := rfl
theorem up_14_33 {t : TT} {a b : Nat} {v : Int32} : up2 t 14 a v 33 b = t 33 b := rfl
theorem up_14_34 {t : TT} {a b : Nat} {v : Int32} : up2 t 14 a v 34 b = t 34 b := rfl
theorem up_14_35 {t : TT} {a b : Nat} {v : Int32} : up2 t 14 a v 35 b = t 35 b := rfl
theorem up_14_36 {t : TT} {a b : Nat} {v : Int32} : up2 t 14 a v 36 b = t 36 b := rfl
theorem up_15_1 {t : TT} {a b : Nat} {v : Int32} : up2 t 15 a v 1 b = t 1 b := rfl
theorem up_15_2 {t : TT} {a b : Nat} {v : Int32} : up2 t 15 a v 2 b = t 2 b := rfl
theorem up_15_3 {t : TT} {a b : Nat} {v : Int32} : up2 t 15 a v 3 b = t 3 b := rfl
theorem up_15_4 {t : TT} {a b : Nat} {v : Int32} : up2 t 15 a v 4 b = t 4 b := rfl
theorem up_15_5 {t : TT} {a b : Nat} {v : Int32} : up2 t 15 a v 5 b = t 5 b := rfl
theorem up_15_6 {t : TT} {a b : Nat} {v : Int32} : up2 t 15 a v 6 b = t 6 b := rfl
theorem up_15_7 {t : TT} {a b : Nat} {v : Int32} : up2 t 15 a v 7 b = t 7 b := rfl
theorem up_15_8 {t : TT} {a b : Nat} {v : Int32} : up2 t 15 a v 8 b = t 8 b := rfl
theorem up_15_10 {t : TT} {a b : Nat} {v : Int32} : up2 t 15 a v 10 b = t 10 b := rfl
theorem up_15_11 {t : TT} {a b : Nat} {v : Int32} : up2 t 15 a v 11 b = t 11 b := rfl
theorem up_15_12 {t : TT} {a b : Nat} {v : Int32} : up2 t 15 a v 12 b = t 12 b := rfl
theorem up_15_13 {t : TT} {a b : Nat} {v : Int32} : up2 t 15 a v 13 b = t 13 b := rfl
theorem up_15_14 {t : TT} {a b : Nat} {v : Int32} : up2 t 15 a v 14 b = t 14 b := rfl
theorem up_15_16 {t : TT} {a b : Nat} {v : Int32} : up2 t 15 a v 16 b = t 16 b := rfl
theorem up_15_17 {t : TT} {a b : Nat} {v : Int32} : up2 t 15 a v 17 b = t 17 b := rfl
theorem up_15_18 {t : TT} {a b : Nat} {v : Int32} : up2 t 15 a v 18 b = t 18 b := rfl
theorem up_15_19 {t : TT} {a b : Nat} {v : Int32} : up2 t 15 a v 19 b = t 19 b := rfl
theorem up_15_20 {t : TT} {a b : Nat} {v : Int32} : up2 t 15 a v 20 b = t 20 b := rfl
theorem up_15_21 {t : TT} {a b : Nat} {v : Int32} : up2 t 15 a v 21 b = t 21 b := rfl
theorem up_15_22 {t : TT} {a b : Nat} {v : Int32} : up2 t 15 a v 22 b = t 22 b := rfl
theorem up_15_23 {t : TT} {a b : Nat} {v : Int32} : up2 t 15 a v 23 b = t 23 b := rfl
theorem up_15_24 {t : TT} {a b : Nat} {v : Int32} : up2 t 15 a v 24 b = t 24 b := rfl
theorem up_15_25 {t : TT} {a b : Nat} {v : Int32} : up2 t 15 a v 25 b = t 25 b := rfl
theorem up_15_26 {t : TT} {a b : Nat} {v : Int32} : up2 t 15 a v 26 b = t 26 b := rfl
theorem up_15_27 {t : TT} {a b : Nat} {v : Int32} : up2 t 15 a v 27 b = t 27 b := rfl
theorem up_15_28 {t : TT} {a b : Nat} {v : Int32} : up2 t 15 a v 28 b = t 28 b := rfl
theorem up_15_29 {t : TT} {a b : Nat} {v : Int32} : up2 t 15 a v 29 b = t 29 b := rfl
theorem up_15_30 {t : TT} {a b : Nat} {v : Int32} : up2 t 15 a v 30 b = t 30 b := rfl
theorem up_15_31 {t : TT} {a b : Nat} {v : Int32} : up2 t 15 a v 31 b = t 31 b := rfl
theorem up_15_32 {t : TT} {a b : Nat} {v : Int32} : up2 t 15 a v 32 b = t 32 b := rfl
theorem up_15_33 {t : TT} {a b : Nat} {v : Int32} : up2 t 15 a v 33 b = t 33 b := rfl
theorem up_15_34 {t : TT} {a b : Nat} {v : Int32} : up2 t 15 a v 34 b = t 34 b := rfl
theorem up_15_35 {t : TT} {a b : Nat} {v : Int32} : up2 t 15 a v 35 b = t 35 b := rfl
theorem up_15_36 {t : TT} {a b : Nat} {v : Int32} : up2 t 15 a v 36 b = t 36 b := rfl
theorem up_16_1 {t : TT} {a b : Nat} {v : Int32} : up2 t 16 a v 1 b = t 1 b := rfl
theorem up_16_2 {t : TT} {a b : Nat} {v : Int32} : up2 t 16 a v 2 b = t 2 b := rfl
theorem up_16_3 {t : TT} {a b : Nat} {v : Int32} : up2 t 16 a v 3 b = t 3 b := rfl
theorem up_16_4 {t : TT} {a b : Nat} {v : Int32} : up2 t 16 a v 4 b = t 4 b := rfl
theorem up_16_5 {t : TT} {a b : Nat} {v : Int32} : up2 t 16 a v 5 b = t 5 b := rfl
theorem up_16_6 {t : TT} {a b : Nat} {v : Int32} : up2 t 16 a v 6 b = t 6 b := rfl
theorem up_16_7 {t : TT} {a b : Nat} {v : Int32} : up2 t 16 a v 7 b = t 7 b := rfl
theorem up_16_8 {t : TT} {a b : Nat} {v : Int32} : up2 t 16 a v 8 b = t 8 b := rfl
theorem up_16_10 {t : TT} {a b : Nat} {v : Int32} : up2 t 16 a v 10 b = t 10 b := rfl
theorem up_16_11 {t : TT} {a b : Nat} {v : Int32} : up2 t 16 a v 11 b = t 11 b := rfl
theorem up_16_12 {t : TT} {a b : Nat} {v : Int32} : up2 t 16 a v 12 b = t 12 b := rfl
theorem up_16_13 {t : TT} {a b : Nat} {v : Int32} : up2 t 16 a v 13 b = t 13 b := rfl
theorem up_16_14 {t : TT} {a b : Nat} {v : Int32} : up2 t 16 a v 14 b = t 14 b := rfl
theorem up_16_15 {t : TT} {a b : Nat} {v : Int32} : up2 t 16 a v 15 b = t 15 b := rfl
theorem up_16_17 {t : TT} {a b : Nat} {v : Int32} : up2 t 16 a v 17 b = t 17 b := rfl
theorem up_16_18 {t : TT} {a b : Nat} {v : Int32} : up2 t 16 a v 18 b = t 18 b := rfl
theorem up_16_19 {t : TT} {a b : Nat} {v : Int32} : up2 t 16 a v 19 b = t 19 b := rfl
theorem up_16_20 {t : TT} {a b : Nat} {v : Int32} : up2 t 16 a v 20 b = t 20 b := rfl
theorem up_16_21 {t : TT} {a b : Nat} {v : Int32} : up2 t 16 a v 21 b = t 21 b := rfl
theorem up_16_22 {t : TT} {a b : Nat} {v : Int32} : up2 t 16 a v 22 b = t 22 b := rfl
theorem up_16_23 {t : TT} {a b : Nat} {v : Int32} : up2 t 16 a v 23 b = t 23 b := rfl
theorem up_16_24 {t : TT} {a b : Nat} {v : Int32} : up2 t 16 a v 24 b = t 24 b := rfl
theorem up_16_25 {t : TT} {a b : Nat} {v : Int32} : up2 t 16 a v 25 b = t 25 b := rfl
theorem up_16_26 {t : TT} {a b : Nat} {v : Int32} : up2 t 16 a v 26 b = t 26 b := rfl
theorem up_16_27 {t : TT} {a b : Nat} {v : Int32} : up2 t 16 a v 27 b = t 27 b := rfl
theorem up_16_28 {t : TT} {a b : Nat} {v : Int32} : up2 t 16 a v 28 b = t 28 b := rfl
theorem up_16_29 {t : TT} {a b : Nat} {v : Int32} : up2 t 16 a v 29 b = t 29 b := rfl
theorem up_16_30 {t : TT} {a b : Nat} {v : Int32} : up2 t 16 a v 30 b = t 30 b := rfl
theorem up_16_31 {t : TT} {a b : Nat} {v : Int32} : up2 t 16 a v 31 b = t 31 b := rfl
theorem up_16_32 {t : TT} {a b : Nat} {v : Int32} : up2 t 16 a v 32 b = t 32 b := rfl
theorem up_16_33 {t : TT} {a b : Nat} {v : Int32} : up2 t 16 a v 33 b = t 33 b := rfl
theorem up_16_34 {t : TT} {a b : Nat} {v : Int32} : up2 t 16 a v 34 b = t 34 b := rfl
theorem up_16_35 {t : TT} {a b : Nat} {v : Int32} : up2 t 16 a v 35 b = t 35 b := rfl
theorem up_16_36 {t : TT} {a b : Nat} {v : Int32} : up2 t 16 a v 36 b = t 36 b := rfl
theorem up_17_1 {t : TT} {a b : Nat} {v : Int32} : up2 t 17 a v 1 b = t 1 b := rfl
theorem up_17_2 {t : TT} {a b : Nat} {v : Int32} : up2 t 17 a v 2 b = t 2 b := rfl
theorem up_17_3 {t : TT} {a b : Nat} {v : Int32} : up2 t 17 a v 3 b = t 3 b := rfl
theorem up_17_4 {t : TT} {a b : Nat} {v : Int32} : up2 t 17 a v 4 b = t 4 b := rfl
theorem up_17_5 {t : TT} {a b : Nat} {v : Int32} : up2 t 17 a v 5 b = t 5 b := rfl
theorem up_17_6 {t : TT} {a b : Nat} {v : Int32} : up2 t 17 a v 6 b = t 6 b := rfl
theorem up_17_7 {t : TT} {a b : Nat} {v : Int32} : up2 t 17 a v 7 b = t 7 b := rfl
theorem up_17_8 {t : TT} {a b : Nat} {v : Int32} : up2 t 17 a v 8 b = t 8 b := rfl
theorem up_17_10 {t : TT} {a b : Nat} {v : Int32} : up2 t 17 a v 10 b = t 10 b := rfl
theorem up_17_11 {t : TT} {a b : Nat} {v : Int32} : up2 t 17 a v 11 b = t 11 b := rfl
theorem up_17_12 {t : TT} {a b : Nat} {v : Int32} : up2 t 17 a v 12 b = t 12 b := rfl
theorem up_17_13 {t : TT} {a b : Nat} {v : Int32} : up2 t 17 a v 13 b = t 13 b := rfl
theorem up_17_14 {t : TT} {a b : Nat} {v : Int32} : up2 t 17 a v 14 b = t 14 b := rfl
theorem up_17_15 {t : TT} {a b : Nat} {v : Int32} : up2 t 17 a v 15 b = t 15 b := rfl
theorem up_17_16 {t : TT} {a b : Nat} {v : Int32} : up2 t 17 a v 16 b = t 16 b := rfl
theorem up_17_18 {t : TT} {a b : Nat} {v : Int32} : up2 t 17 a v 18 b = t 18 b := rfl
theorem up_17_19 {t : TT} {a b : Nat} {v : Int32} : up2 t 17 a v 19 b = t 19 b := rfl
theorem up_17_20 {t : TT} {a b : Nat} {v : Int32} : up2 t 17 a v 20 b = t 20 b := rfl
theorem up_17_21 {t : TT} {a b : Nat} {v : Int32} : up2 t 17 a v 21 b = t 21 b := rfl
theorem up_17_22 {t : TT} {a b : Nat} {v : Int32} : up2 t 17 a v 22 b = t 22 b := rfl
theorem up_17_23 {t : TT} {a b : Nat} {v : Int32} : up2 t 17 a v 23 b = t 23 b := rfl
theorem up_17_24 {t : TT} {a b : Nat} {v : Int32} : up2 t 17 a v 24 b = t 24 b := rfl
theorem up_17_25 {t : TT} {a b : Nat} {v : Int32} : up2 t 17 a v 25 b = t 25 b := rfl
theorem up_17_26 {t : TT} {a b : Nat} {v : Int32} : up2 t 17 a v 26 b = t 26 b := rfl
theorem up_17_27 {t : TT} {a b : Nat} {v : Int32} : up2 t 17 a v 27 b = t 27 b := rfl
theorem up_17_28 {t : TT} {a b : Nat} {v : Int32} : up2 t 17 a v 28 b = t 28 b := rfl
theorem up_17_29 {t : TT} {a b : Nat} {v : Int32} : up2 t 17 a v 29 b = t 29 b := rfl
theorem up_17_30 {t : TT} {a b : Nat} {v : Int32} : up2 t 17 a v 30 b = t 30 b := rfl
theorem up_17_31 {t : TT} {a b : Nat} {v : Int32} : up2 t 17 a v 31 b = t 31 b := rfl
theorem up_17_32 {t : TT} {a b : Nat} {v : Int32} : up2 t 17 a v 32 b = t 32 b := rfl
theorem up_17_33 {t : TT} {a b : Nat} {v : Int32} : up2 t 17 a v 33 b = t 33 b := rfl
theorem up_17_34 {t : TT} {a b : Nat} {v : Int32} : up2 t 17 a v 34 b = t 34 b := rfl
theorem up_17_35 {t : TT} {a b : Nat} {v : Int32} : up2 t 17 a v 35 b = t 35 b := rfl
theorem up_17_36 {t : TT} {a b : Nat} {v : Int32} : up2 t 17 a v 36 b = t 36 b := rfl
theorem up_18_1 {t : TT} {a b : Nat} {v : Int32} : up2 t 18 a v 1 b = t 1 b := rfl
theorem up_18_2 {t : TT} {a b : Nat} {v : Int32} : up2 t 18 a v 2 b = t 2 b := rfl
theorem up_18_3 {t : TT} {a b : Nat} {v : Int32} : up2 t 18 a v 3 b = t 3 b := rfl
theorem up_18_4 {t : TT} {a b : Nat} {v : Int32} : up2 t 18 a v 4 b = t 4 b := rfl
theorem up_18_5 {t : TT} {a b : Nat} {v : Int32} : up2 t 18 a v 5 b = t 5 b := rfl
theorem up_18_6 {t : TT} {a b : Nat} {v : Int32} : up2 t 18 a v 6 b = t 6 b := rfl
theorem up_18_7 {t : TT} {a b : Nat} {v : Int32} : up2 t 18 a v 7 b = t 7 b := rfl
theorem up_18_8 {t : TT} {a b : Nat} {v : Int32} : up2 t 18 a v 8 b = t 8 b := rfl
theorem up_18_10 {t : TT} {a b : Nat} {v : Int32} : up2 t 18 a v 10 b = t 10 b := rfl
theorem up_18_11 {t : TT} {a b : Nat} {v : Int32} : up2 t 18 a v 11 b = t 11 b := rfl
theorem up_18_12 {t : TT} {a b : Nat} {v : Int32} : up2 t 18 a v 12 b = t 12 b := rfl
theorem up_18_13 {t : TT} {a b : Nat} {v : Int32} : up2 t 18 a v 13 b = t 13 b := rfl
theorem up_18_14 {t : TT} {a b : Nat} {v : Int32} : up2 t 18 a v 14 b = t 14 b := rfl
theorem up_18_15 {t : TT} {a b : Nat} {v : Int32} : up2 t 18 a v 15 b = t 15 b := rfl
theorem up_18_16 {t : TT} {a b : Nat} {v : Int32} : up2 t 18 a v 16 b = t 16 b := rfl
theorem up_18_17 {t : TT} {a b : Nat} {v : Int32} : up2 t 18 a v 17 b = t 17 b := rfl
theorem up_18_19 {t : TT} {a b : Nat} {v : Int32} : up2 t 18 a v 19 b = t 19 b := rfl
theorem up_18_20 {t : TT} {a b : Nat} {v : Int32} : up2 t 18 a v 20 b = t 20 b := rfl
theorem up_18_21 {t : TT} {a b : Nat} {v : Int32} : up2 t 18 a v 21 b = t 21 b := rfl
theorem up_18_22 {t : TT} {a b : Nat} {v : Int32} : up2 t 18 a v 22 b = t 22 b := rfl
theorem up_18_23 {t : TT} {a b : Nat} {v : Int32} : up2 t 18 a v 23 b = t 23 b := rfl
theorem up_18_24 {t : TT} {a b : Nat} {v : Int32} : up2 t 18 a v 24 b = t 24 b := rfl
theorem up_18_25 {t : TT} {a b : Nat} {v : Int32} : up2 t 18 a v 25 b = t 25 b := rfl
theorem up_18_26 {t : TT} {a b : Nat} {v : Int32} : up2 t 18 a v 26 b = t 26 b := rfl
theorem up_18_27 {t : TT} {a b : Nat} {v : Int32} : up2 t 18 a v 27 b = t 27 b := rfl
theorem up_18_28 {t : TT} {a b : Nat} {v : Int32} : up2 t 18 a v 28 b = t 28 b := rfl
theorem up_18_29 {t : TT} {a b : Nat} {v : Int32} : up2 t 18 a v 29 b = t 29 b := rfl
theorem up_18_30 {t : TT} {a b : Nat} {v : Int32} : up2 t 18 a v 30 b = t 30 b := rfl
theorem up_18_31 {t : TT} {a b : Nat} {v : Int32} : up2 t 18 a v 31 b = t 31 b := rfl
theorem up_18_32 {t : TT} {a b : Nat} {v : Int32} : up2 t 18 a v 32 b = t 32 b := rfl
theorem up_18_33 {t : TT} {a b : Nat} {v : Int32} : up2 t 18 a v 33 b = t 33 b := rfl
theorem up_18_34 {t : TT} {a b : Nat} {v : Int32} : up2 t 18 a v 34 b = t 34 b := rfl
theorem up_18_35 {t : TT} {a b : Nat} {v : Int32} : up2 t 18 a v 35 b = t 35 b := rfl
theorem up_18_36 {t : TT} {a b : Nat} {v : Int32} : up2 t 18 a v 36 b = t 36 b := rfl
theorem up_19_1 {t : TT} {a b : Nat} {v : Int32} : up2 t 19 a v 1 b = t 1 b := rfl
theorem up_19_2 {t : TT} {a b : Nat} {v : Int32} : up2 t 19 a v 2 b = t 2 b := rfl
theorem up_19_3 {t : TT} {a b : Nat} {v : Int32} : up2 t 19 a v 3 b = t 3 b := rfl
theorem up_19_4 {t : TT} {a b : Nat} {v : Int32} : up2 t 19 a v 4 b = t 4 b := rfl
theorem up_19_5 {t : TT} {a b : Nat} {v : Int32} : up2 t 19 a v 5 b = t 5 b := rfl
theorem up_19_6 {t : TT} {a b : Nat} {v : Int32} : up2 t 19 a v 6 b = t 6 b := rfl
theorem up_19_7 {t : TT} {a b : Nat} {v : Int32} : up2 t 19 a v 7 b = t 7 b := rfl
theorem up_19_8 {t : TT} {a b : Nat} {v : Int32} : up2 t 19 a v 8 b = t 8 b := rfl
theorem up_19_10 {t : TT} {a b : Nat} {v : Int32} : up2 t 19 a v 10 b = t 10 b := rfl
theorem up_19_11 {t : TT} {a b : Nat} {v : Int32} : up2 t 19 a v 11 b = t 11 b := rfl
theorem up_19_12 {t : TT} {a b : Nat} {v : Int32} : up2 t 19 a v 12 b = t 12 b := rfl
theorem up_19_13 {t : TT} {a b : Nat} {v : Int32} : up2 t 19 a v 13 b = t 13 b := rfl
theorem up_19_14 {t : TT} {a b : Nat} {v : Int32} : up2 t 19 a v 14 b = t 14 b := rfl
theorem up_19_15 {t : TT} {a b : Nat} {v : Int32} : up2 t 19 a v 15 b = t 15 b := rfl
theorem up_19_16 {t : TT} {a b : Nat} {v : Int32} : up2 t 19 a v 16 b = t 16 b := rfl
theorem up_19_17 {t : TT} {a b : Nat} {v : Int32} : up2 t 19 a v 17 b = t 17 b := rfl
theorem up_19_18 {t : TT} {a b : Nat} {v : Int32} : up2 t 19 a v 18 b = t 18 b := rfl
theorem up_19_20 {t : TT} {a b : Nat} {v : Int32} : up2 t 19 a v 20 b = t 20 b := rfl
theorem up_19_21 {t : TT} {a b : Nat} {v : Int32} : up2 t 19 a v 21 b = t 21 b := rfl
theorem up_19_22 {t : TT} {a b : Nat} {v : Int32} : up2 t 19 a v 22 b = t 22 b := rfl
theorem up_19_23 {t : TT} {a b : Nat} {v : Int32} : up2 t 19 a v 23 b = t 23 b := rfl
theorem up_19_24 {t : TT} {a b : Nat} {v : Int32} : up2 t 19 a v 24 b = t 24 b := rfl
theorem up_19_25 {t : TT} {a b : Nat} {v : Int32} : up2 t 19 a v 25 b = t 25 b := rfl
theorem up_19_26 {t : TT} {a b : Nat} {v : Int32} : up2 t 19 a v 26 b = t 26 b := rfl
theorem up_19_27 {t : TT} {a b : Nat} {v : Int32} : up2 t 19 a v 27 b = t 27 b := rfl
theorem up_19_28 {t : TT} {a b : Nat} {v : Int32} : up2 t 19 a v 28 b = t 28 b := rfl
theorem up_19_29 {t : TT} {a b : Nat} {v : Int32} : up2 t 19 a v 29 b = t 29 b := rfl
theorem up_19_30 {t : TT} {a b : Nat} {v : Int32} : up2 t 19 a v 30 b = t 30 b := rfl
theorem up_19_31 {t : TT} {a b : Nat} {v : Int32} : up2 t 19 a v 31 b = t 31 b := rfl
theorem up_19_32 {t : TT} {a b : Nat} {v : Int32} : up2 t 19 a v 32 b = t 32 b := rfl
theorem up_19_33 {t : TT} {a b : Nat} {v : Int32} : up2 t 19 a v 33 b = t 33 b := rfl
theorem up_19_34 {t : TT} {a b : Nat} {v : Int32} : up2 t 19 a v 34 b = t 34 b := rfl
theorem up_19_35 {t : TT} {a b : Nat} {v : Int32} : up2 t 19 a v 35 b = t 35 b := rfl
theorem up_19_36 {t : TT} {a b : Nat} {v : Int32} : up2 t 19 a v 36 b = t 36 b := rfl
theorem up_20_1 {t : TT} {a b : Nat} {v : Int32} : up2 t 20 a v 1 b = t 1 b := rfl
theorem up_20_2 {t : TT} {a b : Nat} {v : Int32} : up2 t 20 a v 2 b = t 2 b := rfl
theorem up_20_3 {t : TT} {a b : Nat} {v : Int32} : up2 t 20 a v 3 b = t 3 b := rfl
theorem up_20_4 {t : TT} {a b : Nat} {v : Int32} : up2 t 20 a v 4 b = t 4 b := rfl
theorem up_20_5 {t : TT} {a b : Nat} {v : Int32} : up2 t 20 a v 5 b = t 5 b := rfl
theorem up_20_6 {t : TT} {a b : Nat} {v : Int32} : up2 t 20 a v 6 b = t 6 b := rfl
theorem up_20_7 {t : TT} {a b : Nat} {v : Int32} : up2 t 20 a v 7 b = t 7 b := rfl
theorem up_20_8 {t : TT} {a b : Nat} {v : Int32} : up2 t 20 a v 8 b = t 8 b := rfl
theorem up_20_10 {t : TT} {a b : Nat} {v : Int32} : up2 t 20 a v 10 b = t 10 b := rfl
theorem up_20_11 {t : TT} {a b : Nat} {v : Int32} : up2 t 20 a v 11 b = t 11 b := rfl
theorem up_20_12 {t : TT} {a b : Nat} {v : Int32} : up2 t 20 a v 12 b = t 12 b := rfl
theorem up_20_13 {t : TT} {a b : Nat} {v : Int32} : up2 t 20 a v 13 b = t 13 b := rfl
theorem up_20_14 {t : TT} {a b : Nat} {v : Int32} : up2 t 20 a v 14 b = t 14 b := rfl
theorem up_20_15 {t : TT} {a b : Nat} {v : Int32} : up2 t 20 a v 15 b = t 15 b := rfl
theorem up_20_16 {t : TT} {a b : Nat} {v : Int32} : up2 t 20 a v 16 b = t 16 b := rfl
theorem up_20_17 {t : TT} {a b : Nat} {v : Int32} : up2 t 20 a v 17 b = t 17 b := rfl
theorem up_20_18 {t : TT} {a b : Nat} {v : Int32} : up2 t 20 a v 18 b = t 18 b := rfl
theorem up_20_19 {t : TT} {a b : Nat} {v : Int32} : up2 t 20 a v 19 b = t 19 b := rfl
theorem up_20_21 {t : TT} {a b : Nat} {v : Int32} : up2 t 20 a v 21 b = t 21 b := rfl
theorem up_20_22 {t : TT} {a b : Nat} {v : Int32} : up2 t 20 a v 22 b = t 22 b := rfl
theorem up_20_23 {t : TT} {a b : Nat} {v : Int32} : up2 t 20 a v 23 b = t 23 b := rfl
theorem up_20_24 {t : TT} {a b : Nat} {v : Int32} : up2 t 20 a v 24 b = t 24 b := rfl
theorem up_20_25 {t : TT} {a b : Nat} {v : Int32} : up2 t 20 a v 25 b = t 25 b := rfl
theorem up_20_26 {t : TT} {a b : Nat} {v : Int32} : up2 t 20 a v 26 b = t 26 b := rfl
theorem up_20_27 {t : TT} {a b : Nat} {v : Int32} : up2 t 20 a v 27 b = t 27 b := rfl
theorem up_20_28 {t : TT} {a b : Nat} {v : Int32} : up2 t 20 a v 28 b = t 28 b := rfl
theorem up_20_29 {t : TT} {a b : Nat} {v : Int32} : up2 t 20 a v 29 b = t 29 b := rfl
theorem up_20_30 {t : TT} {a b : Nat} {v : Int32} : up2 t 20 a v 30 b = t 30 b := rfl
theorem up_20_31 {t : TT} {a b : Nat} {v : Int32} : up2 t 20 a v 31 b = t 31 b := rfl
theorem up_20_32 {t : TT} {a b : Nat} {v : Int32} : up2 t 20 a v 32 b = t 32 b := rfl
theorem up_20_33 {t : TT} {a b : Nat} {v : Int32} : up2 t 20 a v 33 b = t 33 b := rfl
theorem up_20_34 {t : TT} {a b : Nat} {v : Int32} : up2 t 20 a v 34 b = t 34 b := rfl
theorem up_20_35 {t : TT} {a b : Nat} {v : Int32} : up2 t 20 a v 35 b = t 35 b := rfl
theorem up_20_36 {t : TT} {a b : Nat} {v : Int32} : up2 t 20 a v 36 b = t 36 b := rfl
theorem up_21_1 {t : TT} {a b : Nat} {v : Int32} : up2 t 21 a v 1 b = t 1 b := rfl
theorem up_21_2 {t : TT} {a b : Nat} {v : Int32} : up2 t 21 a v 2 b = t 2 b := rfl
theorem up_21_3 {t : TT} {a b : Nat} {v : Int32} : up2 t 21 a v 3 b = t 3 b := rfl
theorem up_21_4 {t : TT} {a b : Nat} {v : Int32} : up2 t 21 a v 4 b = t 4 b := rfl
theorem up_21_5 {t : TT} {a b : Nat} {v : Int32} : up2 t 21 a v 5 b = t 5 b := rfl
theorem up_21_6 {t : TT} {a b : Nat} {v : Int32} : up2 t 21 a v 6 b = t 6 b := rfl
theorem up_21_7 {t : TT} {a b : Nat} {v : Int32} : up2 t 21 a v 7 b = t 7 b := rfl
theorem up_21_8 {t : TT} {a b : Nat} {v : Int32} : up2 t 21 a v 8 b = t 8 b := rfl
theorem up_21_10 {t : TT} {a b : Nat} {v : Int32} : up2 t 21 a v 10 b = t 10 b := rfl
theorem up_21_11 {t : TT} {a b : Nat} {v : Int32} : up2 t 21 a v 11 b = t 11 b := rfl
theorem up_21_12 {t : TT} {a b : Nat} {v : Int32} : up2 t 21 a v 12 b = t 12 b := rfl
theorem up_21_13 {t : TT} {a b : Nat} {v : Int32} : up2 t 21 a v 13 b = t 13 b := rfl
theorem up_21_14 {t : TT} {a b : Nat} {v : Int32} : up2 t 21 a v 14 b = t 14 b := rfl
theorem up_21_15 {t : TT} {a b : Nat} {v : Int32} : up2 t 21 a v 15 b = t 15 b := rfl
theorem up_21_16 {t : TT} {a b : Nat} {v : Int32} : up2 t 21 a v 16 b = t 16 b := rfl
theorem up_21_17 {t : TT} {a b : Nat} {v : Int32} : up2 t 21 a v 17 b = t 17 b := rfl
theorem up_21_18 {t : TT} {a b : Nat} {v : Int32} : up2 t 21 a v 18 b = t 18 b := rfl
theorem up_21_19 {t : TT} {a b : Nat} {v : Int32} : up2 t 21 a v 19 b = t 19 b := rfl
theorem up_21_20 {t : TT} {a b : Nat} {v : Int32} : up2 t 21 a v 20 b = t 20 b := rfl
theorem up_21_22 {t : TT} {a b : Nat} {v : Int32} : up2 t 21 a v 22 b = t 22 b := rfl
theorem up_21_23 {t : TT} {a b : Nat} {v : Int32} : up2 t 21 a v 23 b = t 23 b := rfl
theorem up_21_24 {t : TT} {a b : Nat} {v : Int32} : up2 t 21 a v 24 b = t 24 b := rfl
theorem up_21_25 {t : TT} {a b : Nat} {v : Int32} : up2 t 21 a v 25 b = t 25 b := rfl
theorem up_21_26 {t : TT} {a b : Nat} {v : Int32} : up2 t 21 a v 26 b = t 26 b := rfl
theorem up_21_27 {t : TT} {a b : Nat} {v : Int32} : up2 t 21 a v 27 b = t 27 b := rfl
theorem up_21_28 {t : TT} {a b : Nat} {v : Int32} : up2 t 21 a v 28 b = t 28 b := rfl
theorem up_21_29 {t : TT} {a b : Nat} {v : Int32} : up2 t 21 a v 29 b = t 29 b := rfl
theorem up_21_30 {t : TT} {a b : Nat} {v : Int32} : up2 t 21 a v 30 b = t 30 b := rfl
theorem up_21_31 {t : TT} {a b : Nat} {v : Int32} : up2 t 21 a v 31 b = t 31 b := rfl
theorem up_21_32 {t : TT} {a b : Nat} {v : Int32} : up2 t 21 a v 32 b = t 32 b := rfl
theorem up_21_33 {t : TT} {a b : Nat} {v : Int32} : up2 t 21 a v 33 b = t 33 b := rfl
theorem up_21_34 {t : TT} {a b : Nat} {v : Int32} : up2 t 21 a v 34 b = t 34 b := rfl
theorem up_21_35 {t : TT} {a b : Nat} {v : Int32} : up2 t 21 a v 35 b = t 35 b := rfl
theorem up_21_36 {t : TT} {a b : Nat} {v : Int32} : up2 t 21 a v 36 b = t 36 b := rfl
theorem up_22_1 {t : TT} {a b : Nat} {v : Int32} : up2 t 22 a v 1 b = t 1 b := rfl
theorem up_22_2 {t : TT} {a b : Nat} {v : Int32} : up2 t 22 a v 2 b = t 2 b := rfl
theorem up_22_3 {t : TT} {a b : Nat} {v : Int32} : up2 t 22 a v 3 b = t 3 b := rfl
theorem up_22_4 {t : TT} {a b : Nat} {v : Int32} : up2 t 22 a v 4 b = t 4 b := rfl
theorem up_22_5 {t : TT} {a b : Nat} {v : Int32} : up2 t 22 a v 5 b = t 5 b := rfl
theorem up_22_6 {t : TT} {a b : Nat} {v : Int32} : up2 t 22 a v 6 b = t 6 b := rfl
theorem up_22_7 {t : TT} {a b : Nat} {v : Int32} : up2 t 22 a v 7 b = t 7 b := rfl
theorem up_22_8 {t : TT} {a b : Nat} {v : Int32} : up2 t 22 a v 8 b = t 8 b := rfl
theorem up_22_10 {t : TT} {a b : Nat} {v : Int32} : up2 t 22 a v 10 b = t 10 b := rfl
theorem up_22_11 {t : TT} {a b : Nat} {v : Int32} : up2 t 22 a v 11 b = t 11 b := rfl
theorem up_22_12 {t : TT} {a b : Nat} {v : Int32} : up2 t 22 a v 12 b = t 12 b := rfl
theorem up_22_13 {t : TT} {a b : Nat} {v : Int32} : up2 t 22 a v 13 b = t 13 b := rfl
theorem up_22_14 {t : TT} {a b : Nat} {v : Int32} : up2 t 22 a v 14 b = t 14 b := rfl
theorem up_22_15 {t : TT} {a b : Nat} {v : Int32} : up2 t 22 a v 15 b = t 15 b := rfl
theorem up_22_16 {t : TT} {a b : Nat} {v : Int32} : up2 t 22 a v 16 b = t 16 b := rfl
theorem up_22_17 {t : TT} {a b : Nat} {v : Int32} : up2 t 22 a v 17 b = t 17 b := rfl
theorem up_22_18 {t : TT} {a b : Nat} {v : Int32} : up2 t 22 a v 18 b = t 18 b := rfl
theorem up_22_19 {t : TT} {a b : Nat} {v : Int32} : up2 t 22 a v 19 b = t 19 b := rfl
theorem up_22_20 {t : TT} {a b : Nat} {v : Int32} : up2 t 22 a v 20 b = t 20 b := rfl
theorem up_22_21 {t : TT} {a b : Nat} {v : Int32} : up2 t 22 a v 21 b = t 21 b := rfl
theorem up_22_23 {t : TT} {a b : Nat} {v : Int32} : up2 t 22 a v 23 b = t 23 b := rfl
theorem up_22_24 {t : TT} {a b : Nat} {v : Int32} : up2 t 22 a v 24 b = t 24 b := rfl
theorem up_22_25 {t : TT} {a b : Nat} {v : Int32} : up2 t 22 a v 25 b = t 25 b := rfl
theorem up_22_26 {t : TT} {a b : Nat} {v : Int32} : up2 t 22 a v 26 b = t 26 b := rfl
theorem up_22_27 {t : TT} {a b : Nat} {v : Int32} : up2 t 22 a v 27 b = t 27 b := rfl
theorem up_22_28 {t : TT} {a b : Nat} {v : Int32} : up2 t 22 a v 28 b = t 28 b := rfl
theorem up_22_29 {t : TT} {a b : Nat} {v : Int32} : up2 t 22 a v 29 b = t 29 b := rfl
theorem up_22_30 {t : TT} {a b : Nat} {v : Int32} : up2 t 22 a v 30 b = t 30 b := rfl
theorem up_22_31 {t : TT} {a b : Nat} {v : Int32} : up2 t 22 a v 31 b = t 31 b := rfl
theorem up_22_32 {t : TT} {a b : Nat} {v : Int32} : up2 t 22 a v 32 b = t 32 b := rfl
theorem up_22_33 {t : TT} {a b : Nat} {v : Int32} : up2 t 22 a v 33 b = t 33 b := rfl
theorem up_22_34 {t : TT} {a b : Nat} {v : Int32} : up2 t 22 a v 34 b = t 34 b := rfl
theorem up_22_35 {t : TT} {a b : Nat} {v : Int32} : up2 t 22 a v 35 b = t 35 b := rfl
theorem up_22_36 {t : TT} {a b : Nat} {v : Int32} : up2 t 22 a v 36 b = t 36 b := rfl
theorem up_23_1 {t : TT} {a b : Nat} {v : Int32} : up2 t 23 a v 1 b = t 1 b := rfl
theorem up_23_2 {t : TT} {a b : Nat} {v : Int32} : up2 t 23 a v 2 b = t 2 b := rfl
theorem up_23_3 {t : TT} {a b : Nat} {v : Int32} : up2 t 23 a v 3 b = t 3 b := rfl
theorem up_23_4 {t : TT} {a b : Nat} {v : Int32} : up2 t 23 a v 4 b = t 4 b := rfl
theorem up_23_5 {t : TT} {a b : Nat} {v : Int32} : up2 t 23 a v 5 b = t 5 b := rfl
theorem up_23_6 {t : TT} {a b : Nat} {v : Int32} : up2 t 23 a v 6 b = t 6 b := rfl
theorem up_23_7 {t : TT} {a b : Nat} {v : Int32} : up2 t 23 a v 7 b = t 7 b := rfl
theorem up_23_8 {t : TT} {a b : Nat} {v : Int32} : up2 t 23 a v 8 b = t 8 b := rfl
theorem up_23_10 {t : TT} {a b : Nat} {v : Int32} : up2 t 23 a v 10 b = t 10 b := rfl
theorem up_23_11 {t : TT} {a b : Nat} {v : Int32} : up2 t 23 a v 11 b = t 11 b := rfl
theorem up_23_12 {t : TT} {a b : Nat} {v : Int32} : up2 t 23 a v 12 b = t 12 b := rfl
theorem up_23_13 {t : TT} {a b : Nat} {v : Int32} : up2 t 23 a v 13 b = t 13 b := rfl
theorem up_23_14 {t : TT} {a b : Nat} {v : Int32} : up2 t 23 a v 14 b = t 14 b := rfl
theorem up_23_15 {t : TT} {a b : Nat} {v : Int32} : up2 t 23 a v 15 b = t 15 b := rfl
theorem up_23_16 {t : TT} {a b : Nat} {v : Int32} : up2 t 23 a v 16 b = t 16 b := rfl
theorem up_23_17 {t : TT} {a b : Nat} {v : Int32} : up2 t 23 a v 17 b = t 17 b := rfl
theorem up_23_18 {t : TT} {a b : Nat} {v : Int32} : up2 t 23 a v 18 b = t 18 b := rfl
theorem up_23_19 {t : TT} {a b : Nat} {v : Int32} : up2 t 23 a v 19 b = t 19 b := rfl
theorem up_23_20 {t : TT} {a b : Nat} {v : Int32} : up2 t 23 a v 20 b = t 20 b := rfl
theorem up_23_21 {t : TT} {a b : Nat} {v : Int32} : up2 t 23 a v 21 b = t 21 b := rfl
theorem up_23_22 {t : TT} {a b : Nat} {v : Int32} : up2 t 23 a v 22 b = t 22 b := rfl
theorem up_23_24 {t : TT} {a b : Nat} {v : Int32} : up2 t 23 a v 24 b = t 24 b := rfl
theorem up_23_25 {t : TT} {a b : Nat} {v : Int32} : up2 t 23 a v 25 b = t 25 b := rfl
theorem up_23_26 {t : TT} {a b : Nat} {v : Int32} : up2 t 23 a v 26 b = t 26 b := rfl
theorem up_23_27 {t : TT} {a b : Nat} {v : Int32} : up2 t 23 a v 27 b = t 27 b := rfl
theorem up_23_28 {t : TT} {a b : Nat} {v : Int32} : up2 t 23 a v 28 b = t 28 b := rfl
theorem up_23_29 {t : TT} {a b : Nat} {v : Int32} : up2 t 23 a v 29 b = t 29 b := rfl
theorem up_23_30 {t : TT} {a b : Nat} {v : Int32} : up2 t 23 a v 30 b = t 30 b := rfl
theorem up_23_31 {t : TT} {a b : Nat} {v : Int32} : up2 t 23 a v 31 b = t 31 b := rfl
theorem up_23_32 {t : TT} {a b : Nat} {v : Int32} : up2 t 23 a v 32 b = t 32 b := rfl
theorem up_23_33 {t : TT} {a b : Nat} {v : Int32} : up2 t 23 a v 33 b = t 33 b := rfl
theorem up_23_34 {t : TT} {a b : Nat} {v : Int32} : up2 t 23 a v 34 b = t 34 b := rfl
theorem up_23_35 {t : TT} {a b : Nat} {v : Int32} : up2 t 23 a v 35 b = t 35 b := rfl
theorem up_23_36 {t : TT} {a b : Nat} {v : Int32} : up2 t 23 a v 36 b = t 36 b := rfl
theorem up_24_1 {t : TT} {a b : Nat} {v : Int32} : up2 t 24 a v 1 b = t 1 b := rfl
theorem up_24_2 {t : TT} {a b : Nat} {v : Int32} : up2 t 24 a v 2 b = t 2 b := rfl
theorem up_24_3 {t : TT} {a b : Nat} {v : Int32} : up2 t 24 a v 3 b = t 3 b := rfl
theorem up_24_4 {t : TT} {a b : Nat} {v : Int32} : up2 t 24 a v 4 b = t 4 b := rfl
theorem up_24_5 {t : TT} {a b : Nat} {v : Int32} : up2 t 24 a v 5 b = t 5 b := rfl
theorem up_24_6 {t : TT} {a b : Nat} {v : Int32} : up2 t 24 a v 6 b = t 6 b := rfl
theorem up_24_7 {t : TT} {a b : Nat} {v : Int32} : up2 t 24 a v 7 b = t 7 b := rfl
theorem up_24_8 {t : TT} {a b : Nat} {v : Int32} : up2 t 24 a v 8 b = t 8 b := rfl
theorem up_24_10 {t : TT} {a b : Nat} {v : Int32} : up2 t 24 a v 10 b = t 10 b := rfl
theorem up_24_11 {t : TT} {a b : Nat} {v : Int32} : up2 t 24 a v 11 b = t 11 b := rfl
theorem up_24_12 {t : TT} {a b : Nat} {v : Int32} : up2 t 24 a v 12 b = t 12 b := rfl
theorem up_24_13 {t : TT} {a b : Nat} {v : Int32} : up2 t 24 a v 13 b = t 13 b := rfl
theorem up_24_14 {t : TT} {a b : Nat} {v : Int32} : up2 t 24 a v 14 b = t 14 b := rfl
theorem up_24_15 {t : TT} {a b : Nat} {v : Int32} : up2 t 24 a v 15 b = t 15 b := rfl
theorem up_24_16 {t : TT} {a b : Nat} {v : Int32} : up2 t 24 a v 16 b = t 16 b := rfl
theorem up_24_17 {t : TT} {a b : Nat} {v : Int32} : up2 t 24 a v 17 b = t 17 b := rfl
theorem up_24_18 {t : TT} {a b : Nat} {v : Int32} : up2 t 24 a v 18 b = t 18 b := rfl
theorem up_24_19 {t : TT} {a b : Nat} {v : Int32} : up2 t 24 a v 19 b = t 19 b := rfl
theorem up_24_20 {t : TT} {a b : Nat} {v : Int32} : up2 t 24 a v 20 b = t 20 b := rfl
theorem up_24_21 {t : TT} {a b : Nat} {v : Int32} : up2 t 24 a v 21 b = t 21 b := rfl
theorem up_24_22 {t : TT} {a b : Nat} {v : Int32} : up2 t 24 a v 22 b = t 22 b := rfl
theorem up_24_23 {t : TT} {a b : Nat} {v : Int32} : up2 t 24 a v 23 b = t 23 b := rfl
theorem up_24_25 {t : TT} {a b : Nat} {v : Int32} : up2 t 24 a v 25 b = t 25 b := rfl
theorem up_24_26 {t : TT} {a b : Nat} {v : Int32} : up2 t 24 a v 26 b = t 26 b := rfl
theorem up_24_27 {t : TT} {a b : Nat} {v : Int32} : up2 t 24 a v 27 b = t 27 b := rfl
theorem up_24_28 {t : TT} {a b : Nat} {v : Int32} : up2 t 24 a v 28 b = t 28 b := rfl
theorem up_24_29 {t : TT} {a b : Nat} {v : Int32} : up2 t 24 a v 29 b = t 29 b := rfl
theorem up_24_30 {t : TT} {a b : Nat} {v : Int32} : up2 t 24 a v 30 b = t 30 b := rfl
theorem up_24_31 {t : TT} {a b : Nat} {v : Int32} : up2 t 24 a v 31 b = t 31 b := rfl
theorem up_24_32 {t : TT} {a b : Nat} {v : Int32} : up2 t 24 a v 32 b = t 32 b := rfl
theorem up_24_33 {t : TT} {a b : Nat} {v : Int32} : up2 t 24 a v 33 b = t 33 b := rfl
theorem up_24_34 {t : TT} {a b : Nat} {v : Int32} : up2 t 24 a v 34 b = t 34 b := rfl
theorem up_24_35 {t : TT} {a b : Nat} {v : Int32} : up2 t 24 a v 35 b = t 35 b := rfl
theorem up_24_36 {t : TT} {a b : Nat} {v : Int32} : up2 t 24 a v 36 b = t 36 b := rfl
theorem up_25_1 {t : TT} {a b : Nat} {v : Int32} : up2 t 25 a v 1 b = t 1 b := rfl
theorem up_25_2 {t : TT} {a b : Nat} {v : Int32} : up2 t 25 a v 2 b = t 2 b := rfl
theorem up_25_3 {t : TT} {a b : Nat} {v : Int32} : up2 t 25 a v 3 b = t 3 b := rfl
theorem up_25_4 {t : TT} {a b : Nat} {v : Int32} : up2 t 25 a v 4 b = t 4 b := rfl
theorem up_25_5 {t : TT} {a b : Nat} {v : Int32} : up2 t 25 a v 5 b = t 5 b := rfl
theorem up_25_6 {t : TT} {a b : Nat} {v : Int32} : up2 t 25 a v 6 b = t 6 b := rfl
theorem up_25_7 {t : TT} {a b : Nat} {v : Int32} : up2 t 25 a v 7 b = t 7 b := rfl
theorem up_25_8 {t : TT} {a b : Nat} {v : Int32} : up2 t 25 a v 8 b = t 8 b := rfl
theorem up_25_10 {t : TT} {a b : Nat} {v : Int32} : up2 t 25 a v 10 b = t 10 b := rfl
theorem up_25_11 {t : TT} {a b : Nat} {v : Int32} : up2 t 25 a v 11 b = t 11 b := rfl
theorem up_25_12 {t : TT} {a b : Nat} {v : Int32} : up2 t 25 a v 12 b = t 12 b := rfl
theorem up_25_13 {t : TT} {a b : Nat} {v : Int32} : up2 t 25 a v 13 b = t 13 b := rfl
theorem up_25_14 {t : TT} {a b : Nat} {v : Int32} : up2 t 25 a v 14 b = t 14 b := rfl
theorem up_25_15 {t : TT} {a b : Nat} {v : Int32} : up2 t 25 a v 15 b = t 15 b := rfl
theorem up_25_16 {t : TT} {a b : Nat} {v : Int32} : up2 t 25 a v 16 b = t 16 b := rfl
theorem up_25_17 {t : TT} {a b : Nat} {v : Int32} : up2 t 25 a v 17 b = t 17 b := rfl
theorem up_25_18 {t : TT} {a b : Nat} {v : Int32} : up2 t 25 a v 18 b = t 18 b := rfl
theorem up_25_19 {t : TT} {a b : Nat} {v : Int32} : up2 t 25 a v 19 b = t 19 b := rfl
theorem up_25_20 {t : TT} {a b : Nat} {v : Int32} : up2 t 25 a v 20 b = t 20 b := rfl
theorem up_25_21 {t : TT} {a b : Nat} {v : Int32} : up2 t 25 a v 21 b = t 21 b := rfl
theorem up_25_22 {t : TT} {a b : Nat} {v : Int32} : up2 t 25 a v 22 b = t 22 b := rfl
theorem up_25_23 {t : TT} {a b : Nat} {v : Int32} : up2 t 25 a v 23 b = t 23 b := rfl
theorem up_25_24 {t : TT} {a b : Nat} {v : Int32} : up2 t 25 a v 24 b = t 24 b := rfl
theorem up_25_26 {t : TT} {a b : Nat} {v : Int32} : up2 t 25 a v 26 b = t 26 b := rfl
theorem up_25_27 {t : TT} {a b : Nat} {v : Int32} : up2 t 25 a v 27 b = t 27 b := rfl
theorem up_25_28 {t : TT} {a b : Nat} {v : Int32} : up2 t 25 a v 28 b = t 28 b := rfl
theorem up_25_29 {t : TT} {a b : Nat} {v : Int32} : up2 t 25 a v 29 b = t 29 b := rfl
theorem up_25_30 {t : TT} {a b : Nat} {v : Int32} : up2 t 25 a v 30 b = t 30 b := rfl
theorem up_25_31 {t : TT} {a b : Nat} {v : Int32} : up2 t 25 a v 31 b = t 31 b := rfl
theorem up_25_32 {t : TT} {a b : Nat} {v : Int32} : up2 t 25 a v 32 b = t 32 b := rfl
theorem up_25_33 {t : TT} {a b : Nat} {v : Int32} : up2 t 25 a v 33 b = t 33 b := rfl
theorem up_25_34 {t : TT} {a b : Nat} {v : Int32} : up2 t 25 a v 34 b = t 34 b := rfl
theorem up_25_35 {t : TT} {a b : Nat} {v : Int32} : up2 t 25 a v 35 b = t 35 b := rfl
theorem up_25_36 {t : TT} {a b : Nat} {v : Int32} : up2 t 25 a v 36 b = t 36 b := rfl
theorem up_26_1 {t : TT} {a b : Nat} {v : Int32} : up2 t 26 a v 1 b = t 1 b := rfl
theorem up_26_2 {t : TT} {a b : Nat} {v : Int32} : up2 t 26 a v 2 b = t 2 b := rfl
theorem up_26_3 {t : TT} {a b : Nat} {v : Int32} : up2 t 26 a v 3 b = t 3 b := rfl
theorem up_26_4 {t : TT} {a b : Nat} {v : Int32} : up2 t 26 a v 4 b = t 4 b := rfl
theorem up_26_5 {t : TT} {a b : Nat} {v : Int32} : up2 t 26 a v 5 b = t 5 b := rfl
theorem up_26_6 {t : TT} {a b : Nat} {v : Int32} : up2 t 26 a v 6 b = t 6 b := rfl
theorem up_26_7 {t : TT} {a b : Nat} {v : Int32} : up2 t 26 a v 7 b = t 7 b := rfl
theorem up_26_8 {t : TT} {a b : Nat} {v : Int32} : up2 t 26 a v 8 b = t 8 b := rfl
theorem up_26_10 {t : TT} {a b : Nat} {v : Int32} : up2 t 26 a v 10 b = t 10 b := rfl
theorem up_26_11 {t : TT} {a b : Nat} {v : Int32} : up2 t 26 a v 11 b = t 11 b := rfl
theorem up_26_12 {t : TT} {a b : Nat} {v : Int32} : up2 t 26 a v 12 b = t 12 b := rfl
theorem up_26_13 {t : TT} {a b : Nat} {v : Int32} : up2 t 26 a v 13 b = t 13 b := rfl
theorem up_26_14 {t : TT} {a b : Nat} {v : Int32} : up2 t 26 a v 14 b = t 14 b := rfl
theorem up_26_15 {t : TT} {a b : Nat} {v : Int32} : up2 t 26 a v 15 b = t 15 b := rfl
theorem up_26_16 {t : TT} {a b : Nat} {v : Int32} : up2 t 26 a v 16 b = t 16 b := rfl
theorem up_26_17 {t : TT} {a b : Nat} {v : Int32} : up2 t 26 a v 17 b = t 17 b := rfl
theorem up_26_18 {t : TT} {a b : Nat} {v : Int32} : up2 t 26 a v 18 b = t 18 b := rfl
theorem up_26_19 {t : TT} {a b : Nat} {v : Int32} : up2 t 26 a v 19 b = t 19 b := rfl
theorem up_26_20 {t : TT} {a b : Nat} {v : Int32} : up2 t 26 a v 20 b = t 20 b := rfl
theorem up_26_21 {t : TT} {a b : Nat} {v : Int32} : up2 t 26 a v 21 b = t 21 b := rfl
theorem up_26_22 {t : TT} {a b : Nat} {v : Int32} : up2 t 26 a v 22 b = t 22 b := rfl
theorem up_26_23 {t : TT} {a b : Nat} {v : Int32} : up2 t 26 a v 23 b = t 23 b := rfl
theorem up_26_24 {t : TT} {a b : Nat} {v : Int32} : up2 t 26 a v 24 b = t 24 b := rfl
theorem up_26_25 {t : TT} {a b : Nat} {v : Int32} : up2 t 26 a v 25 b = t 25 b := rfl
theorem up_26_27 {t : TT} {a b : Nat} {v : Int32} : up2 t 26 a v 27 b = t 27 b := rfl
theorem up_26_28 {t : TT} {a b : Nat} {v : Int32} : up2 t 26 a v 28 b = t 28 b := rfl
theorem up_26_29 {t : TT} {a b : Nat} {v : Int32} : up2 t 26 a v 29 b = t 29 b := rfl
theorem up_26_30 {t : TT} {a b : Nat} {v : Int32} : up2 t 26 a v 30 b = t 30 b := rfl
theorem up_26_31 {t : TT} {a b : Nat} {v : Int32} : up2 t 26 a v 31 b = t 31 b := rfl
theorem up_26_32 {t : TT} {a b : Nat} {v : Int32} : up2 t 26 a v 32 b = t 32 b := rfl
theorem up_26_33 {t : TT} {a b : Nat} {v : Int32} : up2 t 26 a v 33 b = t 33 b := rfl
theorem up_26_34 {t : TT} {a b : Nat} {v : Int32} : up2 t 26 a v 34 b = t 34 b := rfl
theorem up_26_35 {t : TT} {a b : Nat} {v : Int32} : up2 t 26 a v 35 b = t 35 b := rfl
theorem up_26_36 {t : TT} {a b : Nat} {v : Int32} : up2 t 26 a v 36 b = t 36 b := rfl
theorem up_27_1 {t : TT} {a b : Nat} {v : Int32} : up2 t 27 a v 1 b = t 1 b := rfl
theorem up_27_2 {t : TT} {a b : Nat} {v : Int32} : up2 t 27 a v 2 b = t 2 b := rfl
theorem up_27_3 {t : TT} {a b : Nat} {v : Int32} : up2 t 27 a v 3 b = t 3 b := rfl
theorem up_27_4 {t : TT} {a b : Nat} {v : Int32} : up2 t 27 a v 4 b = t 4 b := rfl
theorem up_27_5 {t : TT} {a b : Nat} {v : Int32} : up2 t 27 a v 5 b = t 5 b := rfl
theorem up_27_6 {t : TT} {a b : Nat} {v : Int32} : up2 t 27 a v 6 b = t 6 b := rfl
theorem up_27_7 {t : TT} {a b : Nat} {v : Int32} : up2 t 27 a v 7 b = t 7 b := rfl
theorem up_27_8 {t : TT} {a b : Nat} {v : Int32} : up2 t 27 a v 8 b = t 8 b := rfl
theorem up_27_10 {t : TT} {a b : Nat} {v : Int32} : up2 t 27 a v 10 b = t 10 b := rfl
theorem up_27_11 {t : TT} {a b : Nat} {v : Int32} : up2 t 27 a v 11 b = t 11 b := rfl
theorem up_27_12 {t : TT} {a b : Nat} {v : Int32} : up2 t 27 a v 12 b = t 12 b := rfl
theorem up_27_13 {t : TT} {a b : Nat} {v : Int32} : up2 t 27 a v 13 b = t 13 b := rfl
theorem up_27_14 {t : TT} {a b : Nat} {v : Int32} : up2 t 27 a v 14 b = t 14 b := rfl
theorem up_27_15 {t : TT} {a b : Nat} {v : Int32} : up2 t 27 a v 15 b = t 15 b := rfl
theorem up_27_16 {t : TT} {a b : Nat} {v : Int32} : up2 t 27 a v 16 b = t 16 b := rfl
theorem up_27_17 {t : TT} {a b : Nat} {v : Int32} : up2 t 27 a v 17 b = t 17 b := rfl
theorem up_27_18 {t : TT} {a b : Nat} {v : Int32} : up2 t 27 a v 18 b = t 18 b := rfl
theorem up_27_19 {t : TT} {a b : Nat} {v : Int32} : up2 t 27 a v 19 b = t 19 b := rfl
theorem up_27_20 {t : TT} {a b : Nat} {v : Int32} : up2 t 27 a v 20 b = t 20 b := rfl
theorem up_27_21 {t : TT} {a b : Nat} {v : Int32} : up2 t 27 a v 21 b = t 21 b := rfl
theorem up_27_22 {t : TT} {a b : Nat} {v : Int32} : up2 t 27 a v 22 b = t 22 b := rfl
theorem up_27_23 {t : TT} {a b : Nat} {v : Int32} : up2 t 27 a v 23 b = t 23 b := rfl
theorem up_27_24 {t : TT} {a b : Nat} {v : Int32} : up2 t 27 a v 24 b = t 24 b := rfl
theorem up_27_25 {t : TT} {a b : Nat} {v : Int32} : up2 t 27 a v 25 b = t 25 b := rfl
theorem up_27_26 {t : TT} {a b : Nat} {v : Int32} : up2 t 27 a v 26 b = t 26 b := rfl
theorem up_27_28 {t : TT} {a b : Nat} {v : Int32} : up2 t 27 a v 28 b = t 28 b := rfl
theorem up_27_29 {t : TT} {a b : Nat} {v : Int32} : up2 t 27 a v 29 b = t 29 b := rfl
theorem up_27_30 {t : TT} {a b : Nat} {v : Int32} : up2 t 27 a v 30 b = t 30 b := rfl
theorem up_27_31 {t : TT} {a b : Nat} {v : Int32} : up2 t 27 a v 31 b = t 31 b := rfl
theorem up_27_32 {t : TT} {a b : Nat} {v : Int32} : up2 t 27 a v 32 b = t 32 b := rfl
theorem up_27_33 {t : TT} {a b : Nat} {v : Int32} : up2 t 27 a v 33 b = t 33 b := rfl
theorem up_27_34 {t : TT} {a b : Nat} {v : Int32} : up2 t 27 a v 34 b = t 34 b := rfl
theorem up_27_35 {t : TT} {a b : Nat} {v : Int32} : up2 t 27 a v 35 b = t 35 b := rfl
theorem up_27_36 {t : TT} {a b : Nat} {v : Int32} : up2 t 27 a v 36 b = t 36 b := rfl
theorem up_28_1 {t : TT} {a b : Nat} {v : Int32} : up2 t 28 a v 1 b = t 1 b := rfl
theorem up_28_2 {t : TT} {a b : Nat} {v : Int32} : up2 t 28 a v 2 b = t 2 b := rfl
theorem up_28_3 {t : TT} {a b : Nat} {v : Int32} : up2 t 28 a v 3 b = t 3 b := rfl
theorem up_28_4 {t : TT} {a b : Nat} {v : Int32} : up2 t 28 a v 4 b = t 4 b := rfl
theorem up_28_5 {t : TT} {a b : Nat} {v : Int32} : up2 t 28 a v 5 b = t 5 b := rfl
theorem up_28_6 {t : TT} {a b : Nat} {v : Int32} : up2 t 28 a v 6 b = t 6 b := rfl
theorem up_28_7 {t : TT} {a b : Nat} {v : Int32} : up2 t 28 a v 7 b = t 7 b := rfl
theorem up_28_8 {t : TT} {a b : Nat} {v : Int32} : up2 t 28 a v 8 b = t 8 b := rfl
theorem up_28_10 {t : TT} {a b : Nat} {v : Int32} : up2 t 28 a v 10 b = t 10 b := rfl
theorem up_28_11 {t : TT} {a b : Nat} {v : Int32} : up2 t 28 a v 11 b = t 11 b := rfl
theorem up_28_12 {t : TT} {a b : Nat} {v : Int32} : up2 t 28 a v 12 b = t 12 b := rfl
theorem up_28_13 {t : TT} {a b : Nat} {v : Int32} : up2 t 28 a v 13 b = t 13 b := rfl
theorem up_28_14 {t : TT} {a b : Nat} {v : Int32} : up2 t 28 a v 14 b = t 14 b := rfl
theorem up_28_15 {t : TT} {a b : Nat} {v : Int32} : up2 t 28 a v 15 b = t 15 b := rfl
theorem up_28_16 {t : TT} {a b : Nat} {v : Int32} : up2 t 28 a v 16 b = t 16 b := rfl
theorem up_28_17 {t : TT} {a b : Nat} {v : Int32} : up2 t 28 a v 17 b = t 17 b := rfl
theorem up_28_18 {t : TT} {a b : Nat} {v : Int32} : up2 t 28 a v 18 b = t 18 b := rfl
theorem up_28_19 {t : TT} {a b : Nat} {v : Int32} : up2 t 28 a v 19 b = t 19 b := rfl
theorem up_28_20 {t : TT} {a b : Nat} {v : Int32} : up2 t 28 a v 20 b = t 20 b := rfl
theorem up_28_21 {t : TT} {a b : Nat} {v : Int32} : up2 t 28 a v 21 b = t 21 b := rfl
theorem up_28_22 {t : TT} {a b : Nat} {v : Int32} : up2 t 28 a v 22 b = t 22 b := rfl
theorem up_28_23 {t : TT} {a b : Nat} {v : Int32} : up2 t 28 a v 23 b = t 23 b := rfl
theorem up_28_24 {t : TT} {a b : Nat} {v : Int32} : up2 t 28 a v 24 b = t 24 b := rfl
theorem up_28_25 {t : TT} {a b : Nat} {v : Int32} : up2 t 28 a v 25 b = t 25 b := rfl
theorem up_28_26 {t : TT} {a b : Nat} {v : Int32} : up2 t 28 a v 26 b = t 26 b := rfl
theorem up_28_27 {t : TT} {a b : Nat} {v : Int32} : up2 t 28 a v 27 b = t 27 b := rfl
theorem up_28_29 {t : TT} {a b : Nat} {v : Int32} : up2 t 28 a v 29 b = t 29 b := rfl
theorem up_28_30 {t : TT} {a b : Nat} {v : Int32} : up2 t 28 a v 30 b = t 30 b := rfl
theorem up_28_31 {t : TT} {a b : Nat} {v : Int32} : up2 t 28 a v 31 b = t 31 b := rfl
theorem up_28_32 {t : TT} {a b : Nat} {v : Int32} : up2 t 28 a v 32 b = t 32 b := rfl
theorem up_28_33 {t : TT} {a b : Nat} {v : Int32} : up2 t 28 a v 33 b = t 33 b := rfl
theorem up_28_34 {t : TT} {a b : Nat} {v : Int32} : up2 t 28 a v 34 b = t 34 b := rfl
theorem up_28_35 {t : TT} {a b : Nat} {v : Int32} : up2 t 28 a v 35 b = t 35 b := rfl
theorem up_28_36 {t : TT} {a b : Nat} {v : Int32} : up2 t 28 a v 36 b = t 36 b := rfl
theorem up_29_1 {t : TT} {a b : Nat} {v : Int32} : up2 t 29 a v 1 b = t 1 b := rfl
theorem up_29_2 {t : TT} {a b : Nat} {v : Int32} : up2 t 29 a v 2 b = t 2 b := rfl
theorem up_29_3 {t : TT} {a b : Nat} {v : Int32} : up2 t 29 a v 3 b = t 3 b := rfl
theorem up_29_4 {t : TT} {a b : Nat} {v : Int32} : up2 t 29 a v 4 b = t 4 b := rfl
theorem up_29_5 {t : TT} {a b : Nat} {v : Int32} : up2 t 29 a v 5 b = t 5 b := rfl
theorem up_29_6 {t : TT} {a b : Nat} {v : Int32} : up2 t 29 a v 6 b = t 6 b := rfl
theorem up_29_7 {t : TT} {a b : Nat} {v : Int32} : up2 t 29 a v 7 b = t 7 b := rfl
theorem up_29_8 {t : TT} {a b : Nat} {v : Int32} : up2 t 29 a v 8 b = t 8 b := rfl
theorem up_29_10 {t : TT} {a b : Nat} {v : Int32} : up2 t 29 a v 10 b = t 10 b := rfl
theorem up_29_11 {t : TT} {a b : Nat} {v : Int32} : up2 t 29 a v 11 b = t 11 b := rfl
theorem up_29_12 {t : TT} {a b : Nat} {v : Int32} : up2 t 29 a v 12 b = t 12 b := rfl
theorem up_29_13 {t : TT} {a b : Nat} {v : Int32} : up2 t 29 a v 13 b = t 13 b := rfl
theorem up_29_14 {t : TT} {a b : Nat} {v : Int32} : up2 t 29 a v 14 b = t 14 b := rfl
theorem up_29_15 {t : TT} {a b : Nat} {v : Int32} : up2 t 29 a v 15 b = t 15 b := rfl
theorem up_29_16 {t : TT} {a b : Nat} {v : Int32} : up2 t 29 a v 16 b = t 16 b := rfl
theorem up_29_17 {t : TT} {a b : Nat} {v : Int32} : up2 t 29 a v 17 b = t 17 b := rfl
theorem up_29_18 {t : TT} {a b : Nat} {v : Int32} : up2 t 29 a v 18 b = t 18 b := rfl
theorem up_29_19 {t : TT} {a b : Nat} {v : Int32} : up2 t 29 a v 19 b = t 19 b := rfl
theorem up_29_20 {t : TT} {a b : Nat} {v : Int32} : up2 t 29 a v 20 b = t 20 b := rfl
theorem up_29_21 {t : TT} {a b : Nat} {v : Int32} : up2 t 29 a v 21 b = t 21 b := rfl
theorem up_29_22 {t : TT} {a b : Nat} {v : Int32} : up2 t 29 a v 22 b = t 22 b := rfl
theorem up_29_23 {t : TT} {a b : Nat} {v : Int32} : up2 t 29 a v 23 b = t 23 b := rfl
theorem up_29_24 {t : TT} {a b : Nat} {v : Int32} : up2 t 29 a v 24 b = t 24 b := rfl
theorem up_29_25 {t : TT} {a b : Nat} {v : Int32} : up2 t 29 a v 25 b = t 25 b := rfl
theorem up_29_26 {t : TT} {a b : Nat} {v : Int32} : up2 t 29 a v 26 b = t 26 b := rfl
theorem up_29_27 {t : TT} {a b : Nat} {v : Int32} : up2 t 29 a v 27 b = t 27 b := rfl
theorem up_29_28 {t : TT} {a b : Nat} {v : Int32} : up2 t 29 a v 28 b = t 28 b := rfl
theorem up_29_30 {t : TT} {a b : Nat} {v : Int32} : up2 t 29 a v 30 b = t 30 b := rfl
theorem up_29_31 {t : TT} {a b : Nat} {v : Int32} : up2 t 29 a v 31 b = t 31 b := rfl
theorem up_29_32 {t : TT} {a b : Nat} {v : Int32} : up2 t 29 a v 32 b = t 32 b := rfl
theorem up_29_33 {t : TT} {a b : Nat} {v : Int32} : up2 t 29 a v 33 b = t 33 b := rfl
theorem up_29_34 {t : TT} {a b : Nat} {v : Int32} : up2 t 29 a v 34 b = t 34 b := rfl
theorem up_29_35 {t : TT} {a b : Nat} {v : Int32} : up2 t 29 a v 35 b = t 35 b := rfl
theorem up_29_36 {t : TT} {a b : Nat} {v : Int32} : up2 t 29 a v 36 b = t 36 b := rfl
theorem up_30_1 {t : TT} {a b : Nat} {v : Int32} : up2 t 30 a v 1 b = t 1 b := rfl
theorem up_30_2 {t : TT} {a b : Nat} {v : Int32} : up2 t 30 a v 2 b = t 2 b := rfl
theorem up_30_3 {t : TT} {a b : Nat} {v : Int32} : up2 t 30 a v 3 b = t 3 b := rfl
theorem up_30_4 {t : TT} {a b : Nat} {v : Int32} : up2 t 30 a v 4 b = t 4 b := rfl
theorem up_30_5 {t : TT} {a b : Nat} {v : Int32} : up2 t 30 a v 5 b = t 5 b := rfl
theorem up_30_6 {t : TT} {a b : Nat} {v : Int32} : up2 t 30 a v 6 b = t 6 b := rfl
theorem up_30_7 {t : TT} {a b : Nat} {v : Int32} : up2 t 30 a v 7 b = t 7 b := rfl
theorem up_30_8 {t : TT} {a b : Nat} {v : Int32} : up2 t 30 a v 8 b = t 8 b := rfl
theorem up_30_10 {t : TT} {a b : Nat} {v : Int32} : up2 t 30 a v 10 b = t 10 b := rfl
theorem up_30_11 {t : TT} {a b : Nat} {v : Int32} : up2 t 30 a v 11 b = t 11 b := rfl
theorem up_30_12 {t : TT} {a b : Nat} {v : Int32} : up2 t 30 a v 12 b = t 12 b := rfl
theorem up_30_13 {t : TT} {a b : Nat} {v : Int32} : up2 t 30 a v 13 b = t 13 b := rfl
theorem up_30_14 {t : TT} {a b : Nat} {v : Int32} : up2 t 30 a v 14 b = t 14 b := rfl
theorem up_30_15 {t : TT} {a b : Nat} {v : Int32} : up2 t 30 a v 15 b = t 15 b := rfl
theorem up_30_16 {t : TT} {a b : Nat} {v : Int32} : up2 t 30 a v 16 b = t 16 b := rfl
theorem up_30_17 {t : TT} {a b : Nat} {v : Int32} : up2 t 30 a v 17 b = t 17 b := rfl
theorem up_30_18 {t : TT} {a b : Nat} {v : Int32} : up2 t 30 a v 18 b = t 18 b := rfl
theorem up_30_19 {t : TT} {a b : Nat} {v : Int32} : up2 t 30 a v 19 b = t 19 b := rfl
theorem up_30_20 {t : TT} {a b : Nat} {v : Int32} : up2 t 30 a v 20 b = t 20 b := rfl
theorem up_30_21 {t : TT} {a b : Nat} {v : Int32} : up2 t 30 a v 21 b = t 21 b := rfl
theorem up_30_22 {t : TT} {a b : Nat} {v : Int32} : up2 t 30 a v 22 b = t 22 b := rfl
theorem up_30_23 {t : TT} {a b : Nat} {v : Int32} : up2 t 30 a v 23 b = t 23 b := rfl
theorem up_30_24 {t : TT} {a b : Nat} {v : Int32} : up2 t 30 a v 24 b = t 24 b := rfl
theorem up_30_25 {t : TT} {a b : Nat} {v : Int32} : up2 t 30 a v 25 b = t 25 b := rfl
theorem up_30_26 {t : TT} {a b : Nat} {v : Int32} : up2 t 30 a v 26 b = t 26 b := rfl
theorem up_30_27 {t : TT} {a b : Nat} {v : Int32} : up2 t 30 a v 27 b = t 27 b := rfl
theorem up_30_28 {t : TT} {a b : Nat} {v : Int32} : up2 t 30 a v 28 b = t 28 b := rfl
theorem up_30_29 {t : TT} {a b : Nat} {v : Int32} : up2 t 30 a v 29 b = t 29 b := rfl
theorem up_30_31 {t : TT} {a b : Nat} {v : Int32} : up2 t 30 a v 31 b = t 31 b := rfl
theorem up_30_32 {t : TT} {a b : Nat} {v : Int32} : up2 t 30 a v 32 b = t 32 b := rfl
theorem up_30_33 {t : TT} {a b : Nat} {v : Int32} : up2 t 30 a v 33 b = t 33 b := rfl
theorem up_30_34 {t : TT} {a b : Nat} {v : Int32} : up2 t 30 a v 34 b = t 34 b := rfl
theorem up_30_35 {t : TT} {a b : Nat} {v : Int32} : up2 t 30 a v 35 b = t 35 b := rfl
theorem up_30_36 {t : TT} {a b : Nat} {v : Int32} : up2 t 30 a v 36 b = t 36 b := rfl
theorem up_31_1 {t : TT} {a b : Nat} {v : Int32} : up2 t 31 a v 1 b = t 1 b := rfl
theorem up_31_2 {t : TT} {a b : Nat} {v : Int32} : up2 t 31 a v 2 b = t 2 b := rfl
theorem up_31_3 {t : TT} {a b : Nat} {v : Int32} : up2 t 31 a v 3 b = t 3 b := rfl
theorem up_31_4 {t : TT} {a b : Nat} {v : Int32} : up2 t 31 a v 4 b = t 4 b := rfl
theorem up_31_5 {t : TT} {a b : Nat} {v : Int32} : up2 t 31 a v 5 b = t 5 b := rfl
theorem up_31_6 {t : TT} {a b : Nat} {v : Int32} : up2 t 31 a v 6 b = t 6 b := rfl
theorem up_31_7 {t : TT} {a b : Nat} {v : Int32} : up2 t 31 a v 7 b = t 7 b := rfl
theorem up_31_8 {t : TT} {a b : Nat} {v : Int32} : up2 t 31 a v 8 b = t 8 b := rfl
theorem up_31_10 {t : TT} {a b : Nat} {v : Int32} : up2 t 31 a v 10 b = t 10 b := rfl
theorem up_31_11 {t : TT} {a b : Nat} {v : Int32} : up2 t 31 a v 11 b = t 11 b := rfl
theorem up_31_12 {t : TT} {a b : Nat} {v : Int32} : up2 t 31 a v 12 b = t 12 b := rfl
theorem up_31_13 {t : TT} {a b : Nat} {v : Int32} : up2 t 31 a v 13 b = t 13 b := rfl
theorem up_31_14 {t : TT} {a b : Nat} {v : Int32} : up2 t 31 a v 14 b = t 14 b := rfl
theorem up_31_15 {t : TT} {a b : Nat} {v : Int32} : up2 t 31 a v 15 b = t 15 b := rfl
theorem up_31_16 {t : TT} {a b : Nat} {v : Int32} : up2 t 31 a v 16 b = t 16 b := rfl
theorem up_31_17 {t : TT} {a b : Nat} {v : Int32} : up2 t 31 a v 17 b = t 17 b := rfl
theorem up_31_18 {t : TT} {a b : Nat} {v : Int32} : up2 t 31 a v 18 b = t 18 b := rfl
theorem up_31_19 {t : TT} {a b : Nat} {v : Int32} : up2 t 31 a v 19 b = t 19 b := rfl
theorem up_31_20 {t : TT} {a b : Nat} {v : Int32} : up2 t 31 a v 20 b = t 20 b := rfl
theorem up_31_21 {t : TT} {a b : Nat} {v : Int32} : up2 t 31 a v 21 b = t 21 b := rfl
theorem up_31_22 {t : TT} {a b : Nat} {v : Int32} : up2 t 31 a v 22 b = t 22 b := rfl
theorem up_31_23 {t : TT} {a b : Nat} {v : Int32} : up2 t 31 a v 23 b = t 23 b := rfl
theorem up_31_24 {t : TT} {a b : Nat} {v : Int32} : up2 t 31 a v 24 b = t 24 b := rfl
theorem up_31_25 {t : TT} {a b : Nat} {v : Int32} : up2 t 31 a v 25 b = t 25 b := rfl
theorem up_31_26 {t : TT} {a b : Nat} {v : Int32} : up2 t 31 a v 26 b = t 26 b := rfl
theorem up_31_27 {t : TT} {a b : Nat} {v : Int32} : up2 t 31 a v 27 b = t 27 b := rfl
theorem up_31_28 {t : TT} {a b : Nat} {v : Int32} : up2 t 31 a v 28 b = t 28 b := rfl
theorem up_31_29 {t : TT} {a b : Nat} {v : Int32} : up2 t 31 a v 29 b = t 29 b := rfl
theorem up_31_30 {t : TT} {a b : Nat} {v : Int32} : up2 t 31 a v 30 b = t 30 b := rfl
theorem up_31_32 {t : TT} {a b : Nat} {v : Int32} : up2 t 31 a v 32 b = t 32 b := rfl
theorem up_31_33 {t : TT} {a b : Nat} {v : Int32} : up2 t 31 a v 33 b = t 33 b := rfl
theorem up_31_34 {t : TT} {a b : Nat} {v : Int32} : up2 t 31 a v 34 b = t 34 b := rfl
theorem up_31_35 {t : TT} {a b : Nat} {v : Int32} : up2 t 31 a v 35 b = t 35 b := rfl
theorem up_31_36 {t : TT} {a b : Nat} {v : Int32} : up2 t 31 a v 36 b = t 36 b := rfl
theorem up_32_1 {t : TT} {a b : Nat} {v : Int32} : up2 t 32 a v 1 b = t 1 b := rfl
theorem up_32_2 {t : TT} {a b : Nat} {v : Int32} : up2 t 32 a v 2 b = t 2 b := rfl
theorem up_32_3 {t : TT} {a b : Nat} {v : Int32} : up2 t 32 a v 3 b = t 3 b := rfl
theorem up_32_4 {t : TT} {a b : Nat} {v : Int32} : up2 t 32 a v 4 b = t 4 b := rfl
theorem up_32_5 {t : TT} {a b : Nat} {v : Int32} : up2 t 32 a v 5 b = t 5 b := rfl
theorem up_32_6 {t : TT} {a b : Nat} {v : Int32} : up2 t 32 a v 6 b = t 6 b := rfl
theorem up_32_7 {t : TT} {a b : Nat} {v : Int32} : up2 t 32 a v 7 b = t 7 b := rfl
theorem up_32_8 {t : TT} {a b : Nat} {v : Int32} : up2 t 32 a v 8 b = t 8 b := rfl
theorem up_32_10 {t : TT} {a b : Nat} {v : Int32} : up2 t 32 a v 10 b = t 10 b := rfl
theorem up_32_11 {t : TT} {a b : Nat} {v : Int32} : up2 t 32 a v 11 b = t 11 b := rfl
theorem up_32_12 {t : TT} {a b : Nat} {v : Int32} : up2 t 32 a v 12 b = t 12 b := rfl
theorem up_32_13 {t : TT} {a b : Nat} {v : Int32} : up2 t 32 a v 13 b = t 13 b := rfl
theorem up_32_14 {t : TT} {a b : Nat} {v : Int32} : up2 t 32 a v 14 b = t 14 b := rfl
theorem up_32_15 {t : TT} {a b : Nat} {v : Int32} : up2 t 32 a v 15 b = t 15 b := rfl
theorem up_32_16 {t : TT} {a b : Nat} {v : Int32} : up2 t 32 a v 16 b = t 16 b := rfl
theorem up_32_17 {t : TT} {a b : Nat} {v : Int32} : up2 t 32 a v 17 b = t 17 b := rfl
theorem up_32_18 {t : TT} {a b : Nat} {v : Int32} : up2 t 32 a v 18 b = t 18 b := rfl
theorem up_32_19 {t : TT} {a b : Nat} {v : Int32} : up2 t 32 a v 19 b = t 19 b := rfl
theorem up_32_20 {t : TT} {a b : Nat} {v : Int32} : up2 t 32 a v 20 b = t 20 b := rfl
theorem up_32_21 {t : TT} {a b : Nat} {v : Int32} : up2 t 32 a v 21 b = t 21 b := rfl
theorem up_32_22 {t : TT} {a b : Nat} {v : Int32} : up2 t 32 a v 22 b = t 22 b := rfl
theorem up_32_23 {t : TT} {a b : Nat} {v : Int32} : up2 t 32 a v 23 b = t 23 b := rfl
theorem up_32_24 {t : TT} {a b : Nat} {v : Int32} : up2 t 32 a v 24 b = t 24 b := rfl
theorem up_32_25 {t : TT} {a b : Nat} {v : Int32} : up2 t 32 a v 25 b = t 25 b := rfl
theorem up_32_26 {t : TT} {a b : Nat} {v : Int32} : up2 t 32 a v 26 b = t 26 b := rfl
theorem up_32_27 {t : TT} {a b : Nat} {v : Int32} : up2 t 32 a v 27 b = t 27 b := rfl
theorem up_32_28 {t : TT} {a b : Nat} {v : Int32} : up2 t 32 a v 28 b = t 28 b := rfl
theorem up_32_29 {t : TT} {a b : Nat} {v : Int32} : up2 t 32 a v 29 b = t 29 b := rfl
theorem up_32_30 {t : TT} {a b : Nat} {v : Int32} : up2 t 32 a v 30 b = t 30 b := rfl
theorem up_32_31 {t : TT} {a b : Nat} {v : Int32} : up2 t 32 a v 31 b = t 31 b := rfl
theorem up_32_33 {t : TT} {a b : Nat} {v : Int32} : up2 t 32 a v 33 b = t 33 b := rfl
theorem up_32_34 {t : TT} {a b : Nat} {v : Int32} : up2 t 32 a v 34 b = t 34 b := rfl
theorem up_32_35 {t : TT} {a b : Nat} {v : Int32} : up2 t 32 a v 35 b = t 35 b := rfl
theorem up_32_36 {t : TT} {a b : Nat} {v : Int32} : up2 t 32 a v 36 b = t 36 b := rfl
theorem up_33_1 {t : TT} {a b : Nat} {v : Int32} : up2 t 33 a v 1 b = t 1 b := rfl
theorem up_33_2 {t : TT} {a b : Nat} {v : Int32} : up2 t 33 a v 2 b = t 2 b := rfl
theorem up_33_3 {t : TT} {a b : Nat} {v : Int32} : up2 t 33 a v 3 b = t 3 b := rfl
theorem up_33_4 {t : TT} {a b : Nat} {v : Int32} : up2 t 33 a v 4 b = t 4 b := rfl
theorem up_33_5 {t : TT} {a b : Nat} {v : Int32} : up2 t 33 a v 5 b = t 5 b := rfl
theorem up_33_6 {t : TT} {a b : Nat} {v : Int32} : up2 t 33 a v 6 b = t 6 b := rfl
theorem up_33_7 {t : TT} {a b : Nat} {v : Int32} : up2 t 33 a v 7 b = t 7 b := rfl
theorem up_33_8 {t : TT} {a b : Nat} {v : Int32} : up2 t 33 a v 8 b = t 8 b := rfl
theorem up_33_10 {t : TT} {a b : Nat} {v : Int32} : up2 t 33 a v 10 b = t 10 b := rfl
theorem up_33_11 {t : TT} {a b : Nat} {v : Int32} : up2 t 33 a v 11 b = t 11 b := rfl
theorem up_33_12 {t : TT} {a b : Nat} {v : Int32} : up2 t 33 a v 12 b = t 12 b := rfl
theorem up_33_13 {t : TT} {a b : Nat} {v : Int32} : up2 t 33 a v 13 b = t 13 b := rfl
theorem up_33_14 {t : TT} {a b : Nat} {v : Int32} : up2 t 33 a v 14 b = t 14 b := rfl
theorem up_33_15 {t : TT} {a b : Nat} {v : Int32} : up2 t 33 a v 15 b = t 15 b := rfl
theorem up_33_16 {t : TT} {a b : Nat} {v : Int32} : up2 t 33 a v 16 b = t 16 b := rfl
theorem up_33_17 {t : TT} {a b : Nat} {v : Int32} : up2 t 33 a v 17 b = t 17 b := rfl
theorem up_33_18 {t : TT} {a b : Nat} {v : Int32} : up2 t 33 a v 18 b = t 18 b := rfl
theorem up_33_19 {t : TT} {a b : Nat} {v : Int32} : up2 t 33 a v 19 b = t 19 b := rfl
theorem up_33_20 {t : TT} {a b : Nat} {v : Int32} : up2 t 33 a v 20 b = t 20 b := rfl
theorem up_33_21 {t : TT} {a b : Nat} {v : Int32} : up2 t 33 a v 21 b = t 21 b := rfl
theorem up_33_22 {t : TT} {a b : Nat} {v : Int32} : up2 t 33 a v 22 b = t 22 b := rfl
theorem up_33_23 {t : TT} {a b : Nat} {v : Int32} : up2 t 33 a v 23 b = t 23 b := rfl
theorem up_33_24 {t : TT} {a b : Nat} {v : Int32} : up2 t 33 a v 24 b = t 24 b := rfl
theorem up_33_25 {t : TT} {a b : Nat} {v : Int32} : up2 t 33 a v 25 b = t 25 b := rfl
theorem up_33_26 {t : TT} {a b : Nat} {v : Int32} : up2 t 33 a v 26 b = t 26 b := rfl
theorem up_33_27 {t : TT} {a b : Nat} {v : Int32} : up2 t 33 a v 27 b = t 27 b := rfl
theorem up_33_28 {t : TT} {a b : Nat} {v : Int32} : up2 t 33 a v 28 b = t 28 b := rfl
theorem up_33_29 {t : TT} {a b : Nat} {v : Int32} : up2 t 33 a v 29 b = t 29 b := rfl
theorem up_33_30 {t : TT} {a b : Nat} {v : Int32} : up2 t 33 a v 30 b = t 30 b := rfl
theorem up_33_31 {t : TT} {a b : Nat} {v : Int32} : up2 t 33 a v 31 b = t 31 b := rfl
theorem up_33_32 {t : TT} {a b : Nat} {v : Int32} : up2 t 33 a v 32 b = t 32 b := rfl
theorem up_33_34 {t : TT} {a b : Nat} {v : Int32} : up2 t 33 a v 34 b = t 34 b := rfl
theorem up_33_35 {t : TT} {a b : Nat} {v : Int32} : up2 t 33 a v 35 b = t 35 b := rfl
theorem up_33_36 {t : TT} {a b : Nat} {v : Int32} : up2 t 33 a v 36 b = t 36 b := rfl
theorem up_34_1 {t : TT} {a b : Nat} {v : Int32} : up2 t 34 a v 1 b = t 1 b := rfl
theorem up_34_2 {t : TT} {a b : Nat} {v : Int32} : up2 t 34 a v 2 b = t 2 b := rfl
theorem up_34_3 {t : TT} {a b : Nat} {v : Int32} : up2 t 34 a v 3 b = t 3 b := rfl
theorem up_34_4 {t : TT} {a b : Nat} {v : Int32} : up2 t 34 a v 4 b = t 4 b := rfl
theorem up_34_5 {t : TT} {a b : Nat} {v : Int32} : up2 t 34 a v 5 b = t 5 b := rfl
theorem up_34_6 {t : TT} {a b : Nat} {v : Int32} : up2 t 34 a v 6 b = t 6 b := rfl
theorem up_34_7 {t : TT} {a b : Nat} {v : Int32} : up2 t 34 a v 7 b = t 7 b := rfl
theorem up_34_8 {t : TT} {a b : Nat} {v : Int32} : up2 t 34 a v 8 b = t 8 b := rfl
theorem up_34_10 {t : TT} {a b : Nat} {v : Int32} : up2 t 34 a v 10 b = t 10 b := rfl
theorem up_34_11 {t : TT} {a b : Nat} {v : Int32} : up2 t 34 a v 11 b = t 11 b := rfl
theorem up_34_12 {t : TT} {a b : Nat} {v : Int32} : up2 t 34 a v 12 b = t 12 b := rfl
theorem up_34_13 {t : TT} {a b : Nat} {v : Int32} : up2 t 34 a v 13 b = t 13 b := rfl
theorem up_34_14 {t : TT} {a b : Nat} {v : Int32} : up2 t 34 a v 14 b = t 14 b := rfl
theorem up_34_15 {t : TT} {a b : Nat} {v : Int32} : up2 t 34 a v 15 b = t 15 b := rfl
theorem up_34_16 {t : TT} {a b : Nat} {v : Int32} : up2 t 34 a v 16 b = t 16 b := rfl
theorem up_34_17 {t : TT} {a b : Nat} {v : Int32} : up2 t 34 a v 17 b = t 17 b := rfl
theorem up_34_18 {t : TT} {a b : Nat} {v : Int32} : up2 t 34 a v 18 b = t 18 b := rfl
theorem up_34_19 {t : TT} {a b : Nat} {v : Int32} : up2 t 34 a v 19 b = t 19 b := rfl
theorem up_34_20 {t : TT} {a b : Nat} {v : Int32} : up2 t 34 a v 20 b = t 20 b := rfl
theorem up_34_21 {t : TT} {a b : Nat} {v : Int32} : up2 t 34 a v 21 b = t 21 b := rfl
theorem up_34_22 {t : TT} {a b : Nat} {v : Int32} : up2 t 34 a v 22 b = t 22 b := rfl
theorem up_34_23 {t : TT} {a b : Nat} {v : Int32} : up2 t 34 a v 23 b = t 23 b := rfl
theorem up_34_24 {t : TT} {a b : Nat} {v : Int32} : up2 t 34 a v 24 b = t 24 b := rfl
theorem up_34_25 {t : TT} {a b : Nat} {v : Int32} : up2 t 34 a v 25 b = t 25 b := rfl
theorem up_34_26 {t : TT} {a b : Nat} {v : Int32} : up2 t 34 a v 26 b = t 26 b := rfl
theorem up_34_27 {t : TT} {a b : Nat} {v : Int32} : up2 t 34 a v 27 b = t 27 b := rfl
theorem up_34_28 {t : TT} {a b : Nat} {v : Int32} : up2 t 34 a v 28 b = t 28 b := rfl
theorem up_34_29 {t : TT} {a b : Nat} {v : Int32} : up2 t 34 a v 29 b = t 29 b := rfl
theorem up_34_30 {t : TT} {a b : Nat} {v : Int32} : up2 t 34 a v 30 b = t 30 b := rfl
theorem up_34_31 {t : TT} {a b : Nat} {v : Int32} : up2 t 34 a v 31 b = t 31 b := rfl
theorem up_34_32 {t : TT} {a b : Nat} {v : Int32} : up2 t 34 a v 32 b = t 32 b := rfl
theorem up_34_33 {t : TT} {a b : Nat} {v : Int32} : up2 t 34 a v 33 b = t 33 b := rfl
theorem up_34_35 {t : TT} {a b : Nat} {v : Int32} : up2 t 34 a v 35 b = t 35 b := rfl
theorem up_34_36 {t : TT} {a b : Nat} {v : Int32} : up2 t 34 a v 36 b = t 36 b := rfl
theorem up_35_1 {t : TT} {a b : Nat} {v : Int32} : up2 t 35 a v 1 b = t 1 b := rfl
theorem up_35_2 {t : TT} {a b : Nat} {v : Int32} : up2 t 35 a v 2 b = t 2 b := rfl
theorem up_35_3 {t : TT} {a b : Nat} {v : Int32} : up2 t 35 a v 3 b = t 3 b := rfl
theorem up_35_4 {t : TT} {a b : Nat} {v : Int32} : up2 t 35 a v 4 b = t 4 b := rfl
theorem up_35_5 {t : TT} {a b : Nat} {v : Int32} : up2 t 35 a v 5 b = t 5 b := rfl
theorem up_35_6 {t : TT} {a b : Nat} {v : Int32} : up2 t 35 a v 6 b = t 6 b := rfl
theorem up_35_7 {t : TT} {a b : Nat} {v : Int32} : up2 t 35 a v 7 b = t 7 b := rfl
theorem up_35_8 {t : TT} {a b : Nat} {v : Int32} : up2 t 35 a v 8 b = t 8 b := rfl
theorem up_35_10 {t : TT} {a b : Nat} {v : Int32} : up2 t 35 a v 10 b = t 10 b := rfl
theorem up_35_11 {t : TT} {a b : Nat} {v : Int32} : up2 t 35 a v 11 b = t 11 b := rfl
theorem up_35_12 {t : TT} {a b : Nat} {v : Int32} : up2 t 35 a v 12 b = t 12 b := rfl
theorem up_35_13 {t : TT} {a b : Nat} {v : Int32} : up2 t 35 a v 13 b = t 13 b := rfl
theorem up_35_14 {t : TT} {a b : Nat} {v : Int32} : up2 t 35 a v 14 b = t 14 b := rfl
theorem up_35_15 {t : TT} {a b : Nat} {v : Int32} : up2 t 35 a v 15 b = t 15 b := rfl
theorem up_35_16 {t : TT} {a b : Nat} {v : Int32} : up2 t 35 a v 16 b = t 16 b := rfl
theorem up_35_17 {t : TT} {a b : Nat} {v : Int32} : up2 t 35 a v 17 b = t 17 b := rfl
theorem up_35_18 {t : TT} {a b : Nat} {v : Int32} : up2 t 35 a v 18 b = t 18 b := rfl
theorem up_35_19 {t : TT} {a b : Nat} {v : Int32} : up2 t 35 a v 19 b = t 19 b := rfl
theorem up_35_20 {t : TT} {a b : Nat} {v : Int32} : up2 t 35 a v 20 b = t 20 b := rfl
theorem up_35_21 {t : TT} {a b : Nat} {v : Int32} : up2 t 35 a v 21 b = t 21 b := rfl
theorem up_35_22 {t : TT} {a b : Nat} {v : Int32} : up2 t 35 a v 22 b = t 22 b := rfl
theorem up_35_23 {t : TT} {a b : Nat} {v : Int32} : up2 t 35 a v 23 b = t 23 b := rfl
theorem up_35_24 {t : TT} {a b : Nat} {v : Int32} : up2 t 35 a v 24 b = t 24 b := rfl
theorem up_35_25 {t : TT} {a b : Nat} {v : Int32} : up2 t 35 a v 25 b = t 25 b := rfl
theorem up_35_26 {t : TT} {a b : Nat} {v : Int32} : up2 t 35 a v 26 b = t 26 b := rfl
theorem up_35_27 {t : TT} {a b : Nat} {v : Int32} : up2 t 35 a v 27 b = t 27 b := rfl
theorem up_35_28 {t : TT} {a b : Nat} {v : Int32} : up2 t 35 a v 28 b = t 28 b := rfl
theorem up_35_29 {t : TT} {a b : Nat} {v : Int32} : up2 t 35 a v 29 b = t 29 b := rfl
theorem up_35_30 {t : TT} {a b : Nat} {v : Int32} : up2 t 35 a v 30 b = t 30 b := rfl
theorem up_35_31 {t : TT} {a b : Nat} {v : Int32} : up2 t 35 a v 31 b = t 31 b := rfl
theorem up_35_32 {t : TT} {a b : Nat} {v : Int32} : up2 t 35 a v 32 b = t 32 b := rfl
theorem up_35_33 {t : TT} {a b : Nat} {v : Int32} : up2 t 35 a v 33 b = t 33 b := rfl
theorem up_35_34 {t : TT} {a b : Nat} {v : Int32} : up2 t 35 a v 34 b = t 34 b := rfl
theorem up_35_36 {t : TT} {a b : Nat} {v : Int32} : up2 t 35 a v 36 b = t 36 b := rfl
theorem up_36_1 {t : TT} {a b : Nat} {v : Int32} : up2 t 36 a v 1 b = t 1 b := rfl
theorem up_36_2 {t : TT} {a b : Nat} {v : Int32} : up2 t 36 a v 2 b = t 2 b := rfl
theorem up_36_3 {t : TT} {a b : Nat} {v : Int32} : up2 t 36 a v 3 b = t 3 b := rfl
theorem up_36_4 {t : TT} {a b : Nat} {v : Int32} : up2 t 36 a v 4 b = t 4 b := rfl
theorem up_36_5 {t : TT} {a b : Nat} {v : Int32} : up2 t 36 a v 5 b = t 5 b := rfl
theorem up_36_6 {t : TT} {a b : Nat} {v : Int32} : up2 t 36 a v 6 b = t 6 b := rfl
theorem up_36_7 {t : TT} {a b : Nat} {v : Int32} : up2 t 36 a v 7 b = t 7 b := rfl
theorem up_36_8 {t : TT} {a b : Nat} {v : Int32} : up2 t 36 a v 8 b = t 8 b := rfl
theorem up_36_10 {t : TT} {a b : Nat} {v : Int32} : up2 t 36 a v 10 b = t 10 b := rfl
theorem up_36_11 {t : TT} {a b : Nat} {v : Int32} : up2 t 36 a v 11 b = t 11 b := rfl
theorem up_36_12 {t : TT} {a b : Nat} {v : Int32} : up2 t 36 a v 12 b = t 12 b := rfl
theorem up_36_13 {t : TT} {a b : Nat} {v : Int32} : up2 t 36 a v 13 b = t 13 b := rfl
theorem up_36_14 {t : TT} {a b : Nat} {v : Int32} : up2 t 36 a v 14 b = t 14 b := rfl
theorem up_36_15 {t : TT} {a b : Nat} {v : Int32} : up2 t 36 a v 15 b = t 15 b := rfl
theorem up_36_16 {t : TT} {a b : Nat} {v : Int32} : up2 t 36 a v 16 b = t 16 b := rfl
theorem up_36_17 {t : TT} {a b : Nat} {v : Int32} : up2 t 36 a v 17 b = t 17 b := rfl
theorem up_36_18 {t : TT} {a b : Nat} {v : Int32} : up2 t 36 a v 18 b = t 18 b := rfl
theorem up_36_19 {t : TT} {a b : Nat} {v : Int32} : up2 t 36 a v 19 b = t 19 b := rfl
theorem up_36_20 {t : TT} {a b : Nat} {v : Int32} : up2 t 36 a v 20 b = t 20 b := rfl
theorem up_36_21 {t : TT} {a b : Nat} {v : Int32} : up2 t 36 a v 21 b = t 21 b := rfl
theorem up_36_22 {t : TT} {a b : Nat} {v : Int32} : up2 t 36 a v 22 b = t 22 b := rfl
theorem up_36_23 {t : TT} {a b : Nat} {v : Int32} : up2 t 36 a v 23 b = t 23 b := rfl
theorem up_36_24 {t : TT} {a b : Nat} {v : Int32} : up2 t 36 a v 24 b = t 24 b := rfl
theorem up_36_25 {t : TT} {a b : Nat} {v : Int32} : up2 t 36 a v 25 b = t 25 b := rfl
theorem up_36_26 {t : TT} {a b : Nat} {v : Int32} : up2 t 36 a v 26 b = t 26 b := rfl
theorem up_36_27 {t : TT} {a b : Nat} {v : Int32} : up2 t 36 a v 27 b = t 27 b := rfl
theorem up_36_28 {t : TT} {a b : Nat} {v : Int32} : up2 t 36 a v 28 b = t 28 b := rfl
theorem up_36_29 {t : TT} {a b : Nat} {v : Int32} : up2 t 36 a v 29 b = t 29 b := rfl
theorem up_36_30 {t : TT} {a b : Nat} {v : Int32} : up2 t 36 a v 30 b = t 30 b := rfl
theorem up_36_31 {t : TT} {a b : Nat} {v : Int32} : up2 t 36 a v 31 b = t 31 b := rfl
theorem up_36_32 {t : TT} {a b : Nat} {v : Int32} : up2 t 36 a v 32 b = t 32 b := rfl
theorem up_36_33 {t : TT} {a b : Nat} {v : Int32} : up2 t 36 a v 33 b = t 33 b := rfl
theorem up_36_34 {t : TT} {a b : Nat} {v : Int32} : up2 t 36 a v 34 b = t 34 b := rfl
theorem up_36_35 {t : TT} {a b : Nat} {v : Int32} : up2 t 36 a v 35 b = t 35 b := rfl
theorem ov1 : (1 != 9 && 1 != 40 && 1 != 0 && 1 != 7) = true := rfl
def fR (f : TT → Nat → TT) (t : TT) : Nat → TT
  | 0 => t
  | k + 1 => f (fR f t k) k
theorem fR_I {f : TT → Nat → TT} {I : TT → Prop} {t : TT} {N : Nat} (hI : I t) (hf : ∀ u k, k < N → I u → I (f u k)) : ∀ k, k ≤ N → I (fR f t k)
  | 0, _ => hI
  | k + 1, hk => hf _ k (by omega) (fR_I hI hf k (by omega))
theorem loopG {L : Nat → Int32 → TT → Prop} {f : TT → Nat → TT} {E I : TT → Prop} {t : TT} {N : Nat} (hI : I t) (hf : ∀ u k, k < N → I u → I (f u k)) (hexit : ∀ u, I u → E u → ∃ n, L n (nI N) u) (hstep : ∀ u k n, k < N → I u → L n (nI (k + 1)) (f u k) → L (n + 1) (nI k) u) (h : E (fR f t N)) : ∃ n, L n 0 t := by
  have K : ∀ m k, k + m = N → ∃ n, L n (nI k) (fR f t k) := by
    intro m
    induction m with
    | zero =>
      intro k hk
      have : k = N := by omega
      subst this
      exact hexit _ (fR_I hI hf k (Nat.le_refl _)) h
    | succ m ih =>
      intro k hk
      obtain ⟨n, hn⟩ := ih (k + 1) (by omega)
      exact ⟨n + 1, hstep _ k n (by omega) (fR_I hI hf k (by omega)) hn⟩
  exact K N 0 (by omega)
theorem up2_comm {t : TT} {k i k' i' : Nat} {v v' : Int32} (h : ¬ (k = k' ∧ i = i')) : up2 (up2 t k i v) k' i' v' = up2 (up2 t k' i' v') k i v := by
  funext a b
  unfold up2
  by_cases h1 : a = k' ∧ b = i'
  · have h2 : ¬ (a = k ∧ b = i) := fun z => h ⟨z.1.symm.trans h1.1, z.2.symm.trans h1.2⟩
    simp only [if_pos h1, if_neg h2]
  · by_cases h2 : a = k ∧ b = i
    · simp only [if_neg h1, if_pos h2]
    · simp only [if_neg h1, if_neg h2]
/-- the REPORTS -/
def repU (u : TT) (k : Nat) : TT := if u 34 k = 0 then up2 u 24 k (u 20 k) else u
/-- how long held -/
def heldU (u : TT) (k : Nat) : TT := up2 u 29 k (if u 29 k ≤ 0 then u 29 k - 0 else u 29 k - 1)
/-- people come -/
def waitU (u : TT) (p : Nat) : TT := up2 u 6 p (mmin (u 6 p + u 5 p) 999)
/-- people board -/
def ones9 (a : Int32) : Int32 := (((a &&& 1) + ((a >>> ((1 : Int32) &&& 31)) &&& 1)) + ((a >>> ((2 : Int32) &&& 31)) &&& 1)) + ((a >>> ((3 : Int32) &&& 31)) &&& 1)
def manyS (u : TT) (k : Nat) : Int32 := mmin (mmin (2 * ones9 (u 27 k)) (u 6 (u 26 k).toNatClampNeg)) (120 - u 28 k)
def boardU (u : TT) (k : Nat) : TT := if u 27 k = -1 then u else up2 (up2 u 6 (u 26 k).toNatClampNeg (u 6 (u 26 k).toNatClampNeg - manyS u k)) 28 k (u 28 k + manyS u k)
/-- a train goes -/
def anyB (f : Nat → Bool) : Nat → Bool
  | 0 => false
  | k + 1 => anyB f k || f k
theorem anyB_t {f : Nat → Bool} {k : Nat} (h : f k = true) : ∀ n, k < n → anyB f n = true
  | 0, hn => by omega
  | n + 1, hn => by
    unfold anyB
    by_cases e : k = n
    · subst e
      rw [h, Bool.or_true]
    · rw [anyB_t h n (by omega), Bool.true_or]
def farS (u : TT) (k : Nat) : Int32 := if u 22 k = 0 then 0 else u 22 k + u 25 k
def goV (u : TT) (tk k : Nat) : TT := up2 (up2 (up2 (up2 (up2 u 35 (1000 * k + tk) (u 22 k)) 36 (1000 * k + tk) (farS u k)) 19 k (u 19 k + farS u k)) 20 k (u 20 k + (if u 22 k = 0 then 0 else u 22 k - 1))) 21 k (u 21 k + (if u 22 k = 0 then 0 else u 22 k + 1))
def metB (u : TT) (bef pl : Int32) (b : Nat) : Bool := !decide (u 13 b = 0) && !decide (u 12 b ≤ bef) && !decide (pl < u 12 b)
def setU (u : TT) (k : Nat) : TT := up2 (up2 u 20 k (u 19 k)) 21 k (u 19 k)
def goU (tk nb : Nat) (u : TT) (k : Nat) : TT := if anyB (metB u (u 19 k) (u 19 k + farS u k)) nb = true then setU (goV u tk k) k else goV u tk k
theorem setU_set {u : TT} {k : Nat} : setU (setU u k) k = setU u k := by
  have e1 : setU u k 19 k = u 19 k := rfl
  have e2 : setU u k 20 k = u 19 k := by unfold setU; rw [up_21_20, up2_same]
  have e3 : setU u k 21 k = u 19 k := by unfold setU; rw [up2_same]
  have h1 : setU (setU u k) k = up2 (up2 (setU u k) 20 k (u 19 k)) 21 k (u 19 k) := rfl
  rw [h1, up2_self e2.symm, up2_self e3.symm]
section IV
variable {n np nb nz nt tk : Nat} {t : TT}
theorem repU_inv {k : Nat} (hk : k < nt) (h : Inv n np nb nz nt tk t) : Inv n np nb nz nt tk (repU t k) := by
  unfold repU
  split
  · exact h.free (by omega) hk
  · exact h
theorem held_dec : ∀ k, k < 100 → ∃ j, j < 100 ∧ (if nI k ≤ 0 then nI k - 0 else nI k - 1) = nI j := by decide +kernel
theorem held_dec2 : ∀ k, k < 100 → mmax (nI k - 1) 0 = (if nI k ≤ 0 then nI k - 0 else nI k - 1) := by decide +kernel
theorem heldU_inv {k : Nat} (hk : k < nt) (h : Inv n np nb nz nt tk t) : Inv n np nb nz nt tk (heldU t k) := by
  refine h.train (by omega) hk ?_
  obtain ⟨h1, h2, h3, h4, h5, h6, ⟨w, w1, w2⟩, h8⟩ := h.2.2.2.1 k hk
  obtain ⟨j, j1, j2⟩ := held_dec w (by omega)
  unfold TrI
  simp only [up_29_1, up_29_2, up_29_3, up_29_4, up_29_5, up_29_6, up_29_7, up_29_8, up_29_10, up_29_11, up_29_12, up_29_13, up_29_14, up_29_15, up_29_16, up_29_17, up_29_18, up_29_19, up_29_20, up_29_21, up_29_22, up_29_23, up_29_24, up_29_25, up_29_26, up_29_27, up_29_28, up_29_30, up_29_31, up_29_32, up_29_33, up_29_34, up_29_35, up_29_36, up2_same]
  exact ⟨h1, h2, h3, h4, h5, h6, ⟨j, by omega, by rw [w2]; exact j2⟩, h8⟩
/-- a number of a PLATFORM that is there is told anew -/
theorem Inv.plat {k p : Nat} {v : Int32} (h : Inv n np nb nz nt tk t) (hk : 4 ≤ k ∧ k ≤ 10) (hp : p < np) (ht : PlI (up2 t k p v) n p) : Inv n np nb nz nt tk (up2 t k p v) := by
  obtain ⟨hc, htk, hq, hT, hP, hb, hz, z1, z2, z3, z4, z5⟩ := h
  have e : ∀ k' i', k' < 4 ∨ 10 < k' → up2 t k p v k' i' = t k' i' := fun k' i' q => up2_ne fun z => by omega
  refine ⟨?_, ?_, ?_, fun j hj => ?_, fun p' hp' => ?_, fun b hb9 => ?_, fun z hz9 => ?_, fun k' j hj h1 h2 => ?_, fun j hj => ?_, fun k' j hj h1 h2 => ?_, fun j hj => ?_, fun j hj => ?_⟩
  · unfold Cnt
    rw [e _ _ (by omega), e _ _ (by omega), e _ _ (by omega), e _ _ (by omega)]
    exact hc
  · rw [e _ _ (by omega)]; exact htk
  · rw [e _ _ (by omega)]; exact hq
  · have H := hT j hj
    unfold TrI at H ⊢
    rw [e _ _ (by omega), e _ _ (by omega), e _ _ (by omega), e _ _ (by omega), e _ _ (by omega), e _ _ (by omega), e _ _ (by omega), e _ _ (by omega), e _ _ (by omega)]
    exact H
  · by_cases q : p' = p
    · subst q; exact ht
    · have H := hP p' hp'
      unfold PlI at H ⊢
      rw [up2_ne (fun z => q z.2), up2_ne (fun z => q z.2), up2_ne (fun z => q z.2)]
      exact H
  · rw [e _ _ (by omega)]; exact hb b hb9
  · rw [e _ _ (by omega)]; exact hz z hz9
  · rw [e _ _ (by omega)]; exact z1 k' j hj h1 h2
  · rw [e _ _ (by omega), e _ _ (by omega)]; exact z2 j hj
  · rw [up2_ne fun z => by omega]; exact z3 k' j hj h1 h2
  · rw [e _ _ (by omega), e _ _ (by omega)]; exact z4 j hj
  · rw [e _ _ (by omega), e _ _ (by omega), e _ _ (by omega)]; exact z5 j hj
theorem nI_min {a b : Nat} (ha : a < 2 ^ 31) (hb : b < 2 ^ 31) : mmin (nI a) (nI b) = nI (min a b) := by
  rw [mmin_le]
  by_cases h : a ≤ b
  · rw [if_pos (nI_le h hb), Nat.min_eq_left h]
  · rw [if_neg (nI_ge (by omega) ha), Nat.min_eq_right (by omega)]
theorem waitU_inv {p : Nat} (hp : p < np) (h : Inv n np nb nz nt tk t) : Inv n np nb nz nt tk (waitU t p) := by
  refine h.plat (by omega) hp ?_
  obtain ⟨h1, ⟨w, w1, w2⟩, ⟨r, r1, r2⟩⟩ := h.2.2.2.2.1 p hp
  unfold PlI
  simp only [up_6_1, up_6_2, up_6_3, up_6_4, up_6_5, up_6_7, up_6_8, up_6_10, up_6_11, up_6_12, up_6_13, up_6_14, up_6_15, up_6_16, up_6_17, up_6_18, up_6_19, up_6_20, up_6_21, up_6_22, up_6_23, up_6_24, up_6_25, up_6_26, up_6_27, up_6_28, up_6_29, up_6_30, up_6_31, up_6_32, up_6_33, up_6_34, up_6_35, up_6_36, up2_same]
  refine ⟨h1, ⟨min (w + r) 999, by omega, ?_⟩, r, r1, r2⟩
  rw [w2, r2, nI_add]
  exact nI_min (a := w + r) (b := 999) (by omega) (by omega)
theorem ones_dec : ∀ d, d < 16 → ∃ a, a < 9 ∧ 2 * ones9 (nI d) = nI a := by decide +kernel
theorem ones_bitc : ∀ d, d < 16 → bitc (nI d) = ones9 (nI d) := by decide +kernel
theorem many_rng {k p : Nat} (hk : k < nt) (h : Inv n np nb nz nt tk t) (hd : t 27 k ≠ -1) (hp : t 26 k = nI p) (hp2 : p < np) : ∃ a w q, w ≤ 999 ∧ q ≤ 120 ∧ t 6 p = nI w ∧ t 28 k = nI q ∧ 2 * ones9 (t 27 k) = nI a ∧ a < 9 ∧ manyS t k = nI (min (min a w) (120 - q)) := by
  obtain ⟨-, -, -, h4, -, ⟨q, q1, q2⟩, -⟩ := h.2.2.2.1 k hk
  obtain ⟨-, ⟨w, w1, w2⟩, -⟩ := h.2.2.2.2.1 p hp2
  obtain ⟨d, d1, d2⟩ := h4.resolve_left hd
  obtain ⟨a, a1, a2⟩ := ones_dec d (by omega)
  have hp6 := h.1.2.1
  refine ⟨a, w, q, w1, q1, w2, q2, by rw [d2]; exact a2, a1, ?_⟩
  unfold manyS
  rw [hp, cl0 (by omega), d2, a2, w2, q2, nI_min (by omega) (by omega), show (120 : Int32) = nI 120 from rfl, pk_sub q1, nI_min (by omega) (by omega)]
theorem boardU_inv {k : Nat} (hk : k < nt) (h : Inv n np nb nz nt tk t) : Inv n np nb nz nt tk (boardU t k) := by
  unfold boardU
  split
  · exact h
  · next hd =>
    obtain ⟨-, -, hs, -, h5, -⟩ := h.2.2.2.1 k hk
    obtain ⟨p, p1, p2⟩ := hs.resolve_left (h5 hd)
    obtain ⟨a, w, q, w1, q1, w2, q2, a2, a1, hm⟩ := many_rng hk h hd p2 p1
    have hp6 := h.1.2.1
    rw [hm, p2, cl0 (by omega), w2, q2, pk_sub (by omega), nI_add]
    have I1 : Inv n np nb nz nt tk (up2 t 6 p (nI (w - min (min a w) (120 - q)))) := by
      refine h.plat (by omega) p1 ?_
      obtain ⟨g1, -, g3⟩ := h.2.2.2.2.1 p p1
      unfold PlI
      simp only [up_6_1, up_6_2, up_6_3, up_6_4, up_6_5, up_6_7, up_6_8, up_6_10, up_6_11, up_6_12, up_6_13, up_6_14, up_6_15, up_6_16, up_6_17, up_6_18, up_6_19, up_6_20, up_6_21, up_6_22, up_6_23, up_6_24, up_6_25, up_6_26, up_6_27, up_6_28, up_6_29, up_6_30, up_6_31, up_6_32, up_6_33, up_6_34, up_6_35, up_6_36, up2_same]
      exact ⟨g1, ⟨_, by omega, rfl⟩, g3⟩
    refine I1.train (by omega) hk ?_
    obtain ⟨h1, h2, h3, h4, h5, h6, h7⟩ := I1.2.2.2.1 k hk
    unfold TrI
    simp only [up_28_1, up_28_2, up_28_3, up_28_4, up_28_5, up_28_6, up_28_7, up_28_8, up_28_10, up_28_11, up_28_12, up_28_13, up_28_14, up_28_15, up_28_16, up_28_17, up_28_18, up_28_19, up_28_20, up_28_21, up_28_22, up_28_23, up_28_24, up_28_25, up_28_26, up_28_27, up_28_29, up_28_30, up_28_31, up_28_32, up_28_33, up_28_34, up_28_35, up_28_36, up2_same]
    exact ⟨h1, h2, h3, h4, h5, ⟨_, by omega, rfl⟩, h7⟩
/-- the records -/
theorem Inv.rec {k j : Nat} {v : Int32} (h : Inv n np nb nz nt tk t) (hk : k = 35 ∨ k = 36) (hj : j < 1000 * nt) : Inv n np nb nz nt tk (up2 t k j v) := by
  obtain ⟨hc, htk, hq, hT, hP, hb, hz, z1, z2, z3, z4, z5⟩ := h
  have e : ∀ k' i', k' < 35 → up2 t k j v k' i' = t k' i' := fun k' i' q => up2_ne fun z => by omega
  refine ⟨?_, ?_, ?_, fun j hj => ?_, fun p hp => ?_, fun b hb9 => ?_, fun z hz9 => ?_, fun k' j hj h1 h2 => ?_, fun j' hj' => ?_, fun k' j hj h1 h2 => ?_, fun j hj => ?_, fun j hj => ?_⟩
  · unfold Cnt
    rw [e _ _ (by omega), e _ _ (by omega), e _ _ (by omega), e _ _ (by omega)]
    exact hc
  · rw [e _ _ (by omega)]; exact htk
  · rw [e _ _ (by omega)]; exact hq
  · have H := hT j hj
    unfold TrI at H ⊢
    rw [e _ _ (by omega), e _ _ (by omega), e _ _ (by omega), e _ _ (by omega), e _ _ (by omega), e _ _ (by omega), e _ _ (by omega), e _ _ (by omega), e _ _ (by omega)]
    exact H
  · unfold PlI
    rw [e _ _ (by omega), e _ _ (by omega), e _ _ (by omega)]
    exact hP p hp
  · rw [e _ _ (by omega)]; exact hb b hb9
  · rw [e _ _ (by omega)]; exact hz z hz9
  · rw [e _ _ (by omega)]; exact z1 k' j hj h1 h2
  · rw [up2_ne (fun z => by omega), up2_ne (fun z => by omega)]; exact z2 j' hj'
  · rw [e _ _ (by omega)]; exact z3 k' j hj h1 h2
  · rw [e _ _ (by omega), e _ _ (by omega)]; exact z4 j hj
  · rw [e _ _ (by omega), e _ _ (by omega), e _ _ (by omega)]; exact z5 j hj
theorem goV_inv {k : Nat} (hk : k < nt) (h : Inv n np nb nz nt tk t) : Inv n np nb nz nt tk (goV t tk k) := by
  have htk := h.2.1.2
  unfold goV
  exact ((((h.rec (Or.inl rfl) (by omega)).rec (Or.inr rfl) (by omega)).free (by omega) hk).free (by omega) hk).free (by omega) hk
theorem goU_inv {k : Nat} (hk : k < nt) (h : Inv n np nb nz nt tk t) : Inv n np nb nz nt tk (goU tk nb t k) := by
  unfold goU setU
  split
  · exact ((goV_inv hk h).free (by omega) hk).free (by omega) hk
  · exact goV_inv hk h
end IV
end
section
/-! a train goes, people board: both sides -/
theorem k1000 {i tk : Nat} : (1000 : Int32) * nI i + nI tk = nI (1000 * i + tk) := by
  show nI 1000 * nI i + nI tk = _
  rw [pk_mul, nI_add]
theorem byte_dec : ∀ f, f < 128 → vp_nar .byte (nI f).toInt8.toInt32 = nI f := vy_I
theorem oo19 : (19 != 9 && 19 != 40 && 19 != 0 && 19 != 7) = true := rfl
theorem oo20 : (20 != 9 && 20 != 40 && 20 != 0 && 20 != 7) = true := rfl
theorem oo21 : (21 != 9 && 21 != 40 && 21 != 0 && 21 != 7) = true := rfl
theorem oo35 : (35 != 9 && 35 != 40 && 35 != 0 && 35 != 7) = true := rfl
theorem oo36 : (36 != 9 && 36 != 40 && 36 != 0 && 36 != 7) = true := rfl
theorem oo6 : (6 != 9 && 6 != 40 && 6 != 0 && 6 != 7) = true := rfl
theorem oo28 : (28 != 9 && 28 != 40 && 28 != 0 && 28 != 7) = true := rfl
theorem oo24 : (24 != 9 && 24 != 40 && 24 != 0 && 24 != 7) = true := rfl
theorem oo29 : (29 != 9 && 29 != 40 && 29 != 0 && 29 != 7) = true := rfl
theorem goV_perm {u : TT} {a k : Nat} {x y p q r : Int32} : up2 (up2 (up2 (up2 (up2 u 35 a x) 36 a y) 19 k p) 20 k q) 21 k r = up2 (up2 (up2 (up2 (up2 u 19 k p) 20 k q) 21 k r) 35 a x) 36 a y := by
  funext c d
  simp only [up2]
  repeat' split
  all_goals first | rfl | omega
section GO
variable {px : String → TT → Prop} {t : TT} {n np nb nz nt tk : Nat}
theorem far_rng {i : Nat} (hI : Inv n np nb nz nt tk t) (hi : i < nt) : ∃ f, f ≤ 21 ∧ farS t i = nI f := by
  obtain ⟨⟨s, s1, s2⟩, h2, -⟩ := hI.2.2.2.1 i hi
  unfold farS
  rw [s2]
  by_cases e : s = 0
  · subst e
    exact ⟨0, by omega, by rw [if_pos nI_0, nI_0]⟩
  · rw [if_neg (nI_ne0 (by omega) (by omega))]
    obtain ⟨r, rfl⟩ : ∃ r, s = r + 1 := ⟨s - 1, by omega⟩
    rcases h2 with h2 | h2 | h2
    · exact ⟨r, by omega, by rw [h2, pk_m1]⟩
    · exact ⟨r + 1, by omega, by rw [h2, Int32.add_zero]⟩
    · exact ⟨r + 2, by omega, by rw [h2, nI_1]⟩
theorem pc_meetsBeacon {post : Int32 → TT → Prop} {a b : Int32} (hc : Cnt t np nb nz nt) (h : post (b2i (anyB (metB t a b) nb)) (over t)) : P_X4_meetsBeacon (MS np nb nz nt) post px 0 a b (over t) := by
  obtain ⟨-, -, hb, h12, -⟩ := hc
  have L : ∀ m k, k + m = nb → anyB (metB t a b) k = false → ∃ n, L_X4_meetsBeacon_2 (MS np nb nz nt) post px n 0 a b (nI k) (over t) := by
    intro m
    induction m with
    | zero =>
      intro k hk hf
      have : k = nb := by omega
      subst this
      refine ⟨1, ?_⟩
      rw [hf] at h
      simp only [L_X4_meetsBeacon_2, ms0, ov_1, ov_2, ov_3, ov_4, ov_5, ov_6, ov_7, ov_8, ov_10, ov_11, ov_12, ov_13, ov_14, ov_15, ov_16, ov_17, ov_18, ov_19, ov_20, ov_21, ov_22, ov_23, ov_24, ov_25, ov_26, ov_27, ov_28, ov_29, ov_30, ov_31, ov_32, ov_33, ov_34, ov_35, ov_36, hb, nle_self, if_true, isB_0, true_and]
      exact h
    | succ m ih =>
      intro k hk hf
      have hvk := vp0 (n := k) (N := 12) (by omega) (by omega)
      have hck := cl0 (n := k) (by omega)
      have hkt : k < nb := by omega
      have hlt : ¬ nI nb ≤ nI k := nI_ge (by omega) (by omega)
      cases ho : metB t a b k with
      | true =>
        rw [anyB_t ho nb hkt] at h
        refine ⟨1, ?_⟩
        simp only [metB, Bool.and_eq_true, Bool.not_eq_true', decide_eq_false_iff_not] at ho
        simp only [L_X4_meetsBeacon_2, B_X4_meetsBeacon_46, ms0, MS_2, MS_6, ov_1, ov_2, ov_3, ov_4, ov_5, ov_6, ov_7, ov_8, ov_10, ov_11, ov_12, ov_13, ov_14, ov_15, ov_16, ov_17, ov_18, ov_19, ov_20, ov_21, ov_22, ov_23, ov_24, ov_25, ov_26, ov_27, ov_28, ov_29, ov_30, ov_31, ov_32, ov_33, ov_34, ov_35, ov_36, hb, hlt, hvk, hck, hkt, ho.1.1, ho.1.2, ho.2, if_false, true_and, isB_1]
        exact h
      | false =>
        obtain ⟨n, hn⟩ := ih (k + 1) (by omega) (by unfold anyB; rw [hf, ho]; rfl)
        refine ⟨n + 1, ?_⟩
        simp only [L_X4_meetsBeacon_2, B_X4_meetsBeacon_46, ms0, MS_2, MS_6, ov_1, ov_2, ov_3, ov_4, ov_5, ov_6, ov_7, ov_8, ov_10, ov_11, ov_12, ov_13, ov_14, ov_15, ov_16, ov_17, ov_18, ov_19, ov_20, ov_21, ov_22, ov_23, ov_24, ov_25, ov_26, ov_27, ov_28, ov_29, ov_30, ov_31, ov_32, ov_33, ov_34, ov_35, ov_36, hb, hlt, hvk, hck, hkt, if_false, true_and, nI_1]
        by_cases h1 : t 13 k = 0
        · simp only [h1, if_true]; exact hn
        · by_cases h2 : t 12 k ≤ a
          · simp only [h1, h2, if_true, if_false]; exact hn
          · by_cases h3 : b < t 12 k
            · simp only [h1, h2, h3, if_true, if_false]; exact hn
            · simp [metB, h1, h2, h3] at ho
  exact L nb 0 (by omega) rfl
theorem pc_go {post : TT → Prop} {i : Nat} (hI : Inv n np nb nz nt tk t) (hi : i < nt) (h : post (over (goV t tk i))) : P_X2_go (MS np nb nz nt) post px i (nI tk) (over t) := by
  obtain ⟨⟨s, s1, s2⟩, -⟩ := hI.2.2.2.1 i hi
  have htk := hI.2.1.2
  obtain ⟨f, f1, f2⟩ := far_rng hI hi
  have hvk := vp0 (n := tk) (N := 1000) (by omega) (by omega)
  have hck := cl0 (n := tk) (by omega)
  have hn0 : ¬ nI tk < 0 := nI_pos (by omega)
  have h1000 : ¬ (1000 : Int32) ≤ nI tk := nI_ge (a := tk) (b := 1000) (by omega) (by omega)
  have hb1 := byte_dec s (by omega)
  have hb2 := byte_dec f (by omega)
  unfold goV at h
  simp only [B_X2_go_100, B_X2_go_59, P_X2_go, MS_8, MS_9, MS_10, ov_1, ov_2, ov_3, ov_4, ov_5, ov_6, ov_7, ov_8, ov_10, ov_11, ov_12, ov_13, ov_14, ov_15, ov_16, ov_17, ov_18, ov_19, ov_20, ov_21, ov_22, ov_23, ov_24, ov_25, ov_26, ov_27, ov_28, ov_29, ov_30, ov_31, ov_32, ov_33, ov_34, ov_35, ov_36, hi, true_and, hn0, h1000, hvk, hck, if_false, up_19_1, up_19_2, up_19_3, up_19_4, up_19_5, up_19_6, up_19_7, up_19_8, up_19_10, up_19_11, up_19_12, up_19_13, up_19_14, up_19_15, up_19_16, up_19_17, up_19_18, up_19_20, up_19_21, up_19_22, up_19_23, up_19_24, up_19_25, up_19_26, up_19_27, up_19_28, up_19_29, up_19_30, up_19_31, up_19_32, up_19_33, up_19_34, up_19_35, up_19_36, up_20_1, up_20_2, up_20_3, up_20_4, up_20_5, up_20_6, up_20_7, up_20_8, up_20_10, up_20_11, up_20_12, up_20_13, up_20_14, up_20_15, up_20_16, up_20_17, up_20_18, up_20_19, up_20_21, up_20_22, up_20_23, up_20_24, up_20_25, up_20_26, up_20_27, up_20_28, up_20_29, up_20_30, up_20_31, up_20_32, up_20_33, up_20_34, up_20_35, up_20_36, up_21_1, up_21_2, up_21_3, up_21_4, up_21_5, up_21_6, up_21_7, up_21_8, up_21_10, up_21_11, up_21_12, up_21_13, up_21_14, up_21_15, up_21_16, up_21_17, up_21_18, up_21_19, up_21_20, up_21_22, up_21_23, up_21_24, up_21_25, up_21_26, up_21_27, up_21_28, up_21_29, up_21_30, up_21_31, up_21_32, up_21_33, up_21_34, up_21_35, up_21_36, over_up oo19, over_up oo20, over_up oo21, over_up oo35, over_up oo36]
  by_cases e : s = 0
  · subst e
    rw [nI_0] at s2
    have hf0 : farS t i = 0 := if_pos s2
    rw [hf0, s2, if_pos rfl, if_pos rfl, Int32.add_zero, Int32.add_zero, Int32.add_zero] at h
    have b0 : vp_nar .byte (0 : Int32).toInt8.toInt32 = 0 := by decide +kernel
    simp only [s2, Int32.le_refl, if_true, b0]
    rw [goV_perm, up2_self rfl, up2_self rfl, up2_self rfl] at h
    exact h
  · have hz := nI_ne0 (n := s) (by omega) (by omega)
    have hle : ¬ nI s ≤ 0 := nI_nle (by omega) (by omega)
    have hf0 : t 22 i + t 25 i = nI f := by rw [← f2]; unfold farS; rw [if_neg (by rw [s2]; exact hz)]
    rw [goV_perm, f2, if_neg (by rw [s2]; exact hz), if_neg (by rw [s2]; exact hz)] at h
    rw [s2] at hf0
    simp only [s2, hf0, hle, if_false, hb1, hb2] at h ⊢
    exact h
theorem pc_move {post : TT → Prop} {i : Nat} (hI : Inv n np nb nz nt tk t) (hi : i < nt) (h : post (over (goU tk nb t i))) : P_X4_move (MS np nb nz nt) post px 0 i (over t) := by
  have ht1 := hI.2.1.1
  have g19 : goV t tk i 19 i = t 19 i + farS t i := by simp only [goV, up_20_1, up_20_2, up_20_3, up_20_4, up_20_5, up_20_6, up_20_7, up_20_8, up_20_10, up_20_11, up_20_12, up_20_13, up_20_14, up_20_15, up_20_16, up_20_17, up_20_18, up_20_19, up_20_21, up_20_22, up_20_23, up_20_24, up_20_25, up_20_26, up_20_27, up_20_28, up_20_29, up_20_30, up_20_31, up_20_32, up_20_33, up_20_34, up_20_35, up_20_36, up_21_1, up_21_2, up_21_3, up_21_4, up_21_5, up_21_6, up_21_7, up_21_8, up_21_10, up_21_11, up_21_12, up_21_13, up_21_14, up_21_15, up_21_16, up_21_17, up_21_18, up_21_19, up_21_20, up_21_22, up_21_23, up_21_24, up_21_25, up_21_26, up_21_27, up_21_28, up_21_29, up_21_30, up_21_31, up_21_32, up_21_33, up_21_34, up_21_35, up_21_36, up2_same]
  have em : ∀ a b, anyB (metB (goV t tk i) a b) nb = anyB (metB t a b) nb := fun a b => rfl
  simp only [P_X4_move, B_X4_move_41, ms0, MS_8, ov_1, ov_2, ov_3, ov_4, ov_5, ov_6, ov_7, ov_8, ov_10, ov_11, ov_12, ov_13, ov_14, ov_15, ov_16, ov_17, ov_18, ov_19, ov_20, ov_21, ov_22, ov_23, ov_24, ov_25, ov_26, ov_27, ov_28, ov_29, ov_30, ov_31, ov_32, ov_33, ov_34, ov_35, ov_36, hi, true_and, ht1]
  refine pc_go hI hi ?_
  simp only [ov_1, ov_2, ov_3, ov_4, ov_5, ov_6, ov_7, ov_8, ov_10, ov_11, ov_12, ov_13, ov_14, ov_15, ov_16, ov_17, ov_18, ov_19, ov_20, ov_21, ov_22, ov_23, ov_24, ov_25, ov_26, ov_27, ov_28, ov_29, ov_30, ov_31, ov_32, ov_33, ov_34, ov_35, ov_36, g19]
  refine pc_meetsBeacon (goV_inv hi hI).1 ?_
  rw [em]
  unfold goU at h
  cases hm : anyB (metB t (t 19 i) (t 19 i + farS t i)) nb with
  | false =>
    rw [hm] at h
    simp only [b2i, Bool.false_eq_true, if_false, if_true] at h ⊢
    exact h
  | true =>
    rw [hm] at h
    simp only [b2i, if_true, i10, if_false, over_up oo20, over_up oo21, ov_1, ov_2, ov_3, ov_4, ov_5, ov_6, ov_7, ov_8, ov_10, ov_11, ov_12, ov_13, ov_14, ov_15, ov_16, ov_17, ov_18, ov_19, ov_20, ov_21, ov_22, ov_23, ov_24, ov_25, ov_26, ov_27, ov_28, ov_29, ov_30, ov_31, ov_32, ov_33, ov_34, ov_35, ov_36, up_20_19] at h ⊢
    exact h
theorem mmin3 {a w q : Nat} (ha : a < 2 ^ 31) (hw : w < 2 ^ 31) (hq : q < 2 ^ 31) : mmin (nI a) (mmin (nI w) (nI q)) = nI (min (min a w) q) := by
  rw [nI_min hw hq, nI_min ha (by omega), Nat.min_assoc]
theorem pc_takePeople {post : TT → Prop} {i : Nat} (hI : Inv n np nb nz nt tk t) (hi : i < nt) (h : post (over (boardU t i))) : P_X2_takePeople (MS np nb nz nt) post px i (over t) := by
  obtain ⟨-, -, hs, h4, hso, -⟩ := hI.2.2.2.1 i hi
  have h6 := hI.1.2.1
  simp only [P_X2_takePeople, B_X2_takePeople_69, MS_8, ov_1, ov_2, ov_3, ov_4, ov_5, ov_6, ov_7, ov_8, ov_10, ov_11, ov_12, ov_13, ov_14, ov_15, ov_16, ov_17, ov_18, ov_19, ov_20, ov_21, ov_22, ov_23, ov_24, ov_25, ov_26, ov_27, ov_28, ov_29, ov_30, ov_31, ov_32, ov_33, ov_34, ov_35, ov_36, hi, true_and, pc_hasOpenDoors hi, b2i_0]
  by_cases hd : t 27 i = -1
  · unfold boardU at h
    rw [if_pos hd] at h
    by_cases e : t 26 i = -1
    · simp only [e, if_true]; exact h
    · simp only [e, hd, if_true, if_false, decide_true, Bool.not_true]; exact h
  · have hq := hso hd
    obtain ⟨p, p1, p2⟩ := hs.resolve_left hq
    have hcp := cl0 (n := p) (by omega)
    obtain ⟨a, w, q, w1, q1, w2, q2, a2, a1, hm⟩ := many_rng hi hI hd p2 p1
    obtain ⟨d, d1, d2⟩ := h4.resolve_left hd
    have hn1 := nI_m1 (n := p) (by omega)
    have hd1 := nI_m1 (n := d) (by omega)
    unfold boardU at h
    rw [if_neg hd, hm, p2, hcp] at h
    have hb : 2 * bitc (nI d) = nI a := by rw [ones_bitc d (by omega), ← d2]; exact a2
    have h120 : 120 - nI q = nI (120 - q) := pk_sub (a := 120) q1
    simp only [p2, hn1, hcp, p1, d2, hd1, hb, w2, q2, h120, mmin3 (show a < 2 ^ 31 by omega) (show w < 2 ^ 31 by omega) (show 120 - q < 2 ^ 31 by omega), if_false, true_and, not_false_eq_true, decide_false, Bool.not_false, Bool.true_eq_false, MS_5, over_up oo6, over_up oo28, ov_1, ov_2, ov_3, ov_4, ov_5, ov_6, ov_7, ov_8, ov_10, ov_11, ov_12, ov_13, ov_14, ov_15, ov_16, ov_17, ov_18, ov_19, ov_20, ov_21, ov_22, ov_23, ov_24, ov_25, ov_26, ov_27, ov_28, ov_29, ov_30, ov_31, ov_32, ov_33, ov_34, ov_35, ov_36, up_6_1, up_6_2, up_6_3, up_6_4, up_6_5, up_6_7, up_6_8, up_6_10, up_6_11, up_6_12, up_6_13, up_6_14, up_6_15, up_6_16, up_6_17, up_6_18, up_6_19, up_6_20, up_6_21, up_6_22, up_6_23, up_6_24, up_6_25, up_6_26, up_6_27, up_6_28, up_6_29, up_6_30, up_6_31, up_6_32, up_6_33, up_6_34, up_6_35, up_6_36] at h ⊢
    exact h
end GO
end
section
/-! a tick as a whole: both sides -/
def tickS (np nb nz nt tk : Nat) (t : TT) : TT := fR boardU (fR waitU (fR heldU (fR (goU (tk + 1) nb) (fR spU (dealR (fR repU (up2 t 1 0 (nI (tk + 1))) nt) nt nz nt) nt) nt) nt) np) nt
section TK
variable {px : String → TT → Prop} {t : TT} {n np nb nz nt tk : Nat}
theorem TrI.mono {tk' i : Nat} (h : TrI t np tk i) (hk : tk ≤ tk') : TrI t np tk' i := by
  obtain ⟨h1, h2, h3, h4, h5, h6, h7, h8, h9, h10, k, k1, k2⟩ := h
  exact ⟨h1, h2, h3, h4, h5, h6, h7, h8, h9, h10, k, by omega, k2⟩
theorem Inv.tick (h : Inv n np nb nz nt tk t) (hk : tk + 1 ≤ 999) : Inv n np nb nz nt (tk + 1) (up2 t 1 0 (nI (tk + 1))) := by
  obtain ⟨hc, htk, hq, hT, hP, hb, hz, z1, z2, z3, z4, z5⟩ := h
  refine ⟨hc, ⟨up2_same _ _ _ _, hk⟩, hq, fun i hi => ?_, hP, hb, hz, fun k i h1 h2 h3 => ?_, z2, fun k i h1 h2 h3 => ?_, z4, z5⟩
  · have H := (hT i hi).mono (show tk ≤ tk + 1 by omega)
    exact H
  · rw [up2_ne (fun z => by omega)]; exact z1 k i h1 h2 h3
  · rw [up2_ne (fun z => by omega)]; exact z3 k i h1 h2 h3
theorem fRI {f : TT → Nat → TT} {N : Nat} (hI : Inv n np nb nz nt tk t) (hf : ∀ u k, k < N → Inv n np nb nz nt tk u → Inv n np nb nz nt tk (f u k)) : Inv n np nb nz nt tk (fR f t N) := fR_I hI hf N (Nat.le_refl _)
theorem tickS_inv (h : Inv n np nb nz nt tk t) (hk : tk + 1 ≤ 999) : Inv n np nb nz nt (tk + 1) (tickS np nb nz nt tk t) := by
  unfold tickS
  refine fRI ?_ (fun u k h1 h2 => boardU_inv h1 h2)
  refine fRI ?_ (fun u k h1 h2 => waitU_inv h1 h2)
  refine fRI ?_ (fun u k h1 h2 => heldU_inv h1 h2)
  refine fRI ?_ (fun u k h1 h2 => goU_inv h1 h2)
  refine fRI ?_ (fun u k h1 h2 => spU_inv h2 h1)
  refine Inv.deal9 ?_ nt (Nat.le_refl _)
  exact fRI (h.tick hk) (fun u k h1 h2 => repU_inv h1 h2)
theorem fac (h : Inv n np nb nz nt tk t) : t 18 0 = nI nt ∧ nt ≤ 5 ∧ t 3 0 = nI np ∧ np ≤ 6 ∧ t 1 0 = nI tk := ⟨h.1.2.2.2.2.2.2.1, h.1.2.2.2.2.2.2.2, h.1.1, h.1.2.1, h.2.1.1⟩
theorem pc_passOne {post : TT → Prop} (hI : Inv n np nb nz nt tk t) (hk9 : tk + 1 ≤ 999) (h : post (over (tickS np nb nz nt tk t))) : P_X4_passOne (MS np nb nz nt) post px 0 (over t) := by
  have h5 := (fac hI).2.1
  have h6 := (fac hI).2.2.2.1
  simp only [P_X4_passOne, ms0, ov_1, ov_2, ov_3, ov_4, ov_5, ov_6, ov_7, ov_8, ov_10, ov_11, ov_12, ov_13, ov_14, ov_15, ov_16, ov_17, ov_18, ov_19, ov_20, ov_21, ov_22, ov_23, ov_24, ov_25, ov_26, ov_27, ov_28, ov_29, ov_30, ov_31, ov_32, ov_33, ov_34, ov_35, ov_36, (fac hI).2.2.2.2, nI_1, over_up ov1]
  have I0 := hI.tick hk9
  have I1 := fRI (N := nt) I0 (fun u k h1 h2 => repU_inv h1 h2)
  have I2 := I1.deal9 nt (Nat.le_refl _)
  have I3 := fRI (N := nt) I2 (fun u k h1 h2 => spU_inv h2 h1)
  have I4 := fRI (N := nt) I3 (fun u k h1 h2 => goU_inv h1 h2)
  have I5 := fRI (N := nt) I4 (fun u k h1 h2 => heldU_inv h1 h2)
  have I6 := fRI (N := np) I5 (fun u k h1 h2 => waitU_inv h1 h2)
  simp only [P_X4_takeReports]
  refine loopG (L := fun n a u => L_X4_takeReports_2 (MS np nb nz nt) _ px n 0 a (over u)) (f := repU) (I := Inv n np nb nz nt (tk + 1)) (E := fun u => P_X4_dealLimits (MS np nb nz nt) (fun t2 => ∃ n9, L_X4_passOne_20 (MS np nb nz nt) (fun t => post t) px n9 0 0 t2) px 0 (over u)) (N := nt) I0 (fun u k h1 h2 => repU_inv h1 h2) (fun u hu he => ⟨1, ?_⟩) (fun u k m hk hu hn => ?_) ?_
  · simp only [L_X4_takeReports_2, ms0, ov_1, ov_2, ov_3, ov_4, ov_5, ov_6, ov_7, ov_8, ov_10, ov_11, ov_12, ov_13, ov_14, ov_15, ov_16, ov_17, ov_18, ov_19, ov_20, ov_21, ov_22, ov_23, ov_24, ov_25, ov_26, ov_27, ov_28, ov_29, ov_30, ov_31, ov_32, ov_33, ov_34, ov_35, ov_36, (fac hu).1, nle_self, if_true]
    exact he
  · have hvk := vp0 (n := k) (N := 5) (by omega) (by omega)
    have hck := cl0 (n := k) (by omega)
    have hlt : ¬ nI nt ≤ nI k := nI_ge (by omega) (by omega)
    simp only [L_X4_takeReports_2, B_X4_takeReports_32, ms0, MS_4, MS_8, ov_1, ov_2, ov_3, ov_4, ov_5, ov_6, ov_7, ov_8, ov_10, ov_11, ov_12, ov_13, ov_14, ov_15, ov_16, ov_17, ov_18, ov_19, ov_20, ov_21, ov_22, ov_23, ov_24, ov_25, ov_26, ov_27, ov_28, ov_29, ov_30, ov_31, ov_32, ov_33, ov_34, ov_35, ov_36, (fac hu).1, hlt, hvk, hck, hk, if_false, true_and, nI_1, over_up oo24]
    unfold repU at hn
    by_cases e : u 34 k = 0 <;> simp only [e, if_true, if_false] at hn ⊢ <;> exact hn
  refine pc_dealLimits I1.1 ?_
  refine loopG (L := fun n a u => L_X4_passOne_20 (MS np nb nz nt) post px n 0 a (over u)) (f := spU) (I := Inv n np nb nz nt (tk + 1)) (E := fun u => ∃ n9, L_X4_passOne_49 (MS np nb nz nt) post px n9 0 0 (over u)) (N := nt) I2 (fun u k h1 h2 => spU_inv h2 h1) (fun u hu he => ⟨1, ?_⟩) (fun u k m hk hu hn => ?_) ?_
  · simp only [L_X4_passOne_20, ms0, ov_1, ov_2, ov_3, ov_4, ov_5, ov_6, ov_7, ov_8, ov_10, ov_11, ov_12, ov_13, ov_14, ov_15, ov_16, ov_17, ov_18, ov_19, ov_20, ov_21, ov_22, ov_23, ov_24, ov_25, ov_26, ov_27, ov_28, ov_29, ov_30, ov_31, ov_32, ov_33, ov_34, ov_35, ov_36, (fac hu).1, nle_self, if_true]
    exact he
  · have hvk := vp0 (n := k) (N := 5) (by omega) (by omega)
    have hck := cl0 (n := k) (by omega)
    have hlt : ¬ nI nt ≤ nI k := nI_ge (by omega) (by omega)
    simp only [L_X4_passOne_20, ms0, MS_4, MS_8, ov_1, ov_2, ov_3, ov_4, ov_5, ov_6, ov_7, ov_8, ov_10, ov_11, ov_12, ov_13, ov_14, ov_15, ov_16, ov_17, ov_18, ov_19, ov_20, ov_21, ov_22, ov_23, ov_24, ov_25, ov_26, ov_27, ov_28, ov_29, ov_30, ov_31, ov_32, ov_33, ov_34, ov_35, ov_36, (fac hu).1, hlt, hvk, hck, hk, if_false, true_and, nI_1]
    exact pc_findSpeed hu hk hn
  refine loopG (L := fun n a u => L_X4_passOne_49 (MS np nb nz nt) post px n 0 a (over u)) (f := goU (tk + 1) nb) (I := Inv n np nb nz nt (tk + 1)) (E := fun u => P_X4_countHolding (MS np nb nz nt) (fun t4 => P_X4_letPeopleCome (MS np nb nz nt) (fun t5 => P_X4_letPeopleBoard (MS np nb nz nt) (fun t6 => post t6) px 0 t5) px 0 t4) px 0 (over u)) (N := nt) I3 (fun u k h1 h2 => goU_inv h1 h2) (fun u hu he => ⟨1, ?_⟩) (fun u k m hk hu hn => ?_) ?_
  · simp only [L_X4_passOne_49, ms0, ov_1, ov_2, ov_3, ov_4, ov_5, ov_6, ov_7, ov_8, ov_10, ov_11, ov_12, ov_13, ov_14, ov_15, ov_16, ov_17, ov_18, ov_19, ov_20, ov_21, ov_22, ov_23, ov_24, ov_25, ov_26, ov_27, ov_28, ov_29, ov_30, ov_31, ov_32, ov_33, ov_34, ov_35, ov_36, (fac hu).1, nle_self, if_true]
    exact he
  · have hvk := vp0 (n := k) (N := 5) (by omega) (by omega)
    have hck := cl0 (n := k) (by omega)
    have hlt : ¬ nI nt ≤ nI k := nI_ge (by omega) (by omega)
    simp only [L_X4_passOne_49, ms0, MS_4, MS_8, ov_1, ov_2, ov_3, ov_4, ov_5, ov_6, ov_7, ov_8, ov_10, ov_11, ov_12, ov_13, ov_14, ov_15, ov_16, ov_17, ov_18, ov_19, ov_20, ov_21, ov_22, ov_23, ov_24, ov_25, ov_26, ov_27, ov_28, ov_29, ov_30, ov_31, ov_32, ov_33, ov_34, ov_35, ov_36, (fac hu).1, hlt, hvk, hck, hk, if_false, true_and, nI_1]
    exact pc_move hu hk hn
  simp only [P_X4_countHolding]
  refine loopG (L := fun n a u => L_X4_countHolding_2 (MS np nb nz nt) _ px n 0 a (over u)) (f := heldU) (I := Inv n np nb nz nt (tk + 1)) (E := fun u => P_X4_letPeopleCome (MS np nb nz nt) (fun t5 => P_X4_letPeopleBoard (MS np nb nz nt) (fun t6 => post t6) px 0 t5) px 0 (over u)) (N := nt) I4 (fun u k h1 h2 => heldU_inv h1 h2) (fun u hu he => ⟨1, ?_⟩) (fun u k m hk hu hn => ?_) ?_
  · simp only [L_X4_countHolding_2, ms0, ov_1, ov_2, ov_3, ov_4, ov_5, ov_6, ov_7, ov_8, ov_10, ov_11, ov_12, ov_13, ov_14, ov_15, ov_16, ov_17, ov_18, ov_19, ov_20, ov_21, ov_22, ov_23, ov_24, ov_25, ov_26, ov_27, ov_28, ov_29, ov_30, ov_31, ov_32, ov_33, ov_34, ov_35, ov_36, (fac hu).1, nle_self, if_true]
    exact he
  · have hvk := vp0 (n := k) (N := 5) (by omega) (by omega)
    have hck := cl0 (n := k) (by omega)
    have hlt : ¬ nI nt ≤ nI k := nI_ge (by omega) (by omega)
    obtain ⟨w, w1, w2⟩ := (hu.2.2.2.1 k hk).2.2.2.2.2.2.1
    simp only [L_X4_countHolding_2, ms0, MS_4, MS_8, ov_1, ov_2, ov_3, ov_4, ov_5, ov_6, ov_7, ov_8, ov_10, ov_11, ov_12, ov_13, ov_14, ov_15, ov_16, ov_17, ov_18, ov_19, ov_20, ov_21, ov_22, ov_23, ov_24, ov_25, ov_26, ov_27, ov_28, ov_29, ov_30, ov_31, ov_32, ov_33, ov_34, ov_35, ov_36, (fac hu).1, hlt, hvk, hck, hk, if_false, true_and, nI_1, over_up oo29]
    unfold heldU at hn
    rw [w2] at hn ⊢
    rw [held_dec2 w (by omega)]
    exact hn
  simp only [P_X4_letPeopleCome]
  refine loopG (L := fun n a u => L_X4_letPeopleCome_2 (MS np nb nz nt) _ px n 0 a (over u)) (f := waitU) (I := Inv n np nb nz nt (tk + 1)) (E := fun u => P_X4_letPeopleBoard (MS np nb nz nt) (fun t6 => post t6) px 0 (over u)) (N := np) I5 (fun u k h1 h2 => waitU_inv h1 h2) (fun u hu he => ⟨1, ?_⟩) (fun u k m hk hu hn => ?_) ?_
  · simp only [L_X4_letPeopleCome_2, ms0, ov_1, ov_2, ov_3, ov_4, ov_5, ov_6, ov_7, ov_8, ov_10, ov_11, ov_12, ov_13, ov_14, ov_15, ov_16, ov_17, ov_18, ov_19, ov_20, ov_21, ov_22, ov_23, ov_24, ov_25, ov_26, ov_27, ov_28, ov_29, ov_30, ov_31, ov_32, ov_33, ov_34, ov_35, ov_36, (fac hu).2.2.1, nle_self, if_true]
    exact he
  · have hvk := vp0 (n := k) (N := 6) (by omega) (by omega)
    have hck := cl0 (n := k) (by omega)
    have hlt : ¬ nI np ≤ nI k := nI_ge (by omega) (by omega)
    simp only [L_X4_letPeopleCome_2, ms0, MS_1, MS_5, ov_1, ov_2, ov_3, ov_4, ov_5, ov_6, ov_7, ov_8, ov_10, ov_11, ov_12, ov_13, ov_14, ov_15, ov_16, ov_17, ov_18, ov_19, ov_20, ov_21, ov_22, ov_23, ov_24, ov_25, ov_26, ov_27, ov_28, ov_29, ov_30, ov_31, ov_32, ov_33, ov_34, ov_35, ov_36, (fac hu).2.2.1, hlt, hvk, hck, hk, if_false, true_and, nI_1, over_up oo6]
    exact hn
  simp only [P_X4_letPeopleBoard]
  refine loopG (L := fun n a u => L_X4_letPeopleBoard_2 (MS np nb nz nt) _ px n 0 a (over u)) (f := boardU) (I := Inv n np nb nz nt (tk + 1)) (E := fun u => post (over u)) (N := nt) I6 (fun u k h1 h2 => boardU_inv h1 h2) (fun u hu he => ⟨1, ?_⟩) (fun u k m hk hu hn => ?_) ?_
  · simp only [L_X4_letPeopleBoard_2, ms0, ov_1, ov_2, ov_3, ov_4, ov_5, ov_6, ov_7, ov_8, ov_10, ov_11, ov_12, ov_13, ov_14, ov_15, ov_16, ov_17, ov_18, ov_19, ov_20, ov_21, ov_22, ov_23, ov_24, ov_25, ov_26, ov_27, ov_28, ov_29, ov_30, ov_31, ov_32, ov_33, ov_34, ov_35, ov_36, (fac hu).1, nle_self, if_true]
    exact he
  · have hvk := vp0 (n := k) (N := 5) (by omega) (by omega)
    have hck := cl0 (n := k) (by omega)
    have hlt : ¬ nI nt ≤ nI k := nI_ge (by omega) (by omega)
    simp only [L_X4_letPeopleBoard_2, ms0, MS_4, MS_8, ov_1, ov_2, ov_3, ov_4, ov_5, ov_6, ov_7, ov_8, ov_10, ov_11, ov_12, ov_13, ov_14, ov_15, ov_16, ov_17, ov_18, ov_19, ov_20, ov_21, ov_22, ov_23, ov_24, ov_25, ov_26, ov_27, ov_28, ov_29, ov_30, ov_31, ov_32, ov_33, ov_34, ov_35, ov_36, (fac hu).1, hlt, hvk, hck, hk, if_false, true_and, nI_1]
    exact pc_takePeople hu hk hn
  exact h
end TK
end
section
/-! facts for the calls (the class's side of whole's 28..34) -/
section OP
variable {t : TT} {n np nb nz nt tk : Nat}
theorem Inv.thr {v : Int32} (h : Inv n np nb nz nt tk t) : Inv (n + 1) np nb nz nt tk (up2 t 0 0 v) := by
  obtain ⟨hc, htk, hq, hT, hP, hb, hz, z1, z2, z3, z4, z5⟩ := h
  refine ⟨hc, htk, hq, hT, fun p hp => ?_, hb, hz, fun k i h1 h2 h3 => ?_, z2, fun k i h1 h2 h3 => ?_, z4, z5⟩
  · obtain ⟨⟨d, d1, d2⟩, h2, h3⟩ := hP p hp
    exact ⟨⟨d, by omega, d2⟩, h2, h3⟩
  · rw [up2_ne (fun z => by omega)]; exact z1 k i h1 h2 h3
  · rw [up2_ne (fun z => by omega)]; exact z3 k i h1 h2 h3
theorem num_cases (a : Int32) {m : Nat} (hm : m ≤ 1000) : (∃ i, i < m ∧ a = nI i ∧ ¬ nI i < 0 ∧ nI i < nI m ∧ inS (nI i) 0 (nI m - 1) = 1) ∨ ((a < 0 ∨ (¬ a < 0 ∧ ¬ a < nI m)) ∧ inS a 0 (nI m - 1) = 0) := by
  have hm1 : (nI m - 1).toInt = (m : Int) - 1 := by
    have h1 := nI_toInt (n := m) (by omega)
    rw [i_sub (by rw [h1, i_1]; omega) (by rw [h1, i_1]; omega), h1, i_1]
  by_cases h0 : a < 0
  · exact Or.inr ⟨Or.inl h0, by unfold inS; rw [if_pos h0]⟩
  · by_cases h1 : a < nI m
    · obtain ⟨j, hj, rfl⟩ := nI_of h0
      have hjm : j < m := (nI_ltI hj (by omega)).mp h1
      refine Or.inl ⟨j, hjm, rfl, h0, h1, ?_⟩
      unfold inS
      rw [if_neg h0, if_neg]
      rw [i_lt, hm1, nI_toInt hj]
      omega
    · refine Or.inr ⟨Or.inr ⟨h0, h1⟩, ?_⟩
      unfold inS
      rw [if_neg h0, if_pos]
      rw [i_lt] at h1 ⊢
      rw [nI_toInt (by omega)] at h1
      omega
theorem rng_cases (b lo hi : Int32) : (¬ b < lo ∧ b ≤ hi ∧ inS b lo hi = 1) ∨ ((b < lo ∨ (¬ b < lo ∧ ¬ b ≤ hi)) ∧ inS b lo hi = 0) := by
  unfold inS
  by_cases h0 : b < lo
  · exact Or.inr ⟨Or.inl h0, if_pos h0⟩
  · by_cases h1 : b ≤ hi
    · refine Or.inl ⟨h0, h1, ?_⟩
      rw [if_neg h0, if_neg]
      rw [i_le] at h1
      rw [i_lt]
      omega
    · refine Or.inr ⟨Or.inr ⟨h0, h1⟩, ?_⟩
      rw [if_neg h0, if_pos]
      rw [i_le] at h1
      rw [i_lt]
      omega
theorem c_numY {M : Nat → Nat → Bool} {post : TT → Prop} {px : String → TT → Prop} {a b : Int32} (h : ¬ a < 0) (h2 : a < b) (hx : post t) : P_X4_askNumber M post px a b t := by
  rw [pc_askNumber, if_neg h, if_pos h2]; exact hx
theorem c_rngY {M : Nat → Nat → Bool} {post : TT → Prop} {px : String → TT → Prop} {a b d : Int32} (h : ¬ a < b) (h2 : a ≤ d) (hx : post t) : P_X4_askRange M post px a b d t := by
  rw [pc_askRange, if_neg h, if_pos h2]; exact hx
theorem i20 : ((2 : Int32) = 0) = False := eq_false (by decide +kernel)
theorem i30 : ((3 : Int32) = 0) = False := eq_false (by decide +kernel)
theorem i01 : ((0 : Int32) = 1) = False := eq_false (by decide +kernel)
theorem Inv.set13 {b : Nat} {v : Int32} (h : Inv n np nb nz nt tk t) (hb9 : b < nb) (hv : isB v) : Inv n np nb nz nt tk (up2 t 13 b v) := by
  obtain ⟨hc, htk, hq, hT, hP, hb, hz, z1, z2, z3, z4, z5⟩ := h
  refine ⟨hc, htk, hq, hT, hP, fun b' hb' => ?_, hz, fun k i h1 h2 h3 => ?_, z2, fun k i h1 h2 h3 => ?_, fun i hi => ⟨(z4 i hi).1, ?_⟩, z5⟩
  · by_cases e : b' = b
    · subst e; rw [up2_same]; exact hv
    · rw [up2_ne (fun z => e z.2)]; exact hb b' hb'
  · rw [up2_ne (fun z => by omega)]; exact z1 k i h1 h2 h3
  · rw [up2_ne (fun z => by omega)]; exact z3 k i h1 h2 h3
  · rw [up2_ne (fun z => by omega)]; exact (z4 i hi).2
theorem Inv.set2 {q : Nat} (h : Inv n np nb nz nt tk t) (h1 : 1 ≤ q) (h2 : q ≤ 20) : Inv n np nb nz nt tk (up2 t 2 0 (nI q)) := by
  obtain ⟨hc, htk, hq, hT, hP, hb, hz, z1, z2, z3, z4, z5⟩ := h
  refine ⟨hc, htk, ⟨q, h1, h2, up2_same _ _ _ _⟩, hT, hP, hb, hz, fun k i h1 h2 h3 => ?_, z2, fun k i h1 h2 h3 => ?_, z4, z5⟩
  · rw [up2_ne (fun z => by omega)]; exact z1 k i h1 h2 h3
  · rw [up2_ne (fun z => by omega)]; exact z3 k i h1 h2 h3
theorem oo13 : (13 != 9 && 13 != 40 && 13 != 0 && 13 != 7) = true := rfl
theorem oo2 : (2 != 9 && 2 != 40 && 2 != 0 && 2 != 7) = true := rfl
theorem oo25 : (25 != 9 && 25 != 40 && 25 != 0 && 25 != 7) = true := rfl
theorem oo34 : (34 != 9 && 34 != 40 && 34 != 0 && 34 != 7) = true := rfl
theorem oo33 : (33 != 9 && 33 != 40 && 33 != 0 && 33 != 7) = true := rfl
theorem oo5 : (5 != 9 && 5 != 40 && 5 != 0 && 5 != 7) = true := rfl
theorem oo10 : (10 != 9 && 10 != 40 && 10 != 0 && 10 != 7) = true := rfl
theorem oo30 : (30 != 9 && 30 != 40 && 30 != 0 && 30 != 7) = true := rfl
theorem oo27 : (27 != 9 && 27 != 40 && 27 != 0 && 27 != 7) = true := rfl
theorem oo26 : (26 != 9 && 26 != 40 && 26 != 0 && 26 != 7) = true := rfl
theorem oo17 : (17 != 9 && 17 != 40 && 17 != 0 && 17 != 7) = true := rfl
end OP
section OP2
variable {t : TT} {n np nb nz nt tk : Nat}
theorem nI_btw {x : Int32} {lo hi : Nat} (h1 : ¬ x < nI lo) (h2 : x ≤ nI hi) (hl : hi < 2 ^ 31) (hll : lo < 2 ^ 31) : ∃ j, lo ≤ j ∧ j ≤ hi ∧ x = nI j := by
  rw [i_lt, nI_toInt hll] at h1
  rw [i_le, nI_toInt hl] at h2
  obtain ⟨j, j0, rfl⟩ := nI_of (x := x) (by rw [i_lt, i_0]; omega)
  rw [nI_toInt j0] at h1 h2
  exact ⟨j, by omega, by omega, rfl⟩
end OP2
theorem people_off {q j : Nat} (hq : q < 1000) (hj : j < 1000) : mmax (nI q - nI j) 0 = nI (q - j) ∧ nI q - (if nI j ≤ nI q then nI j else nI q) = nI (q - j) := by
  by_cases h : j ≤ q
  · rw [pk_sub h, if_pos (nI_le h (by omega)), pk_sub h]
    refine ⟨?_, rfl⟩
    unfold mmax
    rw [if_neg (nI_pos (by omega))]
  · have hn := pk_sneg (a := q) (b := j) (by omega) (by omega)
    unfold mmax
    rw [if_pos hn, if_neg (nI_ge (by omega) (by omega)), pk_sub (Nat.le_refl q), show q - j = 0 by omega, Nat.sub_self]
    exact ⟨rfl, rfl⟩
theorem doors_rng (x : Int32) : ∃ d, d ≤ 15 ∧ (15 &&& x) = nI d := by
  obtain ⟨j, j1, j2⟩ := pk_andE x (m := 15) 4 (by decide +kernel)
  exact ⟨j, by omega, by rw [Int32.and_comm]; exact j2⟩
section OP3
variable {t : TT} {n np nb nz nt tk : Nat}
def sumR (t : TT) (i p : Nat) : Nat → Int32
  | 0 => t 31 i
  | m + 1 => sumR t i p m + t 36 (1000 * i + (p + 1 + m))
theorem pc_again {px : String → TT → Prop} {post : Int32 → TT → Prop} {i p : Nat} (hi : i < nt) (h5 : nt ≤ 5) (htk : tk ≤ 999) (p1 : p ≤ tk) (h : post (sumR t i p (tk - p)) (over t)) : ∃ n9, L_X2_playAgain_12 (MS np nb nz nt) post px n9 i (nI tk) (t 31 i) (nI (p + 1)) (over t) := by
  have K : ∀ q m, m + q = tk - p → ∃ n9, L_X2_playAgain_12 (MS np nb nz nt) post px n9 i (nI tk) (sumR t i p m) (nI (p + 1 + m)) (over t) := by
    intro q
    induction q with
    | zero =>
      intro m hm
      have e : m = tk - p := by omega
      subst e
      have hlt : nI tk < nI (p + 1 + (tk - p)) := nI_lt (by omega) (by omega)
      refine ⟨1, ?_⟩
      simp only [L_X2_playAgain_12, B_X2_playAgain_41, hlt, if_true]
      exact h
    | succ q ih =>
      intro m hm
      obtain ⟨n9, hn⟩ := ih (m + 1) (by omega)
      have hlt : ¬ nI tk < nI (p + 1 + m) := nI_nlt (by omega) (by omega)
      have h1000 : ¬ (1000 : Int32) ≤ nI (p + 1 + m) := nI_ge (a := p + 1 + m) (b := 1000) (by omega) (by omega)
      have hvj := vp0 (n := p + 1 + m) (N := 1000) (by omega) (by omega)
      have hcj := cl0 (n := p + 1 + m) (by omega)
      refine ⟨n9 + 1, ?_⟩
      simp only [L_X2_playAgain_12, B_X2_playAgain_41, MS_8, MS_10, ov_1, ov_2, ov_3, ov_4, ov_5, ov_6, ov_7, ov_8, ov_10, ov_11, ov_12, ov_13, ov_14, ov_15, ov_16, ov_17, ov_18, ov_19, ov_20, ov_21, ov_22, ov_23, ov_24, ov_25, ov_26, ov_27, ov_28, ov_29, ov_30, ov_31, ov_32, ov_33, ov_34, ov_35, ov_36, hi, hlt, h1000, hvj, hcj, if_false, true_and, nI_1]
      exact hn
  exact K (tk - p) 0 (by omega)
end OP3
theorem nI_lit {a b : Nat} (h : (a < 2 ^ 31 && b < 2 ^ 31 && a != b) = true) : (nI a = nI b) = False := by
  simp only [Bool.and_eq_true, decide_eq_true_eq, bne_iff_ne] at h
  refine eq_false fun z => h.2 ?_
  rw [i_eq, nI_toInt h.1.1, nI_toInt h.1.2] at z
  omega
theorem dep_over {t : TT} {i p d : Nat} {v w : Int32} (h7 : t 7 p = nI d) (hd : d ≤ 600) : (if d = 0 then up2 (up2 (up2 (over t) 26 i (-1)) 7 p (nI d + 1)) 8 p v else up2 (up2 (up2 (up2 (over t) 26 i (-1)) 9 p w) 7 p (nI d + 1)) 8 p v) = over (up2 (up2 (up2 (up2 t 9 p w) 8 p v) 7 p (nI d + 1)) 26 i (-1)) := by
  have e1 : nI d + 1 = nI (d + 1) := nI_1 d
  rw [e1]
  funext k j
  by_cases hj : j = p
  · subst hj
    by_cases h0 : d = 0
    · subst h0
      have : nI (0 + 1) < 2 := by decide +kernel
      have q : nI 0 < 2 := by decide +kernel
      rw [if_pos rfl]
      by_cases k9 : k = 9
      · subst k9
        simp [over, up2, h7, this, q]
      · by_cases k26 : k = 26
        · subst k26; simp [over, up2]
        · by_cases k7 : k = 7
          · subst k7; simp [over, up2]
          · by_cases k8 : k = 8
            · subst k8; simp [over, up2]
            · simp [over, up2, k9, k26, k7, k8]
    · have q : ¬ nI (d + 1) < 2 := by
        rw [i_lt, nI_toInt (by omega), show (2 : Int32).toInt = 2 from by decide +kernel]
        omega
      rw [if_neg h0]
      by_cases k9 : k = 9
      · subst k9
        simp [over, up2, q]
      · by_cases k26 : k = 26
        · subst k26; simp [over, up2]
        · by_cases k7 : k = 7
          · subst k7; simp [over, up2]
          · by_cases k8 : k = 8
            · subst k8; simp [over, up2]
            · simp [over, up2, k9, k26, k7, k8]
  · by_cases h0 : d = 0 <;> by_cases k9 : k = 9 <;> by_cases k26 : k = 26 <;> simp [over, up2, h0, hj, k9, k26] <;> (try subst k26) <;> (try simp)
section OP4
variable {t : TT} {n np nb nz nt tk : Nat}
end OP4
theorem oo17s : (17 != 9 && 17 != 40 && 17 != 0 && 17 != 7) = true := rfl
def tellT (t : TT) (i : Nat) (b : Int32) : Int32 := if b = nI 0 then t 19 i else if b = nI 1 then t 20 i else if b = nI 2 then t 21 i else if b = nI 3 then t 22 i else if b = nI 4 then t 23 i else if b = nI 5 then b2i (!decide (t 33 i = 0)) else if b = nI 6 then b2i (!decide (t 34 i = 0)) else if b = nI 7 then t 26 i else if b = nI 8 then t 27 i else if b = nI 9 then t 28 i else t 29 i
def tellP (t : TT) (p : Nat) (b : Int32) : Int32 := if b = nI 0 then t 4 p else if b = nI 1 then t 6 p else if b = nI 2 then t 7 p else if t 7 p < 2 then -1 else t 9 p
section OP5
variable {t : TT} {n np nb nz nt tk : Nat}
theorem pc_tellT {px : String → TT → Prop} {post : Int32 → TT → Prop} {i : Nat} {b : Int32} (hi : i < nt) (h6 : np ≤ 6) (hs : t 26 i = -1 ∨ ∃ p, p < np ∧ t 26 i = nI p) : P_X2_tell (MS np nb nz nt) post px i b (over t) = post (tellT t i b) (over t) := by
  have o40 : ∀ p, over t 40 p = nI p := fun p => rfl
  have e26 : ∀ q : Int32 → Prop, (if t 26 i = -1 then q (-1) else ¬ t 26 i = -1 ∧ (t 26 i).toNatClampNeg < np ∧ q (over t 40 (t 26 i).toNatClampNeg)) = q (t 26 i) := by
    intro q
    rcases hs with h | ⟨p, hp, h⟩
    · rw [if_pos h, h]
    · have hn := nI_m1 (n := p) (by omega)
      have hcp := cl0 (n := p) (by omega)
      simp only [h, hn, hcp, hp, o40, if_false, true_and, not_false_eq_true]
  have e7 := e26 (fun x => post x (over t))
  unfold P_X2_tell tellT B_X2_tell_93 B_X2_tell_106 B_X2_tell_125
  simp only [ov_19, ov_20, ov_21, ov_22, ov_23, ov_26, ov_27, ov_28, ov_29, ov_33, ov_34, MS_8, MS_5, hi, true_and]
  by_cases c33 : t 33 i = 0 <;> by_cases c34 : t 34 i = 0 <;> simp only [c33, c34, decide_true, decide_false, Bool.not_true, Bool.not_false, b2i, if_true, if_false, Bool.false_eq_true] <;> repeat' (first | rfl | exact e7 | split)
theorem pc_tellP {px : String → TT → Prop} {post : Int32 → TT → Prop} {p : Nat} {b : Int32} (hp : p < np) : P_X1_tell (MS np nb nz nt) post px p b (over t) = post (tellP t p b) (over t) := by
  have o9 : over t 9 p = if t 7 p < 2 then -1 else t 9 p := rfl
  simp only [P_X1_tell, tellP, ov_1, ov_2, ov_3, ov_4, ov_5, ov_6, ov_7, ov_8, ov_10, ov_11, ov_12, ov_13, ov_14, ov_15, ov_16, ov_17, ov_18, ov_19, ov_20, ov_21, ov_22, ov_23, ov_24, ov_25, ov_26, ov_27, ov_28, ov_29, ov_30, ov_31, ov_32, ov_33, ov_34, ov_35, ov_36, MS_5, hp, o9, true_and]
  repeat' (first | rfl | split)
theorem Inv.set17 {z : Nat} {v : Int32} (h : Inv n np nb nz nt tk t) (hz9 : z < nz) (hv : isB v) : Inv n np nb nz nt tk (up2 t 17 z v) := by
  obtain ⟨hc, htk, hq, hT, hP, hb, hz, z1, z2, z3, z4, z5⟩ := h
  refine ⟨hc, htk, hq, hT, hP, hb, fun z' hz' => ?_, fun k i h1 h2 h3 => ?_, z2, fun k i h1 h2 h3 => ?_, z4, fun i hi => ⟨(z5 i hi).1, (z5 i hi).2.1, ?_⟩⟩
  · by_cases e : z' = z
    · subst e; rw [up2_same]; exact hv
    · rw [up2_ne (fun q => e q.2)]; exact hz z' hz'
  · rw [up2_ne (fun q => by omega)]; exact z1 k i h1 h2 h3
  · rw [up2_ne (fun q => by omega)]; exact z3 k i h1 h2 h3
  · rw [up2_ne (fun q => by omega)]; exact (z5 i hi).2.2
end OP5
def tickN (np nb nz nt tk : Nat) (t : TT) : Nat → TT
  | 0 => t
  | k + 1 => tickS np nb nz nt (tk + k) (tickN np nb nz nt tk t k)
def apS (t : TT) (i j : Nat) : Bool := decide (t 21 i < t 20 j - 100) || !decide (t 20 i - 100 ≤ t 21 j)
def bndS (t : TT) (i : Nat) : Bool := !decide (t 19 i < t 20 i) && !decide (t 21 i < t 19 i) && !decide (t 23 i < t 21 i)
def safI (t : TT) (i : Nat) : Bool := bndS t i && allB (apS t i) i
section OP6
variable {t : TT} {n np nb nz nt tk : Nat}
theorem tickN_inv (h : Inv n np nb nz nt tk t) : ∀ k, tk + k ≤ 999 → Inv n np nb nz nt (tk + k) (tickN np nb nz nt tk t k)
  | 0, _ => h
  | k + 1, hk => tickS_inv (tickN_inv h k (by omega)) (by omega)
end OP6
def platS (t : TT) (np : Nat) (a : Int32) : TT := up2 (up2 (up2 t 0 0 0) 4 np a) 3 0 (nI (np + 1))
def beaS (t : TT) (nb : Nat) (a : Int32) : TT := up2 (up2 (up2 (up2 t 0 0 0) 12 nb a) 13 nb 1) 11 0 (nI (nb + 1))
def zonS (t : TT) (nz : Nat) (a b : Int32) : TT := up2 (up2 (up2 (up2 t 0 0 0) 15 nz a) 16 nz b) 14 0 (nI (nz + 1))
def traS (t : TT) (nt tk : Nat) (a : Int32) : TT := up2 (up2 (up2 (up2 (up2 (up2 (up2 (up2 (up2 (up2 t 0 0 0) 19 nt a) 20 nt a) 21 nt a) 24 nt a) 26 nt (-1)) 27 nt (-1)) 31 nt a) 32 nt (nI tk)) 18 0 (nI (nt + 1))
section MA
variable {t : TT} {n np nb nz nt tk : Nat}
theorem made_sub {m : Nat} : nI (m + 1) - 1 = nI m := by
  have := pk_sub (a := m + 1) (b := 1) (by omega)
  rw [Nat.add_sub_cancel] at this
  exact this
theorem cnt_eq {m c : Nat} (h : m ≤ c) (hc : c < 2 ^ 31) : (nI m = nI c) = (m = c) := by
  rw [i_eq, nI_toInt (by omega), nI_toInt (by omega)]
  exact propext ⟨fun h => by omega, fun h => by omega⟩
theorem platS_ne {k i : Nat} {a : Int32} (h0 : k ≠ 0) (h1 : ¬ (k = 4 ∧ i = np)) (h2 : k ≠ 3) : platS t np a k i = t k i := by
  unfold platS
  rw [up2_ne (fun z => by omega), up2_ne (fun z => by omega), up2_ne (fun z => by omega)]
theorem platS_inv {a : Int32} (hI : Inv n np nb nz nt tk t) (h6 : np < 6) : Inv (n + 1) (np + 1) nb nz nt tk (platS t np a) := by
  obtain ⟨hc, htk, hq, hT, hP, hb, hz, z1, z2, z3, z4, z5⟩ := hI
  have e : ∀ k i, k ≠ 0 → k ≠ 3 → k ≠ 4 → platS t np a k i = t k i := fun k i q1 q2 q3 => platS_ne q1 (fun z => q3 z.1) q2
  refine ⟨?_, ?_, ?_, fun j hj => ?_, fun p hp => ?_, fun b hb9 => ?_, fun z hz9 => ?_, fun k j hj h1 h2 => ?_, fun j hj => ?_, fun k j hj h1 h2 => ?_, fun j hj => ?_, fun j hj => ?_⟩
  · unfold Cnt
    rw [e 11 _ (by omega) (by omega) (by omega), e 14 _ (by omega) (by omega) (by omega), e 18 _ (by omega) (by omega) (by omega)]
    exact ⟨rfl, by omega, hc.2.2⟩
  · rw [e 1 _ (by omega) (by omega) (by omega)]; exact htk
  · rw [e 2 _ (by omega) (by omega) (by omega)]; exact hq
  · have H := hT j hj
    unfold TrI at H ⊢
    rw [e 22 _ (by omega) (by omega) (by omega), e 25 _ (by omega) (by omega) (by omega), e 26 _ (by omega) (by omega) (by omega), e 27 _ (by omega) (by omega) (by omega), e 28 _ (by omega) (by omega) (by omega), e 29 _ (by omega) (by omega) (by omega), e 33 _ (by omega) (by omega) (by omega), e 34 _ (by omega) (by omega) (by omega), e 32 _ (by omega) (by omega) (by omega)]
    obtain ⟨q1, q2, q3, q4⟩ := H
    exact ⟨q1, q2, q3.imp id (fun ⟨p, p1, p2⟩ => ⟨p, by omega, p2⟩), q4⟩
  · unfold PlI
    rw [e 7 _ (by omega) (by omega) (by omega), e 6 _ (by omega) (by omega) (by omega), e 5 _ (by omega) (by omega) (by omega)]
    by_cases q : p < np
    · obtain ⟨⟨d, d1, d2⟩, h2, h3⟩ := hP p q
      exact ⟨⟨d, by omega, d2⟩, h2, h3⟩
    · have : p = np := by omega
      subst this
      exact ⟨⟨0, by omega, z3 7 p (Nat.le_refl p) (by omega) (by omega)⟩, ⟨0, by omega, z3 6 p (Nat.le_refl p) (by omega) (by omega)⟩, ⟨0, by omega, z3 5 p (Nat.le_refl p) (by omega) (by omega)⟩⟩
  · rw [e 13 _ (by omega) (by omega) (by omega)]; exact hb b hb9
  · rw [e 17 _ (by omega) (by omega) (by omega)]; exact hz z hz9
  · rw [e k _ (by omega) (by omega) (by omega)]; exact z1 k j hj h1 h2
  · rw [e 35 _ (by omega) (by omega) (by omega), e 36 _ (by omega) (by omega) (by omega)]; exact z2 j hj
  · rw [platS_ne (by omega) (fun z => by omega) (by omega)]; exact z3 k j (by omega) h1 h2
  · rw [e 12 _ (by omega) (by omega) (by omega), e 13 _ (by omega) (by omega) (by omega)]; exact z4 j hj
  · rw [e 15 _ (by omega) (by omega) (by omega), e 16 _ (by omega) (by omega) (by omega), e 17 _ (by omega) (by omega) (by omega)]; exact z5 j hj
theorem beaS_ne {k i : Nat} {a : Int32} (h0 : k ≠ 0) (h1 : ¬ (k = 12 ∧ i = nb)) (h3 : ¬ (k = 13 ∧ i = nb)) (h2 : k ≠ 11) : beaS t nb a k i = t k i := by
  unfold beaS
  rw [up2_ne (fun z => by omega), up2_ne (fun z => by omega), up2_ne (fun z => by omega), up2_ne (fun z => by omega)]
theorem beaS_inv {a : Int32} (hI : Inv n np nb nz nt tk t) (h6 : nb < 12) : Inv (n + 1) np (nb + 1) nz nt tk (beaS t nb a) := by
  obtain ⟨hc, htk, hq, hT, hP, hb, hz, z1, z2, z3, z4, z5⟩ := hI
  have e : ∀ k i, (k != 0 && k != 11 && k != 12 && k != 13) = true → beaS t nb a k i = t k i := fun k i q => by
    simp only [Bool.and_eq_true, bne_iff_ne] at q
    exact beaS_ne q.1.1.1 (fun z => q.1.2 z.1) (fun z => q.2 z.1) q.1.1.2
  refine ⟨?_, ?_, ?_, fun j hj => ?_, fun p hp => ?_, fun b hb9 => ?_, fun z hz9 => ?_, fun k j hj h1 h2 => ?_, fun j hj => ?_, fun k j hj h1 h2 => ?_, fun j hj => ?_, fun j hj => ?_⟩
  · unfold Cnt
    rw [e 3 _ rfl, e 14 _ rfl, e 18 _ rfl]
    exact ⟨hc.1, hc.2.1, rfl, by omega, hc.2.2.2.2⟩
  · rw [e 1 _ rfl]; exact htk
  · rw [e 2 _ rfl]; exact hq
  · have H := hT j hj
    unfold TrI at H ⊢
    rw [e 22 _ rfl, e 25 _ rfl, e 26 _ rfl, e 27 _ rfl, e 28 _ rfl, e 29 _ rfl, e 33 _ rfl, e 34 _ rfl, e 32 _ rfl]
    exact H
  · unfold PlI
    rw [e 7 _ rfl, e 6 _ rfl, e 5 _ rfl]
    obtain ⟨⟨d, d1, d2⟩, h2, h3⟩ := hP p hp
    exact ⟨⟨d, by omega, d2⟩, h2, h3⟩
  · by_cases q : b < nb
    · rw [beaS_ne (by omega) (fun z => by omega) (fun z => by omega) (by omega)]; exact hb b q
    · have : b = nb := by omega
      subst this
      have : beaS t b a 13 b = 1 := by
        unfold beaS
        rw [up2_ne (fun z => by omega), up2_same]
      rw [this]
      exact isB_1
  · rw [e 17 _ rfl]; exact hz z hz9
  · rw [e k _ (by simp only [Bool.and_eq_true, bne_iff_ne]; omega)]; exact z1 k j hj h1 h2
  · rw [e 35 _ rfl, e 36 _ rfl]; exact z2 j hj
  · rw [e k _ (by simp only [Bool.and_eq_true, bne_iff_ne]; omega)]; exact z3 k j hj h1 h2
  · rw [beaS_ne (by omega) (fun z => by omega) (fun z => by omega) (by omega), beaS_ne (by omega) (fun z => by omega) (fun z => by omega) (by omega)]; exact z4 j (by omega)
  · rw [e 15 _ rfl, e 16 _ rfl, e 17 _ rfl]; exact z5 j hj
theorem zonS_ne {k i : Nat} {a b : Int32} (h0 : k ≠ 0) (h1 : ¬ (k = 15 ∧ i = nz)) (h3 : ¬ (k = 16 ∧ i = nz)) (h2 : k ≠ 14) : zonS t nz a b k i = t k i := by
  unfold zonS
  rw [up2_ne (fun z => by omega), up2_ne (fun z => by omega), up2_ne (fun z => by omega), up2_ne (fun z => by omega)]
theorem zonS_inv {a b : Int32} (hI : Inv n np nb nz nt tk t) (h6 : nz < 4) : Inv (n + 1) np nb (nz + 1) nt tk (zonS t nz a b) := by
  obtain ⟨hc, htk, hq, hT, hP, hb, hz, z1, z2, z3, z4, z5⟩ := hI
  have e : ∀ k i, (k != 0 && k != 14 && k != 15 && k != 16) = true → zonS t nz a b k i = t k i := fun k i q => by
    simp only [Bool.and_eq_true, bne_iff_ne] at q
    exact zonS_ne q.1.1.1 (fun z => q.1.2 z.1) (fun z => q.2 z.1) q.1.1.2
  refine ⟨?_, ?_, ?_, fun j hj => ?_, fun p hp => ?_, fun b hb9 => ?_, fun z hz9 => ?_, fun k j hj h1 h2 => ?_, fun j hj => ?_, fun k j hj h1 h2 => ?_, fun j hj => ?_, fun j hj => ?_⟩
  · unfold Cnt
    rw [e 3 _ rfl, e 11 _ rfl, e 18 _ rfl]
    exact ⟨hc.1, hc.2.1, hc.2.2.1, hc.2.2.2.1, rfl, by omega, hc.2.2.2.2.2.2⟩
  · rw [e 1 _ rfl]; exact htk
  · rw [e 2 _ rfl]; exact hq
  · have H := hT j hj
    unfold TrI at H ⊢
    rw [e 22 _ rfl, e 25 _ rfl, e 26 _ rfl, e 27 _ rfl, e 28 _ rfl, e 29 _ rfl, e 33 _ rfl, e 34 _ rfl, e 32 _ rfl]
    exact H
  · unfold PlI
    rw [e 7 _ rfl, e 6 _ rfl, e 5 _ rfl]
    obtain ⟨⟨d, d1, d2⟩, h2, h3⟩ := hP p hp
    exact ⟨⟨d, by omega, d2⟩, h2, h3⟩
  · rw [e 13 _ rfl]; exact hb b hb9
  · rw [e 17 _ rfl]
    by_cases q : z < nz
    · exact hz z q
    · rw [(z5 z (by omega)).2.2]
      exact isB_0
  · rw [e k _ (by simp only [Bool.and_eq_true, bne_iff_ne]; omega)]; exact z1 k j hj h1 h2
  · rw [e 35 _ rfl, e 36 _ rfl]; exact z2 j hj
  · rw [e k _ (by simp only [Bool.and_eq_true, bne_iff_ne]; omega)]; exact z3 k j hj h1 h2
  · rw [e 12 _ rfl, e 13 _ rfl]; exact z4 j hj
  · rw [zonS_ne (by omega) (fun z => by omega) (fun z => by omega) (by omega), zonS_ne (by omega) (fun z => by omega) (fun z => by omega) (by omega), e 17 _ rfl]; exact z5 j (by omega)
theorem traS_ne {k i : Nat} {a : Int32} (h : (k != 0 && k != 18 && k != 19 && k != 20 && k != 21 && k != 24 && k != 26 && k != 27 && k != 31 && k != 32) = true ∨ (k ≠ 0 ∧ k ≠ 18 ∧ i ≠ nt)) : traS t nt tk a k i = t k i := by
  unfold traS
  rcases h with h | ⟨h1, h2, h3⟩
  · simp only [Bool.and_eq_true, bne_iff_ne] at h
    rw [up2_ne (fun z => by omega), up2_ne (fun z => by omega), up2_ne (fun z => by omega), up2_ne (fun z => by omega), up2_ne (fun z => by omega), up2_ne (fun z => by omega), up2_ne (fun z => by omega), up2_ne (fun z => by omega), up2_ne (fun z => by omega), up2_ne (fun z => by omega)]
  · rw [up2_ne (fun z => by omega), up2_ne (fun z => by omega), up2_ne (fun z => by omega), up2_ne (fun z => by omega), up2_ne (fun z => by omega), up2_ne (fun z => by omega), up2_ne (fun z => by omega), up2_ne (fun z => by omega), up2_ne (fun z => by omega), up2_ne (fun z => by omega)]
theorem traS_inv {a : Int32} (hI : Inv n np nb nz nt tk t) (h6 : nt < 5) : Inv (n + 1) np nb nz (nt + 1) tk (traS t nt tk a) := by
  obtain ⟨hc, htk, hq, hT, hP, hb, hz, z1, z2, z3, z4, z5⟩ := hI
  have e : ∀ k i, (k != 0 && k != 18 && k != 19 && k != 20 && k != 21 && k != 24 && k != 26 && k != 27 && k != 31 && k != 32) = true → traS t nt tk a k i = t k i := fun k i q => traS_ne (Or.inl q)
  have e2 : ∀ k i, k ≠ 0 → k ≠ 18 → i ≠ nt → traS t nt tk a k i = t k i := fun k i q1 q2 q3 => traS_ne (Or.inr ⟨q1, q2, q3⟩)
  refine ⟨?_, ?_, ?_, fun j hj => ?_, fun p hp => ?_, fun b hb9 => ?_, fun z hz9 => ?_, fun k j hj h1 h2 => ?_, fun j hj => ?_, fun k j hj h1 h2 => ?_, fun j hj => ?_, fun j hj => ?_⟩
  · unfold Cnt
    rw [e 3 _ rfl, e 11 _ rfl, e 14 _ rfl]
    exact ⟨hc.1, hc.2.1, hc.2.2.1, hc.2.2.2.1, hc.2.2.2.2.1, hc.2.2.2.2.2.1, rfl, by omega⟩
  · rw [e 1 _ rfl]; exact htk
  · rw [e 2 _ rfl]; exact hq
  · by_cases q : j < nt
    · have H := hT j q
      unfold TrI at H ⊢
      rw [e2 22 j (by omega) (by omega) (by omega), e2 25 j (by omega) (by omega) (by omega), e2 26 j (by omega) (by omega) (by omega), e2 27 j (by omega) (by omega) (by omega), e2 28 j (by omega) (by omega) (by omega), e2 29 j (by omega) (by omega) (by omega), e2 33 j (by omega) (by omega) (by omega), e2 34 j (by omega) (by omega) (by omega), e2 32 j (by omega) (by omega) (by omega)]
      exact H
    · have : j = nt := by omega
      subst this
      have w : ∀ k, 19 ≤ k → k ≤ 34 → t k j = 0 := fun k w1 w2 => z1 k j (Nat.le_refl j) w1 w2
      have v26 : traS t j tk a 26 j = -1 := by
        unfold traS
        rw [up2_ne (fun z => by omega), up2_ne (fun z => by omega), up2_ne (fun z => by omega), up2_ne (fun z => by omega), up2_same]
      have v27 : traS t j tk a 27 j = -1 := by
        unfold traS
        rw [up2_ne (fun z => by omega), up2_ne (fun z => by omega), up2_ne (fun z => by omega), up2_same]
      have v32 : traS t j tk a 32 j = nI tk := by
        unfold traS
        rw [up2_ne (fun z => by omega), up2_same]
      unfold TrI
      rw [e 22 _ rfl, e 25 _ rfl, v26, v27, e 28 _ rfl, e 29 _ rfl, e 33 _ rfl, e 34 _ rfl, v32, w 22 (by omega) (by omega), w 25 (by omega) (by omega), w 28 (by omega) (by omega), w 29 (by omega) (by omega), w 33 (by omega) (by omega), w 34 (by omega) (by omega)]
      exact ⟨⟨0, by omega, rfl⟩, Or.inr (Or.inl rfl), Or.inl rfl, Or.inl rfl, fun z => absurd rfl z, ⟨0, by omega, rfl⟩, ⟨0, by omega, rfl⟩, isB_0, isB_0, fun z => absurd rfl z, tk, Nat.le_refl tk, rfl⟩
  · unfold PlI
    rw [e 7 _ rfl, e 6 _ rfl, e 5 _ rfl]
    obtain ⟨⟨d, d1, d2⟩, h2, h3⟩ := hP p hp
    exact ⟨⟨d, by omega, d2⟩, h2, h3⟩
  · rw [e 13 _ rfl]; exact hb b hb9
  · rw [e 17 _ rfl]; exact hz z hz9
  · rw [e2 k _ (by omega) (by omega) (by omega)]; exact z1 k j (by omega) h1 h2
  · rw [e 35 _ rfl, e 36 _ rfl]; exact z2 j (by omega)
  · rw [e k _ (by simp only [Bool.and_eq_true, bne_iff_ne]; omega)]; exact z3 k j hj h1 h2
  · rw [e 12 _ rfl, e 13 _ rfl]; exact z4 j hj
  · rw [e 15 _ rfl, e 16 _ rfl, e 17 _ rfl]; exact z5 j hj
end MA
end
section
/-! each call that goes well: what it answers, what it leaves -/
section SC
variable {t : TT} {n np nb nz nt tk : Nat} {px : String → TT → Prop}
theorem Inv.up {n' : Nat} (h : Inv n np nb nz nt tk t) (hn : n ≤ n') : Inv n' np nb nz nt tk t := by
  obtain ⟨hc, htk, hq, hT, hP, hb, hz, hZ⟩ := h
  exact ⟨hc, htk, hq, hT, fun p hp => (by obtain ⟨⟨d, d1, d2⟩, h2, h3⟩ := hP p hp; exact ⟨⟨d, by omega, d2⟩, h2, h3⟩), hb, hz, hZ⟩
theorem eq_num {M : Nat → Nat → Bool} {post : TT → Prop} {u : TT} {i m : Nat} (h : i < m) (hm : m ≤ 1000) : P_X4_askNumber M post px (nI i) (nI m) u = post u := by
  rw [pc_askNumber, if_neg (nI_pos (by omega)), if_pos (nI_lt h (by omega))]
theorem eq_rng {M : Nat → Nat → Bool} {post : TT → Prop} {u : TT} {a b c : Int32} (h : ¬ a < b) (h2 : a ≤ c) : P_X4_askRange M post px a b c u = post u := by
  rw [pc_askRange, if_neg h, if_pos h2]
theorem eq_trainIs {post : Int32 → TT → Prop} (hI : Inv n np nb nz nt tk t) {i : Nat} (hi : i < nt) {b : Int32} (b0 : ¬ b < 0) (b1 : b ≤ 10) : P_X4_trainIs (MS np nb nz nt) post px 0 (nI i) b (over t) = post (tellT t i b) (over t) := by
  obtain ⟨hT, h5, hP, h6, h1t⟩ := fac hI
  have hv := vp0 (n := i) (N := 5) (by omega) (by omega)
  have hc := cl0 (n := i) (by omega)
  have hs := (hI.2.2.2.1 i hi).2.2.1
  simp only [P_X4_trainIs, ms0, ov_1, ov_2, ov_3, ov_4, ov_5, ov_6, ov_7, ov_8, ov_10, ov_11, ov_12, ov_13, ov_14, ov_15, ov_16, ov_17, ov_18, ov_19, ov_20, ov_21, ov_22, ov_23, ov_24, ov_25, ov_26, ov_27, ov_28, ov_29, ov_30, ov_31, ov_32, ov_33, ov_34, ov_35, ov_36, hT, eq_num hi (show nt ≤ 1000 by omega), eq_rng b0 b1, pc_tellT hi h6 hs, MS_4, MS_8, hv, hc, hi, true_and]
theorem eq_platformIs {post : Int32 → TT → Prop} (hI : Inv n np nb nz nt tk t) {i : Nat} (hi : i < np) {b : Int32} (b0 : ¬ b < 0) (b1 : b ≤ 3) : P_X4_platformIs (MS np nb nz nt) post px 0 (nI i) b (over t) = post (tellP t i b) (over t) := by
  obtain ⟨hT, h5, hP, h6, h1t⟩ := fac hI
  have hv := vp0 (n := i) (N := 6) (by omega) (by omega)
  have hc := cl0 (n := i) (by omega)
  simp only [P_X4_platformIs, ms0, ov_1, ov_2, ov_3, ov_4, ov_5, ov_6, ov_7, ov_8, ov_10, ov_11, ov_12, ov_13, ov_14, ov_15, ov_16, ov_17, ov_18, ov_19, ov_20, ov_21, ov_22, ov_23, ov_24, ov_25, ov_26, ov_27, ov_28, ov_29, ov_30, ov_31, ov_32, ov_33, ov_34, ov_35, ov_36, hP, eq_num hi (show np ≤ 1000 by omega), eq_rng b0 b1, pc_tellP hi, MS_1, MS_5, hv, hc, hi, true_and]
theorem sc_placeAnew {post : Int32 → TT → Prop} (hI : Inv n np nb nz nt tk t) {i : Nat} (hi : i < nt) (h32 : t 32 i = nI 0) (h : post (sumR t i 0 tk) (over t)) : P_X4_placeAnew (MS np nb nz nt) post px 0 (nI i) (over t) := by
  obtain ⟨hT, h5, -, -, h1t⟩ := fac hI
  have htk := hI.2.1.2
  have hv := vp0 (n := i) (N := 5) (by omega) (by omega)
  have hc := cl0 (n := i) (by omega)
  simp only [P_X4_placeAnew, ms0, ov_1, ov_2, ov_3, ov_4, ov_5, ov_6, ov_7, ov_8, ov_10, ov_11, ov_12, ov_13, ov_14, ov_15, ov_16, ov_17, ov_18, ov_19, ov_20, ov_21, ov_22, ov_23, ov_24, ov_25, ov_26, ov_27, ov_28, ov_29, ov_30, ov_31, ov_32, ov_33, ov_34, ov_35, ov_36, hT, eq_num hi (show nt ≤ 1000 by omega), B_X2_playAgain_41, P_X2_playAgain, MS_4, MS_8, hv, hc, hi, h1t, h32, nI_1, true_and]
  exact pc_again hi h5 htk (Nat.zero_le _) h
theorem sc_works {post : Int32 → TT → Prop} (hI : Inv n np nb nz nt tk t) {i : Nat} (hi : i < nb) {b : Int32} (hb : isB b) (h : post (t 13 i) (over (up2 t 13 i b))) : P_X4_works (MS np nb nz nt) post px 0 (nI i) b (over t) := by
  have hB := hI.1.2.2.1
  have h12 := hI.1.2.2.2.1
  have hv := vp0 (n := i) (N := 12) (by omega) (by omega)
  have hc := cl0 (n := i) (by omega)
  have hw := hI.2.2.2.2.2.1 i hi
  simp only [P_X4_works, ms0, ov_1, ov_2, ov_3, ov_4, ov_5, ov_6, ov_7, ov_8, ov_10, ov_11, ov_12, ov_13, ov_14, ov_15, ov_16, ov_17, ov_18, ov_19, ov_20, ov_21, ov_22, ov_23, ov_24, ov_25, ov_26, ov_27, ov_28, ov_29, ov_30, ov_31, ov_32, ov_33, ov_34, ov_35, ov_36, hB, eq_num hi (show nb ≤ 1000 by omega), MS_2, MS_6, hv, hc, hi, hb, hw, true_and, over_up oo13]
  exact h
theorem sc_speed {post : Int32 → TT → Prop} {a : Int32} (a0 : ¬ a < 1) (a1 : a ≤ 20) (h : post (t 2 0) (over (up2 t 2 0 a))) : P_X4_speed (MS np nb nz nt) post px 0 a (over t) := by
  simp only [P_X4_speed, ms0, ov_1, ov_2, ov_3, ov_4, ov_5, ov_6, ov_7, ov_8, ov_10, ov_11, ov_12, ov_13, ov_14, ov_15, ov_16, ov_17, ov_18, ov_19, ov_20, ov_21, ov_22, ov_23, ov_24, ov_25, ov_26, ov_27, ov_28, ov_29, ov_30, ov_31, ov_32, ov_33, ov_34, ov_35, ov_36, eq_rng a0 a1, over_up oo2, true_and]
  exact h
theorem sc_slip {post : Int32 → TT → Prop} (hI : Inv n np nb nz nt tk t) {i : Nat} (hi : i < nt) {b : Int32} (b0 : ¬ b < -1) (b1 : b ≤ 1) (h : post (t 25 i) (over (up2 t 25 i b))) : P_X4_slip (MS np nb nz nt) post px 0 (nI i) b (over t) := by
  have hT := (fac hI).1
  have h5 := (fac hI).2.1
  have hv := vp0 (n := i) (N := 5) (by omega) (by omega)
  have hc := cl0 (n := i) (by omega)
  simp only [P_X4_slip, ms0, ov_1, ov_2, ov_3, ov_4, ov_5, ov_6, ov_7, ov_8, ov_10, ov_11, ov_12, ov_13, ov_14, ov_15, ov_16, ov_17, ov_18, ov_19, ov_20, ov_21, ov_22, ov_23, ov_24, ov_25, ov_26, ov_27, ov_28, ov_29, ov_30, ov_31, ov_32, ov_33, ov_34, ov_35, ov_36, hT, eq_num hi (show nt ≤ 1000 by omega), eq_rng b0 b1, MS_4, MS_8, hv, hc, hi, true_and, over_up oo25]
  exact h
theorem sc_silent {post : Int32 → TT → Prop} (hI : Inv n np nb nz nt tk t) {i : Nat} (hi : i < nt) {b : Int32} (hb : isB b) (h : post (t 34 i) (over (up2 t 34 i b))) : P_X4_silent (MS np nb nz nt) post px 0 (nI i) b (over t) := by
  have hT := (fac hI).1
  have h5 := (fac hI).2.1
  have hv := vp0 (n := i) (N := 5) (by omega) (by omega)
  have hc := cl0 (n := i) (by omega)
  have hw := (hI.2.2.2.1 i hi).2.2.2.2.2.2.2.2.1
  simp only [P_X4_silent, ms0, ov_1, ov_2, ov_3, ov_4, ov_5, ov_6, ov_7, ov_8, ov_10, ov_11, ov_12, ov_13, ov_14, ov_15, ov_16, ov_17, ov_18, ov_19, ov_20, ov_21, ov_22, ov_23, ov_24, ov_25, ov_26, ov_27, ov_28, ov_29, ov_30, ov_31, ov_32, ov_33, ov_34, ov_35, ov_36, hT, eq_num hi (show nt ≤ 1000 by omega), MS_4, MS_8, hv, hc, hi, hb, hw, true_and, over_up oo34]
  exact h
theorem sc_rate {post : Int32 → TT → Prop} (hI : Inv n np nb nz nt tk t) {i : Nat} (hi : i < np) {b : Int32} (b0 : ¬ b < 0) (b1 : b ≤ 9) (h : post (t 5 i) (over (up2 t 5 i b))) : P_X4_rate (MS np nb nz nt) post px 0 (nI i) b (over t) := by
  obtain ⟨hT, h5, hP, h6, h1t⟩ := fac hI
  have hv := vp0 (n := i) (N := 6) (by omega) (by omega)
  have hc := cl0 (n := i) (by omega)
  simp only [P_X4_rate, ms0, ov_1, ov_2, ov_3, ov_4, ov_5, ov_6, ov_7, ov_8, ov_10, ov_11, ov_12, ov_13, ov_14, ov_15, ov_16, ov_17, ov_18, ov_19, ov_20, ov_21, ov_22, ov_23, ov_24, ov_25, ov_26, ov_27, ov_28, ov_29, ov_30, ov_31, ov_32, ov_33, ov_34, ov_35, ov_36, hP, eq_num hi (show np ≤ 1000 by omega), eq_rng b0 b1, MS_1, MS_5, hv, hc, hi, true_and, over_up oo5]
  exact h
theorem sc_emergency {post : Int32 → TT → Prop} (hI : Inv n np nb nz nt tk t) {i : Nat} (hi : i < nt) (h0 : t 22 i ≤ 0 → post (t 33 i) (over t)) (h1 : ¬ t 22 i ≤ 0 → post 1 (over (up2 t 33 i 1))) : P_X4_emergency (MS np nb nz nt) post px 0 (nI i) (over t) := by
  have hT := (fac hI).1
  have h5 := (fac hI).2.1
  have hv := vp0 (n := i) (N := 5) (by omega) (by omega)
  have hc := cl0 (n := i) (by omega)
  have hw := (hI.2.2.2.1 i hi).2.2.2.2.2.2.2.1
  by_cases e : t 22 i ≤ 0
  · simp only [B_X4_emergency_27, P_X4_emergency, ms0, ov_1, ov_2, ov_3, ov_4, ov_5, ov_6, ov_7, ov_8, ov_10, ov_11, ov_12, ov_13, ov_14, ov_15, ov_16, ov_17, ov_18, ov_19, ov_20, ov_21, ov_22, ov_23, ov_24, ov_25, ov_26, ov_27, ov_28, ov_29, ov_30, ov_31, ov_32, ov_33, ov_34, ov_35, ov_36, hT, eq_num hi (show nt ≤ 1000 by omega), MS_4, MS_8, hv, hc, hi, e, hw, if_true, true_and]
    exact h0 e
  · simp only [B_X4_emergency_27, P_X4_emergency, ms0, ov_1, ov_2, ov_3, ov_4, ov_5, ov_6, ov_7, ov_8, ov_10, ov_11, ov_12, ov_13, ov_14, ov_15, ov_16, ov_17, ov_18, ov_19, ov_20, ov_21, ov_22, ov_23, ov_24, ov_25, ov_26, ov_27, ov_28, ov_29, ov_30, ov_31, ov_32, ov_33, ov_34, ov_35, ov_36, hT, eq_num hi (show nt ≤ 1000 by omega), MS_4, MS_8, hv, hc, hi, e, if_false, true_and, over_up oo33, isB_1, up2_same]
    exact h1 e
theorem sc_hold {post : Int32 → TT → Prop} (hI : Inv n np nb nz nt tk t) {i : Nat} (hi : i < nt) {b : Int32} (b0 : ¬ b < 1) (b1 : b ≤ 60) (e0 : t 22 i = 0) (h : post (mmin (t 29 i + b) 99) (over (up2 t 29 i (mmin (t 29 i + b) 99)))) : P_X4_hold (MS np nb nz nt) post px 0 (nI i) b (over t) := by
  have hT := (fac hI).1
  have h5 := (fac hI).2.1
  have hv := vp0 (n := i) (N := 5) (by omega) (by omega)
  have hc := cl0 (n := i) (by omega)
  simp only [B_X4_hold_34, P_X4_hold, ms0, ov_1, ov_2, ov_3, ov_4, ov_5, ov_6, ov_7, ov_8, ov_10, ov_11, ov_12, ov_13, ov_14, ov_15, ov_16, ov_17, ov_18, ov_19, ov_20, ov_21, ov_22, ov_23, ov_24, ov_25, ov_26, ov_27, ov_28, ov_29, ov_30, ov_31, ov_32, ov_33, ov_34, ov_35, ov_36, hT, eq_num hi (show nt ≤ 1000 by omega), eq_rng b0 b1, pc_askThat, MS_4, MS_8, hv, hc, hi, e0, i10, if_true, if_false, true_and, over_up oo29, up2_same]
  exact h
theorem sc_shut {post : TT → Prop} (hI : Inv n np nb nz nt tk t) {i : Nat} (hi : i < nt) (e : ¬ t 27 i = -1) (h : post (over (up2 t 27 i (-1)))) : P_X4_shut (MS np nb nz nt) post px 0 (nI i) (over t) := by
  have hT := (fac hI).1
  have h5 := (fac hI).2.1
  have hv := vp0 (n := i) (N := 5) (by omega) (by omega)
  have hc := cl0 (n := i) (by omega)
  simp only [P_X4_shut, ms0, ov_1, ov_2, ov_3, ov_4, ov_5, ov_6, ov_7, ov_8, ov_10, ov_11, ov_12, ov_13, ov_14, ov_15, ov_16, ov_17, ov_18, ov_19, ov_20, ov_21, ov_22, ov_23, ov_24, ov_25, ov_26, ov_27, ov_28, ov_29, ov_30, ov_31, ov_32, ov_33, ov_34, ov_35, ov_36, hT, eq_num hi (show nt ≤ 1000 by omega), pc_askThat, pc_hasOpenDoors hi, b2i_0, MS_4, MS_8, hv, hc, hi, e, decide_false, Bool.not_false, Bool.true_eq_false, if_false, true_and, over_up oo27]
  exact h
theorem sc_stop {post : TT → Prop} (hI : Inv n np nb nz nt tk t) {i p : Nat} (hi : i < nt) (hp : p < np) (e : t 34 i = 0) (d : t 27 i = -1) (q : ¬ t 4 p + 1 < t 21 i + way (t 22 i)) (h : post (over (up2 t 26 i (nI p)))) : P_X4_stop (MS np nb nz nt) post px 0 (nI i) (nI p) (over t) := by
  obtain ⟨hT, h5, hP, h6, -⟩ := fac hI
  have hv := vp0 (n := i) (N := 5) (by omega) (by omega)
  have hc := cl0 (n := i) (by omega)
  have hvp := vp0 (n := p) (N := 6) (by omega) (by omega)
  have hcp := cl0 (n := p) (by omega)
  have hp9 : p < 1000 := by omega
  simp only [P_X4_stop, B_X4_stop_63, B_X4_stop_64, ms0, ov_1, ov_2, ov_3, ov_4, ov_5, ov_6, ov_7, ov_8, ov_10, ov_11, ov_12, ov_13, ov_14, ov_15, ov_16, ov_17, ov_18, ov_19, ov_20, ov_21, ov_22, ov_23, ov_24, ov_25, ov_26, ov_27, ov_28, ov_29, ov_30, ov_31, ov_32, ov_33, ov_34, ov_35, ov_36, hT, hP, eq_num hi (show nt ≤ 1000 by omega), eq_num hp (show np ≤ 1000 by omega), keepsS, pc_askThat, pc_hasOpenDoors hi, pc_keeps hi, b2i_0, MS_1, MS_4, MS_5, MS_8, hv, hc, hvp, hcp, hi, hp, hp9, e, d, q, i10, decide_true, decide_false, Bool.not_true, Bool.not_false, Bool.true_eq_false, if_true, if_false, true_and, over_up oo26]
  exact h
theorem sc_open {post : Int32 → TT → Prop} (hI : Inv n np nb nz nt tk t) {i j : Nat} (hi : i < nt) (hj : j ≤ 120) (ha : atStopS t i = true) (d : t 27 i = -1) (h : ∀ d9 q9, d9 ≤ 15 → q9 ≤ 120 → post (nI d9) (over (up2 (up2 t 27 i (nI d9)) 28 i (nI q9)))) : P_X4_open (MS np nb nz nt) post px 0 (nI i) (nI j) (over t) := by
  obtain ⟨hT, h5, hP, h6, -⟩ := fac hI
  have hv := vp0 (n := i) (N := 5) (by omega) (by omega)
  have hc := cl0 (n := i) (by omega)
  obtain ⟨-, -, hs, -, -, ⟨q, q1, q2⟩, -⟩ := hI.2.2.2.1 i hi
  have hq : t 26 i ≠ -1 := fun z => by unfold atStopS at ha; rw [if_pos z] at ha; cases ha
  obtain ⟨p, p1, p2⟩ := hs.resolve_left hq
  have hcp := cl0 (n := p) (by omega)
  have hn1 := nI_m1 (n := p) (by omega)
  obtain ⟨d9, e1, e2⟩ := doors_rng ((t 30 i ||| t 10 p) ^^^ (-1))
  obtain ⟨o1, -⟩ := people_off (q := q) (j := j) (by omega) (by omega)
  have g1 : ¬ nI j < 0 := nI_pos (by omega)
  have g2 : nI j ≤ 120 := nI_le (a := j) (b := 120) hj (by omega)
  have h := h d9 (q - j) e1 (by omega)
  simp only [B_X4_open_41, B_X4_open_40, P_X4_open, ms0, ov_1, ov_2, ov_3, ov_4, ov_5, ov_6, ov_7, ov_8, ov_10, ov_11, ov_12, ov_13, ov_14, ov_15, ov_16, ov_17, ov_18, ov_19, ov_20, ov_21, ov_22, ov_23, ov_24, ov_25, ov_26, ov_27, ov_28, ov_29, ov_30, ov_31, ov_32, ov_33, ov_34, ov_35, ov_36, hT, eq_num hi (show nt ≤ 1000 by omega), eq_rng g1 g2, pc_askThat, pc_isAtStop hi hs h6, pc_hasOpenDoors hi, b2i_0, ha, d, p2, hn1, hcp, p1, B_X2_openDoors_19, P_X2_openDoors, MS_4, MS_5, MS_8, hv, hc, hi, i10, e2, q2, o1, decide_true, Bool.not_true, Bool.true_eq_false, not_false_eq_true, if_true, if_false, true_and, up_27_1, up_27_2, up_27_3, up_27_4, up_27_5, up_27_6, up_27_7, up_27_8, up_27_10, up_27_11, up_27_12, up_27_13, up_27_14, up_27_15, up_27_16, up_27_17, up_27_18, up_27_19, up_27_20, up_27_21, up_27_22, up_27_23, up_27_24, up_27_25, up_27_26, up_27_28, up_27_29, up_27_30, up_27_31, up_27_32, up_27_33, up_27_34, up_27_35, up_27_36, up_28_1, up_28_2, up_28_3, up_28_4, up_28_5, up_28_6, up_28_7, up_28_8, up_28_10, up_28_11, up_28_12, up_28_13, up_28_14, up_28_15, up_28_16, up_28_17, up_28_18, up_28_19, up_28_20, up_28_21, up_28_22, up_28_23, up_28_24, up_28_25, up_28_26, up_28_27, up_28_29, up_28_30, up_28_31, up_28_32, up_28_33, up_28_34, up_28_35, up_28_36, up2_same, over_up oo27, over_up oo28]
  exact h
theorem sc_depart {post : Int32 → TT → Prop} (hI : Inv n np nb nz nt tk t) (hn : n ≤ 600) {i : Nat} (hi : i < nt) (ha : atStopS t i = true) (hd1 : t 27 i = -1) (hd2 : t 29 i = 0) (h : ∀ p d w v, p < np → d ≤ n → post (nI p) (over (up2 (up2 (up2 (up2 t 9 p w) 8 p v) 7 p (nI d + 1)) 26 i (-1)))) : P_X4_depart (MS np nb nz nt) post px 0 (nI i) (over t) := by
  obtain ⟨hT, h5, hP, h6, h1t⟩ := fac hI
  have hv := vp0 (n := i) (N := 5) (by omega) (by omega)
  have hc := cl0 (n := i) (by omega)
  obtain ⟨-, -, hs, -, -, -, ⟨k, q1, q2⟩, -⟩ := hI.2.2.2.1 i hi
  have e : t 26 i ≠ -1 := fun z => by unfold atStopS at ha; rw [if_pos z] at ha; cases ha
  obtain ⟨p, p1, p2⟩ := hs.resolve_left e
  have hcp := cl0 (n := p) (by omega)
  have hn1 := nI_m1 (n := p) (by omega)
  obtain ⟨⟨d, d1, d2⟩, -⟩ := hI.2.2.2.2.1 p p1
  have h := h p d (nI tk - t 8 p) (nI tk) p1 d1
  simp only [P_X4_depart, B_X4_depart_31, ms0, ov_1, ov_2, ov_3, ov_4, ov_5, ov_6, ov_7, ov_8, ov_10, ov_11, ov_12, ov_13, ov_14, ov_15, ov_16, ov_17, ov_18, ov_19, ov_20, ov_21, ov_22, ov_23, ov_24, ov_25, ov_26, ov_27, ov_28, ov_29, ov_30, ov_31, ov_32, ov_33, ov_34, ov_35, ov_36, hT, eq_num hi (show nt ≤ 1000 by omega), pc_canDepart hi hs h6, hd1, hd2, ha, b2i_0, MS_4, MS_8, hv, hc, hi, p2, hn1, if_true, if_false, true_and, decide_true, Bool.and_true, Bool.true_eq_false, MS_5, hcp, p1, not_false_eq_true]
  have o40 : ∀ u : TT, over u 40 p = nI p := fun u => rfl
  have u7 : up2 (over t) 26 i (-1) 7 p = nI d := by rw [up2_ne (fun z => by omega), ov_7, d2]
  have u8 : up2 (over t) 26 i (-1) 8 p = t 8 p := by rw [up2_ne (fun z => by omega), ov_8]
  have u1 : up2 (over t) 26 i (-1) 1 0 = nI tk := by rw [up2_ne (fun z => by omega), ov_1, h1t]
  have K := dep_over (i := i) (v := nI tk) (w := nI tk - t 8 p) d2 (by omega)
  simp only [P_X1_countDeparture, B_X1_countDeparture_17, MS_5, p1, true_and, u7, u8, u1]
  by_cases d0 : d = 0
  · rw [if_pos d0] at K
    have : nI d ≤ 0 := by rw [d0]; exact Int32.le_refl 0
    simp only [this, if_true, u7, K, o40, true_and]
    exact h
  · rw [if_neg d0] at K
    have : ¬ nI d ≤ 0 := nI_nle (by omega) (by omega)
    have u9 : up2 (up2 (over t) 26 i (-1)) 9 p (nI tk - t 8 p) 7 p = nI d := by rw [up2_ne (fun z => by omega), u7]
    simp only [this, if_false, u9, K, o40, true_and]
    exact h
theorem sc_close {post : Int32 → TT → Prop} (hI : Inv n np nb nz nt tk t) {i : Nat} (hi : i < nz) {b : Int32} (hb : isB b) (ho : ¬ b = 0 → t 17 i = 0 → allB (okC t i) nt = true) (h : ∀ r, post r (over (dealR (up2 t 17 i b) nt nz nt))) : P_X4_close (MS np nb nz nt) post px 0 (nI i) b (over t) := by
  have hB : t 14 0 = nI nz := hI.1.2.2.2.2.1
  have h12 : nz ≤ 4 := hI.1.2.2.2.2.2.1
  have hv := vp0 (n := i) (N := 4) (by omega) (by omega)
  have hc := cl0 (n := i) (by omega)
  have hw := hI.2.2.2.2.2.2.1 i hi
  have I1 : Inv n np nb nz nt tk (up2 t 17 i b) := hI.set17 hi hb
  have o1 : up2 (over t) 17 i b = over (up2 t 17 i b) := over_up oo17s
  have F : B_X4_close_43 (MS np nb nz nt) post px 0 b i (t 17 i) 1 (over t) := by
    simp only [B_X4_close_43, pc_askThat, i10, if_false, ms0, MS_7, hi, hb, true_and]
    rw [o1]
    exact pc_dealLimits I1.1 ⟨hw, h _⟩
  simp only [P_X4_close, B_X4_close_38, ms0, ov_1, ov_2, ov_3, ov_4, ov_5, ov_6, ov_7, ov_8, ov_10, ov_11, ov_12, ov_13, ov_14, ov_15, ov_16, ov_17, ov_18, ov_19, ov_20, ov_21, ov_22, ov_23, ov_24, ov_25, ov_26, ov_27, ov_28, ov_29, ov_30, ov_31, ov_32, ov_33, ov_34, ov_35, ov_36, hB, eq_num hi (show nz ≤ 1000 by omega), MS_3, MS_7, hv, hc, hi, true_and]
  by_cases e : b = 0
  · simp only [e, if_true]
    rw [e] at F
    exact F
  · by_cases z : t 17 i = 0
    · simp only [e, z, if_true, if_false]
      refine pc_canBeClosed hi hI.1 ?_
      simp only [ho e z, b2i_0, if_false, Bool.true_eq_false]
      rw [z] at F
      exact F
    · simp only [e, z, if_false]
      exact F
theorem sc_pass {post : Int32 → TT → Prop} (hI : Inv n np nb nz nt tk t) {j : Nat} (j1 : 1 ≤ j) (j2 : j ≤ 99) (e : tk + j ≤ 999) (h : post (nI (tk + j)) (over (tickN np nb nz nt tk t j))) : P_X4_pass (MS np nb nz nt) post px 0 (nI j) (over t) := by
  have h1t := hI.2.1.1
  have IN := tickN_inv hI j e
  have e1 : ¬ (999 : Int32) < nI tk + nI j := by
    rw [nI_add]; exact nI_nlt (a := 999) (b := tk + j) (by omega) (by omega)
  have g1 : ¬ nI j < 1 := nI_nlt (a := j) (b := 1) (by omega) (by omega)
  have g2 : nI j ≤ 99 := nI_le (a := j) (b := 99) (by omega) (by omega)
  have L : ∀ q k, k + q = j → ∃ n9, L_X4_pass_29 (MS np nb nz nt) post px n9 0 (nI j) (nI k) (over (tickN np nb nz nt tk t k)) := by
    intro q
    induction q with
    | zero =>
      intro k hk
      have : k = j := by omega
      subst this
      refine ⟨1, ?_⟩
      simp only [L_X4_pass_29, ms0, ov_1, ov_2, ov_3, ov_4, ov_5, ov_6, ov_7, ov_8, ov_10, ov_11, ov_12, ov_13, ov_14, ov_15, ov_16, ov_17, ov_18, ov_19, ov_20, ov_21, ov_22, ov_23, ov_24, ov_25, ov_26, ov_27, ov_28, ov_29, ov_30, ov_31, ov_32, ov_33, ov_34, ov_35, ov_36, IN.2.1.1, nle_self, if_true]
      exact h
    | succ q ih =>
      intro k hk
      obtain ⟨n9, hn⟩ := ih (k + 1) (by omega)
      have hlt : ¬ nI j ≤ nI k := nI_ge (by omega) (by omega)
      refine ⟨n9 + 1, ?_⟩
      simp only [L_X4_pass_29, ms0, hlt, if_false, nI_1]
      exact pc_passOne (tickN_inv hI k (by omega)) (by omega) hn
  simp only [P_X4_pass, eq_rng g1 g2, B_X4_pass_24, pc_askThat, ms0, ov_1, ov_2, ov_3, ov_4, ov_5, ov_6, ov_7, ov_8, ov_10, ov_11, ov_12, ov_13, ov_14, ov_15, ov_16, ov_17, ov_18, ov_19, ov_20, ov_21, ov_22, ov_23, ov_24, ov_25, ov_26, ov_27, ov_28, ov_29, ov_30, ov_31, ov_32, ov_33, ov_34, ov_35, ov_36, h1t, e1, i10, if_false]
  exact L j 0 (by omega)
theorem sc_isSafe {post : Int32 → TT → Prop} (hI : Inv n np nb nz nt tk t) (hb : ∀ i, i < nt → bndS t i = true) (ha : ∀ i j, j < i → i < nt → apS t i j = true) (h : post 1 (over t)) : P_X4_isSafe (MS np nb nz nt) post px 0 (over t) := by
  obtain ⟨hT, h5, hP, h6, h1t⟩ := fac hI
  have LI : ∀ (k2 : Nat → Int32 → TT → Prop) i, i < nt → k2 0 (nI (i + 1)) (over t) → ∀ q j, j + q = i → ∃ n9, L_X4_isSafe_26 (MS np nb nz nt) post px k2 n9 0 (nI i) (nI j) (over t) := by
    intro k2 i hi hk2 q
    induction q with
    | zero =>
      intro j hj
      have : j = i := by omega
      subst this
      refine ⟨1, ?_⟩
      simp only [L_X4_isSafe_26, nle_self, if_true, nI_1]
      exact hk2
    | succ q ih =>
      intro j hj
      have hvi := vp0 (n := i) (N := 5) (by omega) (by omega)
      have hci := cl0 (n := i) (by omega)
      have hvj := vp0 (n := j) (N := 5) (by omega) (by omega)
      have hcj := cl0 (n := j) (by omega)
      have hjt : j < nt := by omega
      have hlt : ¬ nI i ≤ nI j := nI_ge (by omega) (by omega)
      have ha9 := ha i j (by omega) hi
      obtain ⟨n9, hn⟩ := ih (j + 1) (by omega)
      refine ⟨n9 + 1, ?_⟩
      simp only [L_X4_isSafe_26, hlt, if_false, ms0, MS_4, MS_8, hvi, hci, hvj, hcj, hi, hjt, true_and, pc_mayCover hi, ov_1, ov_2, ov_3, ov_4, ov_5, ov_6, ov_7, ov_8, ov_10, ov_11, ov_12, ov_13, ov_14, ov_15, ov_16, ov_17, ov_18, ov_19, ov_20, ov_21, ov_22, ov_23, ov_24, ov_25, ov_26, ov_27, ov_28, ov_29, ov_30, ov_31, ov_32, ov_33, ov_34, ov_35, ov_36, b2i_0, nI_1]
      simp only [apS, i_nle, decide_not, Bool.not_not] at ha9
      simp at ha9
      have hm : (!decide (t 21 j < t 20 i - 100) && !decide (t 21 i < t 20 j - 100)) = false := by
        rcases ha9 with ha9 | ha9 <;> simp [ha9]
      simp only [hm, if_true]
      exact hn
  have LO : ∀ q i, i + q = nt → ∃ n9, L_X4_isSafe_2 (MS np nb nz nt) post px n9 0 (nI i) (over t) := by
    intro q
    induction q with
    | zero =>
      intro i hi
      have : i = nt := by omega
      subst this
      refine ⟨1, ?_⟩
      simp only [L_X4_isSafe_2, ms0, ov_1, ov_2, ov_3, ov_4, ov_5, ov_6, ov_7, ov_8, ov_10, ov_11, ov_12, ov_13, ov_14, ov_15, ov_16, ov_17, ov_18, ov_19, ov_20, ov_21, ov_22, ov_23, ov_24, ov_25, ov_26, ov_27, ov_28, ov_29, ov_30, ov_31, ov_32, ov_33, ov_34, ov_35, ov_36, hT, nle_self, if_true, isB_1, true_and]
      exact h
    | succ q ih =>
      intro i hi
      have hit : i < nt := by omega
      have hvi := vp0 (n := i) (N := 5) (by omega) (by omega)
      have hci := cl0 (n := i) (by omega)
      have hlt : ¬ nI nt ≤ nI i := nI_ge (by omega) (by omega)
      have hbn := hb i hit
      unfold bndS at hbn
      obtain ⟨n9, hn⟩ := ih (i + 1) (by omega)
      refine ⟨n9 + 1, ?_⟩
      simp only [L_X4_isSafe_2, ms0, MS_4, MS_8, ov_1, ov_2, ov_3, ov_4, ov_5, ov_6, ov_7, ov_8, ov_10, ov_11, ov_12, ov_13, ov_14, ov_15, ov_16, ov_17, ov_18, ov_19, ov_20, ov_21, ov_22, ov_23, ov_24, ov_25, ov_26, ov_27, ov_28, ov_29, ov_30, ov_31, ov_32, ov_33, ov_34, ov_35, ov_36, hT, hlt, hvi, hci, hit, if_false, true_and, pc_isInItsBounds hit, b2i_0, hbn, Bool.true_eq_false]
      exact LI (L_X4_isSafe_2 (MS np nb nz nt) post px n9) i hit hn i 0 (by omega)
  exact LO nt 0 (by omega)
end SC
end
section
/-! WHAT KEEPS THE TRAINS APART: each can stop ahead of its LIMIT, each LIMIT lies behind the REPORT of the one ahead and ahead of closed ZONES; the dealing out of LIMITS keeps it -/
def wyI (v : Nat) : Int := ((v * (v + 1) / 2 + v : Nat) : Int)
def bkI (v : Nat) : Int := match v with
  | 0 => 0
  | v + 1 => wyI v
theorem wy_dec : ∀ v, v < 22 → (way (nI v)).toInt = wyI v := by decide +kernel
theorem wy_bk : ∀ v, v < 22 → 0 ≤ bkI v ∧ bkI v ≤ wyI v ∧ wyI v ≤ 260 ∧ (1 ≤ v → wyI v = (v : Int) + 1 + bkI v) ∧ wyI (v - 3) ≤ bkI v := by decide +kernel
def sB (s : Bool) (v : Nat) : Int := if s = true then wyI v else bkI v
theorem sB_0 (s : Bool) {v : Nat} (h : v ≤ 20) : 0 ≤ sB s v ∧ bkI v ≤ sB s v := by
  obtain ⟨h1, h2, -⟩ := wy_bk v (by omega)
  unfold sB
  split <;> omega
def TrS (t : TT) (s : Bool) (i : Nat) : Prop := 0 ≤ (t 20 i).toInt ∧ (t 20 i).toInt ≤ (t 19 i).toInt ∧ (t 19 i).toInt ≤ (t 21 i).toInt ∧ (∃ v, v ≤ 20 ∧ t 22 i = nI v ∧ (t 21 i).toInt + sB s v ≤ (t 23 i).toInt) ∧ (t 23 i).toInt ≤ 5000 ∧ 0 ≤ (t 24 i).toInt ∧ (t 24 i).toInt ≤ (t 20 i).toInt
def ClS (t : TT) (z i : Nat) : Prop := ¬ t 17 z = 0 → (t 15 z).toInt < (t 20 i).toInt ∨ ((t 21 i).toInt ≤ (t 15 z).toInt ∧ (t 23 i).toInt ≤ (t 15 z).toInt)
def SF (t : TT) (nz nt : Nat) (w : Nat → Bool) : Prop := (∀ i, i < nt → TrS t (w i) i) ∧ (∀ i, i + 1 < nt → (t 23 (i + 1)).toInt ≤ (t 24 i).toInt - 120) ∧ (∀ z i, z < nz → i < nt → ClS t z i)
def ZnS (t : TT) (nz : Nat) : Prop := ∀ z, z < nz → 0 ≤ (t 15 z).toInt ∧ (t 15 z).toInt < (t 16 z).toInt ∧ (t 16 z).toInt ≤ 5000
def RcS (t : TT) (nt : Nat) (g : Nat → Nat) : Prop := ∀ i, i < nt → t 32 i = nI 0 ∧ t 19 i = sumR t i 0 (g i)
def SA (t : TT) (nz nt : Nat) (w : Nat → Bool) (g : Nat → Nat) : Prop := SF t nz nt w ∧ ZnS t nz ∧ RcS t nt g
def rs (k : Nat) : Bool := k == 15 || k == 16 || k == 17 || (Nat.ble 19 k && Nat.ble k 24) || k == 31 || k == 32 || k == 36
def rt (k : Nat) : Bool := Nat.ble 19 k && Nat.ble k 24
theorem rt_le {k : Nat} (h : rt k = true) : 19 ≤ k ∧ k ≤ 24 := by
  unfold rt at h
  simp only [Bool.and_eq_true] at h
  exact ⟨Nat.le_of_ble_eq_true h.1, Nat.le_of_ble_eq_true h.2⟩
theorem rs_rt {k : Nat} (h : rt k = true) : rs k = true := by
  unfold rt at h
  unfold rs
  rw [h]
  simp
theorem sumR_congr {t t' : TT} {i p : Nat} (h1 : t' 31 i = t 31 i) : ∀ m, (∀ q, q < m → t' 36 (1000 * i + (p + 1 + q)) = t 36 (1000 * i + (p + 1 + q))) → sumR t' i p m = sumR t i p m
  | 0, _ => h1
  | m + 1, h => by
    unfold sumR
    rw [sumR_congr h1 m (fun q hq => h q (by omega)), h m (by omega)]
section SAF
variable {t t' : TT} {nz nt i : Nat} {w w' : Nat → Bool} {g g' : Nat → Nat}
theorem TrS.congr {s : Bool} (h : ∀ k, rt k = true → t' k i = t k i) (H : TrS t s i) : TrS t' s i := by
  unfold TrS
  rw [h 20 rfl, h 19 rfl, h 21 rfl, h 22 rfl, h 23 rfl, h 24 rfl]
  exact H
theorem SA.congr (h : ∀ k i, rs k = true → t' k i = t k i) (H : SA t nz nt w g) : SA t' nz nt w g := by
  obtain ⟨⟨h1, h2, h3⟩, h4, h5⟩ := H
  refine ⟨⟨fun i hi => (h1 i hi).congr (fun k hk => h k i (rs_rt hk)), fun i hi => ?_, fun z i hz hi => ?_⟩, fun z hz => ?_, fun i hi => ?_⟩
  · rw [h 23 _ rfl, h 24 _ rfl]; exact h2 i hi
  · unfold ClS
    rw [h 17 _ rfl, h 15 _ rfl, h 20 _ rfl, h 21 _ rfl, h 23 _ rfl]
    exact h3 z i hz hi
  · rw [h 15 _ rfl, h 16 _ rfl]; exact h4 z hz
  · rw [h 32 _ rfl, h 19 _ rfl, sumR_congr (h 31 _ rfl) _ (fun q _ => h 36 _ rfl)]
    exact h5 i hi
theorem SA.up {k j : Nat} {v : Int32} (hk : rs k = false) (H : SA t nz nt w g) : SA (up2 t k j v) nz nt w g := H.congr fun k' i' h => up2_ne fun z => by rw [z.1, hk] at h; cases h
theorem SA.wc (h : ∀ i, i < nt → w' i = w i) (hg : ∀ i, i < nt → g' i = g i) (H : SA t nz nt w g) : SA t nz nt w' g' := ⟨⟨fun i hi => by rw [h i hi]; exact H.1.1 i hi, H.1.2⟩, H.2.1, fun i hi => by rw [hg i hi]; exact H.2.2 i hi⟩
/-- what a dealing out asks for -/
def PrT (t : TT) (nz i : Nat) : Prop := 0 ≤ (t 20 i).toInt ∧ (t 20 i).toInt ≤ (t 19 i).toInt ∧ (t 19 i).toInt ≤ (t 21 i).toInt ∧ 0 ≤ (t 24 i).toInt ∧ (t 24 i).toInt ≤ (t 20 i).toInt ∧ ∃ v, v ≤ 20 ∧ t 22 i = nI v ∧ (t 21 i).toInt + bkI v ≤ 5000 ∧ (1 ≤ i → (t 21 i).toInt + bkI v ≤ (t 24 (i - 1)).toInt - 120) ∧ (∀ z, z < nz → ¬ t 17 z = 0 → (t 15 z).toInt < (t 20 i).toInt ∨ (t 21 i).toInt + bkI v ≤ (t 15 z).toInt) ∧ (¬ t 34 i = 0 → (t 21 i).toInt + bkI v ≤ (t 23 i).toInt ∧ (t 23 i).toInt ≤ 5000 ∧ (1 ≤ i → (t 23 i).toInt ≤ (t 24 (i - 1)).toInt - 120) ∧ ∀ z, z < nz → ClS t z i)
theorem SF.pre (H : SF t nz nt w) (hi : i < nt) : PrT t nz i := by
  obtain ⟨h1, h2, h3⟩ := H
  obtain ⟨a1, a2, a3, ⟨v, v1, v2, v3⟩, a5, a6, a7⟩ := h1 i hi
  have b0 := sB_0 (w i) v1
  have hr : 1 ≤ i → (t 23 i).toInt ≤ (t 24 (i - 1)).toInt - 120 := fun h => by
    have := h2 (i - 1) (by omega)
    rw [show i - 1 + 1 = i by omega] at this
    exact this
  have b1 : (t 21 i).toInt + bkI v ≤ (t 23 i).toInt := by omega
  refine ⟨a1, a2, a3, a6, a7, v, v1, v2, by omega, fun h => by have := hr h; omega, fun z hz hc => ?_, fun _ => ⟨b1, a5, hr, fun z hz => h3 z i hz hi⟩⟩
  rcases h3 z i hz hi hc with q | q
  · exact Or.inl q
  · exact Or.inr (by omega)
theorem PrT.chain (H : ∀ i, i < nt → PrT t nz i) : ∀ i j, j < i → i < nt → (t 21 i).toInt ≤ (t 20 j).toInt - 120
  | 0, j, h, _ => by omega
  | i + 1, j, h, hi => by
    obtain ⟨a1, a2, a3, a4, a5, v, v1, v2, v3, v4, -⟩ := H (i + 1) hi
    obtain ⟨b0, -⟩ := wy_bk v (by omega)
    have e := v4 (by omega)
    rw [show i + 1 - 1 = i by omega] at e
    obtain ⟨c1, c2, c3, c4, c5, -⟩ := H i (by omega)
    by_cases q : j = i
    · subst q; omega
    · have := PrT.chain H i j (by omega) (by omega)
      omega
def nx : Nat → Int32
  | 0 => -1
  | j + 1 => nI j
theorem nextR_at (hd : ∀ i j, j < i → i < nt → (t 19 i).toInt < (t 19 j).toInt) (h5 : nt ≤ 5) (hi : i < nt) : ∀ k, k ≤ nt → nextR t i k = nx (min k i)
  | 0, _ => by rw [Nat.zero_min]; rfl
  | k + 1, hk => by
    have ih := nextR_at hd h5 hi k (by omega)
    unfold nextR
    rw [ih]
    by_cases q : k < i
    · have h1 : ¬ t 19 k ≤ t 19 i := by rw [i_le]; have := hd i k q hi; omega
      rw [if_neg h1, Nat.min_eq_left (by omega), Nat.min_eq_left (by omega)]
      cases k with
      | zero => rfl
      | succ k =>
        show (if nI k = -1 then _ else if t 19 (nI k).toNatClampNeg ≤ t 19 (k + 1) then _ else _) = _
        rw [if_neg (nI_m1 (by omega)), cl0 (by omega), if_neg (by rw [i_le]; have := hd (k + 1) k (by omega) (by omega); omega)]
        rfl
    · have h1 : t 19 k ≤ t 19 i := by
        by_cases e : k = i
        · subst e; exact Int32.le_refl _
        · rw [i_le]; have := hd k i (by omega) (by omega); omega
      rw [if_pos h1, Nat.min_eq_right (by omega), Nat.min_eq_right (by omega)]
theorem mmin_i {a b : Int32} : (mmin a b).toInt = min a.toInt b.toInt := by
  unfold mmin
  split
  · next h => rw [i_lt] at h; omega
  · next h => rw [i_lt] at h; omega
theorem i_5000 : (5000 : Int32).toInt = 5000 := by decide +kernel
theorem i_120 : (120 : Int32).toInt = 120 := by decide +kernel
theorem giv_spec (hn : nextR t i nt = nx i) (h5 : i ≤ 5) (hr : 1 ≤ i → 0 ≤ (t 24 (i - 1)).toInt ∧ (t 24 (i - 1)).toInt ≤ 5000) : ∀ z, (givR t i (giv0 t (nextR t i nt)) z).toInt ≤ 5000 ∧ (1 ≤ i → (givR t i (giv0 t (nextR t i nt)) z).toInt ≤ (t 24 (i - 1)).toInt - 120) ∧ (∀ y, y < z → ¬ t 17 y = 0 → (t 21 i).toInt ≤ (t 15 y).toInt → (givR t i (giv0 t (nextR t i nt)) z).toInt ≤ (t 15 y).toInt) ∧ (∀ B : Int, B ≤ 5000 → (1 ≤ i → B ≤ (t 24 (i - 1)).toInt - 120) → (∀ y, y < z → ¬ t 17 y = 0 → (t 21 i).toInt ≤ (t 15 y).toInt → B ≤ (t 15 y).toInt) → B ≤ (givR t i (giv0 t (nextR t i nt)) z).toInt)
  | 0 => by
    unfold givR giv0
    rw [hn]
    cases i with
    | zero => exact ⟨by rw [show nx 0 = -1 from rfl, if_pos rfl, i_5000]; omega, fun h => by omega, fun y hy => by omega, fun B h1 _ _ => by rw [show nx 0 = -1 from rfl, if_pos rfl, i_5000]; exact h1⟩
    | succ j =>
      obtain ⟨r1, r2⟩ := hr (by omega)
      rw [show j + 1 - 1 = j by omega] at r1 r2 ⊢
      rw [show nx (j + 1) = nI j from rfl, if_neg (nI_m1 (by omega)), cl0 (by omega), mmin_i, i_5000, i_sub (by rw [i_120]; omega) (by rw [i_120]; omega), i_120]
      exact ⟨by omega, fun _ => by omega, fun y hy => by omega, fun B h1 h2 _ => by have := h2 (by omega); omega⟩
  | z + 1 => by
    obtain ⟨g1, g2, g3, g4⟩ := giv_spec hn h5 hr z
    unfold givR
    by_cases c : t 17 z = 0
    · rw [if_pos c]
      refine ⟨g1, g2, fun y hy hc h => g3 y (by
        by_cases e : y = z
        · subst e; exact absurd c hc
        · omega) hc h, fun B h1 h2 h3 => g4 B h1 h2 fun y hy => h3 y (by omega)⟩
    · rw [if_neg c]
      by_cases e : t 15 z < t 21 i
      · rw [if_pos e]
        rw [i_lt] at e
        refine ⟨g1, g2, fun y hy hc h => g3 y (by
          by_cases q : y = z
          · subst q; omega
          · omega) hc h, fun B h1 h2 h3 => g4 B h1 h2 fun y hy => h3 y (by omega)⟩
      · rw [if_neg e, mmin_i]
        rw [i_lt] at e
        refine ⟨by omega, fun h => by have := g2 h; omega, fun y hy hc h => ?_, fun B h1 h2 h3 => ?_⟩
        · by_cases q : y = z
          · subst q; omega
          · have := g3 y (by omega) hc h
            omega
        · have k1 := g4 B h1 h2 fun y hy => h3 y (by omega)
          have k2 := h3 z (by omega) c (by omega)
          omega
theorem nextR_congr (h : ∀ j, t' 19 j = t 19 j) : ∀ k, nextR t' i k = nextR t i k
  | 0 => rfl
  | k + 1 => by
    unfold nextR
    simp only [nextR_congr h k, h]
theorem givS_congr (h : ∀ k j, k ≠ 23 → t' k j = t k j) : givS t' nt nz i = givS t nt nz i := by
  unfold givS
  rw [nextR_congr (fun j => h 19 j (by omega))]
  have e : giv0 t' (nextR t i nt) = giv0 t (nextR t i nt) := by
    unfold giv0
    rw [h 24 _ (by omega)]
  rw [e]
  generalize giv0 t (nextR t i nt) = l0
  have K : ∀ z, givR t' i l0 z = givR t i l0 z := by
    intro z
    induction z with
    | zero => rfl
    | succ z ih =>
      unfold givR
      rw [ih, h 17 _ (by omega), h 15 _ (by omega), h 21 _ (by omega)]
  exact K nz
theorem dealR_23 : ∀ j i, dealR t nt nz j 23 i = if i < j ∧ t 34 i = 0 then givS t nt nz i else t 23 i
  | 0, i => by rw [if_neg (by omega)]; rfl
  | j + 1, i => by
    have e34 : dealR t nt nz j 34 j = t 34 j := dealR_ne (by decide) j
    have eg : givS (dealR t nt nz j) nt nz j = givS t nt nz j := givS_congr (fun k q hk => dealR_ne hk j)
    unfold dealR
    rw [e34, eg]
    by_cases c : t 34 j = 0
    · rw [if_pos c]
      by_cases q : i = j
      · subst q
        rw [up2_same, if_pos ⟨by omega, c⟩]
      · rw [up2_ne (fun z => q z.2), dealR_23 j i]
        by_cases a : i < j ∧ t 34 i = 0
        · rw [if_pos a, if_pos ⟨by omega, a.2⟩]
        · rw [if_neg a, if_neg (fun b => a ⟨by omega, b.2⟩)]
    · rw [if_neg c, dealR_23 j i]
      by_cases a : i < j ∧ t 34 i = 0
      · rw [if_pos a, if_pos ⟨by omega, a.2⟩]
      · rw [if_neg a, if_neg (fun b => a ⟨by
          by_cases q : i = j
          · subst q; exact absurd b.2 c
          · omega, b.2⟩)]
theorem deal_SF (h5 : nt ≤ 5) (H : ∀ i, i < nt → PrT t nz i) : SF (dealR t nt nz nt) nz nt (fun _ => false) := by
  have ne : ∀ k i, k ≠ 23 → dealR t nt nz nt k i = t k i := fun k i h => dealR_ne h nt
  have hch := PrT.chain H
  have hd : ∀ i j, j < i → i < nt → (t 19 i).toInt < (t 19 j).toInt := fun i j h1 h2 => by
    have := hch i j h1 h2
    obtain ⟨a1, a2, a3, -⟩ := H i h2
    obtain ⟨c1, c2, c3, -⟩ := H j (by omega)
    omega
  have key : ∀ i, i < nt → ∃ v, v ≤ 20 ∧ t 22 i = nI v ∧ (t 21 i).toInt + bkI v ≤ (dealR t nt nz nt 23 i).toInt ∧ (dealR t nt nz nt 23 i).toInt ≤ 5000 ∧ (1 ≤ i → (dealR t nt nz nt 23 i).toInt ≤ (t 24 (i - 1)).toInt - 120) ∧ (∀ z, z < nz → ¬ t 17 z = 0 → (t 15 z).toInt < (t 20 i).toInt ∨ ((t 21 i).toInt ≤ (t 15 z).toInt ∧ (dealR t nt nz nt 23 i).toInt ≤ (t 15 z).toInt)) := by
    intro i hi
    obtain ⟨a1, a2, a3, a4, a5, v, v1, v2, v3, v4, v5, v6⟩ := H i hi
    obtain ⟨b0, -⟩ := wy_bk v (by omega)
    rw [dealR_23]
    by_cases c : t 34 i = 0
    · rw [if_pos ⟨hi, c⟩]
      have hn := nextR_at hd h5 hi nt (Nat.le_refl _)
      rw [Nat.min_eq_right (by omega)] at hn
      obtain ⟨g1, g2, g3, g4⟩ := giv_spec (nt := nt) hn (by omega) (fun h => by
        obtain ⟨c1, c2, c3, c4, c5, w, w1, w2, w3, -⟩ := H (i - 1) (by omega)
        obtain ⟨d0, -⟩ := wy_bk w (by omega)
        omega) nz
      refine ⟨v, v1, v2, g4 _ v3 v4 (fun y hy hc h => ?_), g1, g2, fun z hz hc => ?_⟩
      · rcases v5 y hy hc with q | q
        · omega
        · exact q
      · rcases v5 z hz hc with q | q
        · exact Or.inl q
        · exact Or.inr ⟨by omega, g3 z hz hc (by omega)⟩
    · rw [if_neg (fun q => c q.2)]
      obtain ⟨w1, w2, w3, w4⟩ := v6 c
      exact ⟨v, v1, v2, w1, w2, w3, fun z hz hc => w4 z hz hc⟩
  refine ⟨fun i hi => ?_, fun i hi => ?_, fun z i hz hi => ?_⟩
  · obtain ⟨a1, a2, a3, a4, a5, -⟩ := H i hi
    obtain ⟨v, v1, v2, v3, v4, -⟩ := key i hi
    unfold TrS
    rw [ne 20 _ (by omega), ne 19 _ (by omega), ne 21 _ (by omega), ne 22 _ (by omega), ne 24 _ (by omega)]
    exact ⟨a1, a2, a3, ⟨v, v1, v2, v3⟩, v4, a4, a5⟩
  · obtain ⟨v, v1, v2, v3, v4, v5, -⟩ := key (i + 1) hi
    rw [ne 24 _ (by omega)]
    exact v5 (by omega)
  · obtain ⟨v, v1, v2, v3, v4, v5, v6⟩ := key i hi
    unfold ClS
    rw [ne 17 _ (by omega), ne 15 _ (by omega), ne 20 _ (by omega), ne 21 _ (by omega)]
    exact v6 z hz
theorem deal_SA (h5 : nt ≤ 5) (H : ∀ i, i < nt → PrT t nz i) (hz : ZnS t nz) (hr : RcS t nt g) : SA (dealR t nt nz nt) nz nt (fun _ => false) g := by
  have ne : ∀ k i, k ≠ 23 → dealR t nt nz nt k i = t k i := fun k i h => dealR_ne h nt
  refine ⟨deal_SF h5 H, fun z h => ?_, fun i hi => ?_⟩
  · rw [ne 15 _ (by omega), ne 16 _ (by omega)]; exact hz z h
  · rw [ne 32 _ (by omega), ne 19 _ (by omega), sumR_congr (ne 31 _ (by omega)) _ (fun q _ => ne 36 _ (by omega))]
    exact hr i hi
end SAF
end
section
/-! a tick keeps the trains apart -/
theorem i_n {n : Nat} (h : n < 2 ^ 31) : (nI n).toInt = n := nI_toInt h
theorem downR_spec {h e : Int32} : ∀ n, ∃ w, w ≤ n ∧ downR h e n = nI w ∧ (w = 0 ∨ h + way (nI w) ≤ e)
  | 0 => ⟨0, Nat.le_refl 0, nI_0.symm, Or.inl rfl⟩
  | n + 1 => by
    unfold downR
    by_cases c : h + way (nI (n + 1)) ≤ e
    · rw [if_pos c]; exact ⟨n + 1, Nat.le_refl _, rfl, Or.inr c⟩
    · rw [if_neg c]
      obtain ⟨w, h1, h2, h3⟩ := downR_spec (h := h) (e := e) n
      exact ⟨w, by omega, h2, h3⟩
theorem brake_eq : ∀ s, s < 21 → (if nI s ≤ 3 then 0 else nI s - 3) = nI (s - 3) := by decide +kernel
theorem fR_J {f : TT → Nat → TT} {J : Nat → TT → Prop} {t : TT} {N : Nat} (h0 : J 0 t) (hf : ∀ u k, k < N → J k u → J (k + 1) (f u k)) : ∀ k, k ≤ N → J k (fR f t k)
  | 0, _ => h0
  | k + 1, hk => hf _ k (by omega) (fR_J h0 hf k (by omega))
section MV
variable {t : TT} {n np nb nz nt tk i : Nat} {w w' : Nat → Bool} {g g' : Nat → Nat}
theorem sp_spec (hI : Inv n np nb nz nt tk t) (hi : i < nt) (h : TrS t false i) : ∃ v, v ≤ 20 ∧ spS t i = nI v ∧ (t 21 i).toInt + wyI v ≤ (t 23 i).toInt := by
  obtain ⟨a1, a2, a3, ⟨v, v1, v2, v3⟩, a5, a6, a7⟩ := h
  have v3 : (t 21 i).toInt + bkI v ≤ (t 23 i).toInt := v3
  obtain ⟨b1, b2, b3, b4, b5⟩ := wy_bk v (by omega)
  obtain ⟨q, q1, q2⟩ := wish_rng hI hi
  have zero : (t 21 i).toInt + wyI 0 ≤ (t 23 i).toInt := by
    have : wyI 0 = 0 := rfl
    omega
  unfold spS
  by_cases e : t 33 i = 0
  · rw [if_pos e]
    by_cases d : t 27 i = -1
    · rw [if_pos d]
      by_cases f : t 29 i ≤ 0
      · rw [if_pos f, q2, cl0 (by omega)]
        obtain ⟨x, x1, x2, x3⟩ := downR_spec (h := t 21 i) (e := boundS t i) q
        refine ⟨x, by omega, x2, ?_⟩
        rcases x3 with x3 | x3
        · subst x3; exact zero
        · obtain ⟨c1, c2, c3, -⟩ := wy_bk x (by omega)
          have hb : (boundS t i).toInt ≤ (t 23 i).toInt := by
            unfold boundS
            split
            · exact Int.le_refl _
            · rw [mmin_i]; omega
          have hw := wy_dec x (by omega)
          rw [i_le, i_add (by rw [hw]; omega) (by rw [hw]; omega), hw] at x3
          omega
      · rw [if_neg f]; exact ⟨0, by omega, nI_0.symm, zero⟩
    · rw [if_neg d]; exact ⟨0, by omega, nI_0.symm, zero⟩
  · rw [if_neg e, v2, brake_eq v (by omega)]
    exact ⟨v - 3, by omega, rfl, by omega⟩
/-- only numbers of one train change, and what others ask of it stays -/
theorem SF.one {t' : TT} {nz : Nat} (H : SF t nz nt w) (hi : i < nt) (hne : ∀ k j, rt k = true → j ≠ i → t' k j = t k j) (hz : ∀ z, t' 17 z = t 17 z ∧ t' 15 z = t 15 z) (hw : ∀ j, j ≠ i → w' j = w j) (h1 : TrS t' (w' i) i) (h23 : (t' 23 i).toInt ≤ (t 23 i).toInt ∨ t' 23 i = t 23 i) (h24 : (t 24 i).toInt ≤ (t' 24 i).toInt) (hc : ∀ z, z < nz → ClS t' z i) : SF t' nz nt w' := by
  obtain ⟨g1, g2, g3⟩ := H
  have h23' : (t' 23 i).toInt ≤ (t 23 i).toInt := h23.elim id (fun e => by rw [e]; exact Int.le_refl _)
  refine ⟨fun j hj => ?_, fun j hj => ?_, fun z j hz9 hj => ?_⟩
  · by_cases e : j = i
    · subst e; exact h1
    · rw [hw j e]
      exact (g1 j hj).congr (fun k hk => hne k j hk e)
  · have k := g2 j hj
    by_cases e : j + 1 = i
    · rw [e] at k ⊢
      rw [hne 24 j rfl (by omega)]
      omega
    · rw [hne 23 (j + 1) rfl e]
      by_cases e2 : j = i
      · subst e2; omega
      · rw [hne 24 j rfl e2]; exact k
  · by_cases e : j = i
    · subst e; exact hc z hz9
    · unfold ClS
      rw [(hz z).1, (hz z).2, hne 20 j rfl e, hne 21 j rfl e, hne 23 j rfl e]
      exact g3 z j hz9 hj
theorem repU_SA {nz : Nat} (hi : i < nt) (H : SA t nz nt w g) : SA (repU t i) nz nt w g := by
  unfold repU
  split
  · obtain ⟨h1, h2, h3⟩ := H
    have ne : ∀ k j, k ≠ 24 ∨ j ≠ i → up2 t 24 i (t 20 i) k j = t k j := fun k j h => up2_ne fun z => by omega
    obtain ⟨a1, a2, a3, a4, a5, a6, a7⟩ := h1.1 i hi
    refine ⟨h1.one hi (fun k j _ h => ne k j (Or.inr h)) (fun z => ⟨ne _ _ (Or.inl (by omega)), ne _ _ (Or.inl (by omega))⟩) (fun _ _ => rfl) ?_ (Or.inr (ne _ _ (Or.inl (by omega)))) ?_ (fun z hz => ?_), fun z hz => ?_, fun j hj => ?_⟩
    · unfold TrS
      rw [ne 20 _ (Or.inl (by omega)), ne 19 _ (Or.inl (by omega)), ne 21 _ (Or.inl (by omega)), ne 22 _ (Or.inl (by omega)), ne 23 _ (Or.inl (by omega)), up2_same]
      exact ⟨a1, a2, a3, a4, a5, a1, Int.le_refl _⟩
    · rw [up2_same]; exact a7
    · unfold ClS
      rw [ne 17 _ (Or.inl (by omega)), ne 15 _ (Or.inl (by omega)), ne 20 _ (Or.inl (by omega)), ne 21 _ (Or.inl (by omega)), ne 23 _ (Or.inl (by omega))]
      exact h1.2.2 z i hz hi
    · rw [ne 15 _ (Or.inl (by omega)), ne 16 _ (Or.inl (by omega))]; exact h2 z hz
    · rw [ne 32 _ (Or.inl (by omega)), ne 19 _ (Or.inl (by omega)), sumR_congr (ne 31 _ (Or.inl (by omega))) _ (fun q _ => ne 36 _ (Or.inl (by omega)))]
      exact h3 j hj
  · exact H
theorem spU_ne {k j : Nat} (h : k ≠ 22 ∧ k ≠ 33 ∨ j ≠ i) : spU t i k j = t k j := by
  unfold spU
  rw [up2_ne (fun z => by omega), up2_ne (fun z => by omega)]
theorem spU_22 : spU t i 22 i = spS t i := by
  unfold spU
  rw [up2_ne (fun z => by omega), up2_same]
theorem spU_SA {nz : Nat} (hI : Inv n np nb nz nt tk t) (hi : i < nt) (hw : w i = false) (hw1 : w' i = true) (hw2 : ∀ j, j ≠ i → w' j = w j) (H : SA t nz nt w g) : SA (spU t i) nz nt w' g := by
  obtain ⟨h1, h2, h3⟩ := H
  have hT := h1.1 i hi
  rw [hw] at hT
  obtain ⟨v, v1, v2, v3⟩ := sp_spec hI hi hT
  obtain ⟨a1, a2, a3, a4, a5, a6, a7⟩ := hT
  refine ⟨h1.one hi (fun k j _ h => spU_ne (Or.inr h)) (fun z => ⟨spU_ne (Or.inl (by omega)), spU_ne (Or.inl (by omega))⟩) hw2 ?_ (Or.inr (spU_ne (Or.inl (by omega)))) (by rw [spU_ne (Or.inl (by omega))]; exact Int.le_refl _) (fun z hz => ?_), fun z hz => ?_, fun j hj => ?_⟩
  · unfold TrS
    rw [hw1, spU_ne (k := 20) (Or.inl (by omega)), spU_ne (k := 19) (Or.inl (by omega)), spU_ne (k := 21) (Or.inl (by omega)), spU_22, spU_ne (k := 23) (Or.inl (by omega)), spU_ne (k := 24) (Or.inl (by omega))]
    exact ⟨a1, a2, a3, ⟨v, v1, v2, v3⟩, a5, a6, a7⟩
  · unfold ClS
    rw [spU_ne (k := 17) (Or.inl (by omega)), spU_ne (k := 15) (Or.inl (by omega)), spU_ne (k := 20) (Or.inl (by omega)), spU_ne (k := 21) (Or.inl (by omega)), spU_ne (k := 23) (Or.inl (by omega))]
    exact h1.2.2 z i hz hi
  · rw [spU_ne (k := 15) (Or.inl (by omega)), spU_ne (k := 16) (Or.inl (by omega))]; exact h2 z hz
  · rw [spU_ne (k := 32) (Or.inl (by omega)), spU_ne (k := 19) (Or.inl (by omega)), sumR_congr (spU_ne (k := 31) (Or.inl (by omega))) _ (fun q _ => spU_ne (k := 36) (Or.inl (by omega)))]
    exact h3 j hj
theorem goV_ne {k j : Nat} (h : k ≠ 35 ∧ k ≠ 36 ∧ (j ≠ i ∨ k ≠ 19 ∧ k ≠ 20 ∧ k ≠ 21)) : goV t tk i k j = t k j := by
  unfold goV
  rw [up2_ne (fun z => by omega), up2_ne (fun z => by omega), up2_ne (fun z => by omega), up2_ne (fun z => by omega), up2_ne (fun z => by omega)]
theorem goV_36 {j : Nat} : goV t tk i 36 j = if j = 1000 * i + tk then farS t i else t 36 j := by
  unfold goV
  rw [up2_ne (fun z => by omega), up2_ne (fun z => by omega), up2_ne (fun z => by omega)]
  by_cases e : j = 1000 * i + tk
  · rw [if_pos e, e, up2_same]
  · rw [if_neg e, up2_ne (fun z => e z.2), up2_ne (fun z => by omega)]
theorem goV_19 : goV t tk i 19 i = t 19 i + farS t i := by
  unfold goV
  rw [up2_ne (fun z => by omega), up2_ne (fun z => by omega), up2_same]
theorem goV_20 : goV t tk i 20 i = t 20 i + (if t 22 i = 0 then 0 else t 22 i - 1) := by
  unfold goV
  rw [up2_ne (fun z => by omega), up2_same]
theorem goV_21 : goV t tk i 21 i = t 21 i + (if t 22 i = 0 then 0 else t 22 i + 1) := by
  unfold goV
  rw [up2_same]
theorem setU_ne {k j : Nat} (h : j ≠ i ∨ k ≠ 20 ∧ k ≠ 21) : setU t i k j = t k j := by
  unfold setU
  rw [up2_ne (fun z => by omega), up2_ne (fun z => by omega)]
theorem setU_20 : setU t i 20 i = t 19 i := by
  unfold setU
  rw [up2_ne (fun z => by omega), up2_same]
theorem setU_21 : setU t i 21 i = t 19 i := by
  unfold setU
  rw [up2_same]
/-- how far a train goes -/
theorem go_num (hI : Inv n np nb nz nt tk t) (hi : i < nt) (hT : TrS t true i) : ∃ v : Nat, v ≤ 20 ∧ t 22 i = nI v ∧ ∃ f d u : Int, (t 19 i + farS t i).toInt = (t 19 i).toInt + f ∧ (t 20 i + (if t 22 i = 0 then 0 else t 22 i - 1)).toInt = (t 20 i).toInt + d ∧ (t 21 i + (if t 22 i = 0 then 0 else t 22 i + 1)).toInt = (t 21 i).toInt + u ∧ 0 ≤ d ∧ d ≤ f ∧ f ≤ u ∧ (t 21 i).toInt + u + bkI v ≤ (t 23 i).toInt := by
  obtain ⟨a1, a2, a3, ⟨v, v1, v2, v3⟩, a5, a6, a7⟩ := hT
  have v3 : (t 21 i).toInt + wyI v ≤ (t 23 i).toInt := v3
  obtain ⟨b1, b2, b3, b4, b5⟩ := wy_bk v (by omega)
  obtain ⟨-, hs, -⟩ := hI.2.2.2.1 i hi
  refine ⟨v, v1, v2, ?_⟩
  by_cases e : v = 0
  · subst e
    have e0 : t 22 i = 0 := v2
    have hf : farS t i = 0 := if_pos e0
    rw [hf, if_pos e0, if_pos e0, Int32.add_zero, Int32.add_zero, Int32.add_zero]
    exact ⟨0, 0, 0, by omega, by omega, by omega, by omega, by omega, by omega, by omega⟩
  · have e0 : ¬ t 22 i = 0 := by rw [v2]; exact nI_ne0 (by omega) (by omega)
    have hv : (t 22 i).toInt = v := by rw [v2]; exact i_n (by omega)
    have hsl : -1 ≤ (t 25 i).toInt ∧ (t 25 i).toInt ≤ 1 := by
      rcases hs with h | h | h <;> rw [h] <;> decide +kernel
    have hf : farS t i = t 22 i + t 25 i := if_neg e0
    have hf2 : (farS t i).toInt = (v : Int) + (t 25 i).toInt := by
      rw [hf, i_add (by omega) (by omega), hv]
    have hd2 : (t 22 i - 1).toInt = (v : Int) - 1 := by
      rw [i_sub (by rw [i_1]; omega) (by rw [i_1]; omega), hv, i_1]
    have hu2 : (t 22 i + 1).toInt = (v : Int) + 1 := by
      rw [i_add (by rw [i_1]; omega) (by rw [i_1]; omega), hv, i_1]
    rw [if_neg e0, if_neg e0]
    refine ⟨(v : Int) + (t 25 i).toInt, (v : Int) - 1, (v : Int) + 1, ?_, ?_, ?_, by omega, by omega, by omega, ?_⟩
    · rw [i_add (by omega) (by omega), hf2]
    · rw [i_add (by omega) (by omega), hd2]
    · rw [i_add (by omega) (by omega), hu2]
    · have := b4 (by omega)
      omega
theorem goV_SA (hI : Inv n np nb nz nt tk t) (h1k : 1 ≤ tk) (hi : i < nt) (hw : w i = true) (hw1 : w' i = false) (hw2 : ∀ j, j ≠ i → w' j = w j) (hg : g i + 1 = tk) (hg1 : g' i = tk) (hg2 : ∀ j, j ≠ i → g' j = g j) (hg3 : ∀ j, g j ≤ tk) (H : SA t nz nt w g) : SA (goV t tk i) nz nt w' g' := by
  obtain ⟨h1, h2, h3⟩ := H
  have hT := h1.1 i hi
  rw [hw] at hT
  obtain ⟨v, v1, v2, f, d, u, f1, d1, u1, b1, b2, b3, b4⟩ := go_num hI hi hT
  obtain ⟨a1, a2, a3, a4, a5, a6, a7⟩ := hT
  have htk := hI.2.1.2
  have h5 := (fac hI).2.1
  obtain ⟨c0, -⟩ := wy_bk v (by omega)
  refine ⟨h1.one hi (fun k j hk h => goV_ne (by have := rt_le hk; omega)) (fun z => ⟨goV_ne (by omega), goV_ne (by omega)⟩) hw2 ?_ (Or.inr (goV_ne (by omega))) (by rw [goV_ne (by omega)]; exact Int.le_refl _) (fun z hz => ?_), fun z hz => ?_, fun j hj => ?_⟩
  · unfold TrS
    rw [hw1, goV_20, goV_19, goV_21, goV_ne (k := 22) (by omega), goV_ne (k := 23) (by omega), goV_ne (k := 24) (by omega), f1, d1, u1]
    refine ⟨by omega, by omega, by omega, ⟨v, v1, v2, b4⟩, a5, a6, by omega⟩
  · unfold ClS
    rw [goV_ne (k := 17) (by omega), goV_ne (k := 15) (by omega), goV_20, goV_21, goV_ne (k := 23) (by omega), d1, u1]
    intro hc
    rcases h1.2.2 z i hz hi hc with q | q
    · exact Or.inl (by omega)
    · exact Or.inr ⟨by omega, q.2⟩
  · rw [goV_ne (k := 15) (by omega), goV_ne (k := 16) (by omega)]; exact h2 z hz
  · obtain ⟨r1, r2⟩ := h3 j hj
    refine ⟨by rw [goV_ne (k := 32) (by omega)]; exact r1, ?_⟩
    by_cases e : j = i
    · subst e
      have es : ∀ u : TT, sumR u j 0 tk = sumR u j 0 (g j) + u 36 (1000 * j + (0 + 1 + g j)) := fun u => by rw [← hg]; rfl
      rw [goV_19, hg1, r2, es, goV_36, if_pos (by omega), sumR_congr (goV_ne (k := 31) (by omega)) _ (fun q hq => by rw [goV_36, if_neg (by omega)])]
    · rw [hg2 j e, goV_ne (k := 19) (by omega), r2]
      have := hg3 j
      exact (sumR_congr (goV_ne (k := 31) (by omega)) _ (fun q hq => by rw [goV_36, if_neg (by omega)])).symm
theorem setU_SA (hi : i < nt) (hw : w i = false) (H : SA t nz nt w g) : SA (setU t i) nz nt w g := by
  obtain ⟨h1, h2, h3⟩ := H
  have hT := h1.1 i hi
  rw [hw] at hT
  obtain ⟨a1, a2, a3, ⟨v, v1, v2, v3⟩, a5, a6, a7⟩ := hT
  have v3 : (t 21 i).toInt + bkI v ≤ (t 23 i).toInt := v3
  refine ⟨h1.one hi (fun k j hk h => setU_ne (by omega)) (fun z => ⟨setU_ne (by omega), setU_ne (by omega)⟩) (fun _ _ => rfl) ?_ (Or.inr (setU_ne (by omega))) (by rw [setU_ne (by omega)]; exact Int.le_refl _) (fun z hz => ?_), fun z hz => ?_, fun j hj => ?_⟩
  · unfold TrS
    rw [hw, setU_20, setU_21, setU_ne (k := 19) (by omega), setU_ne (k := 22) (by omega), setU_ne (k := 23) (by omega), setU_ne (k := 24) (by omega)]
    refine ⟨by omega, by omega, by omega, ⟨v, v1, v2, ?_⟩, a5, a6, by omega⟩
    show (t 19 i).toInt + bkI v ≤ _
    omega
  · unfold ClS
    rw [setU_ne (k := 17) (by omega), setU_ne (k := 15) (by omega), setU_20, setU_21, setU_ne (k := 23) (by omega)]
    intro hc
    rcases h1.2.2 z i hz hi hc with q | q
    · exact Or.inl (by omega)
    · exact Or.inr ⟨by omega, q.2⟩
  · rw [setU_ne (k := 15) (by omega), setU_ne (k := 16) (by omega)]; exact h2 z hz
  · rw [setU_ne (k := 32) (by omega), setU_ne (k := 19) (by omega), sumR_congr (setU_ne (k := 31) (by omega)) _ (fun q _ => setU_ne (k := 36) (by omega))]
    exact h3 j hj
theorem goU_SA (hI : Inv n np nb nz nt tk t) (h1k : 1 ≤ tk) (hi : i < nt) (hw : w i = true) (hw1 : w' i = false) (hw2 : ∀ j, j ≠ i → w' j = w j) (hg : g i + 1 = tk) (hg1 : g' i = tk) (hg2 : ∀ j, j ≠ i → g' j = g j) (hg3 : ∀ j, g j ≤ tk) (H : SA t nz nt w g) : SA (goU tk nb t i) nz nt w' g' := by
  have H1 := goV_SA hI h1k hi hw hw1 hw2 hg hg1 hg2 hg3 H
  unfold goU
  split
  · exact setU_SA hi hw1 H1
  · exact H1
theorem tick_SA (hI : Inv n np nb nz nt tk t) (hk : tk + 1 ≤ 999) (H : SA t nz nt (fun _ => false) (fun _ => tk)) : SA (tickS np nb nz nt tk t) nz nt (fun _ => false) (fun _ => tk + 1) := by
  have h5 := (fac hI).2.1
  have I0 := hI.tick hk
  have S0 : SA (up2 t 1 0 (nI (tk + 1))) nz nt (fun _ => false) (fun _ => tk) := H.up rfl
  obtain ⟨I1, S1⟩ := fR_J (f := repU) (N := nt) (J := fun _ u => Inv n np nb nz nt (tk + 1) u ∧ SA u nz nt (fun _ => false) (fun _ => tk)) ⟨I0, S0⟩ (fun u k h1 h2 => ⟨repU_inv h1 h2.1, repU_SA h1 h2.2⟩) nt (Nat.le_refl _)
  have I2 := I1.deal9 nt (Nat.le_refl _)
  have S2 := deal_SA h5 (fun i hi => S1.1.pre hi) S1.2.1 S1.2.2
  obtain ⟨I3, S3⟩ := fR_J (f := spU) (N := nt) (J := fun k u => Inv n np nb nz nt (tk + 1) u ∧ SA u nz nt (fun i => decide (i < k)) (fun _ => tk)) ⟨I2, S2.wc (fun i _ => by simp) (fun _ _ => rfl)⟩ (fun u k h1 h2 => ⟨spU_inv h2.1 h1, spU_SA h2.1 h1 (by simp) (by simp) (fun j hj => by
    have : (j < k + 1) = (j < k) := propext ⟨fun h => by omega, fun h => by omega⟩
    simp only [this]) h2.2⟩) nt (Nat.le_refl _)
  obtain ⟨I4, S4⟩ := fR_J (f := goU (tk + 1) nb) (N := nt) (J := fun k u => Inv n np nb nz nt (tk + 1) u ∧ SA u nz nt (fun i => decide (k ≤ i)) (fun i => if i < k then tk + 1 else tk)) ⟨I3, S3.wc (fun i hi => by simp [hi]) (fun _ _ => by simp)⟩ (fun u k h1 h2 => ⟨goU_inv h1 h2.1, goU_SA h2.1 (by omega) h1 (by simp) (by simp) (fun j hj => by
    have : (k + 1 ≤ j) = (k ≤ j) := propext ⟨fun h => by omega, fun h => by omega⟩
    simp only [this]) (by simp) (by simp) (fun j hj => by
    have : (j < k + 1) = (j < k) := propext ⟨fun h => by omega, fun h => by omega⟩
    simp only [this]) (fun j => by split <;> omega) h2.2⟩) nt (Nat.le_refl _)
  have S4' : SA (fR (goU (tk + 1) nb) (fR spU (dealR (fR repU (up2 t 1 0 (nI (tk + 1))) nt) nt nz nt) nt) nt) nz nt (fun _ => false) (fun _ => tk + 1) := S4.wc (fun i hi => by
    have : ¬ nt ≤ i := by omega
    simp [this]) (fun i hi => by simp [hi])
  have S5 := fR_J (f := heldU) (N := nt) (J := fun _ u => SA u nz nt (fun _ => false) (fun _ => tk + 1)) S4' (fun u k h1 h2 => SA.up rfl h2) nt (Nat.le_refl _)
  have S6 := fR_J (f := waitU) (N := np) (J := fun _ u => SA u nz nt (fun _ => false) (fun _ => tk + 1)) S5 (fun u k h1 h2 => SA.up rfl h2) np (Nat.le_refl _)
  exact fR_J (f := boardU) (N := nt) (J := fun _ u => SA u nz nt (fun _ => false) (fun _ => tk + 1)) S6 (fun u k h1 h2 => by
    unfold boardU
    split
    · exact h2
    · exact SA.up rfl (SA.up rfl h2)) nt (Nat.le_refl _)
theorem tickN_SA (hI : Inv n np nb nz nt tk t) (H : SA t nz nt (fun _ => false) (fun _ => tk)) : ∀ k, tk + k ≤ 999 → SA (tickN np nb nz nt tk t k) nz nt (fun _ => false) (fun _ => tk + k)
  | 0, _ => H
  | k + 1, hk => tick_SA (tickN_inv hI k (by omega)) (by omega) (tickN_SA hI H k (by omega))
/-- ZONES stay where they are -/
def zE (t u : TT) : Prop := ∀ z, u 15 z = t 15 z ∧ u 16 z = t 16 z
theorem tick_zE {u : TT} (h : zE t u) : zE t (tickS np nb nz nt tk u) := by
  unfold tickS
  refine fR_I (f := boardU) (I := zE t) (N := nt) ?_ (fun u k _ h z => ?_) nt (Nat.le_refl _)
  refine fR_I (f := waitU) (I := zE t) (N := np) ?_ (fun u k _ h z => h z) np (Nat.le_refl _)
  refine fR_I (f := heldU) (I := zE t) (N := nt) ?_ (fun u k _ h z => h z) nt (Nat.le_refl _)
  refine fR_I (f := goU (tk + 1) nb) (I := zE t) (N := nt) ?_ (fun u k _ h z => ?_) nt (Nat.le_refl _)
  refine fR_I (f := spU) (I := zE t) (N := nt) ?_ (fun u k _ h z => h z) nt (Nat.le_refl _)
  · intro z
    rw [dealR_ne (by omega), dealR_ne (by omega)]
    exact fR_I (f := repU) (I := zE t) (N := nt) (t := up2 u 1 0 (nI (tk + 1))) (fun z => h z) (fun u k _ h z => by unfold repU; split <;> exact h z) nt (Nat.le_refl _) z
  · unfold goU
    split <;> exact h z
  · unfold boardU
    split <;> exact h z
theorem tickN_zE : ∀ k, zE t (tickN np nb nz nt tk t k)
  | 0 => fun _ => ⟨rfl, rfl⟩
  | k + 1 => tick_zE (tickN_zE k)
end MV
end
section
/-! each call of the law keeps the trains apart -/
/-- the state of the law's second loop: all is put in *-/
def GS (n tk : Nat) (fr to : Nat → Int32) (t : TT) : Prop := Inv n 6 12 4 5 tk t ∧ SA t 4 5 (fun _ => false) (fun _ => tk) ∧ ∀ z, z < 4 → t 15 z = fr z ∧ t 16 z = to z
abbrev M26 : Nat → Nat → Bool := MS 6 12 4 5
section OK
variable {t : TT} {n tk i : Nat} {fr to : Nat → Int32} {px : String → TT → Prop}
theorem GS.mk {t' : TT} {n' k j : Nat} {v : Int32} (H : GS n tk fr to t) (hk : rs k = false) (e : t' = up2 t k j v) (hI : Inv n' 6 12 4 5 tk t') : GS n' tk fr to t' := by
  subst e
  refine ⟨hI, H.2.1.up hk, fun z hz => ?_⟩
  rw [up2_ne (fun q => by rw [← q.1] at hk; cases hk), up2_ne (fun q => by rw [← q.1] at hk; cases hk)]
  exact H.2.2 z hz
theorem GS.mono {n' : Nat} (H : GS n tk fr to t) (h : n ≤ n') : GS n' tk fr to t := ⟨H.1.up h, H.2⟩
theorem ok_pass {post : Int32 → TT → Prop} {j : Nat} (H : GS n tk fr to t) (j1 : 1 ≤ j) (j2 : j ≤ 99) (e : tk + j ≤ 999) (h : ∀ r t', GS n (tk + j) fr to t' → post r (over t')) : P_X4_pass M26 post px 0 (nI j) (over t) := by
  refine sc_pass H.1 j1 j2 e (h _ _ ⟨tickN_inv H.1 j e, tickN_SA H.1 H.2.1 j e, fun z hz => ?_⟩)
  have := tickN_zE (np := 6) (nb := 12) (nz := 4) (nt := 5) (tk := tk) (t := t) j z
  rw [this.1, this.2]
  exact H.2.2 z hz
theorem ok_works {post : Int32 → TT → Prop} (H : GS n tk fr to t) (hi : i < 12) {b : Int32} (hb : isB b) (h : ∀ r t', GS n tk fr to t' → post r (over t')) : P_X4_works M26 post px 0 (nI i) b (over t) := sc_works H.1 hi hb (h _ _ (H.mk rfl rfl (H.1.set13 hi hb)))
theorem ok_speed {post : Int32 → TT → Prop} {q : Nat} (H : GS n tk fr to t) (h1 : 1 ≤ q) (h2 : q ≤ 20) (h : ∀ r t', GS n tk fr to t' → post r (over t')) : P_X4_speed M26 post px 0 (nI q) (over t) := sc_speed (nI_nlt (a := q) (b := 1) (by omega) (by omega)) (nI_le (a := q) (b := 20) (by omega) (by omega)) (h _ _ (H.mk rfl rfl (H.1.set2 h1 h2)))
theorem ok_slip {post : Int32 → TT → Prop} (H : GS n tk fr to t) (hi : i < 5) {b : Int32} (hb : b = -1 ∨ b = 0 ∨ b = 1) (h : ∀ r t', GS n tk fr to t' → post r (over t')) : P_X4_slip M26 post px 0 (nI i) b (over t) := by
  refine sc_slip H.1 hi (by rcases hb with rfl | rfl | rfl <;> decide +kernel) (by rcases hb with rfl | rfl | rfl <;> decide +kernel) (h _ _ (H.mk rfl rfl (H.1.train (by omega) hi ?_)))
  obtain ⟨q1, -, q3⟩ := H.1.2.2.2.1 i hi
  unfold TrI
  simp only [up_25_1, up_25_2, up_25_3, up_25_4, up_25_5, up_25_6, up_25_7, up_25_8, up_25_10, up_25_11, up_25_12, up_25_13, up_25_14, up_25_15, up_25_16, up_25_17, up_25_18, up_25_19, up_25_20, up_25_21, up_25_22, up_25_23, up_25_24, up_25_26, up_25_27, up_25_28, up_25_29, up_25_30, up_25_31, up_25_32, up_25_33, up_25_34, up_25_35, up_25_36, up2_same]
  exact ⟨q1, hb, q3⟩
theorem ok_silent {post : Int32 → TT → Prop} (H : GS n tk fr to t) (hi : i < 5) {b : Int32} (hb : isB b) (h : ∀ r t', GS n tk fr to t' → post r (over t')) : P_X4_silent M26 post px 0 (nI i) b (over t) := by
  refine sc_silent H.1 hi hb (h _ _ (H.mk rfl rfl (H.1.train (by omega) hi ?_)))
  obtain ⟨q1, q2, q3, q4, q5, q6, q7, q8, -, q10⟩ := H.1.2.2.2.1 i hi
  unfold TrI
  simp only [up_34_1, up_34_2, up_34_3, up_34_4, up_34_5, up_34_6, up_34_7, up_34_8, up_34_10, up_34_11, up_34_12, up_34_13, up_34_14, up_34_15, up_34_16, up_34_17, up_34_18, up_34_19, up_34_20, up_34_21, up_34_22, up_34_23, up_34_24, up_34_25, up_34_26, up_34_27, up_34_28, up_34_29, up_34_30, up_34_31, up_34_32, up_34_33, up_34_35, up_34_36, up2_same]
  exact ⟨q1, q2, q3, q4, q5, q6, q7, q8, hb, q10⟩
theorem isB_b2i {x : Int32} (h : isB x) : b2i (!decide (x = 0)) = x := by
  rcases h with rfl | rfl <;> decide +kernel
theorem ok_emergency {post : Int32 → TT → Prop} (H : GS n tk fr to t) (hi : i < 5) (h : ∀ r t', GS n tk fr to t' → isB r → t' 33 i = r → post r (over t')) : P_X4_emergency M26 post px 0 (nI i) (over t) := by
  refine sc_emergency H.1 hi (fun _ => h _ _ H (H.1.2.2.2.1 i hi).2.2.2.2.2.2.2.1 rfl) (fun e => h _ _ (H.mk rfl rfl (H.1.train (by omega) hi ?_)) isB_1 (up2_same _ _ _ _))
  obtain ⟨q1, q2, q3, q4, q5, q6, q7, q8, q9, -, q11⟩ := H.1.2.2.2.1 i hi
  unfold TrI
  simp only [up_33_1, up_33_2, up_33_3, up_33_4, up_33_5, up_33_6, up_33_7, up_33_8, up_33_10, up_33_11, up_33_12, up_33_13, up_33_14, up_33_15, up_33_16, up_33_17, up_33_18, up_33_19, up_33_20, up_33_21, up_33_22, up_33_23, up_33_24, up_33_25, up_33_26, up_33_27, up_33_28, up_33_29, up_33_30, up_33_31, up_33_32, up_33_34, up_33_35, up_33_36, up2_same]
  refine ⟨q1, q2, q3, q4, q5, q6, q7, isB_1, q9, fun _ z => e ?_, q11⟩
  have z' : t 22 i = 0 := z
  rw [z']
  exact Int32.le_refl 0
theorem ok_hold {post : Int32 → TT → Prop} {j : Nat} (H : GS n tk fr to t) (hi : i < 5) (h1 : 1 ≤ j) (h2 : j ≤ 60) (e0 : t 22 i = 0) (h : ∀ r t', GS n tk fr to t' → post r (over t')) : P_X4_hold M26 post px 0 (nI i) (nI j) (over t) := by
  refine sc_hold H.1 hi (nI_nlt (a := j) (b := 1) (by omega) (by omega)) (nI_le (a := j) (b := 60) (by omega) (by omega)) e0 (h _ _ (H.mk rfl rfl (H.1.train (by omega) hi ?_)))
  obtain ⟨q1, q2, q3, q4, q5, q6, ⟨w, w1, w2⟩, q8⟩ := H.1.2.2.2.1 i hi
  unfold TrI
  simp only [up_29_1, up_29_2, up_29_3, up_29_4, up_29_5, up_29_6, up_29_7, up_29_8, up_29_10, up_29_11, up_29_12, up_29_13, up_29_14, up_29_15, up_29_16, up_29_17, up_29_18, up_29_19, up_29_20, up_29_21, up_29_22, up_29_23, up_29_24, up_29_25, up_29_26, up_29_27, up_29_28, up_29_30, up_29_31, up_29_32, up_29_33, up_29_34, up_29_35, up_29_36, up2_same]
  refine ⟨q1, q2, q3, q4, q5, q6, ⟨min (w + j) 99, by omega, ?_⟩, q8⟩
  rw [w2, nI_add]
  exact nI_min (a := w + j) (b := 99) (by omega) (by omega)
theorem ok_shut {post : TT → Prop} (H : GS n tk fr to t) (hi : i < 5) (e : ¬ t 27 i = -1) (h : ∀ t', GS n tk fr to t' → post (over t')) : P_X4_shut M26 post px 0 (nI i) (over t) := by
  refine sc_shut H.1 hi e (h _ (H.mk rfl rfl (H.1.train (by omega) hi ?_)))
  obtain ⟨q1, q2, q3, -, -, q6⟩ := H.1.2.2.2.1 i hi
  unfold TrI
  simp only [up_27_1, up_27_2, up_27_3, up_27_4, up_27_5, up_27_6, up_27_7, up_27_8, up_27_10, up_27_11, up_27_12, up_27_13, up_27_14, up_27_15, up_27_16, up_27_17, up_27_18, up_27_19, up_27_20, up_27_21, up_27_22, up_27_23, up_27_24, up_27_25, up_27_26, up_27_28, up_27_29, up_27_30, up_27_31, up_27_32, up_27_33, up_27_34, up_27_35, up_27_36, up2_same]
  exact ⟨q1, q2, q3, Or.inl trivial, fun z => absurd rfl z, q6⟩
theorem ok_stop {post : TT → Prop} {p : Nat} (H : GS n tk fr to t) (hi : i < 5) (hp : p < 6) (e : t 34 i = 0) (d : t 27 i = -1) (q : ¬ t 4 p + 1 < t 21 i + way (t 22 i)) (h : ∀ t', GS n tk fr to t' → post (over t')) : P_X4_stop M26 post px 0 (nI i) (nI p) (over t) := by
  refine sc_stop H.1 hi hp e d q (h _ (H.mk rfl rfl (H.1.train (by omega) hi ?_)))
  obtain ⟨q1, q2, -, q4, -, q6⟩ := H.1.2.2.2.1 i hi
  unfold TrI
  simp only [up_26_1, up_26_2, up_26_3, up_26_4, up_26_5, up_26_6, up_26_7, up_26_8, up_26_10, up_26_11, up_26_12, up_26_13, up_26_14, up_26_15, up_26_16, up_26_17, up_26_18, up_26_19, up_26_20, up_26_21, up_26_22, up_26_23, up_26_24, up_26_25, up_26_27, up_26_28, up_26_29, up_26_30, up_26_31, up_26_32, up_26_33, up_26_34, up_26_35, up_26_36, up2_same]
  exact ⟨q1, q2, Or.inr ⟨p, hp, rfl⟩, q4, fun _ => nI_m1 (by omega), q6⟩
theorem ok_open {post : Int32 → TT → Prop} {j : Nat} (H : GS n tk fr to t) (hi : i < 5) (hj : j ≤ 120) (ha : atStopS t i = true) (d : t 27 i = -1) (h : ∀ r t', GS n tk fr to t' → post r (over t')) : P_X4_open M26 post px 0 (nI i) (nI j) (over t) := by
  refine sc_open H.1 hi hj ha d fun d9 q9 h1 h2 => ?_
  have hq : t 26 i ≠ -1 := fun z => by unfold atStopS at ha; rw [if_pos z] at ha; cases ha
  have I1 : Inv n 6 12 4 5 tk (up2 t 27 i (nI d9)) := by
    refine H.1.train (by omega) hi ?_
    obtain ⟨q1, q2, q3, -, -, q6⟩ := H.1.2.2.2.1 i hi
    unfold TrI
    simp only [up_27_1, up_27_2, up_27_3, up_27_4, up_27_5, up_27_6, up_27_7, up_27_8, up_27_10, up_27_11, up_27_12, up_27_13, up_27_14, up_27_15, up_27_16, up_27_17, up_27_18, up_27_19, up_27_20, up_27_21, up_27_22, up_27_23, up_27_24, up_27_25, up_27_26, up_27_28, up_27_29, up_27_30, up_27_31, up_27_32, up_27_33, up_27_34, up_27_35, up_27_36, up2_same]
    exact ⟨q1, q2, q3, Or.inr ⟨d9, h1, rfl⟩, fun _ => hq, q6⟩
  refine h _ _ ((H.mk rfl rfl I1).mk rfl rfl (I1.train (by omega) hi ?_))
  obtain ⟨q1, q2, q3, q4, q5, -, q7⟩ := I1.2.2.2.1 i hi
  simp only [up2_same] at q4 q5
  unfold TrI
  simp only [up_28_1, up_28_2, up_28_3, up_28_4, up_28_5, up_28_6, up_28_7, up_28_8, up_28_10, up_28_11, up_28_12, up_28_13, up_28_14, up_28_15, up_28_16, up_28_17, up_28_18, up_28_19, up_28_20, up_28_21, up_28_22, up_28_23, up_28_24, up_28_25, up_28_26, up_28_27, up_28_29, up_28_30, up_28_31, up_28_32, up_28_33, up_28_34, up_28_35, up_28_36, up2_same]
  exact ⟨q1, q2, q3, q4, q5, ⟨_, h2, rfl⟩, q7⟩
theorem ok_depart {post : Int32 → TT → Prop} (H : GS n tk fr to t) (hn : n ≤ 600) (hi : i < 5) (ha : atStopS t i = true) (hd1 : t 27 i = -1) (hd2 : t 29 i = 0) (h : ∀ r t', GS (n + 1) tk fr to t' → post r (over t')) : P_X4_depart M26 post px 0 (nI i) (over t) := by
  refine sc_depart H.1 hn hi ha hd1 hd2 fun p d w v p1 d1 => ?_
  have G0 := H.mono (show n ≤ n + 1 by omega)
  have G1 := G0.mk (k := 9) (j := p) (v := w) rfl rfl (G0.1.plat (by omega) p1 (G0.1.2.2.2.2.1 p p1))
  have G2 := G1.mk (k := 8) (j := p) (v := v) rfl rfl (G1.1.plat (by omega) p1 (G1.1.2.2.2.2.1 p p1))
  have G3 := G2.mk (k := 7) (j := p) (v := nI d + 1) rfl rfl (G2.1.plat (by omega) p1 (by
    obtain ⟨-, w⟩ := G2.1.2.2.2.2.1 p p1
    exact ⟨⟨d + 1, by omega, by rw [up2_same]; exact nI_1 d⟩, w⟩))
  refine h _ _ (G3.mk rfl rfl (G3.1.train (by omega) hi ?_))
  obtain ⟨w1, w2, -, w4, -, w6⟩ := G3.1.2.2.2.1 i hi
  unfold TrI
  simp only [up_26_1, up_26_2, up_26_3, up_26_4, up_26_5, up_26_6, up_26_7, up_26_8, up_26_10, up_26_11, up_26_12, up_26_13, up_26_14, up_26_15, up_26_16, up_26_17, up_26_18, up_26_19, up_26_20, up_26_21, up_26_22, up_26_23, up_26_24, up_26_25, up_26_27, up_26_28, up_26_29, up_26_30, up_26_31, up_26_32, up_26_33, up_26_34, up_26_35, up_26_36, up2_same]
  exact ⟨w1, w2, Or.inl trivial, w4, fun z => absurd hd1 z, w6⟩
/-- a ZONE is closed, or opened -/
def mayS (t : TT) (a b : Int32) (k : Nat) : Prop := b < t 20 k - 100 ∨ (t 21 k < a ∧ ¬ a < (if t 34 k = 0 then t 21 k + way (t 22 k) else t 23 k))
theorem ok_close {post : Int32 → TT → Prop} (H : GS n tk fr to t) (hi : i < 4) {b : Int32} (hb : isB b) (hm : ¬ b = 0 → ∀ k, k < 5 → mayS t (t 15 i) (t 16 i) k) (h : ∀ r t', GS n tk fr to t' → post r (over t')) : P_X4_close M26 post px 0 (nI i) b (over t) := by
  obtain ⟨hI, ⟨hF, hZ, hR⟩, hz⟩ := id H
  obtain ⟨z1, z2, z3⟩ := hZ i hi
  have num : ∀ k, k < 5 → ∃ v, v ≤ 20 ∧ t 22 k = nI v ∧ (t 20 k - 100).toInt = (t 20 k).toInt - 100 ∧ (t 21 k + way (t 22 k)).toInt = (t 21 k).toInt + wyI v ∧ 0 ≤ (t 20 k).toInt ∧ (t 20 k).toInt ≤ (t 21 k).toInt ∧ bkI v ≤ wyI v ∧ 0 ≤ bkI v ∧ (t 21 k).toInt + bkI v ≤ (t 23 k).toInt := by
    intro k hk
    obtain ⟨a1, a2, a3, ⟨v, v1, v2, v3⟩, a5, a6, a7⟩ := hF.1 k hk
    have v3 : (t 21 k).toInt + bkI v ≤ (t 23 k).toInt := v3
    obtain ⟨b1, b2, b3, -⟩ := wy_bk v (by omega)
    have h100 : (100 : Int32).toInt = 100 := by decide +kernel
    have hw := wy_dec v (by omega)
    refine ⟨v, v1, v2, ?_, ?_, a1, by omega, b2, b1, v3⟩
    · rw [i_sub (by rw [h100]; omega) (by rw [h100]; omega), h100]
    · rw [v2, i_add (by rw [hw]; omega) (by rw [hw]; omega), hw]
  refine sc_close hI hi hb (fun e e2 => ?_) fun r => h r _ ?_
  · have hall : ∀ m, m ≤ 5 → allB (okC t i) m = true := by
      intro m
      induction m with
      | zero => intro _; rfl
      | succ m ih =>
        intro hm5
        unfold allB
        rw [ih (by omega), Bool.true_and]
        obtain ⟨v, v1, v2, n1, n2, n3, n4, n5, n6, n7⟩ := num m (by omega)
        unfold okC keepsS
        rcases hm e m (by omega) with q | ⟨q1, q2⟩
        · have q' := q
          rw [i_lt, n1] at q'
          have c : t 15 i ≤ t 21 m := by rw [i_le]; omega
          simp [q, c]
        · have c : ¬ t 15 i ≤ t 21 m := by rw [i_le]; rw [i_lt] at q1; omega
          by_cases s : t 34 m = 0
          · rw [if_pos s] at q2
            simp [q1, s, q2]
          · rw [if_neg s] at q2
            simp [q1, s, q2]
    exact hall 5 (Nat.le_refl _)
  · have I1 : Inv n 6 12 4 5 tk (up2 t 17 i b) := hI.set17 hi hb
    have ne : ∀ k j, k ≠ 17 → up2 t 17 i b k j = t k j := fun k j h => up2_ne fun z => h z.1
    have cz : ∀ z, z < 4 → ∀ k, k < 5 → ¬ up2 t 17 i b 17 z = 0 → (¬ t 17 z = 0) ∨ (z = i ∧ mayS t (t 15 i) (t 16 i) k) := by
      intro z hz9 k hk hc
      by_cases e : z = i
      · subst e
        rw [up2_same] at hc
        exact Or.inr ⟨rfl, hm hc k hk⟩
      · rw [up2_ne (fun q => e q.2)] at hc
        exact Or.inl hc
    refine ⟨I1.deal9 5 (Nat.le_refl _), deal_SA (Nat.le_refl _) (fun k hk => ?_) (fun z hz9 => ?_) (fun k hk => ?_), fun z hz9 => ?_⟩
    · obtain ⟨a1, a2, a3, a4, a5, v, v1, v2, v3, v4, v5, v6⟩ := hF.pre hk
      obtain ⟨w, w1, w2, n1, n2, n3, n4, n5, n6, n7⟩ := num k hk
      have hvw : v = w := by
        rw [v2] at w2
        exact (nI_eq (by omega) (by omega)).mp w2
      subst hvw
      unfold PrT
      rw [ne 20 _ (by omega), ne 19 _ (by omega), ne 21 _ (by omega), ne 24 _ (by omega), ne 22 _ (by omega), ne 24 _ (by omega), ne 34 _ (by omega), ne 23 _ (by omega)]
      refine ⟨a1, a2, a3, a4, a5, v, v1, v2, v3, v4, fun z hz9 hc => ?_, fun hs => ?_⟩
      · rw [ne 15 _ (by omega)]
        rcases cz z hz9 k hk hc with q | ⟨rfl, q | ⟨q1, q2⟩⟩
        · exact v5 z hz9 q
        · rw [i_lt, n1] at q
          exact Or.inl (by omega)
        · rw [i_lt] at q1 q2
          by_cases s : t 34 k = 0
          · rw [if_pos s, n2] at q2
            exact Or.inr (by omega)
          · rw [if_neg s] at q2
            exact Or.inr (by omega)
      · obtain ⟨u1, u2, u3, u4⟩ := v6 hs
        refine ⟨u1, u2, u3, fun z hz9 => ?_⟩
        unfold ClS
        rw [ne 15 _ (by omega), ne 20 _ (by omega), ne 21 _ (by omega), ne 23 _ (by omega)]
        intro hc
        rcases cz z hz9 k hk hc with q | ⟨rfl, q | ⟨q1, q2⟩⟩
        · exact u4 z hz9 q
        · rw [i_lt, n1] at q
          exact Or.inl (by omega)
        · rw [if_neg hs] at q2
          rw [i_lt] at q1 q2
          exact Or.inr ⟨by omega, by omega⟩
    · rw [ne 15 _ (by omega), ne 16 _ (by omega)]; exact hZ z hz9
    · rw [ne 32 _ (by omega), ne 19 _ (by omega), sumR_congr (ne 31 _ (by omega)) _ (fun q _ => ne 36 _ (by omega))]
      exact hR k hk
    · rw [dealR_ne (by omega), dealR_ne (by omega), ne 15 _ (by omega), ne 16 _ (by omega)]
      exact hz z hz9
/-- what the law asks of all trains -/
theorem GS.bnd (H : GS n tk fr to t) (hi : i < 5) : bndS t i = true ∧ ¬ t 19 i < t 20 i ∧ ¬ t 21 i < t 19 i ∧ ¬ t 23 i < t 21 i ∧ ¬ 5000 < t 23 i := by
  obtain ⟨a1, a2, a3, ⟨v, v1, v2, v3⟩, a5, a6, a7⟩ := H.2.1.1.1 i hi
  have b0 := sB_0 false v1
  have v3 : (t 21 i).toInt + sB false v ≤ (t 23 i).toInt := v3
  have c1 : ¬ t 19 i < t 20 i := by rw [i_lt]; omega
  have c2 : ¬ t 21 i < t 19 i := by rw [i_lt]; omega
  have c3 : ¬ t 23 i < t 21 i := by rw [i_lt]; omega
  have c4 : ¬ 5000 < t 23 i := by rw [i_lt, i_5000]; omega
  refine ⟨?_, c1, c2, c3, c4⟩
  unfold bndS
  simp [c1, c2, c3]
theorem GS.apart {j : Nat} (H : GS n tk fr to t) (hj : j < i) (hi : i < 5) : t 21 i < t 20 j - 100 := by
  have h := PrT.chain (fun k hk => H.2.1.1.pre hk) i j hj hi
  obtain ⟨a1, a2, a3, ⟨v, v1, v2, v3⟩, a5, a6, a7⟩ := H.2.1.1.1 j (by omega)
  have b0 := sB_0 false v1
  have v3 : (t 21 j).toInt + sB false v ≤ (t 23 j).toInt := v3
  have h100 : (100 : Int32).toInt = 100 := by decide +kernel
  rw [i_lt, i_sub (by rw [h100]; omega) (by rw [h100]; omega), h100]
  omega
theorem ok_isSafe {post : Int32 → TT → Prop} (H : GS n tk fr to t) (h : post 1 (over t)) : P_X4_isSafe M26 post px 0 (over t) :=
  sc_isSafe H.1 (fun i hi => (H.bnd hi).1) (fun i j hj hi => by unfold apS; rw [decide_eq_true (H.apart hj hi), Bool.true_or]) h
end OK
end
section
/-! the law's own small methods -/
section HL
variable {t : TT} {n tk i : Nat} {fr to : Nat → Int32} {px : String → TT → Prop}
theorem hl_way {M : Nat → Nat → Bool} {post : Int32 → TT → Prop} {a : Int32} {u : TT} : P_L_way M post px a u = post (way a) u := by
  unfold P_L_way way
  simp
theorem e_0 {post : Int32 → TT → Prop} (H : GS n tk fr to t) (hi : i < 5) : P_X4_trainIs M26 post px 0 (nI i) 0 (over t) = post (t 19 i) (over t) := (eq_trainIs H.1 hi (by decide +kernel) (by decide +kernel)).trans (by unfold tellT; rw [if_pos (by decide +kernel)])
theorem e_1 {post : Int32 → TT → Prop} (H : GS n tk fr to t) (hi : i < 5) : P_X4_trainIs M26 post px 0 (nI i) 1 (over t) = post (t 20 i) (over t) := (eq_trainIs H.1 hi (by decide +kernel) (by decide +kernel)).trans (by unfold tellT; rw [if_neg (by decide +kernel), if_pos (by decide +kernel)])
theorem e_2 {post : Int32 → TT → Prop} (H : GS n tk fr to t) (hi : i < 5) : P_X4_trainIs M26 post px 0 (nI i) 2 (over t) = post (t 21 i) (over t) := (eq_trainIs H.1 hi (by decide +kernel) (by decide +kernel)).trans (by unfold tellT; rw [if_neg (by decide +kernel), if_neg (by decide +kernel), if_pos (by decide +kernel)])
theorem e_3 {post : Int32 → TT → Prop} (H : GS n tk fr to t) (hi : i < 5) : P_X4_trainIs M26 post px 0 (nI i) 3 (over t) = post (t 22 i) (over t) := (eq_trainIs H.1 hi (by decide +kernel) (by decide +kernel)).trans (by unfold tellT; rw [if_neg (by decide +kernel), if_neg (by decide +kernel), if_neg (by decide +kernel), if_pos (by decide +kernel)])
theorem e_4 {post : Int32 → TT → Prop} (H : GS n tk fr to t) (hi : i < 5) : P_X4_trainIs M26 post px 0 (nI i) 4 (over t) = post (t 23 i) (over t) := (eq_trainIs H.1 hi (by decide +kernel) (by decide +kernel)).trans (by unfold tellT; rw [if_neg (by decide +kernel), if_neg (by decide +kernel), if_neg (by decide +kernel), if_neg (by decide +kernel), if_pos (by decide +kernel)])
theorem e_5 {post : Int32 → TT → Prop} (H : GS n tk fr to t) (hi : i < 5) : P_X4_trainIs M26 post px 0 (nI i) 5 (over t) = post (b2i (!decide (t 33 i = 0))) (over t) := (eq_trainIs H.1 hi (by decide +kernel) (by decide +kernel)).trans (by unfold tellT; rw [if_neg (by decide +kernel), if_neg (by decide +kernel), if_neg (by decide +kernel), if_neg (by decide +kernel), if_neg (by decide +kernel), if_pos (by decide +kernel)])
theorem e_6 {post : Int32 → TT → Prop} (H : GS n tk fr to t) (hi : i < 5) : P_X4_trainIs M26 post px 0 (nI i) 6 (over t) = post (b2i (!decide (t 34 i = 0))) (over t) := (eq_trainIs H.1 hi (by decide +kernel) (by decide +kernel)).trans (by unfold tellT; rw [if_neg (by decide +kernel), if_neg (by decide +kernel), if_neg (by decide +kernel), if_neg (by decide +kernel), if_neg (by decide +kernel), if_neg (by decide +kernel), if_pos (by decide +kernel)])
theorem e_7 {post : Int32 → TT → Prop} (H : GS n tk fr to t) (hi : i < 5) : P_X4_trainIs M26 post px 0 (nI i) 7 (over t) = post (t 26 i) (over t) := (eq_trainIs H.1 hi (by decide +kernel) (by decide +kernel)).trans (by unfold tellT; rw [if_neg (by decide +kernel), if_neg (by decide +kernel), if_neg (by decide +kernel), if_neg (by decide +kernel), if_neg (by decide +kernel), if_neg (by decide +kernel), if_neg (by decide +kernel), if_pos (by decide +kernel)])
theorem e_8 {post : Int32 → TT → Prop} (H : GS n tk fr to t) (hi : i < 5) : P_X4_trainIs M26 post px 0 (nI i) 8 (over t) = post (t 27 i) (over t) := (eq_trainIs H.1 hi (by decide +kernel) (by decide +kernel)).trans (by unfold tellT; rw [if_neg (by decide +kernel), if_neg (by decide +kernel), if_neg (by decide +kernel), if_neg (by decide +kernel), if_neg (by decide +kernel), if_neg (by decide +kernel), if_neg (by decide +kernel), if_neg (by decide +kernel), if_pos (by decide +kernel)])
theorem e_10 {post : Int32 → TT → Prop} (H : GS n tk fr to t) (hi : i < 5) : P_X4_trainIs M26 post px 0 (nI i) 10 (over t) = post (t 29 i) (over t) := (eq_trainIs H.1 hi (by decide +kernel) (by decide +kernel)).trans (by unfold tellT; rw [if_neg (by decide +kernel), if_neg (by decide +kernel), if_neg (by decide +kernel), if_neg (by decide +kernel), if_neg (by decide +kernel), if_neg (by decide +kernel), if_neg (by decide +kernel), if_neg (by decide +kernel), if_neg (by decide +kernel), if_neg (by decide +kernel)])
theorem e_p0 {post : Int32 → TT → Prop} {p : Nat} (H : GS n tk fr to t) (hp : p < 6) : P_X4_platformIs M26 post px 0 (nI p) 0 (over t) = post (t 4 p) (over t) := (eq_platformIs H.1 hp (by decide +kernel) (by decide +kernel)).trans (by unfold tellP; rw [if_pos (by decide +kernel)])
theorem hl_isAt {post : Int32 → TT → Prop} (H : GS n tk fr to t) (hi : i < 5) (h : post (b2i (atStopS t i)) (over t)) : P_L_isAt M26 post px 0 (nI i) (over t) := by
  obtain ⟨-, -, hs, -⟩ := H.1.2.2.2.1 i hi
  unfold atStopS at h
  simp only [B_L_isAt_59, B_L_isAt_58, P_L_isAt, ms0, e_7 H hi]
  rcases hs with e | ⟨p, p1, e⟩
  · rw [e, if_neg (by decide +kernel)]
    rw [if_pos e] at h
    exact ⟨isB_0, h⟩
  · have hn1 := nI_m1 (n := p) (by omega)
    have hcp := cl0 (n := p) (by omega)
    rw [e, if_neg hn1, hcp] at h
    rw [e, if_pos (show (0 : Int32) ≤ nI p from nI_le (a := 0) (b := p) (by omega) (by omega))]
    simp only [e_p0 H p1, e_3 H hi, e_1 H hi, e_2 H hi]
    by_cases c1 : t 22 i = 0
    · by_cases c2 : t 20 i < t 4 p - 1
      · simp only [c1, c2, decide_true, Bool.true_and, Bool.not_true, Bool.false_and, if_true] at h ⊢
        exact ⟨isB_0, h⟩
      · by_cases c3 : t 4 p + 1 < t 21 i
        · simp only [c1, c2, c3, decide_true, decide_false, Bool.true_and, Bool.not_true, Bool.not_false, if_true, if_false] at h ⊢
          exact ⟨isB_0, h⟩
        · simp only [c1, c2, c3, decide_true, decide_false, Bool.true_and, Bool.not_false, if_true, if_false] at h ⊢
          exact ⟨isB_1, h⟩
    · simp only [c1, decide_false, Bool.false_and, if_false] at h ⊢
      exact ⟨isB_0, h⟩
theorem hl_mayStop {post : Int32 → TT → Prop} {p : Nat} (H : GS n tk fr to t) (hi : i < 5) (hp : p < 6) (h0 : post 0 (over t)) (h1 : t 34 i = 0 → t 27 i = -1 → ¬ t 4 p + 1 < t 21 i + way (t 22 i) → post 1 (over t)) : P_L_mayStop M26 post px 0 (nI i) (nI p) (over t) := by
  simp only [B_L_mayStop_53, B_L_mayStop_52, P_L_mayStop, ms0, e_6 H hi, e_8 H hi, e_2 H hi, e_3 H hi, hl_way, e_p0 H hp, b2i_0]
  by_cases c1 : t 34 i = 0
  · by_cases c2 : t 27 i = -1
    · by_cases c3 : t 4 p + 1 < t 21 i + way (t 22 i)
      · simp only [c1, c2, c3, decide_true, Bool.not_true, if_true]
        exact ⟨isB_0, h0⟩
      · simp only [c1, c2, c3, decide_true, Bool.not_true, if_true, if_false]
        exact ⟨isB_1, h1 c1 c2 c3⟩
    · simp only [c1, c2, decide_true, Bool.not_true, if_true, if_false]
      exact ⟨isB_0, h0⟩
  · simp only [c1, decide_false, Bool.not_false, Bool.true_eq_false, if_false]
    exact ⟨isB_0, h0⟩
theorem hl_mayClose {post : Int32 → TT → Prop} {a b : Int32} (H : GS n tk fr to t) (h0 : post 0 (over t)) (h1 : (∀ k, k < 5 → mayS t a b k) → post 1 (over t)) : P_L_mayClose M26 post px 0 a b (over t) := by
  have L : ∀ q k, k + q = 5 → ∀ may : Bool, (may = true → ∀ j, j < k → mayS t a b j) → ∃ n9, L_L_mayClose_5 M26 post px n9 0 a b (b2i may) (nI k) (over t) := by
    intro q
    induction q with
    | zero =>
      intro k hk may hm
      have : k = 5 := by omega
      subst this
      refine ⟨1, ?_⟩
      simp only [L_L_mayClose_5]
      rw [if_pos (by decide +kernel)]
      refine ⟨b2i_B _, ?_⟩
      cases may
      · exact h0
      · exact h1 (hm rfl)
    | succ q ih =>
      intro k hk may hm
      have hk5 : k < 5 := by omega
      have hlt : ¬ (5 : Int32) ≤ nI k := nI_ge (a := k) (b := 5) (by omega) (by omega)
      obtain ⟨m1, hm1⟩ := ih (k + 1) (by omega) false (fun z => by cases z)
      have K : mayS t a b k → may = true → ∃ n9, L_L_mayClose_5 M26 post px n9 0 a b 1 (nI k + 1) (over t) := fun hs hmt => by
        obtain ⟨m2, hm2⟩ := ih (k + 1) (by omega) true (fun _ j hj => by
          by_cases e : j = k
          · subst e; exact hs
          · exact hm hmt j (by omega))
        exact ⟨m2, by rw [nI_1]; exact hm2⟩
      have hm1' : L_L_mayClose_5 M26 post px m1 0 a b 0 (nI k + 1) (over t) := by rw [nI_1]; exact hm1
      cases may with
      | false =>
        refine ⟨m1 + 1, ?_⟩
        have e0 : b2i false = 0 := rfl
        simp only [L_L_mayClose_5, hlt, if_false, ms0, e_2 H hk5, e_1 H hk5, e0]
        by_cases c1 : t 20 k - 100 ≤ b
        · simp only [c1, if_true, B_L_mayClose_39, ms0, e_6 H hk5, e_4 H hk5, e_3 H hk5, hl_way, B_L_mayClose_76, B_L_mayClose_103, B_L_mayClose_104]
          split <;> exact hm1'
        · simp only [c1, if_false, B_L_mayClose_39, ms0, e_6 H hk5, e_4 H hk5, e_3 H hk5, hl_way, B_L_mayClose_76, B_L_mayClose_103, B_L_mayClose_104, if_true]
          split <;> exact hm1'
      | true =>
        have e1 : b2i true = 1 := rfl
        by_cases c1 : t 20 k - 100 ≤ b
        · by_cases c2 : a ≤ t 21 k
          · refine ⟨m1 + 1, ?_⟩
            simp only [L_L_mayClose_5, hlt, if_false, ms0, e_2 H hk5, e_1 H hk5, e1, c1, c2, if_true, B_L_mayClose_39, e_6 H hk5, e_4 H hk5, e_3 H hk5, hl_way, B_L_mayClose_76, B_L_mayClose_103, B_L_mayClose_104, i10]
            split <;> exact hm1'
          · have c2' : t 21 k < a := by rw [i_lt]; rw [i_le] at c2; omega
            by_cases s : t 34 k = 0
            · have es : ¬ b2i (!decide (t 34 k = 0)) = 1 := by rw [decide_eq_true s]; decide +kernel
              by_cases c3 : a < t 21 k + way (t 22 k)
              · refine ⟨m1 + 1, ?_⟩
                simp only [L_L_mayClose_5, hlt, if_false, ms0, e_2 H hk5, e_1 H hk5, e1, c1, c2, c3, es, if_true, B_L_mayClose_39, e_6 H hk5, e_4 H hk5, e_3 H hk5, hl_way, B_L_mayClose_76, B_L_mayClose_103, B_L_mayClose_104, i10]
                exact hm1'
              · obtain ⟨m2, hm2⟩ := K (Or.inr ⟨c2', by rw [if_pos s]; exact c3⟩) rfl
                refine ⟨m2 + 1, ?_⟩
                simp only [L_L_mayClose_5, hlt, if_false, ms0, e_2 H hk5, e_1 H hk5, e1, c1, c2, c3, es, if_true, B_L_mayClose_39, e_6 H hk5, e_4 H hk5, e_3 H hk5, hl_way, B_L_mayClose_76, B_L_mayClose_99, B_L_mayClose_104, i10]
                exact hm2
            · have es : b2i (!decide (t 34 k = 0)) = 1 := by rw [decide_eq_false s]; rfl
              by_cases c3 : a < t 23 k
              · refine ⟨m1 + 1, ?_⟩
                simp only [L_L_mayClose_5, hlt, if_false, ms0, e_2 H hk5, e_1 H hk5, e1, c1, c2, c3, es, if_true, B_L_mayClose_39, e_6 H hk5, e_4 H hk5, e_3 H hk5, hl_way, B_L_mayClose_76, B_L_mayClose_103, B_L_mayClose_104, i10]
                exact hm1'
              · obtain ⟨m2, hm2⟩ := K (Or.inr ⟨c2', by rw [if_neg s]; exact c3⟩) rfl
                refine ⟨m2 + 1, ?_⟩
                simp only [L_L_mayClose_5, hlt, if_false, ms0, e_2 H hk5, e_1 H hk5, e1, c1, c2, c3, es, if_true, B_L_mayClose_39, e_6 H hk5, e_4 H hk5, e_3 H hk5, hl_way, B_L_mayClose_76, B_L_mayClose_99, B_L_mayClose_104, i10]
                exact hm2
        · have c1' : b < t 20 k - 100 := by rw [i_lt]; rw [i_le] at c1; omega
          obtain ⟨m2, hm2⟩ := K (Or.inl c1') rfl
          refine ⟨m2 + 1, ?_⟩
          simp only [L_L_mayClose_5, hlt, if_false, ms0, e_2 H hk5, e_1 H hk5, e1, c1, B_L_mayClose_39, e_6 H hk5, e_4 H hk5, e_3 H hk5, hl_way, B_L_mayClose_76, B_L_mayClose_99, B_L_mayClose_104, i10]
          split <;> exact hm2
  exact L 5 0 rfl true (fun _ j hj => by omega)
theorem hl_isSafe {post : Int32 → TT → Prop} (H : GS n tk fr to t) (h : post 1 (over t)) : P_L_isSafe M26 post px 0 (over t) := by
  have LI : ∀ (k7 : Nat → Int32 → Int32 → TT → Prop) (i : Nat), i < 5 → k7 0 1 (nI i + 1) (over t) → ∀ q j, j + q = i → ∃ n9, L_L_isSafe_92 M26 post px k7 n9 0 1 (nI i) (t 20 i) (t 21 i) (nI j) (over t) := by
    intro k7 i hi hk q
    induction q with
    | zero =>
      intro j hj
      have : j = i := by omega
      subst this
      refine ⟨1, ?_⟩
      simp only [L_L_isSafe_92, nle_self, if_true]
      exact hk
    | succ q ih =>
      intro j hj
      obtain ⟨m, hm⟩ := ih (j + 1) (by omega)
      have hlt : ¬ nI i ≤ nI j := nI_ge (by omega) (by omega)
      have ha := H.apart (show j < i by omega) hi
      refine ⟨m + 1, ?_⟩
      simp only [L_L_isSafe_92, hlt, i10, if_false, ms0, e_1 H (show j < 5 by omega), ha, if_true, B_L_isSafe_132, B_L_isSafe_137, nI_1]
      exact hm
  have LO : ∀ q i, i + q = 5 → ∃ n9, L_L_isSafe_7 M26 post px n9 0 1 (nI i) (over t) := by
    intro q
    induction q with
    | zero =>
      intro i hi
      have : i = 5 := by omega
      subst this
      refine ⟨1, ?_⟩
      simp only [L_L_isSafe_7]
      rw [if_pos (by decide +kernel)]
      exact ⟨isB_1, h⟩
    | succ q ih =>
      intro i hi
      have hi5 : i < 5 := by omega
      obtain ⟨m, hm⟩ := ih (i + 1) (by omega)
      have hlt : ¬ (5 : Int32) ≤ nI i := nI_ge (a := i) (b := 5) (by omega) (by omega)
      obtain ⟨-, c1, c2, c3, c4⟩ := H.bnd hi5
      obtain ⟨r1, r2⟩ := H.2.1.2.2 i hi5
      refine ⟨m + 1, ?_⟩
      simp only [L_L_isSafe_7, hlt, if_false, ms0, e_0 H hi5, e_1 H hi5, e_2 H hi5, e_4 H hi5, i10, c1, c2, c3, c4]
      refine sc_placeAnew H.1 hi5 r1 ?_
      rw [if_pos r2.symm]
      exact LI _ i hi5 (by rw [nI_1]; exact hm) i 0 (by omega)
  simp only [P_L_isSafe, ms0]
  exact ok_isSafe H (LO 5 0 rfl)
theorem hl_doors {post : TT → Prop} {x : Nat} (H : GS n tk fr to t) (hn : n ≤ 600) (hi : i < 5) (hx : x < 2 ^ 31) (h : ∀ t', GS (n + 1) tk fr to t' → post (over t')) : P_L_doors M26 post px 0 (nI i) (nI x) (over t) := by
  have h' : ∀ t', GS n tk fr to t' → post (over t') := fun t' g => h t' (g.mono (by omega))
  have r3 : nI x - nI x / 3 * 3 = nI (x % 3) := pk_rem (d := 3) hx (by omega) (by omega)
  have r5 : nI x - nI x / 5 * 5 = nI (x % 5) := pk_rem (d := 5) hx (by omega) (by omega)
  have r50 : nI x - nI x / 50 * 50 = nI (x % 50) := pk_rem (d := 50) hx (by omega) (by omega)
  obtain ⟨-, -, -, hd, -⟩ := H.1.2.2.2.1 i hi
  have i50 : ((50 : Int32) = 0) = False := eq_false (by decide +kernel)
  have i5 : ((5 : Int32) = 0) = False := eq_false (by decide +kernel)
  have tail : t 27 i = -1 → B_L_doors_51 M26 post px 0 (nI i) (nI x) (over t) := by
    intro d
    simp only [B_L_doors_51]
    refine hl_isAt H hi ?_
    cases ha : atStopS t i with
    | false =>
      simp only [b2i_0, if_true, ms0, e_3 H hi]
      by_cases c : t 22 i = 0
      · simp only [c, if_true, i5, not_false_eq_true, true_and, r5]
        have e1 : (1 : Int32) + nI (x % 5) = nI (1 + x % 5) := nI_add 1 _
        rw [e1]
        exact ok_hold H hi (by omega) (by omega) c (fun _ t' g => h' t' g)
      · simp only [c, if_false]
        exact h' t H
    | true =>
      simp only [b2i_0, Bool.true_eq_false, if_false, i50, not_false_eq_true, true_and, ms0, r50]
      exact ok_open H hi (by omega) ha d (fun _ t' g => h' t' g)
  simp only [P_L_doors, ms0, e_8 H hi]
  rcases hd with d | ⟨q, q1, d⟩
  · rw [d, if_pos (by decide +kernel)]
    refine hl_isAt H hi ?_
    cases ha : atStopS t i with
    | false =>
      simp only [b2i_0, if_true]
      exact tail d
    | true =>
      simp only [b2i_0, Bool.true_eq_false, if_false, i30, not_false_eq_true, true_and, r3]
      by_cases c : nI (x % 3) = 0
      · simp only [c, if_true, e_10 H hi]
        by_cases c2 : t 29 i = 0
        · simp only [c2, if_true]
          exact ok_depart H hn hi ha d c2 (fun _ t' g => h t' g)
        · simp only [c2, if_false]
          exact tail d
      · simp only [c, if_false]
        exact tail d
  · rw [d, if_neg (nI_pos (by omega))]
    exact ok_shut H hi (by rw [d]; exact nI_m1 (by omega)) (fun t' g => h' t' g)
end HL
end

/-! printed (wip/p26/gen26.py): contracts -/
section K
variable {p : Program} {l : Launch} {e : Env} {R : Room} {s : State} {m : MethodId} {args : Array Value} {below : List Frame} {meth : Method} {c : Code} {Q : State → Prop} {D : va_G} {X : Nat → ClassId} {ad : Nat → Nat → Nat} {A : Nat → Prop} {M : Nat → Nat → Bool} {nL : Nat} {b : ByteArray} {mc ms : Nat} {k : Option VV → TT → Prop} {kx : String → TT → Prop} {t : TT} {as : List VV}
def Q_X1_tell (M : Nat → Nat → Bool) (ix : Nat) (as : List VV) (t : TT) (k : Option VV → TT → Prop) (kx : String → TT → Prop) : Prop := False
def N_X1_tell (v : Bool) (ix : Nat) : Option (Nat × Nat × Nat) := none
def S_X1_tell (pc : Nat) : Option (List (Nat × Nat × Nat) × List (Nat × Nat) × Nat × Nat) := none
def H_X1_tell (pc : Nat) : Option String := none
set_option maxRecDepth 100000 in
set_option maxHeartbeats 4000000 in
theorem c_X1_tell {l : Launch} (hst9 : l.stackTraces = false) {D : va_G} {X : Nat → ClassId} {ad : Nat → Nat → Nat} {M : Nat → Nat → Bool} {post : Option VV → TT → Prop} {px : String → TT → Prop} (o0 : Nat) (a1 : Int32) (t : TT) (h : P_X1_tell M (fun r t1 => post (some (.inl r)) t1) px o0 a1 t) : CT l yX1_tell (Cond.code yX1_tell cX1_tell 2 (some .int) :: LT) ({ frames := 0, cells := 0, slots := 0, locals := 0 } : Room) D X ad M [.inr (.inl (5, o0)), .inl a1] t 0 0 post px := by
  refine met_of_wp (by decide +kernel) (Nat.le_of_ble_eq_true rfl) ?_
  intro p e s m args below meth c A hx hb hml hts hown hK hnt hlocks hr hA hE
  have hR9 : Ready p l e ({ frames := 0, cells := 0, slots := 0, locals := 0 } : Room) s m args below meth c D X ad A M 2 cX1_tell 0 0 post px RX1 1 (fldOf F_X1) N_X1_tell (Q_X1_tell M) (tabOf T_X1_tell) H_X1_tell := by
    refine ⟨hx, hb, hts, hown, hK, hnt, hlocks, hr, F_X1_ok, ?_, fun pc en h => tabOf_ok T_X1_tell_ok h, ?_⟩
    · intro v9 ix n mc1 ms1 as t k hn hl h
      unfold N_X1_tell at hn
      cases hn
    · intro pc E hE9; cases hE9
  refine wp_go hR9 (cs := S_X1_tell) (Bk := (fun _ _ _ _ => False)) ?_ 400 0 _ _ _ _ _ h
  intro pc q vs ws t hc hk
  exact hk.elim
theorem k_X1_tell (hx : p.tables.exec = Jvm.exec) (hb : c.code = b) (hml : c.maxLocals = nL) (hts : ∀ w ∈ LT, w.before args s = true) {own : String} (hown : s.vm.findClass own = some m.cls) (hK : va_K D vwCl (TYX X) s) (hA : ∀ q, s.heap.size ≤ q → A q) (hE : EX A s) (hst9 : l.stackTraces = false) {ix : Nat} (hl9 : Cond.methodLink own ix yX1_tell ∈ LT) (hR : 1 ≤ R.frames ∧ 21 ≤ R.locals) (hmc : R.cells = mc) (hms : R.slots = ms) (h : PC_X1_tell M as t k kx) : CallOK p l e R s m args below meth c Q D X ad A M nL b mc ms (.invokevirtual ix) 0 0 as t k kx := by
  unfold PC_X1_tell at h
  split at h
  · exact call_V hx hb hml hts hown hK hA hE (c_X1_tell hst9 _ _ t h.2) ⟨hl9, ws_X1_tell.1, ws_X1_tell.2.1, ws_X1_tell.2.2.1, ws_X1_tell.2.2.2⟩ (n := 1) (by decide +kernel) hR rfl rfl hmc hms rfl ⟨5, _, rfl, h.1, Or.inr (Or.inl rfl), rfl⟩
  · exact CallOK.congr (by simp only [List.map_cons]; congr 1; exact (if_neg h.1).symm) (call_V hx hb hml hts hown hK hA hE (c_X1_tell hst9 _ _ t h.2.2) ⟨hl9, ws_X1_tell.1, ws_X1_tell.2.1, ws_X1_tell.2.2.1, ws_X1_tell.2.2.2⟩ (n := 1) (by decide +kernel) hR rfl rfl hmc hms rfl ⟨5, _, rfl, h.2.1, Or.inr (Or.inl rfl), rfl⟩)
  · exact h.elim
def Q_X1_countDeparture (M : Nat → Nat → Bool) (ix : Nat) (as : List VV) (t : TT) (k : Option VV → TT → Prop) (kx : String → TT → Prop) : Prop := False
def N_X1_countDeparture (v : Bool) (ix : Nat) : Option (Nat × Nat × Nat) := none
def S_X1_countDeparture (pc : Nat) : Option (List (Nat × Nat × Nat) × List (Nat × Nat) × Nat × Nat) := match pc with
  | 17 => some ([(0, 1, 5), (1, 0, 0)], [], 0, 0)
  | _ => none
def H_X1_countDeparture (pc : Nat) : Option String := none
set_option maxRecDepth 100000 in
set_option maxHeartbeats 4000000 in
theorem c_X1_countDeparture {l : Launch} (hst9 : l.stackTraces = false) {D : va_G} {X : Nat → ClassId} {ad : Nat → Nat → Nat} {M : Nat → Nat → Bool} {post : Option VV → TT → Prop} {px : String → TT → Prop} (o0 : Nat) (a1 : Int32) (t : TT) (h : P_X1_countDeparture M (fun t1 => post none t1) px o0 a1 t) : CT l yX1_countDeparture (Cond.code yX1_countDeparture cX1_countDeparture 2 none :: LT) ({ frames := 0, cells := 0, slots := 0, locals := 0 } : Room) D X ad M [.inr (.inl (5, o0)), .inl a1] t 0 0 post px := by
  refine met_of_wp (by decide +kernel) (Nat.le_of_ble_eq_true rfl) ?_
  intro p e s m args below meth c A hx hb hml hts hown hK hnt hlocks hr hA hE
  have hR9 : Ready p l e ({ frames := 0, cells := 0, slots := 0, locals := 0 } : Room) s m args below meth c D X ad A M 2 cX1_countDeparture 0 0 post px RX1 0 (fldOf F_X1) N_X1_countDeparture (Q_X1_countDeparture M) (tabOf T_X1_countDeparture) H_X1_countDeparture := by
    refine ⟨hx, hb, hts, hown, hK, hnt, hlocks, hr, F_X1_ok, ?_, fun pc en h => tabOf_ok T_X1_countDeparture_ok h, ?_⟩
    · intro v9 ix n mc1 ms1 as t k hn hl h
      unfold N_X1_countDeparture at hn
      cases hn
    · intro pc E hE9; cases hE9
  have W17 : ∀ (o0 : Nat) (a1 : Int32) (t : TT), B_X1_countDeparture_17 M (fun t1 => post none t1) px o0 a1 t → Wat p l e ({ frames := 0, cells := 0, slots := 0, locals := 0 } : Room) s m args below meth c (QM below args s D X ad A M 0 0 post px) D X ad A M 2 17 [(0, .inr (.inl (5, o0))), (1, .inl a1)] [] t 0 0 := by
    intro o0 a1 t h
    refine wp_go hR9 (cs := S_X1_countDeparture) (Bk := (fun _ _ _ _ => False)) ?_ 400 17 _ _ _ _ _ h
    intro pc q vs ws t hc hk
    exact hk.elim
  refine wp_go hR9 (cs := S_X1_countDeparture) (Bk := (fun pc vs ws t => match pc with | 17 => (match vs, ws with | [.inr (.inl (5, o0)), .inl a1], [] => B_X1_countDeparture_17 M (fun t1 => post none t1) px o0 a1 t | _, _ => False) | _ => False)) ?_ 400 0 _ _ _ _ _ h
  intro pc q vs ws t hc hk
  split at hk
  · cases hc
    split at hk
    · exact W17 _ _ _ hk
    · exact hk.elim
  · exact hk.elim
theorem k_X1_countDeparture (hx : p.tables.exec = Jvm.exec) (hb : c.code = b) (hml : c.maxLocals = nL) (hts : ∀ w ∈ LT, w.before args s = true) {own : String} (hown : s.vm.findClass own = some m.cls) (hK : va_K D vwCl (TYX X) s) (hA : ∀ q, s.heap.size ≤ q → A q) (hE : EX A s) (hst9 : l.stackTraces = false) {ix : Nat} (hl9 : Cond.methodLink own ix yX1_countDeparture ∈ LT) (hR : 1 ≤ R.frames ∧ 21 ≤ R.locals) (hmc : R.cells = mc) (hms : R.slots = ms) (h : PC_X1_countDeparture M as t k kx) : CallOK p l e R s m args below meth c Q D X ad A M nL b mc ms (.invokevirtual ix) 0 0 as t k kx := by
  unfold PC_X1_countDeparture at h
  split at h
  · exact call_V hx hb hml hts hown hK hA hE (c_X1_countDeparture hst9 _ _ t h.2) ⟨hl9, ws_X1_countDeparture.1, ws_X1_countDeparture.2.1, ws_X1_countDeparture.2.2.1, ws_X1_countDeparture.2.2.2⟩ (n := 1) (by decide +kernel) hR rfl rfl hmc hms rfl ⟨5, _, rfl, h.1, Or.inr (Or.inl rfl), rfl⟩
  · exact CallOK.congr (by simp only [List.map_cons]; congr 1; exact (if_neg h.1).symm) (call_V hx hb hml hts hown hK hA hE (c_X1_countDeparture hst9 _ _ t h.2.2) ⟨hl9, ws_X1_countDeparture.1, ws_X1_countDeparture.2.1, ws_X1_countDeparture.2.2.1, ws_X1_countDeparture.2.2.2⟩ (n := 1) (by decide +kernel) hR rfl rfl hmc hms rfl ⟨5, _, rfl, h.2.1, Or.inr (Or.inl rfl), rfl⟩)
  · exact h.elim
def Q_X2_tell (M : Nat → Nat → Bool) (ix : Nat) (as : List VV) (t : TT) (k : Option VV → TT → Prop) (kx : String → TT → Prop) : Prop := False
def N_X2_tell (v : Bool) (ix : Nat) : Option (Nat × Nat × Nat) := none
def S_X2_tell (pc : Nat) : Option (List (Nat × Nat × Nat) × List (Nat × Nat) × Nat × Nat) := match pc with
  | 93 => some ([], [(0, 0)], 0, 0)
  | 106 => some ([], [(0, 0)], 0, 0)
  | 125 => some ([], [(0, 0)], 0, 0)
  | _ => none
def H_X2_tell (pc : Nat) : Option String := none
set_option maxRecDepth 100000 in
set_option maxHeartbeats 4000000 in
theorem c_X2_tell {l : Launch} (hst9 : l.stackTraces = false) {D : va_G} {X : Nat → ClassId} {ad : Nat → Nat → Nat} {M : Nat → Nat → Bool} {post : Option VV → TT → Prop} {px : String → TT → Prop} (o0 : Nat) (a1 : Int32) (t : TT) (h : P_X2_tell M (fun r t1 => post (some (.inl r)) t1) px o0 a1 t) : CT l yX2_tell (Cond.code yX2_tell cX2_tell 2 (some .int) :: LT) ({ frames := 0, cells := 0, slots := 0, locals := 0 } : Room) D X ad M [.inr (.inl (8, o0)), .inl a1] t 0 0 post px := by
  refine met_of_wp (by decide +kernel) (Nat.le_of_ble_eq_true rfl) ?_
  intro p e s m args below meth c A hx hb hml hts hown hK hnt hlocks hr hA hE
  have hR9 : Ready p l e ({ frames := 0, cells := 0, slots := 0, locals := 0 } : Room) s m args below meth c D X ad A M 2 cX2_tell 0 0 post px RX2 1 (fldOf F_X2) N_X2_tell (Q_X2_tell M) (tabOf T_X2_tell) H_X2_tell := by
    refine ⟨hx, hb, hts, hown, hK, hnt, hlocks, hr, F_X2_ok, ?_, fun pc en h => tabOf_ok T_X2_tell_ok h, ?_⟩
    · intro v9 ix n mc1 ms1 as t k hn hl h
      unfold N_X2_tell at hn
      cases hn
    · intro pc E hE9; cases hE9
  have W93 : ∀ (s0 : Int32) (t : TT), B_X2_tell_93 M (fun r t1 => post (some (.inl r)) t1) px s0 t → Wat p l e ({ frames := 0, cells := 0, slots := 0, locals := 0 } : Room) s m args below meth c (QM below args s D X ad A M 0 0 post px) D X ad A M 2 93 [] [.inl s0] t 0 0 := by
    intro s0 t h
    refine wp_go hR9 (cs := S_X2_tell) (Bk := (fun _ _ _ _ => False)) ?_ 400 93 _ _ _ _ _ h
    intro pc q vs ws t hc hk
    exact hk.elim
  have W106 : ∀ (s0 : Int32) (t : TT), B_X2_tell_106 M (fun r t1 => post (some (.inl r)) t1) px s0 t → Wat p l e ({ frames := 0, cells := 0, slots := 0, locals := 0 } : Room) s m args below meth c (QM below args s D X ad A M 0 0 post px) D X ad A M 2 106 [] [.inl s0] t 0 0 := by
    intro s0 t h
    refine wp_go hR9 (cs := S_X2_tell) (Bk := (fun _ _ _ _ => False)) ?_ 400 106 _ _ _ _ _ h
    intro pc q vs ws t hc hk
    exact hk.elim
  have W125 : ∀ (s0 : Int32) (t : TT), B_X2_tell_125 M (fun r t1 => post (some (.inl r)) t1) px s0 t → Wat p l e ({ frames := 0, cells := 0, slots := 0, locals := 0 } : Room) s m args below meth c (QM below args s D X ad A M 0 0 post px) D X ad A M 2 125 [] [.inl s0] t 0 0 := by
    intro s0 t h
    refine wp_go hR9 (cs := S_X2_tell) (Bk := (fun _ _ _ _ => False)) ?_ 400 125 _ _ _ _ _ h
    intro pc q vs ws t hc hk
    exact hk.elim
  refine wp_go hR9 (cs := S_X2_tell) (Bk := (fun pc vs ws t => match pc with | 93 => (match vs, ws with | [], [.inl s0] => B_X2_tell_93 M (fun r t1 => post (some (.inl r)) t1) px s0 t | _, _ => False) | 106 => (match vs, ws with | [], [.inl s0] => B_X2_tell_106 M (fun r t1 => post (some (.inl r)) t1) px s0 t | _, _ => False) | 125 => (match vs, ws with | [], [.inl s0] => B_X2_tell_125 M (fun r t1 => post (some (.inl r)) t1) px s0 t | _, _ => False) | _ => False)) ?_ 400 0 _ _ _ _ _ h
  intro pc q vs ws t hc hk
  split at hk
  · cases hc
    split at hk
    · exact W93 _ _ hk
    · exact hk.elim
  · cases hc
    split at hk
    · exact W106 _ _ hk
    · exact hk.elim
  · cases hc
    split at hk
    · exact W125 _ _ hk
    · exact hk.elim
  · exact hk.elim
theorem k_X2_tell (hx : p.tables.exec = Jvm.exec) (hb : c.code = b) (hml : c.maxLocals = nL) (hts : ∀ w ∈ LT, w.before args s = true) {own : String} (hown : s.vm.findClass own = some m.cls) (hK : va_K D vwCl (TYX X) s) (hA : ∀ q, s.heap.size ≤ q → A q) (hE : EX A s) (hst9 : l.stackTraces = false) {ix : Nat} (hl9 : Cond.methodLink own ix yX2_tell ∈ LT) (hR : 1 ≤ R.frames ∧ 21 ≤ R.locals) (hmc : R.cells = mc) (hms : R.slots = ms) (h : PC_X2_tell M as t k kx) : CallOK p l e R s m args below meth c Q D X ad A M nL b mc ms (.invokevirtual ix) 0 0 as t k kx := by
  unfold PC_X2_tell at h
  split at h
  · exact call_V hx hb hml hts hown hK hA hE (c_X2_tell hst9 _ _ t h.2) ⟨hl9, ws_X2_tell.1, ws_X2_tell.2.1, ws_X2_tell.2.2.1, ws_X2_tell.2.2.2⟩ (n := 1) (by decide +kernel) hR rfl rfl hmc hms rfl ⟨8, _, rfl, h.1, Or.inr (Or.inr (Or.inr (Or.inr rfl))), rfl⟩
  · exact CallOK.congr (by simp only [List.map_cons]; congr 1; exact (if_neg h.1).symm) (call_V hx hb hml hts hown hK hA hE (c_X2_tell hst9 _ _ t h.2.2) ⟨hl9, ws_X2_tell.1, ws_X2_tell.2.1, ws_X2_tell.2.2.1, ws_X2_tell.2.2.2⟩ (n := 1) (by decide +kernel) hR rfl rfl hmc hms rfl ⟨8, _, rfl, h.2.1, Or.inr (Or.inr (Or.inr (Or.inr rfl))), rfl⟩)
  · exact h.elim
def Q_X2_wayToStop (M : Nat → Nat → Bool) (ix : Nat) (as : List VV) (t : TT) (k : Option VV → TT → Prop) (kx : String → TT → Prop) : Prop := False
def N_X2_wayToStop (v : Bool) (ix : Nat) : Option (Nat × Nat × Nat) := none
def S_X2_wayToStop (pc : Nat) : Option (List (Nat × Nat × Nat) × List (Nat × Nat) × Nat × Nat) := none
def H_X2_wayToStop (pc : Nat) : Option String := none
set_option maxRecDepth 100000 in
set_option maxHeartbeats 4000000 in
theorem c_X2_wayToStop {l : Launch} (hst9 : l.stackTraces = false) {D : va_G} {X : Nat → ClassId} {ad : Nat → Nat → Nat} {M : Nat → Nat → Bool} {post : Option VV → TT → Prop} {px : String → TT → Prop} (a0 : Int32) (t : TT) (h : P_X2_wayToStop M (fun r t1 => post (some (.inl r)) t1) px a0 t) : CT l yX2_wayToStop (Cond.code yX2_wayToStop cX2_wayToStop 1 (some .int) :: LT) ({ frames := 0, cells := 0, slots := 0, locals := 0 } : Room) D X ad M [.inl a0] t 0 0 post px := by
  refine met_of_wp (by decide +kernel) (Nat.le_of_ble_eq_true rfl) ?_
  intro p e s m args below meth c A hx hb hml hts hown hK hnt hlocks hr hA hE
  have hR9 : Ready p l e ({ frames := 0, cells := 0, slots := 0, locals := 0 } : Room) s m args below meth c D X ad A M 1 cX2_wayToStop 0 0 post px RX2 1 (fldOf F_X2) N_X2_wayToStop (Q_X2_wayToStop M) (tabOf T_X2_wayToStop) H_X2_wayToStop := by
    refine ⟨hx, hb, hts, hown, hK, hnt, hlocks, hr, F_X2_ok, ?_, fun pc en h => tabOf_ok T_X2_wayToStop_ok h, ?_⟩
    · intro v9 ix n mc1 ms1 as t k hn hl h
      unfold N_X2_wayToStop at hn
      cases hn
    · intro pc E hE9; cases hE9
  refine wp_go hR9 (cs := S_X2_wayToStop) (Bk := (fun _ _ _ _ => False)) ?_ 400 0 _ _ _ _ _ h
  intro pc q vs ws t hc hk
  exact hk.elim
theorem k_X2_wayToStop (hx : p.tables.exec = Jvm.exec) (hb : c.code = b) (hml : c.maxLocals = nL) (hts : ∀ w ∈ LT, w.before args s = true) {own : String} (hown : s.vm.findClass own = some m.cls) (hK : va_K D vwCl (TYX X) s) (hA : ∀ q, s.heap.size ≤ q → A q) (hE : EX A s) (hst9 : l.stackTraces = false) {ix : Nat} (hl9 : Cond.methodLink own ix yX2_wayToStop ∈ LT) (hR : 1 ≤ R.frames ∧ 20 ≤ R.locals) (hmc : R.cells = mc) (hms : R.slots = ms) (h : PC_X2_wayToStop M as t k kx) : CallOK p l e R s m args below meth c Q D X ad A M nL b mc ms (.invokestatic ix) 0 0 as t k kx := by
  unfold PC_X2_wayToStop at h
  split at h
  · exact call_S hx hb hml hts hown hK hA hE (c_X2_wayToStop hst9 _ t h) ⟨hl9, ws_X2_wayToStop.1, ws_X2_wayToStop.2.1, ws_X2_wayToStop.2.2⟩ (n := 1) (by decide +kernel) hR rfl rfl hmc hms rfl
  · exact h.elim
def Q_X2_keeps (M : Nat → Nat → Bool) (ix : Nat) (as : List VV) (t : TT) (k : Option VV → TT → Prop) (kx : String → TT → Prop) : Prop := match ix with
  | 68 => PC_X2_wayToStop M as t k kx
  | _ => False
def N_X2_keeps (v : Bool) (ix : Nat) : Option (Nat × Nat × Nat) := match v, ix with
  | false, 68 => some (1, 0, 0)
  | _, _ => none
def S_X2_keeps (pc : Nat) : Option (List (Nat × Nat × Nat) × List (Nat × Nat) × Nat × Nat) := match pc with
  | 37 => some ([], [(0, 0)], 0, 0)
  | 26 => some ([(1, 0, 0)], [(0, 0)], 0, 0)
  | _ => none
def H_X2_keeps (pc : Nat) : Option String := none
set_option maxRecDepth 100000 in
set_option maxHeartbeats 4000000 in
theorem c_X2_keeps {l : Launch} (hst9 : l.stackTraces = false) {D : va_G} {X : Nat → ClassId} {ad : Nat → Nat → Nat} {M : Nat → Nat → Bool} {post : Option VV → TT → Prop} {px : String → TT → Prop} (o0 : Nat) (a1 : Int32) (t : TT) (h : P_X2_keeps M (fun r t1 => post (some (.inl r)) t1) px o0 a1 t) : CT l yX2_keeps (Cond.code yX2_keeps cX2_keeps 3 (some .boolean) :: LT) ({ frames := 1, cells := 0, slots := 0, locals := 20 } : Room) D X ad M [.inr (.inl (8, o0)), .inl a1] t 0 0 post px := by
  refine met_of_wp (by decide +kernel) (Nat.le_of_ble_eq_true rfl) ?_
  intro p e s m args below meth c A hx hb hml hts hown hK hnt hlocks hr hA hE
  have hR9 : Ready p l e ({ frames := 1, cells := 0, slots := 0, locals := 20 } : Room) s m args below meth c D X ad A M 3 cX2_keeps 0 0 post px RX2 2 (fldOf F_X2) N_X2_keeps (Q_X2_keeps M) (tabOf T_X2_keeps) H_X2_keeps := by
    refine ⟨hx, hb, hts, hown, hK, hnt, hlocks, hr, F_X2_ok, ?_, fun pc en h => tabOf_ok T_X2_keeps_ok h, ?_⟩
    · intro v9 ix n mc1 ms1 as t k hn hl h
      unfold N_X2_keeps at hn
      split at hn
      · cases hn
        exact k_X2_wayToStop hx hb hml hts hown hK hA hE hst9 (by decide +kernel) ⟨Nat.le_of_ble_eq_true rfl, Nat.le_of_ble_eq_true rfl⟩ rfl rfl h
      · cases hn
    · intro pc E hE9; cases hE9
  have W37 : ∀ (s0 : Int32) (t : TT), B_X2_keeps_37 M (fun r t1 => post (some (.inl r)) t1) px s0 t → Wat p l e ({ frames := 1, cells := 0, slots := 0, locals := 20 } : Room) s m args below meth c (QM below args s D X ad A M 0 0 post px) D X ad A M 3 37 [] [.inl s0] t 0 0 := by
    intro s0 t h
    refine wp_go hR9 (cs := S_X2_keeps) (Bk := (fun _ _ _ _ => False)) ?_ 400 37 _ _ _ _ _ h
    intro pc q vs ws t hc hk
    exact hk.elim
  have W26 : ∀ (a1 : Int32) (s0 : Int32) (t : TT), B_X2_keeps_26 M (fun r t1 => post (some (.inl r)) t1) px a1 s0 t → Wat p l e ({ frames := 1, cells := 0, slots := 0, locals := 20 } : Room) s m args below meth c (QM below args s D X ad A M 0 0 post px) D X ad A M 3 26 [(1, .inl a1)] [.inl s0] t 0 0 := by
    intro a1 s0 t h
    refine wp_go hR9 (cs := S_X2_keeps) (Bk := (fun pc vs ws t => match pc with | 37 => (match vs, ws with | [], [.inl s0] => B_X2_keeps_37 M (fun r t1 => post (some (.inl r)) t1) px s0 t | _, _ => False) | _ => False)) ?_ 400 26 _ _ _ _ _ h
    intro pc q vs ws t hc hk
    split at hk
    · cases hc
      split at hk
      · exact W37 _ _ hk
      · exact hk.elim
    · exact hk.elim
  refine wp_go hR9 (cs := S_X2_keeps) (Bk := (fun pc vs ws t => match pc with | 26 => (match vs, ws with | [.inl a1], [.inl s0] => B_X2_keeps_26 M (fun r t1 => post (some (.inl r)) t1) px a1 s0 t | _, _ => False) | _ => False)) ?_ 400 0 _ _ _ _ _ h
  intro pc q vs ws t hc hk
  split at hk
  · cases hc
    split at hk
    · exact W26 _ _ _ hk
    · exact hk.elim
  · exact hk.elim
theorem k_X2_keeps (hx : p.tables.exec = Jvm.exec) (hb : c.code = b) (hml : c.maxLocals = nL) (hts : ∀ w ∈ LT, w.before args s = true) {own : String} (hown : s.vm.findClass own = some m.cls) (hK : va_K D vwCl (TYX X) s) (hA : ∀ q, s.heap.size ≤ q → A q) (hE : EX A s) (hst9 : l.stackTraces = false) {ix : Nat} (hl9 : Cond.methodLink own ix yX2_keeps ∈ LT) (hR : 2 ≤ R.frames ∧ 42 ≤ R.locals) (hmc : R.cells = mc) (hms : R.slots = ms) (h : PC_X2_keeps M as t k kx) : CallOK p l e R s m args below meth c Q D X ad A M nL b mc ms (.invokevirtual ix) 0 0 as t k kx := by
  unfold PC_X2_keeps at h
  split at h
  · exact call_V hx hb hml hts hown hK hA hE (c_X2_keeps hst9 _ _ t h.2) ⟨hl9, ws_X2_keeps.1, ws_X2_keeps.2.1, ws_X2_keeps.2.2.1, ws_X2_keeps.2.2.2⟩ (n := 1) (by decide +kernel) hR rfl rfl hmc hms rfl ⟨8, _, rfl, h.1, Or.inr (Or.inr (Or.inr (Or.inr rfl))), rfl⟩
  · exact CallOK.congr (by simp only [List.map_cons]; congr 1; exact (if_neg h.1).symm) (call_V hx hb hml hts hown hK hA hE (c_X2_keeps hst9 _ _ t h.2.2) ⟨hl9, ws_X2_keeps.1, ws_X2_keeps.2.1, ws_X2_keeps.2.2.1, ws_X2_keeps.2.2.2⟩ (n := 1) (by decide +kernel) hR rfl rfl hmc hms rfl ⟨8, _, rfl, h.2.1, Or.inr (Or.inr (Or.inr (Or.inr rfl))), rfl⟩)
  · exact h.elim
def Q_X2_mayCover (M : Nat → Nat → Bool) (ix : Nat) (as : List VV) (t : TT) (k : Option VV → TT → Prop) (kx : String → TT → Prop) : Prop := False
def N_X2_mayCover (v : Bool) (ix : Nat) : Option (Nat × Nat × Nat) := none
def S_X2_mayCover (pc : Nat) : Option (List (Nat × Nat × Nat) × List (Nat × Nat) × Nat × Nat) := match pc with
  | 24 => some ([], [(0, 0)], 0, 0)
  | 23 => some ([], [], 0, 0)
  | _ => none
def H_X2_mayCover (pc : Nat) : Option String := none
set_option maxRecDepth 100000 in
set_option maxHeartbeats 4000000 in
theorem c_X2_mayCover {l : Launch} (hst9 : l.stackTraces = false) {D : va_G} {X : Nat → ClassId} {ad : Nat → Nat → Nat} {M : Nat → Nat → Bool} {post : Option VV → TT → Prop} {px : String → TT → Prop} (o0 : Nat) (a1 : Int32) (a2 : Int32) (t : TT) (h : P_X2_mayCover M (fun r t1 => post (some (.inl r)) t1) px o0 a1 a2 t) : CT l yX2_mayCover (Cond.code yX2_mayCover cX2_mayCover 3 (some .boolean) :: LT) ({ frames := 0, cells := 0, slots := 0, locals := 0 } : Room) D X ad M [.inr (.inl (8, o0)), .inl a1, .inl a2] t 0 0 post px := by
  refine met_of_wp (by decide +kernel) (Nat.le_of_ble_eq_true rfl) ?_
  intro p e s m args below meth c A hx hb hml hts hown hK hnt hlocks hr hA hE
  have hR9 : Ready p l e ({ frames := 0, cells := 0, slots := 0, locals := 0 } : Room) s m args below meth c D X ad A M 3 cX2_mayCover 0 0 post px RX2 2 (fldOf F_X2) N_X2_mayCover (Q_X2_mayCover M) (tabOf T_X2_mayCover) H_X2_mayCover := by
    refine ⟨hx, hb, hts, hown, hK, hnt, hlocks, hr, F_X2_ok, ?_, fun pc en h => tabOf_ok T_X2_mayCover_ok h, ?_⟩
    · intro v9 ix n mc1 ms1 as t k hn hl h
      unfold N_X2_mayCover at hn
      cases hn
    · intro pc E hE9; cases hE9
  have W24 : ∀ (s0 : Int32) (t : TT), B_X2_mayCover_24 M (fun r t1 => post (some (.inl r)) t1) px s0 t → Wat p l e ({ frames := 0, cells := 0, slots := 0, locals := 0 } : Room) s m args below meth c (QM below args s D X ad A M 0 0 post px) D X ad A M 3 24 [] [.inl s0] t 0 0 := by
    intro s0 t h
    refine wp_go hR9 (cs := S_X2_mayCover) (Bk := (fun _ _ _ _ => False)) ?_ 400 24 _ _ _ _ _ h
    intro pc q vs ws t hc hk
    exact hk.elim
  have W23 : ∀ (t : TT), B_X2_mayCover_23 M (fun r t1 => post (some (.inl r)) t1) px t → Wat p l e ({ frames := 0, cells := 0, slots := 0, locals := 0 } : Room) s m args below meth c (QM below args s D X ad A M 0 0 post px) D X ad A M 3 23 [] [] t 0 0 := by
    intro t h
    refine wp_go hR9 (cs := S_X2_mayCover) (Bk := (fun pc vs ws t => match pc with | 24 => (match vs, ws with | [], [.inl s0] => B_X2_mayCover_24 M (fun r t1 => post (some (.inl r)) t1) px s0 t | _, _ => False) | _ => False)) ?_ 400 23 _ _ _ _ _ h
    intro pc q vs ws t hc hk
    split at hk
    · cases hc
      split at hk
      · exact W24 _ _ hk
      · exact hk.elim
    · exact hk.elim
  refine wp_go hR9 (cs := S_X2_mayCover) (Bk := (fun pc vs ws t => match pc with | 23 => (match vs, ws with | [], [] => B_X2_mayCover_23 M (fun r t1 => post (some (.inl r)) t1) px t | _, _ => False) | 24 => (match vs, ws with | [], [.inl s0] => B_X2_mayCover_24 M (fun r t1 => post (some (.inl r)) t1) px s0 t | _, _ => False) | _ => False)) ?_ 400 0 _ _ _ _ _ h
  intro pc q vs ws t hc hk
  split at hk
  · cases hc
    split at hk
    · exact W23 _ hk
    · exact hk.elim
  · cases hc
    split at hk
    · exact W24 _ _ hk
    · exact hk.elim
  · exact hk.elim
theorem k_X2_mayCover (hx : p.tables.exec = Jvm.exec) (hb : c.code = b) (hml : c.maxLocals = nL) (hts : ∀ w ∈ LT, w.before args s = true) {own : String} (hown : s.vm.findClass own = some m.cls) (hK : va_K D vwCl (TYX X) s) (hA : ∀ q, s.heap.size ≤ q → A q) (hE : EX A s) (hst9 : l.stackTraces = false) {ix : Nat} (hl9 : Cond.methodLink own ix yX2_mayCover ∈ LT) (hR : 1 ≤ R.frames ∧ 22 ≤ R.locals) (hmc : R.cells = mc) (hms : R.slots = ms) (h : PC_X2_mayCover M as t k kx) : CallOK p l e R s m args below meth c Q D X ad A M nL b mc ms (.invokevirtual ix) 0 0 as t k kx := by
  unfold PC_X2_mayCover at h
  split at h
  · exact call_V hx hb hml hts hown hK hA hE (c_X2_mayCover hst9 _ _ _ t h.2) ⟨hl9, ws_X2_mayCover.1, ws_X2_mayCover.2.1, ws_X2_mayCover.2.2.1, ws_X2_mayCover.2.2.2⟩ (n := 2) (by decide +kernel) hR rfl rfl hmc hms rfl ⟨8, _, rfl, h.1, Or.inr (Or.inr (Or.inr (Or.inr rfl))), rfl⟩
  · exact CallOK.congr (by simp only [List.map_cons]; congr 1; exact (if_neg h.1).symm) (call_V hx hb hml hts hown hK hA hE (c_X2_mayCover hst9 _ _ _ t h.2.2) ⟨hl9, ws_X2_mayCover.1, ws_X2_mayCover.2.1, ws_X2_mayCover.2.2.1, ws_X2_mayCover.2.2.2⟩ (n := 2) (by decide +kernel) hR rfl rfl hmc hms rfl ⟨8, _, rfl, h.2.1, Or.inr (Or.inr (Or.inr (Or.inr rfl))), rfl⟩)
  · exact h.elim
def Q_X2_isInItsBounds (M : Nat → Nat → Bool) (ix : Nat) (as : List VV) (t : TT) (k : Option VV → TT → Prop) (kx : String → TT → Prop) : Prop := False
def N_X2_isInItsBounds (v : Bool) (ix : Nat) : Option (Nat × Nat × Nat) := none
def S_X2_isInItsBounds (pc : Nat) : Option (List (Nat × Nat × Nat) × List (Nat × Nat) × Nat × Nat) := match pc with
  | 38 => some ([], [(0, 0)], 0, 0)
  | 37 => some ([], [], 0, 0)
  | _ => none
def H_X2_isInItsBounds (pc : Nat) : Option String := none
set_option maxRecDepth 100000 in
set_option maxHeartbeats 4000000 in
theorem c_X2_isInItsBounds {l : Launch} (hst9 : l.stackTraces = false) {D : va_G} {X : Nat → ClassId} {ad : Nat → Nat → Nat} {M : Nat → Nat → Bool} {post : Option VV → TT → Prop} {px : String → TT → Prop} (o0 : Nat) (t : TT) (h : P_X2_isInItsBounds M (fun r t1 => post (some (.inl r)) t1) px o0 t) : CT l yX2_isInItsBounds (Cond.code yX2_isInItsBounds cX2_isInItsBounds 1 (some .boolean) :: LT) ({ frames := 0, cells := 0, slots := 0, locals := 0 } : Room) D X ad M [.inr (.inl (8, o0))] t 0 0 post px := by
  refine met_of_wp (by decide +kernel) (Nat.le_of_ble_eq_true rfl) ?_
  intro p e s m args below meth c A hx hb hml hts hown hK hnt hlocks hr hA hE
  have hR9 : Ready p l e ({ frames := 0, cells := 0, slots := 0, locals := 0 } : Room) s m args below meth c D X ad A M 1 cX2_isInItsBounds 0 0 post px RX2 2 (fldOf F_X2) N_X2_isInItsBounds (Q_X2_isInItsBounds M) (tabOf T_X2_isInItsBounds) H_X2_isInItsBounds := by
    refine ⟨hx, hb, hts, hown, hK, hnt, hlocks, hr, F_X2_ok, ?_, fun pc en h => tabOf_ok T_X2_isInItsBounds_ok h, ?_⟩
    · intro v9 ix n mc1 ms1 as t k hn hl h
      unfold N_X2_isInItsBounds at hn
      cases hn
    · intro pc E hE9; cases hE9
  have W38 : ∀ (s0 : Int32) (t : TT), B_X2_isInItsBounds_38 M (fun r t1 => post (some (.inl r)) t1) px s0 t → Wat p l e ({ frames := 0, cells := 0, slots := 0, locals := 0 } : Room) s m args below meth c (QM below args s D X ad A M 0 0 post px) D X ad A M 1 38 [] [.inl s0] t 0 0 := by
    intro s0 t h
    refine wp_go hR9 (cs := S_X2_isInItsBounds) (Bk := (fun _ _ _ _ => False)) ?_ 400 38 _ _ _ _ _ h
    intro pc q vs ws t hc hk
    exact hk.elim
  have W37 : ∀ (t : TT), B_X2_isInItsBounds_37 M (fun r t1 => post (some (.inl r)) t1) px t → Wat p l e ({ frames := 0, cells := 0, slots := 0, locals := 0 } : Room) s m args below meth c (QM below args s D X ad A M 0 0 post px) D X ad A M 1 37 [] [] t 0 0 := by
    intro t h
    refine wp_go hR9 (cs := S_X2_isInItsBounds) (Bk := (fun pc vs ws t => match pc with | 38 => (match vs, ws with | [], [.inl s0] => B_X2_isInItsBounds_38 M (fun r t1 => post (some (.inl r)) t1) px s0 t | _, _ => False) | _ => False)) ?_ 400 37 _ _ _ _ _ h
    intro pc q vs ws t hc hk
    split at hk
    · cases hc
      split at hk
      · exact W38 _ _ hk
      · exact hk.elim
    · exact hk.elim
  refine wp_go hR9 (cs := S_X2_isInItsBounds) (Bk := (fun pc vs ws t => match pc with | 37 => (match vs, ws with | [], [] => B_X2_isInItsBounds_37 M (fun r t1 => post (some (.inl r)) t1) px t | _, _ => False) | 38 => (match vs, ws with | [], [.inl s0] => B_X2_isInItsBounds_38 M (fun r t1 => post (some (.inl r)) t1) px s0 t | _, _ => False) | _ => False)) ?_ 400 0 _ _ _ _ _ h
  intro pc q vs ws t hc hk
  split at hk
  · cases hc
    split at hk
    · exact W37 _ hk
    · exact hk.elim
  · cases hc
    split at hk
    · exact W38 _ _ hk
    · exact hk.elim
  · exact hk.elim
theorem k_X2_isInItsBounds (hx : p.tables.exec = Jvm.exec) (hb : c.code = b) (hml : c.maxLocals = nL) (hts : ∀ w ∈ LT, w.before args s = true) {own : String} (hown : s.vm.findClass own = some m.cls) (hK : va_K D vwCl (TYX X) s) (hA : ∀ q, s.heap.size ≤ q → A q) (hE : EX A s) (hst9 : l.stackTraces = false) {ix : Nat} (hl9 : Cond.methodLink own ix yX2_isInItsBounds ∈ LT) (hR : 1 ≤ R.frames ∧ 20 ≤ R.locals) (hmc : R.cells = mc) (hms : R.slots = ms) (h : PC_X2_isInItsBounds M as t k kx) : CallOK p l e R s m args below meth c Q D X ad A M nL b mc ms (.invokevirtual ix) 0 0 as t k kx := by
  unfold PC_X2_isInItsBounds at h
  split at h
  · exact call_V hx hb hml hts hown hK hA hE (c_X2_isInItsBounds hst9 _ t h.2) ⟨hl9, ws_X2_isInItsBounds.1, ws_X2_isInItsBounds.2.1, ws_X2_isInItsBounds.2.2.1, ws_X2_isInItsBounds.2.2.2⟩ (n := 0) (by decide +kernel) hR rfl rfl hmc hms rfl ⟨8, _, rfl, h.1, Or.inr (Or.inr (Or.inr (Or.inr rfl))), rfl⟩
  · exact CallOK.congr (by simp only [List.map_cons]; congr 1; exact (if_neg h.1).symm) (call_V hx hb hml hts hown hK hA hE (c_X2_isInItsBounds hst9 _ t h.2.2) ⟨hl9, ws_X2_isInItsBounds.1, ws_X2_isInItsBounds.2.1, ws_X2_isInItsBounds.2.2.1, ws_X2_isInItsBounds.2.2.2⟩ (n := 0) (by decide +kernel) hR rfl rfl hmc hms rfl ⟨8, _, rfl, h.2.1, Or.inr (Or.inr (Or.inr (Or.inr rfl))), rfl⟩)
  · exact h.elim
def Q_X2_hasOpenDoors (M : Nat → Nat → Bool) (ix : Nat) (as : List VV) (t : TT) (k : Option VV → TT → Prop) (kx : String → TT → Prop) : Prop := False
def N_X2_hasOpenDoors (v : Bool) (ix : Nat) : Option (Nat × Nat × Nat) := none
def S_X2_hasOpenDoors (pc : Nat) : Option (List (Nat × Nat × Nat) × List (Nat × Nat) × Nat × Nat) := match pc with
  | 13 => some ([], [(0, 0)], 0, 0)
  | _ => none
def H_X2_hasOpenDoors (pc : Nat) : Option String := none
set_option maxRecDepth 100000 in
set_option maxHeartbeats 4000000 in
theorem c_X2_hasOpenDoors {l : Launch} (hst9 : l.stackTraces = false) {D : va_G} {X : Nat → ClassId} {ad : Nat → Nat → Nat} {M : Nat → Nat → Bool} {post : Option VV → TT → Prop} {px : String → TT → Prop} (o0 : Nat) (t : TT) (h : P_X2_hasOpenDoors M (fun r t1 => post (some (.inl r)) t1) px o0 t) : CT l yX2_hasOpenDoors (Cond.code yX2_hasOpenDoors cX2_hasOpenDoors 1 (some .boolean) :: LT) ({ frames := 0, cells := 0, slots := 0, locals := 0 } : Room) D X ad M [.inr (.inl (8, o0))] t 0 0 post px := by
  refine met_of_wp (by decide +kernel) (Nat.le_of_ble_eq_true rfl) ?_
  intro p e s m args below meth c A hx hb hml hts hown hK hnt hlocks hr hA hE
  have hR9 : Ready p l e ({ frames := 0, cells := 0, slots := 0, locals := 0 } : Room) s m args below meth c D X ad A M 1 cX2_hasOpenDoors 0 0 post px RX2 2 (fldOf F_X2) N_X2_hasOpenDoors (Q_X2_hasOpenDoors M) (tabOf T_X2_hasOpenDoors) H_X2_hasOpenDoors := by
    refine ⟨hx, hb, hts, hown, hK, hnt, hlocks, hr, F_X2_ok, ?_, fun pc en h => tabOf_ok T_X2_hasOpenDoors_ok h, ?_⟩
    · intro v9 ix n mc1 ms1 as t k hn hl h
      unfold N_X2_hasOpenDoors at hn
      cases hn
    · intro pc E hE9; cases hE9
  have W13 : ∀ (s0 : Int32) (t : TT), B_X2_hasOpenDoors_13 M (fun r t1 => post (some (.inl r)) t1) px s0 t → Wat p l e ({ frames := 0, cells := 0, slots := 0, locals := 0 } : Room) s m args below meth c (QM below args s D X ad A M 0 0 post px) D X ad A M 1 13 [] [.inl s0] t 0 0 := by
    intro s0 t h
    refine wp_go hR9 (cs := S_X2_hasOpenDoors) (Bk := (fun _ _ _ _ => False)) ?_ 400 13 _ _ _ _ _ h
    intro pc q vs ws t hc hk
    exact hk.elim
  refine wp_go hR9 (cs := S_X2_hasOpenDoors) (Bk := (fun pc vs ws t => match pc with | 13 => (match vs, ws with | [], [.inl s0] => B_X2_hasOpenDoors_13 M (fun r t1 => post (some (.inl r)) t1) px s0 t | _, _ => False) | _ => False)) ?_ 400 0 _ _ _ _ _ h
  intro pc q vs ws t hc hk
  split at hk
  · cases hc
    split at hk
    · exact W13 _ _ hk
    · exact hk.elim
  · exact hk.elim
theorem k_X2_hasOpenDoors (hx : p.tables.exec = Jvm.exec) (hb : c.code = b) (hml : c.maxLocals = nL) (hts : ∀ w ∈ LT, w.before args s = true) {own : String} (hown : s.vm.findClass own = some m.cls) (hK : va_K D vwCl (TYX X) s) (hA : ∀ q, s.heap.size ≤ q → A q) (hE : EX A s) (hst9 : l.stackTraces = false) {ix : Nat} (hl9 : Cond.methodLink own ix yX2_hasOpenDoors ∈ LT) (hR : 1 ≤ R.frames ∧ 20 ≤ R.locals) (hmc : R.cells = mc) (hms : R.slots = ms) (h : PC_X2_hasOpenDoors M as t k kx) : CallOK p l e R s m args below meth c Q D X ad A M nL b mc ms (.invokevirtual ix) 0 0 as t k kx := by
  unfold PC_X2_hasOpenDoors at h
  split at h
  · exact call_V hx hb hml hts hown hK hA hE (c_X2_hasOpenDoors hst9 _ t h.2) ⟨hl9, ws_X2_hasOpenDoors.1, ws_X2_hasOpenDoors.2.1, ws_X2_hasOpenDoors.2.2.1, ws_X2_hasOpenDoors.2.2.2⟩ (n := 0) (by decide +kernel) hR rfl rfl hmc hms rfl ⟨8, _, rfl, h.1, Or.inr (Or.inr (Or.inr (Or.inr rfl))), rfl⟩
  · exact CallOK.congr (by simp only [List.map_cons]; congr 1; exact (if_neg h.1).symm) (call_V hx hb hml hts hown hK hA hE (c_X2_hasOpenDoors hst9 _ t h.2.2) ⟨hl9, ws_X2_hasOpenDoors.1, ws_X2_hasOpenDoors.2.1, ws_X2_hasOpenDoors.2.2.1, ws_X2_hasOpenDoors.2.2.2⟩ (n := 0) (by decide +kernel) hR rfl rfl hmc hms rfl ⟨8, _, rfl, h.2.1, Or.inr (Or.inr (Or.inr (Or.inr rfl))), rfl⟩)
  · exact h.elim
def Q_X2_isAtStop (M : Nat → Nat → Bool) (ix : Nat) (as : List VV) (t : TT) (k : Option VV → TT → Prop) (kx : String → TT → Prop) : Prop := False
def N_X2_isAtStop (v : Bool) (ix : Nat) : Option (Nat × Nat × Nat) := none
def S_X2_isAtStop (pc : Nat) : Option (List (Nat × Nat × Nat) × List (Nat × Nat) × Nat × Nat) := match pc with
  | 51 => some ([], [(0, 0)], 0, 0)
  | 50 => some ([], [], 0, 0)
  | _ => none
def H_X2_isAtStop (pc : Nat) : Option String := none
set_option maxRecDepth 100000 in
set_option maxHeartbeats 4000000 in
theorem c_X2_isAtStop {l : Launch} (hst9 : l.stackTraces = false) {D : va_G} {X : Nat → ClassId} {ad : Nat → Nat → Nat} {M : Nat → Nat → Bool} {post : Option VV → TT → Prop} {px : String → TT → Prop} (o0 : Nat) (t : TT) (h : P_X2_isAtStop M (fun r t1 => post (some (.inl r)) t1) px o0 t) : CT l yX2_isAtStop (Cond.code yX2_isAtStop cX2_isAtStop 1 (some .boolean) :: LT) ({ frames := 0, cells := 0, slots := 0, locals := 0 } : Room) D X ad M [.inr (.inl (8, o0))] t 0 0 post px := by
  refine met_of_wp (by decide +kernel) (Nat.le_of_ble_eq_true rfl) ?_
  intro p e s m args below meth c A hx hb hml hts hown hK hnt hlocks hr hA hE
  have hR9 : Ready p l e ({ frames := 0, cells := 0, slots := 0, locals := 0 } : Room) s m args below meth c D X ad A M 1 cX2_isAtStop 0 0 post px RX2 2 (fldOf F_X2) N_X2_isAtStop (Q_X2_isAtStop M) (tabOf T_X2_isAtStop) H_X2_isAtStop := by
    refine ⟨hx, hb, hts, hown, hK, hnt, hlocks, hr, F_X2_ok, ?_, fun pc en h => tabOf_ok T_X2_isAtStop_ok h, ?_⟩
    · intro v9 ix n mc1 ms1 as t k hn hl h
      unfold N_X2_isAtStop at hn
      cases hn
    · intro pc E hE9; cases hE9
  have W51 : ∀ (s0 : Int32) (t : TT), B_X2_isAtStop_51 M (fun r t1 => post (some (.inl r)) t1) px s0 t → Wat p l e ({ frames := 0, cells := 0, slots := 0, locals := 0 } : Room) s m args below meth c (QM below args s D X ad A M 0 0 post px) D X ad A M 1 51 [] [.inl s0] t 0 0 := by
    intro s0 t h
    refine wp_go hR9 (cs := S_X2_isAtStop) (Bk := (fun _ _ _ _ => False)) ?_ 400 51 _ _ _ _ _ h
    intro pc q vs ws t hc hk
    exact hk.elim
  have W50 : ∀ (t : TT), B_X2_isAtStop_50 M (fun r t1 => post (some (.inl r)) t1) px t → Wat p l e ({ frames := 0, cells := 0, slots := 0, locals := 0 } : Room) s m args below meth c (QM below args s D X ad A M 0 0 post px) D X ad A M 1 50 [] [] t 0 0 := by
    intro t h
    refine wp_go hR9 (cs := S_X2_isAtStop) (Bk := (fun pc vs ws t => match pc with | 51 => (match vs, ws with | [], [.inl s0] => B_X2_isAtStop_51 M (fun r t1 => post (some (.inl r)) t1) px s0 t | _, _ => False) | _ => False)) ?_ 400 50 _ _ _ _ _ h
    intro pc q vs ws t hc hk
    split at hk
    · cases hc
      split at hk
      · exact W51 _ _ hk
      · exact hk.elim
    · exact hk.elim
  refine wp_go hR9 (cs := S_X2_isAtStop) (Bk := (fun pc vs ws t => match pc with | 50 => (match vs, ws with | [], [] => B_X2_isAtStop_50 M (fun r t1 => post (some (.inl r)) t1) px t | _, _ => False) | 51 => (match vs, ws with | [], [.inl s0] => B_X2_isAtStop_51 M (fun r t1 => post (some (.inl r)) t1) px s0 t | _, _ => False) | _ => False)) ?_ 400 0 _ _ _ _ _ h
  intro pc q vs ws t hc hk
  split at hk
  · cases hc
    split at hk
    · exact W50 _ hk
    · exact hk.elim
  · cases hc
    split at hk
    · exact W51 _ _ hk
    · exact hk.elim
  · exact hk.elim
theorem k_X2_isAtStop (hx : p.tables.exec = Jvm.exec) (hb : c.code = b) (hml : c.maxLocals = nL) (hts : ∀ w ∈ LT, w.before args s = true) {own : String} (hown : s.vm.findClass own = some m.cls) (hK : va_K D vwCl (TYX X) s) (hA : ∀ q, s.heap.size ≤ q → A q) (hE : EX A s) (hst9 : l.stackTraces = false) {ix : Nat} (hl9 : Cond.methodLink own ix yX2_isAtStop ∈ LT) (hR : 1 ≤ R.frames ∧ 20 ≤ R.locals) (hmc : R.cells = mc) (hms : R.slots = ms) (h : PC_X2_isAtStop M as t k kx) : CallOK p l e R s m args below meth c Q D X ad A M nL b mc ms (.invokevirtual ix) 0 0 as t k kx := by
  unfold PC_X2_isAtStop at h
  split at h
  · exact call_V hx hb hml hts hown hK hA hE (c_X2_isAtStop hst9 _ t h.2) ⟨hl9, ws_X2_isAtStop.1, ws_X2_isAtStop.2.1, ws_X2_isAtStop.2.2.1, ws_X2_isAtStop.2.2.2⟩ (n := 0) (by decide +kernel) hR rfl rfl hmc hms rfl ⟨8, _, rfl, h.1, Or.inr (Or.inr (Or.inr (Or.inr rfl))), rfl⟩
  · exact CallOK.congr (by simp only [List.map_cons]; congr 1; exact (if_neg h.1).symm) (call_V hx hb hml hts hown hK hA hE (c_X2_isAtStop hst9 _ t h.2.2) ⟨hl9, ws_X2_isAtStop.1, ws_X2_isAtStop.2.1, ws_X2_isAtStop.2.2.1, ws_X2_isAtStop.2.2.2⟩ (n := 0) (by decide +kernel) hR rfl rfl hmc hms rfl ⟨8, _, rfl, h.2.1, Or.inr (Or.inr (Or.inr (Or.inr rfl))), rfl⟩)
  · exact h.elim
def Q_X2_canDepart (M : Nat → Nat → Bool) (ix : Nat) (as : List VV) (t : TT) (k : Option VV → TT → Prop) (kx : String → TT → Prop) : Prop := match ix with
  | 75 => PC_X2_isAtStop M as t k kx
  | 79 => PC_X2_hasOpenDoors M as t k kx
  | _ => False
def N_X2_canDepart (v : Bool) (ix : Nat) : Option (Nat × Nat × Nat) := match v, ix with
  | true, 75 => some (1, 0, 0)
  | true, 79 => some (1, 0, 0)
  | _, _ => none
def S_X2_canDepart (pc : Nat) : Option (List (Nat × Nat × Nat) × List (Nat × Nat) × Nat × Nat) := match pc with
  | 26 => some ([], [(0, 0)], 0, 0)
  | 25 => some ([], [], 0, 0)
  | _ => none
def H_X2_canDepart (pc : Nat) : Option String := none
set_option maxRecDepth 100000 in
set_option maxHeartbeats 4000000 in
theorem c_X2_canDepart {l : Launch} (hst9 : l.stackTraces = false) {D : va_G} {X : Nat → ClassId} {ad : Nat → Nat → Nat} {M : Nat → Nat → Bool} {post : Option VV → TT → Prop} {px : String → TT → Prop} (o0 : Nat) (t : TT) (h : P_X2_canDepart M (fun r t1 => post (some (.inl r)) t1) px o0 t) : CT l yX2_canDepart (Cond.code yX2_canDepart cX2_canDepart 1 (some .boolean) :: LT) ({ frames := 1, cells := 0, slots := 0, locals := 20 } : Room) D X ad M [.inr (.inl (8, o0))] t 0 0 post px := by
  refine met_of_wp (by decide +kernel) (Nat.le_of_ble_eq_true rfl) ?_
  intro p e s m args below meth c A hx hb hml hts hown hK hnt hlocks hr hA hE
  have hR9 : Ready p l e ({ frames := 1, cells := 0, slots := 0, locals := 20 } : Room) s m args below meth c D X ad A M 1 cX2_canDepart 0 0 post px RX2 2 (fldOf F_X2) N_X2_canDepart (Q_X2_canDepart M) (tabOf T_X2_canDepart) H_X2_canDepart := by
    refine ⟨hx, hb, hts, hown, hK, hnt, hlocks, hr, F_X2_ok, ?_, fun pc en h => tabOf_ok T_X2_canDepart_ok h, ?_⟩
    · intro v9 ix n mc1 ms1 as t k hn hl h
      unfold N_X2_canDepart at hn
      split at hn
      · cases hn
        exact k_X2_isAtStop hx hb hml hts hown hK hA hE hst9 (by decide +kernel) ⟨Nat.le_of_ble_eq_true rfl, Nat.le_of_ble_eq_true rfl⟩ rfl rfl h
      · cases hn
        exact k_X2_hasOpenDoors hx hb hml hts hown hK hA hE hst9 (by decide +kernel) ⟨Nat.le_of_ble_eq_true rfl, Nat.le_of_ble_eq_true rfl⟩ rfl rfl h
      · cases hn
    · intro pc E hE9; cases hE9
  have W26 : ∀ (s0 : Int32) (t : TT), B_X2_canDepart_26 M (fun r t1 => post (some (.inl r)) t1) px s0 t → Wat p l e ({ frames := 1, cells := 0, slots := 0, locals := 20 } : Room) s m args below meth c (QM below args s D X ad A M 0 0 post px) D X ad A M 1 26 [] [.inl s0] t 0 0 := by
    intro s0 t h
    refine wp_go hR9 (cs := S_X2_canDepart) (Bk := (fun _ _ _ _ => False)) ?_ 400 26 _ _ _ _ _ h
    intro pc q vs ws t hc hk
    exact hk.elim
  have W25 : ∀ (t : TT), B_X2_canDepart_25 M (fun r t1 => post (some (.inl r)) t1) px t → Wat p l e ({ frames := 1, cells := 0, slots := 0, locals := 20 } : Room) s m args below meth c (QM below args s D X ad A M 0 0 post px) D X ad A M 1 25 [] [] t 0 0 := by
    intro t h
    refine wp_go hR9 (cs := S_X2_canDepart) (Bk := (fun pc vs ws t => match pc with | 26 => (match vs, ws with | [], [.inl s0] => B_X2_canDepart_26 M (fun r t1 => post (some (.inl r)) t1) px s0 t | _, _ => False) | _ => False)) ?_ 400 25 _ _ _ _ _ h
    intro pc q vs ws t hc hk
    split at hk
    · cases hc
      split at hk
      · exact W26 _ _ hk
      · exact hk.elim
    · exact hk.elim
  refine wp_go hR9 (cs := S_X2_canDepart) (Bk := (fun pc vs ws t => match pc with | 25 => (match vs, ws with | [], [] => B_X2_canDepart_25 M (fun r t1 => post (some (.inl r)) t1) px t | _, _ => False) | 26 => (match vs, ws with | [], [.inl s0] => B_X2_canDepart_26 M (fun r t1 => post (some (.inl r)) t1) px s0 t | _, _ => False) | _ => False)) ?_ 400 0 _ _ _ _ _ h
  intro pc q vs ws t hc hk
  split at hk
  · cases hc
    split at hk
    · exact W25 _ hk
    · exact hk.elim
  · cases hc
    split at hk
    · exact W26 _ _ hk
    · exact hk.elim
  · exact hk.elim
theorem k_X2_canDepart (hx : p.tables.exec = Jvm.exec) (hb : c.code = b) (hml : c.maxLocals = nL) (hts : ∀ w ∈ LT, w.before args s = true) {own : String} (hown : s.vm.findClass own = some m.cls) (hK : va_K D vwCl (TYX X) s) (hA : ∀ q, s.heap.size ≤ q → A q) (hE : EX A s) (hst9 : l.stackTraces = false) {ix : Nat} (hl9 : Cond.methodLink own ix yX2_canDepart ∈ LT) (hR : 2 ≤ R.frames ∧ 40 ≤ R.locals) (hmc : R.cells = mc) (hms : R.slots = ms) (h : PC_X2_canDepart M as t k kx) : CallOK p l e R s m args below meth c Q D X ad A M nL b mc ms (.invokevirtual ix) 0 0 as t k kx := by
  unfold PC_X2_canDepart at h
  split at h
  · exact call_V hx hb hml hts hown hK hA hE (c_X2_canDepart hst9 _ t h.2) ⟨hl9, ws_X2_canDepart.1, ws_X2_canDepart.2.1, ws_X2_canDepart.2.2.1, ws_X2_canDepart.2.2.2⟩ (n := 0) (by decide +kernel) hR rfl rfl hmc hms rfl ⟨8, _, rfl, h.1, Or.inr (Or.inr (Or.inr (Or.inr rfl))), rfl⟩
  · exact CallOK.congr (by simp only [List.map_cons]; congr 1; exact (if_neg h.1).symm) (call_V hx hb hml hts hown hK hA hE (c_X2_canDepart hst9 _ t h.2.2) ⟨hl9, ws_X2_canDepart.1, ws_X2_canDepart.2.1, ws_X2_canDepart.2.2.1, ws_X2_canDepart.2.2.2⟩ (n := 0) (by decide +kernel) hR rfl rfl hmc hms rfl ⟨8, _, rfl, h.2.1, Or.inr (Or.inr (Or.inr (Or.inr rfl))), rfl⟩)
  · exact h.elim
def Q_X2_greatestSpeed (M : Nat → Nat → Bool) (ix : Nat) (as : List VV) (t : TT) (k : Option VV → TT → Prop) (kx : String → TT → Prop) : Prop := match ix with
  | 68 => PC_X2_wayToStop M as t k kx
  | 82 => PC_mmax as t k
  | 91 => PC_mmin as t k
  | _ => False
def N_X2_greatestSpeed (v : Bool) (ix : Nat) : Option (Nat × Nat × Nat) := match v, ix with
  | false, 68 => some (1, 0, 0)
  | false, 82 => some (2, 0, 0)
  | false, 91 => some (2, 0, 0)
  | _, _ => none
def S_X2_greatestSpeed (pc : Nat) : Option (List (Nat × Nat × Nat) × List (Nat × Nat) × Nat × Nat) := match pc with
  | 74 => some ([(3, 0, 0)], [], 0, 0)
  | 51 => some ([(0, 1, 8), (2, 0, 0), (3, 0, 0)], [], 0, 0)
  | 30 => some ([(0, 1, 8), (1, 0, 0)], [(0, 0)], 0, 0)
  | _ => none
def H_X2_greatestSpeed (pc : Nat) : Option String := none
set_option maxRecDepth 100000 in
set_option maxHeartbeats 4000000 in
theorem c_X2_greatestSpeed {l : Launch} (hst9 : l.stackTraces = false) {D : va_G} {X : Nat → ClassId} {ad : Nat → Nat → Nat} {M : Nat → Nat → Bool} {post : Option VV → TT → Prop} {px : String → TT → Prop} (o0 : Nat) (a1 : Int32) (t : TT) (h : P_X2_greatestSpeed M (fun r t1 => post (some (.inl r)) t1) px o0 a1 t) : CT l yX2_greatestSpeed (Cond.code yX2_greatestSpeed cX2_greatestSpeed 4 (some .int) :: LT) ({ frames := 1, cells := 0, slots := 0, locals := 21 } : Room) D X ad M [.inr (.inl (8, o0)), .inl a1] t 0 0 post px := by
  refine met_of_wp (by decide +kernel) (Nat.le_of_ble_eq_true rfl) ?_
  intro p e s m args below meth c A hx hb hml hts hown hK hnt hlocks hr hA hE
  have hR9 : Ready p l e ({ frames := 1, cells := 0, slots := 0, locals := 21 } : Room) s m args below meth c D X ad A M 4 cX2_greatestSpeed 0 0 post px RX2 1 (fldOf F_X2) N_X2_greatestSpeed (Q_X2_greatestSpeed M) (tabOf T_X2_greatestSpeed) H_X2_greatestSpeed := by
    refine ⟨hx, hb, hts, hown, hK, hnt, hlocks, hr, F_X2_ok, ?_, fun pc en h => tabOf_ok T_X2_greatestSpeed_ok h, ?_⟩
    · intro v9 ix n mc1 ms1 as t k hn hl h
      unfold N_X2_greatestSpeed at hn
      split at hn
      · cases hn
        exact k_X2_wayToStop hx hb hml hts hown hK hA hE hst9 (by decide +kernel) ⟨Nat.le_of_ble_eq_true rfl, Nat.le_of_ble_eq_true rfl⟩ rfl rfl h
      · cases hn
        exact k_mmax hx hb hml hts hown (by decide +kernel) ⟨Nat.le_of_ble_eq_true rfl, Nat.le_of_ble_eq_true rfl⟩ rfl rfl h
      · cases hn
        exact k_mmin hx hb hml hts hown (by decide +kernel) ⟨Nat.le_of_ble_eq_true rfl, Nat.le_of_ble_eq_true rfl⟩ rfl rfl h
      · cases hn
    · intro pc E hE9; cases hE9
  have W74 : ∀ (a3 : Int32) (t : TT), B_X2_greatestSpeed_74 M (fun r t1 => post (some (.inl r)) t1) px a3 t → Wat p l e ({ frames := 1, cells := 0, slots := 0, locals := 21 } : Room) s m args below meth c (QM below args s D X ad A M 0 0 post px) D X ad A M 4 74 [(3, .inl a3)] [] t 0 0 := by
    intro a3 t h
    refine wp_go hR9 (cs := S_X2_greatestSpeed) (Bk := (fun _ _ _ _ => False)) ?_ 400 74 _ _ _ _ _ h
    intro pc q vs ws t hc hk
    exact hk.elim
  have W51 : ∀ (n : Nat) (o0 : Nat) (a2 : Int32) (a3 : Int32) (t : TT), L_X2_greatestSpeed_51 M (fun r t1 => post (some (.inl r)) t1) px n o0 a2 a3 t → Wat p l e ({ frames := 1, cells := 0, slots := 0, locals := 21 } : Room) s m args below meth c (QM below args s D X ad A M 0 0 post px) D X ad A M 4 51 [(0, .inr (.inl (8, o0))), (2, .inl a2), (3, .inl a3)] [] t 0 0 := by
    intro n
    induction n with
    | zero =>
      intro o0 a2 a3 t h
      exact h.elim
    | succ n ih =>
      intro o0 a2 a3 t h
      refine wp_go hR9 (cs := S_X2_greatestSpeed) (Bk := (fun pc vs ws t => match pc with | 51 => (match vs, ws with | [.inr (.inl (8, o0)), .inl a2, .inl a3], [] => L_X2_greatestSpeed_51 M (fun r t1 => post (some (.inl r)) t1) px n o0 a2 a3 t | _, _ => False) | 74 => (match vs, ws with | [.inl a3], [] => B_X2_greatestSpeed_74 M (fun r t1 => post (some (.inl r)) t1) px a3 t | _, _ => False) | _ => False)) ?_ 400 51 _ _ _ _ _ h
      intro pc q vs ws t hc hk
      split at hk
      · cases hc
        split at hk
        · exact ih _ _ _ _ hk
        · exact hk.elim
      · cases hc
        split at hk
        · exact W74 _ _ hk
        · exact hk.elim
      · exact hk.elim
  have W30 : ∀ (o0 : Nat) (a1 : Int32) (s0 : Int32) (t : TT), B_X2_greatestSpeed_30 M (fun r t1 => post (some (.inl r)) t1) px o0 a1 s0 t → Wat p l e ({ frames := 1, cells := 0, slots := 0, locals := 21 } : Room) s m args below meth c (QM below args s D X ad A M 0 0 post px) D X ad A M 4 30 [(0, .inr (.inl (8, o0))), (1, .inl a1)] [.inl s0] t 0 0 := by
    intro o0 a1 s0 t h
    refine wp_go hR9 (cs := S_X2_greatestSpeed) (Bk := (fun pc vs ws t => match pc with | 51 => (match vs, ws with | [.inr (.inl (8, o0)), .inl a2, .inl a3], [] => ∃ n9, L_X2_greatestSpeed_51 M (fun r t1 => post (some (.inl r)) t1) px n9 o0 a2 a3 t | _, _ => False) | _ => False)) ?_ 400 30 _ _ _ _ _ h
    intro pc q vs ws t hc hk
    split at hk
    · cases hc
      split at hk
      · obtain ⟨n9, hk⟩ := hk
        exact W51 n9 _ _ _ _ hk
      · exact hk.elim
    · exact hk.elim
  refine wp_go hR9 (cs := S_X2_greatestSpeed) (Bk := (fun pc vs ws t => match pc with | 30 => (match vs, ws with | [.inr (.inl (8, o0)), .inl a1], [.inl s0] => B_X2_greatestSpeed_30 M (fun r t1 => post (some (.inl r)) t1) px o0 a1 s0 t | _, _ => False) | _ => False)) ?_ 400 0 _ _ _ _ _ h
  intro pc q vs ws t hc hk
  split at hk
  · cases hc
    split at hk
    · exact W30 _ _ _ _ hk
    · exact hk.elim
  · exact hk.elim
theorem k_X2_greatestSpeed (hx : p.tables.exec = Jvm.exec) (hb : c.code = b) (hml : c.maxLocals = nL) (hts : ∀ w ∈ LT, w.before args s = true) {own : String} (hown : s.vm.findClass own = some m.cls) (hK : va_K D vwCl (TYX X) s) (hA : ∀ q, s.heap.size ≤ q → A q) (hE : EX A s) (hst9 : l.stackTraces = false) {ix : Nat} (hl9 : Cond.methodLink own ix yX2_greatestSpeed ∈ LT) (hR : 2 ≤ R.frames ∧ 44 ≤ R.locals) (hmc : R.cells = mc) (hms : R.slots = ms) (h : PC_X2_greatestSpeed M as t k kx) : CallOK p l e R s m args below meth c Q D X ad A M nL b mc ms (.invokevirtual ix) 0 0 as t k kx := by
  unfold PC_X2_greatestSpeed at h
  split at h
  · exact call_V hx hb hml hts hown hK hA hE (c_X2_greatestSpeed hst9 _ _ t h.2) ⟨hl9, ws_X2_greatestSpeed.1, ws_X2_greatestSpeed.2.1, ws_X2_greatestSpeed.2.2.1, ws_X2_greatestSpeed.2.2.2⟩ (n := 1) (by decide +kernel) hR rfl rfl hmc hms rfl ⟨8, _, rfl, h.1, Or.inr (Or.inr (Or.inr (Or.inr rfl))), rfl⟩
  · exact CallOK.congr (by simp only [List.map_cons]; congr 1; exact (if_neg h.1).symm) (call_V hx hb hml hts hown hK hA hE (c_X2_greatestSpeed hst9 _ _ t h.2.2) ⟨hl9, ws_X2_greatestSpeed.1, ws_X2_greatestSpeed.2.1, ws_X2_greatestSpeed.2.2.1, ws_X2_greatestSpeed.2.2.2⟩ (n := 1) (by decide +kernel) hR rfl rfl hmc hms rfl ⟨8, _, rfl, h.2.1, Or.inr (Or.inr (Or.inr (Or.inr rfl))), rfl⟩)
  · exact h.elim
def Q_X2_findSpeed (M : Nat → Nat → Bool) (ix : Nat) (as : List VV) (t : TT) (k : Option VV → TT → Prop) (kx : String → TT → Prop) : Prop := match ix with
  | 82 => PC_mmax as t k
  | 79 => PC_X2_hasOpenDoors M as t k kx
  | 88 => PC_X2_greatestSpeed M as t k kx
  | _ => False
def N_X2_findSpeed (v : Bool) (ix : Nat) : Option (Nat × Nat × Nat) := match v, ix with
  | false, 82 => some (2, 0, 0)
  | true, 79 => some (1, 0, 0)
  | true, 88 => some (2, 0, 0)
  | _, _ => none
def S_X2_findSpeed (pc : Nat) : Option (List (Nat × Nat × Nat) × List (Nat × Nat) × Nat × Nat) := match pc with
  | 71 => some ([], [], 0, 0)
  | 54 => some ([(0, 1, 8)], [], 0, 0)
  | 34 => some ([], [(0, 0), (1, 8)], 0, 0)
  | _ => none
def H_X2_findSpeed (pc : Nat) : Option String := none
set_option maxRecDepth 100000 in
set_option maxHeartbeats 4000000 in
theorem c_X2_findSpeed {l : Launch} (hst9 : l.stackTraces = false) {D : va_G} {X : Nat → ClassId} {ad : Nat → Nat → Nat} {M : Nat → Nat → Bool} {post : Option VV → TT → Prop} {px : String → TT → Prop} (o0 : Nat) (a1 : Int32) (t : TT) (h : P_X2_findSpeed M (fun t1 => post none t1) px o0 a1 t) : CT l yX2_findSpeed (Cond.code yX2_findSpeed cX2_findSpeed 2 none :: LT) ({ frames := 2, cells := 0, slots := 0, locals := 44 } : Room) D X ad M [.inr (.inl (8, o0)), .inl a1] t 0 0 post px := by
  refine met_of_wp (by decide +kernel) (Nat.le_of_ble_eq_true rfl) ?_
  intro p e s m args below meth c A hx hb hml hts hown hK hnt hlocks hr hA hE
  have hR9 : Ready p l e ({ frames := 2, cells := 0, slots := 0, locals := 44 } : Room) s m args below meth c D X ad A M 2 cX2_findSpeed 0 0 post px RX2 0 (fldOf F_X2) N_X2_findSpeed (Q_X2_findSpeed M) (tabOf T_X2_findSpeed) H_X2_findSpeed := by
    refine ⟨hx, hb, hts, hown, hK, hnt, hlocks, hr, F_X2_ok, ?_, fun pc en h => tabOf_ok T_X2_findSpeed_ok h, ?_⟩
    · intro v9 ix n mc1 ms1 as t k hn hl h
      unfold N_X2_findSpeed at hn
      split at hn
      · cases hn
        exact k_mmax hx hb hml hts hown (by decide +kernel) ⟨Nat.le_of_ble_eq_true rfl, Nat.le_of_ble_eq_true rfl⟩ rfl rfl h
      · cases hn
        exact k_X2_hasOpenDoors hx hb hml hts hown hK hA hE hst9 (by decide +kernel) ⟨Nat.le_of_ble_eq_true rfl, Nat.le_of_ble_eq_true rfl⟩ rfl rfl h
      · cases hn
        exact k_X2_greatestSpeed hx hb hml hts hown hK hA hE hst9 (by decide +kernel) ⟨Nat.le_of_ble_eq_true rfl, Nat.le_of_ble_eq_true rfl⟩ rfl rfl h
      · cases hn
    · intro pc E hE9; cases hE9
  have W71 : ∀ (t : TT), B_X2_findSpeed_71 M (fun t1 => post none t1) px t → Wat p l e ({ frames := 2, cells := 0, slots := 0, locals := 44 } : Room) s m args below meth c (QM below args s D X ad A M 0 0 post px) D X ad A M 2 71 [] [] t 0 0 := by
    intro t h
    refine wp_go hR9 (cs := S_X2_findSpeed) (Bk := (fun _ _ _ _ => False)) ?_ 400 71 _ _ _ _ _ h
    intro pc q vs ws t hc hk
    exact hk.elim
  have W54 : ∀ (o0 : Nat) (t : TT), B_X2_findSpeed_54 M (fun t1 => post none t1) px o0 t → Wat p l e ({ frames := 2, cells := 0, slots := 0, locals := 44 } : Room) s m args below meth c (QM below args s D X ad A M 0 0 post px) D X ad A M 2 54 [(0, .inr (.inl (8, o0)))] [] t 0 0 := by
    intro o0 t h
    refine wp_go hR9 (cs := S_X2_findSpeed) (Bk := (fun pc vs ws t => match pc with | 71 => (match vs, ws with | [], [] => B_X2_findSpeed_71 M (fun t1 => post none t1) px t | _, _ => False) | _ => False)) ?_ 400 54 _ _ _ _ _ h
    intro pc q vs ws t hc hk
    split at hk
    · cases hc
      split at hk
      · exact W71 _ hk
      · exact hk.elim
    · exact hk.elim
  have W34 : ∀ (s0 : Int32) (u1 : Nat) (t : TT), B_X2_findSpeed_34 M (fun t1 => post none t1) px s0 u1 t → Wat p l e ({ frames := 2, cells := 0, slots := 0, locals := 44 } : Room) s m args below meth c (QM below args s D X ad A M 0 0 post px) D X ad A M 2 34 [] [.inl s0, .inr (.inl (8, u1))] t 0 0 := by
    intro s0 u1 t h
    refine wp_go hR9 (cs := S_X2_findSpeed) (Bk := (fun pc vs ws t => match pc with | 71 => (match vs, ws with | [], [] => B_X2_findSpeed_71 M (fun t1 => post none t1) px t | _, _ => False) | _ => False)) ?_ 400 34 _ _ _ _ _ h
    intro pc q vs ws t hc hk
    split at hk
    · cases hc
      split at hk
      · exact W71 _ hk
      · exact hk.elim
    · exact hk.elim
  refine wp_go hR9 (cs := S_X2_findSpeed) (Bk := (fun pc vs ws t => match pc with | 34 => (match vs, ws with | [], [.inl s0, .inr (.inl (8, u1))] => B_X2_findSpeed_34 M (fun t1 => post none t1) px s0 u1 t | _, _ => False) | 54 => (match vs, ws with | [.inr (.inl (8, o0))], [] => B_X2_findSpeed_54 M (fun t1 => post none t1) px o0 t | _, _ => False) | 71 => (match vs, ws with | [], [] => B_X2_findSpeed_71 M (fun t1 => post none t1) px t | _, _ => False) | _ => False)) ?_ 400 0 _ _ _ _ _ h
  intro pc q vs ws t hc hk
  split at hk
  · cases hc
    split at hk
    · exact W34 _ _ _ hk
    · exact hk.elim
  · cases hc
    split at hk
    · exact W54 _ _ hk
    · exact hk.elim
  · cases hc
    split at hk
    · exact W71 _ hk
    · exact hk.elim
  · exact hk.elim
theorem k_X2_findSpeed (hx : p.tables.exec = Jvm.exec) (hb : c.code = b) (hml : c.maxLocals = nL) (hts : ∀ w ∈ LT, w.before args s = true) {own : String} (hown : s.vm.findClass own = some m.cls) (hK : va_K D vwCl (TYX X) s) (hA : ∀ q, s.heap.size ≤ q → A q) (hE : EX A s) (hst9 : l.stackTraces = false) {ix : Nat} (hl9 : Cond.methodLink own ix yX2_findSpeed ∈ LT) (hR : 3 ≤ R.frames ∧ 65 ≤ R.locals) (hmc : R.cells = mc) (hms : R.slots = ms) (h : PC_X2_findSpeed M as t k kx) : CallOK p l e R s m args below meth c Q D X ad A M nL b mc ms (.invokevirtual ix) 0 0 as t k kx := by
  unfold PC_X2_findSpeed at h
  split at h
  · exact call_V hx hb hml hts hown hK hA hE (c_X2_findSpeed hst9 _ _ t h.2) ⟨hl9, ws_X2_findSpeed.1, ws_X2_findSpeed.2.1, ws_X2_findSpeed.2.2.1, ws_X2_findSpeed.2.2.2⟩ (n := 1) (by decide +kernel) hR rfl rfl hmc hms rfl ⟨8, _, rfl, h.1, Or.inr (Or.inr (Or.inr (Or.inr rfl))), rfl⟩
  · exact CallOK.congr (by simp only [List.map_cons]; congr 1; exact (if_neg h.1).symm) (call_V hx hb hml hts hown hK hA hE (c_X2_findSpeed hst9 _ _ t h.2.2) ⟨hl9, ws_X2_findSpeed.1, ws_X2_findSpeed.2.1, ws_X2_findSpeed.2.2.1, ws_X2_findSpeed.2.2.2⟩ (n := 1) (by decide +kernel) hR rfl rfl hmc hms rfl ⟨8, _, rfl, h.2.1, Or.inr (Or.inr (Or.inr (Or.inr rfl))), rfl⟩)
  · exact h.elim
def Q_X2_go (M : Nat → Nat → Bool) (ix : Nat) (as : List VV) (t : TT) (k : Option VV → TT → Prop) (kx : String → TT → Prop) : Prop := False
def N_X2_go (v : Bool) (ix : Nat) : Option (Nat × Nat × Nat) := none
def S_X2_go (pc : Nat) : Option (List (Nat × Nat × Nat) × List (Nat × Nat) × Nat × Nat) := match pc with
  | 100 => some ([], [], 0, 0)
  | 59 => some ([(0, 1, 8), (1, 0, 0), (2, 0, 0)], [], 0, 0)
  | _ => none
def H_X2_go (pc : Nat) : Option String := none
set_option maxRecDepth 100000 in
set_option maxHeartbeats 4000000 in
theorem c_X2_go {l : Launch} (hst9 : l.stackTraces = false) {D : va_G} {X : Nat → ClassId} {ad : Nat → Nat → Nat} {M : Nat → Nat → Bool} {post : Option VV → TT → Prop} {px : String → TT → Prop} (o0 : Nat) (a1 : Int32) (t : TT) (h : P_X2_go M (fun t1 => post none t1) px o0 a1 t) : CT l yX2_go (Cond.code yX2_go cX2_go 3 none :: LT) ({ frames := 0, cells := 0, slots := 0, locals := 0 } : Room) D X ad M [.inr (.inl (8, o0)), .inl a1] t 0 0 post px := by
  refine met_of_wp (by decide +kernel) (Nat.le_of_ble_eq_true rfl) ?_
  intro p e s m args below meth c A hx hb hml hts hown hK hnt hlocks hr hA hE
  have hR9 : Ready p l e ({ frames := 0, cells := 0, slots := 0, locals := 0 } : Room) s m args below meth c D X ad A M 3 cX2_go 0 0 post px RX2 0 (fldOf F_X2) N_X2_go (Q_X2_go M) (tabOf T_X2_go) H_X2_go := by
    refine ⟨hx, hb, hts, hown, hK, hnt, hlocks, hr, F_X2_ok, ?_, fun pc en h => tabOf_ok T_X2_go_ok h, ?_⟩
    · intro v9 ix n mc1 ms1 as t k hn hl h
      unfold N_X2_go at hn
      cases hn
    · intro pc E hE9; cases hE9
  have W100 : ∀ (t : TT), B_X2_go_100 M (fun t1 => post none t1) px t → Wat p l e ({ frames := 0, cells := 0, slots := 0, locals := 0 } : Room) s m args below meth c (QM below args s D X ad A M 0 0 post px) D X ad A M 3 100 [] [] t 0 0 := by
    intro t h
    refine wp_go hR9 (cs := S_X2_go) (Bk := (fun _ _ _ _ => False)) ?_ 400 100 _ _ _ _ _ h
    intro pc q vs ws t hc hk
    exact hk.elim
  have W59 : ∀ (o0 : Nat) (a1 : Int32) (a2 : Int32) (t : TT), B_X2_go_59 M (fun t1 => post none t1) px o0 a1 a2 t → Wat p l e ({ frames := 0, cells := 0, slots := 0, locals := 0 } : Room) s m args below meth c (QM below args s D X ad A M 0 0 post px) D X ad A M 3 59 [(0, .inr (.inl (8, o0))), (1, .inl a1), (2, .inl a2)] [] t 0 0 := by
    intro o0 a1 a2 t h
    refine wp_go hR9 (cs := S_X2_go) (Bk := (fun pc vs ws t => match pc with | 100 => (match vs, ws with | [], [] => B_X2_go_100 M (fun t1 => post none t1) px t | _, _ => False) | _ => False)) ?_ 400 59 _ _ _ _ _ h
    intro pc q vs ws t hc hk
    split at hk
    · cases hc
      split at hk
      · exact W100 _ hk
      · exact hk.elim
    · exact hk.elim
  refine wp_go hR9 (cs := S_X2_go) (Bk := (fun pc vs ws t => match pc with | 59 => (match vs, ws with | [.inr (.inl (8, o0)), .inl a1, .inl a2], [] => B_X2_go_59 M (fun t1 => post none t1) px o0 a1 a2 t | _, _ => False) | _ => False)) ?_ 400 0 _ _ _ _ _ h
  intro pc q vs ws t hc hk
  split at hk
  · cases hc
    split at hk
    · exact W59 _ _ _ _ hk
    · exact hk.elim
  · exact hk.elim
theorem k_X2_go (hx : p.tables.exec = Jvm.exec) (hb : c.code = b) (hml : c.maxLocals = nL) (hts : ∀ w ∈ LT, w.before args s = true) {own : String} (hown : s.vm.findClass own = some m.cls) (hK : va_K D vwCl (TYX X) s) (hA : ∀ q, s.heap.size ≤ q → A q) (hE : EX A s) (hst9 : l.stackTraces = false) {ix : Nat} (hl9 : Cond.methodLink own ix yX2_go ∈ LT) (hR : 1 ≤ R.frames ∧ 22 ≤ R.locals) (hmc : R.cells = mc) (hms : R.slots = ms) (h : PC_X2_go M as t k kx) : CallOK p l e R s m args below meth c Q D X ad A M nL b mc ms (.invokevirtual ix) 0 0 as t k kx := by
  unfold PC_X2_go at h
  split at h
  · exact call_V hx hb hml hts hown hK hA hE (c_X2_go hst9 _ _ t h.2) ⟨hl9, ws_X2_go.1, ws_X2_go.2.1, ws_X2_go.2.2.1, ws_X2_go.2.2.2⟩ (n := 1) (by decide +kernel) hR rfl rfl hmc hms rfl ⟨8, _, rfl, h.1, Or.inr (Or.inr (Or.inr (Or.inr rfl))), rfl⟩
  · exact CallOK.congr (by simp only [List.map_cons]; congr 1; exact (if_neg h.1).symm) (call_V hx hb hml hts hown hK hA hE (c_X2_go hst9 _ _ t h.2.2) ⟨hl9, ws_X2_go.1, ws_X2_go.2.1, ws_X2_go.2.2.1, ws_X2_go.2.2.2⟩ (n := 1) (by decide +kernel) hR rfl rfl hmc hms rfl ⟨8, _, rfl, h.2.1, Or.inr (Or.inr (Or.inr (Or.inr rfl))), rfl⟩)
  · exact h.elim
def Q_X2_playAgain (M : Nat → Nat → Bool) (ix : Nat) (as : List VV) (t : TT) (k : Option VV → TT → Prop) (kx : String → TT → Prop) : Prop := False
def N_X2_playAgain (v : Bool) (ix : Nat) : Option (Nat × Nat × Nat) := none
def S_X2_playAgain (pc : Nat) : Option (List (Nat × Nat × Nat) × List (Nat × Nat) × Nat × Nat) := match pc with
  | 41 => some ([(2, 0, 0)], [], 0, 0)
  | 12 => some ([(0, 1, 8), (1, 0, 0), (2, 0, 0), (3, 0, 0)], [], 0, 0)
  | _ => none
def H_X2_playAgain (pc : Nat) : Option String := none
set_option maxRecDepth 100000 in
set_option maxHeartbeats 4000000 in
theorem c_X2_playAgain {l : Launch} (hst9 : l.stackTraces = false) {D : va_G} {X : Nat → ClassId} {ad : Nat → Nat → Nat} {M : Nat → Nat → Bool} {post : Option VV → TT → Prop} {px : String → TT → Prop} (o0 : Nat) (a1 : Int32) (t : TT) (h : P_X2_playAgain M (fun r t1 => post (some (.inl r)) t1) px o0 a1 t) : CT l yX2_playAgain (Cond.code yX2_playAgain cX2_playAgain 4 (some .int) :: LT) ({ frames := 0, cells := 0, slots := 0, locals := 0 } : Room) D X ad M [.inr (.inl (8, o0)), .inl a1] t 0 0 post px := by
  refine met_of_wp (by decide +kernel) (Nat.le_of_ble_eq_true rfl) ?_
  intro p e s m args below meth c A hx hb hml hts hown hK hnt hlocks hr hA hE
  have hR9 : Ready p l e ({ frames := 0, cells := 0, slots := 0, locals := 0 } : Room) s m args below meth c D X ad A M 4 cX2_playAgain 0 0 post px RX2 1 (fldOf F_X2) N_X2_playAgain (Q_X2_playAgain M) (tabOf T_X2_playAgain) H_X2_playAgain := by
    refine ⟨hx, hb, hts, hown, hK, hnt, hlocks, hr, F_X2_ok, ?_, fun pc en h => tabOf_ok T_X2_playAgain_ok h, ?_⟩
    · intro v9 ix n mc1 ms1 as t k hn hl h
      unfold N_X2_playAgain at hn
      cases hn
    · intro pc E hE9; cases hE9
  have W41 : ∀ (a2 : Int32) (t : TT), B_X2_playAgain_41 M (fun r t1 => post (some (.inl r)) t1) px a2 t → Wat p l e ({ frames := 0, cells := 0, slots := 0, locals := 0 } : Room) s m args below meth c (QM below args s D X ad A M 0 0 post px) D X ad A M 4 41 [(2, .inl a2)] [] t 0 0 := by
    intro a2 t h
    refine wp_go hR9 (cs := S_X2_playAgain) (Bk := (fun _ _ _ _ => False)) ?_ 400 41 _ _ _ _ _ h
    intro pc q vs ws t hc hk
    exact hk.elim
  have W12 : ∀ (n : Nat) (o0 : Nat) (a1 : Int32) (a2 : Int32) (a3 : Int32) (t : TT), L_X2_playAgain_12 M (fun r t1 => post (some (.inl r)) t1) px n o0 a1 a2 a3 t → Wat p l e ({ frames := 0, cells := 0, slots := 0, locals := 0 } : Room) s m args below meth c (QM below args s D X ad A M 0 0 post px) D X ad A M 4 12 [(0, .inr (.inl (8, o0))), (1, .inl a1), (2, .inl a2), (3, .inl a3)] [] t 0 0 := by
    intro n
    induction n with
    | zero =>
      intro o0 a1 a2 a3 t h
      exact h.elim
    | succ n ih =>
      intro o0 a1 a2 a3 t h
      refine wp_go hR9 (cs := S_X2_playAgain) (Bk := (fun pc vs ws t => match pc with | 12 => (match vs, ws with | [.inr (.inl (8, o0)), .inl a1, .inl a2, .inl a3], [] => L_X2_playAgain_12 M (fun r t1 => post (some (.inl r)) t1) px n o0 a1 a2 a3 t | _, _ => False) | 41 => (match vs, ws with | [.inl a2], [] => B_X2_playAgain_41 M (fun r t1 => post (some (.inl r)) t1) px a2 t | _, _ => False) | _ => False)) ?_ 400 12 _ _ _ _ _ h
      intro pc q vs ws t hc hk
      split at hk
      · cases hc
        split at hk
        · exact ih _ _ _ _ _ hk
        · exact hk.elim
      · cases hc
        split at hk
        · exact W41 _ _ hk
        · exact hk.elim
      · exact hk.elim
  refine wp_go hR9 (cs := S_X2_playAgain) (Bk := (fun pc vs ws t => match pc with | 12 => (match vs, ws with | [.inr (.inl (8, o0)), .inl a1, .inl a2, .inl a3], [] => ∃ n9, L_X2_playAgain_12 M (fun r t1 => post (some (.inl r)) t1) px n9 o0 a1 a2 a3 t | _, _ => False) | _ => False)) ?_ 400 0 _ _ _ _ _ h
  intro pc q vs ws t hc hk
  split at hk
  · cases hc
    split at hk
    · obtain ⟨n9, hk⟩ := hk
      exact W12 n9 _ _ _ _ _ hk
    · exact hk.elim
  · exact hk.elim
theorem k_X2_playAgain (hx : p.tables.exec = Jvm.exec) (hb : c.code = b) (hml : c.maxLocals = nL) (hts : ∀ w ∈ LT, w.before args s = true) {own : String} (hown : s.vm.findClass own = some m.cls) (hK : va_K D vwCl (TYX X) s) (hA : ∀ q, s.heap.size ≤ q → A q) (hE : EX A s) (hst9 : l.stackTraces = false) {ix : Nat} (hl9 : Cond.methodLink own ix yX2_playAgain ∈ LT) (hR : 1 ≤ R.frames ∧ 23 ≤ R.locals) (hmc : R.cells = mc) (hms : R.slots = ms) (h : PC_X2_playAgain M as t k kx) : CallOK p l e R s m args below meth c Q D X ad A M nL b mc ms (.invokevirtual ix) 0 0 as t k kx := by
  unfold PC_X2_playAgain at h
  split at h
  · exact call_V hx hb hml hts hown hK hA hE (c_X2_playAgain hst9 _ _ t h.2) ⟨hl9, ws_X2_playAgain.1, ws_X2_playAgain.2.1, ws_X2_playAgain.2.2.1, ws_X2_playAgain.2.2.2⟩ (n := 1) (by decide +kernel) hR rfl rfl hmc hms rfl ⟨8, _, rfl, h.1, Or.inr (Or.inr (Or.inr (Or.inr rfl))), rfl⟩
  · exact CallOK.congr (by simp only [List.map_cons]; congr 1; exact (if_neg h.1).symm) (call_V hx hb hml hts hown hK hA hE (c_X2_playAgain hst9 _ _ t h.2.2) ⟨hl9, ws_X2_playAgain.1, ws_X2_playAgain.2.1, ws_X2_playAgain.2.2.1, ws_X2_playAgain.2.2.2⟩ (n := 1) (by decide +kernel) hR rfl rfl hmc hms rfl ⟨8, _, rfl, h.2.1, Or.inr (Or.inr (Or.inr (Or.inr rfl))), rfl⟩)
  · exact h.elim
def Q_X2_openDoors (M : Nat → Nat → Bool) (ix : Nat) (as : List VV) (t : TT) (k : Option VV → TT → Prop) (kx : String → TT → Prop) : Prop := match ix with
  | 82 => PC_mmax as t k
  | _ => False
def N_X2_openDoors (v : Bool) (ix : Nat) : Option (Nat × Nat × Nat) := match v, ix with
  | false, 82 => some (2, 0, 0)
  | _, _ => none
def S_X2_openDoors (pc : Nat) : Option (List (Nat × Nat × Nat) × List (Nat × Nat) × Nat × Nat) := match pc with
  | 19 => some ([(0, 1, 8), (1, 0, 0)], [(0, 0)], 0, 0)
  | _ => none
def H_X2_openDoors (pc : Nat) : Option String := none
set_option maxRecDepth 100000 in
set_option maxHeartbeats 4000000 in
theorem c_X2_openDoors {l : Launch} (hst9 : l.stackTraces = false) {D : va_G} {X : Nat → ClassId} {ad : Nat → Nat → Nat} {M : Nat → Nat → Bool} {post : Option VV → TT → Prop} {px : String → TT → Prop} (o0 : Nat) (a1 : Int32) (t : TT) (h : P_X2_openDoors M (fun t1 => post none t1) px o0 a1 t) : CT l yX2_openDoors (Cond.code yX2_openDoors cX2_openDoors 3 none :: LT) ({ frames := 1, cells := 0, slots := 0, locals := 21 } : Room) D X ad M [.inr (.inl (8, o0)), .inl a1] t 0 0 post px := by
  refine met_of_wp (by decide +kernel) (Nat.le_of_ble_eq_true rfl) ?_
  intro p e s m args below meth c A hx hb hml hts hown hK hnt hlocks hr hA hE
  have hR9 : Ready p l e ({ frames := 1, cells := 0, slots := 0, locals := 21 } : Room) s m args below meth c D X ad A M 3 cX2_openDoors 0 0 post px RX2 0 (fldOf F_X2) N_X2_openDoors (Q_X2_openDoors M) (tabOf T_X2_openDoors) H_X2_openDoors := by
    refine ⟨hx, hb, hts, hown, hK, hnt, hlocks, hr, F_X2_ok, ?_, fun pc en h => tabOf_ok T_X2_openDoors_ok h, ?_⟩
    · intro v9 ix n mc1 ms1 as t k hn hl h
      unfold N_X2_openDoors at hn
      split at hn
      · cases hn
        exact k_mmax hx hb hml hts hown (by decide +kernel) ⟨Nat.le_of_ble_eq_true rfl, Nat.le_of_ble_eq_true rfl⟩ rfl rfl h
      · cases hn
    · intro pc E hE9; cases hE9
  have W19 : ∀ (o0 : Nat) (a1 : Int32) (s0 : Int32) (t : TT), B_X2_openDoors_19 M (fun t1 => post none t1) px o0 a1 s0 t → Wat p l e ({ frames := 1, cells := 0, slots := 0, locals := 21 } : Room) s m args below meth c (QM below args s D X ad A M 0 0 post px) D X ad A M 3 19 [(0, .inr (.inl (8, o0))), (1, .inl a1)] [.inl s0] t 0 0 := by
    intro o0 a1 s0 t h
    refine wp_go hR9 (cs := S_X2_openDoors) (Bk := (fun _ _ _ _ => False)) ?_ 400 19 _ _ _ _ _ h
    intro pc q vs ws t hc hk
    exact hk.elim
  refine wp_go hR9 (cs := S_X2_openDoors) (Bk := (fun pc vs ws t => match pc with | 19 => (match vs, ws with | [.inr (.inl (8, o0)), .inl a1], [.inl s0] => B_X2_openDoors_19 M (fun t1 => post none t1) px o0 a1 s0 t | _, _ => False) | _ => False)) ?_ 400 0 _ _ _ _ _ h
  intro pc q vs ws t hc hk
  split at hk
  · cases hc
    split at hk
    · exact W19 _ _ _ _ hk
    · exact hk.elim
  · exact hk.elim
theorem k_X2_openDoors (hx : p.tables.exec = Jvm.exec) (hb : c.code = b) (hml : c.maxLocals = nL) (hts : ∀ w ∈ LT, w.before args s = true) {own : String} (hown : s.vm.findClass own = some m.cls) (hK : va_K D vwCl (TYX X) s) (hA : ∀ q, s.heap.size ≤ q → A q) (hE : EX A s) (hst9 : l.stackTraces = false) {ix : Nat} (hl9 : Cond.methodLink own ix yX2_openDoors ∈ LT) (hR : 2 ≤ R.frames ∧ 43 ≤ R.locals) (hmc : R.cells = mc) (hms : R.slots = ms) (h : PC_X2_openDoors M as t k kx) : CallOK p l e R s m args below meth c Q D X ad A M nL b mc ms (.invokevirtual ix) 0 0 as t k kx := by
  unfold PC_X2_openDoors at h
  split at h
  · exact call_V hx hb hml hts hown hK hA hE (c_X2_openDoors hst9 _ _ t h.2) ⟨hl9, ws_X2_openDoors.1, ws_X2_openDoors.2.1, ws_X2_openDoors.2.2.1, ws_X2_openDoors.2.2.2⟩ (n := 1) (by decide +kernel) hR rfl rfl hmc hms rfl ⟨8, _, rfl, h.1, Or.inr (Or.inr (Or.inr (Or.inr rfl))), rfl⟩
  · exact CallOK.congr (by simp only [List.map_cons]; congr 1; exact (if_neg h.1).symm) (call_V hx hb hml hts hown hK hA hE (c_X2_openDoors hst9 _ _ t h.2.2) ⟨hl9, ws_X2_openDoors.1, ws_X2_openDoors.2.1, ws_X2_openDoors.2.2.1, ws_X2_openDoors.2.2.2⟩ (n := 1) (by decide +kernel) hR rfl rfl hmc hms rfl ⟨8, _, rfl, h.2.1, Or.inr (Or.inr (Or.inr (Or.inr rfl))), rfl⟩)
  · exact h.elim
def Q_X2_takePeople (M : Nat → Nat → Bool) (ix : Nat) (as : List VV) (t : TT) (k : Option VV → TT → Prop) (kx : String → TT → Prop) : Prop := match ix with
  | 91 => PC_mmin as t k
  | 101 => PC_bitc as t k
  | 79 => PC_X2_hasOpenDoors M as t k kx
  | _ => False
def N_X2_takePeople (v : Bool) (ix : Nat) : Option (Nat × Nat × Nat) := match v, ix with
  | false, 91 => some (2, 0, 0)
  | false, 101 => some (1, 0, 0)
  | true, 79 => some (1, 0, 0)
  | _, _ => none
def S_X2_takePeople (pc : Nat) : Option (List (Nat × Nat × Nat) × List (Nat × Nat) × Nat × Nat) := match pc with
  | 69 => some ([], [], 0, 0)
  | _ => none
def H_X2_takePeople (pc : Nat) : Option String := none
set_option maxRecDepth 100000 in
set_option maxHeartbeats 4000000 in
theorem c_X2_takePeople {l : Launch} (hst9 : l.stackTraces = false) {D : va_G} {X : Nat → ClassId} {ad : Nat → Nat → Nat} {M : Nat → Nat → Bool} {post : Option VV → TT → Prop} {px : String → TT → Prop} (o0 : Nat) (t : TT) (h : P_X2_takePeople M (fun t1 => post none t1) px o0 t) : CT l yX2_takePeople (Cond.code yX2_takePeople cX2_takePeople 3 none :: LT) ({ frames := 1, cells := 0, slots := 0, locals := 21 } : Room) D X ad M [.inr (.inl (8, o0))] t 0 0 post px := by
  refine met_of_wp (by decide +kernel) (Nat.le_of_ble_eq_true rfl) ?_
  intro p e s m args below meth c A hx hb hml hts hown hK hnt hlocks hr hA hE
  have hR9 : Ready p l e ({ frames := 1, cells := 0, slots := 0, locals := 21 } : Room) s m args below meth c D X ad A M 3 cX2_takePeople 0 0 post px RX2 0 (fldOf F_X2) N_X2_takePeople (Q_X2_takePeople M) (tabOf T_X2_takePeople) H_X2_takePeople := by
    refine ⟨hx, hb, hts, hown, hK, hnt, hlocks, hr, F_X2_ok, ?_, fun pc en h => tabOf_ok T_X2_takePeople_ok h, ?_⟩
    · intro v9 ix n mc1 ms1 as t k hn hl h
      unfold N_X2_takePeople at hn
      split at hn
      · cases hn
        exact k_mmin hx hb hml hts hown (by decide +kernel) ⟨Nat.le_of_ble_eq_true rfl, Nat.le_of_ble_eq_true rfl⟩ rfl rfl h
      · cases hn
        exact k_bitc hx hb hml hts hown hK hA hE hst9 (by decide +kernel) ⟨Nat.le_of_ble_eq_true rfl, Nat.le_of_ble_eq_true rfl⟩ rfl rfl h
      · cases hn
        exact k_X2_hasOpenDoors hx hb hml hts hown hK hA hE hst9 (by decide +kernel) ⟨Nat.le_of_ble_eq_true rfl, Nat.le_of_ble_eq_true rfl⟩ rfl rfl h
      · cases hn
    · intro pc E hE9; cases hE9
  have W69 : ∀ (t : TT), B_X2_takePeople_69 M (fun t1 => post none t1) px t → Wat p l e ({ frames := 1, cells := 0, slots := 0, locals := 21 } : Room) s m args below meth c (QM below args s D X ad A M 0 0 post px) D X ad A M 3 69 [] [] t 0 0 := by
    intro t h
    refine wp_go hR9 (cs := S_X2_takePeople) (Bk := (fun _ _ _ _ => False)) ?_ 400 69 _ _ _ _ _ h
    intro pc q vs ws t hc hk
    exact hk.elim
  refine wp_go hR9 (cs := S_X2_takePeople) (Bk := (fun pc vs ws t => match pc with | 69 => (match vs, ws with | [], [] => B_X2_takePeople_69 M (fun t1 => post none t1) px t | _, _ => False) | _ => False)) ?_ 400 0 _ _ _ _ _ h
  intro pc q vs ws t hc hk
  split at hk
  · cases hc
    split at hk
    · exact W69 _ hk
    · exact hk.elim
  · exact hk.elim
theorem k_X2_takePeople (hx : p.tables.exec = Jvm.exec) (hb : c.code = b) (hml : c.maxLocals = nL) (hts : ∀ w ∈ LT, w.before args s = true) {own : String} (hown : s.vm.findClass own = some m.cls) (hK : va_K D vwCl (TYX X) s) (hA : ∀ q, s.heap.size ≤ q → A q) (hE : EX A s) (hst9 : l.stackTraces = false) {ix : Nat} (hl9 : Cond.methodLink own ix yX2_takePeople ∈ LT) (hR : 2 ≤ R.frames ∧ 43 ≤ R.locals) (hmc : R.cells = mc) (hms : R.slots = ms) (h : PC_X2_takePeople M as t k kx) : CallOK p l e R s m args below meth c Q D X ad A M nL b mc ms (.invokevirtual ix) 0 0 as t k kx := by
  unfold PC_X2_takePeople at h
  split at h
  · exact call_V hx hb hml hts hown hK hA hE (c_X2_takePeople hst9 _ t h.2) ⟨hl9, ws_X2_takePeople.1, ws_X2_takePeople.2.1, ws_X2_takePeople.2.2.1, ws_X2_takePeople.2.2.2⟩ (n := 0) (by decide +kernel) hR rfl rfl hmc hms rfl ⟨8, _, rfl, h.1, Or.inr (Or.inr (Or.inr (Or.inr rfl))), rfl⟩
  · exact CallOK.congr (by simp only [List.map_cons]; congr 1; exact (if_neg h.1).symm) (call_V hx hb hml hts hown hK hA hE (c_X2_takePeople hst9 _ t h.2.2) ⟨hl9, ws_X2_takePeople.1, ws_X2_takePeople.2.1, ws_X2_takePeople.2.2.1, ws_X2_takePeople.2.2.2⟩ (n := 0) (by decide +kernel) hR rfl rfl hmc hms rfl ⟨8, _, rfl, h.2.1, Or.inr (Or.inr (Or.inr (Or.inr rfl))), rfl⟩)
  · exact h.elim
end K

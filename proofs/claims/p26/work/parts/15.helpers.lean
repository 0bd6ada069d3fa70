/-! printed (wip/p26/gen26.py): contracts -/
section K
variable {p : Program} {l : Launch} {e : Env} {R : Room} {s : State} {m : MethodId} {args : Array Value} {below : List Frame} {meth : Method} {c : Code} {Q : State → Prop} {D : va_G} {X : Nat → ClassId} {ad : Nat → Nat → Nat} {A : Nat → Prop} {M : Nat → Nat → Bool} {nL : Nat} {b : ByteArray} {mc ms : Nat} {k : Option VV → TT → Prop} {kx : String → TT → Prop} {t : TT} {as : List VV}
def Q_L_way (M : Nat → Nat → Bool) (ix : Nat) (as : List VV) (t : TT) (k : Option VV → TT → Prop) (kx : String → TT → Prop) : Prop := False
def N_L_way (v : Bool) (ix : Nat) : Option (Nat × Nat × Nat) := none
def S_L_way (pc : Nat) : Option (List (Nat × Nat × Nat) × List (Nat × Nat) × Nat × Nat) := none
def H_L_way (pc : Nat) : Option String := none
set_option maxRecDepth 100000 in
set_option maxHeartbeats 4000000 in
theorem c_L_way {l : Launch} (hst9 : l.stackTraces = false) {D : va_G} {X : Nat → ClassId} {ad : Nat → Nat → Nat} {M : Nat → Nat → Bool} {post : Option VV → TT → Prop} {px : String → TT → Prop} (a0 : Int32) (t : TT) (h : P_L_way M (fun r t1 => post (some (.inl r)) t1) px a0 t) : CT l yL_way (Cond.code yL_way cL_way 1 (some .int) :: LT) ({ frames := 0, cells := 0, slots := 0, locals := 0 } : Room) D X ad M [.inl a0] t 0 0 post px := by
  refine met_of_wp (by decide +kernel) (Nat.le_of_ble_eq_true rfl) ?_
  intro p e s m args below meth c A hx hb hml hts hown hK hnt hlocks hr hA hE
  have hR9 : Ready p l e ({ frames := 0, cells := 0, slots := 0, locals := 0 } : Room) s m args below meth c D X ad A M 1 cL_way 0 0 post px RL 1 (fldOf F_L) N_L_way (Q_L_way M) (tabOf T_L_way) H_L_way := by
    refine ⟨hx, hb, hts, hown, hK, hnt, hlocks, hr, F_L_ok, ?_, fun pc en h => tabOf_ok T_L_way_ok h, ?_⟩
    · intro v9 ix n mc1 ms1 as t k hn hl h
      unfold N_L_way at hn
      cases hn
    · intro pc E hE9; cases hE9
  refine wp_go hR9 (cs := S_L_way) (Bk := (fun _ _ _ _ => False)) ?_ 400 0 _ _ _ _ _ h
  intro pc q vs ws t hc hk
  exact hk.elim
theorem k_L_way (hx : p.tables.exec = Jvm.exec) (hb : c.code = b) (hml : c.maxLocals = nL) (hts : ∀ w ∈ LT, w.before args s = true) {own : String} (hown : s.vm.findClass own = some m.cls) (hK : va_K D vwCl (TYX X) s) (hA : ∀ q, s.heap.size ≤ q → A q) (hE : EX A s) (hst9 : l.stackTraces = false) {ix : Nat} (hl9 : Cond.methodLink own ix yL_way ∈ LT) (hR : 1 ≤ R.frames ∧ 20 ≤ R.locals) (hmc : R.cells = mc) (hms : R.slots = ms) (h : PC_L_way M as t k kx) : CallOK p l e R s m args below meth c Q D X ad A M nL b mc ms (.invokestatic ix) 0 0 as t k kx := by
  unfold PC_L_way at h
  split at h
  · exact call_S hx hb hml hts hown hK hA hE (c_L_way hst9 _ t h) ⟨hl9, ws_L_way.1, ws_L_way.2.1, ws_L_way.2.2⟩ (n := 1) (by decide +kernel) hR rfl rfl hmc hms rfl
  · exact h.elim
def Q_L_isAt (M : Nat → Nat → Bool) (ix : Nat) (as : List VV) (t : TT) (k : Option VV → TT → Prop) (kx : String → TT → Prop) : Prop := match ix with
  | 9 => PC_X4_trainIs M as t k kx
  | 15 => PC_X4_platformIs M as t k kx
  | _ => False
def N_L_isAt (v : Bool) (ix : Nat) : Option (Nat × Nat × Nat) := match v, ix with
  | true, 9 => some (3, 0, 0)
  | true, 15 => some (3, 0, 0)
  | _, _ => none
def S_L_isAt (pc : Nat) : Option (List (Nat × Nat × Nat) × List (Nat × Nat) × Nat × Nat) := match pc with
  | 59 => some ([], [(0, 0)], 0, 0)
  | 58 => some ([], [], 0, 0)
  | _ => none
def H_L_isAt (pc : Nat) : Option String := none
set_option maxRecDepth 100000 in
set_option maxHeartbeats 4000000 in
theorem c_L_isAt {l : Launch} (hst9 : l.stackTraces = false) {D : va_G} {X : Nat → ClassId} {ad : Nat → Nat → Nat} {M : Nat → Nat → Bool} {post : Option VV → TT → Prop} {px : String → TT → Prop} (o0 : Nat) (a1 : Int32) (t : TT) (h : P_L_isAt M (fun r t1 => post (some (.inl r)) t1) px o0 a1 t) : CT l yL_isAt (Cond.code yL_isAt cL_isAt 4 (some .boolean) :: LT) ({ frames := 2, cells := 0, slots := 0, locals := 44 } : Room) D X ad M [.inr (.inl (0, o0)), .inl a1] t 0 0 post px := by
  refine met_of_wp (by decide +kernel) (Nat.le_of_ble_eq_true rfl) ?_
  intro p e s m args below meth c A hx hb hml hts hown hK hnt hlocks hr hA hE
  have hR9 : Ready p l e ({ frames := 2, cells := 0, slots := 0, locals := 44 } : Room) s m args below meth c D X ad A M 4 cL_isAt 0 0 post px RL 2 (fldOf F_L) N_L_isAt (Q_L_isAt M) (tabOf T_L_isAt) H_L_isAt := by
    refine ⟨hx, hb, hts, hown, hK, hnt, hlocks, hr, F_L_ok, ?_, fun pc en h => tabOf_ok T_L_isAt_ok h, ?_⟩
    · intro v9 ix n mc1 ms1 as t k hn hl h
      unfold N_L_isAt at hn
      split at hn
      · cases hn
        exact k_X4_trainIs hx hb hml hts hown hK hA hE hst9 (by decide +kernel) ⟨Nat.le_of_ble_eq_true rfl, Nat.le_of_ble_eq_true rfl⟩ rfl rfl h
      · cases hn
        exact k_X4_platformIs hx hb hml hts hown hK hA hE hst9 (by decide +kernel) ⟨Nat.le_of_ble_eq_true rfl, Nat.le_of_ble_eq_true rfl⟩ rfl rfl h
      · cases hn
    · intro pc E hE9; cases hE9
  have W59 : ∀ (s0 : Int32) (t : TT), B_L_isAt_59 M (fun r t1 => post (some (.inl r)) t1) px s0 t → Wat p l e ({ frames := 2, cells := 0, slots := 0, locals := 44 } : Room) s m args below meth c (QM below args s D X ad A M 0 0 post px) D X ad A M 4 59 [] [.inl s0] t 0 0 := by
    intro s0 t h
    refine wp_go hR9 (cs := S_L_isAt) (Bk := (fun _ _ _ _ => False)) ?_ 400 59 _ _ _ _ _ h
    intro pc q vs ws t hc hk
    exact hk.elim
  have W58 : ∀ (t : TT), B_L_isAt_58 M (fun r t1 => post (some (.inl r)) t1) px t → Wat p l e ({ frames := 2, cells := 0, slots := 0, locals := 44 } : Room) s m args below meth c (QM below args s D X ad A M 0 0 post px) D X ad A M 4 58 [] [] t 0 0 := by
    intro t h
    refine wp_go hR9 (cs := S_L_isAt) (Bk := (fun pc vs ws t => match pc with | 59 => (match vs, ws with | [], [.inl s0] => B_L_isAt_59 M (fun r t1 => post (some (.inl r)) t1) px s0 t | _, _ => False) | _ => False)) ?_ 400 58 _ _ _ _ _ h
    intro pc q vs ws t hc hk
    split at hk
    · cases hc
      split at hk
      · exact W59 _ _ hk
      · exact hk.elim
    · exact hk.elim
  refine wp_go hR9 (cs := S_L_isAt) (Bk := (fun pc vs ws t => match pc with | 58 => (match vs, ws with | [], [] => B_L_isAt_58 M (fun r t1 => post (some (.inl r)) t1) px t | _, _ => False) | 59 => (match vs, ws with | [], [.inl s0] => B_L_isAt_59 M (fun r t1 => post (some (.inl r)) t1) px s0 t | _, _ => False) | _ => False)) ?_ 400 0 _ _ _ _ _ h
  intro pc q vs ws t hc hk
  split at hk
  · cases hc
    split at hk
    · exact W58 _ hk
    · exact hk.elim
  · cases hc
    split at hk
    · exact W59 _ _ hk
    · exact hk.elim
  · exact hk.elim
theorem k_L_isAt (hx : p.tables.exec = Jvm.exec) (hb : c.code = b) (hml : c.maxLocals = nL) (hts : ∀ w ∈ LT, w.before args s = true) {own : String} (hown : s.vm.findClass own = some m.cls) (hK : va_K D vwCl (TYX X) s) (hA : ∀ q, s.heap.size ≤ q → A q) (hE : EX A s) (hst9 : l.stackTraces = false) {ix : Nat} (hl9 : Cond.methodLink own ix yL_isAt ∈ LT) (hR : 3 ≤ R.frames ∧ 67 ≤ R.locals) (hmc : R.cells = mc) (hms : R.slots = ms) (h : PC_L_isAt M as t k kx) : CallOK p l e R s m args below meth c Q D X ad A M nL b mc ms (.invokestatic ix) 0 0 as t k kx := by
  unfold PC_L_isAt at h
  split at h
  · exact call_S hx hb hml hts hown hK hA hE (c_L_isAt hst9 _ _ t h) ⟨hl9, ws_L_isAt.1, ws_L_isAt.2.1, ws_L_isAt.2.2⟩ (n := 2) (by decide +kernel) hR rfl rfl hmc hms rfl
  · exact h.elim
def Q_L_mayStop (M : Nat → Nat → Bool) (ix : Nat) (as : List VV) (t : TT) (k : Option VV → TT → Prop) (kx : String → TT → Prop) : Prop := match ix with
  | 18 => PC_L_way M as t k kx
  | 9 => PC_X4_trainIs M as t k kx
  | 15 => PC_X4_platformIs M as t k kx
  | _ => False
def N_L_mayStop (v : Bool) (ix : Nat) : Option (Nat × Nat × Nat) := match v, ix with
  | false, 18 => some (1, 0, 0)
  | true, 9 => some (3, 0, 0)
  | true, 15 => some (3, 0, 0)
  | _, _ => none
def S_L_mayStop (pc : Nat) : Option (List (Nat × Nat × Nat) × List (Nat × Nat) × Nat × Nat) := match pc with
  | 53 => some ([], [(0, 0)], 0, 0)
  | 52 => some ([], [], 0, 0)
  | _ => none
def H_L_mayStop (pc : Nat) : Option String := none
set_option maxRecDepth 100000 in
set_option maxHeartbeats 4000000 in
theorem c_L_mayStop {l : Launch} (hst9 : l.stackTraces = false) {D : va_G} {X : Nat → ClassId} {ad : Nat → Nat → Nat} {M : Nat → Nat → Bool} {post : Option VV → TT → Prop} {px : String → TT → Prop} (o0 : Nat) (a1 : Int32) (a2 : Int32) (t : TT) (h : P_L_mayStop M (fun r t1 => post (some (.inl r)) t1) px o0 a1 a2 t) : CT l yL_mayStop (Cond.code yL_mayStop cL_mayStop 3 (some .boolean) :: LT) ({ frames := 2, cells := 0, slots := 0, locals := 44 } : Room) D X ad M [.inr (.inl (0, o0)), .inl a1, .inl a2] t 0 0 post px := by
  refine met_of_wp (by decide +kernel) (Nat.le_of_ble_eq_true rfl) ?_
  intro p e s m args below meth c A hx hb hml hts hown hK hnt hlocks hr hA hE
  have hR9 : Ready p l e ({ frames := 2, cells := 0, slots := 0, locals := 44 } : Room) s m args below meth c D X ad A M 3 cL_mayStop 0 0 post px RL 2 (fldOf F_L) N_L_mayStop (Q_L_mayStop M) (tabOf T_L_mayStop) H_L_mayStop := by
    refine ⟨hx, hb, hts, hown, hK, hnt, hlocks, hr, F_L_ok, ?_, fun pc en h => tabOf_ok T_L_mayStop_ok h, ?_⟩
    · intro v9 ix n mc1 ms1 as t k hn hl h
      unfold N_L_mayStop at hn
      split at hn
      · cases hn
        exact k_L_way hx hb hml hts hown hK hA hE hst9 (by decide +kernel) ⟨Nat.le_of_ble_eq_true rfl, Nat.le_of_ble_eq_true rfl⟩ rfl rfl h
      · cases hn
        exact k_X4_trainIs hx hb hml hts hown hK hA hE hst9 (by decide +kernel) ⟨Nat.le_of_ble_eq_true rfl, Nat.le_of_ble_eq_true rfl⟩ rfl rfl h
      · cases hn
        exact k_X4_platformIs hx hb hml hts hown hK hA hE hst9 (by decide +kernel) ⟨Nat.le_of_ble_eq_true rfl, Nat.le_of_ble_eq_true rfl⟩ rfl rfl h
      · cases hn
    · intro pc E hE9; cases hE9
  have W53 : ∀ (s0 : Int32) (t : TT), B_L_mayStop_53 M (fun r t1 => post (some (.inl r)) t1) px s0 t → Wat p l e ({ frames := 2, cells := 0, slots := 0, locals := 44 } : Room) s m args below meth c (QM below args s D X ad A M 0 0 post px) D X ad A M 3 53 [] [.inl s0] t 0 0 := by
    intro s0 t h
    refine wp_go hR9 (cs := S_L_mayStop) (Bk := (fun _ _ _ _ => False)) ?_ 400 53 _ _ _ _ _ h
    intro pc q vs ws t hc hk
    exact hk.elim
  have W52 : ∀ (t : TT), B_L_mayStop_52 M (fun r t1 => post (some (.inl r)) t1) px t → Wat p l e ({ frames := 2, cells := 0, slots := 0, locals := 44 } : Room) s m args below meth c (QM below args s D X ad A M 0 0 post px) D X ad A M 3 52 [] [] t 0 0 := by
    intro t h
    refine wp_go hR9 (cs := S_L_mayStop) (Bk := (fun pc vs ws t => match pc with | 53 => (match vs, ws with | [], [.inl s0] => B_L_mayStop_53 M (fun r t1 => post (some (.inl r)) t1) px s0 t | _, _ => False) | _ => False)) ?_ 400 52 _ _ _ _ _ h
    intro pc q vs ws t hc hk
    split at hk
    · cases hc
      split at hk
      · exact W53 _ _ hk
      · exact hk.elim
    · exact hk.elim
  refine wp_go hR9 (cs := S_L_mayStop) (Bk := (fun pc vs ws t => match pc with | 52 => (match vs, ws with | [], [] => B_L_mayStop_52 M (fun r t1 => post (some (.inl r)) t1) px t | _, _ => False) | 53 => (match vs, ws with | [], [.inl s0] => B_L_mayStop_53 M (fun r t1 => post (some (.inl r)) t1) px s0 t | _, _ => False) | _ => False)) ?_ 400 0 _ _ _ _ _ h
  intro pc q vs ws t hc hk
  split at hk
  · cases hc
    split at hk
    · exact W52 _ hk
    · exact hk.elim
  · cases hc
    split at hk
    · exact W53 _ _ hk
    · exact hk.elim
  · exact hk.elim
theorem k_L_mayStop (hx : p.tables.exec = Jvm.exec) (hb : c.code = b) (hml : c.maxLocals = nL) (hts : ∀ w ∈ LT, w.before args s = true) {own : String} (hown : s.vm.findClass own = some m.cls) (hK : va_K D vwCl (TYX X) s) (hA : ∀ q, s.heap.size ≤ q → A q) (hE : EX A s) (hst9 : l.stackTraces = false) {ix : Nat} (hl9 : Cond.methodLink own ix yL_mayStop ∈ LT) (hR : 3 ≤ R.frames ∧ 66 ≤ R.locals) (hmc : R.cells = mc) (hms : R.slots = ms) (h : PC_L_mayStop M as t k kx) : CallOK p l e R s m args below meth c Q D X ad A M nL b mc ms (.invokestatic ix) 0 0 as t k kx := by
  unfold PC_L_mayStop at h
  split at h
  · exact call_S hx hb hml hts hown hK hA hE (c_L_mayStop hst9 _ _ _ t h) ⟨hl9, ws_L_mayStop.1, ws_L_mayStop.2.1, ws_L_mayStop.2.2⟩ (n := 3) (by decide +kernel) hR rfl rfl hmc hms rfl
  · exact h.elim
def Q_L_mayClose (M : Nat → Nat → Bool) (ix : Nat) (as : List VV) (t : TT) (k : Option VV → TT → Prop) (kx : String → TT → Prop) : Prop := match ix with
  | 18 => PC_L_way M as t k kx
  | 9 => PC_X4_trainIs M as t k kx
  | _ => False
def N_L_mayClose (v : Bool) (ix : Nat) : Option (Nat × Nat × Nat) := match v, ix with
  | false, 18 => some (1, 0, 0)
  | true, 9 => some (3, 0, 0)
  | _, _ => none
def S_L_mayClose (pc : Nat) : Option (List (Nat × Nat × Nat) × List (Nat × Nat) × Nat × Nat) := match pc with
  | 104 => some ([(0, 1, 0), (1, 0, 0), (2, 0, 0), (4, 0, 0)], [(0, 0)], 0, 0)
  | 103 => some ([(0, 1, 0), (1, 0, 0), (2, 0, 0), (4, 0, 0)], [], 0, 0)
  | 99 => some ([(0, 1, 0), (1, 0, 0), (2, 0, 0), (4, 0, 0)], [], 0, 0)
  | 76 => some ([(0, 1, 0), (1, 0, 0), (2, 0, 0), (3, 0, 0), (4, 0, 0), (5, 0, 0), (6, 0, 0)], [(0, 0)], 0, 0)
  | 39 => some ([(0, 1, 0), (1, 0, 0), (2, 0, 0), (3, 0, 0), (4, 0, 0), (5, 0, 0)], [(0, 0)], 0, 0)
  | 5 => some ([(0, 1, 0), (1, 0, 0), (2, 0, 0), (3, 0, 0), (4, 0, 0)], [], 0, 0)
  | _ => none
def H_L_mayClose (pc : Nat) : Option String := none
set_option maxRecDepth 100000 in
set_option maxHeartbeats 4000000 in
theorem c_L_mayClose {l : Launch} (hst9 : l.stackTraces = false) {D : va_G} {X : Nat → ClassId} {ad : Nat → Nat → Nat} {M : Nat → Nat → Bool} {post : Option VV → TT → Prop} {px : String → TT → Prop} (o0 : Nat) (a1 : Int32) (a2 : Int32) (t : TT) (h : P_L_mayClose M (fun r t1 => post (some (.inl r)) t1) px o0 a1 a2 t) : CT l yL_mayClose (Cond.code yL_mayClose cL_mayClose 8 (some .boolean) :: LT) ({ frames := 2, cells := 0, slots := 0, locals := 44 } : Room) D X ad M [.inr (.inl (0, o0)), .inl a1, .inl a2] t 0 0 post px := by
  refine met_of_wp (by decide +kernel) (Nat.le_of_ble_eq_true rfl) ?_
  intro p e s m args below meth c A hx hb hml hts hown hK hnt hlocks hr hA hE
  have hR9 : Ready p l e ({ frames := 2, cells := 0, slots := 0, locals := 44 } : Room) s m args below meth c D X ad A M 8 cL_mayClose 0 0 post px RL 2 (fldOf F_L) N_L_mayClose (Q_L_mayClose M) (tabOf T_L_mayClose) H_L_mayClose := by
    refine ⟨hx, hb, hts, hown, hK, hnt, hlocks, hr, F_L_ok, ?_, fun pc en h => tabOf_ok T_L_mayClose_ok h, ?_⟩
    · intro v9 ix n mc1 ms1 as t k hn hl h
      unfold N_L_mayClose at hn
      split at hn
      · cases hn
        exact k_L_way hx hb hml hts hown hK hA hE hst9 (by decide +kernel) ⟨Nat.le_of_ble_eq_true rfl, Nat.le_of_ble_eq_true rfl⟩ rfl rfl h
      · cases hn
        exact k_X4_trainIs hx hb hml hts hown hK hA hE hst9 (by decide +kernel) ⟨Nat.le_of_ble_eq_true rfl, Nat.le_of_ble_eq_true rfl⟩ rfl rfl h
      · cases hn
    · intro pc E hE9; cases hE9
  have W104 : ∀ (k5 : Nat → Int32 → Int32 → Int32 → Int32 → TT → Prop) (hk5 : ∀ (o0 : Nat) (a1 : Int32) (a2 : Int32) (a3 : Int32) (a4 : Int32) (t : TT), k5 o0 a1 a2 a3 a4 t → Wat p l e ({ frames := 2, cells := 0, slots := 0, locals := 44 } : Room) s m args below meth c (QM below args s D X ad A M 0 0 post px) D X ad A M 8 5 [(0, .inr (.inl (0, o0))), (1, .inl a1), (2, .inl a2), (3, .inl a3), (4, .inl a4)] [] t 0 0) (o0 : Nat) (a1 : Int32) (a2 : Int32) (a4 : Int32) (s0 : Int32) (t : TT), B_L_mayClose_104 M (fun r t1 => post (some (.inl r)) t1) px k5 o0 a1 a2 a4 s0 t → Wat p l e ({ frames := 2, cells := 0, slots := 0, locals := 44 } : Room) s m args below meth c (QM below args s D X ad A M 0 0 post px) D X ad A M 8 104 [(0, .inr (.inl (0, o0))), (1, .inl a1), (2, .inl a2), (4, .inl a4)] [.inl s0] t 0 0 := by
    intro k5 hk5 o0 a1 a2 a4 s0 t h
    refine wp_go hR9 (cs := S_L_mayClose) (Bk := (fun pc vs ws t => match pc with | 5 => (match vs, ws with | [.inr (.inl (0, o0)), .inl a1, .inl a2, .inl a3, .inl a4], [] => k5 o0 a1 a2 a3 a4 t | _, _ => False) | _ => False)) ?_ 400 104 _ _ _ _ _ h
    intro pc q vs ws t hc hk
    split at hk
    · cases hc
      split at hk
      · exact hk5 _ _ _ _ _ _ hk
      · exact hk.elim
    · exact hk.elim
  have W103 : ∀ (k5 : Nat → Int32 → Int32 → Int32 → Int32 → TT → Prop) (hk5 : ∀ (o0 : Nat) (a1 : Int32) (a2 : Int32) (a3 : Int32) (a4 : Int32) (t : TT), k5 o0 a1 a2 a3 a4 t → Wat p l e ({ frames := 2, cells := 0, slots := 0, locals := 44 } : Room) s m args below meth c (QM below args s D X ad A M 0 0 post px) D X ad A M 8 5 [(0, .inr (.inl (0, o0))), (1, .inl a1), (2, .inl a2), (3, .inl a3), (4, .inl a4)] [] t 0 0) (o0 : Nat) (a1 : Int32) (a2 : Int32) (a4 : Int32) (t : TT), B_L_mayClose_103 M (fun r t1 => post (some (.inl r)) t1) px k5 o0 a1 a2 a4 t → Wat p l e ({ frames := 2, cells := 0, slots := 0, locals := 44 } : Room) s m args below meth c (QM below args s D X ad A M 0 0 post px) D X ad A M 8 103 [(0, .inr (.inl (0, o0))), (1, .inl a1), (2, .inl a2), (4, .inl a4)] [] t 0 0 := by
    intro k5 hk5 o0 a1 a2 a4 t h
    refine wp_go hR9 (cs := S_L_mayClose) (Bk := (fun pc vs ws t => match pc with | 104 => (match vs, ws with | [.inr (.inl (0, o0)), .inl a1, .inl a2, .inl a4], [.inl s0] => B_L_mayClose_104 M (fun r t1 => post (some (.inl r)) t1) px k5 o0 a1 a2 a4 s0 t | _, _ => False) | _ => False)) ?_ 400 103 _ _ _ _ _ h
    intro pc q vs ws t hc hk
    split at hk
    · cases hc
      split at hk
      · exact W104 _ hk5 _ _ _ _ _ _ hk
      · exact hk.elim
    · exact hk.elim
  have W99 : ∀ (k5 : Nat → Int32 → Int32 → Int32 → Int32 → TT → Prop) (hk5 : ∀ (o0 : Nat) (a1 : Int32) (a2 : Int32) (a3 : Int32) (a4 : Int32) (t : TT), k5 o0 a1 a2 a3 a4 t → Wat p l e ({ frames := 2, cells := 0, slots := 0, locals := 44 } : Room) s m args below meth c (QM below args s D X ad A M 0 0 post px) D X ad A M 8 5 [(0, .inr (.inl (0, o0))), (1, .inl a1), (2, .inl a2), (3, .inl a3), (4, .inl a4)] [] t 0 0) (o0 : Nat) (a1 : Int32) (a2 : Int32) (a4 : Int32) (t : TT), B_L_mayClose_99 M (fun r t1 => post (some (.inl r)) t1) px k5 o0 a1 a2 a4 t → Wat p l e ({ frames := 2, cells := 0, slots := 0, locals := 44 } : Room) s m args below meth c (QM below args s D X ad A M 0 0 post px) D X ad A M 8 99 [(0, .inr (.inl (0, o0))), (1, .inl a1), (2, .inl a2), (4, .inl a4)] [] t 0 0 := by
    intro k5 hk5 o0 a1 a2 a4 t h
    refine wp_go hR9 (cs := S_L_mayClose) (Bk := (fun pc vs ws t => match pc with | 104 => (match vs, ws with | [.inr (.inl (0, o0)), .inl a1, .inl a2, .inl a4], [.inl s0] => B_L_mayClose_104 M (fun r t1 => post (some (.inl r)) t1) px k5 o0 a1 a2 a4 s0 t | _, _ => False) | _ => False)) ?_ 400 99 _ _ _ _ _ h
    intro pc q vs ws t hc hk
    split at hk
    · cases hc
      split at hk
      · exact W104 _ hk5 _ _ _ _ _ _ hk
      · exact hk.elim
    · exact hk.elim
  have W76 : ∀ (k5 : Nat → Int32 → Int32 → Int32 → Int32 → TT → Prop) (hk5 : ∀ (o0 : Nat) (a1 : Int32) (a2 : Int32) (a3 : Int32) (a4 : Int32) (t : TT), k5 o0 a1 a2 a3 a4 t → Wat p l e ({ frames := 2, cells := 0, slots := 0, locals := 44 } : Room) s m args below meth c (QM below args s D X ad A M 0 0 post px) D X ad A M 8 5 [(0, .inr (.inl (0, o0))), (1, .inl a1), (2, .inl a2), (3, .inl a3), (4, .inl a4)] [] t 0 0) (o0 : Nat) (a1 : Int32) (a2 : Int32) (a3 : Int32) (a4 : Int32) (a5 : Int32) (a6 : Int32) (s0 : Int32) (t : TT), B_L_mayClose_76 M (fun r t1 => post (some (.inl r)) t1) px k5 o0 a1 a2 a3 a4 a5 a6 s0 t → Wat p l e ({ frames := 2, cells := 0, slots := 0, locals := 44 } : Room) s m args below meth c (QM below args s D X ad A M 0 0 post px) D X ad A M 8 76 [(0, .inr (.inl (0, o0))), (1, .inl a1), (2, .inl a2), (3, .inl a3), (4, .inl a4), (5, .inl a5), (6, .inl a6)] [.inl s0] t 0 0 := by
    intro k5 hk5 o0 a1 a2 a3 a4 a5 a6 s0 t h
    refine wp_go hR9 (cs := S_L_mayClose) (Bk := (fun pc vs ws t => match pc with | 99 => (match vs, ws with | [.inr (.inl (0, o0)), .inl a1, .inl a2, .inl a4], [] => B_L_mayClose_99 M (fun r t1 => post (some (.inl r)) t1) px k5 o0 a1 a2 a4 t | _, _ => False) | 103 => (match vs, ws with | [.inr (.inl (0, o0)), .inl a1, .inl a2, .inl a4], [] => B_L_mayClose_103 M (fun r t1 => post (some (.inl r)) t1) px k5 o0 a1 a2 a4 t | _, _ => False) | _ => False)) ?_ 400 76 _ _ _ _ _ h
    intro pc q vs ws t hc hk
    split at hk
    · cases hc
      split at hk
      · exact W99 _ hk5 _ _ _ _ _ hk
      · exact hk.elim
    · cases hc
      split at hk
      · exact W103 _ hk5 _ _ _ _ _ hk
      · exact hk.elim
    · exact hk.elim
  have W39 : ∀ (k5 : Nat → Int32 → Int32 → Int32 → Int32 → TT → Prop) (hk5 : ∀ (o0 : Nat) (a1 : Int32) (a2 : Int32) (a3 : Int32) (a4 : Int32) (t : TT), k5 o0 a1 a2 a3 a4 t → Wat p l e ({ frames := 2, cells := 0, slots := 0, locals := 44 } : Room) s m args below meth c (QM below args s D X ad A M 0 0 post px) D X ad A M 8 5 [(0, .inr (.inl (0, o0))), (1, .inl a1), (2, .inl a2), (3, .inl a3), (4, .inl a4)] [] t 0 0) (o0 : Nat) (a1 : Int32) (a2 : Int32) (a3 : Int32) (a4 : Int32) (a5 : Int32) (s0 : Int32) (t : TT), B_L_mayClose_39 M (fun r t1 => post (some (.inl r)) t1) px k5 o0 a1 a2 a3 a4 a5 s0 t → Wat p l e ({ frames := 2, cells := 0, slots := 0, locals := 44 } : Room) s m args below meth c (QM below args s D X ad A M 0 0 post px) D X ad A M 8 39 [(0, .inr (.inl (0, o0))), (1, .inl a1), (2, .inl a2), (3, .inl a3), (4, .inl a4), (5, .inl a5)] [.inl s0] t 0 0 := by
    intro k5 hk5 o0 a1 a2 a3 a4 a5 s0 t h
    refine wp_go hR9 (cs := S_L_mayClose) (Bk := (fun pc vs ws t => match pc with | 76 => (match vs, ws with | [.inr (.inl (0, o0)), .inl a1, .inl a2, .inl a3, .inl a4, .inl a5, .inl a6], [.inl s0] => B_L_mayClose_76 M (fun r t1 => post (some (.inl r)) t1) px k5 o0 a1 a2 a3 a4 a5 a6 s0 t | _, _ => False) | _ => False)) ?_ 400 39 _ _ _ _ _ h
    intro pc q vs ws t hc hk
    split at hk
    · cases hc
      split at hk
      · exact W76 _ hk5 _ _ _ _ _ _ _ _ _ hk
      · exact hk.elim
    · exact hk.elim
  have W5 : ∀ (n : Nat) (o0 : Nat) (a1 : Int32) (a2 : Int32) (a3 : Int32) (a4 : Int32) (t : TT), L_L_mayClose_5 M (fun r t1 => post (some (.inl r)) t1) px n o0 a1 a2 a3 a4 t → Wat p l e ({ frames := 2, cells := 0, slots := 0, locals := 44 } : Room) s m args below meth c (QM below args s D X ad A M 0 0 post px) D X ad A M 8 5 [(0, .inr (.inl (0, o0))), (1, .inl a1), (2, .inl a2), (3, .inl a3), (4, .inl a4)] [] t 0 0 := by
    intro n
    induction n with
    | zero =>
      intro o0 a1 a2 a3 a4 t h
      exact h.elim
    | succ n ih =>
      intro o0 a1 a2 a3 a4 t h
      refine wp_go hR9 (cs := S_L_mayClose) (Bk := (fun pc vs ws t => match pc with | 39 => (match vs, ws with | [.inr (.inl (0, o0)), .inl a1, .inl a2, .inl a3, .inl a4, .inl a5], [.inl s0] => B_L_mayClose_39 M (fun r t1 => post (some (.inl r)) t1) px (L_L_mayClose_5 M (fun r t1 => post (some (.inl r)) t1) px n) o0 a1 a2 a3 a4 a5 s0 t | _, _ => False) | _ => False)) ?_ 400 5 _ _ _ _ _ h
      intro pc q vs ws t hc hk
      split at hk
      · cases hc
        split at hk
        · exact W39 _ ih _ _ _ _ _ _ _ _ hk
        · exact hk.elim
      · exact hk.elim
  refine wp_go hR9 (cs := S_L_mayClose) (Bk := (fun pc vs ws t => match pc with | 5 => (match vs, ws with | [.inr (.inl (0, o0)), .inl a1, .inl a2, .inl a3, .inl a4], [] => ∃ n9, L_L_mayClose_5 M (fun r t1 => post (some (.inl r)) t1) px n9 o0 a1 a2 a3 a4 t | _, _ => False) | _ => False)) ?_ 400 0 _ _ _ _ _ h
  intro pc q vs ws t hc hk
  split at hk
  · cases hc
    split at hk
    · obtain ⟨n9, hk⟩ := hk
      exact W5 n9 _ _ _ _ _ _ hk
    · exact hk.elim
  · exact hk.elim
theorem k_L_mayClose (hx : p.tables.exec = Jvm.exec) (hb : c.code = b) (hml : c.maxLocals = nL) (hts : ∀ w ∈ LT, w.before args s = true) {own : String} (hown : s.vm.findClass own = some m.cls) (hK : va_K D vwCl (TYX X) s) (hA : ∀ q, s.heap.size ≤ q → A q) (hE : EX A s) (hst9 : l.stackTraces = false) {ix : Nat} (hl9 : Cond.methodLink own ix yL_mayClose ∈ LT) (hR : 3 ≤ R.frames ∧ 71 ≤ R.locals) (hmc : R.cells = mc) (hms : R.slots = ms) (h : PC_L_mayClose M as t k kx) : CallOK p l e R s m args below meth c Q D X ad A M nL b mc ms (.invokestatic ix) 0 0 as t k kx := by
  unfold PC_L_mayClose at h
  split at h
  · exact call_S hx hb hml hts hown hK hA hE (c_L_mayClose hst9 _ _ _ t h) ⟨hl9, ws_L_mayClose.1, ws_L_mayClose.2.1, ws_L_mayClose.2.2⟩ (n := 3) (by decide +kernel) hR rfl rfl hmc hms rfl
  · exact h.elim
def Q_L_isSafe (M : Nat → Nat → Bool) (ix : Nat) (as : List VV) (t : TT) (k : Option VV → TT → Prop) (kx : String → TT → Prop) : Prop := match ix with
  | 9 => PC_X4_trainIs M as t k kx
  | 24 => PC_X4_isSafe M as t k kx
  | 28 => PC_X4_placeAnew M as t k kx
  | _ => False
def N_L_isSafe (v : Bool) (ix : Nat) : Option (Nat × Nat × Nat) := match v, ix with
  | true, 9 => some (3, 0, 0)
  | true, 24 => some (1, 0, 0)
  | true, 28 => some (2, 0, 0)
  | _, _ => none
def S_L_isSafe (pc : Nat) : Option (List (Nat × Nat × Nat) × List (Nat × Nat) × Nat × Nat) := match pc with
  | 137 => some ([(0, 1, 0), (2, 0, 0), (4, 0, 0), (5, 0, 0), (6, 0, 0)], [(0, 0)], 0, 0)
  | 136 => some ([(0, 1, 0), (2, 0, 0), (4, 0, 0), (5, 0, 0), (6, 0, 0)], [], 0, 0)
  | 132 => some ([(0, 1, 0), (2, 0, 0), (4, 0, 0), (5, 0, 0), (6, 0, 0)], [], 0, 0)
  | 92 => some ([(0, 1, 0), (1, 0, 0), (2, 0, 0), (4, 0, 0), (5, 0, 0), (6, 0, 0)], [], 0, 0)
  | 88 => some ([(0, 1, 0), (2, 0, 0), (4, 0, 0), (5, 0, 0)], [(0, 0)], 0, 0)
  | 87 => some ([(0, 1, 0), (2, 0, 0), (4, 0, 0), (5, 0, 0)], [], 0, 0)
  | 7 => some ([(0, 1, 0), (1, 0, 0), (2, 0, 0)], [], 0, 0)
  | _ => none
def H_L_isSafe (pc : Nat) : Option String := none
set_option maxRecDepth 100000 in
set_option maxHeartbeats 4000000 in
theorem c_L_isSafe {l : Launch} (hst9 : l.stackTraces = false) {D : va_G} {X : Nat → ClassId} {ad : Nat → Nat → Nat} {M : Nat → Nat → Bool} {post : Option VV → TT → Prop} {px : String → TT → Prop} (o0 : Nat) (t : TT) (h : P_L_isSafe M (fun r t1 => post (some (.inl r)) t1) px o0 t) : CT l yL_isSafe (Cond.code yL_isSafe cL_isSafe 7 (some .boolean) :: LT) ({ frames := 2, cells := 0, slots := 0, locals := 44 } : Room) D X ad M [.inr (.inl (0, o0))] t 0 0 post px := by
  refine met_of_wp (by decide +kernel) (Nat.le_of_ble_eq_true rfl) ?_
  intro p e s m args below meth c A hx hb hml hts hown hK hnt hlocks hr hA hE
  have hR9 : Ready p l e ({ frames := 2, cells := 0, slots := 0, locals := 44 } : Room) s m args below meth c D X ad A M 7 cL_isSafe 0 0 post px RL 2 (fldOf F_L) N_L_isSafe (Q_L_isSafe M) (tabOf T_L_isSafe) H_L_isSafe := by
    refine ⟨hx, hb, hts, hown, hK, hnt, hlocks, hr, F_L_ok, ?_, fun pc en h => tabOf_ok T_L_isSafe_ok h, ?_⟩
    · intro v9 ix n mc1 ms1 as t k hn hl h
      unfold N_L_isSafe at hn
      split at hn
      · cases hn
        exact k_X4_trainIs hx hb hml hts hown hK hA hE hst9 (by decide +kernel) ⟨Nat.le_of_ble_eq_true rfl, Nat.le_of_ble_eq_true rfl⟩ rfl rfl h
      · cases hn
        exact k_X4_isSafe hx hb hml hts hown hK hA hE hst9 (by decide +kernel) ⟨Nat.le_of_ble_eq_true rfl, Nat.le_of_ble_eq_true rfl⟩ rfl rfl h
      · cases hn
        exact k_X4_placeAnew hx hb hml hts hown hK hA hE hst9 (by decide +kernel) ⟨Nat.le_of_ble_eq_true rfl, Nat.le_of_ble_eq_true rfl⟩ rfl rfl h
      · cases hn
    · intro pc E hE9; cases hE9
  have W137 : ∀ (k7 : Nat → Int32 → Int32 → TT → Prop) (hk7 : ∀ (o0 : Nat) (a1 : Int32) (a2 : Int32) (t : TT), k7 o0 a1 a2 t → Wat p l e ({ frames := 2, cells := 0, slots := 0, locals := 44 } : Room) s m args below meth c (QM below args s D X ad A M 0 0 post px) D X ad A M 7 7 [(0, .inr (.inl (0, o0))), (1, .inl a1), (2, .inl a2)] [] t 0 0) (k92 : Nat → Int32 → Int32 → Int32 → Int32 → Int32 → TT → Prop) (hk92 : ∀ (o0 : Nat) (a1 : Int32) (a2 : Int32) (a4 : Int32) (a5 : Int32) (a6 : Int32) (t : TT), k92 o0 a1 a2 a4 a5 a6 t → Wat p l e ({ frames := 2, cells := 0, slots := 0, locals := 44 } : Room) s m args below meth c (QM below args s D X ad A M 0 0 post px) D X ad A M 7 92 [(0, .inr (.inl (0, o0))), (1, .inl a1), (2, .inl a2), (4, .inl a4), (5, .inl a5), (6, .inl a6)] [] t 0 0) (o0 : Nat) (a2 : Int32) (a4 : Int32) (a5 : Int32) (a6 : Int32) (s0 : Int32) (t : TT), B_L_isSafe_137 M (fun r t1 => post (some (.inl r)) t1) px k7 k92 o0 a2 a4 a5 a6 s0 t → Wat p l e ({ frames := 2, cells := 0, slots := 0, locals := 44 } : Room) s m args below meth c (QM below args s D X ad A M 0 0 post px) D X ad A M 7 137 [(0, .inr (.inl (0, o0))), (2, .inl a2), (4, .inl a4), (5, .inl a5), (6, .inl a6)] [.inl s0] t 0 0 := by
    intro k7 hk7 k92 hk92 o0 a2 a4 a5 a6 s0 t h
    refine wp_go hR9 (cs := S_L_isSafe) (Bk := (fun pc vs ws t => match pc with | 92 => (match vs, ws with | [.inr (.inl (0, o0)), .inl a1, .inl a2, .inl a4, .inl a5, .inl a6], [] => k92 o0 a1 a2 a4 a5 a6 t | _, _ => False) | _ => False)) ?_ 400 137 _ _ _ _ _ h
    intro pc q vs ws t hc hk
    split at hk
    · cases hc
      split at hk
      · exact hk92 _ _ _ _ _ _ _ hk
      · exact hk.elim
    · exact hk.elim
  have W136 : ∀ (k7 : Nat → Int32 → Int32 → TT → Prop) (hk7 : ∀ (o0 : Nat) (a1 : Int32) (a2 : Int32) (t : TT), k7 o0 a1 a2 t → Wat p l e ({ frames := 2, cells := 0, slots := 0, locals := 44 } : Room) s m args below meth c (QM below args s D X ad A M 0 0 post px) D X ad A M 7 7 [(0, .inr (.inl (0, o0))), (1, .inl a1), (2, .inl a2)] [] t 0 0) (k92 : Nat → Int32 → Int32 → Int32 → Int32 → Int32 → TT → Prop) (hk92 : ∀ (o0 : Nat) (a1 : Int32) (a2 : Int32) (a4 : Int32) (a5 : Int32) (a6 : Int32) (t : TT), k92 o0 a1 a2 a4 a5 a6 t → Wat p l e ({ frames := 2, cells := 0, slots := 0, locals := 44 } : Room) s m args below meth c (QM below args s D X ad A M 0 0 post px) D X ad A M 7 92 [(0, .inr (.inl (0, o0))), (1, .inl a1), (2, .inl a2), (4, .inl a4), (5, .inl a5), (6, .inl a6)] [] t 0 0) (o0 : Nat) (a2 : Int32) (a4 : Int32) (a5 : Int32) (a6 : Int32) (t : TT), B_L_isSafe_136 M (fun r t1 => post (some (.inl r)) t1) px k7 k92 o0 a2 a4 a5 a6 t → Wat p l e ({ frames := 2, cells := 0, slots := 0, locals := 44 } : Room) s m args below meth c (QM below args s D X ad A M 0 0 post px) D X ad A M 7 136 [(0, .inr (.inl (0, o0))), (2, .inl a2), (4, .inl a4), (5, .inl a5), (6, .inl a6)] [] t 0 0 := by
    intro k7 hk7 k92 hk92 o0 a2 a4 a5 a6 t h
    refine wp_go hR9 (cs := S_L_isSafe) (Bk := (fun pc vs ws t => match pc with | 137 => (match vs, ws with | [.inr (.inl (0, o0)), .inl a2, .inl a4, .inl a5, .inl a6], [.inl s0] => B_L_isSafe_137 M (fun r t1 => post (some (.inl r)) t1) px k7 k92 o0 a2 a4 a5 a6 s0 t | _, _ => False) | _ => False)) ?_ 400 136 _ _ _ _ _ h
    intro pc q vs ws t hc hk
    split at hk
    · cases hc
      split at hk
      · exact W137 _ hk7 _ hk92 _ _ _ _ _ _ _ hk
      · exact hk.elim
    · exact hk.elim
  have W132 : ∀ (k7 : Nat → Int32 → Int32 → TT → Prop) (hk7 : ∀ (o0 : Nat) (a1 : Int32) (a2 : Int32) (t : TT), k7 o0 a1 a2 t → Wat p l e ({ frames := 2, cells := 0, slots := 0, locals := 44 } : Room) s m args below meth c (QM below args s D X ad A M 0 0 post px) D X ad A M 7 7 [(0, .inr (.inl (0, o0))), (1, .inl a1), (2, .inl a2)] [] t 0 0) (k92 : Nat → Int32 → Int32 → Int32 → Int32 → Int32 → TT → Prop) (hk92 : ∀ (o0 : Nat) (a1 : Int32) (a2 : Int32) (a4 : Int32) (a5 : Int32) (a6 : Int32) (t : TT), k92 o0 a1 a2 a4 a5 a6 t → Wat p l e ({ frames := 2, cells := 0, slots := 0, locals := 44 } : Room) s m args below meth c (QM below args s D X ad A M 0 0 post px) D X ad A M 7 92 [(0, .inr (.inl (0, o0))), (1, .inl a1), (2, .inl a2), (4, .inl a4), (5, .inl a5), (6, .inl a6)] [] t 0 0) (o0 : Nat) (a2 : Int32) (a4 : Int32) (a5 : Int32) (a6 : Int32) (t : TT), B_L_isSafe_132 M (fun r t1 => post (some (.inl r)) t1) px k7 k92 o0 a2 a4 a5 a6 t → Wat p l e ({ frames := 2, cells := 0, slots := 0, locals := 44 } : Room) s m args below meth c (QM below args s D X ad A M 0 0 post px) D X ad A M 7 132 [(0, .inr (.inl (0, o0))), (2, .inl a2), (4, .inl a4), (5, .inl a5), (6, .inl a6)] [] t 0 0 := by
    intro k7 hk7 k92 hk92 o0 a2 a4 a5 a6 t h
    refine wp_go hR9 (cs := S_L_isSafe) (Bk := (fun pc vs ws t => match pc with | 137 => (match vs, ws with | [.inr (.inl (0, o0)), .inl a2, .inl a4, .inl a5, .inl a6], [.inl s0] => B_L_isSafe_137 M (fun r t1 => post (some (.inl r)) t1) px k7 k92 o0 a2 a4 a5 a6 s0 t | _, _ => False) | _ => False)) ?_ 400 132 _ _ _ _ _ h
    intro pc q vs ws t hc hk
    split at hk
    · cases hc
      split at hk
      · exact W137 _ hk7 _ hk92 _ _ _ _ _ _ _ hk
      · exact hk.elim
    · exact hk.elim
  have W92 : ∀ (k7 : Nat → Int32 → Int32 → TT → Prop) (hk7 : ∀ (o0 : Nat) (a1 : Int32) (a2 : Int32) (t : TT), k7 o0 a1 a2 t → Wat p l e ({ frames := 2, cells := 0, slots := 0, locals := 44 } : Room) s m args below meth c (QM below args s D X ad A M 0 0 post px) D X ad A M 7 7 [(0, .inr (.inl (0, o0))), (1, .inl a1), (2, .inl a2)] [] t 0 0) (n : Nat) (o0 : Nat) (a1 : Int32) (a2 : Int32) (a4 : Int32) (a5 : Int32) (a6 : Int32) (t : TT), L_L_isSafe_92 M (fun r t1 => post (some (.inl r)) t1) px k7 n o0 a1 a2 a4 a5 a6 t → Wat p l e ({ frames := 2, cells := 0, slots := 0, locals := 44 } : Room) s m args below meth c (QM below args s D X ad A M 0 0 post px) D X ad A M 7 92 [(0, .inr (.inl (0, o0))), (1, .inl a1), (2, .inl a2), (4, .inl a4), (5, .inl a5), (6, .inl a6)] [] t 0 0 := by
    intro k7 hk7
    intro n
    induction n with
    | zero =>
      intro o0 a1 a2 a4 a5 a6 t h
      exact h.elim
    | succ n ih =>
      intro o0 a1 a2 a4 a5 a6 t h
      refine wp_go hR9 (cs := S_L_isSafe) (Bk := (fun pc vs ws t => match pc with | 7 => (match vs, ws with | [.inr (.inl (0, o0)), .inl a1, .inl a2], [] => k7 o0 a1 a2 t | _, _ => False) | 132 => (match vs, ws with | [.inr (.inl (0, o0)), .inl a2, .inl a4, .inl a5, .inl a6], [] => B_L_isSafe_132 M (fun r t1 => post (some (.inl r)) t1) px k7 (L_L_isSafe_92 M (fun r t1 => post (some (.inl r)) t1) px k7 n) o0 a2 a4 a5 a6 t | _, _ => False) | 136 => (match vs, ws with | [.inr (.inl (0, o0)), .inl a2, .inl a4, .inl a5, .inl a6], [] => B_L_isSafe_136 M (fun r t1 => post (some (.inl r)) t1) px k7 (L_L_isSafe_92 M (fun r t1 => post (some (.inl r)) t1) px k7 n) o0 a2 a4 a5 a6 t | _, _ => False) | _ => False)) ?_ 400 92 _ _ _ _ _ h
      intro pc q vs ws t hc hk
      split at hk
      · cases hc
        split at hk
        · exact hk7 _ _ _ _ hk
        · exact hk.elim
      · cases hc
        split at hk
        · exact W132 _ hk7 _ ih _ _ _ _ _ _ hk
        · exact hk.elim
      · cases hc
        split at hk
        · exact W136 _ hk7 _ ih _ _ _ _ _ _ hk
        · exact hk.elim
      · exact hk.elim
  have W88 : ∀ (k7 : Nat → Int32 → Int32 → TT → Prop) (hk7 : ∀ (o0 : Nat) (a1 : Int32) (a2 : Int32) (t : TT), k7 o0 a1 a2 t → Wat p l e ({ frames := 2, cells := 0, slots := 0, locals := 44 } : Room) s m args below meth c (QM below args s D X ad A M 0 0 post px) D X ad A M 7 7 [(0, .inr (.inl (0, o0))), (1, .inl a1), (2, .inl a2)] [] t 0 0) (o0 : Nat) (a2 : Int32) (a4 : Int32) (a5 : Int32) (s0 : Int32) (t : TT), B_L_isSafe_88 M (fun r t1 => post (some (.inl r)) t1) px k7 o0 a2 a4 a5 s0 t → Wat p l e ({ frames := 2, cells := 0, slots := 0, locals := 44 } : Room) s m args below meth c (QM below args s D X ad A M 0 0 post px) D X ad A M 7 88 [(0, .inr (.inl (0, o0))), (2, .inl a2), (4, .inl a4), (5, .inl a5)] [.inl s0] t 0 0 := by
    intro k7 hk7 o0 a2 a4 a5 s0 t h
    refine wp_go hR9 (cs := S_L_isSafe) (Bk := (fun pc vs ws t => match pc with | 92 => (match vs, ws with | [.inr (.inl (0, o0)), .inl a1, .inl a2, .inl a4, .inl a5, .inl a6], [] => ∃ n9, L_L_isSafe_92 M (fun r t1 => post (some (.inl r)) t1) px k7 n9 o0 a1 a2 a4 a5 a6 t | _, _ => False) | _ => False)) ?_ 400 88 _ _ _ _ _ h
    intro pc q vs ws t hc hk
    split at hk
    · cases hc
      split at hk
      · obtain ⟨n9, hk⟩ := hk
        exact W92 _ hk7 n9 _ _ _ _ _ _ _ hk
      · exact hk.elim
    · exact hk.elim
  have W87 : ∀ (k7 : Nat → Int32 → Int32 → TT → Prop) (hk7 : ∀ (o0 : Nat) (a1 : Int32) (a2 : Int32) (t : TT), k7 o0 a1 a2 t → Wat p l e ({ frames := 2, cells := 0, slots := 0, locals := 44 } : Room) s m args below meth c (QM below args s D X ad A M 0 0 post px) D X ad A M 7 7 [(0, .inr (.inl (0, o0))), (1, .inl a1), (2, .inl a2)] [] t 0 0) (o0 : Nat) (a2 : Int32) (a4 : Int32) (a5 : Int32) (t : TT), B_L_isSafe_87 M (fun r t1 => post (some (.inl r)) t1) px k7 o0 a2 a4 a5 t → Wat p l e ({ frames := 2, cells := 0, slots := 0, locals := 44 } : Room) s m args below meth c (QM below args s D X ad A M 0 0 post px) D X ad A M 7 87 [(0, .inr (.inl (0, o0))), (2, .inl a2), (4, .inl a4), (5, .inl a5)] [] t 0 0 := by
    intro k7 hk7 o0 a2 a4 a5 t h
    refine wp_go hR9 (cs := S_L_isSafe) (Bk := (fun pc vs ws t => match pc with | 88 => (match vs, ws with | [.inr (.inl (0, o0)), .inl a2, .inl a4, .inl a5], [.inl s0] => B_L_isSafe_88 M (fun r t1 => post (some (.inl r)) t1) px k7 o0 a2 a4 a5 s0 t | _, _ => False) | _ => False)) ?_ 400 87 _ _ _ _ _ h
    intro pc q vs ws t hc hk
    split at hk
    · cases hc
      split at hk
      · exact W88 _ hk7 _ _ _ _ _ _ hk
      · exact hk.elim
    · exact hk.elim
  have W7 : ∀ (n : Nat) (o0 : Nat) (a1 : Int32) (a2 : Int32) (t : TT), L_L_isSafe_7 M (fun r t1 => post (some (.inl r)) t1) px n o0 a1 a2 t → Wat p l e ({ frames := 2, cells := 0, slots := 0, locals := 44 } : Room) s m args below meth c (QM below args s D X ad A M 0 0 post px) D X ad A M 7 7 [(0, .inr (.inl (0, o0))), (1, .inl a1), (2, .inl a2)] [] t 0 0 := by
    intro n
    induction n with
    | zero =>
      intro o0 a1 a2 t h
      exact h.elim
    | succ n ih =>
      intro o0 a1 a2 t h
      refine wp_go hR9 (cs := S_L_isSafe) (Bk := (fun pc vs ws t => match pc with | 87 => (match vs, ws with | [.inr (.inl (0, o0)), .inl a2, .inl a4, .inl a5], [] => B_L_isSafe_87 M (fun r t1 => post (some (.inl r)) t1) px (L_L_isSafe_7 M (fun r t1 => post (some (.inl r)) t1) px n) o0 a2 a4 a5 t | _, _ => False) | 88 => (match vs, ws with | [.inr (.inl (0, o0)), .inl a2, .inl a4, .inl a5], [.inl s0] => B_L_isSafe_88 M (fun r t1 => post (some (.inl r)) t1) px (L_L_isSafe_7 M (fun r t1 => post (some (.inl r)) t1) px n) o0 a2 a4 a5 s0 t | _, _ => False) | _ => False)) ?_ 400 7 _ _ _ _ _ h
      intro pc q vs ws t hc hk
      split at hk
      · cases hc
        split at hk
        · exact W87 _ ih _ _ _ _ _ hk
        · exact hk.elim
      · cases hc
        split at hk
        · exact W88 _ ih _ _ _ _ _ _ hk
        · exact hk.elim
      · exact hk.elim
  refine wp_go hR9 (cs := S_L_isSafe) (Bk := (fun pc vs ws t => match pc with | 7 => (match vs, ws with | [.inr (.inl (0, o0)), .inl a1, .inl a2], [] => ∃ n9, L_L_isSafe_7 M (fun r t1 => post (some (.inl r)) t1) px n9 o0 a1 a2 t | _, _ => False) | _ => False)) ?_ 400 0 _ _ _ _ _ h
  intro pc q vs ws t hc hk
  split at hk
  · cases hc
    split at hk
    · obtain ⟨n9, hk⟩ := hk
      exact W7 n9 _ _ _ _ hk
    · exact hk.elim
  · exact hk.elim
theorem k_L_isSafe (hx : p.tables.exec = Jvm.exec) (hb : c.code = b) (hml : c.maxLocals = nL) (hts : ∀ w ∈ LT, w.before args s = true) {own : String} (hown : s.vm.findClass own = some m.cls) (hK : va_K D vwCl (TYX X) s) (hA : ∀ q, s.heap.size ≤ q → A q) (hE : EX A s) (hst9 : l.stackTraces = false) {ix : Nat} (hl9 : Cond.methodLink own ix yL_isSafe ∈ LT) (hR : 3 ≤ R.frames ∧ 70 ≤ R.locals) (hmc : R.cells = mc) (hms : R.slots = ms) (h : PC_L_isSafe M as t k kx) : CallOK p l e R s m args below meth c Q D X ad A M nL b mc ms (.invokestatic ix) 0 0 as t k kx := by
  unfold PC_L_isSafe at h
  split at h
  · exact call_S hx hb hml hts hown hK hA hE (c_L_isSafe hst9 _ t h) ⟨hl9, ws_L_isSafe.1, ws_L_isSafe.2.1, ws_L_isSafe.2.2⟩ (n := 1) (by decide +kernel) hR rfl rfl hmc hms rfl
  · exact h.elim
def Q_L_doors (M : Nat → Nat → Bool) (ix : Nat) (as : List VV) (t : TT) (k : Option VV → TT → Prop) (kx : String → TT → Prop) : Prop := match ix with
  | 35 => PC_L_isAt M as t k kx
  | 9 => PC_X4_trainIs M as t k kx
  | 31 => PC_X4_shut M as t k kx
  | 39 => PC_X4_depart M as t k kx
  | 42 => PC_X4_open M as t k kx
  | 45 => PC_X4_hold M as t k kx
  | _ => False
def N_L_doors (v : Bool) (ix : Nat) : Option (Nat × Nat × Nat) := match v, ix with
  | false, 35 => some (2, 0, 0)
  | true, 9 => some (3, 0, 0)
  | true, 31 => some (2, 0, 0)
  | true, 39 => some (2, 0, 0)
  | true, 42 => some (3, 0, 0)
  | true, 45 => some (3, 0, 0)
  | _, _ => none
def S_L_doors (pc : Nat) : Option (List (Nat × Nat × Nat) × List (Nat × Nat) × Nat × Nat) := match pc with
  | 92 => some ([], [], 0, 0)
  | 51 => some ([(0, 1, 0), (1, 0, 0), (2, 0, 0)], [], 0, 0)
  | _ => none
def H_L_doors (pc : Nat) : Option String := none
set_option maxRecDepth 100000 in
set_option maxHeartbeats 4000000 in
theorem c_L_doors {l : Launch} (hst9 : l.stackTraces = false) {D : va_G} {X : Nat → ClassId} {ad : Nat → Nat → Nat} {M : Nat → Nat → Bool} {post : Option VV → TT → Prop} {px : String → TT → Prop} (o0 : Nat) (a1 : Int32) (a2 : Int32) (t : TT) (h : P_L_doors M (fun t1 => post none t1) px o0 a1 a2 t) : CT l yL_doors (Cond.code yL_doors cL_doors 3 none :: LT) ({ frames := 3, cells := 0, slots := 0, locals := 67 } : Room) D X ad M [.inr (.inl (0, o0)), .inl a1, .inl a2] t 0 0 post px := by
  refine met_of_wp (by decide +kernel) (Nat.le_of_ble_eq_true rfl) ?_
  intro p e s m args below meth c A hx hb hml hts hown hK hnt hlocks hr hA hE
  have hR9 : Ready p l e ({ frames := 3, cells := 0, slots := 0, locals := 67 } : Room) s m args below meth c D X ad A M 3 cL_doors 0 0 post px RL 0 (fldOf F_L) N_L_doors (Q_L_doors M) (tabOf T_L_doors) H_L_doors := by
    refine ⟨hx, hb, hts, hown, hK, hnt, hlocks, hr, F_L_ok, ?_, fun pc en h => tabOf_ok T_L_doors_ok h, ?_⟩
    · intro v9 ix n mc1 ms1 as t k hn hl h
      unfold N_L_doors at hn
      split at hn
      · cases hn
        exact k_L_isAt hx hb hml hts hown hK hA hE hst9 (by decide +kernel) ⟨Nat.le_of_ble_eq_true rfl, Nat.le_of_ble_eq_true rfl⟩ rfl rfl h
      · cases hn
        exact k_X4_trainIs hx hb hml hts hown hK hA hE hst9 (by decide +kernel) ⟨Nat.le_of_ble_eq_true rfl, Nat.le_of_ble_eq_true rfl⟩ rfl rfl h
      · cases hn
        exact k_X4_shut hx hb hml hts hown hK hA hE hst9 (by decide +kernel) ⟨Nat.le_of_ble_eq_true rfl, Nat.le_of_ble_eq_true rfl⟩ rfl rfl h
      · cases hn
        exact k_X4_depart hx hb hml hts hown hK hA hE hst9 (by decide +kernel) ⟨Nat.le_of_ble_eq_true rfl, Nat.le_of_ble_eq_true rfl⟩ rfl rfl h
      · cases hn
        exact k_X4_open hx hb hml hts hown hK hA hE hst9 (by decide +kernel) ⟨Nat.le_of_ble_eq_true rfl, Nat.le_of_ble_eq_true rfl⟩ rfl rfl h
      · cases hn
        exact k_X4_hold hx hb hml hts hown hK hA hE hst9 (by decide +kernel) ⟨Nat.le_of_ble_eq_true rfl, Nat.le_of_ble_eq_true rfl⟩ rfl rfl h
      · cases hn
    · intro pc E hE9; cases hE9
  have W92 : ∀ (t : TT), B_L_doors_92 M (fun t1 => post none t1) px t → Wat p l e ({ frames := 3, cells := 0, slots := 0, locals := 67 } : Room) s m args below meth c (QM below args s D X ad A M 0 0 post px) D X ad A M 3 92 [] [] t 0 0 := by
    intro t h
    refine wp_go hR9 (cs := S_L_doors) (Bk := (fun _ _ _ _ => False)) ?_ 400 92 _ _ _ _ _ h
    intro pc q vs ws t hc hk
    exact hk.elim
  have W51 : ∀ (o0 : Nat) (a1 : Int32) (a2 : Int32) (t : TT), B_L_doors_51 M (fun t1 => post none t1) px o0 a1 a2 t → Wat p l e ({ frames := 3, cells := 0, slots := 0, locals := 67 } : Room) s m args below meth c (QM below args s D X ad A M 0 0 post px) D X ad A M 3 51 [(0, .inr (.inl (0, o0))), (1, .inl a1), (2, .inl a2)] [] t 0 0 := by
    intro o0 a1 a2 t h
    refine wp_go hR9 (cs := S_L_doors) (Bk := (fun pc vs ws t => match pc with | 92 => (match vs, ws with | [], [] => B_L_doors_92 M (fun t1 => post none t1) px t | _, _ => False) | _ => False)) ?_ 400 51 _ _ _ _ _ h
    intro pc q vs ws t hc hk
    split at hk
    · cases hc
      split at hk
      · exact W92 _ hk
      · exact hk.elim
    · exact hk.elim
  refine wp_go hR9 (cs := S_L_doors) (Bk := (fun pc vs ws t => match pc with | 51 => (match vs, ws with | [.inr (.inl (0, o0)), .inl a1, .inl a2], [] => B_L_doors_51 M (fun t1 => post none t1) px o0 a1 a2 t | _, _ => False) | 92 => (match vs, ws with | [], [] => B_L_doors_92 M (fun t1 => post none t1) px t | _, _ => False) | _ => False)) ?_ 400 0 _ _ _ _ _ h
  intro pc q vs ws t hc hk
  split at hk
  · cases hc
    split at hk
    · exact W51 _ _ _ _ hk
    · exact hk.elim
  · cases hc
    split at hk
    · exact W92 _ hk
    · exact hk.elim
  · exact hk.elim
theorem k_L_doors (hx : p.tables.exec = Jvm.exec) (hb : c.code = b) (hml : c.maxLocals = nL) (hts : ∀ w ∈ LT, w.before args s = true) {own : String} (hown : s.vm.findClass own = some m.cls) (hK : va_K D vwCl (TYX X) s) (hA : ∀ q, s.heap.size ≤ q → A q) (hE : EX A s) (hst9 : l.stackTraces = false) {ix : Nat} (hl9 : Cond.methodLink own ix yL_doors ∈ LT) (hR : 4 ≤ R.frames ∧ 89 ≤ R.locals) (hmc : R.cells = mc) (hms : R.slots = ms) (h : PC_L_doors M as t k kx) : CallOK p l e R s m args below meth c Q D X ad A M nL b mc ms (.invokestatic ix) 0 0 as t k kx := by
  unfold PC_L_doors at h
  split at h
  · exact call_S hx hb hml hts hown hK hA hE (c_L_doors hst9 _ _ _ t h) ⟨hl9, ws_L_doors.1, ws_L_doors.2.1, ws_L_doors.2.2⟩ (n := 3) (by decide +kernel) hR rfl rfl hmc hms rfl
  · exact h.elim
end K
